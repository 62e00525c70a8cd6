def mX12_moved : MRec := (RX12, cX12_moved, 6, (some .int), yX12_moved, 1, 22, 0, 0, 0)
def mX12_isLand : MRec := (RX12, cX12_isLand, 2, (some .boolean), yX12_isLand, 0, 0, 0, 0, 0)
def mX12_isNearSea : MRec := (RX12, cX12_isNearSea, 3, (some .boolean), yX12_isNearSea, 2, 44, 0, 0, 0)
def mX12_party : MRec := (RX12, cX12_party, 2, (some .int), yX12_party, 0, 0, 0, 0, 31082702275611665134711390509176302506278509425174514706949937019285843170715104182272)
def mX12_isParty : MRec := (RX12, cX12_isParty, 2, (some .boolean), yX12_isParty, 0, 0, 0, 0, 0)
def mX12_isPlace : MRec := (RX12, cX12_isPlace, 3, (some .boolean), yX12_isPlace, 0, 0, 0, 0, 0)
def mX12_isStation : MRec := (RX12, cX12_isStation, 2, (some .boolean), yX12_isStation, 1, 22, 0, 0, 0)
def mX12_stands : MRec := (RX12, cX12_stands, 2, (some .boolean), yX12_stands, 2, 43, 0, 0, 0)
def mX12_decidesOn : MRec := (RX12, cX12_decidesOn, 3, (some .boolean), yX12_decidesOn, 0, 0, 0, 0, 0)
def mX12_decides : MRec := (RX12, cX12_decides, 3, (some .int), yX12_decides, 1, 22, 0, 0, 0)
def mX12_place : MRec := (RX12, cX12_place, 6, (some .int), yX12_place, 0, 0, 0, 0, 7832840973454139613947270408312428231582184375058907114421149512994188827162264201068544)
def mX12_isRectangle : MRec := (RX12, cX12_isRectangle, 3, (some .boolean), yX12_isRectangle, 1, 21, 0, 0, 0)
def mX12_isIn : MRec := (RX12, cX12_isIn, 3, (some .boolean), yX12_isIn, 1, 22, 0, 0, 0)
def mX12_strikes : MRec := (RX12, cX12_strikes, 5, (none : Option Jvm.ClassFile.FieldType), yX12_strikes, 0, 0, 0, 0, 273406340597876490546562778389702670669146178861651554553221325801244124899921990402939147127881728)
def mX12_numberBy : MRec := (RX12, cX12_numberBy, 8, (some .int), yX12_numberBy, 0, 0, 0, 0, 0)
set_option maxHeartbeats 1000000 in
theorem t_X12_moved {K : Kmap} {V : Vmap} {x : Nat} {p0 : Int} {p1 : Int} {p2 : Int} (h_x : K x = some (0, 11)) (r_p0 : ir p0) (r_p1 : ir p1) (r_p2 : ir p2) (q_0 : p0 ≥ 0) (q_1 : p0 ≤ 143) (q_2 : p1 ≥ (-1)) (q_3 : p1 ≤ 1) (q_4 : p2 ≥ (-1)) (q_5 : p2 ≤ 1) : MC mX12_moved K V [.ref x, ti p0, ti p1, ti p2] (IP K V (fun X => (-1) ≤ X ∧ X ≤ 143)) := by
  refine MC.start 2 (by decide +kernel) rfl rfl rfl (ls0 := [some (.ref x), some (ti p0), some (ti p1), some (ti p2), none, none]) rfl ?_
  refine GO.iload_n dX12_moved_0 rfl rfl ?_
  refine GO.aload_n dX12_moved_1 rfl rfl ?_
  refine GO.getI h_x fl_RX12_365 rfl rfl dX12_moved_2 (fun l1 u2 => ?_)
  have q3 : -2147483648 ≤ p0 ∧ p0 ≤ 2147483647 := r_p0
  refine GO.iremP dX12_moved_5 r_p0 vi_ir (by omega) (by omega) ?_
  have m4 := rem_rng (a := p0) (b := vi V x 0) (by omega)
  refine GO.iload_n dX12_moved_6 rfl rfl ?_
  refine GO.iadd dX12_moved_7 ?_
  refine GO.name (fun z5 hz6 => ?_)
  refine GO.istore (ls1 := [some (.ref x), some (ti p0), some (ti p1), some (ti p2), some (ti z5), none]) dX12_moved_8 rfl rfl ?_
  refine GO.iload_n dX12_moved_10 rfl rfl ?_
  refine GO.aload_n dX12_moved_11 rfl rfl ?_
  refine GO.getI h_x fl_RX12_365 rfl rfl dX12_moved_12 (fun l7 u8 => ?_)
  have q9 : -2147483648 ≤ p1 ∧ p1 ≤ 2147483647 := r_p1
  refine GO.idivP dX12_moved_15 r_p0 vi_ir (by omega) (by omega) ?_
  have m10 := div_rng (a := p0) (b := vi V x 0) (by omega) (by omega)
  refine GO.iload_n dX12_moved_16 rfl rfl ?_
  refine GO.iadd dX12_moved_17 ?_
  refine GO.name (fun z11 hz12 => ?_)
  refine GO.istore (ls1 := [some (.ref x), some (ti p0), some (ti p1), some (ti p2), some (ti z5), some (ti z11)]) dX12_moved_18 rfl rfl ?_
  refine GO.iload dX12_moved_20 rfl ?_
  refine GO.iconst dX12_moved_22 ?_
  refine GO.aload_n dX12_moved_23 rfl rfl ?_
  refine GO.getI h_x fl_RX12_365 rfl rfl dX12_moved_24 (fun l13 u14 => ?_)
  refine GO.iconst dX12_moved_27 ?_
  refine GO.isub dX12_moved_28 ?_
  refine GO.callS (N := mX12_in) dX12_moved_29 gS_RX12_371 (t_X12_in ⟨by omega, by omega⟩ (ir_c rfl) ⟨by omega, by omega⟩) rfl [] rfl rfl (Nat.le_of_ble_eq_true rfl) rfl (k_ip fun X15 r16 h17 => ?_)
  refine GO.if_eq (tgt := 63) dX12_moved_32 (by decide) r16 (fun c18 => ?_) (fun c18 => ?_)
  ·
    have q19 := h17.2.2 (by omega)
    refine GO.iconst dX12_moved_63 ?_
    exact GO.reti rfl rfl dX12_moved_64 ⟨rfl, rfl, _, rfl, (ir_c rfl), ⟨by omega, by omega⟩⟩
  ·
    have q20 := h17.2.1 (by omega)
    refine GO.iload dX12_moved_35 rfl ?_
    refine GO.iconst dX12_moved_37 ?_
    refine GO.aload_n dX12_moved_38 rfl rfl ?_
    refine GO.getI h_x fl_RX12_368 rfl rfl dX12_moved_39 (fun l21 u22 => ?_)
    refine GO.iconst dX12_moved_42 ?_
    refine GO.isub dX12_moved_43 ?_
    have q23 : -2147483648 ≤ p2 ∧ p2 ≤ 2147483647 := r_p2
    refine GO.callS (N := mX12_in) dX12_moved_44 gS_RX12_371 (t_X12_in ⟨by omega, by omega⟩ (ir_c rfl) ⟨by omega, by omega⟩) rfl [] rfl rfl (Nat.le_of_ble_eq_true rfl) rfl (k_ip fun X24 r25 h26 => ?_)
    refine GO.if_eq (tgt := 63) dX12_moved_47 (by decide) r25 (fun c27 => ?_) (fun c27 => ?_)
    ·
      have q28 := h26.2.2 (by omega)
      refine GO.iconst dX12_moved_63 ?_
      exact GO.reti rfl rfl dX12_moved_64 ⟨rfl, rfl, _, rfl, (ir_c rfl), ⟨by omega, by omega⟩⟩
    ·
      have q29 := h26.2.1 (by omega)
      refine GO.aload_n dX12_moved_50 rfl rfl ?_
      refine GO.getI h_x fl_RX12_365 rfl rfl dX12_moved_51 (fun l30 u31 => ?_)
      refine GO.iload dX12_moved_54 rfl ?_
      refine GO.imul dX12_moved_56 ?_
      have m32 := mul_rng (a := vi V x 0) (b := z11) (A := 12) (B := 11) (by omega) (by omega) (by omega) (by omega)
      refine GO.iload dX12_moved_57 rfl ?_
      refine GO.iadd dX12_moved_59 ?_
      refine GO.goto (tgt := 64) dX12_moved_60 (by decide) ?_
      exact GO.reti rfl rfl dX12_moved_64 ⟨rfl, rfl, _, rfl, ⟨by omega, by omega⟩, ⟨by omega, by omega⟩⟩

set_option maxHeartbeats 1000000 in
theorem t_X12_isLand {K : Kmap} {V : Vmap} {x : Nat} {p0 : Int} (h_x : K x = some (0, 11)) (r_p0 : ir p0) (q_0 : p0 ≥ 0) (q_1 : p0 ≤ 143) : MC mX12_isLand K V [.ref x, ti p0] (IP K V (fun X => (X = 0 ∨ X = 1) ∧ (X ≠ 0 → True) ∧ (X = 0 → True))) := by
  refine MC.start 0 (by decide +kernel) rfl rfl rfl (ls0 := [some (.ref x), some (ti p0)]) rfl ?_
  refine GO.aload_n dX12_isLand_0 rfl rfl ?_
  refine GO.getA (n := 144) h_x fl_RX12_20 rfl rfl rfl rfl dX12_isLand_1 (fun hv2 h1 => ?_)
  refine GO.iload_n dX12_isLand_4 rfl rfl ?_
  have q3 : -2147483648 ≤ p0 ∧ p0 ≤ 2147483647 := r_p0
  refine GO.iald (t := 10) rfl rfl h1 r_p0 (by omega) (by omega) dX12_isLand_5 (fun l4 u5 => ?_)
  refine GO.iconst dX12_isLand_6 ?_
  refine GO.icmp_ge (tgt := 14) dX12_isLand_7 (by decide) vi_ir (ir_c rfl) (fun c6 => ?_) (fun c6 => ?_)
  ·
    refine GO.iconst dX12_isLand_14 ?_
    exact GO.retz rfl rfl dX12_isLand_15 (Or.inl rfl) ⟨rfl, rfl, _, rfl, (ir_c rfl), ⟨Or.inl rfl, fun _ => trivial, fun _ => trivial⟩⟩
  ·
    refine GO.iconst dX12_isLand_10 ?_
    refine GO.goto (tgt := 15) dX12_isLand_11 (by decide) ?_
    exact GO.retz rfl rfl dX12_isLand_15 (Or.inr rfl) ⟨rfl, rfl, _, rfl, (ir_c rfl), ⟨Or.inr rfl, fun _ => trivial, fun _ => trivial⟩⟩

set_option maxHeartbeats 1000000 in
theorem t_X12_isNearSea {K : Kmap} {V : Vmap} {x : Nat} {p0 : Int} (h_x : K x = some (0, 11)) (r_p0 : ir p0) (q_0 : p0 ≥ 0) (q_1 : p0 ≤ 143) : MC mX12_isNearSea K V [.ref x, ti p0] (IP K V (fun X => (X = 0 ∨ X = 1) ∧ (X ≠ 0 → True) ∧ (X = 0 → True))) := by
  refine MC.start 1 (by decide +kernel) rfl rfl rfl (ls0 := [some (.ref x), some (ti p0), none]) rfl ?_
  refine GO.iconst dX12_isNearSea_0 ?_
  refine GO.istore_n (ls1 := [some (.ref x), some (ti p0), some (ti 0)]) dX12_isNearSea_1 rfl rfl rfl ?_
  refine GO.loop1 (fun i1 W => 0 ≤ i1 ∧ i1 ≤ 144 ∧ V = W) (fun i1 => [some (.ref x), some (ti p0), some (ti i1)]) (fun i1 W => (2147483647 - i1).toNat) 0 ⟨by omega, by omega, rfl⟩ rfl (fun i1 V155 hp157 ih156 => ?_)
  obtain ⟨l_i1, u_i1, rfl⟩ := hp157
  have r_i1 : ir i1 := ⟨by omega, by omega⟩
  show GO mX12_isNearSea K V (IP K V (fun X => (X = 0 ∨ X = 1) ∧ (X ≠ 0 → True) ∧ (X = 0 → True))) K V 0 0 2 [some (.ref x), some (ti p0), some (ti i1)] []
  refine GO.iload_n dX12_isNearSea_2 rfl rfl ?_
  refine GO.aload_n dX12_isNearSea_3 rfl rfl ?_
  refine GO.getI h_x fl_RX12_365 rfl rfl dX12_isNearSea_4 (fun l158 u159 => ?_)
  refine GO.aload_n dX12_isNearSea_7 rfl rfl ?_
  refine GO.getI h_x fl_RX12_368 rfl rfl dX12_isNearSea_8 (fun l160 u161 => ?_)
  refine GO.imul dX12_isNearSea_11 ?_
  have m162 := mul_rng (a := vi V x 0) (b := vi V x 1) (A := 12) (B := 12) (by omega) (by omega) (by omega) (by omega)
  have m163 := mul_low (a := vi V x 0) (b := vi V x 1) (m := 4) (n := 4) (by omega) (by omega) (by omega) (by omega)
  refine GO.icmp_ge (tgt := 43) dX12_isNearSea_12 (by decide) r_i1 ⟨by omega, by omega⟩ (fun c164 => ?_) (fun c164 => ?_)
  ·
    refine GO.iconst dX12_isNearSea_43 ?_
    exact GO.retz rfl rfl dX12_isNearSea_44 (Or.inl rfl) ⟨rfl, rfl, _, rfl, (ir_c rfl), ⟨Or.inl rfl, fun _ => trivial, fun _ => trivial⟩⟩
  ·
    refine GO.aload_n dX12_isNearSea_15 rfl rfl ?_
    refine GO.getA (n := 144) h_x fl_RX12_20 rfl rfl rfl rfl dX12_isNearSea_16 (fun hv166 h165 => ?_)
    refine GO.iload_n dX12_isNearSea_19 rfl rfl ?_
    refine GO.iald (t := 10) rfl rfl h165 r_i1 (by omega) (by omega) dX12_isNearSea_20 (fun l167 u168 => ?_)
    refine GO.iconst dX12_isNearSea_21 ?_
    refine GO.icmp_ne (tgt := 37) dX12_isNearSea_22 (by decide) vi_ir (ir_c rfl) (fun c169 => ?_) (fun c169 => ?_)
    ·
      refine GO.iinc (X := i1) (n := 1) (Y := i1 + 1) (ls1 := [some (.ref x), some (ti p0), some (ti (i1 + 1))]) dX12_isNearSea_37 rfl rfl rfl rfl ?_
      refine GO.goto (tgt := 2) dX12_isNearSea_40 (by decide) ?_
      exact ih156 (i1 + 1) V ⟨by omega, by omega, rfl⟩ (by show (2147483647 - (i1 + 1)).toNat < (2147483647 - i1).toNat; omega)
    ·
      refine GO.aload_n dX12_isNearSea_25 rfl rfl ?_
      refine GO.iload_n dX12_isNearSea_26 rfl rfl ?_
      refine GO.iload_n dX12_isNearSea_27 rfl rfl ?_
      have q170 : -2147483648 ≤ p0 ∧ p0 ≤ 2147483647 := r_p0
      refine GO.callV (ci := 11) (N := mX12_far) dX12_isNearSea_28 (RX12, TX12, 151) rfl gV_RX12_389 h_x (t_X12_far h_x r_i1 r_p0 (by omega) (by omega) (by omega) (by omega)) rfl [] rfl rfl (Nat.le_of_ble_eq_true rfl) rfl (k_ip fun X171 r172 h173 => ?_)
      refine GO.iconst dX12_isNearSea_31 ?_
      refine GO.icmp_gt (tgt := 37) dX12_isNearSea_32 (by decide) r172 (ir_c rfl) (fun c174 => ?_) (fun c174 => ?_)
      ·
        refine GO.iinc (X := i1) (n := 1) (Y := i1 + 1) (ls1 := [some (.ref x), some (ti p0), some (ti (i1 + 1))]) dX12_isNearSea_37 rfl rfl rfl rfl ?_
        refine GO.goto (tgt := 2) dX12_isNearSea_40 (by decide) ?_
        exact ih156 (i1 + 1) V ⟨by omega, by omega, rfl⟩ (by show (2147483647 - (i1 + 1)).toNat < (2147483647 - i1).toNat; omega)
      ·
        refine GO.iconst dX12_isNearSea_35 ?_
        exact GO.retz rfl rfl dX12_isNearSea_36 (Or.inr rfl) ⟨rfl, rfl, _, rfl, (ir_c rfl), ⟨Or.inr rfl, fun _ => trivial, fun _ => trivial⟩⟩

set_option maxHeartbeats 1000000 in
theorem t_X12_party {K : Kmap} {V : Vmap} {x : Nat} {p0 : Int} (h_x : K x = some (0, 11)) (r_p0 : ir p0) (z_p0 : p0 = 0 ∨ p0 = 1) : MC mX12_party K V [.ref x, ti p0] (IS K (fun X V1 => True)) := by
  refine MC.start 0 (by decide +kernel) rfl rfl rfl (ls0 := [some (.ref x), some (ti p0)]) rfl ?_
  refine GO.aload_n dX12_party_0 rfl rfl ?_
  refine GO.getI h_x fl_RX12_393 rfl rfl dX12_party_1 (fun l1 u2 => ?_)
  refine GO.bipush dX12_party_4 rfl ?_
  refine GO.icmp_ne (tgt := 11) dX12_party_6 (by decide) vi_ir (ir_c rfl) (fun c3 => ?_) (fun c3 => ?_)
  ·
    refine GO.aload_n dX12_party_11 rfl rfl ?_
    refine GO.getA (n := 9) h_x fl_RX12_29 rfl rfl rfl rfl dX12_party_12 (fun hv5 h4 => ?_)
    refine GO.aload_n dX12_party_15 rfl rfl ?_
    refine GO.getI h_x fl_RX12_393 rfl rfl dX12_party_16 (fun l6 u7 => ?_)
    refine GO.iload_n dX12_party_19 rfl rfl ?_
    refine GO.if_eq (tgt := 30) dX12_party_20 (by decide) r_p0 (fun c8 => ?_) (fun c8 => ?_)
    ·
      refine GO.iconst dX12_party_30 ?_
      refine GO.iast (t := 13) rfl rfl (by decide +kernel) h4 vi_ir (by omega) (by omega) (ir_c rfl) (by decide) (by decide) dX12_party_31 (fun V10 e9 => ?_)
      refine GO.aload_n dX12_party_32 rfl rfl ?_
      refine GO.aload_n dX12_party_33 rfl rfl ?_
      refine GO.getI h_x fl_RX12_393 rfl rfl dX12_party_34 (fun l11 u12 => ?_)
      have e13 : vi V10 x 9 = vi V x 9 := vi_up e9 (Or.inl (K_ne h_x h4 (by decide)))
      refine GO.iconst dX12_party_37 ?_
      refine GO.iadd dX12_party_38 ?_
      refine GO.putI h_x fp_RX12_393 rfl (by decide +kernel) ⟨by omega, by omega⟩ (by omega) (by omega) dX12_party_39 (fun V15 e14 => ?_)
      refine GO.aload_n dX12_party_42 rfl rfl ?_
      refine GO.getI h_x fl_RX12_393 rfl rfl dX12_party_43 (fun l16 u17 => ?_)
      have e18 : vi V15 x 9 = (vi V10 x 9) + 1 := upd2_int e14 ⟨by omega, by omega⟩
      refine GO.iconst dX12_party_46 ?_
      refine GO.isub dX12_party_47 ?_
      exact GO.reti rfl rfl dX12_party_48 ⟨rfl, _, rfl, ⟨by omega, by omega⟩, trivial⟩
    ·
      refine GO.aload_n dX12_party_23 rfl rfl ?_
      refine GO.getI h_x fl_RX12_396 rfl rfl dX12_party_24 (fun l19 u20 => ?_)
      refine GO.goto (tgt := 31) dX12_party_27 (by decide) ?_
      refine GO.iast (t := 13) rfl rfl (by decide +kernel) h4 vi_ir (by omega) (by omega) vi_ir (vi_ir).1 (vi_ir).2 dX12_party_31 (fun V22 e21 => ?_)
      refine GO.aload_n dX12_party_32 rfl rfl ?_
      refine GO.aload_n dX12_party_33 rfl rfl ?_
      refine GO.getI h_x fl_RX12_393 rfl rfl dX12_party_34 (fun l23 u24 => ?_)
      have e25 : vi V22 x 9 = vi V x 9 := vi_up e21 (Or.inl (K_ne h_x h4 (by decide)))
      refine GO.iconst dX12_party_37 ?_
      refine GO.iadd dX12_party_38 ?_
      refine GO.putI h_x fp_RX12_393 rfl (by decide +kernel) ⟨by omega, by omega⟩ (by omega) (by omega) dX12_party_39 (fun V27 e26 => ?_)
      refine GO.aload_n dX12_party_42 rfl rfl ?_
      refine GO.getI h_x fl_RX12_393 rfl rfl dX12_party_43 (fun l28 u29 => ?_)
      have e30 : vi V27 x 9 = (vi V22 x 9) + 1 := upd2_int e26 ⟨by omega, by omega⟩
      refine GO.iconst dX12_party_46 ?_
      refine GO.isub dX12_party_47 ?_
      exact GO.reti rfl rfl dX12_party_48 ⟨rfl, _, rfl, ⟨by omega, by omega⟩, trivial⟩
  ·
    refine GO.iconst dX12_party_9 ?_
    exact GO.reti rfl rfl dX12_party_10 ⟨rfl, _, rfl, (ir_c rfl), trivial⟩

set_option maxHeartbeats 1000000 in
theorem t_X12_isParty {K : Kmap} {V : Vmap} {x : Nat} {p0 : Int} (h_x : K x = some (0, 11)) (r_p0 : ir p0) : MC mX12_isParty K V [.ref x, ti p0] (IP K V (fun X => (X = 0 ∨ X = 1) ∧ (X ≠ 0 → p0 ≥ 0 ∧ p0 ≤ 8) ∧ (X = 0 → True))) := by
  refine MC.start 0 (by decide +kernel) rfl rfl rfl (ls0 := [some (.ref x), some (ti p0)]) rfl ?_
  refine GO.iload_n dX12_isParty_0 rfl rfl ?_
  refine GO.if_lt (tgt := 16) dX12_isParty_1 (by decide) r_p0 (fun c1 => ?_) (fun c1 => ?_)
  ·
    refine GO.iconst dX12_isParty_16 ?_
    exact GO.retz rfl rfl dX12_isParty_17 (Or.inl rfl) ⟨rfl, rfl, _, rfl, (ir_c rfl), ⟨Or.inl rfl, fun h => absurd rfl h, fun _ => trivial⟩⟩
  ·
    refine GO.iload_n dX12_isParty_4 rfl rfl ?_
    refine GO.aload_n dX12_isParty_5 rfl rfl ?_
    refine GO.getI h_x fl_RX12_393 rfl rfl dX12_isParty_6 (fun l2 u3 => ?_)
    refine GO.icmp_ge (tgt := 16) dX12_isParty_9 (by decide) r_p0 vi_ir (fun c4 => ?_) (fun c4 => ?_)
    ·
      refine GO.iconst dX12_isParty_16 ?_
      exact GO.retz rfl rfl dX12_isParty_17 (Or.inl rfl) ⟨rfl, rfl, _, rfl, (ir_c rfl), ⟨Or.inl rfl, fun h => absurd rfl h, fun _ => trivial⟩⟩
    ·
      refine GO.iconst dX12_isParty_12 ?_
      refine GO.goto (tgt := 17) dX12_isParty_13 (by decide) ?_
      exact GO.retz rfl rfl dX12_isParty_17 (Or.inr rfl) ⟨rfl, rfl, _, rfl, (ir_c rfl), ⟨Or.inr rfl, fun h => by omega, fun _ => trivial⟩⟩

set_option maxHeartbeats 1000000 in
theorem t_X12_isPlace {K : Kmap} {V : Vmap} {x : Nat} {p0 : Int} {p1 : Int} (h_x : K x = some (0, 11)) (r_p0 : ir p0) (r_p1 : ir p1) : MC mX12_isPlace K V [.ref x, ti p0, ti p1] (IP K V (fun X => (X = 0 ∨ X = 1) ∧ (X ≠ 0 → p0 ≥ 0 ∧ p0 ≤ 59) ∧ (X = 0 → True) ∧ (X ≠ 0 → p0 < vi V x 10 ∧ ar 13 V x (p0).toNat = p1))) := by
  refine MC.start 0 (by decide +kernel) rfl rfl rfl (ls0 := [some (.ref x), some (ti p0), some (ti p1)]) rfl ?_
  refine GO.iload_n dX12_isPlace_0 rfl rfl ?_
  refine GO.if_lt (tgt := 26) dX12_isPlace_1 (by decide) r_p0 (fun c1 => ?_) (fun c1 => ?_)
  ·
    refine GO.iconst dX12_isPlace_26 ?_
    exact GO.retz rfl rfl dX12_isPlace_27 (Or.inl rfl) ⟨rfl, rfl, _, rfl, (ir_c rfl), ⟨Or.inl rfl, fun h => absurd rfl h, fun _ => trivial, (by first | exact fun h => absurd rfl h | exact fun _ => ⟨by omega, by assumption⟩ | exact fun _ => ⟨by omega, by show vi _ _ _ = _; omega⟩)⟩⟩
  ·
    refine GO.iload_n dX12_isPlace_4 rfl rfl ?_
    refine GO.aload_n dX12_isPlace_5 rfl rfl ?_
    refine GO.getI h_x fl_RX12_375 rfl rfl dX12_isPlace_6 (fun l2 u3 => ?_)
    refine GO.icmp_ge (tgt := 26) dX12_isPlace_9 (by decide) r_p0 vi_ir (fun c4 => ?_) (fun c4 => ?_)
    ·
      refine GO.iconst dX12_isPlace_26 ?_
      exact GO.retz rfl rfl dX12_isPlace_27 (Or.inl rfl) ⟨rfl, rfl, _, rfl, (ir_c rfl), ⟨Or.inl rfl, fun h => absurd rfl h, fun _ => trivial, (by first | exact fun h => absurd rfl h | exact fun _ => ⟨by omega, by assumption⟩ | exact fun _ => ⟨by omega, by show vi _ _ _ = _; omega⟩)⟩⟩
    ·
      refine GO.aload_n dX12_isPlace_12 rfl rfl ?_
      refine GO.getA (n := 60) h_x fl_RX12_35 rfl rfl rfl rfl dX12_isPlace_13 (fun hv6 h5 => ?_)
      refine GO.iload_n dX12_isPlace_16 rfl rfl ?_
      have q7 : -2147483648 ≤ p0 ∧ p0 ≤ 2147483647 := r_p0
      refine GO.iald (t := 15) rfl rfl h5 r_p0 (by omega) (by omega) dX12_isPlace_17 (fun l8 u9 => ?_)
      refine GO.iload_n dX12_isPlace_18 rfl rfl ?_
      refine GO.icmp_ne (tgt := 26) dX12_isPlace_19 (by decide) vi_ir r_p1 (fun c10 => ?_) (fun c10 => ?_)
      ·
        refine GO.iconst dX12_isPlace_26 ?_
        exact GO.retz rfl rfl dX12_isPlace_27 (Or.inl rfl) ⟨rfl, rfl, _, rfl, (ir_c rfl), ⟨Or.inl rfl, fun h => absurd rfl h, fun _ => trivial, (by first | exact fun h => absurd rfl h | exact fun _ => ⟨by omega, by assumption⟩ | exact fun _ => ⟨by omega, by show vi _ _ _ = _; omega⟩)⟩⟩
      ·
        refine GO.iconst dX12_isPlace_22 ?_
        refine GO.goto (tgt := 27) dX12_isPlace_23 (by decide) ?_
        exact GO.retz rfl rfl dX12_isPlace_27 (Or.inr rfl) ⟨rfl, rfl, _, rfl, (ir_c rfl), ⟨Or.inr rfl, fun h => by omega, fun _ => trivial, (by first | exact fun h => absurd h (by decide) | exact fun _ => ⟨by omega, by assumption⟩ | exact fun _ => ⟨by omega, by show vi _ _ _ = _; omega⟩)⟩⟩

set_option maxHeartbeats 1000000 in
theorem t_X12_isStation {K : Kmap} {V : Vmap} {x : Nat} {p0 : Int} (h_x : K x = some (0, 11)) (r_p0 : ir p0) : MC mX12_isStation K V [.ref x, ti p0] (IP K V (fun X => (X = 0 ∨ X = 1) ∧ (X ≠ 0 → p0 ≥ 0 ∧ p0 ≤ 59) ∧ (X = 0 → True))) := by
  refine MC.start 0 (by decide +kernel) rfl rfl rfl (ls0 := [some (.ref x), some (ti p0)]) rfl ?_
  refine GO.aload_n dX12_isStation_0 rfl rfl ?_
  refine GO.iload_n dX12_isStation_1 rfl rfl ?_
  refine GO.iconst dX12_isStation_2 ?_
  refine GO.callV (ci := 11) (N := mX12_isPlace) dX12_isStation_3 (RX12, TX12, 151) rfl gV_RX12_399 h_x (t_X12_isPlace h_x r_p0 (ir_c rfl)) rfl [] rfl rfl (Nat.le_of_ble_eq_true rfl) rfl (k_ip fun X1 r2 h3 => ?_)
  have raw_isPlace := h3.2.2.2
  exact GO.retz rfl rfl dX12_isStation_6 (by omega) ⟨rfl, rfl, _, rfl, r2, ⟨by omega, fun h => by omega, fun _ => trivial⟩⟩

set_option maxHeartbeats 1000000 in
theorem t_X12_stands {K : Kmap} {V : Vmap} {x : Nat} {p0 : Int} (h_x : K x = some (0, 11)) (r_p0 : ir p0) : MC mX12_stands K V [.ref x, ti p0] (IP K V (fun X => (X = 0 ∨ X = 1) ∧ (X ≠ 0 → p0 ≥ 0 ∧ p0 ≤ 59) ∧ (X = 0 → True))) := by
  refine MC.start 0 (by decide +kernel) rfl rfl rfl (ls0 := [some (.ref x), some (ti p0)]) rfl ?_
  refine GO.aload_n dX12_stands_0 rfl rfl ?_
  refine GO.iload_n dX12_stands_1 rfl rfl ?_
  refine GO.callV (ci := 11) (N := mX12_isStation) dX12_stands_2 (RX12, TX12, 151) rfl gV_RX12_403 h_x (t_X12_isStation h_x r_p0) rfl [] rfl rfl (Nat.le_of_ble_eq_true rfl) rfl (k_ip fun X1 r2 h3 => ?_)
  refine GO.if_eq (tgt := 21) dX12_stands_5 (by decide) r2 (fun c4 => ?_) (fun c4 => ?_)
  ·
    refine GO.iconst dX12_stands_21 ?_
    exact GO.retz rfl rfl dX12_stands_22 (Or.inl rfl) ⟨rfl, rfl, _, rfl, (ir_c rfl), ⟨Or.inl rfl, fun h => absurd rfl h, fun _ => trivial⟩⟩
  ·
    have q5 := h3.2.1 (by omega)
    refine GO.aload_n dX12_stands_8 rfl rfl ?_
    refine GO.getA (n := 60) h_x fl_RX12_80 rfl rfl rfl rfl dX12_stands_9 (fun hv7 h6 => ?_)
    refine GO.iload_n dX12_stands_12 rfl rfl ?_
    have q8 : -2147483648 ≤ p0 ∧ p0 ≤ 2147483647 := r_p0
    refine GO.zald (t := 30) rfl rfl h6 r_p0 (by omega) (by omega) dX12_stands_13 (fun l9 u10 => ?_)
    refine GO.if_ne (tgt := 21) dX12_stands_14 (by decide) vi_ir (fun c11 => ?_) (fun c11 => ?_)
    ·
      refine GO.iconst dX12_stands_21 ?_
      exact GO.retz rfl rfl dX12_stands_22 (Or.inl rfl) ⟨rfl, rfl, _, rfl, (ir_c rfl), ⟨Or.inl rfl, fun h => absurd rfl h, fun _ => trivial⟩⟩
    ·
      refine GO.iconst dX12_stands_17 ?_
      refine GO.goto (tgt := 22) dX12_stands_18 (by decide) ?_
      exact GO.retz rfl rfl dX12_stands_22 (Or.inr rfl) ⟨rfl, rfl, _, rfl, (ir_c rfl), ⟨Or.inr rfl, fun h => by omega, fun _ => trivial⟩⟩

set_option maxHeartbeats 1000000 in
theorem t_X12_decidesOn {K : Kmap} {V : Vmap} {x : Nat} {p0 : Int} {p1 : Int} (h_x : K x = some (0, 11)) (r_p0 : ir p0) (r_p1 : ir p1) (q_0 : p0 ≥ 0) (q_1 : p0 ≤ 8) : MC mX12_decidesOn K V [.ref x, ti p0, ti p1] (IP K V (fun X => (X = 0 ∨ X = 1) ∧ (X ≠ 0 → True) ∧ (X = 0 → True))) := by
  refine MC.start 0 (by decide +kernel) rfl rfl rfl (ls0 := [some (.ref x), some (ti p0), some (ti p1)]) rfl ?_
  refine GO.aload_n dX12_decidesOn_0 rfl rfl ?_
  refine GO.getA (n := 9) h_x fl_RX12_29 rfl rfl rfl rfl dX12_decidesOn_1 (fun hv2 h1 => ?_)
  refine GO.iload_n dX12_decidesOn_4 rfl rfl ?_
  have q3 : -2147483648 ≤ p0 ∧ p0 ≤ 2147483647 := r_p0
  refine GO.iald (t := 13) rfl rfl h1 r_p0 (by omega) (by omega) dX12_decidesOn_5 (fun _ _ => ?_)
  refine GO.iconst dX12_decidesOn_6 ?_
  refine GO.icmp_eq (tgt := 24) dX12_decidesOn_7 (by decide) vi_ir (ir_c rfl) (fun c4 => ?_) (fun c4 => ?_)
  ·
    refine GO.iconst dX12_decidesOn_24 ?_
    exact GO.retz rfl rfl dX12_decidesOn_25 (Or.inl rfl) ⟨rfl, rfl, _, rfl, (ir_c rfl), ⟨Or.inl rfl, fun _ => trivial, fun _ => trivial⟩⟩
  ·
    refine GO.aload_n dX12_decidesOn_10 rfl rfl ?_
    refine GO.getRaw h_x fl_RX12_29 hv2 dX12_decidesOn_11 ?_
    refine GO.iload_n dX12_decidesOn_14 rfl rfl ?_
    refine GO.iald (t := 13) rfl rfl h1 r_p0 (by omega) (by omega) dX12_decidesOn_15 (fun _ _ => ?_)
    refine GO.iload_n dX12_decidesOn_16 rfl rfl ?_
    refine GO.icmp_gt (tgt := 24) dX12_decidesOn_17 (by decide) vi_ir r_p1 (fun c7 => ?_) (fun c7 => ?_)
    ·
      refine GO.iconst dX12_decidesOn_24 ?_
      exact GO.retz rfl rfl dX12_decidesOn_25 (Or.inl rfl) ⟨rfl, rfl, _, rfl, (ir_c rfl), ⟨Or.inl rfl, fun _ => trivial, fun _ => trivial⟩⟩
    ·
      refine GO.iconst dX12_decidesOn_20 ?_
      refine GO.goto (tgt := 25) dX12_decidesOn_21 (by decide) ?_
      exact GO.retz rfl rfl dX12_decidesOn_25 (Or.inr rfl) ⟨rfl, rfl, _, rfl, (ir_c rfl), ⟨Or.inr rfl, fun _ => trivial, fun _ => trivial⟩⟩

set_option maxHeartbeats 1000000 in
theorem t_X12_decides {K : Kmap} {V : Vmap} {x : Nat} {p0 : Int} {p1 : Int} (h_x : K x = some (0, 11)) (r_p0 : ir p0) (r_p1 : ir p1) : MC mX12_decides K V [.ref x, ti p0, ti p1] (IP K V (fun X => True)) := by
  refine MC.start 0 (by decide +kernel) rfl rfl rfl (ls0 := [some (.ref x), some (ti p0), some (ti p1)]) rfl ?_
  refine GO.aload_n dX12_decides_0 rfl rfl ?_
  refine GO.iload_n dX12_decides_1 rfl rfl ?_
  refine GO.callV (ci := 11) (N := mX12_isParty) dX12_decides_2 (RX12, TX12, 151) rfl gV_RX12_406 h_x (t_X12_isParty h_x r_p0) rfl [] rfl rfl (Nat.le_of_ble_eq_true rfl) rfl (k_ip fun X1 r2 h3 => ?_)
  refine GO.if_eq (tgt := 15) dX12_decides_5 (by decide) r2 (fun c4 => ?_) (fun c4 => ?_)
  ·
    refine GO.iconst dX12_decides_15 ?_
    exact GO.reti rfl rfl dX12_decides_16 ⟨rfl, rfl, _, rfl, (ir_c rfl), trivial⟩
  ·
    have q5 := h3.2.1 (by omega)
    refine GO.iload_n dX12_decides_8 rfl rfl ?_
    refine GO.callS (N := mX12_isDay) dX12_decides_9 gS_RX12_409 (t_X12_isDay r_p1) rfl [] rfl rfl (Nat.le_of_ble_eq_true rfl) rfl (k_ip fun X6 r7 h8 => ?_)
    refine GO.if_ne (tgt := 17) dX12_decides_12 (by decide) r7 (fun c9 => ?_) (fun c9 => ?_)
    ·
      have q10 := h8.2.1 (by omega)
      refine GO.aload_n dX12_decides_17 rfl rfl ?_
      refine GO.iload_n dX12_decides_18 rfl rfl ?_
      refine GO.iload_n dX12_decides_19 rfl rfl ?_
      have q11 : -2147483648 ≤ p0 ∧ p0 ≤ 2147483647 := r_p0
      refine GO.callV (ci := 11) (N := mX12_decidesOn) dX12_decides_20 (RX12, TX12, 151) rfl gV_RX12_412 h_x (t_X12_decidesOn h_x r_p0 r_p1 (by omega) (by omega)) rfl [] rfl rfl (Nat.le_of_ble_eq_true rfl) rfl (k_ip fun X12 r13 h14 => ?_)
      refine GO.if_eq (tgt := 30) dX12_decides_23 (by decide) r13 (fun c15 => ?_) (fun c15 => ?_)
      ·
        refine GO.iconst dX12_decides_30 ?_
        exact GO.reti rfl rfl dX12_decides_31 ⟨rfl, rfl, _, rfl, (ir_c rfl), trivial⟩
      ·
        refine GO.iconst dX12_decides_26 ?_
        refine GO.goto (tgt := 31) dX12_decides_27 (by decide) ?_
        exact GO.reti rfl rfl dX12_decides_31 ⟨rfl, rfl, _, rfl, (ir_c rfl), trivial⟩
    ·
      refine GO.iconst dX12_decides_15 ?_
      exact GO.reti rfl rfl dX12_decides_16 ⟨rfl, rfl, _, rfl, (ir_c rfl), trivial⟩

set_option maxHeartbeats 1000000 in
theorem t_X12_place {K : Kmap} {V : Vmap} {x : Nat} {p0 : Int} {p1 : Int} {p2 : Int} {p3 : Int} {p4 : Int} (h_x : K x = some (0, 11)) (r_p0 : ir p0) (r_p1 : ir p1) (r_p2 : ir p2) (r_p3 : ir p3) (r_p4 : ir p4) (q_0 : p0 ≥ 0) (q_1 : p0 ≤ 5) (q_2 : p1 ≥ (-1)) (q_3 : p1 ≤ 8) (q_4 : p2 ≥ 0) (q_5 : p2 ≤ 143) (q_6 : p3 ≥ (-1)) (q_7 : p3 ≤ 143) (q_8 : (p0 = 0 → p1 ≥ 0)) (w_0 : PX0 V x) (v_10 : 0 ≤ vi V x 10 ∧ vi V x 10 ≤ 59) : MC mX12_place K V [.ref x, ti p0, ti p1, ti p2, ti p3, ti p4] (IS K (fun X V1 => (X ≥ (-2147483648) ∧ X ≤ 2147483647) ∧ (PX0 V1 x))) := by
  refine MC.start 0 (by decide +kernel) rfl rfl rfl (ls0 := [some (.ref x), some (ti p0), some (ti p1), some (ti p2), some (ti p3), some (ti p4)]) rfl ?_
  refine GO.useWT (fun hW1 => ?_)
  have ak2 := hW1.arr h_x 13 15 (by decide) rfl (by decide)
  have ak3 := hW1.arr h_x 14 16 (by decide) rfl (by decide)
  refine GO.aload_n dX12_place_0 rfl rfl ?_
  refine GO.getA (n := 60) h_x fl_RX12_35 rfl rfl rfl rfl dX12_place_1 (fun hv5 h4 => ?_)
  refine GO.aload_n dX12_place_4 rfl rfl ?_
  refine GO.getI h_x fl_RX12_375 rfl rfl dX12_place_5 (fun l6 u7 => ?_)
  refine GO.iload_n dX12_place_8 rfl rfl ?_
  have q9 : -2147483648 ≤ p0 ∧ p0 ≤ 2147483647 := r_p0
  refine GO.iast (t := 15) rfl rfl (by decide +kernel) h4 vi_ir (by omega) (by omega) r_p0 (by omega) (by omega) dX12_place_9 (fun V10 e8 => ?_)
  have ak11 := tk_put e8 ak2 h_x (vq_of hv5) r_p0 (rfl : ar 13 V x = ar 13 V x)
  have ak12 := tk_oth e8 ak3 h_x h4 (by decide) (by decide) (rfl : ar 14 V x = ar 14 V x)
  refine GO.aload_n dX12_place_10 rfl rfl ?_
  refine GO.getA (n := 60) h_x fl_RX12_38 rfl rfl rfl rfl dX12_place_11 (fun hv14 h13 => ?_)
  refine GO.aload_n dX12_place_14 rfl rfl ?_
  refine GO.getI h_x fl_RX12_375 rfl rfl dX12_place_15 (fun l15 u16 => ?_)
  have e17 : vi V10 x 10 = vi V x 10 := vi_up e8 (Or.inl (K_ne h_x h4 (by decide)))
  refine GO.iload_n dX12_place_18 rfl rfl ?_
  have q19 : -2147483648 ≤ p1 ∧ p1 ≤ 2147483647 := r_p1
  refine GO.iast (t := 16) rfl rfl (by decide +kernel) h13 vi_ir (by omega) (by omega) r_p1 (by omega) (by omega) dX12_place_19 (fun V20 e18 => ?_)
  have ak21 := tk_oth e18 ak11.1 h_x h13 (by decide) (by decide) ak11.2
  have ak22 := tk_put e18 ak12.1 h_x (vq_of hv14) r_p1 ak12.2
  refine GO.aload_n dX12_place_20 rfl rfl ?_
  refine GO.getA (n := 60) h_x fl_RX12_41 rfl rfl rfl rfl dX12_place_21 (fun hv24 h23 => ?_)
  refine GO.aload_n dX12_place_24 rfl rfl ?_
  refine GO.getI h_x fl_RX12_375 rfl rfl dX12_place_25 (fun l25 u26 => ?_)
  have e27 : vi V20 x 10 = vi V10 x 10 := vi_up e18 (Or.inl (K_ne h_x h13 (by decide)))
  refine GO.iload_n dX12_place_28 rfl rfl ?_
  have q29 : -2147483648 ≤ p2 ∧ p2 ≤ 2147483647 := r_p2
  refine GO.iast (t := 17) rfl rfl (by decide +kernel) h23 vi_ir (by omega) (by omega) r_p2 (by omega) (by omega) dX12_place_29 (fun V30 e28 => ?_)
  have ak31 := tk_oth e28 ak21.1 h_x h23 (by decide) (by decide) ak21.2
  have ak32 := tk_oth e28 ak22.1 h_x h23 (by decide) (by decide) ak22.2
  refine GO.aload_n dX12_place_30 rfl rfl ?_
  refine GO.getA (n := 60) h_x fl_RX12_44 rfl rfl rfl rfl dX12_place_31 (fun hv34 h33 => ?_)
  refine GO.aload_n dX12_place_34 rfl rfl ?_
  refine GO.getI h_x fl_RX12_375 rfl rfl dX12_place_35 (fun l35 u36 => ?_)
  have e37 : vi V30 x 10 = vi V20 x 10 := vi_up e28 (Or.inl (K_ne h_x h23 (by decide)))
  refine GO.iload dX12_place_38 rfl ?_
  have q39 : -2147483648 ≤ p3 ∧ p3 ≤ 2147483647 := r_p3
  refine GO.iast (t := 18) rfl rfl (by decide +kernel) h33 vi_ir (by omega) (by omega) r_p3 (by omega) (by omega) dX12_place_40 (fun V40 e38 => ?_)
  have ak41 := tk_oth e38 ak31.1 h_x h33 (by decide) (by decide) ak31.2
  have ak42 := tk_oth e38 ak32.1 h_x h33 (by decide) (by decide) ak32.2
  refine GO.aload_n dX12_place_41 rfl rfl ?_
  refine GO.getA (n := 60) h_x fl_RX12_47 rfl rfl rfl rfl dX12_place_42 (fun hv44 h43 => ?_)
  refine GO.aload_n dX12_place_45 rfl rfl ?_
  refine GO.getI h_x fl_RX12_375 rfl rfl dX12_place_46 (fun l45 u46 => ?_)
  have e47 : vi V40 x 10 = vi V30 x 10 := vi_up e38 (Or.inl (K_ne h_x h33 (by decide)))
  refine GO.iload dX12_place_49 rfl ?_
  refine GO.iast (t := 19) rfl rfl (by decide +kernel) h43 vi_ir (by omega) (by omega) r_p4 (r_p4).1 (r_p4).2 dX12_place_51 (fun V49 e48 => ?_)
  have ak50 := tk_oth e48 ak41.1 h_x h43 (by decide) (by decide) ak41.2
  have ak51 := tk_oth e48 ak42.1 h_x h43 (by decide) (by decide) ak42.2
  refine GO.aload_n dX12_place_52 rfl rfl ?_
  refine GO.getA (n := 60) h_x fl_RX12_50 rfl rfl rfl rfl dX12_place_53 (fun hv53 h52 => ?_)
  refine GO.aload_n dX12_place_56 rfl rfl ?_
  refine GO.getI h_x fl_RX12_375 rfl rfl dX12_place_57 (fun l54 u55 => ?_)
  have e56 : vi V49 x 10 = vi V40 x 10 := vi_up e48 (Or.inl (K_ne h_x h43 (by decide)))
  refine GO.aload_n dX12_place_60 rfl rfl ?_
  refine GO.getI h_x fl_RX12_396 rfl rfl dX12_place_61 (fun l57 u58 => ?_)
  refine GO.iast (t := 20) rfl rfl (by decide +kernel) h52 vi_ir (by omega) (by omega) vi_ir (vi_ir).1 (vi_ir).2 dX12_place_64 (fun V65 e64 => ?_)
  have ak66 := tk_oth e64 ak50.1 h_x h52 (by decide) (by decide) ak50.2
  have ak67 := tk_oth e64 ak51.1 h_x h52 (by decide) (by decide) ak51.2
  refine GO.aload_n dX12_place_65 rfl rfl ?_
  refine GO.aload_n dX12_place_66 rfl rfl ?_
  refine GO.getI h_x fl_RX12_375 rfl rfl dX12_place_67 (fun l68 u69 => ?_)
  have e70 : vi V65 x 10 = vi V49 x 10 := vi_up e64 (Or.inl (K_ne h_x h52 (by decide)))
  refine GO.iconst dX12_place_70 ?_
  refine GO.iadd dX12_place_71 ?_
  refine GO.putI h_x fp_RX12_375 rfl (by decide +kernel) ⟨by omega, by omega⟩ (by omega) (by omega) dX12_place_72 (fun V72 e71 => ?_)
  have ak73 := tk_fld e71 ak66.1 h_x (by decide) ak66.2
  have ak74 := tk_fld e71 ak67.1 h_x (by decide) ak67.2
  refine GO.aload_n dX12_place_75 rfl rfl ?_
  refine GO.getI h_x fl_RX12_375 rfl rfl dX12_place_76 (fun l75 u76 => ?_)
  have e77 : vi V72 x 10 = (vi V65 x 10) + 1 := upd2_int e71 ⟨by omega, by omega⟩
  refine GO.iconst dX12_place_79 ?_
  refine GO.isub dX12_place_80 ?_
  exact GO.reti rfl rfl dX12_place_81 ⟨rfl, _, rfl, ⟨by omega, by omega⟩, ⟨(by first | exact trivial | omega), (by first | exact PX0.step w_0 (by omega) ak73.2 ak74.2 (by omega) (by omega) (by omega))⟩⟩

set_option maxHeartbeats 1000000 in
theorem t_X12_isRectangle {K : Kmap} {V : Vmap} {x : Nat} {p0 : Int} {p1 : Int} (h_x : K x = some (0, 11)) (r_p0 : ir p0) (r_p1 : ir p1) : MC mX12_isRectangle K V [.ref x, ti p0, ti p1] (IP K V (fun X => (X = 0 ∨ X = 1) ∧ (X ≠ 0 → p0 ≥ 0 ∧ p0 ≤ 143 ∧ p1 ≥ 0 ∧ p1 ≤ 143) ∧ (X = 0 → True))) := by
  refine MC.start 0 (by decide +kernel) rfl rfl rfl (ls0 := [some (.ref x), some (ti p0), some (ti p1)]) rfl ?_
  refine GO.aload_n dX12_isRectangle_0 rfl rfl ?_
  refine GO.iload_n dX12_isRectangle_1 rfl rfl ?_
  refine GO.callV (ci := 11) (N := mX12_isCell) dX12_isRectangle_2 (RX12, TX12, 151) rfl gV_RX12_381 h_x (t_X12_isCell h_x r_p0) rfl [] rfl rfl (Nat.le_of_ble_eq_true rfl) rfl (k_ip fun X1 r2 h3 => ?_)
  refine GO.if_eq (tgt := 50) dX12_isRectangle_5 (by decide) r2 (fun c4 => ?_) (fun c4 => ?_)
  ·
    refine GO.iconst dX12_isRectangle_50 ?_
    exact GO.retz rfl rfl dX12_isRectangle_51 (Or.inl rfl) ⟨rfl, rfl, _, rfl, (ir_c rfl), ⟨Or.inl rfl, fun h => absurd rfl h, fun _ => trivial⟩⟩
  ·
    have q5 := h3.2.1 (by omega)
    refine GO.aload_n dX12_isRectangle_8 rfl rfl ?_
    refine GO.iload_n dX12_isRectangle_9 rfl rfl ?_
    refine GO.callV (ci := 11) (N := mX12_isCell) dX12_isRectangle_10 (RX12, TX12, 151) rfl gV_RX12_381 h_x (t_X12_isCell h_x r_p1) rfl [] rfl rfl (Nat.le_of_ble_eq_true rfl) rfl (k_ip fun X6 r7 h8 => ?_)
    refine GO.if_eq (tgt := 50) dX12_isRectangle_13 (by decide) r7 (fun c9 => ?_) (fun c9 => ?_)
    ·
      refine GO.iconst dX12_isRectangle_50 ?_
      exact GO.retz rfl rfl dX12_isRectangle_51 (Or.inl rfl) ⟨rfl, rfl, _, rfl, (ir_c rfl), ⟨Or.inl rfl, fun h => absurd rfl h, fun _ => trivial⟩⟩
    ·
      have q10 := h8.2.1 (by omega)
      refine GO.iload_n dX12_isRectangle_16 rfl rfl ?_
      refine GO.aload_n dX12_isRectangle_17 rfl rfl ?_
      refine GO.getI h_x fl_RX12_365 rfl rfl dX12_isRectangle_18 (fun l11 u12 => ?_)
      have q13 : -2147483648 ≤ p0 ∧ p0 ≤ 2147483647 := r_p0
      refine GO.iremP dX12_isRectangle_21 r_p0 vi_ir (by omega) (by omega) ?_
      have m14 := rem_rng (a := p0) (b := vi V x 0) (by omega)
      refine GO.iload_n dX12_isRectangle_22 rfl rfl ?_
      refine GO.aload_n dX12_isRectangle_23 rfl rfl ?_
      refine GO.getI h_x fl_RX12_365 rfl rfl dX12_isRectangle_24 (fun l15 u16 => ?_)
      have q17 : -2147483648 ≤ p1 ∧ p1 ≤ 2147483647 := r_p1
      refine GO.iremP dX12_isRectangle_27 r_p1 vi_ir (by omega) (by omega) ?_
      have m18 := rem_rng (a := p1) (b := vi V x 0) (by omega)
      refine GO.icmp_gt (tgt := 50) dX12_isRectangle_28 (by decide) ⟨by omega, by omega⟩ ⟨by omega, by omega⟩ (fun c19 => ?_) (fun c19 => ?_)
      ·
        refine GO.iconst dX12_isRectangle_50 ?_
        exact GO.retz rfl rfl dX12_isRectangle_51 (Or.inl rfl) ⟨rfl, rfl, _, rfl, (ir_c rfl), ⟨Or.inl rfl, fun h => absurd rfl h, fun _ => trivial⟩⟩
      ·
        refine GO.iload_n dX12_isRectangle_31 rfl rfl ?_
        refine GO.aload_n dX12_isRectangle_32 rfl rfl ?_
        refine GO.getI h_x fl_RX12_365 rfl rfl dX12_isRectangle_33 (fun l20 u21 => ?_)
        refine GO.idivP dX12_isRectangle_36 r_p0 vi_ir (by omega) (by omega) ?_
        have m22 := div_rng (a := p0) (b := vi V x 0) (by omega) (by omega)
        refine GO.iload_n dX12_isRectangle_37 rfl rfl ?_
        refine GO.aload_n dX12_isRectangle_38 rfl rfl ?_
        refine GO.getI h_x fl_RX12_365 rfl rfl dX12_isRectangle_39 (fun l23 u24 => ?_)
        refine GO.idivP dX12_isRectangle_42 r_p1 vi_ir (by omega) (by omega) ?_
        have m25 := div_rng (a := p1) (b := vi V x 0) (by omega) (by omega)
        refine GO.icmp_gt (tgt := 50) dX12_isRectangle_43 (by decide) ⟨by omega, by omega⟩ ⟨by omega, by omega⟩ (fun c26 => ?_) (fun c26 => ?_)
        ·
          refine GO.iconst dX12_isRectangle_50 ?_
          exact GO.retz rfl rfl dX12_isRectangle_51 (Or.inl rfl) ⟨rfl, rfl, _, rfl, (ir_c rfl), ⟨Or.inl rfl, fun h => absurd rfl h, fun _ => trivial⟩⟩
        ·
          refine GO.iconst dX12_isRectangle_46 ?_
          refine GO.goto (tgt := 51) dX12_isRectangle_47 (by decide) ?_
          exact GO.retz rfl rfl dX12_isRectangle_51 (Or.inr rfl) ⟨rfl, rfl, _, rfl, (ir_c rfl), ⟨Or.inr rfl, fun h => by omega, fun _ => trivial⟩⟩

set_option maxHeartbeats 1000000 in
theorem t_X12_isIn {K : Kmap} {V : Vmap} {x : Nat} {p0 : Int} {p1 : Int} (h_x : K x = some (0, 11)) (r_p0 : ir p0) (r_p1 : ir p1) (q_0 : p0 ≥ 0) (q_1 : p0 ≤ 143) (q_2 : p1 ≥ 0) (q_3 : p1 ≤ 59) : MC mX12_isIn K V [.ref x, ti p0, ti p1] (IP K V (fun X => (X = 0 ∨ X = 1) ∧ (X ≠ 0 → True) ∧ (X = 0 → True))) := by
  refine MC.start 0 (by decide +kernel) rfl rfl rfl (ls0 := [some (.ref x), some (ti p0), some (ti p1)]) rfl ?_
  refine GO.iload_n dX12_isIn_0 rfl rfl ?_
  refine GO.aload_n dX12_isIn_1 rfl rfl ?_
  refine GO.getI h_x fl_RX12_365 rfl rfl dX12_isIn_2 (fun l1 u2 => ?_)
  have q3 : -2147483648 ≤ p0 ∧ p0 ≤ 2147483647 := r_p0
  refine GO.iremP dX12_isIn_5 r_p0 vi_ir (by omega) (by omega) ?_
  have m4 := rem_rng (a := p0) (b := vi V x 0) (by omega)
  refine GO.aload_n dX12_isIn_6 rfl rfl ?_
  refine GO.getA (n := 60) h_x fl_RX12_41 rfl rfl rfl rfl dX12_isIn_7 (fun hv6 h5 => ?_)
  refine GO.iload_n dX12_isIn_10 rfl rfl ?_
  have q7 : -2147483648 ≤ p1 ∧ p1 ≤ 2147483647 := r_p1
  refine GO.iald (t := 17) rfl rfl h5 r_p1 (by omega) (by omega) dX12_isIn_11 (fun l8 u9 => ?_)
  refine GO.aload_n dX12_isIn_12 rfl rfl ?_
  refine GO.getI h_x fl_RX12_365 rfl rfl dX12_isIn_13 (fun l10 u11 => ?_)
  refine GO.iremP dX12_isIn_16 vi_ir vi_ir (by omega) (by omega) ?_
  have m12 := rem_rng (a := vi V (vq V x 15) (p1).toNat) (b := vi V x 0) (by omega)
  refine GO.aload_n dX12_isIn_17 rfl rfl ?_
  refine GO.getA (n := 60) h_x fl_RX12_44 rfl rfl rfl rfl dX12_isIn_18 (fun hv14 h13 => ?_)
  refine GO.iload_n dX12_isIn_21 rfl rfl ?_
  refine GO.iald (t := 18) rfl rfl h13 r_p1 (by omega) (by omega) dX12_isIn_22 (fun l15 u16 => ?_)
  refine GO.aload_n dX12_isIn_23 rfl rfl ?_
  refine GO.getI h_x fl_RX12_365 rfl rfl dX12_isIn_24 (fun l17 u18 => ?_)
  refine GO.irem dX12_isIn_27 vi_ir (by omega) ?_
  refine GO.callS (N := mX12_in) dX12_isIn_28 gS_RX12_371 (t_X12_in ⟨by omega, by omega⟩ ⟨by omega, by omega⟩ wrem_ir) rfl [] rfl rfl (Nat.le_of_ble_eq_true rfl) rfl (k_ip fun X19 r20 h21 => ?_)
  refine GO.if_eq (tgt := 72) dX12_isIn_31 (by decide) r20 (fun c22 => ?_) (fun c22 => ?_)
  ·
    have q23 := h21.2.2 (by omega)
    refine GO.iconst dX12_isIn_72 ?_
    exact GO.retz rfl rfl dX12_isIn_73 (Or.inl rfl) ⟨rfl, rfl, _, rfl, (ir_c rfl), ⟨Or.inl rfl, fun _ => trivial, fun _ => trivial⟩⟩
  ·
    have q24 := h21.2.1 (by omega)
    refine GO.iload_n dX12_isIn_34 rfl rfl ?_
    refine GO.aload_n dX12_isIn_35 rfl rfl ?_
    refine GO.getI h_x fl_RX12_365 rfl rfl dX12_isIn_36 (fun l25 u26 => ?_)
    have q27 : -2147483648 ≤ wrem (vi V (vq V x 16) (p1).toNat) (vi V x 0) ∧ wrem (vi V (vq V x 16) (p1).toNat) (vi V x 0) ≤ 2147483647 := wrem_ir
    refine GO.idivP dX12_isIn_39 r_p0 vi_ir (by omega) (by omega) ?_
    have m28 := div_rng (a := p0) (b := vi V x 0) (by omega) (by omega)
    refine GO.aload_n dX12_isIn_40 rfl rfl ?_
    refine GO.getRaw h_x fl_RX12_41 hv6 dX12_isIn_41 ?_
    refine GO.iload_n dX12_isIn_44 rfl rfl ?_
    refine GO.iald (t := 17) rfl rfl h5 r_p1 (by omega) (by omega) dX12_isIn_45 (fun l31 u32 => ?_)
    refine GO.aload_n dX12_isIn_46 rfl rfl ?_
    refine GO.getI h_x fl_RX12_365 rfl rfl dX12_isIn_47 (fun l33 u34 => ?_)
    refine GO.idivP dX12_isIn_50 vi_ir vi_ir (by omega) (by omega) ?_
    have m35 := div_rng (a := vi V (vq V x 15) (p1).toNat) (b := vi V x 0) (by omega) (by omega)
    refine GO.aload_n dX12_isIn_51 rfl rfl ?_
    refine GO.getRaw h_x fl_RX12_44 hv14 dX12_isIn_52 ?_
    refine GO.iload_n dX12_isIn_55 rfl rfl ?_
    refine GO.iald (t := 18) rfl rfl h13 r_p1 (by omega) (by omega) dX12_isIn_56 (fun l38 u39 => ?_)
    refine GO.aload_n dX12_isIn_57 rfl rfl ?_
    refine GO.getI h_x fl_RX12_365 rfl rfl dX12_isIn_58 (fun l40 u41 => ?_)
    refine GO.idiv dX12_isIn_61 vi_ir (by omega) ?_
    refine GO.callS (N := mX12_in) dX12_isIn_62 gS_RX12_371 (t_X12_in ⟨by omega, by omega⟩ ⟨by omega, by omega⟩ wdiv_ir) rfl [] rfl rfl (Nat.le_of_ble_eq_true rfl) rfl (k_ip fun X42 r43 h44 => ?_)
    refine GO.if_eq (tgt := 72) dX12_isIn_65 (by decide) r43 (fun c45 => ?_) (fun c45 => ?_)
    ·
      have q46 := h44.2.2 (by omega)
      refine GO.iconst dX12_isIn_72 ?_
      exact GO.retz rfl rfl dX12_isIn_73 (Or.inl rfl) ⟨rfl, rfl, _, rfl, (ir_c rfl), ⟨Or.inl rfl, fun _ => trivial, fun _ => trivial⟩⟩
    ·
      have q47 := h44.2.1 (by omega)
      refine GO.iconst dX12_isIn_68 ?_
      refine GO.goto (tgt := 73) dX12_isIn_69 (by decide) ?_
      exact GO.retz rfl rfl dX12_isIn_73 (Or.inr rfl) ⟨rfl, rfl, _, rfl, (ir_c rfl), ⟨Or.inr rfl, fun _ => trivial, fun _ => trivial⟩⟩

set_option maxHeartbeats 1000000 in
theorem t_X12_strikes {K : Kmap} {V : Vmap} {x : Nat} {p0 : Int} (h_x : K x = some (0, 11)) (r_p0 : ir p0) (q_0 : p0 ≥ 0) (q_1 : p0 ≤ 20) : MC mX12_strikes K V [.ref x, ti p0] (VS K (fun V1 => (True))) := by
  refine MC.start 3 (by decide +kernel) rfl rfl rfl (ls0 := [some (.ref x), some (ti p0), none, none, none]) rfl ?_
  refine GO.iconst dX12_strikes_0 ?_
  refine GO.istore_n (ls1 := [some (.ref x), some (ti p0), some (ti 0), none, none]) dX12_strikes_1 rfl rfl rfl ?_
  refine GO.loop1 (fun i1 W => 0 ≤ i1 ∧ i1 ≤ 240 ∧ True) (fun i1 => [some (.ref x), some (ti p0), some (ti i1), none, none]) (fun i1 W => (2147483647 - i1).toNat) 0 ⟨by omega, by omega, trivial⟩ rfl (fun i1 Wi1 hp1612 ih1611 => ?_)
  obtain ⟨l_i1, u_i1, -⟩ := hp1612
  have r_i1 : ir i1 := ⟨by omega, by omega⟩
  show GO mX12_strikes K V (VS K (fun V1 => (True))) K Wi1 0 0 2 [some (.ref x), some (ti p0), some (ti i1), none, none] []
  refine GO.iload_n dX12_strikes_2 rfl rfl ?_
  refine GO.bipush dX12_strikes_3 rfl ?_
  refine GO.iload_n dX12_strikes_5 rfl rfl ?_
  refine GO.imul dX12_strikes_6 ?_
  have q1613 : -2147483648 ≤ p0 ∧ p0 ≤ 2147483647 := r_p0
  refine GO.icmp_ge (tgt := 23) dX12_strikes_7 (by decide) r_i1 ⟨by omega, by omega⟩ (fun c1614 => ?_) (fun c1614 => ?_)
  ·
    refine GO.iload_n dX12_strikes_23 rfl rfl ?_
    refine GO.iconst dX12_strikes_24 ?_
    refine GO.isub dX12_strikes_25 ?_
    refine GO.name (fun z1615 hz1616 => ?_)
    refine GO.istore_n (ls1 := [some (.ref x), some (ti p0), some (ti z1615), none, none]) dX12_strikes_26 rfl rfl rfl ?_
    refine GO.loop1 (fun i1617 W => (-1) ≤ i1617 ∧ i1617 ≤ 19 ∧ True) (fun i1617 => [some (.ref x), some (ti p0), some (ti i1617), none, none]) (fun i1617 W => (i1617 + 2147483648).toNat) z1615 ⟨by omega, by omega, trivial⟩ rfl (fun i1617 Wi1617 hp1993 ih1992 => ?_)
    obtain ⟨l_i1617, u_i1617, -⟩ := hp1993
    have r_i1617 : ir i1617 := ⟨by omega, by omega⟩
    show GO mX12_strikes K V (VS K (fun V1 => (True))) K Wi1617 0 0 27 [some (.ref x), some (ti p0), some (ti i1617), none, none] []
    refine GO.iload_n dX12_strikes_27 rfl rfl ?_
    refine GO.if_lt (tgt := 129) dX12_strikes_28 (by decide) r_i1617 (fun c1994 => ?_) (fun c1994 => ?_)
    ·
      exact GO.retv rfl rfl dX12_strikes_129 ⟨rfl, rfl, trivial⟩
    ·
      refine GO.iconst dX12_strikes_31 ?_
      refine GO.istore_n (ls1 := [some (.ref x), some (ti p0), some (ti i1617), some (ti 0), none]) dX12_strikes_32 rfl rfl rfl ?_
      refine GO.loop1 (fun i1995 W => 0 ≤ i1995 ∧ i1995 ≤ 12 ∧ True) (fun i1995 => [some (.ref x), some (ti p0), some (ti i1617), some (ti i1995), none]) (fun i1995 W => (2147483647 - i1995).toNat) 0 ⟨by omega, by omega, trivial⟩ rfl (fun i1995 Wi1995 hp2330 ih2329 => ?_)
      obtain ⟨l_i1995, u_i1995, -⟩ := hp2330
      have r_i1995 : ir i1995 := ⟨by omega, by omega⟩
      show GO mX12_strikes K V (VS K (fun V1 => (True))) K Wi1995 0 0 33 [some (.ref x), some (ti p0), some (ti i1617), some (ti i1995), none] []
      refine GO.iload_n dX12_strikes_33 rfl rfl ?_
      refine GO.aload_n dX12_strikes_34 rfl rfl ?_
      refine GO.getA (n := 20) h_x fl_RX12_115 rfl rfl rfl rfl dX12_strikes_35 (fun hv2332 h2331 => ?_)
      refine GO.iload_n dX12_strikes_38 rfl rfl ?_
      refine GO.iald (t := 41) rfl rfl h2331 r_i1617 (by omega) (by omega) dX12_strikes_39 (fun l2333 u2334 => ?_)
      refine GO.icmp_ge (tgt := 123) dX12_strikes_40 (by decide) r_i1995 vi_ir (fun c2335 => ?_) (fun c2335 => ?_)
      ·
        refine GO.iinc (X := i1617) (n := (-1)) (Y := i1617 + (-1)) (ls1 := [some (.ref x), some (ti p0), some (ti (i1617 + (-1))), some (ti i1995), none]) dX12_strikes_123 rfl rfl rfl rfl ?_
        refine GO.goto (tgt := 27) dX12_strikes_126 (by decide) ?_
        refine GO.drop [true, true, true, false, true] rfl ?_
        exact ih1992 (i1617 + (-1)) Wi1995 ⟨by omega, by omega, trivial⟩ (by show ((i1617 + (-1)) + 2147483648).toNat < (i1617 + 2147483648).toNat; omega)
      ·
        refine GO.aload_n dX12_strikes_43 rfl rfl ?_
        refine GO.getA (n := 20) h_x fl_RX12_157 rfl rfl rfl rfl dX12_strikes_44 (fun hv2337 h2336 => ?_)
        refine GO.iload_n dX12_strikes_47 rfl rfl ?_
        refine GO.zald (t := 55) rfl rfl h2336 r_i1617 (by omega) (by omega) dX12_strikes_48 (fun l2338 u2339 => ?_)
        refine GO.if_eq (tgt := 123) dX12_strikes_49 (by decide) vi_ir (fun c2340 => ?_) (fun c2340 => ?_)
        ·
          refine GO.iinc (X := i1617) (n := (-1)) (Y := i1617 + (-1)) (ls1 := [some (.ref x), some (ti p0), some (ti (i1617 + (-1))), some (ti i1995), none]) dX12_strikes_123 rfl rfl rfl rfl ?_
          refine GO.goto (tgt := 27) dX12_strikes_126 (by decide) ?_
          refine GO.drop [true, true, true, false, true] rfl ?_
          exact ih1992 (i1617 + (-1)) Wi1995 ⟨by omega, by omega, trivial⟩ (by show ((i1617 + (-1)) + 2147483648).toNat < (i1617 + 2147483648).toNat; omega)
        ·
          refine GO.bipush dX12_strikes_52 rfl ?_
          refine GO.iload_n dX12_strikes_54 rfl rfl ?_
          refine GO.imul dX12_strikes_55 ?_
          refine GO.iload_n dX12_strikes_56 rfl rfl ?_
          refine GO.iadd dX12_strikes_57 ?_
          refine GO.name (fun z2341 hz2342 => ?_)
          refine GO.istore (ls1 := [some (.ref x), some (ti p0), some (ti i1617), some (ti i1995), some (ti z2341)]) dX12_strikes_58 rfl rfl ?_
          refine GO.aload_n dX12_strikes_60 rfl rfl ?_
          refine GO.getA (n := 240) h_x fl_RX12_124 rfl rfl rfl rfl dX12_strikes_61 (fun hv2344 h2343 => ?_)
          refine GO.iload dX12_strikes_64 rfl ?_
          refine GO.iald (t := 44) rfl rfl h2343 ⟨by omega, by omega⟩ (by omega) (by omega) dX12_strikes_66 (fun _ _ => ?_)
          refine GO.bipush dX12_strikes_67 rfl ?_
          refine GO.icmp_ne (tgt := 117) dX12_strikes_69 (by decide) vi_ir (ir_c rfl) (fun c2345 => ?_) (fun c2345 => ?_)
          ·
            refine GO.iinc (X := i1995) (n := 1) (Y := i1995 + 1) (ls1 := [some (.ref x), some (ti p0), some (ti i1617), some (ti (i1995 + 1)), some (ti z2341)]) dX12_strikes_117 rfl rfl rfl rfl ?_
            refine GO.goto (tgt := 33) dX12_strikes_120 (by decide) ?_
            refine GO.drop [true, true, true, true, false] rfl ?_
            exact ih2329 (i1995 + 1) Wi1995 ⟨by omega, by omega, trivial⟩ (by show (2147483647 - (i1995 + 1)).toNat < (2147483647 - i1995).toNat; omega)
          ·
            refine GO.aload_n dX12_strikes_72 rfl rfl ?_
            refine GO.getA (n := 240) h_x fl_RX12_160 rfl rfl rfl rfl dX12_strikes_73 (fun hv2347 h2346 => ?_)
            refine GO.iload dX12_strikes_76 rfl ?_
            refine GO.zald (t := 56) rfl rfl h2346 ⟨by omega, by omega⟩ (by omega) (by omega) dX12_strikes_78 (fun l2348 u2349 => ?_)
            refine GO.if_ne (tgt := 117) dX12_strikes_79 (by decide) vi_ir (fun c2350 => ?_) (fun c2350 => ?_)
            ·
              refine GO.iinc (X := i1995) (n := 1) (Y := i1995 + 1) (ls1 := [some (.ref x), some (ti p0), some (ti i1617), some (ti (i1995 + 1)), some (ti z2341)]) dX12_strikes_117 rfl rfl rfl rfl ?_
              refine GO.goto (tgt := 33) dX12_strikes_120 (by decide) ?_
              refine GO.drop [true, true, true, true, false] rfl ?_
              exact ih2329 (i1995 + 1) Wi1995 ⟨by omega, by omega, trivial⟩ (by show (2147483647 - (i1995 + 1)).toNat < (2147483647 - i1995).toNat; omega)
            ·
              refine GO.aload_n dX12_strikes_82 rfl rfl ?_
              refine GO.getA (n := 240) h_x fl_RX12_136 rfl rfl rfl rfl dX12_strikes_83 (fun hv2352 h2351 => ?_)
              refine GO.iload dX12_strikes_86 rfl ?_
              refine GO.iald (t := 48) rfl rfl h2351 ⟨by omega, by omega⟩ (by omega) (by omega) dX12_strikes_88 (fun l2353 u2354 => ?_)
              refine GO.iload_n dX12_strikes_89 rfl rfl ?_
              refine GO.icmp_ge (tgt := 117) dX12_strikes_90 (by decide) vi_ir r_i1617 (fun c2355 => ?_) (fun c2355 => ?_)
              ·
                refine GO.iinc (X := i1995) (n := 1) (Y := i1995 + 1) (ls1 := [some (.ref x), some (ti p0), some (ti i1617), some (ti (i1995 + 1)), some (ti z2341)]) dX12_strikes_117 rfl rfl rfl rfl ?_
                refine GO.goto (tgt := 33) dX12_strikes_120 (by decide) ?_
                refine GO.drop [true, true, true, true, false] rfl ?_
                exact ih2329 (i1995 + 1) Wi1995 ⟨by omega, by omega, trivial⟩ (by show (2147483647 - (i1995 + 1)).toNat < (2147483647 - i1995).toNat; omega)
              ·
                refine GO.aload_n dX12_strikes_93 rfl rfl ?_
                refine GO.getRaw h_x fl_RX12_160 hv2347 dX12_strikes_94 ?_
                refine GO.bipush dX12_strikes_97 rfl ?_
                refine GO.aload_n dX12_strikes_99 rfl rfl ?_
                refine GO.getRaw h_x fl_RX12_136 hv2352 dX12_strikes_100 ?_
                refine GO.iload dX12_strikes_103 rfl ?_
                refine GO.iald (t := 48) rfl rfl h2351 ⟨by omega, by omega⟩ (by omega) (by omega) dX12_strikes_105 (fun l2360 u2361 => ?_)
                refine GO.imul dX12_strikes_106 ?_
                refine GO.aload_n dX12_strikes_107 rfl rfl ?_
                refine GO.getA (n := 240) h_x fl_RX12_139 rfl rfl rfl rfl dX12_strikes_108 (fun hv2363 h2362 => ?_)
                refine GO.iload dX12_strikes_111 rfl ?_
                refine GO.iald (t := 49) rfl rfl h2362 ⟨by omega, by omega⟩ (by omega) (by omega) dX12_strikes_113 (fun l2364 u2365 => ?_)
                refine GO.iadd dX12_strikes_114 ?_
                refine GO.iconst dX12_strikes_115 ?_
                refine GO.zast (t := 56) rfl rfl (by decide +kernel) h2346 ⟨by omega, by omega⟩ (by omega) (by omega) (by omega) (by omega) (by omega) dX12_strikes_116 (fun V2367 e2366 => ?_)
                refine GO.iinc (X := i1995) (n := 1) (Y := i1995 + 1) (ls1 := [some (.ref x), some (ti p0), some (ti i1617), some (ti (i1995 + 1)), some (ti z2341)]) dX12_strikes_117 rfl rfl rfl rfl ?_
                refine GO.goto (tgt := 33) dX12_strikes_120 (by decide) ?_
                refine GO.drop [true, true, true, true, false] rfl ?_
                exact ih2329 (i1995 + 1) V2367 ⟨by omega, by omega, trivial⟩ (by show (2147483647 - (i1995 + 1)).toNat < (2147483647 - i1995).toNat; omega)
  ·
    refine GO.aload_n dX12_strikes_10 rfl rfl ?_
    refine GO.getA (n := 240) h_x fl_RX12_160 rfl rfl rfl rfl dX12_strikes_11 (fun hv2369 h2368 => ?_)
    refine GO.iload_n dX12_strikes_14 rfl rfl ?_
    refine GO.iconst dX12_strikes_15 ?_
    refine GO.zast (t := 56) rfl rfl (by decide +kernel) h2368 r_i1 (by omega) (by omega) (by omega) (by omega) (by omega) dX12_strikes_16 (fun V2371 e2370 => ?_)
    refine GO.iinc (X := i1) (n := 1) (Y := i1 + 1) (ls1 := [some (.ref x), some (ti p0), some (ti (i1 + 1)), none, none]) dX12_strikes_17 rfl rfl rfl rfl ?_
    refine GO.goto (tgt := 2) dX12_strikes_20 (by decide) ?_
    exact ih1611 (i1 + 1) V2371 ⟨by omega, by omega, trivial⟩ (by show (2147483647 - (i1 + 1)).toNat < (2147483647 - i1).toNat; omega)

set_option maxHeartbeats 1000000 in
theorem t_X12_numberBy {K : Kmap} {V : Vmap} {x : Nat} {p0 : Int} {p1 : Int} {p2 : Int} {p3 : Int} (h_x : K x = some (0, 11)) (r_p0 : ir p0) (r_p1 : ir p1) (r_p2 : ir p2) (r_p3 : ir p3) (q_0 : p3 ≥ 0) (q_1 : p3 ≤ 20) : MC mX12_numberBy K V [.ref x, ti p0, ti p1, ti p2, ti p3] (IP K V (fun X => True)) := by
  refine MC.start 3 (by decide +kernel) rfl rfl rfl (ls0 := [some (.ref x), some (ti p0), some (ti p1), some (ti p2), some (ti p3), none, none, none]) rfl ?_
  refine GO.iload dX12_numberBy_0 rfl ?_
  refine GO.iconst dX12_numberBy_2 ?_
  refine GO.isub dX12_numberBy_3 ?_
  refine GO.name (fun z1 hz2 => ?_)
  refine GO.istore (ls1 := [some (.ref x), some (ti p0), some (ti p1), some (ti p2), some (ti p3), some (ti z1), none, none]) dX12_numberBy_4 rfl rfl ?_
  have q74 : -2147483648 ≤ p3 ∧ p3 ≤ 2147483647 := r_p3
  refine GO.loop1 (fun i3 W => (-1) ≤ i3 ∧ i3 ≤ 19 ∧ V = W) (fun i3 => [some (.ref x), some (ti p0), some (ti p1), some (ti p2), some (ti p3), some (ti i3), none, none]) (fun i3 W => (i3 + 2147483648).toNat) z1 ⟨by omega, by omega, rfl⟩ rfl (fun i3 V73 hp76 ih75 => ?_)
  obtain ⟨l_i3, u_i3, rfl⟩ := hp76
  have r_i3 : ir i3 := ⟨by omega, by omega⟩
  show GO mX12_numberBy K V (IP K V (fun X => True)) K V 0 0 6 [some (.ref x), some (ti p0), some (ti p1), some (ti p2), some (ti p3), some (ti i3), none, none] []
  refine GO.iload dX12_numberBy_6 rfl ?_
  refine GO.if_lt (tgt := 110) dX12_numberBy_8 (by decide) r_i3 (fun c77 => ?_) (fun c77 => ?_)
  ·
    refine GO.iconst dX12_numberBy_110 ?_
    exact GO.reti rfl rfl dX12_numberBy_111 ⟨rfl, rfl, _, rfl, (ir_c rfl), trivial⟩
  ·
    refine GO.aload_n dX12_numberBy_11 rfl rfl ?_
    refine GO.getA (n := 20) h_x fl_RX12_115 rfl rfl rfl rfl dX12_numberBy_12 (fun hv79 h78 => ?_)
    refine GO.iload dX12_numberBy_15 rfl ?_
    refine GO.iald (t := 41) rfl rfl h78 r_i3 (by omega) (by omega) dX12_numberBy_17 (fun l80 u81 => ?_)
    refine GO.iconst dX12_numberBy_18 ?_
    refine GO.isub dX12_numberBy_19 ?_
    refine GO.name (fun z82 hz83 => ?_)
    refine GO.istore (ls1 := [some (.ref x), some (ti p0), some (ti p1), some (ti p2), some (ti p3), some (ti i3), some (ti z82), none]) dX12_numberBy_20 rfl rfl ?_
    refine GO.loop1 (fun i84 W => (-1) ≤ i84 ∧ i84 ≤ 11 ∧ V = W) (fun i84 => [some (.ref x), some (ti p0), some (ti p1), some (ti p2), some (ti p3), some (ti i3), some (ti i84), none]) (fun i84 W => (i84 + 2147483648).toNat) z82 ⟨by omega, by omega, rfl⟩ rfl (fun i84 V114 hp116 ih115 => ?_)
    obtain ⟨l_i84, u_i84, rfl⟩ := hp116
    have r_i84 : ir i84 := ⟨by omega, by omega⟩
    show GO mX12_numberBy K V (IP K V (fun X => True)) K V 0 0 22 [some (.ref x), some (ti p0), some (ti p1), some (ti p2), some (ti p3), some (ti i3), some (ti i84), none] []
    refine GO.iload dX12_numberBy_22 rfl ?_
    refine GO.if_lt (tgt := 104) dX12_numberBy_24 (by decide) r_i84 (fun c117 => ?_) (fun c117 => ?_)
    ·
      refine GO.iinc (X := i3) (n := (-1)) (Y := i3 + (-1)) (ls1 := [some (.ref x), some (ti p0), some (ti p1), some (ti p2), some (ti p3), some (ti (i3 + (-1))), some (ti i84), none]) dX12_numberBy_104 rfl rfl rfl rfl ?_
      refine GO.goto (tgt := 6) dX12_numberBy_107 (by decide) ?_
      refine GO.drop [true, true, true, true, true, true, false, true] rfl ?_
      exact ih75 (i3 + (-1)) V ⟨by omega, by omega, rfl⟩ (by show ((i3 + (-1)) + 2147483648).toNat < (i3 + 2147483648).toNat; omega)
    ·
      refine GO.aload_n dX12_numberBy_27 rfl rfl ?_
      refine GO.getA (n := 20) h_x fl_RX12_157 rfl rfl rfl rfl dX12_numberBy_28 (fun hv119 h118 => ?_)
      refine GO.iload dX12_numberBy_31 rfl ?_
      refine GO.zald (t := 55) rfl rfl h118 r_i3 (by omega) (by omega) dX12_numberBy_33 (fun l120 u121 => ?_)
      refine GO.if_eq (tgt := 104) dX12_numberBy_34 (by decide) vi_ir (fun c122 => ?_) (fun c122 => ?_)
      ·
        refine GO.iinc (X := i3) (n := (-1)) (Y := i3 + (-1)) (ls1 := [some (.ref x), some (ti p0), some (ti p1), some (ti p2), some (ti p3), some (ti (i3 + (-1))), some (ti i84), none]) dX12_numberBy_104 rfl rfl rfl rfl ?_
        refine GO.goto (tgt := 6) dX12_numberBy_107 (by decide) ?_
        refine GO.drop [true, true, true, true, true, true, false, true] rfl ?_
        exact ih75 (i3 + (-1)) V ⟨by omega, by omega, rfl⟩ (by show ((i3 + (-1)) + 2147483648).toNat < (i3 + 2147483648).toNat; omega)
      ·
        refine GO.bipush dX12_numberBy_37 rfl ?_
        refine GO.iload dX12_numberBy_39 rfl ?_
        refine GO.imul dX12_numberBy_41 ?_
        refine GO.iload dX12_numberBy_42 rfl ?_
        refine GO.iadd dX12_numberBy_44 ?_
        refine GO.name (fun z123 hz124 => ?_)
        refine GO.istore (ls1 := [some (.ref x), some (ti p0), some (ti p1), some (ti p2), some (ti p3), some (ti i3), some (ti i84), some (ti z123)]) dX12_numberBy_45 rfl rfl ?_
        refine GO.aload_n dX12_numberBy_47 rfl rfl ?_
        refine GO.getA (n := 240) h_x fl_RX12_124 rfl rfl rfl rfl dX12_numberBy_48 (fun hv126 h125 => ?_)
        refine GO.iload dX12_numberBy_51 rfl ?_
        refine GO.iald (t := 44) rfl rfl h125 ⟨by omega, by omega⟩ (by omega) (by omega) dX12_numberBy_53 (fun _ _ => ?_)
        refine GO.iload_n dX12_numberBy_54 rfl rfl ?_
        refine GO.icmp_ne (tgt := 98) dX12_numberBy_55 (by decide) vi_ir r_p0 (fun c127 => ?_) (fun c127 => ?_)
        ·
          refine GO.iinc (X := i84) (n := (-1)) (Y := i84 + (-1)) (ls1 := [some (.ref x), some (ti p0), some (ti p1), some (ti p2), some (ti p3), some (ti i3), some (ti (i84 + (-1))), some (ti z123)]) dX12_numberBy_98 rfl rfl rfl rfl ?_
          refine GO.goto (tgt := 22) dX12_numberBy_101 (by decide) ?_
          refine GO.drop [true, true, true, true, true, true, true, false] rfl ?_
          exact ih115 (i84 + (-1)) V ⟨by omega, by omega, rfl⟩ (by show ((i84 + (-1)) + 2147483648).toNat < (i84 + 2147483648).toNat; omega)
        ·
          refine GO.aload_n dX12_numberBy_58 rfl rfl ?_
          refine GO.getA (n := 240) h_x fl_RX12_160 rfl rfl rfl rfl dX12_numberBy_59 (fun hv129 h128 => ?_)
          refine GO.iload dX12_numberBy_62 rfl ?_
          refine GO.zald (t := 56) rfl rfl h128 ⟨by omega, by omega⟩ (by omega) (by omega) dX12_numberBy_64 (fun l130 u131 => ?_)
          refine GO.if_ne (tgt := 98) dX12_numberBy_65 (by decide) vi_ir (fun c132 => ?_) (fun c132 => ?_)
          ·
            refine GO.iinc (X := i84) (n := (-1)) (Y := i84 + (-1)) (ls1 := [some (.ref x), some (ti p0), some (ti p1), some (ti p2), some (ti p3), some (ti i3), some (ti (i84 + (-1))), some (ti z123)]) dX12_numberBy_98 rfl rfl rfl rfl ?_
            refine GO.goto (tgt := 22) dX12_numberBy_101 (by decide) ?_
            refine GO.drop [true, true, true, true, true, true, true, false] rfl ?_
            exact ih115 (i84 + (-1)) V ⟨by omega, by omega, rfl⟩ (by show ((i84 + (-1)) + 2147483648).toNat < (i84 + 2147483648).toNat; omega)
          ·
            refine GO.aload_n dX12_numberBy_68 rfl rfl ?_
            refine GO.getA (n := 240) h_x fl_RX12_136 rfl rfl rfl rfl dX12_numberBy_69 (fun hv134 h133 => ?_)
            refine GO.iload dX12_numberBy_72 rfl ?_
            refine GO.iald (t := 48) rfl rfl h133 ⟨by omega, by omega⟩ (by omega) (by omega) dX12_numberBy_74 (fun l135 u136 => ?_)
            refine GO.iload_n dX12_numberBy_75 rfl rfl ?_
            refine GO.icmp_ne (tgt := 98) dX12_numberBy_76 (by decide) vi_ir r_p1 (fun c137 => ?_) (fun c137 => ?_)
            ·
              refine GO.iinc (X := i84) (n := (-1)) (Y := i84 + (-1)) (ls1 := [some (.ref x), some (ti p0), some (ti p1), some (ti p2), some (ti p3), some (ti i3), some (ti (i84 + (-1))), some (ti z123)]) dX12_numberBy_98 rfl rfl rfl rfl ?_
              refine GO.goto (tgt := 22) dX12_numberBy_101 (by decide) ?_
              refine GO.drop [true, true, true, true, true, true, true, false] rfl ?_
              exact ih115 (i84 + (-1)) V ⟨by omega, by omega, rfl⟩ (by show ((i84 + (-1)) + 2147483648).toNat < (i84 + 2147483648).toNat; omega)
            ·
              refine GO.aload_n dX12_numberBy_79 rfl rfl ?_
              refine GO.getA (n := 240) h_x fl_RX12_139 rfl rfl rfl rfl dX12_numberBy_80 (fun hv139 h138 => ?_)
              refine GO.iload dX12_numberBy_83 rfl ?_
              refine GO.iald (t := 49) rfl rfl h138 ⟨by omega, by omega⟩ (by omega) (by omega) dX12_numberBy_85 (fun l140 u141 => ?_)
              refine GO.iload_n dX12_numberBy_86 rfl rfl ?_
              refine GO.icmp_ne (tgt := 98) dX12_numberBy_87 (by decide) vi_ir r_p2 (fun c142 => ?_) (fun c142 => ?_)
              ·
                refine GO.iinc (X := i84) (n := (-1)) (Y := i84 + (-1)) (ls1 := [some (.ref x), some (ti p0), some (ti p1), some (ti p2), some (ti p3), some (ti i3), some (ti (i84 + (-1))), some (ti z123)]) dX12_numberBy_98 rfl rfl rfl rfl ?_
                refine GO.goto (tgt := 22) dX12_numberBy_101 (by decide) ?_
                refine GO.drop [true, true, true, true, true, true, true, false] rfl ?_
                exact ih115 (i84 + (-1)) V ⟨by omega, by omega, rfl⟩ (by show ((i84 + (-1)) + 2147483648).toNat < (i84 + 2147483648).toNat; omega)
              ·
                refine GO.aload_n dX12_numberBy_90 rfl rfl ?_
                refine GO.getA (n := 240) h_x fl_RX12_133 rfl rfl rfl rfl dX12_numberBy_91 (fun hv144 h143 => ?_)
                refine GO.iload dX12_numberBy_94 rfl ?_
                refine GO.iald (t := 47) rfl rfl h143 ⟨by omega, by omega⟩ (by omega) (by omega) dX12_numberBy_96 (fun _ _ => ?_)
                have q145 : -2147483648 ≤ vi V (vq V x 56) (z123).toNat ∧ vi V (vq V x 56) (z123).toNat ≤ 2147483647 := vi_ir
                exact GO.reti rfl rfl dX12_numberBy_97 ⟨rfl, rfl, _, rfl, vi_ir, trivial⟩
