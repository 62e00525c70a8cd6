def mX11_cell : MRec := (RX11, cX11_cell, 8, (some .boolean), yX11_cell, 1, 22, 0, 0, 3794275180128377091639574036764685364535950857523710002444946112771297432041422848)
def mX11_areYearDays : MRec := (RX11, cX11_areYearDays, 2, (some .boolean), yX11_areYearDays, 0, 0, 0, 0, 0)
def mX11_dark : MRec := (RX11, cX11_dark, 3, (some .boolean), yX11_dark, 1, 21, 0, 0, 6)
def mX11_party : MRec := (RX11, cX11_party, 2, (some .int), yX11_party, 2, 43, 3, 32, 10328999512347634358623676688012047497383325849379076461880510184787590139264475943096484493303320211486559956209319804928)
def mX11_partyOf : MRec := (RX11, cX11_partyOf, 2, (some (.object "IceTreaty$Party")), yX11_partyOf, 0, 0, 0, 0, 0)
def mX11_claimsAreAsleep : MRec := (RX11, cX11_claimsAreAsleep, 3, (some .boolean), yX11_claimsAreAsleep, 5, 127, 0, 0, 3794275180128377091639574036764685364535950857523710002444946112771297432042995712)
def mX11_settle : MRec := (RX11, cX11_settle, 2, (some .int), yX11_settle, 0, 0, 0, 0, 121416805764108066932466369176469931665150427440758760643057482912022365719828103168)
def mX11_claim : MRec := (RX11, cX11_claim, 6, (some .int), yX11_claim, 6, 149, 3, 2420, 351185983419819568193205007392409614908965198905718634188993778432741311211320088847930050516744247504307625051445530198016)
def mX11_anyPlace : MRec := (RX11, cX11_anyPlace, 2, (some (.object "IceTreaty$Place")), yX11_anyPlace, 0, 0, 0, 0, 0)
def mX11_placeOf : MRec := (RX11, cX11_placeOf, 4, (some (.object "IceTreaty$Place")), yX11_placeOf, 1, 21, 0, 0, 0)
def mX11_title : MRec := (RX11, cX11_title, 5, (some .boolean), yX11_title, 6, 149, 0, 0, 3794275180128377091639574036764685364535950857523710002444946112771297466402734080)
def mX11_tally : MRec := (RX11, cX11_tally, 3, (none : Option Jvm.ClassFile.FieldType), yX11_tally, 0, 0, 0, 0, 7588550360256754183279148073529370729071901715047420004889892225542594864082845696)
def mX11_station : MRec := (RX11, cX11_station, 7, (some .int), yX11_station, 3, 68, 3, 2420, 351185983419819568193205007392409614908972787456078890943177057580814840582049160749645097936749137396533167648920951586816)
def mX11_standingStation : MRec := (RX11, cX11_standingStation, 3, (some (.object "IceTreaty$Place")), yX11_standingStation, 2, 44, 0, 0, 0)
def mX11_field : MRec := (RX11, cX11_field, 4, (some .int), yX11_field, 3, 68, 3, 2420, 351185983419819568193205007392409614908965198905718634188993778432741311211320088847930050516744247504307625051445528625152)
set_option maxHeartbeats 1000000 in
theorem t_X11_cell {K : Kmap} {V : Vmap} {x : Nat} {p0 : Int} {p1 : Int} {p2 : Int} {p3 : Int} {p4 : Int} (h_x : K x = some (0, 10)) (r_p0 : ir p0) (r_p1 : ir p1) (r_p2 : ir p2) (r_p3 : ir p3) (r_p4 : ir p4) : MC mX11_cell K V [.ref x, ti p0, ti p1, ti p2, ti p3, ti p4] (IS K (fun X V1 => (X = 0 ∨ X = 1) ∧ (X ≠ 0 → True) ∧ (X = 0 → True))) := by
  refine MC.start 2 (by decide +kernel) rfl rfl rfl (ls0 := [some (.ref x), some (ti p0), some (ti p1), some (ti p2), some (ti p3), some (ti p4), none, none]) rfl ?_
  refine GO.iload dX11_cell_0 rfl ?_
  refine GO.iconst dX11_cell_2 ?_
  have hj4 : ∀ (z3 : Int), ∀ (l5 : 0 ≤ z3), ∀ (u6 : z3 ≤ 1), GO mX11_cell K V (IS K (fun X V1 => (X = 0 ∨ X = 1) ∧ (X ≠ 0 → True) ∧ (X = 0 → True))) K V 0 0 16 [some (.ref x), some (ti p0), some (ti p1), some (ti p2), some (ti p3), some (ti p4), none, none] [ti z3] := by
    intro z3 l5 u6
    have r7 : ir z3 := ⟨by omega, by omega⟩
    refine GO.istore (ls1 := [some (.ref x), some (ti p0), some (ti p1), some (ti p2), some (ti p3), some (ti p4), some (ti z3), none]) dX11_cell_16 rfl rfl ?_
    refine GO.iload dX11_cell_18 rfl ?_
    refine GO.iconst dX11_cell_20 ?_
    refine GO.bipush dX11_cell_21 rfl ?_
    refine GO.callS (N := mX11_between) dX11_cell_23 gS_RX11_112 (t_X11_between r_p3 (ir_c rfl) (ir_c rfl)) rfl [] rfl rfl (Nat.le_of_ble_eq_true rfl) rfl (k_ip fun X8 r9 h10 => ?_)
    have hj21 : ∀ (z20 : Int), ∀ (l22 : 0 ≤ z20), ∀ (u23 : z20 ≤ 1), GO mX11_cell K V (IS K (fun X V1 => (X = 0 ∨ X = 1) ∧ (X ≠ 0 → True) ∧ (X = 0 → True))) K V 0 0 47 [some (.ref x), some (ti p0), some (ti p1), some (ti p2), some (ti p3), some (ti p4), some (ti z3), none] [ti z20] := by
      intro z20 l22 u23
      have r24 : ir z20 := ⟨by omega, by omega⟩
      refine GO.istore (ls1 := [some (.ref x), some (ti p0), some (ti p1), some (ti p2), some (ti p3), some (ti p4), some (ti z3), some (ti z20)]) dX11_cell_47 rfl rfl ?_
      refine GO.aload_n dX11_cell_49 rfl rfl ?_
      refine GO.getR h_x fl_RX11_12 rfl rfl dX11_cell_50 (fun hv26 h25 => ?_)
      refine GO.iload_n dX11_cell_53 rfl rfl ?_
      refine GO.callV (ci := 0) (N := mX0_isCell) dX11_cell_54 (RX0, TX0, 13) rfl gV_RX11_119 h25 (t_X0_isCell h25 r_p0) rfl [] rfl rfl (Nat.le_of_ble_eq_true rfl) rfl (k_ip fun X27 r28 h29 => ?_)
      refine GO.if_eq (tgt := 89) dX11_cell_57 (by decide) r28 (fun c30 => ?_) (fun c30 => ?_)
      ·
        refine GO.iconst dX11_cell_89 ?_
        exact GO.retz rfl rfl dX11_cell_90 (Or.inl rfl) ⟨rfl, _, rfl, (ir_c rfl), ⟨Or.inl rfl, fun _ => trivial, fun _ => trivial⟩⟩
      ·
        refine GO.iload_n dX11_cell_60 rfl rfl ?_
        refine GO.iconst dX11_cell_61 ?_
        refine GO.bipush dX11_cell_62 rfl ?_
        refine GO.callS (N := mX11_between) dX11_cell_64 gS_RX11_112 (t_X11_between r_p1 (ir_c rfl) (ir_c rfl)) rfl [] rfl rfl (Nat.le_of_ble_eq_true rfl) rfl (k_ip fun X31 r32 h33 => ?_)
        refine GO.if_eq (tgt := 89) dX11_cell_67 (by decide) r32 (fun c34 => ?_) (fun c34 => ?_)
        ·
          have q35 := h33.2.2 (by omega)
          refine GO.iconst dX11_cell_89 ?_
          exact GO.retz rfl rfl dX11_cell_90 (Or.inl rfl) ⟨rfl, _, rfl, (ir_c rfl), ⟨Or.inl rfl, fun _ => trivial, fun _ => trivial⟩⟩
        ·
          have q36 := h33.2.1 (by omega)
          refine GO.iload_n dX11_cell_70 rfl rfl ?_
          refine GO.iconst dX11_cell_71 ?_
          refine GO.iconst dX11_cell_72 ?_
          refine GO.callS (N := mX11_between) dX11_cell_73 gS_RX11_112 (t_X11_between r_p2 (ir_c rfl) (ir_c rfl)) rfl [] rfl rfl (Nat.le_of_ble_eq_true rfl) rfl (k_ip fun X37 r38 h39 => ?_)
          refine GO.if_eq (tgt := 89) dX11_cell_76 (by decide) r38 (fun c40 => ?_) (fun c40 => ?_)
          ·
            have q41 := h39.2.2 (by omega)
            refine GO.iconst dX11_cell_89 ?_
            exact GO.retz rfl rfl dX11_cell_90 (Or.inl rfl) ⟨rfl, _, rfl, (ir_c rfl), ⟨Or.inl rfl, fun _ => trivial, fun _ => trivial⟩⟩
          ·
            have q42 := h39.2.1 (by omega)
            refine GO.iload dX11_cell_79 rfl ?_
            have hj45 : GO mX11_cell K V (IS K (fun X V1 => (X = 0 ∨ X = 1) ∧ (X ≠ 0 → True) ∧ (X = 0 → True))) K V 0 0 91 [some (.ref x), some (ti p0), some (ti p1), some (ti p2), some (ti p3), some (ti p4), some (ti z3), some (ti z20)] [] := by
              skip
              refine GO.aload_n dX11_cell_91 rfl rfl ?_
              refine GO.getRaw h_x fl_RX11_12 hv26 dX11_cell_92 ?_
              refine GO.getB h25 fl_RX11_123 rfl rfl dX11_cell_95 (fun n50 hv49 h48 b51 => ?_)
              refine GO.iload_n dX11_cell_98 rfl rfl ?_
              refine GO.iload_n dX11_cell_99 rfl rfl ?_
              refine GO.callS (N := mX4_put) dX11_cell_100 gS_RX11_108 (t_X4_put h48 r_p0 r_p1) rfl [] rfl rfl (Nat.le_of_ble_eq_true rfl) rfl (k_vs fun V54 h53 hF52 => ?_)
              refine GO.aload_n dX11_cell_103 rfl rfl ?_
              refine GO.getRaw h_x fl_RX11_12 (Eq.trans (hF52 _ _ _ h_x h_x (by decide +kernel)) hv26) dX11_cell_104 ?_
              refine GO.getB h25 fl_RX11_126 rfl rfl dX11_cell_107 (fun n59 hv58 h57 b60 => ?_)
              refine GO.iload_n dX11_cell_110 rfl rfl ?_
              refine GO.iload_n dX11_cell_111 rfl rfl ?_
              refine GO.callS (N := mX4_put) dX11_cell_112 gS_RX11_108 (t_X4_put h57 r_p0 r_p2) rfl [] rfl rfl (Nat.le_of_ble_eq_true rfl) rfl (k_vs fun V63 h62 hF61 => ?_)
              refine GO.aload_n dX11_cell_115 rfl rfl ?_
              refine GO.getRaw h_x fl_RX11_12 (Eq.trans (hF61 _ _ _ h_x h_x (by decide +kernel)) (Eq.trans (hF52 _ _ _ h_x h_x (by decide +kernel)) hv26)) dX11_cell_116 ?_
              refine GO.getB h25 fl_RX11_129 rfl rfl dX11_cell_119 (fun n68 hv67 h66 b69 => ?_)
              refine GO.iload_n dX11_cell_122 rfl rfl ?_
              refine GO.iload dX11_cell_123 rfl ?_
              refine GO.callS (N := mX4_put) dX11_cell_125 gS_RX11_108 (t_X4_put h66 r_p0 r_p3) rfl [] rfl rfl (Nat.le_of_ble_eq_true rfl) rfl (k_vs fun V72 h71 hF70 => ?_)
              refine GO.aload_n dX11_cell_128 rfl rfl ?_
              refine GO.getRaw h_x fl_RX11_12 (Eq.trans (hF70 _ _ _ h_x h_x (by decide +kernel)) (Eq.trans (hF61 _ _ _ h_x h_x (by decide +kernel)) (Eq.trans (hF52 _ _ _ h_x h_x (by decide +kernel)) hv26))) dX11_cell_129 ?_
              refine GO.getB h25 fl_RX11_132 rfl rfl dX11_cell_132 (fun n77 hv76 h75 b78 => ?_)
              refine GO.iload_n dX11_cell_135 rfl rfl ?_
              refine GO.iload dX11_cell_136 rfl ?_
              refine GO.callS (N := mX4_put) dX11_cell_138 gS_RX11_108 (t_X4_put h75 r_p0 r_p4) rfl [] rfl rfl (Nat.le_of_ble_eq_true rfl) rfl (k_vs fun V81 h80 hF79 => ?_)
              refine GO.iconst dX11_cell_141 ?_
              exact GO.retz rfl rfl dX11_cell_142 (Or.inr rfl) ⟨rfl, _, rfl, (ir_c rfl), ⟨Or.inr rfl, fun _ => trivial, fun _ => trivial⟩⟩
            refine GO.if_ne (tgt := 91) dX11_cell_81 (by decide) r7 (fun c82 => ?_) (fun c82 => ?_)
            ·
              exact hj45 
            ·
              refine GO.iload dX11_cell_84 rfl ?_
              refine GO.if_ne (tgt := 91) dX11_cell_86 (by decide) r24 (fun c83 => ?_) (fun c83 => ?_)
              ·
                exact hj45 
              ·
                refine GO.iconst dX11_cell_89 ?_
                exact GO.retz rfl rfl dX11_cell_90 (Or.inl rfl) ⟨rfl, _, rfl, (ir_c rfl), ⟨Or.inl rfl, fun _ => trivial, fun _ => trivial⟩⟩
    have hj93 : GO mX11_cell K V (IS K (fun X V1 => (X = 0 ∨ X = 1) ∧ (X ≠ 0 → True) ∧ (X = 0 → True))) K V 0 0 46 [some (.ref x), some (ti p0), some (ti p1), some (ti p2), some (ti p3), some (ti p4), some (ti z3), none] [] := by
      skip
      refine GO.iconst dX11_cell_46 ?_
      exact hj21 0 (by omega) (by omega)
    refine GO.if_eq (tgt := 46) dX11_cell_26 (by decide) r9 (fun c94 => ?_) (fun c94 => ?_)
    ·
      have q95 := h10.2.2 (by omega)
      exact hj93 
    ·
      have q96 := h10.2.1 (by omega)
      refine GO.iload dX11_cell_29 rfl ?_
      refine GO.bipush dX11_cell_31 rfl ?_
      refine GO.sipush dX11_cell_33 rfl ?_
      refine GO.callS (N := mX11_between) dX11_cell_36 gS_RX11_112 (t_X11_between r_p4 (ir_c rfl) (ir_c rfl)) rfl [] rfl rfl (Nat.le_of_ble_eq_true rfl) rfl (k_ip fun X97 r98 h99 => ?_)
      refine GO.if_eq (tgt := 46) dX11_cell_39 (by decide) r98 (fun c100 => ?_) (fun c100 => ?_)
      ·
        have q101 := h99.2.2 (by omega)
        exact hj93 
      ·
        have q102 := h99.2.1 (by omega)
        refine GO.iconst dX11_cell_42 ?_
        refine GO.goto (tgt := 47) dX11_cell_43 (by decide) ?_
        exact hj21 1 (by omega) (by omega)
  have hj105 : GO mX11_cell K V (IS K (fun X V1 => (X = 0 ∨ X = 1) ∧ (X ≠ 0 → True) ∧ (X = 0 → True))) K V 0 0 15 [some (.ref x), some (ti p0), some (ti p1), some (ti p2), some (ti p3), some (ti p4), none, none] [] := by
    skip
    refine GO.iconst dX11_cell_15 ?_
    exact hj4 0 (by omega) (by omega)
  refine GO.icmp_ne (tgt := 15) dX11_cell_3 (by decide) r_p3 (ir_c rfl) (fun c106 => ?_) (fun c106 => ?_)
  ·
    exact hj105 
  ·
    refine GO.iload dX11_cell_6 rfl ?_
    refine GO.if_ne (tgt := 15) dX11_cell_8 (by decide) r_p4 (fun c107 => ?_) (fun c107 => ?_)
    ·
      exact hj105 
    ·
      refine GO.iconst dX11_cell_11 ?_
      refine GO.goto (tgt := 16) dX11_cell_12 (by decide) ?_
      exact hj4 1 (by omega) (by omega)

set_option maxHeartbeats 1000000 in
theorem t_X11_areYearDays {K : Kmap} {V : Vmap} {p0 : Int} {p1 : Int} (r_p0 : ir p0) (r_p1 : ir p1) : MC mX11_areYearDays K V [ti p0, ti p1] (IP K V (fun X => (X = 0 ∨ X = 1) ∧ (X ≠ 0 → p0 ≥ 0 ∧ p0 ≤ 359 ∧ p1 ≥ p0 ∧ p1 ≤ 359) ∧ (X = 0 → (p0 < 0 ∨ p0 > 359 ∨ p1 < p0 ∨ p1 > 359)))) := by
  refine MC.start 0 (by decide +kernel) rfl rfl rfl (ls0 := [some (ti p0), some (ti p1)]) rfl ?_
  refine GO.iload_n dX11_areYearDays_0 rfl rfl ?_
  refine GO.if_lt (tgt := 20) dX11_areYearDays_1 (by decide) r_p0 (fun c1 => ?_) (fun c1 => ?_)
  ·
    refine GO.iconst dX11_areYearDays_20 ?_
    exact GO.retz rfl rfl dX11_areYearDays_21 (Or.inl rfl) ⟨rfl, rfl, _, rfl, (ir_c rfl), ⟨Or.inl rfl, fun h => absurd rfl h, fun h => by omega⟩⟩
  ·
    refine GO.iload_n dX11_areYearDays_4 rfl rfl ?_
    refine GO.iload_n dX11_areYearDays_5 rfl rfl ?_
    refine GO.icmp_gt (tgt := 20) dX11_areYearDays_6 (by decide) r_p0 r_p1 (fun c2 => ?_) (fun c2 => ?_)
    ·
      refine GO.iconst dX11_areYearDays_20 ?_
      exact GO.retz rfl rfl dX11_areYearDays_21 (Or.inl rfl) ⟨rfl, rfl, _, rfl, (ir_c rfl), ⟨Or.inl rfl, fun h => absurd rfl h, fun h => by omega⟩⟩
    ·
      refine GO.iload_n dX11_areYearDays_9 rfl rfl ?_
      refine GO.sipush dX11_areYearDays_10 rfl ?_
      refine GO.icmp_ge (tgt := 20) dX11_areYearDays_13 (by decide) r_p1 (ir_c rfl) (fun c3 => ?_) (fun c3 => ?_)
      ·
        refine GO.iconst dX11_areYearDays_20 ?_
        exact GO.retz rfl rfl dX11_areYearDays_21 (Or.inl rfl) ⟨rfl, rfl, _, rfl, (ir_c rfl), ⟨Or.inl rfl, fun h => absurd rfl h, fun h => by omega⟩⟩
      ·
        refine GO.iconst dX11_areYearDays_16 ?_
        refine GO.goto (tgt := 21) dX11_areYearDays_17 (by decide) ?_
        exact GO.retz rfl rfl dX11_areYearDays_21 (Or.inr rfl) ⟨rfl, rfl, _, rfl, (ir_c rfl), ⟨Or.inr rfl, fun h => by omega, fun h => absurd h (by decide)⟩⟩

set_option maxHeartbeats 1000000 in
theorem t_X11_dark {K : Kmap} {V : Vmap} {x : Nat} {p0 : Int} {p1 : Int} (h_x : K x = some (0, 10)) (r_p0 : ir p0) (r_p1 : ir p1) : MC mX11_dark K V [.ref x, ti p0, ti p1] (IS K (fun X V1 => (X = 0 ∨ X = 1) ∧ (X ≠ 0 → p0 ≥ 0 ∧ p0 ≤ 359 ∧ p1 ≥ p0 ∧ p1 ≤ 359) ∧ (X = 0 → (p0 < 0 ∨ p0 > 359 ∨ p1 < p0 ∨ p1 > 359)))) := by
  refine MC.start 0 (by decide +kernel) rfl rfl rfl (ls0 := [some (.ref x), some (ti p0), some (ti p1)]) rfl ?_
  refine GO.iload_n dX11_dark_0 rfl rfl ?_
  refine GO.iload_n dX11_dark_1 rfl rfl ?_
  refine GO.callS (N := mX11_areYearDays) dX11_dark_2 gS_RX11_135 (t_X11_areYearDays r_p0 r_p1) rfl [] rfl rfl (Nat.le_of_ble_eq_true rfl) rfl (k_ip fun X1 r2 h3 => ?_)
  refine GO.if_ne (tgt := 10) dX11_dark_5 (by decide) r2 (fun c4 => ?_) (fun c4 => ?_)
  ·
    have q5 := h3.2.1 (by omega)
    refine GO.aload_n dX11_dark_10 rfl rfl ?_
    refine GO.getR h_x fl_RX11_12 rfl rfl dX11_dark_11 (fun hv7 h6 => ?_)
    refine GO.iload_n dX11_dark_14 rfl rfl ?_
    refine GO.putI h6 fp_RX11_139 rfl (by decide +kernel) r_p0 (r_p0).1 (r_p0).2 dX11_dark_15 (fun V9 e8 => ?_)
    refine GO.aload_n dX11_dark_18 rfl rfl ?_
    refine GO.getRaw h_x fl_RX11_12 (Eq.trans (uq_ne e8 (Or.inl (K_ne h_x h6 (by decide)))) hv7) dX11_dark_19 ?_
    refine GO.iload_n dX11_dark_22 rfl rfl ?_
    refine GO.putI h6 fp_RX11_142 rfl (by decide +kernel) r_p1 (r_p1).1 (r_p1).2 dX11_dark_23 (fun V13 e12 => ?_)
    refine GO.iconst dX11_dark_26 ?_
    exact GO.retz rfl rfl dX11_dark_27 (Or.inr rfl) ⟨rfl, _, rfl, (ir_c rfl), ⟨Or.inr rfl, fun h => by omega, fun h => absurd h (by decide)⟩⟩
  ·
    have q14 := h3.2.2 (by omega)
    refine GO.iconst dX11_dark_8 ?_
    exact GO.retz rfl rfl dX11_dark_9 (Or.inl rfl) ⟨rfl, _, rfl, (ir_c rfl), ⟨Or.inl rfl, fun h => absurd rfl h, fun h => by omega⟩⟩

set_option maxHeartbeats 1000000 in
theorem t_X11_party {K : Kmap} {V : Vmap} {x : Nat} {p0 : Int} (h_x : K x = some (0, 10)) (r_p0 : ir p0) (z_p0 : p0 = 0 ∨ p0 = 1) : MC mX11_party K V [.ref x, ti p0] (IX (fun X _ _ => True)) := by
  refine MC.start 0 (by decide +kernel) rfl rfl rfl (ls0 := [some (.ref x), some (ti p0)]) rfl ?_
  refine GO.aload_n dX11_party_0 rfl rfl ?_
  refine GO.getI h_x fl_RX11_36 rfl rfl dX11_party_1 (fun l1 u2 => ?_)
  refine GO.aload_n dX11_party_4 rfl rfl ?_
  refine GO.getA (n := 9) h_x fl_RX11_32 rfl rfl rfl rfl dX11_party_5 (fun hv4 h3 => ?_)
  refine GO.alen h3 dX11_party_8 (fun h5 => ?_)
  refine GO.icmp_lt (tgt := 14) dX11_party_9 (by decide) vi_ir ⟨by omega, by omega⟩ (fun c6 => ?_) (fun c6 => ?_)
  ·
    refine GO.aload_n dX11_party_14 rfl rfl ?_
    refine GO.getRaw h_x fl_RX11_32 hv4 dX11_party_15 ?_
    refine GO.aload_n dX11_party_18 rfl rfl ?_
    refine GO.getI h_x fl_RX11_36 rfl rfl dX11_party_19 (fun l9 u10 => ?_)
    refine GO.new (ci := 14) (RX2, TX2, 5) tyX2 rfl rfl lays_2 tyX2_ok gw_219 gw_325 gw_9 rfl rfl dX11_party_22 (fun o11 K12 V18 hq13 hK14 hE15 h16 _ hV17 => ?_)
    have h19 := hE15.obj (by decide) h_x
    have h20 := hE15.arr h3
    refine GO.dup dX11_party_25 rfl ?_
    refine GO.iload_n dX11_party_26 rfl rfl ?_
    refine GO.if_eq (tgt := 40) dX11_party_27 (by decide) r_p0 (fun c21 => ?_) (fun c21 => ?_)
    ·
      refine GO.iconst dX11_party_40 ?_
      refine GO.callI (N := mX2_init) dX11_party_41 gI_RX11_148 rfl (t_X2_init h16 (ir_c rfl)) rfl [.ref o11, ti (vi V x 4), .ref (vq V x 3)] rfl rfl (Nat.le_of_ble_eq_true rfl) rfl (k_vx fun K24 V26 h25 hE23 hF22 => ?_)
      have h27 := hE23.obj (by decide) h19
      have h28 := hE23.arr h20
      have h29 := h25.1
      refine GO.aast (t := 4) (by decide) (RX2, TX2, 5) rfl rfl rfl (by decide +kernel) h28 h29 vi_ir (by omega) (by omega) dX11_party_44 (fun V31 e30 => ?_)
      refine GO.aload_n dX11_party_45 rfl rfl ?_
      refine GO.dup dX11_party_46 rfl ?_
      refine GO.getI h27 fl_RX11_36 rfl rfl dX11_party_47 (fun l32 u33 => ?_)
      have e36 : vi V18 x 4 = vi V x 4 := vi_nw hV17 (K_old h_x hq13)
      have e35 : vi V26 x 4 = vi V18 x 4 := vi_fr hF22 h19 h27 (by decide +kernel)
      have e34 : vi V31 x 4 = vi V26 x 4 := vi_up e30 (Or.inl (K_ne h27 h28 (by decide)))
      refine GO.dup_x1 dX11_party_50 rfl rfl ?_
      refine GO.iconst dX11_party_51 ?_
      refine GO.iadd dX11_party_52 ?_
      refine GO.putI h27 fp_RX11_36 rfl (by decide +kernel) ⟨by omega, by omega⟩ (by omega) (by omega) dX11_party_53 (fun V38 e37 => ?_)
      exact GO.reti rfl rfl dX11_party_56 ⟨_, rfl, vi_ir, trivial⟩
    ·
      refine GO.aload_n dX11_party_30 rfl rfl ?_
      refine GO.getR h19 fl_RX11_12 rfl rfl dX11_party_31 (fun hv40 h39 => ?_)
      refine GO.getI h39 fl_RX11_145 rfl rfl dX11_party_34 (fun _ _ => ?_)
      refine GO.goto (tgt := 41) dX11_party_37 (by decide) ?_
      refine GO.callI (N := mX2_init) dX11_party_41 gI_RX11_148 rfl (t_X2_init h16 vi_ir) rfl [.ref o11, ti (vi V x 4), .ref (vq V x 3)] rfl rfl (Nat.le_of_ble_eq_true rfl) rfl (k_vx fun K43 V45 h44 hE42 hF41 => ?_)
      have h46 := hE42.obj (by decide) h19
      have h47 := hE42.arr h20
      have h48 := h44.1
      refine GO.aast (t := 4) (by decide) (RX2, TX2, 5) rfl rfl rfl (by decide +kernel) h47 h48 vi_ir (by omega) (by omega) dX11_party_44 (fun V50 e49 => ?_)
      refine GO.aload_n dX11_party_45 rfl rfl ?_
      refine GO.dup dX11_party_46 rfl ?_
      refine GO.getI h46 fl_RX11_36 rfl rfl dX11_party_47 (fun l51 u52 => ?_)
      have e55 : vi V18 x 4 = vi V x 4 := vi_nw hV17 (K_old h_x hq13)
      have e54 : vi V45 x 4 = vi V18 x 4 := vi_fr hF41 h19 h46 (by decide +kernel)
      have e53 : vi V50 x 4 = vi V45 x 4 := vi_up e49 (Or.inl (K_ne h46 h47 (by decide)))
      refine GO.dup_x1 dX11_party_50 rfl rfl ?_
      refine GO.iconst dX11_party_51 ?_
      refine GO.iadd dX11_party_52 ?_
      refine GO.putI h46 fp_RX11_36 rfl (by decide +kernel) ⟨by omega, by omega⟩ (by omega) (by omega) dX11_party_53 (fun V57 e56 => ?_)
      exact GO.reti rfl rfl dX11_party_56 ⟨_, rfl, vi_ir, trivial⟩
  ·
    refine GO.iconst dX11_party_12 ?_
    exact GO.reti rfl rfl dX11_party_13 ⟨_, rfl, (ir_c rfl), trivial⟩

set_option maxHeartbeats 1000000 in
theorem t_X11_partyOf {K : Kmap} {V : Vmap} {x : Nat} {p0 : Int} (h_x : K x = some (0, 10)) (r_p0 : ir p0) : MC mX11_partyOf K V [.ref x, ti p0] (RP K V 2 (True) (fun _ => True)) := by
  refine MC.start 0 (by decide +kernel) rfl rfl rfl (ls0 := [some (.ref x), some (ti p0)]) rfl ?_
  refine GO.iload_n dX11_partyOf_0 rfl rfl ?_
  refine GO.if_lt (tgt := 30) dX11_partyOf_1 (by decide) r_p0 (fun c1 => ?_) (fun c1 => ?_)
  ·
    refine GO.null dX11_partyOf_30 ?_
    exact GO.reta rfl rfl (Or.inl ⟨_, rfl⟩) dX11_partyOf_31 (Or.inl rfl) ⟨rfl, rfl, Or.inl ⟨rfl, trivial⟩⟩
  ·
    refine GO.iload_n dX11_partyOf_4 rfl rfl ?_
    refine GO.aload_n dX11_partyOf_5 rfl rfl ?_
    refine GO.getI h_x fl_RX11_36 rfl rfl dX11_partyOf_6 (fun l2 u3 => ?_)
    refine GO.icmp_ge (tgt := 30) dX11_partyOf_9 (by decide) r_p0 vi_ir (fun c4 => ?_) (fun c4 => ?_)
    ·
      refine GO.null dX11_partyOf_30 ?_
      exact GO.reta rfl rfl (Or.inl ⟨_, rfl⟩) dX11_partyOf_31 (Or.inl rfl) ⟨rfl, rfl, Or.inl ⟨rfl, trivial⟩⟩
    ·
      refine GO.iload_n dX11_partyOf_12 rfl rfl ?_
      refine GO.aload_n dX11_partyOf_13 rfl rfl ?_
      refine GO.getA (n := 9) h_x fl_RX11_32 rfl rfl rfl rfl dX11_partyOf_14 (fun hv6 h5 => ?_)
      refine GO.alen h5 dX11_partyOf_17 (fun h7 => ?_)
      have q9 : -2147483648 ≤ p0 ∧ p0 ≤ 2147483647 := r_p0
      refine GO.icmp_ge (tgt := 30) dX11_partyOf_18 (by decide) r_p0 ⟨by omega, by omega⟩ (fun h => by exfalso; omega) (fun c8 => ?_)
      refine GO.aload_n dX11_partyOf_21 rfl rfl ?_
      refine GO.getRaw h_x fl_RX11_32 hv6 dX11_partyOf_22 ?_
      refine GO.iload_n dX11_partyOf_25 rfl rfl ?_
      refine GO.aald (t := 4) rfl rfl h5 r_p0 (by omega) (by omega) dX11_partyOf_26 (fun _ => ?_) (fun _ h12 => ?_)
      ·
        refine GO.goto (tgt := 31) dX11_partyOf_27 (by decide) ?_
        exact GO.reta rfl rfl (Or.inl ⟨_, rfl⟩) dX11_partyOf_31 (Or.inl rfl) ⟨rfl, rfl, Or.inl ⟨rfl, trivial⟩⟩
      ·
        refine GO.goto (tgt := 31) dX11_partyOf_27 (by decide) ?_
        exact GO.reta rfl rfl (Or.inl ⟨_, rfl⟩) dX11_partyOf_31 (Or.inr ⟨_, rfl⟩) ⟨rfl, rfl, Or.inr ⟨_, rfl, h12, trivial⟩⟩

set_option maxHeartbeats 1000000 in
theorem t_X11_claimsAreAsleep {K : Kmap} {V : Vmap} {x : Nat} {p0 : Int} {p1 : Nat} (h_x : K x = some (0, 10)) (r_p0 : ir p0) (h_p1 : K p1 = some (0, 2)) : MC mX11_claimsAreAsleep K V [.ref x, ti p0, .ref p1] (IS K (fun X V1 => (X = 0 ∨ X = 1) ∧ (X ≠ 0 → True) ∧ (X = 0 → True))) := by
  refine MC.start 0 (by decide +kernel) rfl rfl rfl (ls0 := [some (.ref x), some (ti p0), some (.ref p1)]) rfl ?_
  refine GO.aload_n dX11_claimsAreAsleep_0 rfl rfl ?_
  refine GO.getR h_x fl_RX11_19 rfl rfl dX11_claimsAreAsleep_1 (fun hv2 h1 => ?_)
  refine GO.iload_n dX11_claimsAreAsleep_4 rfl rfl ?_
  refine GO.aload_n dX11_claimsAreAsleep_5 rfl rfl ?_
  refine GO.aload_n dX11_claimsAreAsleep_6 rfl rfl ?_
  refine GO.getR h_x fl_RX11_12 rfl rfl dX11_claimsAreAsleep_7 (fun hv4 h3 => ?_)
  refine GO.getI h3 fl_RX11_145 rfl rfl dX11_claimsAreAsleep_10 (fun _ _ => ?_)
  refine GO.callV (ci := 1) (N := mX1_weigh) dX11_claimsAreAsleep_13 (RX1, TX1, 13) rfl gV_RX11_279 h1 (t_X1_weigh h1 r_p0 h_p1 vi_ir) rfl [] rfl rfl (Nat.le_of_ble_eq_true rfl) rfl (k_vs fun V7 h6 hF5 => ?_)
  refine GO.aload_n dX11_claimsAreAsleep_16 rfl rfl ?_
  refine GO.getRaw h_x fl_RX11_19 (Eq.trans (hF5 _ _ _ h_x h_x (by decide +kernel)) hv2) dX11_claimsAreAsleep_17 ?_
  refine GO.bipush dX11_claimsAreAsleep_20 rfl ?_
  refine GO.iconst dX11_claimsAreAsleep_22 ?_
  refine GO.iconst dX11_claimsAreAsleep_23 ?_
  refine GO.callV (ci := 1) (N := mX1_numberOf) dX11_claimsAreAsleep_24 (RX1, TX1, 13) rfl gV_RX11_292 h1 (t_X1_numberOf h1 (ir_c rfl) (ir_c rfl) (ir_c rfl)) rfl [] rfl rfl (Nat.le_of_ble_eq_true rfl) rfl (k_ip fun X10 r11 h12 => ?_)
  refine GO.iconst dX11_claimsAreAsleep_27 ?_
  refine GO.icmp_eq (tgt := 35) dX11_claimsAreAsleep_28 (by decide) r11 (ir_c rfl) (fun c13 => ?_) (fun c13 => ?_)
  ·
    refine GO.iconst dX11_claimsAreAsleep_35 ?_
    exact GO.retz rfl rfl dX11_claimsAreAsleep_36 (Or.inl rfl) ⟨rfl, _, rfl, (ir_c rfl), ⟨Or.inl rfl, fun _ => trivial, fun _ => trivial⟩⟩
  ·
    refine GO.iconst dX11_claimsAreAsleep_31 ?_
    refine GO.goto (tgt := 36) dX11_claimsAreAsleep_32 (by decide) ?_
    exact GO.retz rfl rfl dX11_claimsAreAsleep_36 (Or.inr rfl) ⟨rfl, _, rfl, (ir_c rfl), ⟨Or.inr rfl, fun _ => trivial, fun _ => trivial⟩⟩

set_option maxHeartbeats 1000000 in
theorem t_X11_settle {K : Kmap} {V : Vmap} {x : Nat} {p0 : Nat} (h_x : K x = some (0, 10)) (h_p0 : K p0 = some (0, 3)) : MC mX11_settle K V [.ref x, .ref p0] (IS K (fun X V1 => True)) := by
  refine MC.start 0 (by decide +kernel) rfl rfl rfl (ls0 := [some (.ref x), some (.ref p0)]) rfl ?_
  refine GO.aload_n dX11_settle_0 rfl rfl ?_
  refine GO.getI h_x fl_RX11_46 rfl rfl dX11_settle_1 (fun l1 u2 => ?_)
  refine GO.aload_n dX11_settle_4 rfl rfl ?_
  refine GO.getA (n := 60) h_x fl_RX11_42 rfl rfl rfl rfl dX11_settle_5 (fun hv4 h3 => ?_)
  refine GO.alen h3 dX11_settle_8 (fun h5 => ?_)
  refine GO.icmp_lt (tgt := 14) dX11_settle_9 (by decide) vi_ir ⟨by omega, by omega⟩ (fun c6 => ?_) (fun c6 => ?_)
  ·
    refine GO.aload_n dX11_settle_14 rfl rfl ?_
    refine GO.getRaw h_x fl_RX11_42 hv4 dX11_settle_15 ?_
    refine GO.aload_n dX11_settle_18 rfl rfl ?_
    refine GO.getI h_x fl_RX11_46 rfl rfl dX11_settle_19 (fun l9 u10 => ?_)
    refine GO.aload_n dX11_settle_22 rfl rfl ?_
    refine GO.aast (t := 5) (by decide) (RX3, TX3, 16) rfl rfl rfl (by decide +kernel) h3 h_p0 vi_ir (by omega) (by omega) dX11_settle_23 (fun V12 e11 => ?_)
    refine GO.aload_n dX11_settle_24 rfl rfl ?_
    refine GO.dup dX11_settle_25 rfl ?_
    refine GO.getI h_x fl_RX11_46 rfl rfl dX11_settle_26 (fun l13 u14 => ?_)
    have e15 : vi V12 x 6 = vi V x 6 := vi_up e11 (Or.inl (K_ne h_x h3 (by decide)))
    refine GO.dup_x1 dX11_settle_29 rfl rfl ?_
    refine GO.iconst dX11_settle_30 ?_
    refine GO.iadd dX11_settle_31 ?_
    refine GO.putI h_x fp_RX11_46 rfl (by decide +kernel) ⟨by omega, by omega⟩ (by omega) (by omega) dX11_settle_32 (fun V17 e16 => ?_)
    exact GO.reti rfl rfl dX11_settle_35 ⟨rfl, _, rfl, vi_ir, trivial⟩
  ·
    refine GO.iconst dX11_settle_12 ?_
    exact GO.reti rfl rfl dX11_settle_13 ⟨rfl, _, rfl, (ir_c rfl), trivial⟩

set_option maxHeartbeats 1000000 in
theorem t_X11_claim {K : Kmap} {V : Vmap} {x : Nat} {p0 : Int} {p1 : Int} {p2 : Int} {p3 : Int} (h_x : K x = some (0, 10)) (r_p0 : ir p0) (r_p1 : ir p1) (r_p2 : ir p2) (r_p3 : ir p3) : MC mX11_claim K V [.ref x, ti p0, ti p1, ti p2, ti p3] (IX (fun X _ _ => True)) := by
  refine MC.start 1 (by decide +kernel) rfl rfl rfl (ls0 := [some (.ref x), some (ti p0), some (ti p1), some (ti p2), some (ti p3), none]) rfl ?_
  refine GO.aload_n dX11_claim_0 rfl rfl ?_
  refine GO.iload_n dX11_claim_1 rfl rfl ?_
  refine GO.callV (ci := 10) (N := mX11_partyOf) dX11_claim_2 (RX11, TX11, 20) rfl gV_RX11_151 h_x (t_X11_partyOf h_x r_p0) rfl [] rfl rfl (Nat.le_of_ble_eq_true rfl) rfl (k_rp (fun h3 => ?_) (fun o1 h2 h3 => ?_))
  ·
    refine GO.astoreN (ls1 := [some (.ref x), some (ti p0), some (ti p1), some (ti p2), some (ti p3), some (.null)]) dX11_claim_5 rfl rfl ?_
    refine GO.aloadN dX11_claim_7 rfl ?_
    refine GO.ifnullN (tgt := 46) dX11_claim_9 (by decide) ?_
    refine GO.iconst dX11_claim_46 ?_
    exact GO.reti rfl rfl dX11_claim_47 ⟨_, rfl, (ir_c rfl), trivial⟩
  ·
    refine GO.astore (ls1 := [some (.ref x), some (ti p0), some (ti p1), some (ti p2), some (ti p3), some (.ref o1)]) dX11_claim_5 rfl rfl ?_
    refine GO.aload dX11_claim_7 rfl ?_
    refine GO.ifnull dX11_claim_9 ?_
    refine GO.aload_n dX11_claim_12 rfl rfl ?_
    refine GO.getR h_x fl_RX11_12 rfl rfl dX11_claim_13 (fun hv5 h4 => ?_)
    refine GO.iload_n dX11_claim_16 rfl rfl ?_
    refine GO.iload_n dX11_claim_17 rfl rfl ?_
    refine GO.callV (ci := 0) (N := mX0_isRectangle) dX11_claim_18 (RX0, TX0, 13) rfl gV_RX11_155 h4 (t_X0_isRectangle h4 r_p1 r_p2) rfl [] rfl rfl (Nat.le_of_ble_eq_true rfl) rfl (k_ip fun X6 r7 h8 => ?_)
    refine GO.if_eq (tgt := 46) dX11_claim_21 (by decide) r7 (fun c9 => ?_) (fun c9 => ?_)
    ·
      refine GO.iconst dX11_claim_46 ?_
      exact GO.reti rfl rfl dX11_claim_47 ⟨_, rfl, (ir_c rfl), trivial⟩
    ·
      refine GO.iload dX11_claim_24 rfl ?_
      refine GO.iconst dX11_claim_26 ?_
      refine GO.sipush dX11_claim_27 rfl ?_
      refine GO.callS (N := mX11_between) dX11_claim_30 gS_RX11_112 (t_X11_between r_p3 (ir_c rfl) (ir_c rfl)) rfl [] rfl rfl (Nat.le_of_ble_eq_true rfl) rfl (k_ip fun X10 r11 h12 => ?_)
      refine GO.if_eq (tgt := 46) dX11_claim_33 (by decide) r11 (fun c13 => ?_) (fun c13 => ?_)
      ·
        have q14 := h12.2.2 (by omega)
        refine GO.iconst dX11_claim_46 ?_
        exact GO.reti rfl rfl dX11_claim_47 ⟨_, rfl, (ir_c rfl), trivial⟩
      ·
        have q15 := h12.2.1 (by omega)
        refine GO.aload_n dX11_claim_36 rfl rfl ?_
        refine GO.iload_n dX11_claim_37 rfl rfl ?_
        refine GO.aload dX11_claim_38 rfl ?_
        refine GO.callV (ci := 10) (N := mX11_claimsAreAsleep) dX11_claim_40 (RX11, TX11, 20) rfl gV_RX11_158 h_x (t_X11_claimsAreAsleep h_x r_p0 h2) rfl [] rfl rfl (Nat.le_of_ble_eq_true rfl) rfl (k_is fun X16 V20 r17 h18 hF19 => ?_)
        refine GO.if_eq (tgt := 48) dX11_claim_43 (by decide) r17 (fun c21 => ?_) (fun c21 => ?_)
        ·
          refine GO.aload_n dX11_claim_48 rfl rfl ?_
          refine GO.new (ci := 15) (RX3, TX3, 16) tyX3 rfl rfl lays_3 tyX3_ok gw_221 gw_425 gw_10 rfl rfl dX11_claim_49 (fun o22 K23 V29 hq24 hK25 hE26 h27 _ hV28 => ?_)
          have h30 := hE26.obj (by decide) h_x
          have h31 := hE26.obj (by decide) h2
          refine GO.dup dX11_claim_52 rfl ?_
          refine GO.iconst dX11_claim_53 ?_
          refine GO.iload_n dX11_claim_54 rfl rfl ?_
          refine GO.iload_n dX11_claim_55 rfl rfl ?_
          refine GO.iload_n dX11_claim_56 rfl rfl ?_
          refine GO.iload dX11_claim_57 rfl ?_
          refine GO.callI (N := mX3_init) dX11_claim_59 gI_RX11_162 rfl (t_X3_init h27 (ir_c rfl) r_p0 r_p1 r_p2 r_p3) rfl [.ref o22, .ref x] rfl rfl (Nat.le_of_ble_eq_true rfl) rfl (k_vx fun K34 V36 h35 hE33 hF32 => ?_)
          have h37 := hE33.obj (by decide) h30
          have h38 := hE33.obj (by decide) h31
          have h39 := h35.1
          refine GO.callV (ci := 10) (N := mX11_settle) dX11_claim_62 (RX11, TX11, 20) rfl gV_RX11_165 h37 (t_X11_settle h37 h39) rfl [] rfl rfl (Nat.le_of_ble_eq_true rfl) rfl (k_is fun X40 V44 r41 h42 hF43 => ?_)
          have q45 : -2147483648 ≤ X40 ∧ X40 ≤ 2147483647 := r41
          exact GO.reti rfl rfl dX11_claim_65 ⟨_, rfl, r41, trivial⟩
        ·
          refine GO.iconst dX11_claim_46 ?_
          exact GO.reti rfl rfl dX11_claim_47 ⟨_, rfl, (ir_c rfl), trivial⟩

set_option maxHeartbeats 1000000 in
theorem t_X11_anyPlace {K : Kmap} {V : Vmap} {x : Nat} {p0 : Int} (h_x : K x = some (0, 10)) (r_p0 : ir p0) : MC mX11_anyPlace K V [.ref x, ti p0] (RP K V 3 (True) (fun _ => True)) := by
  refine MC.start 0 (by decide +kernel) rfl rfl rfl (ls0 := [some (.ref x), some (ti p0)]) rfl ?_
  refine GO.iload_n dX11_anyPlace_0 rfl rfl ?_
  refine GO.if_lt (tgt := 30) dX11_anyPlace_1 (by decide) r_p0 (fun c1 => ?_) (fun c1 => ?_)
  ·
    refine GO.null dX11_anyPlace_30 ?_
    exact GO.reta rfl rfl (Or.inl ⟨_, rfl⟩) dX11_anyPlace_31 (Or.inl rfl) ⟨rfl, rfl, Or.inl ⟨rfl, trivial⟩⟩
  ·
    refine GO.iload_n dX11_anyPlace_4 rfl rfl ?_
    refine GO.aload_n dX11_anyPlace_5 rfl rfl ?_
    refine GO.getI h_x fl_RX11_46 rfl rfl dX11_anyPlace_6 (fun l2 u3 => ?_)
    refine GO.icmp_ge (tgt := 30) dX11_anyPlace_9 (by decide) r_p0 vi_ir (fun c4 => ?_) (fun c4 => ?_)
    ·
      refine GO.null dX11_anyPlace_30 ?_
      exact GO.reta rfl rfl (Or.inl ⟨_, rfl⟩) dX11_anyPlace_31 (Or.inl rfl) ⟨rfl, rfl, Or.inl ⟨rfl, trivial⟩⟩
    ·
      refine GO.iload_n dX11_anyPlace_12 rfl rfl ?_
      refine GO.aload_n dX11_anyPlace_13 rfl rfl ?_
      refine GO.getA (n := 60) h_x fl_RX11_42 rfl rfl rfl rfl dX11_anyPlace_14 (fun hv6 h5 => ?_)
      refine GO.alen h5 dX11_anyPlace_17 (fun h7 => ?_)
      have q9 : -2147483648 ≤ p0 ∧ p0 ≤ 2147483647 := r_p0
      refine GO.icmp_ge (tgt := 30) dX11_anyPlace_18 (by decide) r_p0 ⟨by omega, by omega⟩ (fun h => by exfalso; omega) (fun c8 => ?_)
      refine GO.aload_n dX11_anyPlace_21 rfl rfl ?_
      refine GO.getRaw h_x fl_RX11_42 hv6 dX11_anyPlace_22 ?_
      refine GO.iload_n dX11_anyPlace_25 rfl rfl ?_
      refine GO.aald (t := 5) rfl rfl h5 r_p0 (by omega) (by omega) dX11_anyPlace_26 (fun _ => ?_) (fun _ h12 => ?_)
      ·
        refine GO.goto (tgt := 31) dX11_anyPlace_27 (by decide) ?_
        exact GO.reta rfl rfl (Or.inl ⟨_, rfl⟩) dX11_anyPlace_31 (Or.inl rfl) ⟨rfl, rfl, Or.inl ⟨rfl, trivial⟩⟩
      ·
        refine GO.goto (tgt := 31) dX11_anyPlace_27 (by decide) ?_
        exact GO.reta rfl rfl (Or.inl ⟨_, rfl⟩) dX11_anyPlace_31 (Or.inr ⟨_, rfl⟩) ⟨rfl, rfl, Or.inr ⟨_, rfl, h12, trivial⟩⟩

set_option maxHeartbeats 1000000 in
theorem t_X11_placeOf {K : Kmap} {V : Vmap} {x : Nat} {p0 : Int} {p1 : Int} (h_x : K x = some (0, 10)) (r_p0 : ir p0) (r_p1 : ir p1) : MC mX11_placeOf K V [.ref x, ti p0, ti p1] (RP K V 3 (True) (fun _ => True)) := by
  refine MC.start 1 (by decide +kernel) rfl rfl rfl (ls0 := [some (.ref x), some (ti p0), some (ti p1), none]) rfl ?_
  refine GO.aload_n dX11_placeOf_0 rfl rfl ?_
  refine GO.iload_n dX11_placeOf_1 rfl rfl ?_
  refine GO.callV (ci := 10) (N := mX11_anyPlace) dX11_placeOf_2 (RX11, TX11, 20) rfl gV_RX11_384 h_x (t_X11_anyPlace h_x r_p0) rfl [] rfl rfl (Nat.le_of_ble_eq_true rfl) rfl (k_rp (fun h3 => ?_) (fun o1 h2 h3 => ?_))
  ·
    refine GO.astore_nN (ls1 := [some (.ref x), some (ti p0), some (ti p1), some (.null)]) dX11_placeOf_5 rfl rfl rfl ?_
    refine GO.aload_nN dX11_placeOf_6 rfl rfl ?_
    refine GO.ifnullN (tgt := 22) dX11_placeOf_7 (by decide) ?_
    refine GO.null dX11_placeOf_22 ?_
    exact GO.reta rfl rfl (Or.inl ⟨_, rfl⟩) dX11_placeOf_23 (Or.inl rfl) ⟨rfl, rfl, Or.inl ⟨rfl, trivial⟩⟩
  ·
    refine GO.astore_n (ls1 := [some (.ref x), some (ti p0), some (ti p1), some (.ref o1)]) dX11_placeOf_5 rfl rfl rfl ?_
    refine GO.aload_n dX11_placeOf_6 rfl rfl ?_
    refine GO.ifnull dX11_placeOf_7 ?_
    refine GO.aload_n dX11_placeOf_10 rfl rfl ?_
    refine GO.getI h2 fl_RX11_387 rfl rfl dX11_placeOf_11 (fun _ _ => ?_)
    refine GO.iload_n dX11_placeOf_14 rfl rfl ?_
    refine GO.icmp_ne (tgt := 22) dX11_placeOf_15 (by decide) vi_ir r_p1 (fun c4 => ?_) (fun c4 => ?_)
    ·
      refine GO.null dX11_placeOf_22 ?_
      exact GO.reta rfl rfl (Or.inl ⟨_, rfl⟩) dX11_placeOf_23 (Or.inl rfl) ⟨rfl, rfl, Or.inl ⟨rfl, trivial⟩⟩
    ·
      refine GO.aload_n dX11_placeOf_18 rfl rfl ?_
      refine GO.goto (tgt := 23) dX11_placeOf_19 (by decide) ?_
      exact GO.reta rfl rfl (Or.inl ⟨_, rfl⟩) dX11_placeOf_23 (Or.inr ⟨_, rfl⟩) ⟨rfl, rfl, Or.inr ⟨_, rfl, h2, trivial⟩⟩

set_option maxHeartbeats 1000000 in
theorem t_X11_title {K : Kmap} {V : Vmap} {x : Nat} {p0 : Int} {p1 : Int} (h_x : K x = some (0, 10)) (r_p0 : ir p0) (r_p1 : ir p1) : MC mX11_title K V [.ref x, ti p0, ti p1] (IS K (fun X V1 => (X = 0 ∨ X = 1) ∧ (X ≠ 0 → True) ∧ (X = 0 → True))) := by
  refine MC.start 2 (by decide +kernel) rfl rfl rfl (ls0 := [some (.ref x), some (ti p0), some (ti p1), none, none]) rfl ?_
  refine GO.aload_n dX11_title_0 rfl rfl ?_
  refine GO.iload_n dX11_title_1 rfl rfl ?_
  refine GO.iconst dX11_title_2 ?_
  refine GO.callV (ci := 10) (N := mX11_placeOf) dX11_title_3 (RX11, TX11, 20) rfl gV_RX11_169 h_x (t_X11_placeOf h_x r_p0 (ir_c rfl)) rfl [] rfl rfl (Nat.le_of_ble_eq_true rfl) rfl (k_rp (fun h3 => ?_) (fun o1 h2 h3 => ?_))
  ·
    refine GO.astore_nN (ls1 := [some (.ref x), some (ti p0), some (ti p1), some (.null), none]) dX11_title_6 rfl rfl rfl ?_
    refine GO.aload_nN dX11_title_7 rfl rfl ?_
    refine GO.ifnullN (tgt := 22) dX11_title_8 (by decide) ?_
    refine GO.iconst dX11_title_22 ?_
    exact GO.retz rfl rfl dX11_title_23 (Or.inl rfl) ⟨rfl, _, rfl, (ir_c rfl), ⟨Or.inl rfl, fun _ => trivial, fun _ => trivial⟩⟩
  ·
    refine GO.astore_n (ls1 := [some (.ref x), some (ti p0), some (ti p1), some (.ref o1), none]) dX11_title_6 rfl rfl rfl ?_
    refine GO.aload_n dX11_title_7 rfl rfl ?_
    refine GO.ifnull dX11_title_8 ?_
    refine GO.iload_n dX11_title_11 rfl rfl ?_
    refine GO.iconst dX11_title_12 ?_
    refine GO.sipush dX11_title_13 rfl ?_
    refine GO.callS (N := mX11_between) dX11_title_16 gS_RX11_112 (t_X11_between r_p1 (ir_c rfl) (ir_c rfl)) rfl [] rfl rfl (Nat.le_of_ble_eq_true rfl) rfl (k_ip fun X4 r5 h6 => ?_)
    refine GO.if_ne (tgt := 24) dX11_title_19 (by decide) r5 (fun c7 => ?_) (fun c7 => ?_)
    ·
      have q8 := h6.2.1 (by omega)
      refine GO.aload_n dX11_title_24 rfl rfl ?_
      refine GO.aload_n dX11_title_25 rfl rfl ?_
      refine GO.getI h2 fl_RX11_173 rfl rfl dX11_title_26 (fun _ _ => ?_)
      refine GO.callV (ci := 10) (N := mX11_partyOf) dX11_title_29 (RX11, TX11, 20) rfl gV_RX11_151 h_x (t_X11_partyOf h_x vi_ir) rfl [] rfl rfl (Nat.le_of_ble_eq_true rfl) rfl (k_rp (fun h11 => ?_) (fun o9 h10 h11 => ?_))
      ·
        refine GO.astoreN (ls1 := [some (.ref x), some (ti p0), some (ti p1), some (.ref o1), some (.null)]) dX11_title_32 rfl rfl ?_
        refine GO.iload_n dX11_title_34 rfl rfl ?_
        refine GO.aload_n dX11_title_35 rfl rfl ?_
        refine GO.getI h2 fl_RX11_176 rfl rfl dX11_title_36 (fun _ _ => ?_)
        refine GO.icmp_le (tgt := 62) dX11_title_39 (by decide) r_p1 vi_ir (fun c12 => ?_) (fun c12 => ?_)
        ·
          refine GO.aload_n dX11_title_62 rfl rfl ?_
          refine GO.iload_n dX11_title_63 rfl rfl ?_
          refine GO.putI h2 fp_RX11_176 rfl (by decide +kernel) r_p1 (r_p1).1 (r_p1).2 dX11_title_64 (fun V14 e13 => ?_)
          refine GO.iconst dX11_title_67 ?_
          exact GO.retz rfl rfl dX11_title_68 (Or.inr rfl) ⟨rfl, _, rfl, (ir_c rfl), ⟨Or.inr rfl, fun _ => trivial, fun _ => trivial⟩⟩
        ·
          refine GO.aloadN dX11_title_42 rfl ?_
          refine GO.ifnullN (tgt := 62) dX11_title_44 (by decide) ?_
          refine GO.aload_n dX11_title_62 rfl rfl ?_
          refine GO.iload_n dX11_title_63 rfl rfl ?_
          refine GO.putI h2 fp_RX11_176 rfl (by decide +kernel) r_p1 (r_p1).1 (r_p1).2 dX11_title_64 (fun V16 e15 => ?_)
          refine GO.iconst dX11_title_67 ?_
          exact GO.retz rfl rfl dX11_title_68 (Or.inr rfl) ⟨rfl, _, rfl, (ir_c rfl), ⟨Or.inr rfl, fun _ => trivial, fun _ => trivial⟩⟩
      ·
        refine GO.astore (ls1 := [some (.ref x), some (ti p0), some (ti p1), some (.ref o1), some (.ref o9)]) dX11_title_32 rfl rfl ?_
        refine GO.iload_n dX11_title_34 rfl rfl ?_
        refine GO.aload_n dX11_title_35 rfl rfl ?_
        refine GO.getI h2 fl_RX11_176 rfl rfl dX11_title_36 (fun _ _ => ?_)
        refine GO.icmp_le (tgt := 62) dX11_title_39 (by decide) r_p1 vi_ir (fun c17 => ?_) (fun c17 => ?_)
        ·
          refine GO.aload_n dX11_title_62 rfl rfl ?_
          refine GO.iload_n dX11_title_63 rfl rfl ?_
          refine GO.putI h2 fp_RX11_176 rfl (by decide +kernel) r_p1 (r_p1).1 (r_p1).2 dX11_title_64 (fun V19 e18 => ?_)
          refine GO.iconst dX11_title_67 ?_
          exact GO.retz rfl rfl dX11_title_68 (Or.inr rfl) ⟨rfl, _, rfl, (ir_c rfl), ⟨Or.inr rfl, fun _ => trivial, fun _ => trivial⟩⟩
        ·
          refine GO.aload dX11_title_42 rfl ?_
          refine GO.ifnull dX11_title_44 ?_
          refine GO.aload_n dX11_title_47 rfl rfl ?_
          refine GO.aload_n dX11_title_48 rfl rfl ?_
          refine GO.getI h2 fl_RX11_173 rfl rfl dX11_title_49 (fun _ _ => ?_)
          refine GO.aload dX11_title_52 rfl ?_
          refine GO.callV (ci := 10) (N := mX11_claimsAreAsleep) dX11_title_54 (RX11, TX11, 20) rfl gV_RX11_158 h_x (t_X11_claimsAreAsleep h_x vi_ir h10) rfl [] rfl rfl (Nat.le_of_ble_eq_true rfl) rfl (k_is fun X20 V24 r21 h22 hF23 => ?_)
          refine GO.if_eq (tgt := 62) dX11_title_57 (by decide) r21 (fun c25 => ?_) (fun c25 => ?_)
          ·
            refine GO.aload_n dX11_title_62 rfl rfl ?_
            refine GO.iload_n dX11_title_63 rfl rfl ?_
            refine GO.putI h2 fp_RX11_176 rfl (by decide +kernel) r_p1 (r_p1).1 (r_p1).2 dX11_title_64 (fun V27 e26 => ?_)
            refine GO.iconst dX11_title_67 ?_
            exact GO.retz rfl rfl dX11_title_68 (Or.inr rfl) ⟨rfl, _, rfl, (ir_c rfl), ⟨Or.inr rfl, fun _ => trivial, fun _ => trivial⟩⟩
          ·
            refine GO.iconst dX11_title_60 ?_
            exact GO.retz rfl rfl dX11_title_61 (Or.inl rfl) ⟨rfl, _, rfl, (ir_c rfl), ⟨Or.inl rfl, fun _ => trivial, fun _ => trivial⟩⟩
    ·
      have q28 := h6.2.2 (by omega)
      refine GO.iconst dX11_title_22 ?_
      exact GO.retz rfl rfl dX11_title_23 (Or.inl rfl) ⟨rfl, _, rfl, (ir_c rfl), ⟨Or.inl rfl, fun _ => trivial, fun _ => trivial⟩⟩

set_option maxHeartbeats 1000000 in
theorem t_X11_tally {K : Kmap} {V : Vmap} {x : Nat} {p0 : Int} {p1 : Int} (h_x : K x = some (0, 10)) (r_p0 : ir p0) (r_p1 : ir p1) : MC mX11_tally K V [.ref x, ti p0, ti p1] (VS K (fun V1 => (True))) := by
  refine MC.start 0 (by decide +kernel) rfl rfl rfl (ls0 := [some (.ref x), some (ti p0), some (ti p1)]) rfl ?_
  refine GO.iload_n dX11_tally_0 rfl rfl ?_
  refine GO.if_lt (tgt := 24) dX11_tally_1 (by decide) r_p0 (fun c1 => ?_) (fun c1 => ?_)
  ·
    exact GO.retv rfl rfl dX11_tally_24 ⟨rfl, rfl, trivial⟩
  ·
    refine GO.iload_n dX11_tally_4 rfl rfl ?_
    refine GO.aload_n dX11_tally_5 rfl rfl ?_
    refine GO.getA (n := 8) h_x fl_RX11_98 rfl rfl rfl rfl dX11_tally_6 (fun hv3 h2 => ?_)
    refine GO.alen h2 dX11_tally_9 (fun h4 => ?_)
    refine GO.icmp_ge (tgt := 24) dX11_tally_10 (by decide) r_p0 ⟨by omega, by omega⟩ (fun c5 => ?_) (fun c5 => ?_)
    ·
      exact GO.retv rfl rfl dX11_tally_24 ⟨rfl, rfl, trivial⟩
    ·
      refine GO.aload_n dX11_tally_13 rfl rfl ?_
      refine GO.getRaw h_x fl_RX11_98 hv3 dX11_tally_14 ?_
      refine GO.iload_n dX11_tally_17 rfl rfl ?_
      refine GO.dup2 dX11_tally_18 rfl rfl ?_
      have q8 : -2147483648 ≤ p0 ∧ p0 ≤ 2147483647 := r_p0
      refine GO.lald h2 r_p0 (by omega) (by omega) dX11_tally_19 ?_
      refine GO.anyL (fun z9 => ?_)
      refine GO.iload_n dX11_tally_20 rfl rfl ?_
      refine GO.i2l dX11_tally_21 ?_
      refine GO.anyL (fun z10 => ?_)
      refine GO.ladd dX11_tally_22 ?_
      refine GO.anyL (fun z11 => ?_)
      refine GO.last (by decide +kernel) h2 r_p0 (by omega) (by omega) dX11_tally_23 (fun V13 e12 => ?_)
      exact GO.retv rfl rfl dX11_tally_24 ⟨rfl, rfl, trivial⟩

set_option maxHeartbeats 1000000 in
theorem t_X11_station {K : Kmap} {V : Vmap} {x : Nat} {p0 : Int} {p1 : Int} {p2 : Int} {p3 : Int} (h_x : K x = some (0, 10)) (r_p0 : ir p0) (r_p1 : ir p1) (r_p2 : ir p2) (r_p3 : ir p3) : MC mX11_station K V [.ref x, ti p0, ti p1, ti p2, ti p3] (IX (fun X _ _ => True)) := by
  refine MC.start 2 (by decide +kernel) rfl rfl rfl (ls0 := [some (.ref x), some (ti p0), some (ti p1), some (ti p2), some (ti p3), none, none]) rfl ?_
  refine GO.aload_n dX11_station_0 rfl rfl ?_
  refine GO.iload_n dX11_station_1 rfl rfl ?_
  refine GO.callV (ci := 10) (N := mX11_partyOf) dX11_station_2 (RX11, TX11, 20) rfl gV_RX11_151 h_x (t_X11_partyOf h_x r_p0) rfl [] rfl rfl (Nat.le_of_ble_eq_true rfl) rfl (k_rp (fun h3 => ?_) (fun o1 h2 h3 => ?_))
  ·
    refine GO.ifnullN (tgt := 41) dX11_station_5 (by decide) ?_
    refine GO.iconst dX11_station_41 ?_
    exact GO.reti rfl rfl dX11_station_42 ⟨_, rfl, (ir_c rfl), trivial⟩
  ·
    refine GO.ifnull dX11_station_5 ?_
    refine GO.aload_n dX11_station_8 rfl rfl ?_
    refine GO.getR h_x fl_RX11_12 rfl rfl dX11_station_9 (fun hv5 h4 => ?_)
    refine GO.iload_n dX11_station_12 rfl rfl ?_
    refine GO.callV (ci := 0) (N := mX0_isFirm) dX11_station_13 (RX0, TX0, 13) rfl gV_RX11_179 h4 (t_X0_isFirm h4 r_p1) rfl [] rfl rfl (Nat.le_of_ble_eq_true rfl) rfl (k_ip fun X6 r7 h8 => ?_)
    refine GO.if_eq (tgt := 41) dX11_station_16 (by decide) r7 (fun c9 => ?_) (fun c9 => ?_)
    ·
      refine GO.iconst dX11_station_41 ?_
      exact GO.reti rfl rfl dX11_station_42 ⟨_, rfl, (ir_c rfl), trivial⟩
    ·
      refine GO.iload_n dX11_station_19 rfl rfl ?_
      refine GO.iconst dX11_station_20 ?_
      refine GO.sipush dX11_station_21 rfl ?_
      refine GO.callS (N := mX11_between) dX11_station_24 gS_RX11_112 (t_X11_between r_p2 (ir_c rfl) (ir_c rfl)) rfl [] rfl rfl (Nat.le_of_ble_eq_true rfl) rfl (k_ip fun X10 r11 h12 => ?_)
      refine GO.if_eq (tgt := 41) dX11_station_27 (by decide) r11 (fun c13 => ?_) (fun c13 => ?_)
      ·
        have q14 := h12.2.2 (by omega)
        refine GO.iconst dX11_station_41 ?_
        exact GO.reti rfl rfl dX11_station_42 ⟨_, rfl, (ir_c rfl), trivial⟩
      ·
        have q15 := h12.2.1 (by omega)
        refine GO.iload dX11_station_30 rfl ?_
        refine GO.iconst dX11_station_32 ?_
        refine GO.ldc (X := 100000) dX11_station_33 gw_522 rfl ?_
        refine GO.callS (N := mX11_between) dX11_station_35 gS_RX11_112 (t_X11_between r_p3 (ir_c rfl) (ir_c rfl)) rfl [] rfl rfl (Nat.le_of_ble_eq_true rfl) rfl (k_ip fun X16 r17 h18 => ?_)
        refine GO.if_ne (tgt := 43) dX11_station_38 (by decide) r17 (fun c19 => ?_) (fun c19 => ?_)
        ·
          have q20 := h18.2.1 (by omega)
          refine GO.new (ci := 15) (RX3, TX3, 16) tyX3 rfl rfl lays_3 tyX3_ok gw_221 gw_425 gw_10 rfl rfl dX11_station_43 (fun o21 K22 V28 hq23 hK24 hE25 h26 _ hV27 => ?_)
          have h29 := hE25.obj (by decide) h_x
          refine GO.dup dX11_station_46 rfl ?_
          refine GO.iconst dX11_station_47 ?_
          refine GO.iload_n dX11_station_48 rfl rfl ?_
          refine GO.iload_n dX11_station_49 rfl rfl ?_
          refine GO.iconst dX11_station_50 ?_
          refine GO.iconst dX11_station_51 ?_
          refine GO.callI (N := mX3_init) dX11_station_52 gI_RX11_162 rfl (t_X3_init h26 (ir_c rfl) r_p0 r_p1 (ir_c rfl) (ir_c rfl)) rfl [.ref o21] rfl rfl (Nat.le_of_ble_eq_true rfl) rfl (k_vx fun K32 V34 h33 hE31 hF30 => ?_)
          have h35 := hE31.obj (by decide) h29
          have h36 := h33.1
          refine GO.astore (ls1 := [some (.ref x), some (ti p0), some (ti p1), some (ti p2), some (ti p3), some (.ref o21), none]) dX11_station_55 rfl rfl ?_
          refine GO.aload dX11_station_57 rfl ?_
          refine GO.iload_n dX11_station_59 rfl rfl ?_
          refine GO.putI h36 fp_RX11_183 rfl (by decide +kernel) r_p2 (r_p2).1 (r_p2).2 dX11_station_60 (fun V38 e37 => ?_)
          refine GO.aload dX11_station_63 rfl ?_
          refine GO.iload dX11_station_65 rfl ?_
          refine GO.putI h36 fp_RX11_186 rfl (by decide +kernel) r_p3 (r_p3).1 (r_p3).2 dX11_station_67 (fun V40 e39 => ?_)
          refine GO.aload dX11_station_70 rfl ?_
          refine GO.aload_n dX11_station_72 rfl rfl ?_
          refine GO.getR h35 fl_RX11_12 rfl rfl dX11_station_73 (fun hv42 h41 => ?_)
          refine GO.getI h41 fl_RX11_145 rfl rfl dX11_station_76 (fun _ _ => ?_)
          refine GO.putI h36 fp_RX11_189 rfl (by decide +kernel) vi_ir (vi_ir).1 (vi_ir).2 dX11_station_79 (fun V44 e43 => ?_)
          refine GO.aload_n dX11_station_82 rfl rfl ?_
          refine GO.aload dX11_station_83 rfl ?_
          refine GO.callV (ci := 10) (N := mX11_settle) dX11_station_85 (RX11, TX11, 20) rfl gV_RX11_165 h35 (t_X11_settle h35 h36) rfl [] rfl rfl (Nat.le_of_ble_eq_true rfl) rfl (k_is fun X45 V49 r46 h47 hF48 => ?_)
          refine GO.istore (ls1 := [some (.ref x), some (ti p0), some (ti p1), some (ti p2), some (ti p3), some (.ref o21), some (ti X45)]) dX11_station_88 rfl rfl ?_
          refine GO.iload dX11_station_90 rfl ?_
          refine GO.iconst dX11_station_92 ?_
          refine GO.icmp_eq (tgt := 103) dX11_station_93 (by decide) r46 (ir_c rfl) (fun c50 => ?_) (fun c50 => ?_)
          ·
            refine GO.iload dX11_station_103 rfl ?_
            have q51 : -2147483648 ≤ X45 ∧ X45 ≤ 2147483647 := r46
            exact GO.reti rfl rfl dX11_station_105 ⟨_, rfl, r46, trivial⟩
          ·
            refine GO.aload_n dX11_station_96 rfl rfl ?_
            refine GO.iconst dX11_station_97 ?_
            refine GO.iload dX11_station_98 rfl ?_
            refine GO.callV (ci := 10) (N := mX11_tally) dX11_station_100 (RX11, TX11, 20) rfl gV_RX11_192 h35 (t_X11_tally h35 (ir_c rfl) r_p3) rfl [] rfl rfl (Nat.le_of_ble_eq_true rfl) rfl (k_vs fun V54 h53 hF52 => ?_)
            refine GO.iload dX11_station_103 rfl ?_
            have q55 : -2147483648 ≤ X45 ∧ X45 ≤ 2147483647 := r46
            exact GO.reti rfl rfl dX11_station_105 ⟨_, rfl, r46, trivial⟩
        ·
          have q56 := h18.2.2 (by omega)
          refine GO.iconst dX11_station_41 ?_
          exact GO.reti rfl rfl dX11_station_42 ⟨_, rfl, (ir_c rfl), trivial⟩

set_option maxHeartbeats 1000000 in
theorem t_X11_standingStation {K : Kmap} {V : Vmap} {x : Nat} {p0 : Int} (h_x : K x = some (0, 10)) (r_p0 : ir p0) : MC mX11_standingStation K V [.ref x, ti p0] (RP K V 3 (True) (fun _ => True)) := by
  refine MC.start 1 (by decide +kernel) rfl rfl rfl (ls0 := [some (.ref x), some (ti p0), none]) rfl ?_
  refine GO.aload_n dX11_standingStation_0 rfl rfl ?_
  refine GO.iload_n dX11_standingStation_1 rfl rfl ?_
  refine GO.iconst dX11_standingStation_2 ?_
  refine GO.callV (ci := 10) (N := mX11_placeOf) dX11_standingStation_3 (RX11, TX11, 20) rfl gV_RX11_169 h_x (t_X11_placeOf h_x r_p0 (ir_c rfl)) rfl [] rfl rfl (Nat.le_of_ble_eq_true rfl) rfl (k_rp (fun h3 => ?_) (fun o1 h2 h3 => ?_))
  ·
    refine GO.astore_nN (ls1 := [some (.ref x), some (ti p0), some (.null)]) dX11_standingStation_6 rfl rfl rfl ?_
    refine GO.aload_nN dX11_standingStation_7 rfl rfl ?_
    refine GO.ifnullN (tgt := 22) dX11_standingStation_8 (by decide) ?_
    refine GO.null dX11_standingStation_22 ?_
    exact GO.reta rfl rfl (Or.inl ⟨_, rfl⟩) dX11_standingStation_23 (Or.inl rfl) ⟨rfl, rfl, Or.inl ⟨rfl, trivial⟩⟩
  ·
    refine GO.astore_n (ls1 := [some (.ref x), some (ti p0), some (.ref o1)]) dX11_standingStation_6 rfl rfl rfl ?_
    refine GO.aload_n dX11_standingStation_7 rfl rfl ?_
    refine GO.ifnull dX11_standingStation_8 ?_
    refine GO.aload_n dX11_standingStation_11 rfl rfl ?_
    refine GO.getI h2 fl_RX11_511 rfl rfl dX11_standingStation_12 (fun l4 u5 => ?_)
    refine GO.if_ne (tgt := 22) dX11_standingStation_15 (by decide) vi_ir (fun c6 => ?_) (fun c6 => ?_)
    ·
      refine GO.null dX11_standingStation_22 ?_
      exact GO.reta rfl rfl (Or.inl ⟨_, rfl⟩) dX11_standingStation_23 (Or.inl rfl) ⟨rfl, rfl, Or.inl ⟨rfl, trivial⟩⟩
    ·
      refine GO.aload_n dX11_standingStation_18 rfl rfl ?_
      refine GO.goto (tgt := 23) dX11_standingStation_19 (by decide) ?_
      exact GO.reta rfl rfl (Or.inl ⟨_, rfl⟩) dX11_standingStation_23 (Or.inr ⟨_, rfl⟩) ⟨rfl, rfl, Or.inr ⟨_, rfl, h2, trivial⟩⟩

set_option maxHeartbeats 1000000 in
theorem t_X11_field {K : Kmap} {V : Vmap} {x : Nat} {p0 : Int} {p1 : Int} (h_x : K x = some (0, 10)) (r_p0 : ir p0) (r_p1 : ir p1) : MC mX11_field K V [.ref x, ti p0, ti p1] (IX (fun X _ _ => True)) := by
  refine MC.start 1 (by decide +kernel) rfl rfl rfl (ls0 := [some (.ref x), some (ti p0), some (ti p1), none]) rfl ?_
  refine GO.aload_n dX11_field_0 rfl rfl ?_
  refine GO.iload_n dX11_field_1 rfl rfl ?_
  refine GO.callV (ci := 10) (N := mX11_standingStation) dX11_field_2 (RX11, TX11, 20) rfl gV_RX11_195 h_x (t_X11_standingStation h_x r_p0) rfl [] rfl rfl (Nat.le_of_ble_eq_true rfl) rfl (k_rp (fun h3 => ?_) (fun o1 h2 h3 => ?_))
  ·
    refine GO.astore_nN (ls1 := [some (.ref x), some (ti p0), some (ti p1), some (.null)]) dX11_field_5 rfl rfl rfl ?_
    refine GO.aload_nN dX11_field_6 rfl rfl ?_
    refine GO.ifnullN (tgt := 21) dX11_field_7 (by decide) ?_
    refine GO.iconst dX11_field_21 ?_
    exact GO.reti rfl rfl dX11_field_22 ⟨_, rfl, (ir_c rfl), trivial⟩
  ·
    refine GO.astore_n (ls1 := [some (.ref x), some (ti p0), some (ti p1), some (.ref o1)]) dX11_field_5 rfl rfl rfl ?_
    refine GO.aload_n dX11_field_6 rfl rfl ?_
    refine GO.ifnull dX11_field_7 ?_
    refine GO.aload_n dX11_field_10 rfl rfl ?_
    refine GO.getR h_x fl_RX11_12 rfl rfl dX11_field_11 (fun hv5 h4 => ?_)
    refine GO.iload_n dX11_field_14 rfl rfl ?_
    refine GO.callV (ci := 0) (N := mX0_isFirm) dX11_field_15 (RX0, TX0, 13) rfl gV_RX11_179 h4 (t_X0_isFirm h4 r_p1) rfl [] rfl rfl (Nat.le_of_ble_eq_true rfl) rfl (k_ip fun X6 r7 h8 => ?_)
    refine GO.if_ne (tgt := 23) dX11_field_18 (by decide) r7 (fun c9 => ?_) (fun c9 => ?_)
    ·
      refine GO.aload_n dX11_field_23 rfl rfl ?_
      refine GO.new (ci := 15) (RX3, TX3, 16) tyX3 rfl rfl lays_3 tyX3_ok gw_221 gw_425 gw_10 rfl rfl dX11_field_24 (fun o10 K11 V17 hq12 hK13 hE14 h15 _ hV16 => ?_)
      have h18 := hE14.obj (by decide) h_x
      have h19 := hE14.obj (by decide) h2
      refine GO.dup dX11_field_27 rfl ?_
      refine GO.iconst dX11_field_28 ?_
      refine GO.aload_n dX11_field_29 rfl rfl ?_
      refine GO.getI h19 fl_RX11_173 rfl rfl dX11_field_30 (fun _ _ => ?_)
      refine GO.iload_n dX11_field_33 rfl rfl ?_
      refine GO.iconst dX11_field_34 ?_
      refine GO.iload_n dX11_field_35 rfl rfl ?_
      refine GO.callI (N := mX3_init) dX11_field_36 gI_RX11_162 rfl (t_X3_init h15 (ir_c rfl) vi_ir r_p1 (ir_c rfl) r_p0) rfl [.ref o10, .ref x] rfl rfl (Nat.le_of_ble_eq_true rfl) rfl (k_vx fun K22 V24 h23 hE21 hF20 => ?_)
      have h25 := hE21.obj (by decide) h18
      have h26 := hE21.obj (by decide) h19
      have h27 := h23.1
      refine GO.callV (ci := 10) (N := mX11_settle) dX11_field_39 (RX11, TX11, 20) rfl gV_RX11_165 h25 (t_X11_settle h25 h27) rfl [] rfl rfl (Nat.le_of_ble_eq_true rfl) rfl (k_is fun X28 V32 r29 h30 hF31 => ?_)
      have q33 : -2147483648 ≤ X28 ∧ X28 ≤ 2147483647 := r29
      exact GO.reti rfl rfl dX11_field_42 ⟨_, rfl, r29, trivial⟩
    ·
      refine GO.iconst dX11_field_21 ?_
      exact GO.reti rfl rfl dX11_field_22 ⟨_, rfl, (ir_c rfl), trivial⟩
