def mX11_admitParties : MRec := (RX11, cX11_admitParties, 4, (none : Option Jvm.ClassFile.FieldType), yX11_admitParties, 5, 127, 0, 0, 123947994148171612303484120256144569967825878055802728615871649113951085856808377342222976957446615908923352254691948363776)
def mX11_sendPeopleHome : MRec := (RX11, cX11_sendPeopleHome, 2, (none : Option Jvm.ClassFile.FieldType), yX11_sendPeopleHome, 1, 22, 0, 0, 7588550360256754183279148073529370729071901715047420004889892225542595001521799168)
def mX11_burn : MRec := (RX11, cX11_burn, 4, (none : Option Jvm.ClassFile.FieldType), yX11_burn, 2, 43, 0, 0, 7588550360256754183279148073529370729071901715047420004889892225542596375911333888)
def mX11_carryField : MRec := (RX11, cX11_carryField, 5, (none : Option Jvm.ClassFile.FieldType), yX11_carryField, 2, 46, 0, 0, 77309411328)
def mX11_loseStation : MRec := (RX11, cX11_loseStation, 3, (none : Option Jvm.ClassFile.FieldType), yX11_loseStation, 2, 43, 0, 0, 11382825540385131274918722110294056093607852572571130007334838338313893326916419584)
def mX11_carry : MRec := (RX11, cX11_carry, 8, (none : Option Jvm.ClassFile.FieldType), yX11_carry, 3, 70, 0, 0, 11382825540385131274918722110294056093607852572571130007334838338313895534529609728)
def mX11_passStation : MRec := (RX11, cX11_passStation, 5, (none : Option Jvm.ClassFile.FieldType), yX11_passStation, 4, 97, 0, 0, 11382825540385131274918722110294056093607852572571130007334838338313896634041237504)
def mX11_unload : MRec := (RX11, cX11_unload, 5, (none : Option Jvm.ClassFile.FieldType), yX11_unload, 3, 69, 0, 0, 3794275180128377091639574036764685364535950857523710002444949654546159859153240064)
def mX11_meetIce : MRec := (RX11, cX11_meetIce, 2, (none : Option Jvm.ClassFile.FieldType), yX11_meetIce, 4, 93, 0, 0, 3794275180128377091639574036764685364535950857523710002444963969219561057765294080)
set_option maxHeartbeats 1000000 in
theorem t_X11_admitParties {K : Kmap} {V : Vmap} {x : Nat} (h_x : K x = some (0, 10)) (w_0 : CWI K V x) : MC mX11_admitParties K V [.ref x] (VS K (fun V1 => (True) ∧ (CWI K V1 x))) := by
  refine MC.start 3 (by decide +kernel) rfl rfl rfl (ls0 := [some (.ref x), none, none, none]) rfl ?_
  refine GO.useWT (fun hW_0 => ?_)
  refine GO.iconst dX11_admitParties_0 ?_
  refine GO.istore_n (ls1 := [some (.ref x), some (ti 0), none, none]) dX11_admitParties_1 rfl rfl rfl ?_
  refine GO.loop1 (fun i1 W => 0 ≤ i1 ∧ i1 ≤ 9 ∧ (CWI K W x) ∧ True) (fun i1 => [some (.ref x), some (ti i1), none, none]) (fun i1 W => (2147483647 - i1).toNat) 0 ⟨by omega, by omega, (by first | exact w_0), trivial⟩ rfl (fun i1 Wi1 hp195 ih194 => ?_)
  obtain ⟨l_i1, u_i1, hcl, -⟩ := hp195
  have r_i1 : ir i1 := ⟨by omega, by omega⟩
  show GO mX11_admitParties K V (VS K (fun V1 => (True) ∧ (CWI K V1 x))) K Wi1 0 0 2 [some (.ref x), some (ti i1), none, none] []
  refine GO.useWT (fun hWl => ?_)
  refine GO.iload_n dX11_admitParties_2 rfl rfl ?_
  refine GO.aload_n dX11_admitParties_3 rfl rfl ?_
  refine GO.getI h_x fl_RX11_36 rfl rfl dX11_admitParties_4 (fun l196 u197 => ?_)
  refine GO.icmp_ge (tgt := 89) dX11_admitParties_7 (by decide) r_i1 vi_ir (fun c198 => ?_) (fun c198 => ?_)
  ·
    exact GO.retv rfl rfl dX11_admitParties_89 ⟨rfl, rfl, ⟨trivial, (by first | exact w_0 | exact hcl)⟩⟩
  ·
    refine GO.aload_n dX11_admitParties_10 rfl rfl ?_
    refine GO.iload_n dX11_admitParties_11 rfl rfl ?_
    refine GO.callV (ci := 10) (N := mX11_partyOf) dX11_admitParties_12 (RX11, TX11, 20) rfl gV_RX11_151 h_x (t_X11_partyOf h_x r_i1) rfl [] rfl rfl (Nat.le_of_ble_eq_true rfl) rfl (k_rp (fun h201 => ?_) (fun o199 h200 h201 => ?_))
    ·
      have rwn12 := h201.2
      have hn202 : PN Wi1 x → i1 < 0 ∨ vi Wi1 x 4 ≤ i1 := h201.2
      refine GO.astore_nN (ls1 := [some (.ref x), some (ti i1), some (.null), none]) dX11_admitParties_15 rfl rfl rfl ?_
      refine GO.aload_nN dX11_admitParties_16 rfl rfl ?_
      refine GO.ifnullN (tgt := 83) dX11_admitParties_17 (by decide) ?_
      refine GO.iinc (X := i1) (n := 1) (Y := i1 + 1) (ls1 := [some (.ref x), some (ti (i1 + 1)), some (.null), none]) dX11_admitParties_83 rfl rfl rfl rfl ?_
      refine GO.goto (tgt := 2) dX11_admitParties_86 (by decide) ?_
      refine GO.drop [true, true, false, true] rfl ?_
      exact ih194 (i1 + 1) Wi1 ⟨by omega, by omega, (by first | exact w_0 | exact hcl), trivial⟩ (by show (2147483647 - (i1 + 1)).toNat < (2147483647 - i1).toNat; omega)
    ·
      have hp203 : i1 ≥ 0 ∧ i1 < vi Wi1 x 4 := h201.1
      have rwp12 := h201.2
      have hq204 : o199 = vq Wi1 (vq Wi1 x 3) (i1).toNat := h201.2
      refine GO.astore_n (ls1 := [some (.ref x), some (ti i1), some (.ref o199), none]) dX11_admitParties_15 rfl rfl rfl ?_
      refine GO.aload_n dX11_admitParties_16 rfl rfl ?_
      refine GO.ifnull dX11_admitParties_17 ?_
      refine GO.aload_n dX11_admitParties_20 rfl rfl ?_
      refine GO.getI h200 fl_RX11_341 rfl rfl dX11_admitParties_21 (fun _ _ => ?_)
      refine GO.iconst dX11_admitParties_24 ?_
      refine GO.icmp_eq (tgt := 31) dX11_admitParties_25 (by decide) vi_ir (ir_c rfl) (fun c205 => ?_) (fun c205 => ?_)
      ·
        refine GO.aload_n dX11_admitParties_31 rfl rfl ?_
        refine GO.getR h_x fl_RX11_19 rfl rfl dX11_admitParties_32 (fun hv207 h206 => ?_)
        refine GO.iload_n dX11_admitParties_35 rfl rfl ?_
        refine GO.aload_n dX11_admitParties_36 rfl rfl ?_
        refine GO.aload_n dX11_admitParties_37 rfl rfl ?_
        refine GO.getR h_x fl_RX11_12 rfl rfl dX11_admitParties_38 (fun hv209 h208 => ?_)
        refine GO.getI h208 fl_RX11_145 rfl rfl dX11_admitParties_41 (fun l210 u211 => ?_)
        refine GO.callV (ci := 1) (N := mX1_weigh) dX11_admitParties_44 (RX1, TX1, 13) rfl gV_RX11_279 h206 (t_X1_weigh h206 r_i1 h200 vi_ir) rfl [] rfl rfl (Nat.le_of_ble_eq_true rfl) rfl (k_vs fun V214 h213 hF212 => ?_)
        have raw_weigh := h213.2
        have rw44 := h213.2
        have hcw := CWI.weigh hcl rw44 rfl rwp12 ⟨by omega, by omega⟩ hF212 hWl h_x (by decide +kernel) (by decide +kernel)
        refine GO.useWT (fun hWw => ?_)
        refine GO.aload_n dX11_admitParties_47 rfl rfl ?_
        refine GO.getRaw h_x fl_RX11_19 (Eq.trans (hF212 _ _ _ h_x h_x (by decide +kernel)) hv207) dX11_admitParties_48 ?_
        refine GO.bipush dX11_admitParties_51 rfl ?_
        refine GO.iconst dX11_admitParties_53 ?_
        refine GO.iconst dX11_admitParties_54 ?_
        refine GO.callV (ci := 1) (N := mX1_numberOf) dX11_admitParties_55 (RX1, TX1, 13) rfl gV_RX11_292 h206 (t_X1_numberOf h206 (ir_c rfl) (ir_c rfl) (ir_c rfl)) rfl [] rfl rfl (Nat.le_of_ble_eq_true rfl) rfl (k_ip fun X217 r218 h219 => ?_)
        have raw_numberOf := h219.2
        have rw55 := h219.2
        refine GO.istore_n (ls1 := [some (.ref x), some (ti i1), some (.ref o199), some (ti X217)]) dX11_admitParties_58 rfl rfl rfl ?_
        refine GO.iload_n dX11_admitParties_59 rfl rfl ?_
        refine GO.iconst dX11_admitParties_60 ?_
        refine GO.icmp_eq (tgt := 83) dX11_admitParties_61 (by decide) r218 (ir_c rfl) (fun c220 => ?_) (fun c220 => ?_)
        ·
          refine GO.iinc (X := i1) (n := 1) (Y := i1 + 1) (ls1 := [some (.ref x), some (ti (i1 + 1)), some (.ref o199), some (ti X217)]) dX11_admitParties_83 rfl rfl rfl rfl ?_
          refine GO.goto (tgt := 2) dX11_admitParties_86 (by decide) ?_
          refine GO.drop [true, true, false, false] rfl ?_
          exact ih194 (i1 + 1) V214 ⟨by omega, by omega, (by first | exact w_0 | exact hcl | exact hcw.1 | exact CWI.put (kd := (0, 2)) (j := 0) hcw.1 (by assumption) (by assumption) hWw h_x (by decide +kernel) (by decide +kernel) (by decide +kernel) (by decide +kernel)), trivial⟩ (by show (2147483647 - (i1 + 1)).toNat < (2147483647 - i1).toNat; omega)
        ·
          refine GO.aload_n dX11_admitParties_64 rfl rfl ?_
          refine GO.getI h200 fl_RX11_464 rfl rfl dX11_admitParties_65 (fun _ _ => ?_)
          refine GO.iload_n dX11_admitParties_68 rfl rfl ?_
          refine GO.icmp_lt (tgt := 83) dX11_admitParties_69 (by decide) vi_ir r218 (fun c221 => ?_) (fun c221 => ?_)
          ·
            refine GO.iinc (X := i1) (n := 1) (Y := i1 + 1) (ls1 := [some (.ref x), some (ti (i1 + 1)), some (.ref o199), some (ti X217)]) dX11_admitParties_83 rfl rfl rfl rfl ?_
            refine GO.goto (tgt := 2) dX11_admitParties_86 (by decide) ?_
            refine GO.drop [true, true, false, false] rfl ?_
            exact ih194 (i1 + 1) V214 ⟨by omega, by omega, (by first | exact w_0 | exact hcl | exact hcw.1 | exact CWI.put (kd := (0, 2)) (j := 0) hcw.1 (by assumption) (by assumption) hWw h_x (by decide +kernel) (by decide +kernel) (by decide +kernel) (by decide +kernel)), trivial⟩ (by show (2147483647 - (i1 + 1)).toNat < (2147483647 - i1).toNat; omega)
          ·
            refine GO.aload_n dX11_admitParties_72 rfl rfl ?_
            refine GO.aload_n dX11_admitParties_73 rfl rfl ?_
            refine GO.getRaw h_x fl_RX11_12 (Eq.trans (hF212 _ _ _ h_x h_x (by decide +kernel)) hv209) dX11_admitParties_74 ?_
            refine GO.getI h208 fl_RX11_145 rfl rfl dX11_admitParties_77 (fun l224 u225 => ?_)
            refine GO.putI h200 fp_RX11_341 rfl (by decide +kernel) vi_ir (vi_ir).1 (vi_ir).2 dX11_admitParties_80 (fun V227 e226 => ?_)
            refine GO.iinc (X := i1) (n := 1) (Y := i1 + 1) (ls1 := [some (.ref x), some (ti (i1 + 1)), some (.ref o199), some (ti X217)]) dX11_admitParties_83 rfl rfl rfl rfl ?_
            refine GO.goto (tgt := 2) dX11_admitParties_86 (by decide) ?_
            refine GO.drop [true, true, false, false] rfl ?_
            exact ih194 (i1 + 1) V227 ⟨by omega, by omega, (by first | exact w_0 | exact hcl | exact hcw.1 | exact CWI.put (kd := (0, 2)) (j := 0) hcw.1 (by assumption) e226 hWw h_x (by decide +kernel) (by decide +kernel) (by decide +kernel) (by decide +kernel)), trivial⟩ (by show (2147483647 - (i1 + 1)).toNat < (2147483647 - i1).toNat; omega)
      ·
        refine GO.goto (tgt := 83) dX11_admitParties_28 (by decide) ?_
        refine GO.iinc (X := i1) (n := 1) (Y := i1 + 1) (ls1 := [some (.ref x), some (ti (i1 + 1)), some (.ref o199), none]) dX11_admitParties_83 rfl rfl rfl rfl ?_
        refine GO.goto (tgt := 2) dX11_admitParties_86 (by decide) ?_
        refine GO.drop [true, true, false, true] rfl ?_
        exact ih194 (i1 + 1) Wi1 ⟨by omega, by omega, (by first | exact w_0 | exact hcl), trivial⟩ (by show (2147483647 - (i1 + 1)).toNat < (2147483647 - i1).toNat; omega)

set_option maxHeartbeats 1000000 in
theorem t_X11_sendPeopleHome {K : Kmap} {V : Vmap} {x : Nat} {p0 : Nat} (h_x : K x = some (0, 10)) (h_p0 : K p0 = some (0, 3)) : MC mX11_sendPeopleHome K V [.ref x, .ref p0] (VS K (fun V1 => (True))) := by
  refine MC.start 0 (by decide +kernel) rfl rfl rfl (ls0 := [some (.ref x), some (.ref p0)]) rfl ?_
  refine GO.aload_n dX11_sendPeopleHome_0 rfl rfl ?_
  refine GO.bipush dX11_sendPeopleHome_1 rfl ?_
  refine GO.aload_n dX11_sendPeopleHome_3 rfl rfl ?_
  refine GO.getI h_p0 fl_RX11_183 rfl rfl dX11_sendPeopleHome_4 (fun _ _ => ?_)
  refine GO.callV (ci := 10) (N := mX11_tally) dX11_sendPeopleHome_7 (RX11, TX11, 20) rfl gV_RX11_192 h_x (t_X11_tally h_x (ir_c rfl) vi_ir) rfl [] rfl rfl (Nat.le_of_ble_eq_true rfl) rfl (k_vs fun V3 h2 hF1 => ?_)
  refine GO.aload_n dX11_sendPeopleHome_10 rfl rfl ?_
  refine GO.iconst dX11_sendPeopleHome_11 ?_
  refine GO.putI h_p0 fp_RX11_183 rfl (by decide +kernel) (ir_c rfl) (by decide) (by decide) dX11_sendPeopleHome_12 (fun V5 e4 => ?_)
  exact GO.retv rfl rfl dX11_sendPeopleHome_15 ⟨rfl, rfl, trivial⟩

set_option maxHeartbeats 1000000 in
theorem t_X11_burn {K : Kmap} {V : Vmap} {x : Nat} {p0 : Nat} {p1 : Int} (h_x : K x = some (0, 10)) (h_p0 : K p0 = some (0, 3)) (r_p1 : ir p1) : MC mX11_burn K V [.ref x, .ref p0, ti p1] (VS K (fun V1 => (True))) := by
  refine MC.start 1 (by decide +kernel) rfl rfl rfl (ls0 := [some (.ref x), some (.ref p0), some (ti p1), none]) rfl ?_
  refine GO.iload_n dX11_burn_0 rfl rfl ?_
  refine GO.aload_n dX11_burn_1 rfl rfl ?_
  refine GO.getI h_p0 fl_RX11_186 rfl rfl dX11_burn_2 (fun _ _ => ?_)
  refine GO.callS (N := mJ9_min_7cf53) dX11_burn_5 gS_RX11_479 (t_J9_min_7cf53 r_p1 vi_ir) rfl [] rfl rfl (Nat.le_of_ble_eq_true rfl) rfl (k_ip fun X1 r2 h3 => ?_)
  have q4 : -2147483648 ≤ vi V p0 7 ∧ vi V p0 7 ≤ 2147483647 := vi_ir
  have q5 : -2147483648 ≤ X1 ∧ X1 ≤ 2147483647 := r2
  have q6 : -2147483648 ≤ p1 ∧ p1 ≤ 2147483647 := r_p1
  refine GO.istore_n (ls1 := [some (.ref x), some (.ref p0), some (ti p1), some (ti X1)]) dX11_burn_8 rfl rfl rfl ?_
  refine GO.aload_n dX11_burn_9 rfl rfl ?_
  refine GO.dup dX11_burn_10 rfl ?_
  refine GO.getI h_p0 fl_RX11_186 rfl rfl dX11_burn_11 (fun _ _ => ?_)
  refine GO.iload_n dX11_burn_14 rfl rfl ?_
  refine GO.isub dX11_burn_15 ?_
  refine GO.norm (fun z7 r8 hn9 => ?_)
  refine GO.putI h_p0 fp_RX11_186 rfl (by decide +kernel) r8 (r8).1 (r8).2 dX11_burn_16 (fun V11 e10 => ?_)
  refine GO.aload_n dX11_burn_19 rfl rfl ?_
  refine GO.iconst dX11_burn_20 ?_
  refine GO.iload_n dX11_burn_21 rfl rfl ?_
  refine GO.callV (ci := 10) (N := mX11_tally) dX11_burn_22 (RX11, TX11, 20) rfl gV_RX11_192 h_x (t_X11_tally h_x (ir_c rfl) r2) rfl [] rfl rfl (Nat.le_of_ble_eq_true rfl) rfl (k_vs fun V14 h13 hF12 => ?_)
  refine GO.aload_n dX11_burn_25 rfl rfl ?_
  refine GO.iload_n dX11_burn_26 rfl rfl ?_
  refine GO.iload_n dX11_burn_27 rfl rfl ?_
  refine GO.icmp_ge (tgt := 40) dX11_burn_28 (by decide) r2 r_p1 (fun c15 => ?_) (fun c15 => ?_)
  ·
    refine GO.iconst dX11_burn_40 ?_
    refine GO.putI h_p0 fp_RX11_501 rfl (by decide +kernel) (ir_c rfl) (by decide) (by decide) dX11_burn_41 (fun V17 e16 => ?_)
    refine GO.aload_n dX11_burn_44 rfl rfl ?_
    refine GO.getI h_p0 fl_RX11_501 rfl rfl dX11_burn_45 (fun _ _ => ?_)
    refine GO.bipush dX11_burn_48 rfl ?_
    refine GO.icmp_ne (tgt := 58) dX11_burn_50 (by decide) vi_ir (ir_c rfl) (fun c18 => ?_) (fun c18 => ?_)
    ·
      exact GO.retv rfl rfl dX11_burn_58 ⟨rfl, rfl, trivial⟩
    ·
      refine GO.aload_n dX11_burn_53 rfl rfl ?_
      refine GO.aload_n dX11_burn_54 rfl rfl ?_
      refine GO.callV (ci := 10) (N := mX11_sendPeopleHome) dX11_burn_55 (RX11, TX11, 20) rfl gV_RX11_504 h_x (t_X11_sendPeopleHome h_x h_p0) rfl [] rfl rfl (Nat.le_of_ble_eq_true rfl) rfl (k_vs fun V21 h20 hF19 => ?_)
      exact GO.retv rfl rfl dX11_burn_58 ⟨rfl, rfl, trivial⟩
  ·
    refine GO.aload_n dX11_burn_31 rfl rfl ?_
    refine GO.getI h_p0 fl_RX11_501 rfl rfl dX11_burn_32 (fun _ _ => ?_)
    refine GO.iconst dX11_burn_35 ?_
    refine GO.iadd dX11_burn_36 ?_
    refine GO.norm (fun z22 r23 hn24 => ?_)
    refine GO.goto (tgt := 41) dX11_burn_37 (by decide) ?_
    refine GO.putI h_p0 fp_RX11_501 rfl (by decide +kernel) r23 (r23).1 (r23).2 dX11_burn_41 (fun V26 e25 => ?_)
    refine GO.aload_n dX11_burn_44 rfl rfl ?_
    refine GO.getI h_p0 fl_RX11_501 rfl rfl dX11_burn_45 (fun _ _ => ?_)
    refine GO.bipush dX11_burn_48 rfl ?_
    refine GO.icmp_ne (tgt := 58) dX11_burn_50 (by decide) vi_ir (ir_c rfl) (fun c27 => ?_) (fun c27 => ?_)
    ·
      exact GO.retv rfl rfl dX11_burn_58 ⟨rfl, rfl, trivial⟩
    ·
      refine GO.aload_n dX11_burn_53 rfl rfl ?_
      refine GO.aload_n dX11_burn_54 rfl rfl ?_
      refine GO.callV (ci := 10) (N := mX11_sendPeopleHome) dX11_burn_55 (RX11, TX11, 20) rfl gV_RX11_504 h_x (t_X11_sendPeopleHome h_x h_p0) rfl [] rfl rfl (Nat.le_of_ble_eq_true rfl) rfl (k_vs fun V30 h29 hF28 => ?_)
      exact GO.retv rfl rfl dX11_burn_58 ⟨rfl, rfl, trivial⟩

set_option maxHeartbeats 1000000 in
theorem t_X11_carryField {K : Kmap} {V : Vmap} {x : Nat} {p0 : Nat} {p1 : Int} {p2 : Int} (h_x : K x = some (0, 10)) (h_p0 : K p0 = some (0, 3)) (r_p1 : ir p1) (r_p2 : ir p2) (z_p2 : p2 = 0 ∨ p2 = 1) : MC mX11_carryField K V [.ref x, .ref p0, ti p1, ti p2] (VS K (fun V1 => (True))) := by
  refine MC.start 1 (by decide +kernel) rfl rfl rfl (ls0 := [some (.ref x), some (.ref p0), some (ti p1), some (ti p2), none]) rfl ?_
  refine GO.aload_n dX11_carryField_0 rfl rfl ?_
  refine GO.getR h_x fl_RX11_12 rfl rfl dX11_carryField_1 (fun hv2 h1 => ?_)
  refine GO.aload_n dX11_carryField_4 rfl rfl ?_
  refine GO.getI h_p0 fl_RX11_344 rfl rfl dX11_carryField_5 (fun _ _ => ?_)
  refine GO.iload_n dX11_carryField_8 rfl rfl ?_
  refine GO.callV (ci := 0) (N := mX0_beside) dX11_carryField_9 (RX0, TX0, 13) rfl gV_RX11_508 h1 (t_X0_beside h1 vi_ir r_p1) rfl [] rfl rfl (Nat.le_of_ble_eq_true rfl) rfl (k_ip fun X3 r4 h5 => ?_)
  refine GO.istore (ls1 := [some (.ref x), some (.ref p0), some (ti p1), some (ti p2), some (ti X3)]) dX11_carryField_12 rfl rfl ?_
  refine GO.iload_n dX11_carryField_14 rfl rfl ?_
  refine GO.if_ne (tgt := 30) dX11_carryField_15 (by decide) r_p2 (fun c6 => ?_) (fun c6 => ?_)
  ·
    refine GO.aload_n dX11_carryField_30 rfl rfl ?_
    refine GO.iconst dX11_carryField_31 ?_
    refine GO.putZ h_p0 fp_RX11_511 rfl (by decide +kernel) (by omega) (by omega) (by omega) dX11_carryField_32 (fun V8 e7 => ?_)
    refine GO.iload dX11_carryField_35 rfl ?_
    refine GO.iconst dX11_carryField_37 ?_
    refine GO.icmp_eq (tgt := 47) dX11_carryField_38 (by decide) r4 (ir_c rfl) (fun c9 => ?_) (fun c9 => ?_)
    ·
      exact GO.retv rfl rfl dX11_carryField_47 ⟨rfl, rfl, trivial⟩
    ·
      refine GO.aload_n dX11_carryField_41 rfl rfl ?_
      refine GO.iload dX11_carryField_42 rfl ?_
      refine GO.putI h_p0 fp_RX11_344 rfl (by decide +kernel) r4 (r4).1 (r4).2 dX11_carryField_44 (fun V11 e10 => ?_)
      exact GO.retv rfl rfl dX11_carryField_47 ⟨rfl, rfl, trivial⟩
  ·
    refine GO.aload_n dX11_carryField_18 rfl rfl ?_
    refine GO.getRaw h_x fl_RX11_12 hv2 dX11_carryField_19 ?_
    refine GO.iload dX11_carryField_22 rfl ?_
    refine GO.callV (ci := 0) (N := mX0_isFirm) dX11_carryField_24 (RX0, TX0, 13) rfl gV_RX11_179 h1 (t_X0_isFirm h1 r4) rfl [] rfl rfl (Nat.le_of_ble_eq_true rfl) rfl (k_ip fun X14 r15 h16 => ?_)
    refine GO.if_ne (tgt := 35) dX11_carryField_27 (by decide) r15 (fun c17 => ?_) (fun c17 => ?_)
    ·
      refine GO.iload dX11_carryField_35 rfl ?_
      refine GO.iconst dX11_carryField_37 ?_
      refine GO.icmp_eq (tgt := 47) dX11_carryField_38 (by decide) r4 (ir_c rfl) (fun c18 => ?_) (fun c18 => ?_)
      ·
        exact GO.retv rfl rfl dX11_carryField_47 ⟨rfl, rfl, trivial⟩
      ·
        refine GO.aload_n dX11_carryField_41 rfl rfl ?_
        refine GO.iload dX11_carryField_42 rfl ?_
        refine GO.putI h_p0 fp_RX11_344 rfl (by decide +kernel) r4 (r4).1 (r4).2 dX11_carryField_44 (fun V20 e19 => ?_)
        exact GO.retv rfl rfl dX11_carryField_47 ⟨rfl, rfl, trivial⟩
    ·
      refine GO.aload_n dX11_carryField_30 rfl rfl ?_
      refine GO.iconst dX11_carryField_31 ?_
      refine GO.putZ h_p0 fp_RX11_511 rfl (by decide +kernel) (by omega) (by omega) (by omega) dX11_carryField_32 (fun V22 e21 => ?_)
      refine GO.iload dX11_carryField_35 rfl ?_
      refine GO.iconst dX11_carryField_37 ?_
      refine GO.icmp_eq (tgt := 47) dX11_carryField_38 (by decide) r4 (ir_c rfl) (fun c23 => ?_) (fun c23 => ?_)
      ·
        exact GO.retv rfl rfl dX11_carryField_47 ⟨rfl, rfl, trivial⟩
      ·
        refine GO.aload_n dX11_carryField_41 rfl rfl ?_
        refine GO.iload dX11_carryField_42 rfl ?_
        refine GO.putI h_p0 fp_RX11_344 rfl (by decide +kernel) r4 (r4).1 (r4).2 dX11_carryField_44 (fun V25 e24 => ?_)
        exact GO.retv rfl rfl dX11_carryField_47 ⟨rfl, rfl, trivial⟩

set_option maxHeartbeats 1000000 in
theorem t_X11_loseStation {K : Kmap} {V : Vmap} {x : Nat} {p0 : Nat} (h_x : K x = some (0, 10)) (h_p0 : K p0 = some (0, 3)) : MC mX11_loseStation K V [.ref x, .ref p0] (VS K (fun V1 => (True))) := by
  refine MC.start 1 (by decide +kernel) rfl rfl rfl (ls0 := [some (.ref x), some (.ref p0), none]) rfl ?_
  refine GO.aload_n dX11_loseStation_0 rfl rfl ?_
  refine GO.iconst dX11_loseStation_1 ?_
  refine GO.putZ h_p0 fp_RX11_511 rfl (by decide +kernel) (by omega) (by omega) (by omega) dX11_loseStation_2 (fun V2 e1 => ?_)
  refine GO.aload_n dX11_loseStation_5 rfl rfl ?_
  refine GO.iconst dX11_loseStation_6 ?_
  refine GO.aload_n dX11_loseStation_7 rfl rfl ?_
  refine GO.getI h_p0 fl_RX11_186 rfl rfl dX11_loseStation_8 (fun _ _ => ?_)
  refine GO.callV (ci := 10) (N := mX11_tally) dX11_loseStation_11 (RX11, TX11, 20) rfl gV_RX11_192 h_x (t_X11_tally h_x (ir_c rfl) vi_ir) rfl [] rfl rfl (Nat.le_of_ble_eq_true rfl) rfl (k_vs fun V5 h4 hF3 => ?_)
  refine GO.aload_n dX11_loseStation_14 rfl rfl ?_
  refine GO.iconst dX11_loseStation_15 ?_
  refine GO.aload_n dX11_loseStation_16 rfl rfl ?_
  refine GO.getI h_p0 fl_RX11_421 rfl rfl dX11_loseStation_17 (fun _ _ => ?_)
  refine GO.callV (ci := 10) (N := mX11_tally) dX11_loseStation_20 (RX11, TX11, 20) rfl gV_RX11_192 h_x (t_X11_tally h_x (ir_c rfl) vi_ir) rfl [] rfl rfl (Nat.le_of_ble_eq_true rfl) rfl (k_vs fun V8 h7 hF6 => ?_)
  refine GO.aload_n dX11_loseStation_23 rfl rfl ?_
  refine GO.iconst dX11_loseStation_24 ?_
  refine GO.putI h_p0 fp_RX11_186 rfl (by decide +kernel) (ir_c rfl) (by decide) (by decide) dX11_loseStation_25 (fun V10 e9 => ?_)
  refine GO.aload_n dX11_loseStation_28 rfl rfl ?_
  refine GO.iconst dX11_loseStation_29 ?_
  refine GO.putI h_p0 fp_RX11_421 rfl (by decide +kernel) (ir_c rfl) (by decide) (by decide) dX11_loseStation_30 (fun V12 e11 => ?_)
  refine GO.iconst dX11_loseStation_33 ?_
  refine GO.istore_n (ls1 := [some (.ref x), some (.ref p0), some (ti 0)]) dX11_loseStation_34 rfl rfl rfl ?_
  refine GO.loop1 (fun i13 W => 0 ≤ i13 ∧ i13 ≤ 4 ∧ True) (fun i13 => [some (.ref x), some (.ref p0), some (ti i13)]) (fun i13 W => (2147483647 - i13).toNat) 0 ⟨by omega, by omega, trivial⟩ rfl (fun i13 Wi13 hp206 ih205 => ?_)
  obtain ⟨l_i13, u_i13, -⟩ := hp206
  have r_i13 : ir i13 := ⟨by omega, by omega⟩
  show GO mX11_loseStation K V (VS K (fun V1 => (True))) K Wi13 0 0 35 [some (.ref x), some (.ref p0), some (ti i13)] []
  refine GO.iload_n dX11_loseStation_35 rfl rfl ?_
  refine GO.iconst dX11_loseStation_36 ?_
  refine GO.icmp_ge (tgt := 68) dX11_loseStation_37 (by decide) r_i13 (ir_c rfl) (fun c207 => ?_) (fun c207 => ?_)
  ·
    refine GO.aload_n dX11_loseStation_68 rfl rfl ?_
    refine GO.aload_n dX11_loseStation_69 rfl rfl ?_
    refine GO.callV (ci := 10) (N := mX11_sendPeopleHome) dX11_loseStation_70 (RX11, TX11, 20) rfl gV_RX11_504 h_x (t_X11_sendPeopleHome h_x h_p0) rfl [] rfl rfl (Nat.le_of_ble_eq_true rfl) rfl (k_vs fun V210 h209 hF208 => ?_)
    exact GO.retv rfl rfl dX11_loseStation_73 ⟨rfl, rfl, trivial⟩
  ·
    refine GO.aload_n dX11_loseStation_40 rfl rfl ?_
    refine GO.iconst dX11_loseStation_41 ?_
    refine GO.aload_n dX11_loseStation_42 rfl rfl ?_
    refine GO.getNB h_p0 fl_RX11_491 rfl rfl dX11_loseStation_43 (fun hv212 => ?_) (fun n213 hv212 h211 b214 => ?_)
    ·
      refine GO.iload_n dX11_loseStation_46 rfl rfl ?_
      refine GO.callS (N := mX4_get_n) dX11_loseStation_47 gS_RX11_253 (t_X4_get_n r_i13) rfl [ti 5, .ref x] rfl rfl (Nat.le_of_ble_eq_true rfl) rfl (k_ip fun X215 r216 h217 => ?_)
      refine GO.callV (ci := 10) (N := mX11_tally) dX11_loseStation_50 (RX11, TX11, 20) rfl gV_RX11_192 h_x (t_X11_tally h_x (ir_c rfl) r216) rfl [] rfl rfl (Nat.le_of_ble_eq_true rfl) rfl (k_vs fun V220 h219 hF218 => ?_)
      refine GO.aload_n dX11_loseStation_53 rfl rfl ?_
      refine GO.getNB h_p0 fl_RX11_491 rfl rfl dX11_loseStation_54 (fun hv222 => ?_) (fun n223 hv222 h221 b224 => ?_)
      ·
        refine GO.iload_n dX11_loseStation_57 rfl rfl ?_
        refine GO.iconst dX11_loseStation_58 ?_
        refine GO.callS (N := mX4_put_n) dX11_loseStation_59 gS_RX11_108 (t_X4_put_n r_i13 (ir_c rfl)) rfl [] rfl rfl (Nat.le_of_ble_eq_true rfl) rfl (k_vs fun V227 h226 hF225 => ?_)
        refine GO.iinc (X := i13) (n := 1) (Y := i13 + 1) (ls1 := [some (.ref x), some (.ref p0), some (ti (i13 + 1))]) dX11_loseStation_62 rfl rfl rfl rfl ?_
        refine GO.goto (tgt := 35) dX11_loseStation_65 (by decide) ?_
        exact ih205 (i13 + 1) V227 ⟨by omega, by omega, trivial⟩ (by show (2147483647 - (i13 + 1)).toNat < (2147483647 - i13).toNat; omega)
      ·
        refine GO.iload_n dX11_loseStation_57 rfl rfl ?_
        refine GO.iconst dX11_loseStation_58 ?_
        refine GO.callS (N := mX4_put) dX11_loseStation_59 gS_RX11_108 (t_X4_put h221 r_i13 (ir_c rfl)) rfl [] rfl rfl (Nat.le_of_ble_eq_true rfl) rfl (k_vs fun V230 h229 hF228 => ?_)
        have raw_put := h229.2
        have rw59 := h229.2
        refine GO.iinc (X := i13) (n := 1) (Y := i13 + 1) (ls1 := [some (.ref x), some (.ref p0), some (ti (i13 + 1))]) dX11_loseStation_62 rfl rfl rfl rfl ?_
        refine GO.goto (tgt := 35) dX11_loseStation_65 (by decide) ?_
        exact ih205 (i13 + 1) V230 ⟨by omega, by omega, trivial⟩ (by show (2147483647 - (i13 + 1)).toNat < (2147483647 - i13).toNat; omega)
    ·
      refine GO.iload_n dX11_loseStation_46 rfl rfl ?_
      refine GO.callS (N := mX4_get) dX11_loseStation_47 gS_RX11_253 (t_X4_get rfl h211 r_i13) rfl [ti 5, .ref x] rfl rfl (Nat.le_of_ble_eq_true rfl) rfl (k_ip fun X231 r232 h233 => ?_)
      have raw_get := h233.2
      have rw47 := h233.2
      refine GO.callV (ci := 10) (N := mX11_tally) dX11_loseStation_50 (RX11, TX11, 20) rfl gV_RX11_192 h_x (t_X11_tally h_x (ir_c rfl) r232) rfl [] rfl rfl (Nat.le_of_ble_eq_true rfl) rfl (k_vs fun V236 h235 hF234 => ?_)
      refine GO.aload_n dX11_loseStation_53 rfl rfl ?_
      refine GO.getNB h_p0 fl_RX11_491 rfl rfl dX11_loseStation_54 (fun hv238 => ?_) (fun n239 hv238 h237 b240 => ?_)
      ·
        refine GO.iload_n dX11_loseStation_57 rfl rfl ?_
        refine GO.iconst dX11_loseStation_58 ?_
        refine GO.callS (N := mX4_put_n) dX11_loseStation_59 gS_RX11_108 (t_X4_put_n r_i13 (ir_c rfl)) rfl [] rfl rfl (Nat.le_of_ble_eq_true rfl) rfl (k_vs fun V243 h242 hF241 => ?_)
        refine GO.iinc (X := i13) (n := 1) (Y := i13 + 1) (ls1 := [some (.ref x), some (.ref p0), some (ti (i13 + 1))]) dX11_loseStation_62 rfl rfl rfl rfl ?_
        refine GO.goto (tgt := 35) dX11_loseStation_65 (by decide) ?_
        exact ih205 (i13 + 1) V243 ⟨by omega, by omega, trivial⟩ (by show (2147483647 - (i13 + 1)).toNat < (2147483647 - i13).toNat; omega)
      ·
        refine GO.iload_n dX11_loseStation_57 rfl rfl ?_
        refine GO.iconst dX11_loseStation_58 ?_
        refine GO.callS (N := mX4_put) dX11_loseStation_59 gS_RX11_108 (t_X4_put h237 r_i13 (ir_c rfl)) rfl [] rfl rfl (Nat.le_of_ble_eq_true rfl) rfl (k_vs fun V246 h245 hF244 => ?_)
        have raw_put := h245.2
        have rw59 := h245.2
        refine GO.iinc (X := i13) (n := 1) (Y := i13 + 1) (ls1 := [some (.ref x), some (.ref p0), some (ti (i13 + 1))]) dX11_loseStation_62 rfl rfl rfl rfl ?_
        refine GO.goto (tgt := 35) dX11_loseStation_65 (by decide) ?_
        exact ih205 (i13 + 1) V246 ⟨by omega, by omega, trivial⟩ (by show (2147483647 - (i13 + 1)).toNat < (2147483647 - i13).toNat; omega)

set_option maxHeartbeats 1000000 in
theorem t_X11_carry {K : Kmap} {V : Vmap} {x : Nat} {p0 : Int} {p1 : Nat} (h_x : K x = some (0, 10)) (r_p0 : ir p0) (h_p1 : K p1 = some (0, 3)) : MC mX11_carry K V [.ref x, ti p0, .ref p1] (VS K (fun V1 => (True))) := by
  refine MC.start 5 (by decide +kernel) rfl rfl rfl (ls0 := [some (.ref x), some (ti p0), some (.ref p1), none, none, none, none, none]) rfl ?_
  refine GO.aload_n dX11_carry_0 rfl rfl ?_
  refine GO.getR h_x fl_RX11_12 rfl rfl dX11_carry_1 (fun hv2 h1 => ?_)
  refine GO.getA (n := 144) h1 fl_RX11_129 rfl rfl rfl rfl dX11_carry_4 (fun hv4 h3 => ?_)
  refine GO.aload_n dX11_carry_7 rfl rfl ?_
  refine GO.getI h_p1 fl_RX11_344 rfl rfl dX11_carry_8 (fun _ _ => ?_)
  refine GO.callS (N := mX4_get) dX11_carry_11 gS_RX11_253 (t_X4_get rfl h3 vi_ir) rfl [] rfl rfl (Nat.le_of_ble_eq_true rfl) rfl (k_ip fun X5 r6 h7 => ?_)
  have raw_get := h7.2
  have rw11 := h7.2
  refine GO.istore_n (ls1 := [some (.ref x), some (ti p0), some (.ref p1), some (ti X5), none, none, none, none]) dX11_carry_14 rfl rfl rfl ?_
  refine GO.aload_n dX11_carry_15 rfl rfl ?_
  refine GO.getRaw h_x fl_RX11_12 hv2 dX11_carry_16 ?_
  refine GO.aload_n dX11_carry_19 rfl rfl ?_
  refine GO.getI h_p1 fl_RX11_344 rfl rfl dX11_carry_20 (fun _ _ => ?_)
  refine GO.iload_n dX11_carry_23 rfl rfl ?_
  refine GO.callV (ci := 0) (N := mX0_beside) dX11_carry_24 (RX0, TX0, 13) rfl gV_RX11_508 h1 (t_X0_beside h1 vi_ir r6) rfl [] rfl rfl (Nat.le_of_ble_eq_true rfl) rfl (k_ip fun X10 r11 h12 => ?_)
  refine GO.istore (ls1 := [some (.ref x), some (ti p0), some (.ref p1), some (ti X5), some (ti X10), none, none, none]) dX11_carry_27 rfl rfl ?_
  refine GO.aload_n dX11_carry_29 rfl rfl ?_
  refine GO.getRaw h_x fl_RX11_12 hv2 dX11_carry_30 ?_
  refine GO.iload dX11_carry_33 rfl ?_
  refine GO.callV (ci := 0) (N := mX0_isFirm) dX11_carry_35 (RX0, TX0, 13) rfl gV_RX11_179 h1 (t_X0_isFirm h1 r11) rfl [] rfl rfl (Nat.le_of_ble_eq_true rfl) rfl (k_ip fun X15 r16 h17 => ?_)
  have hj20 : ∀ (z19 : Int), ∀ (l21 : 0 ≤ z19), ∀ (u22 : z19 ≤ 1), GO mX11_carry K V (VS K (fun V1 => (True))) K V 0 0 46 [some (.ref x), some (ti p0), some (.ref p1), some (ti X5), some (ti X10), none, none, none] [ti z19] := by
    intro z19 l21 u22
    have r23 : ir z19 := ⟨by omega, by omega⟩
    refine GO.istore (ls1 := [some (.ref x), some (ti p0), some (.ref p1), some (ti X5), some (ti X10), some (ti z19), none, none]) dX11_carry_46 rfl rfl ?_
    refine GO.iconst dX11_carry_48 ?_
    refine GO.istore (ls1 := [some (.ref x), some (ti p0), some (.ref p1), some (ti X5), some (ti X10), some (ti z19), some (ti 0), none]) dX11_carry_49 rfl rfl ?_
    refine GO.loop1 (fun i24 W => 0 ≤ i24 ∧ i24 ≤ 60 ∧ True) (fun i24 => [some (.ref x), some (ti p0), some (.ref p1), some (ti X5), some (ti X10), some (ti z19), some (ti i24), none]) (fun i24 W => (2147483647 - i24).toNat) 0 ⟨by omega, by omega, trivial⟩ rfl (fun i24 Wi24 hp332 ih331 => ?_)
    obtain ⟨l_i24, u_i24, -⟩ := hp332
    have r_i24 : ir i24 := ⟨by omega, by omega⟩
    show GO mX11_carry K V (VS K (fun V1 => (True))) K Wi24 0 0 51 [some (.ref x), some (ti p0), some (.ref p1), some (ti X5), some (ti X10), some (ti z19), some (ti i24), none] []
    refine GO.iload dX11_carry_51 rfl ?_
    refine GO.aload_n dX11_carry_53 rfl rfl ?_
    refine GO.getI h_x fl_RX11_46 rfl rfl dX11_carry_54 (fun l333 u334 => ?_)
    refine GO.icmp_ge (tgt := 116) dX11_carry_57 (by decide) r_i24 vi_ir (fun c335 => ?_) (fun c335 => ?_)
    ·
      refine GO.iload dX11_carry_116 rfl ?_
      refine GO.iconst dX11_carry_118 ?_
      refine GO.icmp_eq (tgt := 139) dX11_carry_119 (by decide) r11 (ir_c rfl) (fun c336 => ?_) (fun c336 => ?_)
      ·
        refine GO.iload dX11_carry_139 rfl ?_
        refine GO.if_eq (tgt := 149) dX11_carry_141 (by decide) r23 (fun c337 => ?_) (fun c337 => ?_)
        ·
          exact GO.retv rfl rfl dX11_carry_149 ⟨rfl, rfl, trivial⟩
        ·
          refine GO.aload_n dX11_carry_144 rfl rfl ?_
          refine GO.aload_n dX11_carry_145 rfl rfl ?_
          refine GO.callV (ci := 10) (N := mX11_loseStation) dX11_carry_146 (RX11, TX11, 20) rfl gV_RX11_519 h_x (t_X11_loseStation h_x h_p1) rfl [] rfl rfl (Nat.le_of_ble_eq_true rfl) rfl (k_vs fun V340 h339 hF338 => ?_)
          exact GO.retv rfl rfl dX11_carry_149 ⟨rfl, rfl, trivial⟩
      ·
        refine GO.aload_n dX11_carry_122 rfl rfl ?_
        refine GO.iload dX11_carry_123 rfl ?_
        refine GO.putI h_p1 fp_RX11_344 rfl (by decide +kernel) r11 (r11).1 (r11).2 dX11_carry_125 (fun V342 e341 => ?_)
        refine GO.aload_n dX11_carry_128 rfl rfl ?_
        refine GO.aload_n dX11_carry_129 rfl rfl ?_
        refine GO.getR h_x fl_RX11_12 rfl rfl dX11_carry_130 (fun hv344 h343 => ?_)
        refine GO.getI h343 fl_RX11_145 rfl rfl dX11_carry_133 (fun l345 u346 => ?_)
        refine GO.putI h_p1 fp_RX11_189 rfl (by decide +kernel) vi_ir (vi_ir).1 (vi_ir).2 dX11_carry_136 (fun V348 e347 => ?_)
        refine GO.iload dX11_carry_139 rfl ?_
        refine GO.if_eq (tgt := 149) dX11_carry_141 (by decide) r23 (fun c349 => ?_) (fun c349 => ?_)
        ·
          exact GO.retv rfl rfl dX11_carry_149 ⟨rfl, rfl, trivial⟩
        ·
          refine GO.aload_n dX11_carry_144 rfl rfl ?_
          refine GO.aload_n dX11_carry_145 rfl rfl ?_
          refine GO.callV (ci := 10) (N := mX11_loseStation) dX11_carry_146 (RX11, TX11, 20) rfl gV_RX11_519 h_x (t_X11_loseStation h_x h_p1) rfl [] rfl rfl (Nat.le_of_ble_eq_true rfl) rfl (k_vs fun V352 h351 hF350 => ?_)
          exact GO.retv rfl rfl dX11_carry_149 ⟨rfl, rfl, trivial⟩
    ·
      refine GO.aload_n dX11_carry_60 rfl rfl ?_
      refine GO.iload dX11_carry_61 rfl ?_
      refine GO.iconst dX11_carry_63 ?_
      refine GO.callV (ci := 10) (N := mX11_placeOf) dX11_carry_64 (RX11, TX11, 20) rfl gV_RX11_169 h_x (t_X11_placeOf h_x r_i24 (ir_c rfl)) rfl [] rfl rfl (Nat.le_of_ble_eq_true rfl) rfl (k_rp (fun h355 => ?_) (fun o353 h354 h355 => ?_))
      ·
        refine GO.astoreN (ls1 := [some (.ref x), some (ti p0), some (.ref p1), some (ti X5), some (ti X10), some (ti z19), some (ti i24), some (.null)]) dX11_carry_67 rfl rfl ?_
        refine GO.aloadN dX11_carry_69 rfl ?_
        refine GO.ifnullN (tgt := 110) dX11_carry_71 (by decide) ?_
        refine GO.iinc (X := i24) (n := 1) (Y := i24 + 1) (ls1 := [some (.ref x), some (ti p0), some (.ref p1), some (ti X5), some (ti X10), some (ti z19), some (ti (i24 + 1)), some (.null)]) dX11_carry_110 rfl rfl rfl rfl ?_
        refine GO.goto (tgt := 51) dX11_carry_113 (by decide) ?_
        refine GO.drop [true, true, true, true, true, true, true, false] rfl ?_
        exact ih331 (i24 + 1) Wi24 ⟨by omega, by omega, trivial⟩ (by show (2147483647 - (i24 + 1)).toNat < (2147483647 - i24).toNat; omega)
      ·
        refine GO.astore (ls1 := [some (.ref x), some (ti p0), some (.ref p1), some (ti X5), some (ti X10), some (ti z19), some (ti i24), some (.ref o353)]) dX11_carry_67 rfl rfl ?_
        refine GO.aload dX11_carry_69 rfl ?_
        refine GO.ifnull dX11_carry_71 ?_
        refine GO.aload dX11_carry_74 rfl ?_
        refine GO.getI h354 fl_RX11_176 rfl rfl dX11_carry_76 (fun _ _ => ?_)
        refine GO.iload_n dX11_carry_79 rfl rfl ?_
        refine GO.icmp_ne (tgt := 110) dX11_carry_80 (by decide) vi_ir r_p0 (fun c356 => ?_) (fun c356 => ?_)
        ·
          refine GO.iinc (X := i24) (n := 1) (Y := i24 + 1) (ls1 := [some (.ref x), some (ti p0), some (.ref p1), some (ti X5), some (ti X10), some (ti z19), some (ti (i24 + 1)), some (.ref o353)]) dX11_carry_110 rfl rfl rfl rfl ?_
          refine GO.goto (tgt := 51) dX11_carry_113 (by decide) ?_
          refine GO.drop [true, true, true, true, true, true, true, false] rfl ?_
          exact ih331 (i24 + 1) Wi24 ⟨by omega, by omega, trivial⟩ (by show (2147483647 - (i24 + 1)).toNat < (2147483647 - i24).toNat; omega)
        ·
          refine GO.aload dX11_carry_83 rfl ?_
          refine GO.getI h354 fl_RX11_511 rfl rfl dX11_carry_85 (fun l357 u358 => ?_)
          refine GO.if_ne (tgt := 110) dX11_carry_88 (by decide) vi_ir (fun c359 => ?_) (fun c359 => ?_)
          ·
            refine GO.iinc (X := i24) (n := 1) (Y := i24 + 1) (ls1 := [some (.ref x), some (ti p0), some (.ref p1), some (ti X5), some (ti X10), some (ti z19), some (ti (i24 + 1)), some (.ref o353)]) dX11_carry_110 rfl rfl rfl rfl ?_
            refine GO.goto (tgt := 51) dX11_carry_113 (by decide) ?_
            refine GO.drop [true, true, true, true, true, true, true, false] rfl ?_
            exact ih331 (i24 + 1) Wi24 ⟨by omega, by omega, trivial⟩ (by show (2147483647 - (i24 + 1)).toNat < (2147483647 - i24).toNat; omega)
          ·
            refine GO.aload_n dX11_carry_91 rfl rfl ?_
            refine GO.aload dX11_carry_92 rfl ?_
            refine GO.iload dX11_carry_94 rfl ?_
            refine GO.iconst dX11_carry_96 ?_
            refine GO.icmp_ne (tgt := 104) dX11_carry_97 (by decide) r11 (ir_c rfl) (fun c360 => ?_) (fun c360 => ?_)
            ·
              refine GO.iload_n dX11_carry_104 rfl rfl ?_
              refine GO.iload dX11_carry_105 rfl ?_
              refine GO.callV (ci := 10) (N := mX11_carryField) dX11_carry_107 (RX11, TX11, 20) rfl gV_RX11_515 h_x (t_X11_carryField h_x h354 r6 r23 (by omega)) rfl [] rfl rfl (Nat.le_of_ble_eq_true rfl) rfl (k_vs fun V363 h362 hF361 => ?_)
              refine GO.iinc (X := i24) (n := 1) (Y := i24 + 1) (ls1 := [some (.ref x), some (ti p0), some (.ref p1), some (ti X5), some (ti X10), some (ti z19), some (ti (i24 + 1)), some (.ref o353)]) dX11_carry_110 rfl rfl rfl rfl ?_
              refine GO.goto (tgt := 51) dX11_carry_113 (by decide) ?_
              refine GO.drop [true, true, true, true, true, true, true, false] rfl ?_
              exact ih331 (i24 + 1) V363 ⟨by omega, by omega, trivial⟩ (by show (2147483647 - (i24 + 1)).toNat < (2147483647 - i24).toNat; omega)
            ·
              refine GO.iconst dX11_carry_100 ?_
              refine GO.goto (tgt := 105) dX11_carry_101 (by decide) ?_
              refine GO.iload dX11_carry_105 rfl ?_
              refine GO.callV (ci := 10) (N := mX11_carryField) dX11_carry_107 (RX11, TX11, 20) rfl gV_RX11_515 h_x (t_X11_carryField h_x h354 (ir_c rfl) r23 (by omega)) rfl [] rfl rfl (Nat.le_of_ble_eq_true rfl) rfl (k_vs fun V366 h365 hF364 => ?_)
              refine GO.iinc (X := i24) (n := 1) (Y := i24 + 1) (ls1 := [some (.ref x), some (ti p0), some (.ref p1), some (ti X5), some (ti X10), some (ti z19), some (ti (i24 + 1)), some (.ref o353)]) dX11_carry_110 rfl rfl rfl rfl ?_
              refine GO.goto (tgt := 51) dX11_carry_113 (by decide) ?_
              refine GO.drop [true, true, true, true, true, true, true, false] rfl ?_
              exact ih331 (i24 + 1) V366 ⟨by omega, by omega, trivial⟩ (by show (2147483647 - (i24 + 1)).toNat < (2147483647 - i24).toNat; omega)
  refine GO.if_ne (tgt := 45) dX11_carry_38 (by decide) r16 (fun c367 => ?_) (fun c367 => ?_)
  ·
    refine GO.iconst dX11_carry_45 ?_
    exact hj20 0 (by omega) (by omega)
  ·
    refine GO.iconst dX11_carry_41 ?_
    refine GO.goto (tgt := 46) dX11_carry_42 (by decide) ?_
    exact hj20 1 (by omega) (by omega)

set_option maxHeartbeats 1000000 in
theorem t_X11_passStation {K : Kmap} {V : Vmap} {x : Nat} {p0 : Int} (h_x : K x = some (0, 10)) (r_p0 : ir p0) : MC mX11_passStation K V [.ref x, ti p0] (VS K (fun V1 => (True))) := by
  refine MC.start 3 (by decide +kernel) rfl rfl rfl (ls0 := [some (.ref x), some (ti p0), none, none, none]) rfl ?_
  refine GO.aload_n dX11_passStation_0 rfl rfl ?_
  refine GO.iload_n dX11_passStation_1 rfl rfl ?_
  refine GO.callV (ci := 10) (N := mX11_standingStation) dX11_passStation_2 (RX11, TX11, 20) rfl gV_RX11_195 h_x (t_X11_standingStation h_x r_p0) rfl [] rfl rfl (Nat.le_of_ble_eq_true rfl) rfl (k_rp (fun h3 => ?_) (fun o1 h2 h3 => ?_))
  ·
    refine GO.astore_nN (ls1 := [some (.ref x), some (ti p0), some (.null), none, none]) dX11_passStation_5 rfl rfl rfl ?_
    refine GO.aload_nN dX11_passStation_6 rfl rfl ?_
    refine GO.ifnonnullN dX11_passStation_7 ?_
    exact GO.retv rfl rfl dX11_passStation_10 ⟨rfl, rfl, trivial⟩
  ·
    refine GO.astore_n (ls1 := [some (.ref x), some (ti p0), some (.ref o1), none, none]) dX11_passStation_5 rfl rfl rfl ?_
    refine GO.aload_n dX11_passStation_6 rfl rfl ?_
    refine GO.ifnonnull (tgt := 11) dX11_passStation_7 (by decide) ?_
    refine GO.aload_n dX11_passStation_11 rfl rfl ?_
    refine GO.getR h_x fl_RX11_12 rfl rfl dX11_passStation_12 (fun hv5 h4 => ?_)
    refine GO.aload_n dX11_passStation_15 rfl rfl ?_
    refine GO.getRaw h_x fl_RX11_12 hv5 dX11_passStation_16 ?_
    refine GO.getI h4 fl_RX11_145 rfl rfl dX11_passStation_19 (fun l8 u9 => ?_)
    refine GO.callV (ci := 0) (N := mX0_isDark) dX11_passStation_22 (RX0, TX0, 13) rfl gV_RX11_381 h4 (t_X0_isDark h4 vi_ir) rfl [] rfl rfl (Nat.le_of_ble_eq_true rfl) rfl (k_ip fun X10 r11 h12 => ?_)
    refine GO.istore_n (ls1 := [some (.ref x), some (ti p0), some (.ref o1), some (ti X10), none]) dX11_passStation_25 rfl rfl rfl ?_
    refine GO.aload_n dX11_passStation_26 rfl rfl ?_
    refine GO.aload_n dX11_passStation_27 rfl rfl ?_
    refine GO.aload_n dX11_passStation_28 rfl rfl ?_
    refine GO.getI h2 fl_RX11_183 rfl rfl dX11_passStation_29 (fun _ _ => ?_)
    refine GO.bipush dX11_passStation_32 rfl ?_
    refine GO.iadd dX11_passStation_34 ?_
    refine GO.norm (fun z13 r14 hn15 => ?_)
    refine GO.bipush dX11_passStation_35 rfl ?_
    refine GO.idiv dX11_passStation_37 (ir_c rfl) (by omega) ?_
    refine GO.iload_n dX11_passStation_38 rfl rfl ?_
    have hj18 : ∀ (z17 : Int), ∀ (l19 : 1 ≤ z17), ∀ (u20 : z17 ≤ 2), GO mX11_passStation K V (VS K (fun V1 => (True))) K V 0 0 47 [some (.ref x), some (ti p0), some (.ref o1), some (ti X10), none] [ti z17, ti (wdiv z13 10), .ref o1, .ref x] := by
      intro z17 l19 u20
      have r21 : ir z17 := ⟨by omega, by omega⟩
      refine GO.imul dX11_passStation_47 ?_
      refine GO.norm (fun z22 r23 hn24 => ?_)
      refine GO.callV (ci := 10) (N := mX11_burn) dX11_passStation_48 (RX11, TX11, 20) rfl gV_RX11_487 h_x (t_X11_burn h_x h2 r23) rfl [] rfl rfl (Nat.le_of_ble_eq_true rfl) rfl (k_vs fun V27 h26 hF25 => ?_)
      refine GO.aload_n dX11_passStation_51 rfl rfl ?_
      refine GO.getI h2 fl_RX11_183 rfl rfl dX11_passStation_52 (fun _ _ => ?_)
      refine GO.bipush dX11_passStation_55 rfl ?_
      refine GO.iadd dX11_passStation_57 ?_
      refine GO.norm (fun z28 r29 hn30 => ?_)
      refine GO.bipush dX11_passStation_58 rfl ?_
      refine GO.idiv dX11_passStation_60 (ir_c rfl) (by omega) ?_
      refine GO.name (fun z31 hz32 => ?_)
      have r33 : ir z31 := hz32 ▸ wdiv_ir
      refine GO.istore (ls1 := [some (.ref x), some (ti p0), some (.ref o1), some (ti X10), some (ti z31)]) dX11_passStation_61 rfl rfl ?_
      refine GO.aload_n dX11_passStation_63 rfl rfl ?_
      refine GO.getNB h2 fl_RX11_491 rfl rfl dX11_passStation_64 (fun hv35 => ?_) (fun n36 hv35 h34 b37 => ?_)
      ·
        refine GO.iload_n dX11_passStation_67 rfl rfl ?_
        have hj40 : ∀ (z39 : Int), ∀ (l41 : 0 ≤ z39), ∀ (u42 : z39 ≤ 3), GO mX11_passStation K V (VS K (fun V1 => (True))) K V27 0 0 76 [some (.ref x), some (ti p0), some (.ref o1), some (ti X10), some (ti z31)] [ti z39, .null] := by
          intro z39 l41 u42
          have r43 : ir z39 := ⟨by omega, by omega⟩
          refine GO.iload dX11_passStation_76 rfl ?_
          refine GO.callS (N := mX4_add_n) dX11_passStation_78 gS_RX11_476 (t_X4_add_n r43 r33) rfl [] rfl rfl (Nat.le_of_ble_eq_true rfl) rfl (k_vs fun V46 h45 hF44 => ?_)
          refine GO.aload_n dX11_passStation_81 rfl rfl ?_
          refine GO.iconst dX11_passStation_82 ?_
          refine GO.iload dX11_passStation_83 rfl ?_
          refine GO.callV (ci := 10) (N := mX11_tally) dX11_passStation_85 (RX11, TX11, 20) rfl gV_RX11_192 h_x (t_X11_tally h_x (ir_c rfl) r33) rfl [] rfl rfl (Nat.le_of_ble_eq_true rfl) rfl (k_vs fun V49 h48 hF47 => ?_)
          refine GO.aload_n dX11_passStation_88 rfl rfl ?_
          refine GO.getRaw h_x fl_RX11_12 (Eq.trans (hF47 _ _ _ h_x h_x (by decide +kernel)) (Eq.trans (hF44 _ _ _ h_x h_x (by decide +kernel)) (Eq.trans (hF25 _ _ _ h_x h_x (by decide +kernel)) hv5))) dX11_passStation_89 ?_
          refine GO.aload_n dX11_passStation_92 rfl rfl ?_
          refine GO.getI h2 fl_RX11_344 rfl rfl dX11_passStation_93 (fun _ _ => ?_)
          refine GO.aload_n dX11_passStation_96 rfl rfl ?_
          refine GO.getRaw h_x fl_RX11_12 (Eq.trans (hF47 _ _ _ h_x h_x (by decide +kernel)) (Eq.trans (hF44 _ _ _ h_x h_x (by decide +kernel)) (Eq.trans (hF25 _ _ _ h_x h_x (by decide +kernel)) hv5))) dX11_passStation_97 ?_
          refine GO.getI h4 fl_RX11_145 rfl rfl dX11_passStation_100 (fun l54 u55 => ?_)
          refine GO.aload_n dX11_passStation_103 rfl rfl ?_
          refine GO.getI h2 fl_RX11_189 rfl rfl dX11_passStation_104 (fun _ _ => ?_)
          refine GO.isub dX11_passStation_107 ?_
          refine GO.norm (fun z56 r57 hn58 => ?_)
          refine GO.callV (ci := 0) (N := mX0_carries) dX11_passStation_108 (RX0, TX0, 13) rfl gV_RX11_494 h4 (t_X0_carries h4 vi_ir r57) rfl [] rfl rfl (Nat.le_of_ble_eq_true rfl) rfl (k_ip fun X59 r60 h61 => ?_)
          refine GO.if_eq (tgt := 120) dX11_passStation_111 (by decide) r60 (fun c62 => ?_) (fun c62 => ?_)
          ·
            exact GO.retv rfl rfl dX11_passStation_120 ⟨rfl, rfl, trivial⟩
          ·
            refine GO.aload_n dX11_passStation_114 rfl rfl ?_
            refine GO.iload_n dX11_passStation_115 rfl rfl ?_
            refine GO.aload_n dX11_passStation_116 rfl rfl ?_
            refine GO.callV (ci := 10) (N := mX11_carry) dX11_passStation_117 (RX11, TX11, 20) rfl gV_RX11_497 h_x (t_X11_carry h_x r_p0 h2) rfl [] rfl rfl (Nat.le_of_ble_eq_true rfl) rfl (k_vs fun V65 h64 hF63 => ?_)
            exact GO.retv rfl rfl dX11_passStation_120 ⟨rfl, rfl, trivial⟩
        refine GO.if_eq (tgt := 75) dX11_passStation_68 (by decide) r11 (fun c66 => ?_) (fun c66 => ?_)
        ·
          refine GO.iconst dX11_passStation_75 ?_
          exact hj40 0 (by omega) (by omega)
        ·
          refine GO.iconst dX11_passStation_71 ?_
          refine GO.goto (tgt := 76) dX11_passStation_72 (by decide) ?_
          exact hj40 3 (by omega) (by omega)
      ·
        refine GO.iload_n dX11_passStation_67 rfl rfl ?_
        have hj69 : ∀ (z68 : Int), ∀ (l70 : 0 ≤ z68), ∀ (u71 : z68 ≤ 3), GO mX11_passStation K V (VS K (fun V1 => (True))) K V27 0 0 76 [some (.ref x), some (ti p0), some (.ref o1), some (ti X10), some (ti z31)] [ti z68, .ref (vq V27 o1 13)] := by
          intro z68 l70 u71
          have r72 : ir z68 := ⟨by omega, by omega⟩
          refine GO.iload dX11_passStation_76 rfl ?_
          refine GO.callS (N := mX4_add) dX11_passStation_78 gS_RX11_476 (t_X4_add h34 r72 r33) rfl [] rfl rfl (Nat.le_of_ble_eq_true rfl) rfl (k_vs fun V75 h74 hF73 => ?_)
          refine GO.aload_n dX11_passStation_81 rfl rfl ?_
          refine GO.iconst dX11_passStation_82 ?_
          refine GO.iload dX11_passStation_83 rfl ?_
          refine GO.callV (ci := 10) (N := mX11_tally) dX11_passStation_85 (RX11, TX11, 20) rfl gV_RX11_192 h_x (t_X11_tally h_x (ir_c rfl) r33) rfl [] rfl rfl (Nat.le_of_ble_eq_true rfl) rfl (k_vs fun V78 h77 hF76 => ?_)
          refine GO.aload_n dX11_passStation_88 rfl rfl ?_
          refine GO.getRaw h_x fl_RX11_12 (Eq.trans (hF76 _ _ _ h_x h_x (by decide +kernel)) (Eq.trans (hF73 _ _ _ h_x h_x (by decide +kernel)) (Eq.trans (hF25 _ _ _ h_x h_x (by decide +kernel)) hv5))) dX11_passStation_89 ?_
          refine GO.aload_n dX11_passStation_92 rfl rfl ?_
          refine GO.getI h2 fl_RX11_344 rfl rfl dX11_passStation_93 (fun _ _ => ?_)
          refine GO.aload_n dX11_passStation_96 rfl rfl ?_
          refine GO.getRaw h_x fl_RX11_12 (Eq.trans (hF76 _ _ _ h_x h_x (by decide +kernel)) (Eq.trans (hF73 _ _ _ h_x h_x (by decide +kernel)) (Eq.trans (hF25 _ _ _ h_x h_x (by decide +kernel)) hv5))) dX11_passStation_97 ?_
          refine GO.getI h4 fl_RX11_145 rfl rfl dX11_passStation_100 (fun l83 u84 => ?_)
          refine GO.aload_n dX11_passStation_103 rfl rfl ?_
          refine GO.getI h2 fl_RX11_189 rfl rfl dX11_passStation_104 (fun _ _ => ?_)
          refine GO.isub dX11_passStation_107 ?_
          refine GO.norm (fun z85 r86 hn87 => ?_)
          refine GO.callV (ci := 0) (N := mX0_carries) dX11_passStation_108 (RX0, TX0, 13) rfl gV_RX11_494 h4 (t_X0_carries h4 vi_ir r86) rfl [] rfl rfl (Nat.le_of_ble_eq_true rfl) rfl (k_ip fun X88 r89 h90 => ?_)
          refine GO.if_eq (tgt := 120) dX11_passStation_111 (by decide) r89 (fun c91 => ?_) (fun c91 => ?_)
          ·
            exact GO.retv rfl rfl dX11_passStation_120 ⟨rfl, rfl, trivial⟩
          ·
            refine GO.aload_n dX11_passStation_114 rfl rfl ?_
            refine GO.iload_n dX11_passStation_115 rfl rfl ?_
            refine GO.aload_n dX11_passStation_116 rfl rfl ?_
            refine GO.callV (ci := 10) (N := mX11_carry) dX11_passStation_117 (RX11, TX11, 20) rfl gV_RX11_497 h_x (t_X11_carry h_x r_p0 h2) rfl [] rfl rfl (Nat.le_of_ble_eq_true rfl) rfl (k_vs fun V94 h93 hF92 => ?_)
            exact GO.retv rfl rfl dX11_passStation_120 ⟨rfl, rfl, trivial⟩
        refine GO.if_eq (tgt := 75) dX11_passStation_68 (by decide) r11 (fun c95 => ?_) (fun c95 => ?_)
        ·
          refine GO.iconst dX11_passStation_75 ?_
          exact hj69 0 (by omega) (by omega)
        ·
          refine GO.iconst dX11_passStation_71 ?_
          refine GO.goto (tgt := 76) dX11_passStation_72 (by decide) ?_
          exact hj69 3 (by omega) (by omega)
    refine GO.if_eq (tgt := 46) dX11_passStation_39 (by decide) r11 (fun c96 => ?_) (fun c96 => ?_)
    ·
      refine GO.iconst dX11_passStation_46 ?_
      exact hj18 1 (by omega) (by omega)
    ·
      refine GO.iconst dX11_passStation_42 ?_
      refine GO.goto (tgt := 47) dX11_passStation_43 (by decide) ?_
      exact hj18 2 (by omega) (by omega)

set_option maxHeartbeats 1000000 in
theorem t_X11_unload {K : Kmap} {V : Vmap} {x : Nat} {p0 : Nat} (h_x : K x = some (0, 10)) (h_p0 : K p0 = some (0, 6)) : MC mX11_unload K V [.ref x, .ref p0] (VS K (fun V1 => (True))) := by
  refine MC.start 3 (by decide +kernel) rfl rfl rfl (ls0 := [some (.ref x), some (.ref p0), none, none, none]) rfl ?_
  refine GO.aload_n dX11_unload_0 rfl rfl ?_
  refine GO.aload_n dX11_unload_1 rfl rfl ?_
  refine GO.getI h_p0 fl_RX11_549 rfl rfl dX11_unload_2 (fun _ _ => ?_)
  refine GO.callV (ci := 10) (N := mX11_standingStation) dX11_unload_5 (RX11, TX11, 20) rfl gV_RX11_195 h_x (t_X11_standingStation h_x vi_ir) rfl [] rfl rfl (Nat.le_of_ble_eq_true rfl) rfl (k_rp (fun h3 => ?_) (fun o1 h2 h3 => ?_))
  ·
    refine GO.astore_nN (ls1 := [some (.ref x), some (.ref p0), some (.null), none, none]) dX11_unload_8 rfl rfl rfl ?_
    refine GO.aload_nN dX11_unload_9 rfl rfl ?_
    refine GO.ifnullN (tgt := 27) dX11_unload_10 (by decide) ?_
    exact GO.retv rfl rfl dX11_unload_27 ⟨rfl, rfl, trivial⟩
  ·
    refine GO.astore_n (ls1 := [some (.ref x), some (.ref p0), some (.ref o1), none, none]) dX11_unload_8 rfl rfl rfl ?_
    refine GO.aload_n dX11_unload_9 rfl rfl ?_
    refine GO.ifnull dX11_unload_10 ?_
    refine GO.aload_n dX11_unload_13 rfl rfl ?_
    refine GO.getR h_x fl_RX11_12 rfl rfl dX11_unload_14 (fun hv5 h4 => ?_)
    refine GO.aload_n dX11_unload_17 rfl rfl ?_
    refine GO.getI h2 fl_RX11_344 rfl rfl dX11_unload_18 (fun _ _ => ?_)
    refine GO.callV (ci := 0) (N := mX0_isNearSea) dX11_unload_21 (RX0, TX0, 13) rfl gV_RX11_413 h4 (t_X0_isNearSea h4 vi_ir) rfl [] rfl rfl (Nat.le_of_ble_eq_true rfl) rfl (k_ip fun X6 r7 h8 => ?_)
    refine GO.if_ne (tgt := 28) dX11_unload_24 (by decide) r7 (fun c9 => ?_) (fun c9 => ?_)
    ·
      refine GO.aload_n dX11_unload_28 rfl rfl ?_
      refine GO.dup dX11_unload_29 rfl ?_
      refine GO.getI h2 fl_RX11_186 rfl rfl dX11_unload_30 (fun _ _ => ?_)
      refine GO.aload_n dX11_unload_33 rfl rfl ?_
      refine GO.getI h_p0 fl_RX11_552 rfl rfl dX11_unload_34 (fun _ _ => ?_)
      refine GO.iadd dX11_unload_37 ?_
      refine GO.norm (fun z10 r11 hn12 => ?_)
      refine GO.putI h2 fp_RX11_186 rfl (by decide +kernel) r11 (r11).1 (r11).2 dX11_unload_38 (fun V14 e13 => ?_)
      refine GO.aload_n dX11_unload_41 rfl rfl ?_
      refine GO.iconst dX11_unload_42 ?_
      refine GO.putI h_p0 fp_RX11_552 rfl (by decide +kernel) (ir_c rfl) (by decide) (by decide) dX11_unload_43 (fun V16 e15 => ?_)
      refine GO.iconst dX11_unload_46 ?_
      refine GO.istore_n (ls1 := [some (.ref x), some (.ref p0), some (.ref o1), some (ti 3), none]) dX11_unload_47 rfl rfl rfl ?_
      refine GO.loop1 (fun i17 W => (-1) ≤ i17 ∧ i17 ≤ 3 ∧ True) (fun i17 => [some (.ref x), some (.ref p0), some (.ref o1), some (ti i17), none]) (fun i17 W => (i17 + 2147483648).toNat) 3 ⟨by omega, by omega, trivial⟩ rfl (fun i17 Wi17 hp274 ih273 => ?_)
      obtain ⟨l_i17, u_i17, -⟩ := hp274
      have r_i17 : ir i17 := ⟨by omega, by omega⟩
      show GO mX11_unload K V (VS K (fun V1 => (True))) K Wi17 0 0 48 [some (.ref x), some (.ref p0), some (.ref o1), some (ti i17), none] []
      refine GO.iload_n dX11_unload_48 rfl rfl ?_
      refine GO.if_lt (tgt := 102) dX11_unload_49 (by decide) r_i17 (fun c275 => ?_) (fun c275 => ?_)
      ·
        exact GO.retv rfl rfl dX11_unload_102 ⟨rfl, rfl, trivial⟩
      ·
        refine GO.aload_n dX11_unload_52 rfl rfl ?_
        refine GO.getI h_p0 fl_RX11_407 rfl rfl dX11_unload_53 (fun _ _ => ?_)
        refine GO.aload_n dX11_unload_56 rfl rfl ?_
        refine GO.getI h_p0 fl_RX11_553 rfl rfl dX11_unload_57 (fun _ _ => ?_)
        refine GO.isub dX11_unload_60 ?_
        refine GO.norm (fun z276 r277 hn278 => ?_)
        refine GO.aload_n dX11_unload_61 rfl rfl ?_
        refine GO.getNB h2 fl_RX11_491 rfl rfl dX11_unload_62 (fun hv280 => ?_) (fun n281 hv280 h279 b282 => ?_)
        ·
          refine GO.iload_n dX11_unload_65 rfl rfl ?_
          refine GO.callS (N := mX4_get_n) dX11_unload_66 gS_RX11_253 (t_X4_get_n r_i17) rfl [ti z276] rfl rfl (Nat.le_of_ble_eq_true rfl) rfl (k_ip fun X283 r284 h285 => ?_)
          refine GO.callS (N := mJ9_min_7cf53) dX11_unload_69 gS_RX11_479 (t_J9_min_7cf53 r277 r284) rfl [] rfl rfl (Nat.le_of_ble_eq_true rfl) rfl (k_ip fun X286 r287 h288 => ?_)
          have q289 : -2147483648 ≤ X283 ∧ X283 ≤ 2147483647 := r284
          have q290 : -2147483648 ≤ X286 ∧ X286 ≤ 2147483647 := r287
          have q291 : -2147483648 ≤ z276 ∧ z276 ≤ 2147483647 := r277
          refine GO.istore (ls1 := [some (.ref x), some (.ref p0), some (.ref o1), some (ti i17), some (ti X286)]) dX11_unload_72 rfl rfl ?_
          refine GO.aload_n dX11_unload_74 rfl rfl ?_
          refine GO.getRaw h2 fl_RX11_491 hv280 dX11_unload_75 ?_
          refine GO.iload_n dX11_unload_78 rfl rfl ?_
          refine GO.iload dX11_unload_79 rfl ?_
          refine GO.ineg dX11_unload_81 ?_
          refine GO.norm (fun z294 r295 hn296 => ?_)
          refine GO.callS (N := mX4_add_n) dX11_unload_82 gS_RX11_476 (t_X4_add_n r_i17 r295) rfl [] rfl rfl (Nat.le_of_ble_eq_true rfl) rfl (k_vs fun V299 h298 hF297 => ?_)
          refine GO.aload_n dX11_unload_85 rfl rfl ?_
          refine GO.dup dX11_unload_86 rfl ?_
          refine GO.getI h_p0 fl_RX11_553 rfl rfl dX11_unload_87 (fun _ _ => ?_)
          refine GO.iload dX11_unload_90 rfl ?_
          refine GO.iadd dX11_unload_92 ?_
          refine GO.norm (fun z300 r301 hn302 => ?_)
          refine GO.putI h_p0 fp_RX11_553 rfl (by decide +kernel) r301 (r301).1 (r301).2 dX11_unload_93 (fun V304 e303 => ?_)
          refine GO.iinc (X := i17) (n := (-1)) (Y := i17 + (-1)) (ls1 := [some (.ref x), some (.ref p0), some (.ref o1), some (ti (i17 + (-1))), some (ti X286)]) dX11_unload_96 rfl rfl rfl rfl ?_
          refine GO.goto (tgt := 48) dX11_unload_99 (by decide) ?_
          refine GO.drop [true, true, true, true, false] rfl ?_
          exact ih273 (i17 + (-1)) V304 ⟨by omega, by omega, trivial⟩ (by show ((i17 + (-1)) + 2147483648).toNat < (i17 + 2147483648).toNat; omega)
        ·
          refine GO.iload_n dX11_unload_65 rfl rfl ?_
          refine GO.callS (N := mX4_get) dX11_unload_66 gS_RX11_253 (t_X4_get rfl h279 r_i17) rfl [ti z276] rfl rfl (Nat.le_of_ble_eq_true rfl) rfl (k_ip fun X305 r306 h307 => ?_)
          have raw_get := h307.2
          have rw66 := h307.2
          refine GO.callS (N := mJ9_min_7cf53) dX11_unload_69 gS_RX11_479 (t_J9_min_7cf53 r277 r306) rfl [] rfl rfl (Nat.le_of_ble_eq_true rfl) rfl (k_ip fun X308 r309 h310 => ?_)
          have q311 : -2147483648 ≤ X308 ∧ X308 ≤ 2147483647 := r309
          have q312 : -2147483648 ≤ z276 ∧ z276 ≤ 2147483647 := r277
          refine GO.istore (ls1 := [some (.ref x), some (.ref p0), some (.ref o1), some (ti i17), some (ti X308)]) dX11_unload_72 rfl rfl ?_
          refine GO.aload_n dX11_unload_74 rfl rfl ?_
          refine GO.getRaw h2 fl_RX11_491 hv280 dX11_unload_75 ?_
          refine GO.iload_n dX11_unload_78 rfl rfl ?_
          refine GO.iload dX11_unload_79 rfl ?_
          refine GO.ineg dX11_unload_81 ?_
          refine GO.norm (fun z315 r316 hn317 => ?_)
          refine GO.callS (N := mX4_add) dX11_unload_82 gS_RX11_476 (t_X4_add h279 r_i17 r316) rfl [] rfl rfl (Nat.le_of_ble_eq_true rfl) rfl (k_vs fun V320 h319 hF318 => ?_)
          refine GO.aload_n dX11_unload_85 rfl rfl ?_
          refine GO.dup dX11_unload_86 rfl ?_
          refine GO.getI h_p0 fl_RX11_553 rfl rfl dX11_unload_87 (fun _ _ => ?_)
          refine GO.iload dX11_unload_90 rfl ?_
          refine GO.iadd dX11_unload_92 ?_
          refine GO.norm (fun z321 r322 hn323 => ?_)
          refine GO.putI h_p0 fp_RX11_553 rfl (by decide +kernel) r322 (r322).1 (r322).2 dX11_unload_93 (fun V325 e324 => ?_)
          refine GO.iinc (X := i17) (n := (-1)) (Y := i17 + (-1)) (ls1 := [some (.ref x), some (.ref p0), some (.ref o1), some (ti (i17 + (-1))), some (ti X308)]) dX11_unload_96 rfl rfl rfl rfl ?_
          refine GO.goto (tgt := 48) dX11_unload_99 (by decide) ?_
          refine GO.drop [true, true, true, true, false] rfl ?_
          exact ih273 (i17 + (-1)) V325 ⟨by omega, by omega, trivial⟩ (by show ((i17 + (-1)) + 2147483648).toNat < (i17 + 2147483648).toNat; omega)
    ·
      exact GO.retv rfl rfl dX11_unload_27 ⟨rfl, rfl, trivial⟩

set_option maxHeartbeats 1000000 in
theorem t_X11_meetIce {K : Kmap} {V : Vmap} {x : Nat} {p0 : Nat} (h_x : K x = some (0, 10)) (h_p0 : K p0 = some (0, 6)) : MC mX11_meetIce K V [.ref x, .ref p0] (VS K (fun V1 => (True))) := by
  refine MC.start 0 (by decide +kernel) rfl rfl rfl (ls0 := [some (.ref x), some (.ref p0)]) rfl ?_
  refine GO.aload_n dX11_meetIce_0 rfl rfl ?_
  refine GO.getR h_x fl_RX11_12 rfl rfl dX11_meetIce_1 (fun hv2 h1 => ?_)
  refine GO.aload_n dX11_meetIce_4 rfl rfl ?_
  refine GO.getI h_p0 fl_RX11_531 rfl rfl dX11_meetIce_5 (fun _ _ => ?_)
  refine GO.aload_n dX11_meetIce_8 rfl rfl ?_
  refine GO.getRaw h_x fl_RX11_12 hv2 dX11_meetIce_9 ?_
  refine GO.getI h1 fl_RX11_145 rfl rfl dX11_meetIce_12 (fun l5 u6 => ?_)
  refine GO.callV (ci := 0) (N := mX0_coverOn) dX11_meetIce_15 (RX0, TX0, 13) rfl gV_RX11_534 h1 (t_X0_coverOn h1 vi_ir vi_ir) rfl [] rfl rfl (Nat.le_of_ble_eq_true rfl) rfl (k_ip fun X7 r8 h9 => ?_)
  refine GO.aload_n dX11_meetIce_18 rfl rfl ?_
  refine GO.getI h_p0 fl_RX11_537 rfl rfl dX11_meetIce_19 (fun _ _ => ?_)
  refine GO.icmp_gt (tgt := 42) dX11_meetIce_22 (by decide) r8 vi_ir (fun c10 => ?_) (fun c10 => ?_)
  ·
    refine GO.aload_n dX11_meetIce_42 rfl rfl ?_
    refine GO.iconst dX11_meetIce_43 ?_
    refine GO.putI h_p0 fp_RX11_410 rfl (by decide +kernel) (ir_c rfl) (by decide) (by decide) dX11_meetIce_44 (fun V12 e11 => ?_)
    refine GO.aload_n dX11_meetIce_47 rfl rfl ?_
    refine GO.dup dX11_meetIce_48 rfl ?_
    refine GO.getI h_p0 fl_RX11_546 rfl rfl dX11_meetIce_49 (fun _ _ => ?_)
    refine GO.iconst dX11_meetIce_52 ?_
    refine GO.iadd dX11_meetIce_53 ?_
    refine GO.norm (fun z13 r14 hn15 => ?_)
    refine GO.putI h_p0 fp_RX11_546 rfl (by decide +kernel) r14 (r14).1 (r14).2 dX11_meetIce_54 (fun V17 e16 => ?_)
    refine GO.aload_n dX11_meetIce_57 rfl rfl ?_
    refine GO.getI h_p0 fl_RX11_546 rfl rfl dX11_meetIce_58 (fun _ _ => ?_)
    refine GO.bipush dX11_meetIce_61 rfl ?_
    refine GO.icmp_lt (tgt := 77) dX11_meetIce_63 (by decide) vi_ir (ir_c rfl) (fun c18 => ?_) (fun c18 => ?_)
    ·
      exact GO.retv rfl rfl dX11_meetIce_77 ⟨rfl, rfl, trivial⟩
    ·
      refine GO.aload_n dX11_meetIce_66 rfl rfl ?_
      refine GO.aload_n dX11_meetIce_67 rfl rfl ?_
      refine GO.getRaw h_x fl_RX11_12 (Eq.trans (uq_ne e16 (Or.inl (K_ne h_x h_p0 (by decide)))) (Eq.trans (uq_ne e11 (Or.inl (K_ne h_x h_p0 (by decide)))) hv2)) dX11_meetIce_68 ?_
      refine GO.getI h1 fl_RX11_145 rfl rfl dX11_meetIce_71 (fun l21 u22 => ?_)
      refine GO.callV (ci := 6) (N := mX7_turnBack) dX11_meetIce_74 (RX7, TX7, 11) rfl gV_RX11_543 h_p0 (t_X7_turnBack h_p0 vi_ir) rfl [] rfl rfl (Nat.le_of_ble_eq_true rfl) rfl (k_vs fun V25 h24 hF23 => ?_)
      exact GO.retv rfl rfl dX11_meetIce_77 ⟨rfl, rfl, trivial⟩
  ·
    refine GO.aload_n dX11_meetIce_25 rfl rfl ?_
    refine GO.aload_n dX11_meetIce_26 rfl rfl ?_
    refine GO.callV (ci := 10) (N := mX11_unload) dX11_meetIce_27 (RX11, TX11, 20) rfl gV_RX11_540 h_x (t_X11_unload h_x h_p0) rfl [] rfl rfl (Nat.le_of_ble_eq_true rfl) rfl (k_vs fun V28 h27 hF26 => ?_)
    refine GO.aload_n dX11_meetIce_30 rfl rfl ?_
    refine GO.aload_n dX11_meetIce_31 rfl rfl ?_
    refine GO.getRaw h_x fl_RX11_12 (Eq.trans (hF26 _ _ _ h_x h_x (by decide +kernel)) hv2) dX11_meetIce_32 ?_
    refine GO.getI h1 fl_RX11_145 rfl rfl dX11_meetIce_35 (fun l31 u32 => ?_)
    refine GO.callV (ci := 6) (N := mX7_turnBack) dX11_meetIce_38 (RX7, TX7, 11) rfl gV_RX11_543 h_p0 (t_X7_turnBack h_p0 vi_ir) rfl [] rfl rfl (Nat.le_of_ble_eq_true rfl) rfl (k_vs fun V35 h34 hF33 => ?_)
    exact GO.retv rfl rfl dX11_meetIce_41 ⟨rfl, rfl, trivial⟩
