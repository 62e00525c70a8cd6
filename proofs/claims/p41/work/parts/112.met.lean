def mX8_has_k25 : MRec := (RX8, cX8_has, 2, (some .boolean), yX8_has, 0, 0, 0, 0, 0)
def mX4_put_t124 : MRec := (RX4, cX4_put, 3, (none : Option Jvm.ClassFile.FieldType), yX4_put, 0, 0, 0, 0, 80695308690215893426747474125094121072803306025913234775958104891895238188026287332176417290004307232371974124148359168)
def mX11_asks : MRec := (RX11, cX11_asks, 7, (some .boolean), yX11_asks, 1, 22, 0, 0, 80695308690215893426747474125094121072803306025913234775958104891895238188026287332176417290004307232371974124416794624)
def mX11_blockers : MRec := (RX11, cX11_blockers, 5, (some .int), yX11_blockers, 2, 43, 0, 0, 0)
def mX11_blocks : MRec := (RX11, cX11_blocks, 2, (some .int), yX11_blocks, 3, 67, 0, 0, 0)
def mX8_get_k25 : MRec := (RX8, cX8_get, 5, (some .int), yX8_get, 0, 0, 0, 0, 0)
def mX11_worthOf : MRec := (RX11, cX11_worthOf, 4, (some .int), yX11_worthOf, 1, 24, 0, 0, 0)
def mX11_best : MRec := (RX11, cX11_best, 7, (some .int), yX11_best, 3, 67, 0, 0, 0)
def mX8_isFull_k24 : MRec := (RX8, cX8_isFull, 1, (some .boolean), yX8_isFull, 0, 0, 0, 0, 0)
def mX8_put_k24 : MRec := (RX8, cX8_put, 6, (none : Option Jvm.ClassFile.FieldType), yX8_put, 0, 0, 0, 0, 338460656020607282663380637712778772392143197677711984273740183180495765112991409062496875745134225841966700556811959451779072)
def mX8_append_k24 : MRec := (RX8, cX8_append, 7, (some .int), yX8_append, 1, 25, 0, 0, 36499524940977561749129372845602330599145828057988479444633540143194539798325439699329965871176683977001530619786432970469783377954183999751134281966840210381761091620724086301219805497424609280)
set_option maxHeartbeats 1000000 in
theorem t_X8_has_k25 {K : Kmap} {V : Vmap} {x : Nat} {p0 : Int} (h_x : K x = some (0, 25)) (r_p0 : ir p0) : MC mX8_has_k25 K V [.ref x, ti p0] (IP K V (fun X => (X = 0 ∨ X = 1) ∧ (X ≠ 0 → p0 ≥ 0 ∧ p0 < vi V x 3) ∧ (X = 0 → (p0 < 0 ∨ p0 ≥ vi V x 3)))) := by
  refine MC.start 0 (by decide +kernel) rfl rfl rfl (ls0 := [some (.ref x), some (ti p0)]) rfl ?_
  refine GO.iload_n dX8_has_0 rfl rfl ?_
  refine GO.if_lt (tgt := 16) dX8_has_1 (by decide) r_p0 (fun c1 => ?_) (fun c1 => ?_)
  ·
    refine GO.iconst dX8_has_16 ?_
    have q2 : -2147483648 ≤ vi V x 3 ∧ vi V x 3 ≤ 2147483647 := vi_ir
    exact GO.retz rfl rfl dX8_has_17 (Or.inl rfl) ⟨rfl, rfl, _, rfl, (ir_c rfl), ⟨Or.inl rfl, fun h => absurd rfl h, fun h => by omega⟩⟩
  ·
    refine GO.iload_n dX8_has_4 rfl rfl ?_
    refine GO.aload_n dX8_has_5 rfl rfl ?_
    refine GO.getI h_x fl_RX8_9_k25 rfl rfl dX8_has_6 (fun l3 u4 => ?_)
    refine GO.icmp_ge (tgt := 16) dX8_has_9 (by decide) r_p0 vi_ir (fun c5 => ?_) (fun c5 => ?_)
    ·
      refine GO.iconst dX8_has_16 ?_
      have q6 : -2147483648 ≤ p0 ∧ p0 ≤ 2147483647 := r_p0
      exact GO.retz rfl rfl dX8_has_17 (Or.inl rfl) ⟨rfl, rfl, _, rfl, (ir_c rfl), ⟨Or.inl rfl, fun h => absurd rfl h, fun h => by omega⟩⟩
    ·
      refine GO.iconst dX8_has_12 ?_
      refine GO.goto (tgt := 17) dX8_has_13 (by decide) ?_
      have q7 : -2147483648 ≤ p0 ∧ p0 ≤ 2147483647 := r_p0
      exact GO.retz rfl rfl dX8_has_17 (Or.inr rfl) ⟨rfl, rfl, _, rfl, (ir_c rfl), ⟨Or.inr rfl, fun h => by omega, fun h => absurd h (by decide)⟩⟩

set_option maxHeartbeats 1000000 in
theorem t_X4_put_t124 {K : Kmap} {V : Vmap} {p0 n_p0 : Nat} {p1 : Int} {p2 : Int} (h_p0 : K p0 = some (125, n_p0)) (r_p1 : ir p1) (r_p2 : ir p2) : MC mX4_put_t124 K V [.ref p0, ti p1, ti p2] (VS K (fun V1 => (True) ∧ (V1 = rpv V p0 n_p0 p1 p2))) := by
  refine MC.start 0 (by decide +kernel) rfl rfl rfl (ls0 := [some (.ref p0), some (ti p1), some (ti p2)]) rfl ?_
  refine GO.aload_n dX4_put_0 rfl rfl ?_
  refine GO.ifnull dX4_put_1 ?_
  refine GO.iload_n dX4_put_4 rfl rfl ?_
  refine GO.if_lt (tgt := 18) dX4_put_5 (by decide) r_p1 (fun c1 => ?_) (fun c1 => ?_)
  ·
    exact GO.retv rfl rfl dX4_put_18 ⟨rfl, rfl, ⟨trivial, (by first | exact rpv_in (by assumption) (by omega) (by omega) | exact rpv_out (by omega))⟩⟩
  ·
    refine GO.iload_n dX4_put_8 rfl rfl ?_
    refine GO.aload_n dX4_put_9 rfl rfl ?_
    refine GO.alen h_p0 dX4_put_10 (fun h2 => ?_)
    refine GO.icmp_ge (tgt := 18) dX4_put_11 (by decide) r_p1 ⟨by omega, by omega⟩ (fun c3 => ?_) (fun c3 => ?_)
    ·
      exact GO.retv rfl rfl dX4_put_18 ⟨rfl, rfl, ⟨trivial, (by first | exact rpv_in (by assumption) (by omega) (by omega) | exact rpv_out (by omega))⟩⟩
    ·
      refine GO.aload_n dX4_put_14 rfl rfl ?_
      refine GO.iload_n dX4_put_15 rfl rfl ?_
      refine GO.iload_n dX4_put_16 rfl rfl ?_
      have q4 : -2147483648 ≤ p1 ∧ p1 ≤ 2147483647 := r_p1
      refine GO.iast (t := 124) rfl rfl (by decide +kernel) h_p0 r_p1 (by omega) (by omega) r_p2 (r_p2).1 (r_p2).2 dX4_put_17 (fun V6 e5 => ?_)
      exact GO.retv rfl rfl dX4_put_18 ⟨rfl, rfl, ⟨trivial, (by first | exact rpv_in (by assumption) (by omega) (by omega) | exact rpv_out (by omega))⟩⟩

set_option maxHeartbeats 1000000 in
theorem t_X11_asks {K : Kmap} {V : Vmap} {x : Nat} {p0 : Int} {p1 : Int} {p2 : Int} (h_x : K x = some (0, 10)) (r_p0 : ir p0) (r_p1 : ir p1) (r_p2 : ir p2) (w_0 : PN V x) : MC mX11_asks K V [.ref x, ti p0, ti p1, ti p2] (IS K (fun X V1 => (X = 0 ∨ X = 1) ∧ (X ≠ 0 → True) ∧ (X = 0 → True) ∧ (ASC V V1 x p0 p1 p2 X))) := by
  refine MC.start 3 (by decide +kernel) rfl rfl rfl (ls0 := [some (.ref x), some (ti p0), some (ti p1), some (ti p2), none, none, none]) rfl ?_
  refine GO.useWT (fun hW_0 => ?_)
  have hz7 := (hW_0.int (show K (vq V x 16) = some (0, 25) from (hW_0.ref h_x (j := 16) (Nat.le_of_ble_eq_true rfl) rfl).2) (j := 3) (Nat.le_of_ble_eq_true rfl) rfl).2
  refine GO.aload_n dX11_asks_0 rfl rfl ?_
  refine GO.iload_n dX11_asks_1 rfl rfl ?_
  refine GO.callV (ci := 10) (N := mX11_partyOf) dX11_asks_2 (RX11, TX11, 20) rfl gV_RX11_151 h_x (t_X11_partyOf h_x r_p0) rfl [] rfl rfl (Nat.le_of_ble_eq_true rfl) rfl (k_rp (fun h3 => ?_) (fun o1 h2 h3 => ?_))
  ·
    have rwn2 := h3.2
    have hn4 : PN V x → p0 < 0 ∨ vi V x 4 ≤ p0 := h3.2
    have hnn5 := hn4 w_0
    refine GO.astoreN (ls1 := [some (.ref x), some (ti p0), some (ti p1), some (ti p2), some (.null), none, none]) dX11_asks_5 rfl rfl ?_
    refine GO.aloadN dX11_asks_7 rfl ?_
    refine GO.ifnullN (tgt := 44) dX11_asks_9 (by decide) ?_
    refine GO.iconst dX11_asks_44 ?_
    exact GO.retz rfl rfl dX11_asks_45 (Or.inl rfl) ⟨rfl, _, rfl, (ir_c rfl), ⟨Or.inl rfl, fun _ => trivial, fun _ => trivial, (by first | exact ASC.bar (by assumption) (by assumption) (by assumption) (by omega) (by omega) (by first | exact Or.inl ⟨rfl, cc64⟩ | exact Or.inr ⟨rfl, cc64⟩) | exact ASC.no (by omega))⟩⟩
  ·
    have hp6 : p0 ≥ 0 ∧ p0 < vi V x 4 := h3.1
    have rwp2 := h3.2
    have hq7 : o1 = vq V (vq V x 3) (p0).toNat := h3.2
    refine GO.astore (ls1 := [some (.ref x), some (ti p0), some (ti p1), some (ti p2), some (.ref o1), none, none]) dX11_asks_5 rfl rfl ?_
    refine GO.aload dX11_asks_7 rfl ?_
    refine GO.ifnull dX11_asks_9 ?_
    refine GO.aload_n dX11_asks_12 rfl rfl ?_
    refine GO.getR h_x fl_RX11_88 rfl rfl dX11_asks_13 (fun hv9 h8 => ?_)
    refine GO.iload_n dX11_asks_16 rfl rfl ?_
    refine GO.callV (ci := 25) (N := mX8_has_k25) dX11_asks_17 (RX8, TX8, 4) rfl gV_RX11_431 h8 (t_X8_has_k25 h8 r_p1) rfl [] rfl rfl (Nat.le_of_ble_eq_true rfl) rfl (k_ip fun X10 r11 h12 => ?_)
    refine GO.if_eq (tgt := 44) dX11_asks_20 (by decide) r11 (fun c13 => ?_) (fun c13 => ?_)
    ·
      have cc20 := c13
      have q14 := h12.2.2 (by omega)
      refine GO.iconst dX11_asks_44 ?_
      exact GO.retz rfl rfl dX11_asks_45 (Or.inl rfl) ⟨rfl, _, rfl, (ir_c rfl), ⟨Or.inl rfl, fun _ => trivial, fun _ => trivial, (by first | exact ASC.bar (by assumption) (by assumption) (by assumption) (by omega) (by omega) (by first | exact Or.inl ⟨rfl, cc64⟩ | exact Or.inr ⟨rfl, cc64⟩) | exact ASC.no (by omega))⟩⟩
    ·
      have cc20 := c13
      have q15 := h12.2.1 (by omega)
      refine GO.iload_n dX11_asks_23 rfl rfl ?_
      refine GO.iload_n dX11_asks_24 rfl rfl ?_
      refine GO.icmp_eq (tgt := 44) dX11_asks_25 (by decide) r_p2 r_p1 (fun c16 => ?_) (fun c16 => ?_)
      ·
        have cc25 := c16
        refine GO.iconst dX11_asks_44 ?_
        exact GO.retz rfl rfl dX11_asks_45 (Or.inl rfl) ⟨rfl, _, rfl, (ir_c rfl), ⟨Or.inl rfl, fun _ => trivial, fun _ => trivial, (by first | exact ASC.bar (by assumption) (by assumption) (by assumption) (by omega) (by omega) (by first | exact Or.inl ⟨rfl, cc64⟩ | exact Or.inr ⟨rfl, cc64⟩) | exact ASC.no (by omega))⟩⟩
      ·
        have cc25 := c16
        refine GO.iload_n dX11_asks_28 rfl rfl ?_
        refine GO.iconst dX11_asks_29 ?_
        refine GO.icmp_eq (tgt := 46) dX11_asks_30 (by decide) r_p2 (ir_c rfl) (fun c17 => ?_) (fun c17 => ?_)
        ·
          have cc30 := c17
          refine GO.iconst dX11_asks_46 ?_
          refine GO.iload_n dX11_asks_47 rfl rfl ?_
          refine GO.ishl dX11_asks_48 ?_
          refine GO.name (fun z18 hz19 => ?_)
          have r20 : ir z18 := hz19 ▸ wshl_ir
          refine GO.istore (ls1 := [some (.ref x), some (ti p0), some (ti p1), some (ti p2), some (.ref o1), some (ti z18), none]) dX11_asks_49 rfl rfl ?_
          refine GO.iload_n dX11_asks_51 rfl rfl ?_
          refine GO.iconst dX11_asks_52 ?_
          have q22 : -2147483648 ≤ p2 ∧ p2 ≤ 2147483647 := r_p2
          refine GO.icmp_ne (tgt := 89) dX11_asks_53 (by decide) r_p2 (ir_c rfl) (fun h => by exfalso; omega) (fun c21 => ?_)
          have cc53 := c21
          refine GO.aload dX11_asks_56 rfl ?_
          refine GO.getI h2 fl_RX11_575 rfl rfl dX11_asks_58 (fun _ _ => ?_)
          refine GO.iload dX11_asks_61 rfl ?_
          refine GO.iand dX11_asks_63 ?_
          refine GO.if_ne (tgt := 71) dX11_asks_64 (by decide) wand_ir (fun c23 => ?_) (fun c23 => ?_)
          ·
            have cc64 := c23
            refine GO.iconst dX11_asks_71 ?_
            refine GO.istore (ls1 := [some (.ref x), some (ti p0), some (ti p1), some (ti p2), some (.ref o1), some (ti z18), some (ti 0)]) dX11_asks_72 rfl rfl ?_
            refine GO.aload dX11_asks_74 rfl ?_
            refine GO.dup dX11_asks_76 rfl ?_
            refine GO.getI h2 fl_RX11_575 rfl rfl dX11_asks_77 (fun _ _ => ?_)
            refine GO.iload dX11_asks_80 rfl ?_
            refine GO.ior dX11_asks_82 ?_
            refine GO.putI h2 fp_RX11_575 rfl (by decide +kernel) wor_ir (wor_ir).1 (wor_ir).2 dX11_asks_83 (fun V25 e24 => ?_)
            refine GO.iload dX11_asks_86 rfl ?_
            exact GO.retz rfl rfl dX11_asks_88 (Or.inl rfl) ⟨rfl, _, rfl, (ir_c rfl), ⟨Or.inl rfl, fun _ => trivial, fun _ => trivial, (by first | exact ASC.bar (by assumption) (by assumption) (by assumption) (by omega) (by omega) (by first | exact Or.inl ⟨rfl, cc64⟩ | exact Or.inr ⟨rfl, cc64⟩) | exact ASC.no (by omega))⟩⟩
          ·
            have cc64 := c23
            refine GO.iconst dX11_asks_67 ?_
            refine GO.goto (tgt := 72) dX11_asks_68 (by decide) ?_
            refine GO.istore (ls1 := [some (.ref x), some (ti p0), some (ti p1), some (ti p2), some (.ref o1), some (ti z18), some (ti 1)]) dX11_asks_72 rfl rfl ?_
            refine GO.aload dX11_asks_74 rfl ?_
            refine GO.dup dX11_asks_76 rfl ?_
            refine GO.getI h2 fl_RX11_575 rfl rfl dX11_asks_77 (fun _ _ => ?_)
            refine GO.iload dX11_asks_80 rfl ?_
            refine GO.ior dX11_asks_82 ?_
            refine GO.putI h2 fp_RX11_575 rfl (by decide +kernel) wor_ir (wor_ir).1 (wor_ir).2 dX11_asks_83 (fun V27 e26 => ?_)
            refine GO.iload dX11_asks_86 rfl ?_
            exact GO.retz rfl rfl dX11_asks_88 (Or.inr rfl) ⟨rfl, _, rfl, (ir_c rfl), ⟨Or.inr rfl, fun _ => trivial, fun _ => trivial, (by first | exact ASC.bar (by assumption) (by assumption) (by assumption) (by omega) (by omega) (by first | exact Or.inl ⟨rfl, cc64⟩ | exact Or.inr ⟨rfl, cc64⟩) | exact ASC.no (by omega))⟩⟩
        ·
          have cc30 := c17
          refine GO.aload_n dX11_asks_33 rfl rfl ?_
          refine GO.getRaw h_x fl_RX11_88 hv9 dX11_asks_34 ?_
          refine GO.iload_n dX11_asks_37 rfl rfl ?_
          refine GO.callV (ci := 25) (N := mX8_has_k25) dX11_asks_38 (RX8, TX8, 4) rfl gV_RX11_431 h8 (t_X8_has_k25 h8 r_p2) rfl [] rfl rfl (Nat.le_of_ble_eq_true rfl) rfl (k_ip fun X30 r31 h32 => ?_)
          refine GO.if_ne (tgt := 46) dX11_asks_41 (by decide) r31 (fun c33 => ?_) (fun c33 => ?_)
          ·
            have cc41 := c33
            have q34 := h32.2.1 (by omega)
            refine GO.iconst dX11_asks_46 ?_
            refine GO.iload_n dX11_asks_47 rfl rfl ?_
            refine GO.ishl dX11_asks_48 ?_
            refine GO.name (fun z35 hz36 => ?_)
            have r37 : ir z35 := hz36 ▸ wshl_ir
            refine GO.istore (ls1 := [some (.ref x), some (ti p0), some (ti p1), some (ti p2), some (.ref o1), some (ti z35), none]) dX11_asks_49 rfl rfl ?_
            refine GO.iload_n dX11_asks_51 rfl rfl ?_
            refine GO.iconst dX11_asks_52 ?_
            have q39 : -2147483648 ≤ p2 ∧ p2 ≤ 2147483647 := r_p2
            have q40 : -2147483648 ≤ vi V (vq V x 16) 3 ∧ vi V (vq V x 16) 3 ≤ 2147483647 := vi_ir
            have q41 : -2147483648 ≤ p1 ∧ p1 ≤ 2147483647 := r_p1
            refine GO.icmp_ne (tgt := 89) dX11_asks_53 (by decide) r_p2 (ir_c rfl) (fun c38 => ?_) (fun h => by exfalso; omega)
            have cc53 := c38
            refine GO.aload dX11_asks_89 rfl ?_
            refine GO.getA (n := 7) h2 fl_RX11_578 rfl rfl rfl rfl dX11_asks_91 (fun hv43 h42 => ?_)
            refine GO.iload_n dX11_asks_94 rfl rfl ?_
            refine GO.callS (N := mX4_get) dX11_asks_95 gS_RX11_253 (t_X4_get rfl h42 r_p2) rfl [] rfl rfl (Nat.le_of_ble_eq_true rfl) rfl (k_ip fun X44 r45 h46 => ?_)
            have raw_get := h46.2
            have rw95 := h46.2
            refine GO.istore (ls1 := [some (.ref x), some (ti p0), some (ti p1), some (ti p2), some (.ref o1), some (ti z35), some (ti X44)]) dX11_asks_98 rfl rfl ?_
            refine GO.aload dX11_asks_100 rfl ?_
            refine GO.getRaw h2 fl_RX11_578 hv43 dX11_asks_102 ?_
            refine GO.iload_n dX11_asks_105 rfl rfl ?_
            refine GO.iload dX11_asks_106 rfl ?_
            refine GO.iload dX11_asks_108 rfl ?_
            refine GO.ior dX11_asks_110 ?_
            refine GO.callS (N := mX4_put_t124) dX11_asks_111 gS_RX11_108 (t_X4_put_t124 h42 r_p2 wor_ir) rfl [] rfl rfl (Nat.le_of_ble_eq_true rfl) rfl (k_vs fun V51 h50 hF49 => ?_)
            have raw_put := h50.2
            have rw111 := h50.2
            refine GO.iload dX11_asks_114 rfl ?_
            refine GO.iload dX11_asks_116 rfl ?_
            refine GO.iand dX11_asks_118 ?_
            refine GO.if_ne (tgt := 126) dX11_asks_119 (by decide) wand_ir (fun c52 => ?_) (fun c52 => ?_)
            ·
              have cc119 := c52
              refine GO.iconst dX11_asks_126 ?_
              exact GO.retz rfl rfl dX11_asks_127 (Or.inl rfl) ⟨rfl, _, rfl, (ir_c rfl), ⟨Or.inl rfl, fun _ => trivial, fun _ => trivial, (by first | exact ASC.wnt (by assumption) (by assumption) rw95 rw111 (by omega) (by omega) (by first | exact Or.inl ⟨rfl, cc119⟩ | exact Or.inr ⟨rfl, cc119⟩) | exact ASC.bar (by assumption) (by assumption) (by assumption) (by omega) (by omega) (by first | exact Or.inl ⟨rfl, cc64⟩ | exact Or.inr ⟨rfl, cc64⟩) | exact ASC.no (by omega))⟩⟩
            ·
              have cc119 := c52
              refine GO.iconst dX11_asks_122 ?_
              refine GO.goto (tgt := 127) dX11_asks_123 (by decide) ?_
              exact GO.retz rfl rfl dX11_asks_127 (Or.inr rfl) ⟨rfl, _, rfl, (ir_c rfl), ⟨Or.inr rfl, fun _ => trivial, fun _ => trivial, (by first | exact ASC.wnt (by assumption) (by assumption) rw95 rw111 (by omega) (by omega) (by first | exact Or.inl ⟨rfl, cc119⟩ | exact Or.inr ⟨rfl, cc119⟩) | exact ASC.bar (by assumption) (by assumption) (by assumption) (by omega) (by omega) (by first | exact Or.inl ⟨rfl, cc64⟩ | exact Or.inr ⟨rfl, cc64⟩) | exact ASC.no (by omega))⟩⟩
          ·
            have cc41 := c33
            have q53 := h32.2.2 (by omega)
            refine GO.iconst dX11_asks_44 ?_
            exact GO.retz rfl rfl dX11_asks_45 (Or.inl rfl) ⟨rfl, _, rfl, (ir_c rfl), ⟨Or.inl rfl, fun _ => trivial, fun _ => trivial, (by first | exact ASC.bar (by assumption) (by assumption) (by assumption) (by omega) (by omega) (by first | exact Or.inl ⟨rfl, cc64⟩ | exact Or.inr ⟨rfl, cc64⟩) | exact ASC.no (by omega))⟩⟩

set_option maxHeartbeats 1000000 in
theorem t_X11_blockers {K : Kmap} {V : Vmap} {x : Nat} {p0 : Int} (h_x : K x = some (0, 10)) (r_p0 : ir p0) (w_0 : PN V x) : MC mX11_blockers K V [.ref x, ti p0] (IP K V (fun X => (X ≥ (-2147483648) ∧ X ≤ 2147483647) ∧ (X = blk V x p0 (vi V x 4).toNat))) := by
  refine MC.start 3 (by decide +kernel) rfl rfl rfl (ls0 := [some (.ref x), some (ti p0), none, none, none]) rfl ?_
  refine GO.useWT (fun hW_0 => ?_)
  have hz4 := (hW_0.int h_x (j := 4) (Nat.le_of_ble_eq_true rfl) rfl).2
  refine GO.iconst dX11_blockers_0 ?_
  refine GO.istore_n (ls1 := [some (.ref x), some (ti p0), some (ti 0), none, none]) dX11_blockers_1 rfl rfl rfl ?_
  refine GO.iconst dX11_blockers_2 ?_
  refine GO.istore_n (ls1 := [some (.ref x), some (ti p0), some (ti 0), some (ti 0), none]) dX11_blockers_3 rfl rfl rfl ?_
  have q3 : -2147483648 ≤ vi V x 4 ∧ vi V x 4 ≤ 2147483647 := vi_ir
  refine GO.loop2 (fun i1 i2 W => (-2147483648) ≤ i1 ∧ i1 ≤ 2147483647 ∧ 0 ≤ i2 ∧ i2 ≤ 9 ∧ (i2 ≤ vi W x 4) ∧ (BKn W x p0 i1 i2) ∧ V = W) (fun i1 i2 => [some (.ref x), some (ti p0), some (ti i1), some (ti i2), none]) (fun i1 i2 W => (2147483647 - i2).toNat) 0 0 ⟨by omega, by omega, by omega, by omega, by omega, (by first | exact (by exfalso; omega) | exact BKn.nil), rfl⟩ rfl (fun i1 i2 V480 hp482 ih481 => ?_)
  obtain ⟨l_i1, u_i1, l_i2, u_i2, n_i1, hbk, rfl⟩ := hp482
  have r_i1 : ir i1 := ⟨by omega, by omega⟩
  have r_i2 : ir i2 := ⟨by omega, by omega⟩
  show GO mX11_blockers K V (IP K V (fun X => (X ≥ (-2147483648) ∧ X ≤ 2147483647) ∧ (X = blk V x p0 (vi V x 4).toNat))) K V 0 0 4 [some (.ref x), some (ti p0), some (ti i1), some (ti i2), none] []
  refine GO.iload_n dX11_blockers_4 rfl rfl ?_
  refine GO.aload_n dX11_blockers_5 rfl rfl ?_
  refine GO.getI h_x fl_RX11_36 rfl rfl dX11_blockers_6 (fun l483 u484 => ?_)
  refine GO.icmp_ge (tgt := 45) dX11_blockers_9 (by decide) r_i2 vi_ir (fun c485 => ?_) (fun c485 => ?_)
  ·
    refine GO.iload_n dX11_blockers_45 rfl rfl ?_
    exact GO.reti rfl rfl dX11_blockers_46 ⟨rfl, rfl, _, rfl, r_i1, ⟨(by first | exact trivial | omega), BKn.end hbk (by omega)⟩⟩
  ·
    refine GO.aload_n dX11_blockers_12 rfl rfl ?_
    refine GO.iload_n dX11_blockers_13 rfl rfl ?_
    refine GO.callV (ci := 10) (N := mX11_partyOf) dX11_blockers_14 (RX11, TX11, 20) rfl gV_RX11_151 h_x (t_X11_partyOf h_x r_i2) rfl [] rfl rfl (Nat.le_of_ble_eq_true rfl) rfl (k_rp (fun h488 => ?_) (fun o486 h487 h488 => ?_))
    ·
      have rwn14 := h488.2
      have hn489 : PN V x → i2 < 0 ∨ vi V x 4 ≤ i2 := h488.2
      have hnn490 := hn489 w_0
      refine GO.astoreN (ls1 := [some (.ref x), some (ti p0), some (ti i1), some (ti i2), some (.null)]) dX11_blockers_17 rfl rfl ?_
      refine GO.aloadN dX11_blockers_19 rfl ?_
      refine GO.ifnullN (tgt := 39) dX11_blockers_21 (by decide) ?_
      refine GO.iinc (X := i2) (n := 1) (Y := i2 + 1) (ls1 := [some (.ref x), some (ti p0), some (ti i1), some (ti (i2 + 1)), some (.null)]) dX11_blockers_39 rfl rfl rfl rfl ?_
      refine GO.goto (tgt := 4) dX11_blockers_42 (by decide) ?_
      refine GO.drop [true, true, true, true, false] rfl ?_
      exact ih481 i1 (i2 + 1) V ⟨by omega, by omega, by omega, by omega, by omega, (by first | exact (by exfalso; omega) | exact BKn.nil), rfl⟩ (by show (2147483647 - (i2 + 1)).toNat < (2147483647 - i2).toNat; omega)
    ·
      have hp491 : i2 ≥ 0 ∧ i2 < vi V x 4 := h488.1
      have rwp14 := h488.2
      have hq492 : o486 = vq V (vq V x 3) (i2).toNat := h488.2
      refine GO.astore (ls1 := [some (.ref x), some (ti p0), some (ti i1), some (ti i2), some (.ref o486)]) dX11_blockers_17 rfl rfl ?_
      refine GO.aload dX11_blockers_19 rfl ?_
      refine GO.ifnull dX11_blockers_21 ?_
      refine GO.aload dX11_blockers_24 rfl ?_
      refine GO.iload_n dX11_blockers_26 rfl rfl ?_
      refine GO.callV (ci := 2) (N := mX2_blocksWords) dX11_blockers_27 (RX2, TX2, 5) rfl gV_RX11_587 h487 (t_X2_blocksWords h487 r_p0) rfl [] rfl rfl (Nat.le_of_ble_eq_true rfl) rfl (k_ip fun X493 r494 h495 => ?_)
      have raw_blocksWords := h495.2.2.2
      have rw27 := h495.2.2.2
      refine GO.if_eq (tgt := 39) dX11_blockers_30 (by decide) r494 (fun c496 => ?_) (fun c496 => ?_)
      ·
        refine GO.iinc (X := i2) (n := 1) (Y := i2 + 1) (ls1 := [some (.ref x), some (ti p0), some (ti i1), some (ti (i2 + 1)), some (.ref o486)]) dX11_blockers_39 rfl rfl rfl rfl ?_
        refine GO.goto (tgt := 4) dX11_blockers_42 (by decide) ?_
        refine GO.drop [true, true, true, true, false] rfl ?_
        exact ih481 i1 (i2 + 1) V ⟨by omega, by omega, by omega, by omega, by omega, (by first | exact BKn.yes hbk rw27 (by omega) (by assumption) (by omega) (by assumption) | exact BKn.no hbk rw27 (by omega) (by omega) (by assumption) | exact (by exfalso; omega) | exact BKn.nil), rfl⟩ (by show (2147483647 - (i2 + 1)).toNat < (2147483647 - i2).toNat; omega)
      ·
        refine GO.iload_n dX11_blockers_33 rfl rfl ?_
        refine GO.iconst dX11_blockers_34 ?_
        refine GO.iload_n dX11_blockers_35 rfl rfl ?_
        refine GO.ishl dX11_blockers_36 ?_
        refine GO.ior dX11_blockers_37 ?_
        refine GO.name (fun z497 hz498 => ?_)
        have r499 : ir z497 := hz498 ▸ wor_ir
        refine GO.istore_n (ls1 := [some (.ref x), some (ti p0), some (ti z497), some (ti i2), some (.ref o486)]) dX11_blockers_38 rfl rfl rfl ?_
        refine GO.iinc (X := i2) (n := 1) (Y := i2 + 1) (ls1 := [some (.ref x), some (ti p0), some (ti z497), some (ti (i2 + 1)), some (.ref o486)]) dX11_blockers_39 rfl rfl rfl rfl ?_
        refine GO.goto (tgt := 4) dX11_blockers_42 (by decide) ?_
        refine GO.drop [true, true, true, true, false] rfl ?_
        have q500 : -2147483648 ≤ z497 ∧ z497 ≤ 2147483647 := r499
        have q501 : -2147483648 ≤ wor i1 (wshl 1 i2) ∧ wor i1 (wshl 1 i2) ≤ 2147483647 := wor_ir
        exact ih481 z497 (i2 + 1) V ⟨by omega, by omega, by omega, by omega, by omega, (by first | exact BKn.yes hbk rw27 (by omega) (by assumption) (by omega) (by assumption) | exact BKn.no hbk rw27 (by omega) (by omega) (by assumption) | exact (by exfalso; omega) | exact BKn.nil), rfl⟩ (by show (2147483647 - (i2 + 1)).toNat < (2147483647 - i2).toNat; omega)

set_option maxHeartbeats 1000000 in
theorem t_X11_blocks {K : Kmap} {V : Vmap} {x : Nat} {p0 : Int} (h_x : K x = some (0, 10)) (r_p0 : ir p0) (w_0 : PN V x) : MC mX11_blocks K V [.ref x, ti p0] (IP K V (fun X => (X ≥ (-2147483648) ∧ X ≤ 2147483647) ∧ (BKS V x p0 X))) := by
  refine MC.start 0 (by decide +kernel) rfl rfl rfl (ls0 := [some (.ref x), some (ti p0)]) rfl ?_
  refine GO.iload_n dX11_blocks_0 rfl rfl ?_
  refine GO.iconst dX11_blocks_1 ?_
  refine GO.iconst dX11_blocks_2 ?_
  refine GO.aload_n dX11_blocks_3 rfl rfl ?_
  refine GO.getR h_x fl_RX11_88 rfl rfl dX11_blocks_4 (fun hv2 h1 => ?_)
  refine GO.getI h1 fl_RX11_199_k25 rfl rfl dX11_blocks_7 (fun l3 u4 => ?_)
  refine GO.ishl dX11_blocks_10 ?_
  refine GO.iconst dX11_blocks_11 ?_
  refine GO.isub dX11_blocks_12 ?_
  refine GO.norm (fun z5 r6 hn7 => ?_)
  refine GO.callS (N := mX11_between) dX11_blocks_13 gS_RX11_112 (t_X11_between r_p0 (ir_c rfl) r6) rfl [] rfl rfl (Nat.le_of_ble_eq_true rfl) rfl (k_ip fun X8 r9 h10 => ?_)
  refine GO.if_eq (tgt := 27) dX11_blocks_16 (by decide) r9 (fun c11 => ?_) (fun c11 => ?_)
  ·
    have q12 := h10.2.2 (by omega)
    refine GO.iconst dX11_blocks_27 ?_
    exact GO.reti rfl rfl dX11_blocks_28 ⟨rfl, rfl, _, rfl, (ir_c rfl), ⟨(by first | exact trivial | omega), (by first | exact BKS.out (Y := vi V (vq V x 16) 3) rfl (by omega) (by omega) (by assumption) (by omega))⟩⟩
  ·
    have q13 := h10.2.1 (by omega)
    refine GO.aload_n dX11_blocks_19 rfl rfl ?_
    refine GO.iload_n dX11_blocks_20 rfl rfl ?_
    refine GO.callV (ci := 10) (N := mX11_blockers) dX11_blocks_21 (RX11, TX11, 20) rfl gV_RX11_581 h_x (t_X11_blockers h_x r_p0 (w_0)) rfl [] rfl rfl (Nat.le_of_ble_eq_true rfl) rfl (k_ip fun X14 r15 h16 => ?_)
    have raw_blockers := h16.2
    have rw21 := h16.2
    refine GO.goto (tgt := 28) dX11_blocks_24 (by decide) ?_
    exact GO.reti rfl rfl dX11_blocks_28 ⟨rfl, rfl, _, rfl, r15, ⟨(by first | exact trivial | omega), (by first | exact BKS.in (Y := vi V (vq V x 16) 3) rfl (by omega) (by omega) (by assumption) (by omega) (by omega) rw21 | exact BKS.out (Y := vi V (vq V x 16) 3) rfl (by omega) (by omega) (by assumption) (by omega))⟩⟩

set_option maxHeartbeats 1000000 in
theorem t_X8_get_k25 {K : Kmap} {V : Vmap} {x : Nat} {p0 : Int} {p1 : Int} (h_x : K x = some (0, 25)) (r_p0 : ir p0) (r_p1 : ir p1) : MC mX8_get_k25 K V [.ref x, ti p0, ti p1] (IP K V (fun X => True)) := by
  refine MC.start 2 (by decide +kernel) rfl rfl rfl (ls0 := [some (.ref x), some (ti p0), some (ti p1), none, none]) rfl ?_
  refine GO.iload_n dX8_get_0 rfl rfl ?_
  refine GO.aload_n dX8_get_1 rfl rfl ?_
  refine GO.getI h_x fl_RX8_15_k25 rfl rfl dX8_get_2 (fun l1 u2 => ?_)
  refine GO.imul dX8_get_5 ?_
  refine GO.norm (fun z3 r4 hn5 => ?_)
  refine GO.iload_n dX8_get_6 rfl rfl ?_
  refine GO.iadd dX8_get_7 ?_
  refine GO.norm (fun z6 r7 hn8 => ?_)
  refine GO.istore_n (ls1 := [some (.ref x), some (ti p0), some (ti p1), some (ti z6), none]) dX8_get_8 rfl rfl rfl ?_
  refine GO.iload_n dX8_get_9 rfl rfl ?_
  have hj18 : ∀ (z17 : Int), ∀ (l19 : 0 ≤ z17), ∀ (u20 : z17 ≤ 1), GO mX8_get_k25 K V (IP K V (fun X => True)) K V 0 0 38 [some (.ref x), some (ti p0), some (ti p1), some (ti z6), none] [ti z17] := by
    intro z17 l19 u20
    have r21 : ir z17 := ⟨by omega, by omega⟩
    refine GO.istore (ls1 := [some (.ref x), some (ti p0), some (ti p1), some (ti z6), some (ti z17)]) dX8_get_38 rfl rfl ?_
    refine GO.iload dX8_get_40 rfl ?_
    refine GO.if_eq (tgt := 67) dX8_get_42 (by decide) r21 (fun c22 => ?_) (fun c22 => ?_)
    ·
      refine GO.iconst dX8_get_67 ?_
      exact GO.reti rfl rfl dX8_get_68 ⟨rfl, rfl, _, rfl, (ir_c rfl), trivial⟩
    ·
      refine GO.iload_n dX8_get_45 rfl rfl ?_
      refine GO.if_lt (tgt := 67) dX8_get_46 (by decide) r7 (fun c23 => ?_) (fun c23 => ?_)
      ·
        refine GO.iconst dX8_get_67 ?_
        exact GO.reti rfl rfl dX8_get_68 ⟨rfl, rfl, _, rfl, (ir_c rfl), trivial⟩
      ·
        refine GO.iload_n dX8_get_49 rfl rfl ?_
        refine GO.aload_n dX8_get_50 rfl rfl ?_
        refine GO.getA (n := 7) h_x fl_RX8_27_k25 rfl rfl rfl rfl dX8_get_51 (fun hv25 h24 => ?_)
        refine GO.alen h24 dX8_get_54 (fun h26 => ?_)
        refine GO.icmp_ge (tgt := 67) dX8_get_55 (by decide) r7 ⟨by omega, by omega⟩ (fun c27 => ?_) (fun c27 => ?_)
        ·
          refine GO.iconst dX8_get_67 ?_
          exact GO.reti rfl rfl dX8_get_68 ⟨rfl, rfl, _, rfl, (ir_c rfl), trivial⟩
        ·
          refine GO.aload_n dX8_get_58 rfl rfl ?_
          refine GO.getRaw h_x fl_RX8_27_k25 hv25 dX8_get_59 ?_
          refine GO.iload_n dX8_get_62 rfl rfl ?_
          have q30 : -2147483648 ≤ z6 ∧ z6 ≤ 2147483647 := r7
          refine GO.iald (t := 147) rfl rfl h24 r7 (by omega) (by omega) dX8_get_63 (fun _ _ => ?_)
          refine GO.goto (tgt := 68) dX8_get_64 (by decide) ?_
          have q31 : -2147483648 ≤ vi V (vq V x 2) (z6).toNat ∧ vi V (vq V x 2) (z6).toNat ≤ 2147483647 := vi_ir
          exact GO.reti rfl rfl dX8_get_68 ⟨rfl, rfl, _, rfl, vi_ir, trivial⟩
  have hj40 : GO mX8_get_k25 K V (IP K V (fun X => True)) K V 0 0 37 [some (.ref x), some (ti p0), some (ti p1), some (ti z6), none] [] := by
    skip
    refine GO.iconst dX8_get_37 ?_
    exact hj18 0 (by omega) (by omega)
  refine GO.if_lt (tgt := 37) dX8_get_10 (by decide) r_p0 (fun c41 => ?_) (fun c41 => ?_)
  ·
    exact hj40 
  ·
    refine GO.iload_n dX8_get_13 rfl rfl ?_
    refine GO.aload_n dX8_get_14 rfl rfl ?_
    refine GO.getI h_x fl_RX8_9_k25 rfl rfl dX8_get_15 (fun l42 u43 => ?_)
    refine GO.icmp_ge (tgt := 37) dX8_get_18 (by decide) r_p0 vi_ir (fun c44 => ?_) (fun c44 => ?_)
    ·
      exact hj40 
    ·
      refine GO.iload_n dX8_get_21 rfl rfl ?_
      refine GO.if_lt (tgt := 37) dX8_get_22 (by decide) r_p1 (fun c45 => ?_) (fun c45 => ?_)
      ·
        exact hj40 
      ·
        refine GO.iload_n dX8_get_25 rfl rfl ?_
        refine GO.aload_n dX8_get_26 rfl rfl ?_
        refine GO.getI h_x fl_RX8_15_k25 rfl rfl dX8_get_27 (fun l46 u47 => ?_)
        refine GO.icmp_ge (tgt := 37) dX8_get_30 (by decide) r_p1 vi_ir (fun c48 => ?_) (fun c48 => ?_)
        ·
          exact hj40 
        ·
          refine GO.iconst dX8_get_33 ?_
          refine GO.goto (tgt := 38) dX8_get_34 (by decide) ?_
          exact hj18 1 (by omega) (by omega)

set_option maxHeartbeats 1000000 in
theorem t_X11_worthOf {K : Kmap} {V : Vmap} {x : Nat} {p0 : Int} (h_x : K x = some (0, 10)) (r_p0 : ir p0) : MC mX11_worthOf K V [.ref x, ti p0] (IP K V (fun X => True)) := by
  refine MC.start 2 (by decide +kernel) rfl rfl rfl (ls0 := [some (.ref x), some (ti p0), none, none]) rfl ?_
  refine GO.iconst dX11_worthOf_0 ?_
  refine GO.istore_n (ls1 := [some (.ref x), some (ti p0), some (ti 0), none]) dX11_worthOf_1 rfl rfl rfl ?_
  refine GO.iconst dX11_worthOf_2 ?_
  refine GO.istore_n (ls1 := [some (.ref x), some (ti p0), some (ti 0), some (ti 0)]) dX11_worthOf_3 rfl rfl rfl ?_
  refine GO.loop2 (fun i1 i2 W => (-2147483648) ≤ i1 ∧ i1 ≤ 2147483647 ∧ 0 ≤ i2 ∧ i2 ≤ 7 ∧ V = W) (fun i1 i2 => [some (.ref x), some (ti p0), some (ti i1), some (ti i2)]) (fun i1 i2 W => (2147483647 - i2).toNat) 0 0 ⟨by omega, by omega, by omega, by omega, rfl⟩ rfl (fun i1 i2 V366 hp368 ih367 => ?_)
  obtain ⟨l_i1, u_i1, l_i2, u_i2, rfl⟩ := hp368
  have r_i1 : ir i1 := ⟨by omega, by omega⟩
  have r_i2 : ir i2 := ⟨by omega, by omega⟩
  show GO mX11_worthOf K V (IP K V (fun X => True)) K V 0 0 4 [some (.ref x), some (ti p0), some (ti i1), some (ti i2)] []
  refine GO.iload_n dX11_worthOf_4 rfl rfl ?_
  refine GO.aload_n dX11_worthOf_5 rfl rfl ?_
  refine GO.getR h_x fl_RX11_88 rfl rfl dX11_worthOf_6 (fun hv370 h369 => ?_)
  refine GO.getI h369 fl_RX11_199_k25 rfl rfl dX11_worthOf_9 (fun l371 u372 => ?_)
  refine GO.icmp_ge (tgt := 41) dX11_worthOf_12 (by decide) r_i2 vi_ir (fun c373 => ?_) (fun c373 => ?_)
  ·
    refine GO.iload_n dX11_worthOf_41 rfl rfl ?_
    exact GO.reti rfl rfl dX11_worthOf_42 ⟨rfl, rfl, _, rfl, r_i1, trivial⟩
  ·
    refine GO.iload_n dX11_worthOf_15 rfl rfl ?_
    refine GO.iload_n dX11_worthOf_16 rfl rfl ?_
    refine GO.ishr dX11_worthOf_17 ?_
    refine GO.iconst dX11_worthOf_18 ?_
    refine GO.iand dX11_worthOf_19 ?_
    refine GO.if_eq (tgt := 35) dX11_worthOf_20 (by decide) wand_ir (fun c374 => ?_) (fun c374 => ?_)
    ·
      refine GO.iinc (X := i2) (n := 1) (Y := i2 + 1) (ls1 := [some (.ref x), some (ti p0), some (ti i1), some (ti (i2 + 1))]) dX11_worthOf_35 rfl rfl rfl rfl ?_
      refine GO.goto (tgt := 4) dX11_worthOf_38 (by decide) ?_
      exact ih367 i1 (i2 + 1) V ⟨by omega, by omega, by omega, by omega, rfl⟩ (by show (2147483647 - (i2 + 1)).toNat < (2147483647 - i2).toNat; omega)
    ·
      refine GO.iload_n dX11_worthOf_23 rfl rfl ?_
      refine GO.aload_n dX11_worthOf_24 rfl rfl ?_
      refine GO.getRaw h_x fl_RX11_88 hv370 dX11_worthOf_25 ?_
      refine GO.iload_n dX11_worthOf_28 rfl rfl ?_
      refine GO.iconst dX11_worthOf_29 ?_
      refine GO.callV (ci := 25) (N := mX8_get_k25) dX11_worthOf_30 (RX8, TX8, 4) rfl gV_RX11_209 h369 (t_X8_get_k25 h369 r_i2 (ir_c rfl)) rfl [ti i1] rfl rfl (Nat.le_of_ble_eq_true rfl) rfl (k_ip fun X377 r378 h379 => ?_)
      refine GO.iadd dX11_worthOf_33 ?_
      refine GO.norm (fun z380 r381 hn382 => ?_)
      refine GO.istore_n (ls1 := [some (.ref x), some (ti p0), some (ti z380), some (ti i2)]) dX11_worthOf_34 rfl rfl rfl ?_
      refine GO.iinc (X := i2) (n := 1) (Y := i2 + 1) (ls1 := [some (.ref x), some (ti p0), some (ti z380), some (ti (i2 + 1))]) dX11_worthOf_35 rfl rfl rfl rfl ?_
      refine GO.goto (tgt := 4) dX11_worthOf_38 (by decide) ?_
      have q383 : -2147483648 ≤ z380 ∧ z380 ≤ 2147483647 := r381
      exact ih367 z380 (i2 + 1) V ⟨by omega, by omega, by omega, by omega, rfl⟩ (by show (2147483647 - (i2 + 1)).toNat < (2147483647 - i2).toNat; omega)

set_option maxHeartbeats 1000000 in
theorem t_X11_best {K : Kmap} {V : Vmap} {x : Nat} (h_x : K x = some (0, 10)) (w_0 : PN V x) : MC mX11_best K V [.ref x] (IP K V (fun X => True)) := by
  refine MC.start 6 (by decide +kernel) rfl rfl rfl (ls0 := [some (.ref x), none, none, none, none, none, none]) rfl ?_
  refine GO.aload_n dX11_best_0 rfl rfl ?_
  refine GO.aload_n dX11_best_1 rfl rfl ?_
  refine GO.getR h_x fl_RX11_12 rfl rfl dX11_best_2 (fun hv2 h1 => ?_)
  refine GO.getI h1 fl_RX11_145 rfl rfl dX11_best_5 (fun l3 u4 => ?_)
  refine GO.callV (ci := 10) (N := mX11_decidingOn) dX11_best_8 (RX11, TX11, 20) rfl gV_RX11_369 h_x (t_X11_decidingOn h_x vi_ir) rfl [] rfl rfl (Nat.le_of_ble_eq_true rfl) rfl (k_ip fun X5 r6 h7 => ?_)
  refine GO.istore_n (ls1 := [some (.ref x), some (ti X5), none, none, none, none, none]) dX11_best_11 rfl rfl rfl ?_
  refine GO.iconst dX11_best_12 ?_
  refine GO.istore_n (ls1 := [some (.ref x), some (ti X5), some (ti 0), none, none, none, none]) dX11_best_13 rfl rfl rfl ?_
  refine GO.iconst dX11_best_14 ?_
  refine GO.istore_n (ls1 := [some (.ref x), some (ti X5), some (ti 0), some (ti 0), none, none, none]) dX11_best_15 rfl rfl rfl ?_
  refine GO.iconst dX11_best_16 ?_
  refine GO.istore (ls1 := [some (.ref x), some (ti X5), some (ti 0), some (ti 0), some (ti 1), none, none]) dX11_best_17 rfl rfl ?_
  refine GO.loop3 (fun i8 i9 i10 W => 0 ≤ i8 ∧ i8 ≤ 2147483646 ∧ (-2147483648) ≤ i9 ∧ i9 ≤ 2147483647 ∧ 1 ≤ i10 ∧ i10 ≤ 2147483647 ∧ V = W) (fun i8 i9 i10 => [some (.ref x), some (ti X5), some (ti i8), some (ti i9), some (ti i10), none, none]) (fun i8 i9 i10 W => (2147483647 - i10).toNat) 0 0 1 ⟨by omega, by omega, by omega, by omega, by omega, by omega, rfl⟩ rfl (fun i8 i9 i10 V2363 hp2365 ih2364 => ?_)
  obtain ⟨l_i8, u_i8, l_i9, u_i9, l_i10, u_i10, rfl⟩ := hp2365
  have r_i8 : ir i8 := ⟨by omega, by omega⟩
  have r_i9 : ir i9 := ⟨by omega, by omega⟩
  have r_i10 : ir i10 := ⟨by omega, by omega⟩
  show GO mX11_best K V (IP K V (fun X => True)) K V 0 0 19 [some (.ref x), some (ti X5), some (ti i8), some (ti i9), some (ti i10), none, none] []
  refine GO.iload dX11_best_19 rfl ?_
  refine GO.iconst dX11_best_21 ?_
  refine GO.aload_n dX11_best_22 rfl rfl ?_
  refine GO.getR h_x fl_RX11_88 rfl rfl dX11_best_23 (fun hv2367 h2366 => ?_)
  refine GO.getI h2366 fl_RX11_199_k25 rfl rfl dX11_best_26 (fun l2368 u2369 => ?_)
  refine GO.ishl dX11_best_29 ?_
  refine GO.icmp_ge (tgt := 100) dX11_best_30 (by decide) r_i10 wshl_ir (fun c2370 => ?_) (fun c2370 => ?_)
  ·
    refine GO.iload_n dX11_best_100 rfl rfl ?_
    exact GO.reti rfl rfl dX11_best_101 ⟨rfl, rfl, _, rfl, r_i8, trivial⟩
  ·
    refine GO.aload_n dX11_best_33 rfl rfl ?_
    refine GO.iload dX11_best_34 rfl ?_
    refine GO.callV (ci := 10) (N := mX11_worthOf) dX11_best_36 (RX11, TX11, 20) rfl gV_RX11_584 h_x (t_X11_worthOf h_x r_i10) rfl [] rfl rfl (Nat.le_of_ble_eq_true rfl) rfl (k_ip fun X2371 r2372 h2373 => ?_)
    refine GO.istore (ls1 := [some (.ref x), some (ti X5), some (ti i8), some (ti i9), some (ti i10), some (ti X2371), none]) dX11_best_39 rfl rfl ?_
    refine GO.iload dX11_best_41 rfl ?_
    refine GO.iload_n dX11_best_43 rfl rfl ?_
    have hj2383 : ∀ (z2382 : Int), ∀ (l2384 : 0 ≤ z2382), ∀ (u2385 : z2382 ≤ 1), GO mX11_best K V (IP K V (fun X => True)) K V 0 0 64 [some (.ref x), some (ti X5), some (ti i8), some (ti i9), some (ti i10), some (ti X2371), none] [ti z2382] := by
      intro z2382 l2384 u2385
      have r2386 : ir z2382 := ⟨by omega, by omega⟩
      refine GO.istore (ls1 := [some (.ref x), some (ti X5), some (ti i8), some (ti i9), some (ti i10), some (ti X2371), some (ti z2382)]) dX11_best_64 rfl rfl ?_
      refine GO.iload dX11_best_66 rfl ?_
      refine GO.iload_n dX11_best_68 rfl rfl ?_
      refine GO.icmp_gt (tgt := 77) dX11_best_69 (by decide) r2372 r_i9 (fun c2387 => ?_) (fun c2387 => ?_)
      ·
        refine GO.aload_n dX11_best_77 rfl rfl ?_
        refine GO.iload dX11_best_78 rfl ?_
        refine GO.callV (ci := 10) (N := mX11_blockers) dX11_best_80 (RX11, TX11, 20) rfl gV_RX11_581 h_x (t_X11_blockers h_x r_i10 (w_0)) rfl [] rfl rfl (Nat.le_of_ble_eq_true rfl) rfl (k_ip fun X2388 r2389 h2390 => ?_)
        have raw_blockers := h2390.2
        have rw80 := h2390.2
        refine GO.iload_n dX11_best_83 rfl rfl ?_
        refine GO.iand dX11_best_84 ?_
        refine GO.if_ne (tgt := 94) dX11_best_85 (by decide) wand_ir (fun c2391 => ?_) (fun c2391 => ?_)
        ·
          refine GO.iinc (X := i10) (n := 1) (Y := i10 + 1) (ls1 := [some (.ref x), some (ti X5), some (ti i8), some (ti i9), some (ti (i10 + 1)), some (ti X2371), some (ti z2382)]) dX11_best_94 rfl rfl rfl rfl ?_
          refine GO.goto (tgt := 19) dX11_best_97 (by decide) ?_
          refine GO.drop [true, true, true, true, true, false, false] rfl ?_
          have q2392 : -2147483648 ≤ wshl 1 (vi V (vq V x 16) 3) ∧ wshl 1 (vi V (vq V x 16) 3) ≤ 2147483647 := wshl_ir
          have q2393 : -2147483648 ≤ X2371 ∧ X2371 ≤ 2147483647 := r2372
          exact ih2364 i8 i9 (i10 + 1) V ⟨by omega, by omega, by omega, by omega, by omega, by omega, rfl⟩ (by show (2147483647 - (i10 + 1)).toNat < (2147483647 - i10).toNat; omega)
        ·
          refine GO.iload dX11_best_88 rfl ?_
          refine GO.istore_n (ls1 := [some (.ref x), some (ti X5), some (ti i10), some (ti i9), some (ti i10), some (ti X2371), some (ti z2382)]) dX11_best_90 rfl rfl rfl ?_
          refine GO.iload dX11_best_91 rfl ?_
          refine GO.istore_n (ls1 := [some (.ref x), some (ti X5), some (ti i10), some (ti X2371), some (ti i10), some (ti X2371), some (ti z2382)]) dX11_best_93 rfl rfl rfl ?_
          refine GO.iinc (X := i10) (n := 1) (Y := i10 + 1) (ls1 := [some (.ref x), some (ti X5), some (ti i10), some (ti X2371), some (ti (i10 + 1)), some (ti X2371), some (ti z2382)]) dX11_best_94 rfl rfl rfl rfl ?_
          refine GO.goto (tgt := 19) dX11_best_97 (by decide) ?_
          refine GO.drop [true, true, true, true, true, false, false] rfl ?_
          have q2394 : -2147483648 ≤ wshl 1 (vi V (vq V x 16) 3) ∧ wshl 1 (vi V (vq V x 16) 3) ≤ 2147483647 := wshl_ir
          have q2395 : -2147483648 ≤ X2371 ∧ X2371 ≤ 2147483647 := r2372
          exact ih2364 i10 X2371 (i10 + 1) V ⟨by omega, by omega, by omega, by omega, by omega, by omega, rfl⟩ (by show (2147483647 - (i10 + 1)).toNat < (2147483647 - i10).toNat; omega)
      ·
        refine GO.iload dX11_best_72 rfl ?_
        refine GO.if_eq (tgt := 94) dX11_best_74 (by decide) r2386 (fun c2396 => ?_) (fun c2396 => ?_)
        ·
          refine GO.iinc (X := i10) (n := 1) (Y := i10 + 1) (ls1 := [some (.ref x), some (ti X5), some (ti i8), some (ti i9), some (ti (i10 + 1)), some (ti X2371), some (ti z2382)]) dX11_best_94 rfl rfl rfl rfl ?_
          refine GO.goto (tgt := 19) dX11_best_97 (by decide) ?_
          refine GO.drop [true, true, true, true, true, false, false] rfl ?_
          have q2397 : -2147483648 ≤ wshl 1 (vi V (vq V x 16) 3) ∧ wshl 1 (vi V (vq V x 16) 3) ≤ 2147483647 := wshl_ir
          have q2398 : -2147483648 ≤ X2371 ∧ X2371 ≤ 2147483647 := r2372
          exact ih2364 i8 i9 (i10 + 1) V ⟨by omega, by omega, by omega, by omega, by omega, by omega, rfl⟩ (by show (2147483647 - (i10 + 1)).toNat < (2147483647 - i10).toNat; omega)
        ·
          refine GO.aload_n dX11_best_77 rfl rfl ?_
          refine GO.iload dX11_best_78 rfl ?_
          refine GO.callV (ci := 10) (N := mX11_blockers) dX11_best_80 (RX11, TX11, 20) rfl gV_RX11_581 h_x (t_X11_blockers h_x r_i10 (w_0)) rfl [] rfl rfl (Nat.le_of_ble_eq_true rfl) rfl (k_ip fun X2399 r2400 h2401 => ?_)
          have raw_blockers := h2401.2
          have rw80 := h2401.2
          refine GO.iload_n dX11_best_83 rfl rfl ?_
          refine GO.iand dX11_best_84 ?_
          refine GO.if_ne (tgt := 94) dX11_best_85 (by decide) wand_ir (fun c2402 => ?_) (fun c2402 => ?_)
          ·
            refine GO.iinc (X := i10) (n := 1) (Y := i10 + 1) (ls1 := [some (.ref x), some (ti X5), some (ti i8), some (ti i9), some (ti (i10 + 1)), some (ti X2371), some (ti z2382)]) dX11_best_94 rfl rfl rfl rfl ?_
            refine GO.goto (tgt := 19) dX11_best_97 (by decide) ?_
            refine GO.drop [true, true, true, true, true, false, false] rfl ?_
            have q2403 : -2147483648 ≤ wshl 1 (vi V (vq V x 16) 3) ∧ wshl 1 (vi V (vq V x 16) 3) ≤ 2147483647 := wshl_ir
            have q2404 : -2147483648 ≤ X2371 ∧ X2371 ≤ 2147483647 := r2372
            exact ih2364 i8 i9 (i10 + 1) V ⟨by omega, by omega, by omega, by omega, by omega, by omega, rfl⟩ (by show (2147483647 - (i10 + 1)).toNat < (2147483647 - i10).toNat; omega)
          ·
            refine GO.iload dX11_best_88 rfl ?_
            refine GO.istore_n (ls1 := [some (.ref x), some (ti X5), some (ti i10), some (ti i9), some (ti i10), some (ti X2371), some (ti z2382)]) dX11_best_90 rfl rfl rfl ?_
            refine GO.iload dX11_best_91 rfl ?_
            refine GO.istore_n (ls1 := [some (.ref x), some (ti X5), some (ti i10), some (ti X2371), some (ti i10), some (ti X2371), some (ti z2382)]) dX11_best_93 rfl rfl rfl ?_
            refine GO.iinc (X := i10) (n := 1) (Y := i10 + 1) (ls1 := [some (.ref x), some (ti X5), some (ti i10), some (ti X2371), some (ti (i10 + 1)), some (ti X2371), some (ti z2382)]) dX11_best_94 rfl rfl rfl rfl ?_
            refine GO.goto (tgt := 19) dX11_best_97 (by decide) ?_
            refine GO.drop [true, true, true, true, true, false, false] rfl ?_
            have q2405 : -2147483648 ≤ wshl 1 (vi V (vq V x 16) 3) ∧ wshl 1 (vi V (vq V x 16) 3) ≤ 2147483647 := wshl_ir
            have q2406 : -2147483648 ≤ X2371 ∧ X2371 ≤ 2147483647 := r2372
            exact ih2364 i10 X2371 (i10 + 1) V ⟨by omega, by omega, by omega, by omega, by omega, by omega, rfl⟩ (by show (2147483647 - (i10 + 1)).toNat < (2147483647 - i10).toNat; omega)
    have hj2415 : GO mX11_best K V (IP K V (fun X => True)) K V 0 0 63 [some (.ref x), some (ti X5), some (ti i8), some (ti i9), some (ti i10), some (ti X2371), none] [] := by
      skip
      refine GO.iconst dX11_best_63 ?_
      exact hj2383 0 (by omega) (by omega)
    refine GO.icmp_ne (tgt := 63) dX11_best_44 (by decide) r2372 r_i9 (fun c2416 => ?_) (fun c2416 => ?_)
    ·
      exact hj2415 
    ·
      refine GO.iload dX11_best_47 rfl ?_
      refine GO.callS (N := mJ6_bitCount_0f7a4) dX11_best_49 gS_RX11_286 (t_J6_bitCount_0f7a4 r_i10) rfl [] rfl rfl (Nat.le_of_ble_eq_true rfl) rfl (k_ip fun X2417 r2418 h2419 => ?_)
      have raw_bitCount := h2419.2
      have rw49 := h2419.2
      refine GO.iload_n dX11_best_52 rfl rfl ?_
      refine GO.callS (N := mJ6_bitCount_0f7a4) dX11_best_53 gS_RX11_286 (t_J6_bitCount_0f7a4 r_i8) rfl [ti X2417] rfl rfl (Nat.le_of_ble_eq_true rfl) rfl (k_ip fun X2420 r2421 h2422 => ?_)
      have raw_bitCount := h2422.2
      have rw53 := h2422.2
      refine GO.icmp_ge (tgt := 63) dX11_best_56 (by decide) r2418 r2421 (fun c2423 => ?_) (fun c2423 => ?_)
      ·
        exact hj2415 
      ·
        refine GO.iconst dX11_best_59 ?_
        refine GO.goto (tgt := 64) dX11_best_60 (by decide) ?_
        exact hj2383 1 (by omega) (by omega)

set_option maxHeartbeats 1000000 in
theorem t_X8_isFull_k24 {K : Kmap} {V : Vmap} {x : Nat} (h_x : K x = some (0, 24)) : MC mX8_isFull_k24 K V [.ref x] (IP K V (fun X => (X = 0 ∨ X = 1) ∧ (X ≠ 0 → vi V x 3 ≥ vi V x 1 ∧ vi V x 3 ≥ 8) ∧ (X = 0 → vi V x 3 < vi V x 1 ∧ vi V x 3 ≤ 7))) := by
  refine MC.start 0 (by decide +kernel) rfl rfl rfl (ls0 := [some (.ref x)]) rfl ?_
  refine GO.aload_n dX8_isFull_0 rfl rfl ?_
  refine GO.getI h_x fl_RX8_9_k24 rfl rfl dX8_isFull_1 (fun l1 u2 => ?_)
  refine GO.aload_n dX8_isFull_4 rfl rfl ?_
  refine GO.getI h_x fl_RX8_18_k24 rfl rfl dX8_isFull_5 (fun l3 u4 => ?_)
  refine GO.icmp_lt (tgt := 15) dX8_isFull_8 (by decide) vi_ir vi_ir (fun c5 => ?_) (fun c5 => ?_)
  ·
    refine GO.iconst dX8_isFull_15 ?_
    exact GO.retz rfl rfl dX8_isFull_16 (Or.inl rfl) ⟨rfl, rfl, _, rfl, (ir_c rfl), ⟨Or.inl rfl, fun h => absurd rfl h, fun h => by omega⟩⟩
  ·
    refine GO.iconst dX8_isFull_11 ?_
    refine GO.goto (tgt := 16) dX8_isFull_12 (by decide) ?_
    exact GO.retz rfl rfl dX8_isFull_16 (Or.inr rfl) ⟨rfl, rfl, _, rfl, (ir_c rfl), ⟨Or.inr rfl, fun h => by omega, fun h => absurd h (by decide)⟩⟩

set_option maxHeartbeats 1000000 in
theorem t_X8_put_k24 {K : Kmap} {V : Vmap} {x : Nat} {p0 : Int} {p1 : Int} {p2 : Int} (h_x : K x = some (0, 24)) (r_p0 : ir p0) (r_p1 : ir p1) (r_p2 : ir p2) : MC mX8_put_k24 K V [.ref x, ti p0, ti p1, ti p2] (VS K (fun V1 => (True) ∧ (TPU K V V1 x p0 p1 p2))) := by
  refine MC.start 2 (by decide +kernel) rfl rfl rfl (ls0 := [some (.ref x), some (ti p0), some (ti p1), some (ti p2), none, none]) rfl ?_
  refine GO.iload_n dX8_put_0 rfl rfl ?_
  refine GO.aload_n dX8_put_1 rfl rfl ?_
  refine GO.getI h_x fl_RX8_15_k24 rfl rfl dX8_put_2 (fun l1 u2 => ?_)
  refine GO.imul dX8_put_5 ?_
  refine GO.norm (fun z3 r4 hn5 => ?_)
  refine GO.iload_n dX8_put_6 rfl rfl ?_
  refine GO.iadd dX8_put_7 ?_
  refine GO.norm (fun z6 r7 hn8 => ?_)
  refine GO.istore (ls1 := [some (.ref x), some (ti p0), some (ti p1), some (ti p2), some (ti z6), none]) dX8_put_8 rfl rfl ?_
  refine GO.iload_n dX8_put_10 rfl rfl ?_
  refine GO.if_lt (tgt := 38) dX8_put_11 (by decide) r_p0 (fun c9 => ?_) (fun c9 => ?_)
  ·
    refine GO.iconst dX8_put_38 ?_
    refine GO.istore (ls1 := [some (.ref x), some (ti p0), some (ti p1), some (ti p2), some (ti z6), some (ti 0)]) dX8_put_39 rfl rfl ?_
    refine GO.iload dX8_put_41 rfl ?_
    refine GO.if_eq (tgt := 69) dX8_put_43 (by decide) (ir_c rfl) (fun c10 => ?_) (fun h => by exfalso; omega)
    exact GO.retv rfl rfl dX8_put_69 ⟨rfl, rfl, ⟨trivial, (by first | exact TPU.in (by assumption) (by assumption) ⟨by omega, by omega, by omega, by omega⟩ (by assumption) | exact TPU.out (by omega) | exact TPU.neg (by assumption) (by assumption) ⟨by omega, by omega, by omega, by omega⟩ (by omega) | exact TPU.bad (by assumption) (by assumption) ⟨by omega, by omega, by omega, by omega⟩ (by assumption) (by omega))⟩⟩
  ·
    refine GO.iload_n dX8_put_14 rfl rfl ?_
    refine GO.aload_n dX8_put_15 rfl rfl ?_
    refine GO.getI h_x fl_RX8_9_k24 rfl rfl dX8_put_16 (fun l11 u12 => ?_)
    refine GO.icmp_ge (tgt := 38) dX8_put_19 (by decide) r_p0 vi_ir (fun c13 => ?_) (fun c13 => ?_)
    ·
      refine GO.iconst dX8_put_38 ?_
      refine GO.istore (ls1 := [some (.ref x), some (ti p0), some (ti p1), some (ti p2), some (ti z6), some (ti 0)]) dX8_put_39 rfl rfl ?_
      refine GO.iload dX8_put_41 rfl ?_
      refine GO.if_eq (tgt := 69) dX8_put_43 (by decide) (ir_c rfl) (fun c14 => ?_) (fun h => by exfalso; omega)
      exact GO.retv rfl rfl dX8_put_69 ⟨rfl, rfl, ⟨trivial, (by first | exact TPU.in (by assumption) (by assumption) ⟨by omega, by omega, by omega, by omega⟩ (by assumption) | exact TPU.out (by omega) | exact TPU.neg (by assumption) (by assumption) ⟨by omega, by omega, by omega, by omega⟩ (by omega) | exact TPU.bad (by assumption) (by assumption) ⟨by omega, by omega, by omega, by omega⟩ (by assumption) (by omega))⟩⟩
    ·
      refine GO.iload_n dX8_put_22 rfl rfl ?_
      refine GO.if_lt (tgt := 38) dX8_put_23 (by decide) r_p1 (fun c15 => ?_) (fun c15 => ?_)
      ·
        refine GO.iconst dX8_put_38 ?_
        refine GO.istore (ls1 := [some (.ref x), some (ti p0), some (ti p1), some (ti p2), some (ti z6), some (ti 0)]) dX8_put_39 rfl rfl ?_
        refine GO.iload dX8_put_41 rfl ?_
        refine GO.if_eq (tgt := 69) dX8_put_43 (by decide) (ir_c rfl) (fun c16 => ?_) (fun h => by exfalso; omega)
        exact GO.retv rfl rfl dX8_put_69 ⟨rfl, rfl, ⟨trivial, (by first | exact TPU.in (by assumption) (by assumption) ⟨by omega, by omega, by omega, by omega⟩ (by assumption) | exact TPU.out (by omega) | exact TPU.neg (by assumption) (by assumption) ⟨by omega, by omega, by omega, by omega⟩ (by omega) | exact TPU.bad (by assumption) (by assumption) ⟨by omega, by omega, by omega, by omega⟩ (by assumption) (by omega))⟩⟩
      ·
        refine GO.iload_n dX8_put_26 rfl rfl ?_
        refine GO.aload_n dX8_put_27 rfl rfl ?_
        refine GO.getI h_x fl_RX8_15_k24 rfl rfl dX8_put_28 (fun l17 u18 => ?_)
        refine GO.icmp_ge (tgt := 38) dX8_put_31 (by decide) r_p1 vi_ir (fun c19 => ?_) (fun c19 => ?_)
        ·
          refine GO.iconst dX8_put_38 ?_
          refine GO.istore (ls1 := [some (.ref x), some (ti p0), some (ti p1), some (ti p2), some (ti z6), some (ti 0)]) dX8_put_39 rfl rfl ?_
          refine GO.iload dX8_put_41 rfl ?_
          refine GO.if_eq (tgt := 69) dX8_put_43 (by decide) (ir_c rfl) (fun c20 => ?_) (fun h => by exfalso; omega)
          exact GO.retv rfl rfl dX8_put_69 ⟨rfl, rfl, ⟨trivial, (by first | exact TPU.in (by assumption) (by assumption) ⟨by omega, by omega, by omega, by omega⟩ (by assumption) | exact TPU.out (by omega) | exact TPU.neg (by assumption) (by assumption) ⟨by omega, by omega, by omega, by omega⟩ (by omega) | exact TPU.bad (by assumption) (by assumption) ⟨by omega, by omega, by omega, by omega⟩ (by assumption) (by omega))⟩⟩
        ·
          refine GO.iconst dX8_put_34 ?_
          refine GO.goto (tgt := 39) dX8_put_35 (by decide) ?_
          refine GO.istore (ls1 := [some (.ref x), some (ti p0), some (ti p1), some (ti p2), some (ti z6), some (ti 1)]) dX8_put_39 rfl rfl ?_
          refine GO.iload dX8_put_41 rfl ?_
          refine GO.if_eq (tgt := 69) dX8_put_43 (by decide) (ir_c rfl) (fun h => by exfalso; omega) (fun c21 => ?_)
          refine GO.iload dX8_put_46 rfl ?_
          refine GO.if_lt (tgt := 69) dX8_put_48 (by decide) r7 (fun c22 => ?_) (fun c22 => ?_)
          ·
            exact GO.retv rfl rfl dX8_put_69 ⟨rfl, rfl, ⟨trivial, (by first | exact TPU.in (by assumption) (by assumption) ⟨by omega, by omega, by omega, by omega⟩ (by assumption) | exact TPU.out (by omega) | exact TPU.neg (by assumption) (by assumption) ⟨by omega, by omega, by omega, by omega⟩ (by omega) | exact TPU.bad (by assumption) (by assumption) ⟨by omega, by omega, by omega, by omega⟩ (by assumption) (by omega))⟩⟩
          ·
            refine GO.iload dX8_put_51 rfl ?_
            refine GO.aload_n dX8_put_53 rfl rfl ?_
            refine GO.getA (n := 16) h_x fl_RX8_27_k24 rfl rfl rfl rfl dX8_put_54 (fun hv24 h23 => ?_)
            refine GO.alen h23 dX8_put_57 (fun h25 => ?_)
            refine GO.icmp_ge (tgt := 69) dX8_put_58 (by decide) r7 ⟨by omega, by omega⟩ (fun c26 => ?_) (fun c26 => ?_)
            ·
              exact GO.retv rfl rfl dX8_put_69 ⟨rfl, rfl, ⟨trivial, (by first | exact TPU.in (by assumption) (by assumption) ⟨by omega, by omega, by omega, by omega⟩ (by assumption) | exact TPU.out (by omega) | exact TPU.neg (by assumption) (by assumption) ⟨by omega, by omega, by omega, by omega⟩ (by omega) | exact TPU.bad (by assumption) (by assumption) ⟨by omega, by omega, by omega, by omega⟩ (by assumption) (by omega))⟩⟩
            ·
              refine GO.aload_n dX8_put_61 rfl rfl ?_
              refine GO.getRaw h_x fl_RX8_27_k24 hv24 dX8_put_62 ?_
              refine GO.iload dX8_put_65 rfl ?_
              refine GO.iload_n dX8_put_67 rfl rfl ?_
              have q29 : -2147483648 ≤ z6 ∧ z6 ≤ 2147483647 := r7
              refine GO.iast (t := 146) rfl rfl (by decide +kernel) h23 r7 (by omega) (by omega) r_p2 (r_p2).1 (r_p2).2 dX8_put_68 (fun V31 e30 => ?_)
              exact GO.retv rfl rfl dX8_put_69 ⟨rfl, rfl, ⟨trivial, (by first | exact TPU.in (by assumption) (by assumption) ⟨by omega, by omega, by omega, by omega⟩ (by assumption) | exact TPU.out (by omega) | exact TPU.neg (by assumption) (by assumption) ⟨by omega, by omega, by omega, by omega⟩ (by omega) | exact TPU.bad (by assumption) (by assumption) ⟨by omega, by omega, by omega, by omega⟩ (by assumption) (by omega))⟩⟩

set_option maxHeartbeats 1000000 in
theorem t_X8_append_k24 {K : Kmap} {V : Vmap} {x : Nat} {p0 : Int} {p1 : Int} {p2 : Int} {p3 : Int} {p4 : Int} (h_x : K x = some (0, 24)) (r_p0 : ir p0) (r_p1 : ir p1) (r_p2 : ir p2) (r_p3 : ir p3) (r_p4 : ir p4) : MC mX8_append_k24 K V [.ref x, ti p0, ti p1, ti p2, ti p3, ti p4] (IS K (fun X V1 => (X ≥ (-2147483648) ∧ X ≤ 2147483647) ∧ (APP K V V1 x p0 p1 p2 p3 p4 X))) := by
  refine MC.start 1 (by decide +kernel) rfl rfl rfl (ls0 := [some (.ref x), some (ti p0), some (ti p1), some (ti p2), some (ti p3), some (ti p4), none]) rfl ?_
  refine GO.aload_n dX8_append_0 rfl rfl ?_
  refine GO.callV (ci := 24) (N := mX8_isFull_k24) dX8_append_1 (RX8, TX8, 4) rfl gV_RX8_31 h_x (t_X8_isFull_k24 h_x) rfl [] rfl rfl (Nat.le_of_ble_eq_true rfl) rfl (k_ip fun X1 r2 h3 => ?_)
  refine GO.if_eq (tgt := 9) dX8_append_4 (by decide) r2 (fun c4 => ?_) (fun c4 => ?_)
  ·
    have q5 := h3.2.2 (by omega)
    refine GO.aload_n dX8_append_9 rfl rfl ?_
    refine GO.getI h_x fl_RX8_9_k24 rfl rfl dX8_append_10 (fun l6 u7 => ?_)
    refine GO.name (fun z8 hz9 => ?_)
    have r10 : ir z8 := hz9 ▸ vi_ir
    refine GO.istore (ls1 := [some (.ref x), some (ti p0), some (ti p1), some (ti p2), some (ti p3), some (ti p4), some (ti z8)]) dX8_append_13 rfl rfl ?_
    refine GO.aload_n dX8_append_15 rfl rfl ?_
    refine GO.dup dX8_append_16 rfl ?_
    refine GO.getI h_x fl_RX8_9_k24 rfl rfl dX8_append_17 (fun l11 u12 => ?_)
    refine GO.iconst dX8_append_20 ?_
    refine GO.iadd dX8_append_21 ?_
    have q14 : -2147483648 ≤ vi V x 3 ∧ vi V x 3 ≤ 2147483647 := vi_ir
    have q15 : -2147483648 ≤ z8 ∧ z8 ≤ 2147483647 := r10
    have q16 : -2147483648 ≤ vi V x 1 ∧ vi V x 1 ≤ 2147483647 := vi_ir
    refine GO.putI h_x fp_RX8_9_k24 rfl (by decide +kernel) ⟨by omega, by omega⟩ (by omega) (by omega) dX8_append_22 (fun V17 e13 => ?_)
    refine GO.aload_n dX8_append_25 rfl rfl ?_
    refine GO.iload dX8_append_26 rfl ?_
    refine GO.iconst dX8_append_28 ?_
    refine GO.iload_n dX8_append_29 rfl rfl ?_
    refine GO.callV (ci := 24) (N := mX8_put_k24) dX8_append_30 (RX8, TX8, 4) rfl gV_RX8_35 h_x (t_X8_put_k24 h_x r10 (ir_c rfl) r_p0) rfl [] rfl rfl (Nat.le_of_ble_eq_true rfl) rfl (k_vs fun V20 h19 hF18 => ?_)
    have raw_put := h19.2
    have rw30 := h19.2
    refine GO.aload_n dX8_append_33 rfl rfl ?_
    refine GO.iload dX8_append_34 rfl ?_
    refine GO.iconst dX8_append_36 ?_
    refine GO.iload_n dX8_append_37 rfl rfl ?_
    refine GO.callV (ci := 24) (N := mX8_put_k24) dX8_append_38 (RX8, TX8, 4) rfl gV_RX8_35 h_x (t_X8_put_k24 h_x r10 (ir_c rfl) r_p1) rfl [] rfl rfl (Nat.le_of_ble_eq_true rfl) rfl (k_vs fun V23 h22 hF21 => ?_)
    have raw_put := h22.2
    have rw38 := h22.2
    refine GO.aload_n dX8_append_41 rfl rfl ?_
    refine GO.iload dX8_append_42 rfl ?_
    refine GO.iconst dX8_append_44 ?_
    refine GO.iload_n dX8_append_45 rfl rfl ?_
    refine GO.callV (ci := 24) (N := mX8_put_k24) dX8_append_46 (RX8, TX8, 4) rfl gV_RX8_35 h_x (t_X8_put_k24 h_x r10 (ir_c rfl) r_p2) rfl [] rfl rfl (Nat.le_of_ble_eq_true rfl) rfl (k_vs fun V26 h25 hF24 => ?_)
    have raw_put := h25.2
    have rw46 := h25.2
    refine GO.aload_n dX8_append_49 rfl rfl ?_
    refine GO.iload dX8_append_50 rfl ?_
    refine GO.iconst dX8_append_52 ?_
    refine GO.iload dX8_append_53 rfl ?_
    refine GO.callV (ci := 24) (N := mX8_put_k24) dX8_append_55 (RX8, TX8, 4) rfl gV_RX8_35 h_x (t_X8_put_k24 h_x r10 (ir_c rfl) r_p3) rfl [] rfl rfl (Nat.le_of_ble_eq_true rfl) rfl (k_vs fun V29 h28 hF27 => ?_)
    have raw_put := h28.2
    have rw55 := h28.2
    refine GO.aload_n dX8_append_58 rfl rfl ?_
    refine GO.iload dX8_append_59 rfl ?_
    refine GO.iconst dX8_append_61 ?_
    refine GO.iload dX8_append_62 rfl ?_
    refine GO.callV (ci := 24) (N := mX8_put_k24) dX8_append_64 (RX8, TX8, 4) rfl gV_RX8_35 h_x (t_X8_put_k24 h_x r10 (ir_c rfl) r_p4) rfl [] rfl rfl (Nat.le_of_ble_eq_true rfl) rfl (k_vs fun V32 h31 hF30 => ?_)
    have raw_put := h31.2
    have rw64 := h31.2
    refine GO.iload dX8_append_67 rfl ?_
    exact GO.reti rfl rfl dX8_append_69 ⟨rfl, _, rfl, r10, ⟨(by first | exact trivial | omega), (by first | exact APP.no (by omega) rfl | exact APP.yes h_x (by omega) (by omega) (by assumption) rfl ⟨by omega, by omega⟩ rw30 rw38 rw46 rw55 rw64)⟩⟩
  ·
    have q33 := h3.2.1 (by omega)
    refine GO.iconst dX8_append_7 ?_
    exact GO.reti rfl rfl dX8_append_8 ⟨rfl, _, rfl, (ir_c rfl), ⟨(by first | exact trivial | omega), (by first | exact APP.no (by omega) rfl)⟩⟩
