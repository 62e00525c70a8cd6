def mX12_sledgeGoes : MRec := (RX12, cX12_sledgeGoes, 3, (none : Option Jvm.ClassFile.FieldType), yX12_sledgeGoes, 0, 0, 0, 0, 2348542582773833227905394940354450199924654780874729146298649412766395545550161892364635350189694456413814784)
def mX12_people : MRec := (RX12, cX12_people, 3, (some .boolean), yX12_people, 3, 64, 0, 0, 7957171782556586274486115970349133441607298412757563479047423630290551952200534008528896)
def mX12_hide : MRec := (RX12, cX12_hide, 3, (some .boolean), yX12_hide, 3, 64, 0, 0, 47743030695339517646916695822094800649643790476545380874284541781743311713203204051173376)
def mX12_declare : MRec := (RX12, cX12_declare, 4, (some .boolean), yX12_declare, 2, 43, 0, 0, 763888491125432282350667133153516810394300647624726093988552668507892987411251264818774016)
def mX12_visit : MRec := (RX12, cX12_visit, 3, (some .int), yX12_visit, 3, 64, 0, 0, 145609640131977660129147797000938895697292318038897850213136864403616836287335125514680281362389979041374404608)
def mX12_seen : MRec := (RX12, cX12_seen, 3, (some .int), yX12_seen, 0, 0, 0, 0, 0)
def mX12_sounds : MRec := (RX12, cX12_sounds, 3, (none : Option Jvm.ClassFile.FieldType), yX12_sounds, 2, 44, 0, 0, 1018517988167243043134222844204689080525734196832968125318070224677190649881668353091698688)
def mX12_sureOf : MRec := (RX12, cX12_sureOf, 8, (some .int), yX12_sureOf, 0, 0, 0, 0, 0)
set_option maxHeartbeats 1000000 in
theorem t_X12_sledgeGoes {K : Kmap} {V : Vmap} {x : Nat} {p0 : Int} (h_x : K x = some (0, 11)) (r_p0 : ir p0) (q_0 : p0 ≥ 0) (q_1 : p0 ≤ 39) : MC mX12_sledgeGoes K V [.ref x, ti p0] (VS K (fun V1 => (True) ∧ (MSLG V V1 x p0))) := by
  refine MC.start 1 (by decide +kernel) rfl rfl rfl (ls0 := [some (.ref x), some (ti p0), none]) rfl ?_
  refine GO.useWT (fun hW1 => ?_)
  have ak2 := hW1.arr h_x 20 22 (by decide) rfl (by decide)
  have ak3 := hW1.arr h_x 111 89 (by decide) rfl (by decide)
  refine GO.useWT (fun hW_0 => ?_)
  refine GO.aload_n dX12_sledgeGoes_0 rfl rfl ?_
  refine GO.getA (n := 40) h_x fl_RX12_259 rfl rfl rfl rfl dX12_sledgeGoes_1 (fun hv5 h4 => ?_)
  refine GO.iload_n dX12_sledgeGoes_4 rfl rfl ?_
  have q6 : -2147483648 ≤ p0 ∧ p0 ≤ 2147483647 := r_p0
  refine GO.zald (t := 89) rfl rfl h4 r_p0 (by omega) (by omega) dX12_sledgeGoes_5 (fun l7 u8 => ?_)
  refine GO.if_eq (tgt := 22) dX12_sledgeGoes_6 (by decide) vi_ir (fun c9 => ?_) (fun c9 => ?_)
  ·
    exact GO.retv rfl rfl dX12_sledgeGoes_22 ⟨rfl, rfl, ⟨trivial, (by first | exact MSLG.no (by omega))⟩⟩
  ·
    refine GO.aload_n dX12_sledgeGoes_9 rfl rfl ?_
    refine GO.getI h_x fl_RX12_396 rfl rfl dX12_sledgeGoes_10 (fun l10 u11 => ?_)
    refine GO.aload_n dX12_sledgeGoes_13 rfl rfl ?_
    refine GO.getA (n := 40) h_x fl_RX12_256 rfl rfl rfl rfl dX12_sledgeGoes_14 (fun hv13 h12 => ?_)
    refine GO.iload_n dX12_sledgeGoes_17 rfl rfl ?_
    refine GO.iald (t := 88) rfl rfl h12 r_p0 (by omega) (by omega) dX12_sledgeGoes_18 (fun _ _ => ?_)
    refine GO.icmp_ge (tgt := 23) dX12_sledgeGoes_19 (by decide) vi_ir vi_ir (fun c14 => ?_) (fun c14 => ?_)
    ·
      refine GO.aload_n dX12_sledgeGoes_23 rfl rfl ?_
      refine GO.getRaw h_x fl_RX12_259 hv5 dX12_sledgeGoes_24 ?_
      refine GO.iload_n dX12_sledgeGoes_27 rfl rfl ?_
      refine GO.iconst dX12_sledgeGoes_28 ?_
      refine GO.zast (t := 89) rfl rfl (by decide +kernel) h4 r_p0 (by omega) (by omega) (by omega) (by omega) (by omega) dX12_sledgeGoes_29 (fun V18 e17 => ?_)
      have ak19 := tk_oth e17 ak2 h_x h4 (by decide) (by decide) (rfl : ar 20 V x = ar 20 V x)
      have ak20 := tk_put e17 ak3 h_x (vq_of hv5) ⟨by omega, by omega⟩ (rfl : ar 111 V x = ar 111 V x)
      refine GO.useFR (fun hFs => ?_)
      have hsz : MSZ V V18 x := (MSZ.fr hFs ext.rf hW_0 h_x (by decide +kernel))
      have e20 := ak19.2
      refine GO.aload_n dX12_sledgeGoes_30 rfl rfl ?_
      refine GO.getA (n := 40) h_x fl_RX12_247 rfl rfl rfl rfl dX12_sledgeGoes_31 (fun hv22 h21 => ?_)
      refine GO.iload_n dX12_sledgeGoes_34 rfl rfl ?_
      refine GO.iald (t := 85) rfl rfl h21 r_p0 (by omega) (by omega) dX12_sledgeGoes_35 (fun l23 u24 => ?_)
      refine GO.name (fun z26 hz27 => ?_)
      have r28 : ir z26 := hz27 ▸ vi_ir
      refine GO.istore_n (ls1 := [some (.ref x), some (ti p0), some (ti z26)]) dX12_sledgeGoes_36 rfl rfl rfl ?_
      refine GO.aload_n dX12_sledgeGoes_37 rfl rfl ?_
      refine GO.getA (n := 60) h_x fl_RX12_80 rfl rfl rfl rfl dX12_sledgeGoes_38 (fun hv30 h29 => ?_)
      refine GO.iload_n dX12_sledgeGoes_41 rfl rfl ?_
      refine GO.zald (t := 30) rfl rfl h29 r28 (by omega) (by omega) dX12_sledgeGoes_42 (fun l31 u32 => ?_)
      refine GO.if_ne (tgt := 61) dX12_sledgeGoes_43 (by decide) vi_ir (fun c34 => ?_) (fun c34 => ?_)
      ·
        refine GO.aload_n dX12_sledgeGoes_61 rfl rfl ?_
        refine GO.aload_n dX12_sledgeGoes_62 rfl rfl ?_
        refine GO.getL h_x fl_RX12_657 rfl rfl dX12_sledgeGoes_63 ?_
        refine GO.anyL (fun z35 => ?_)
        refine GO.aload_n dX12_sledgeGoes_66 rfl rfl ?_
        refine GO.getA (n := 40) h_x fl_RX12_253 rfl rfl rfl rfl dX12_sledgeGoes_67 (fun hv37 h36 => ?_)
        refine GO.iload_n dX12_sledgeGoes_70 rfl rfl ?_
        refine GO.iald (t := 87) rfl rfl h36 r_p0 (by omega) (by omega) dX12_sledgeGoes_71 (fun _ _ => ?_)
        refine GO.i2l dX12_sledgeGoes_72 ?_
        refine GO.anyL (fun z39 => ?_)
        refine GO.ladd dX12_sledgeGoes_73 ?_
        refine GO.anyL (fun z40 => ?_)
        refine GO.putL h_x fp_RX12_657 rfl (by decide +kernel) dX12_sledgeGoes_74 (fun V42 e41 => ?_)
        have ak43 := tk_fld e41 ak19.1 h_x (by decide) ak19.2
        have ak44 := tk_fld e41 ak20.1 h_x (by decide) ak20.2
        refine GO.goto (tgt := 99) dX12_sledgeGoes_77 (by decide) ?_
        refine GO.useFR (fun hFs => ?_)
        exact GO.retv rfl rfl dX12_sledgeGoes_99 ⟨rfl, rfl, ⟨trivial, (by first | exact MSLG.no (by omega) | exact MSLG.lo (MOK.ns (by assumption) hsz (by first | exact Or.inl (by omega) | exact Or.inr (by omega))) (by omega) (by omega) (MSZ.fr hFs ext.rf hW_0 h_x (by decide +kernel)) ak44.2 (by omega) ak43.2 | exact MSLG.ok (by assumption) hsz (by omega) (by omega) (by omega) (by omega) (MSZ.fr hFs ext.rf hW_0 h_x (by decide +kernel)) ak44.2 (by omega) ak43.2 (by omega) e20 (by assumption))⟩⟩
      ·
        refine GO.aload_n dX12_sledgeGoes_46 rfl rfl ?_
        refine GO.getA (n := 60) h_x fl_RX12_41 rfl rfl rfl rfl dX12_sledgeGoes_47 (fun hv46 h45 => ?_)
        refine GO.iload_n dX12_sledgeGoes_50 rfl rfl ?_
        refine GO.iald (t := 17) rfl rfl h45 r28 (by omega) (by omega) dX12_sledgeGoes_51 (fun l47 u48 => ?_)
        refine GO.aload_n dX12_sledgeGoes_52 rfl rfl ?_
        refine GO.getA (n := 40) h_x fl_RX12_250 rfl rfl rfl rfl dX12_sledgeGoes_53 (fun hv51 h50 => ?_)
        refine GO.iload_n dX12_sledgeGoes_56 rfl rfl ?_
        refine GO.iald (t := 86) rfl rfl h50 r_p0 (by omega) (by omega) dX12_sledgeGoes_57 (fun _ _ => ?_)
        refine GO.icmp_eq (tgt := 80) dX12_sledgeGoes_58 (by decide) vi_ir vi_ir (fun c53 => ?_) (fun c53 => ?_)
        ·
          refine GO.aload_n dX12_sledgeGoes_80 rfl rfl ?_
          refine GO.getA (n := 60) h_x fl_RX12_56 rfl rfl rfl rfl dX12_sledgeGoes_81 (fun hv55 h54 => ?_)
          refine GO.iload_n dX12_sledgeGoes_84 rfl rfl ?_
          refine GO.aload_n dX12_sledgeGoes_85 rfl rfl ?_
          refine GO.getRaw h_x fl_RX12_56 hv55 dX12_sledgeGoes_86 ?_
          refine GO.iload_n dX12_sledgeGoes_89 rfl rfl ?_
          refine GO.iald (t := 22) rfl rfl h54 r28 (by omega) (by omega) dX12_sledgeGoes_90 (fun _ _ => ?_)
          refine GO.aload_n dX12_sledgeGoes_91 rfl rfl ?_
          refine GO.getA (n := 40) h_x fl_RX12_253 rfl rfl rfl rfl dX12_sledgeGoes_92 (fun hv60 h59 => ?_)
          refine GO.iload_n dX12_sledgeGoes_95 rfl rfl ?_
          refine GO.iald (t := 87) rfl rfl h59 r_p0 (by omega) (by omega) dX12_sledgeGoes_96 (fun _ _ => ?_)
          refine GO.iadd dX12_sledgeGoes_97 ?_
          refine GO.norm2 (fun z62 r63 hn64 hw65 => ?_)
          refine GO.iast (t := 22) rfl rfl (by decide +kernel) h54 r28 (by omega) (by omega) r63 (r63).1 (r63).2 dX12_sledgeGoes_98 (fun V67 e66 => ?_)
          have ak68 := tk_put e66 ak19.1 h_x (vq_of hv55) r63 ak19.2
          have ak69 := tk_oth e66 ak20.1 h_x h54 (by decide) (by decide) ak20.2
          refine GO.useFR (fun hFs => ?_)
          exact GO.retv rfl rfl dX12_sledgeGoes_99 ⟨rfl, rfl, ⟨trivial, (by first | exact MSLG.no (by omega) | exact MSLG.lo (MOK.ns (by assumption) hsz (by first | exact Or.inl (by omega) | exact Or.inr (by omega))) (by omega) (by omega) (MSZ.fr hFs ext.rf hW_0 h_x (by decide +kernel)) ak69.2 (by omega) ak68.2 | exact MSLG.ok (by assumption) hsz (by omega) (by omega) (by omega) (by omega) (MSZ.fr hFs ext.rf hW_0 h_x (by decide +kernel)) ak69.2 (by omega) ak68.2 (by omega) e20 (by assumption))⟩⟩
        ·
          refine GO.aload_n dX12_sledgeGoes_61 rfl rfl ?_
          refine GO.aload_n dX12_sledgeGoes_62 rfl rfl ?_
          refine GO.getL h_x fl_RX12_657 rfl rfl dX12_sledgeGoes_63 ?_
          refine GO.anyL (fun z70 => ?_)
          refine GO.aload_n dX12_sledgeGoes_66 rfl rfl ?_
          refine GO.getA (n := 40) h_x fl_RX12_253 rfl rfl rfl rfl dX12_sledgeGoes_67 (fun hv72 h71 => ?_)
          refine GO.iload_n dX12_sledgeGoes_70 rfl rfl ?_
          refine GO.iald (t := 87) rfl rfl h71 r_p0 (by omega) (by omega) dX12_sledgeGoes_71 (fun _ _ => ?_)
          refine GO.i2l dX12_sledgeGoes_72 ?_
          refine GO.anyL (fun z74 => ?_)
          refine GO.ladd dX12_sledgeGoes_73 ?_
          refine GO.anyL (fun z75 => ?_)
          refine GO.putL h_x fp_RX12_657 rfl (by decide +kernel) dX12_sledgeGoes_74 (fun V77 e76 => ?_)
          have ak78 := tk_fld e76 ak19.1 h_x (by decide) ak19.2
          have ak79 := tk_fld e76 ak20.1 h_x (by decide) ak20.2
          refine GO.goto (tgt := 99) dX12_sledgeGoes_77 (by decide) ?_
          refine GO.useFR (fun hFs => ?_)
          exact GO.retv rfl rfl dX12_sledgeGoes_99 ⟨rfl, rfl, ⟨trivial, (by first | exact MSLG.no (by omega) | exact MSLG.lo (MOK.ns (by assumption) hsz (by first | exact Or.inl (by omega) | exact Or.inr (by omega))) (by omega) (by omega) (MSZ.fr hFs ext.rf hW_0 h_x (by decide +kernel)) ak79.2 (by omega) ak78.2 | exact MSLG.ok (by assumption) hsz (by omega) (by omega) (by omega) (by omega) (MSZ.fr hFs ext.rf hW_0 h_x (by decide +kernel)) ak79.2 (by omega) ak78.2 (by omega) e20 (by assumption))⟩⟩
    ·
      exact GO.retv rfl rfl dX12_sledgeGoes_22 ⟨rfl, rfl, ⟨trivial, (by first | exact MSLG.no (by omega))⟩⟩

set_option maxHeartbeats 1000000 in
theorem t_X12_people {K : Kmap} {V : Vmap} {x : Nat} {p0 : Int} {p1 : Int} (h_x : K x = some (0, 11)) (r_p0 : ir p0) (r_p1 : ir p1) : MC mX12_people K V [.ref x, ti p0, ti p1] (IS K (fun X V1 => (X = 0 ∨ X = 1) ∧ (X ≠ 0 → True) ∧ (X = 0 → True) ∧ (MCS V V1 x p0 X (ped p1) (pef p1)))) := by
  refine MC.start 0 (by decide +kernel) rfl rfl rfl (ls0 := [some (.ref x), some (ti p0), some (ti p1)]) rfl ?_
  refine GO.useWT (fun hW1 => ?_)
  have ak2 := hW1.arr h_x 19 21 (by decide) rfl (by decide)
  refine GO.useWT (fun hW_0 => ?_)
  refine GO.aload_n dX12_people_0 rfl rfl ?_
  refine GO.iload_n dX12_people_1 rfl rfl ?_
  refine GO.callV (ci := 11) (N := mX12_stands) dX12_people_2 (RX12, TX12, 151) rfl gV_RX12_433 h_x (t_X12_stands h_x r_p0) rfl [] rfl rfl (Nat.le_of_ble_eq_true rfl) rfl (k_ip fun X3 r4 h5 => ?_)
  have raw_stands := h5.2.2.2
  have rw2 := h5.2.2.2
  refine GO.if_eq (tgt := 39) dX12_people_5 (by decide) r4 (fun c6 => ?_) (fun c6 => ?_)
  ·
    refine GO.iconst dX12_people_39 ?_
    exact GO.retz rfl rfl dX12_people_40 (Or.inl rfl) ⟨rfl, _, rfl, (ir_c rfl), ⟨Or.inl rfl, fun _ => trivial, fun _ => trivial, (by first | exact MCS.ns rw2 (by omega) rfl | exact MCS.np (PED.n1 (by omega)) rfl | exact MCS.np (PED.m2 (by omega) (by omega) (by omega)) rfl)⟩⟩
  ·
    have q7 := h5.2.1 (by omega)
    refine GO.iload_n dX12_people_8 rfl rfl ?_
    refine GO.sipush dX12_people_9 rfl ?_
    refine GO.sipush dX12_people_12 rfl ?_
    refine GO.callS (N := mX12_in) dX12_people_15 gS_RX12_371 (t_X12_in r_p1 (ir_c rfl) (ir_c rfl)) rfl [] rfl rfl (Nat.le_of_ble_eq_true rfl) rfl (k_ip fun X8 r9 h10 => ?_)
    have raw_in := h10.2.2.2
    have rw15 := h10.2.2.2
    refine GO.if_eq (tgt := 39) dX12_people_18 (by decide) r9 (fun c11 => ?_) (fun c11 => ?_)
    ·
      have q12 := h10.2.2.1 (by omega)
      refine GO.iconst dX12_people_39 ?_
      exact GO.retz rfl rfl dX12_people_40 (Or.inl rfl) ⟨rfl, _, rfl, (ir_c rfl), ⟨Or.inl rfl, fun _ => trivial, fun _ => trivial, (by first | exact MCS.ns rw2 (by omega) rfl | exact MCS.np (PED.n1 (by omega)) rfl | exact MCS.np (PED.m2 (by omega) (by omega) (by omega)) rfl)⟩⟩
    ·
      have q13 := h10.2.1 (by omega)
      refine GO.aload_n dX12_people_21 rfl rfl ?_
      refine GO.getA (n := 60) h_x fl_RX12_53 rfl rfl rfl rfl dX12_people_22 (fun hv15 h14 => ?_)
      refine GO.iload_n dX12_people_25 rfl rfl ?_
      have q16 : -2147483648 ≤ p0 ∧ p0 ≤ 2147483647 := r_p0
      refine GO.iald (t := 21) rfl rfl h14 r_p0 (by omega) (by omega) dX12_people_26 (fun l17 u18 => ?_)
      refine GO.iload_n dX12_people_27 rfl rfl ?_
      refine GO.iadd dX12_people_28 ?_
      refine GO.iconst dX12_people_29 ?_
      refine GO.sipush dX12_people_30 rfl ?_
      have q19 : -2147483648 ≤ p1 ∧ p1 ≤ 2147483647 := r_p1
      refine GO.callS (N := mX12_in) dX12_people_33 gS_RX12_371 (t_X12_in ⟨by omega, by omega⟩ (ir_c rfl) (ir_c rfl)) rfl [] rfl rfl (Nat.le_of_ble_eq_true rfl) rfl (k_ip fun X20 r21 h22 => ?_)
      have raw_in := h22.2.2.2
      have rw33 := h22.2.2.2
      refine GO.if_ne (tgt := 41) dX12_people_36 (by decide) r21 (fun c23 => ?_) (fun c23 => ?_)
      ·
        have q24 := h22.2.1 (by omega)
        refine GO.aload_n dX12_people_41 rfl rfl ?_
        refine GO.getRaw h_x fl_RX12_53 hv15 dX12_people_42 ?_
        refine GO.iload_n dX12_people_45 rfl rfl ?_
        refine GO.aload_n dX12_people_46 rfl rfl ?_
        refine GO.getRaw h_x fl_RX12_53 hv15 dX12_people_47 ?_
        refine GO.iload_n dX12_people_50 rfl rfl ?_
        refine GO.iald (t := 21) rfl rfl h14 r_p0 (by omega) (by omega) dX12_people_51 (fun l29 u30 => ?_)
        refine GO.iload_n dX12_people_52 rfl rfl ?_
        refine GO.iadd dX12_people_53 ?_
        refine GO.iast (t := 21) rfl rfl (by decide +kernel) h14 r_p0 (by omega) (by omega) ⟨by omega, by omega⟩ (by omega) (by omega) dX12_people_54 (fun V32 e31 => ?_)
        have ak33 := tk_put e31 ak2 h_x (vq_of hv15) ⟨by omega, by omega⟩ (rfl : ar 19 V x = ar 19 V x)
        refine GO.useFR (fun hFs => ?_)
        refine GO.iconst dX12_people_55 ?_
        exact GO.retz rfl rfl dX12_people_56 (Or.inr rfl) ⟨rfl, _, rfl, (ir_c rfl), ⟨Or.inr rfl, fun _ => trivial, fun _ => trivial, (by first | exact MCS.ns rw2 (by omega) rfl | exact MCS.np (PED.n1 (by omega)) rfl | exact MCS.np (PED.m2 (by omega) (by omega) (by omega)) rfl | exact MCS.ok rw2 (by omega) (PED.my (by omega) (by omega) (by omega)) rfl (PEM.mk ak33.2 (by omega) (by omega) (by omega) (by omega) (arq hFs ext.rf h_x (hW_0.ref h_x (j := 20) (Nat.le_of_ble_eq_true rfl) rfl).2 (by decide +kernel) (by decide +kernel)) (arq hFs ext.rf h_x (hW_0.ref h_x (j := 21) (Nat.le_of_ble_eq_true rfl) rfl).2 (by decide +kernel) (by decide +kernel)) (arq hFs ext.rf h_x (hW_0.ref h_x (j := 22) (Nat.le_of_ble_eq_true rfl) rfl).2 (by decide +kernel) (by decide +kernel)) (arq hFs ext.rf h_x (hW_0.ref h_x (j := 23) (Nat.le_of_ble_eq_true rfl) rfl).2 (by decide +kernel) (by decide +kernel)) (arq hFs ext.rf h_x (hW_0.ref h_x (j := 28) (Nat.le_of_ble_eq_true rfl) rfl).2 (by decide +kernel) (by decide +kernel))))⟩⟩
      ·
        have q34 := h22.2.2.1 (by omega)
        refine GO.iconst dX12_people_39 ?_
        exact GO.retz rfl rfl dX12_people_40 (Or.inl rfl) ⟨rfl, _, rfl, (ir_c rfl), ⟨Or.inl rfl, fun _ => trivial, fun _ => trivial, (by first | exact MCS.ns rw2 (by omega) rfl | exact MCS.np (PED.n1 (by omega)) rfl | exact MCS.np (PED.m2 (by omega) (by omega) (by omega)) rfl)⟩⟩

set_option maxHeartbeats 1000000 in
theorem t_X12_hide {K : Kmap} {V : Vmap} {x : Nat} {p0 : Int} {p1 : Int} (h_x : K x = some (0, 11)) (r_p0 : ir p0) (r_p1 : ir p1) : MC mX12_hide K V [.ref x, ti p0, ti p1] (IS K (fun X V1 => (X = 0 ∨ X = 1) ∧ (X ≠ 0 → True) ∧ (X = 0 → True) ∧ (MCS V V1 x p0 X (hid p1) (hif p1)))) := by
  refine MC.start 0 (by decide +kernel) rfl rfl rfl (ls0 := [some (.ref x), some (ti p0), some (ti p1)]) rfl ?_
  refine GO.useWT (fun hW1 => ?_)
  have ak2 := hW1.arr h_x 20 22 (by decide) rfl (by decide)
  have ak3 := hW1.arr h_x 21 23 (by decide) rfl (by decide)
  refine GO.useWT (fun hW_0 => ?_)
  refine GO.aload_n dX12_hide_0 rfl rfl ?_
  refine GO.iload_n dX12_hide_1 rfl rfl ?_
  refine GO.callV (ci := 11) (N := mX12_stands) dX12_hide_2 (RX12, TX12, 151) rfl gV_RX12_433 h_x (t_X12_stands h_x r_p0) rfl [] rfl rfl (Nat.le_of_ble_eq_true rfl) rfl (k_ip fun X4 r5 h6 => ?_)
  have raw_stands := h6.2.2.2
  have rw2 := h6.2.2.2
  refine GO.if_eq (tgt := 29) dX12_hide_5 (by decide) r5 (fun c7 => ?_) (fun c7 => ?_)
  ·
    refine GO.iconst dX12_hide_29 ?_
    exact GO.retz rfl rfl dX12_hide_30 (Or.inl rfl) ⟨rfl, _, rfl, (ir_c rfl), ⟨Or.inl rfl, fun _ => trivial, fun _ => trivial, (by first | exact MCS.ns rw2 (by omega) rfl | exact MCS.np (HID.m1 (by omega)) rfl | exact MCS.np (HID.m2 (by assumption) (by omega)) rfl)⟩⟩
  ·
    have q8 := h6.2.1 (by omega)
    refine GO.iload_n dX12_hide_8 rfl rfl ?_
    refine GO.aload_n dX12_hide_9 rfl rfl ?_
    refine GO.getA (n := 60) h_x fl_RX12_56 rfl rfl rfl rfl dX12_hide_10 (fun hv10 h9 => ?_)
    refine GO.iload_n dX12_hide_13 rfl rfl ?_
    have q11 : -2147483648 ≤ p0 ∧ p0 ≤ 2147483647 := r_p0
    refine GO.iald (t := 22) rfl rfl h9 r_p0 (by omega) (by omega) dX12_hide_14 (fun _ _ => ?_)
    refine GO.icmp_gt (tgt := 29) dX12_hide_15 (by decide) r_p1 vi_ir (fun c12 => ?_) (fun c12 => ?_)
    ·
      refine GO.iconst dX12_hide_29 ?_
      exact GO.retz rfl rfl dX12_hide_30 (Or.inl rfl) ⟨rfl, _, rfl, (ir_c rfl), ⟨Or.inl rfl, fun _ => trivial, fun _ => trivial, (by first | exact MCS.ns rw2 (by omega) rfl | exact MCS.np (HID.m1 (by omega)) rfl | exact MCS.np (HID.m2 (by assumption) (by omega)) rfl)⟩⟩
    ·
      refine GO.iload_n dX12_hide_18 rfl rfl ?_
      refine GO.aload_n dX12_hide_19 rfl rfl ?_
      refine GO.getA (n := 60) h_x fl_RX12_59 rfl rfl rfl rfl dX12_hide_20 (fun hv14 h13 => ?_)
      refine GO.iload_n dX12_hide_23 rfl rfl ?_
      refine GO.iald (t := 23) rfl rfl h13 r_p0 (by omega) (by omega) dX12_hide_24 (fun _ _ => ?_)
      refine GO.ineg dX12_hide_25 ?_
      refine GO.norm2 (fun z15 r16 hn17 hw18 => ?_)
      refine GO.icmp_ge (tgt := 31) dX12_hide_26 (by decide) r_p1 r16 (fun c19 => ?_) (fun c19 => ?_)
      ·
        refine GO.aload_n dX12_hide_31 rfl rfl ?_
        refine GO.getRaw h_x fl_RX12_56 hv10 dX12_hide_32 ?_
        refine GO.iload_n dX12_hide_35 rfl rfl ?_
        refine GO.aload_n dX12_hide_36 rfl rfl ?_
        refine GO.getRaw h_x fl_RX12_56 hv10 dX12_hide_37 ?_
        refine GO.iload_n dX12_hide_40 rfl rfl ?_
        refine GO.iald (t := 22) rfl rfl h9 r_p0 (by omega) (by omega) dX12_hide_41 (fun _ _ => ?_)
        refine GO.iload_n dX12_hide_42 rfl rfl ?_
        refine GO.isub dX12_hide_43 ?_
        refine GO.norm2 (fun z24 r25 hn26 hw27 => ?_)
        refine GO.iast (t := 22) rfl rfl (by decide +kernel) h9 r_p0 (by omega) (by omega) r25 (r25).1 (r25).2 dX12_hide_44 (fun V29 e28 => ?_)
        have ak30 := tk_put e28 ak2 h_x (vq_of hv10) r25 (rfl : ar 20 V x = ar 20 V x)
        have ak31 := tk_oth e28 ak3 h_x h9 (by decide) (by decide) (rfl : ar 21 V x = ar 21 V x)
        refine GO.aload_n dX12_hide_45 rfl rfl ?_
        refine GO.getRaw h_x fl_RX12_59 (Eq.trans (uq_ne e28 (Or.inl (K_ne h_x h9 (by decide)))) hv14) dX12_hide_46 ?_
        refine GO.iload_n dX12_hide_49 rfl rfl ?_
        refine GO.aload_n dX12_hide_50 rfl rfl ?_
        refine GO.getRaw h_x fl_RX12_59 (Eq.trans (uq_ne e28 (Or.inl (K_ne h_x h9 (by decide)))) hv14) dX12_hide_51 ?_
        refine GO.iload_n dX12_hide_54 rfl rfl ?_
        refine GO.iald (t := 23) rfl rfl h13 r_p0 (by omega) (by omega) dX12_hide_55 (fun _ _ => ?_)
        have e36 : vi V29 (vq V x 21) (p0).toNat = vi V (vq V x 21) (p0).toNat := vi_up e28 (Or.inl (K_ne h13 h9 (by decide)))
        have e21 := ak31.2
        refine GO.iload_n dX12_hide_56 rfl rfl ?_
        refine GO.iadd dX12_hide_57 ?_
        refine GO.norm2 (fun z37 r38 hn39 hw40 => ?_)
        refine GO.iast (t := 23) rfl rfl (by decide +kernel) h13 r_p0 (by omega) (by omega) r38 (r38).1 (r38).2 dX12_hide_58 (fun V42 e41 => ?_)
        have ak43 := tk_oth e41 ak30.1 h_x h13 (by decide) (by decide) ak30.2
        have ak44 := tk_put e41 ak31.1 h_x (vq_of (Eq.trans (uq_ne e28 (Or.inl (K_ne h_x h9 (by decide)))) hv14)) r38 ak31.2
        refine GO.useFR (fun hFs => ?_)
        refine GO.iconst dX12_hide_59 ?_
        exact GO.retz rfl rfl dX12_hide_60 (Or.inr rfl) ⟨rfl, _, rfl, (ir_c rfl), ⟨Or.inr rfl, fun _ => trivial, fun _ => trivial, (by first | exact MCS.ns rw2 (by omega) rfl | exact MCS.np (HID.m1 (by omega)) rfl | exact MCS.np (HID.m2 (by assumption) (by omega)) rfl | exact MCS.ok rw2 (by omega) (HID.my (by omega) (by assumption) (by omega)) rfl (HIM.mk ak43.2 (by omega) (by assumption) ak44.2 (by omega) (by assumption) (by assumption) (arq hFs ext.rf h_x (hW_0.ref h_x (j := 19) (Nat.le_of_ble_eq_true rfl) rfl).2 (by decide +kernel) (by decide +kernel)) (arq hFs ext.rf h_x (hW_0.ref h_x (j := 22) (Nat.le_of_ble_eq_true rfl) rfl).2 (by decide +kernel) (by decide +kernel)) (arq hFs ext.rf h_x (hW_0.ref h_x (j := 23) (Nat.le_of_ble_eq_true rfl) rfl).2 (by decide +kernel) (by decide +kernel)) (arq hFs ext.rf h_x (hW_0.ref h_x (j := 28) (Nat.le_of_ble_eq_true rfl) rfl).2 (by decide +kernel) (by decide +kernel))))⟩⟩
      ·
        refine GO.iconst dX12_hide_29 ?_
        exact GO.retz rfl rfl dX12_hide_30 (Or.inl rfl) ⟨rfl, _, rfl, (ir_c rfl), ⟨Or.inl rfl, fun _ => trivial, fun _ => trivial, (by first | exact MCS.ns rw2 (by omega) rfl | exact MCS.np (HID.m1 (by omega)) rfl | exact MCS.np (HID.m2 (by assumption) (by omega)) rfl)⟩⟩

set_option maxHeartbeats 1000000 in
theorem t_X12_declare {K : Kmap} {V : Vmap} {x : Nat} {p0 : Int} {p1 : Int} {p2 : Int} (h_x : K x = some (0, 11)) (r_p0 : ir p0) (r_p1 : ir p1) (r_p2 : ir p2) : MC mX12_declare K V [.ref x, ti p0, ti p1, ti p2] (IS K (fun X V1 => (X = 0 ∨ X = 1) ∧ (X ≠ 0 → True) ∧ (X = 0 → True) ∧ (MKN V x p0 1 (0 ≤ p1 ∧ p1 ≤ 500 ∧ 0 ≤ p2 ∧ p2 ≤ 1000000) X))) := by
  refine MC.start 0 (by decide +kernel) rfl rfl rfl (ls0 := [some (.ref x), some (ti p0), some (ti p1), some (ti p2)]) rfl ?_
  refine GO.aload_n dX12_declare_0 rfl rfl ?_
  refine GO.iload_n dX12_declare_1 rfl rfl ?_
  refine GO.callV (ci := 11) (N := mX12_isStation) dX12_declare_2 (RX12, TX12, 151) rfl gV_RX12_403 h_x (t_X12_isStation h_x r_p0) rfl [] rfl rfl (Nat.le_of_ble_eq_true rfl) rfl (k_ip fun X1 r2 h3 => ?_)
  have raw_isStation := h3.2.2.2
  have rw2 := h3.2.2.2
  refine GO.if_eq (tgt := 30) dX12_declare_5 (by decide) r2 (fun c4 => ?_) (fun c4 => ?_)
  ·
    refine GO.iconst dX12_declare_30 ?_
    exact GO.retz rfl rfl dX12_declare_31 (Or.inl rfl) ⟨rfl, _, rfl, (ir_c rfl), ⟨Or.inl rfl, fun _ => trivial, fun _ => trivial, (by first | exact MKN.nk rw2 (by omega) rfl | exact MKN.np (by omega) rfl | exact MKN.ok rw2 (by omega) ⟨by omega, by omega, by omega, by omega⟩ (by omega))⟩⟩
  ·
    have q5 := h3.2.1 (by omega)
    refine GO.iload_n dX12_declare_8 rfl rfl ?_
    refine GO.iconst dX12_declare_9 ?_
    refine GO.sipush dX12_declare_10 rfl ?_
    refine GO.callS (N := mX12_in) dX12_declare_13 gS_RX12_371 (t_X12_in r_p1 (ir_c rfl) (ir_c rfl)) rfl [] rfl rfl (Nat.le_of_ble_eq_true rfl) rfl (k_ip fun X6 r7 h8 => ?_)
    have raw_in := h8.2.2.2
    have rw13 := h8.2.2.2
    refine GO.if_eq (tgt := 30) dX12_declare_16 (by decide) r7 (fun c9 => ?_) (fun c9 => ?_)
    ·
      have q10 := h8.2.2.1 (by omega)
      refine GO.iconst dX12_declare_30 ?_
      exact GO.retz rfl rfl dX12_declare_31 (Or.inl rfl) ⟨rfl, _, rfl, (ir_c rfl), ⟨Or.inl rfl, fun _ => trivial, fun _ => trivial, (by first | exact MKN.nk rw2 (by omega) rfl | exact MKN.np (by omega) rfl | exact MKN.ok rw2 (by omega) ⟨by omega, by omega, by omega, by omega⟩ (by omega))⟩⟩
    ·
      have q11 := h8.2.1 (by omega)
      refine GO.iload_n dX12_declare_19 rfl rfl ?_
      refine GO.iconst dX12_declare_20 ?_
      refine GO.ldcw (X := 1000000) dX12_declare_21 gw_2291 rfl ?_
      refine GO.callS (N := mX12_in) dX12_declare_24 gS_RX12_371 (t_X12_in r_p2 (ir_c rfl) (ir_c rfl)) rfl [] rfl rfl (Nat.le_of_ble_eq_true rfl) rfl (k_ip fun X12 r13 h14 => ?_)
      have raw_in := h14.2.2.2
      have rw24 := h14.2.2.2
      refine GO.if_ne (tgt := 32) dX12_declare_27 (by decide) r13 (fun c15 => ?_) (fun c15 => ?_)
      ·
        have q16 := h14.2.1 (by omega)
        refine GO.aload_n dX12_declare_32 rfl rfl ?_
        refine GO.getA (n := 60) h_x fl_RX12_68 rfl rfl rfl rfl dX12_declare_33 (fun hv18 h17 => ?_)
        refine GO.iload_n dX12_declare_36 rfl rfl ?_
        refine GO.iload_n dX12_declare_37 rfl rfl ?_
        have q19 : -2147483648 ≤ p0 ∧ p0 ≤ 2147483647 := r_p0
        refine GO.iast (t := 26) rfl rfl (by decide +kernel) h17 r_p0 (by omega) (by omega) r_p1 (r_p1).1 (r_p1).2 dX12_declare_38 (fun V21 e20 => ?_)
        refine GO.aload_n dX12_declare_39 rfl rfl ?_
        refine GO.getA (n := 60) h_x fl_RX12_71 rfl rfl rfl rfl dX12_declare_40 (fun hv23 h22 => ?_)
        refine GO.iload_n dX12_declare_43 rfl rfl ?_
        refine GO.iload_n dX12_declare_44 rfl rfl ?_
        refine GO.iast (t := 27) rfl rfl (by decide +kernel) h22 r_p0 (by omega) (by omega) r_p2 (r_p2).1 (r_p2).2 dX12_declare_45 (fun V25 e24 => ?_)
        refine GO.iconst dX12_declare_46 ?_
        exact GO.retz rfl rfl dX12_declare_47 (Or.inr rfl) ⟨rfl, _, rfl, (ir_c rfl), ⟨Or.inr rfl, fun _ => trivial, fun _ => trivial, (by first | exact MKN.nk rw2 (by omega) rfl | exact MKN.np (by omega) rfl | exact MKN.ok rw2 (by omega) ⟨by omega, by omega, by omega, by omega⟩ (by omega))⟩⟩
      ·
        have q26 := h14.2.2.1 (by omega)
        refine GO.iconst dX12_declare_30 ?_
        exact GO.retz rfl rfl dX12_declare_31 (Or.inl rfl) ⟨rfl, _, rfl, (ir_c rfl), ⟨Or.inl rfl, fun _ => trivial, fun _ => trivial, (by first | exact MKN.nk rw2 (by omega) rfl | exact MKN.np (by omega) rfl | exact MKN.ok rw2 (by omega) ⟨by omega, by omega, by omega, by omega⟩ (by omega))⟩⟩

set_option maxHeartbeats 1000000 in
theorem t_X12_visit {K : Kmap} {V : Vmap} {x : Nat} {p0 : Int} {p1 : Int} (h_x : K x = some (0, 11)) (r_p0 : ir p0) (r_p1 : ir p1) : MC mX12_visit K V [.ref x, ti p0, ti p1] (IS K (fun X V1 => True)) := by
  refine MC.start 0 (by decide +kernel) rfl rfl rfl (ls0 := [some (.ref x), some (ti p0), some (ti p1)]) rfl ?_
  refine GO.aload_n dX12_visit_0 rfl rfl ?_
  refine GO.iload_n dX12_visit_1 rfl rfl ?_
  refine GO.callV (ci := 11) (N := mX12_isParty) dX12_visit_2 (RX12, TX12, 151) rfl gV_RX12_406 h_x (t_X12_isParty h_x r_p0) rfl [] rfl rfl (Nat.le_of_ble_eq_true rfl) rfl (k_ip fun X1 r2 h3 => ?_)
  refine GO.if_eq (tgt := 47) dX12_visit_5 (by decide) r2 (fun c4 => ?_) (fun c4 => ?_)
  ·
    have q5 := h3.2.2 (by omega)
    refine GO.iconst dX12_visit_47 ?_
    exact GO.reti rfl rfl dX12_visit_48 ⟨rfl, _, rfl, (ir_c rfl), trivial⟩
  ·
    have q6 := h3.2.1 (by omega)
    refine GO.aload_n dX12_visit_8 rfl rfl ?_
    refine GO.iload_n dX12_visit_9 rfl rfl ?_
    refine GO.callV (ci := 11) (N := mX12_stands) dX12_visit_10 (RX12, TX12, 151) rfl gV_RX12_433 h_x (t_X12_stands h_x r_p1) rfl [] rfl rfl (Nat.le_of_ble_eq_true rfl) rfl (k_ip fun X7 r8 h9 => ?_)
    have raw_stands := h9.2.2.2
    have rw10 := h9.2.2.2
    refine GO.if_eq (tgt := 47) dX12_visit_13 (by decide) r8 (fun c10 => ?_) (fun c10 => ?_)
    ·
      refine GO.iconst dX12_visit_47 ?_
      exact GO.reti rfl rfl dX12_visit_48 ⟨rfl, _, rfl, (ir_c rfl), trivial⟩
    ·
      have q11 := h9.2.1 (by omega)
      refine GO.aload_n dX12_visit_16 rfl rfl ?_
      refine GO.getA (n := 60) h_x fl_RX12_38 rfl rfl rfl rfl dX12_visit_17 (fun hv13 h12 => ?_)
      refine GO.iload_n dX12_visit_20 rfl rfl ?_
      have q14 : -2147483648 ≤ p1 ∧ p1 ≤ 2147483647 := r_p1
      refine GO.iald (t := 16) rfl rfl h12 r_p1 (by omega) (by omega) dX12_visit_21 (fun l15 u16 => ?_)
      refine GO.iload_n dX12_visit_22 rfl rfl ?_
      refine GO.icmp_eq (tgt := 47) dX12_visit_23 (by decide) vi_ir r_p0 (fun c17 => ?_) (fun c17 => ?_)
      ·
        refine GO.iconst dX12_visit_47 ?_
        exact GO.reti rfl rfl dX12_visit_48 ⟨rfl, _, rfl, (ir_c rfl), trivial⟩
      ·
        refine GO.aload_n dX12_visit_26 rfl rfl ?_
        refine GO.iload_n dX12_visit_27 rfl rfl ?_
        refine GO.aload_n dX12_visit_28 rfl rfl ?_
        refine GO.getI h_x fl_RX12_396 rfl rfl dX12_visit_29 (fun l18 u19 => ?_)
        have q20 : -2147483648 ≤ p0 ∧ p0 ≤ 2147483647 := r_p0
        have q21 : -2147483648 ≤ vi V x 9 ∧ vi V x 9 ≤ 2147483647 := vi_ir
        refine GO.callV (ci := 11) (N := mX12_decidesOn) dX12_visit_32 (RX12, TX12, 151) rfl gV_RX12_412 h_x (t_X12_decidesOn h_x r_p0 vi_ir (by omega) (by omega)) rfl [] rfl rfl (Nat.le_of_ble_eq_true rfl) rfl (k_ip fun X22 r23 h24 => ?_)
        refine GO.if_eq (tgt := 47) dX12_visit_35 (by decide) r23 (fun c25 => ?_) (fun c25 => ?_)
        ·
          refine GO.iconst dX12_visit_47 ?_
          exact GO.reti rfl rfl dX12_visit_48 ⟨rfl, _, rfl, (ir_c rfl), trivial⟩
        ·
          refine GO.aload_n dX12_visit_38 rfl rfl ?_
          refine GO.getI h_x fl_RX12_660 rfl rfl dX12_visit_39 (fun l26 u27 => ?_)
          refine GO.bipush dX12_visit_42 rfl ?_
          refine GO.icmp_ne (tgt := 49) dX12_visit_44 (by decide) vi_ir (ir_c rfl) (fun c28 => ?_) (fun c28 => ?_)
          ·
            refine GO.aload_n dX12_visit_49 rfl rfl ?_
            refine GO.getA (n := 60) h_x fl_RX12_262 rfl rfl rfl rfl dX12_visit_50 (fun hv30 h29 => ?_)
            refine GO.aload_n dX12_visit_53 rfl rfl ?_
            refine GO.getI h_x fl_RX12_660 rfl rfl dX12_visit_54 (fun l31 u32 => ?_)
            refine GO.iload_n dX12_visit_57 rfl rfl ?_
            refine GO.iast (t := 90) rfl rfl (by decide +kernel) h29 vi_ir (by omega) (by omega) r_p0 (r_p0).1 (r_p0).2 dX12_visit_58 (fun V34 e33 => ?_)
            refine GO.aload_n dX12_visit_59 rfl rfl ?_
            refine GO.getA (n := 60) h_x fl_RX12_265 rfl rfl rfl rfl dX12_visit_60 (fun hv36 h35 => ?_)
            refine GO.aload_n dX12_visit_63 rfl rfl ?_
            refine GO.getI h_x fl_RX12_660 rfl rfl dX12_visit_64 (fun l37 u38 => ?_)
            have e39 : vi V34 x 93 = vi V x 93 := vi_up e33 (Or.inl (K_ne h_x h29 (by decide)))
            refine GO.iload_n dX12_visit_67 rfl rfl ?_
            refine GO.iast (t := 91) rfl rfl (by decide +kernel) h35 vi_ir (by omega) (by omega) r_p1 (r_p1).1 (r_p1).2 dX12_visit_68 (fun V41 e40 => ?_)
            refine GO.aload_n dX12_visit_69 rfl rfl ?_
            refine GO.getA (n := 60) h_x fl_RX12_268 rfl rfl rfl rfl dX12_visit_70 (fun hv43 h42 => ?_)
            refine GO.aload_n dX12_visit_73 rfl rfl ?_
            refine GO.getI h_x fl_RX12_660 rfl rfl dX12_visit_74 (fun l44 u45 => ?_)
            have e46 : vi V41 x 93 = vi V34 x 93 := vi_up e40 (Or.inl (K_ne h_x h35 (by decide)))
            refine GO.aload_n dX12_visit_77 rfl rfl ?_
            refine GO.getI h_x fl_RX12_396 rfl rfl dX12_visit_78 (fun l47 u48 => ?_)
            have e50 : vi V34 x 2 = vi V x 2 := vi_up e33 (Or.inl (K_ne h_x h29 (by decide)))
            have e49 : vi V41 x 2 = vi V34 x 2 := vi_up e40 (Or.inl (K_ne h_x h35 (by decide)))
            refine GO.iast (t := 92) rfl rfl (by decide +kernel) h42 vi_ir (by omega) (by omega) vi_ir (vi_ir).1 (vi_ir).2 dX12_visit_81 (fun V52 e51 => ?_)
            refine GO.aload_n dX12_visit_82 rfl rfl ?_
            refine GO.getA (n := 60) h_x fl_RX12_271 rfl rfl rfl rfl dX12_visit_83 (fun hv54 h53 => ?_)
            refine GO.aload_n dX12_visit_86 rfl rfl ?_
            refine GO.getI h_x fl_RX12_660 rfl rfl dX12_visit_87 (fun l55 u56 => ?_)
            have e57 : vi V52 x 93 = vi V41 x 93 := vi_up e51 (Or.inl (K_ne h_x h42 (by decide)))
            refine GO.aload_n dX12_visit_90 rfl rfl ?_
            refine GO.getA (n := 60) h_x fl_RX12_53 rfl rfl rfl rfl dX12_visit_91 (fun hv59 h58 => ?_)
            refine GO.iload_n dX12_visit_94 rfl rfl ?_
            refine GO.iald (t := 21) rfl rfl h58 r_p1 (by omega) (by omega) dX12_visit_95 (fun l60 u61 => ?_)
            refine GO.aload_n dX12_visit_96 rfl rfl ?_
            refine GO.getA (n := 60) h_x fl_RX12_68 rfl rfl rfl rfl dX12_visit_97 (fun hv66 h65 => ?_)
            refine GO.iload_n dX12_visit_100 rfl rfl ?_
            refine GO.iald (t := 26) rfl rfl h65 r_p1 (by omega) (by omega) dX12_visit_101 (fun _ _ => ?_)
            refine GO.isub dX12_visit_102 ?_
            refine GO.norm2 (fun z70 r71 hn72 hw73 => ?_)
            refine GO.iast (t := 93) rfl rfl (by decide +kernel) h53 vi_ir (by omega) (by omega) r71 (r71).1 (r71).2 dX12_visit_103 (fun V75 e74 => ?_)
            refine GO.aload_n dX12_visit_104 rfl rfl ?_
            refine GO.getA (n := 60) h_x fl_RX12_274 rfl rfl rfl rfl dX12_visit_105 (fun hv77 h76 => ?_)
            refine GO.aload_n dX12_visit_108 rfl rfl ?_
            refine GO.getI h_x fl_RX12_660 rfl rfl dX12_visit_109 (fun l78 u79 => ?_)
            have e80 : vi V75 x 93 = vi V52 x 93 := vi_up e74 (Or.inl (K_ne h_x h53 (by decide)))
            refine GO.aload_n dX12_visit_112 rfl rfl ?_
            refine GO.getA (n := 60) h_x fl_RX12_56 rfl rfl rfl rfl dX12_visit_113 (fun hv82 h81 => ?_)
            refine GO.iload_n dX12_visit_116 rfl rfl ?_
            refine GO.iald (t := 22) rfl rfl h81 r_p1 (by omega) (by omega) dX12_visit_117 (fun _ _ => ?_)
            refine GO.aload_n dX12_visit_118 rfl rfl ?_
            refine GO.getA (n := 60) h_x fl_RX12_71 rfl rfl rfl rfl dX12_visit_119 (fun hv88 h87 => ?_)
            refine GO.iload_n dX12_visit_122 rfl rfl ?_
            refine GO.iald (t := 27) rfl rfl h87 r_p1 (by omega) (by omega) dX12_visit_123 (fun _ _ => ?_)
            refine GO.isub dX12_visit_124 ?_
            refine GO.norm2 (fun z93 r94 hn95 hw96 => ?_)
            refine GO.iast (t := 94) rfl rfl (by decide +kernel) h76 vi_ir (by omega) (by omega) r94 (r94).1 (r94).2 dX12_visit_125 (fun V98 e97 => ?_)
            refine GO.aload_n dX12_visit_126 rfl rfl ?_
            refine GO.aload_n dX12_visit_127 rfl rfl ?_
            refine GO.getI h_x fl_RX12_660 rfl rfl dX12_visit_128 (fun l99 u100 => ?_)
            have e101 : vi V98 x 93 = vi V75 x 93 := vi_up e97 (Or.inl (K_ne h_x h76 (by decide)))
            refine GO.iconst dX12_visit_131 ?_
            refine GO.iadd dX12_visit_132 ?_
            refine GO.putI h_x fp_RX12_660 rfl (by decide +kernel) ⟨by omega, by omega⟩ (by omega) (by omega) dX12_visit_133 (fun V103 e102 => ?_)
            refine GO.aload_n dX12_visit_136 rfl rfl ?_
            refine GO.getI h_x fl_RX12_660 rfl rfl dX12_visit_137 (fun l104 u105 => ?_)
            have e106 : vi V103 x 93 = (vi V98 x 93) + 1 := upd2_int e102 ⟨by omega, by omega⟩
            refine GO.iconst dX12_visit_140 ?_
            refine GO.isub dX12_visit_141 ?_
            exact GO.reti rfl rfl dX12_visit_142 ⟨rfl, _, rfl, ⟨by omega, by omega⟩, trivial⟩
          ·
            refine GO.iconst dX12_visit_47 ?_
            exact GO.reti rfl rfl dX12_visit_48 ⟨rfl, _, rfl, (ir_c rfl), trivial⟩

set_option maxHeartbeats 1000000 in
theorem t_X12_seen {K : Kmap} {V : Vmap} {x : Nat} {p0 : Int} {p1 : Int} (h_x : K x = some (0, 11)) (r_p0 : ir p0) (r_p1 : ir p1) : MC mX12_seen K V [.ref x, ti p0, ti p1] (IP K V (fun X => True)) := by
  refine MC.start 0 (by decide +kernel) rfl rfl rfl (ls0 := [some (.ref x), some (ti p0), some (ti p1)]) rfl ?_
  refine GO.iload_n dX12_seen_0 rfl rfl ?_
  refine GO.if_lt (tgt := 12) dX12_seen_1 (by decide) r_p0 (fun c1 => ?_) (fun c1 => ?_)
  ·
    refine GO.ldcw (X := (-1000000)) dX12_seen_12 gw_2322 rfl ?_
    exact GO.reti rfl rfl dX12_seen_15 ⟨rfl, rfl, _, rfl, (ir_c rfl), trivial⟩
  ·
    refine GO.iload_n dX12_seen_4 rfl rfl ?_
    refine GO.aload_n dX12_seen_5 rfl rfl ?_
    refine GO.getI h_x fl_RX12_660 rfl rfl dX12_seen_6 (fun l2 u3 => ?_)
    refine GO.icmp_lt (tgt := 16) dX12_seen_9 (by decide) r_p0 vi_ir (fun c4 => ?_) (fun c4 => ?_)
    ·
      refine GO.iload_n dX12_seen_16 rfl rfl ?_
      have q5 : -2147483648 ≤ p1 ∧ p1 ≤ 2147483647 := r_p1
      rcases (show (p1 < 0 ∨ 4 < p1) ∨ p1 = 0 ∨ p1 = 1 ∨ p1 = 2 ∨ p1 = 3 ∨ p1 = 4 by omega) with c6 | c6 | c6 | c6 | c6 | c6
      ·
        refine GO.tableOut (tgt := 87) dX12_seen_17 r_p1 c6 (by decide) ?_
        refine GO.ldcw (X := (-1000000)) dX12_seen_87 gw_2322 rfl ?_
        exact GO.reti rfl rfl dX12_seen_90 ⟨rfl, rfl, _, rfl, (ir_c rfl), trivial⟩
      ·
        refine GO.tableAt (n := 0) (tgt := 52) dX12_seen_17 (ir_c rfl) c6 (by decide) (by decide) rfl (by decide) ?_
        refine GO.aload_n dX12_seen_52 rfl rfl ?_
        refine GO.getA (n := 60) h_x fl_RX12_262 rfl rfl rfl rfl dX12_seen_53 (fun hv8 h7 => ?_)
        refine GO.iload_n dX12_seen_56 rfl rfl ?_
        have q9 : -2147483648 ≤ p0 ∧ p0 ≤ 2147483647 := r_p0
        refine GO.iald (t := 90) rfl rfl h7 r_p0 (by omega) (by omega) dX12_seen_57 (fun _ _ => ?_)
        have q10 : -2147483648 ≤ vi V (vq V x 112) (p0).toNat ∧ vi V (vq V x 112) (p0).toNat ≤ 2147483647 := vi_ir
        exact GO.reti rfl rfl dX12_seen_58 ⟨rfl, rfl, _, rfl, vi_ir, trivial⟩
      ·
        refine GO.tableAt (n := 1) (tgt := 59) dX12_seen_17 (ir_c rfl) c6 (by decide) (by decide) rfl (by decide) ?_
        refine GO.aload_n dX12_seen_59 rfl rfl ?_
        refine GO.getA (n := 60) h_x fl_RX12_265 rfl rfl rfl rfl dX12_seen_60 (fun hv12 h11 => ?_)
        refine GO.iload_n dX12_seen_63 rfl rfl ?_
        have q13 : -2147483648 ≤ p0 ∧ p0 ≤ 2147483647 := r_p0
        refine GO.iald (t := 91) rfl rfl h11 r_p0 (by omega) (by omega) dX12_seen_64 (fun _ _ => ?_)
        have q14 : -2147483648 ≤ vi V (vq V x 113) (p0).toNat ∧ vi V (vq V x 113) (p0).toNat ≤ 2147483647 := vi_ir
        exact GO.reti rfl rfl dX12_seen_65 ⟨rfl, rfl, _, rfl, vi_ir, trivial⟩
      ·
        refine GO.tableAt (n := 2) (tgt := 66) dX12_seen_17 (ir_c rfl) c6 (by decide) (by decide) rfl (by decide) ?_
        refine GO.aload_n dX12_seen_66 rfl rfl ?_
        refine GO.getA (n := 60) h_x fl_RX12_268 rfl rfl rfl rfl dX12_seen_67 (fun hv16 h15 => ?_)
        refine GO.iload_n dX12_seen_70 rfl rfl ?_
        have q17 : -2147483648 ≤ p0 ∧ p0 ≤ 2147483647 := r_p0
        refine GO.iald (t := 92) rfl rfl h15 r_p0 (by omega) (by omega) dX12_seen_71 (fun _ _ => ?_)
        have q18 : -2147483648 ≤ vi V (vq V x 114) (p0).toNat ∧ vi V (vq V x 114) (p0).toNat ≤ 2147483647 := vi_ir
        exact GO.reti rfl rfl dX12_seen_72 ⟨rfl, rfl, _, rfl, vi_ir, trivial⟩
      ·
        refine GO.tableAt (n := 3) (tgt := 73) dX12_seen_17 (ir_c rfl) c6 (by decide) (by decide) rfl (by decide) ?_
        refine GO.aload_n dX12_seen_73 rfl rfl ?_
        refine GO.getA (n := 60) h_x fl_RX12_271 rfl rfl rfl rfl dX12_seen_74 (fun hv20 h19 => ?_)
        refine GO.iload_n dX12_seen_77 rfl rfl ?_
        have q21 : -2147483648 ≤ p0 ∧ p0 ≤ 2147483647 := r_p0
        refine GO.iald (t := 93) rfl rfl h19 r_p0 (by omega) (by omega) dX12_seen_78 (fun _ _ => ?_)
        have q22 : -2147483648 ≤ vi V (vq V x 115) (p0).toNat ∧ vi V (vq V x 115) (p0).toNat ≤ 2147483647 := vi_ir
        exact GO.reti rfl rfl dX12_seen_79 ⟨rfl, rfl, _, rfl, vi_ir, trivial⟩
      ·
        refine GO.tableAt (n := 4) (tgt := 80) dX12_seen_17 (ir_c rfl) c6 (by decide) (by decide) rfl (by decide) ?_
        refine GO.aload_n dX12_seen_80 rfl rfl ?_
        refine GO.getA (n := 60) h_x fl_RX12_274 rfl rfl rfl rfl dX12_seen_81 (fun hv24 h23 => ?_)
        refine GO.iload_n dX12_seen_84 rfl rfl ?_
        have q25 : -2147483648 ≤ p0 ∧ p0 ≤ 2147483647 := r_p0
        refine GO.iald (t := 94) rfl rfl h23 r_p0 (by omega) (by omega) dX12_seen_85 (fun _ _ => ?_)
        have q26 : -2147483648 ≤ vi V (vq V x 116) (p0).toNat ∧ vi V (vq V x 116) (p0).toNat ≤ 2147483647 := vi_ir
        exact GO.reti rfl rfl dX12_seen_86 ⟨rfl, rfl, _, rfl, vi_ir, trivial⟩
    ·
      refine GO.ldcw (X := (-1000000)) dX12_seen_12 gw_2322 rfl ?_
      exact GO.reti rfl rfl dX12_seen_15 ⟨rfl, rfl, _, rfl, (ir_c rfl), trivial⟩

set_option maxHeartbeats 1000000 in
theorem t_X12_sounds {K : Kmap} {V : Vmap} {x : Nat} {p0 : Int} (h_x : K x = some (0, 11)) (r_p0 : ir p0) (q_0 : p0 ≥ 0) (q_1 : p0 ≤ 99) : MC mX12_sounds K V [.ref x, ti p0] (VS K (fun V1 => (True))) := by
  refine MC.start 1 (by decide +kernel) rfl rfl rfl (ls0 := [some (.ref x), some (ti p0), none]) rfl ?_
  refine GO.iconst dX12_sounds_0 ?_
  refine GO.istore_n (ls1 := [some (.ref x), some (ti p0), some (ti 0)]) dX12_sounds_1 rfl rfl rfl ?_
  refine GO.loop1 (fun i1 W => 0 ≤ i1 ∧ i1 ≤ 60 ∧ True) (fun i1 => [some (.ref x), some (ti p0), some (ti i1)]) (fun i1 W => (2147483647 - i1).toNat) 0 ⟨by omega, by omega, trivial⟩ rfl (fun i1 Wi1 hp435 ih434 => ?_)
  obtain ⟨l_i1, u_i1, -⟩ := hp435
  have r_i1 : ir i1 := ⟨by omega, by omega⟩
  show GO mX12_sounds K V (VS K (fun V1 => (True))) K Wi1 0 0 2 [some (.ref x), some (ti p0), some (ti i1)] []
  refine GO.iload_n dX12_sounds_2 rfl rfl ?_
  refine GO.aload_n dX12_sounds_3 rfl rfl ?_
  refine GO.getI h_x fl_RX12_375 rfl rfl dX12_sounds_4 (fun l436 u437 => ?_)
  refine GO.icmp_ge (tgt := 111) dX12_sounds_7 (by decide) r_i1 vi_ir (fun c438 => ?_) (fun c438 => ?_)
  ·
    exact GO.retv rfl rfl dX12_sounds_111 ⟨rfl, rfl, trivial⟩
  ·
    refine GO.aload_n dX12_sounds_10 rfl rfl ?_
    refine GO.getA (n := 60) h_x fl_RX12_35 rfl rfl rfl rfl dX12_sounds_11 (fun hv440 h439 => ?_)
    refine GO.iload_n dX12_sounds_14 rfl rfl ?_
    refine GO.iald (t := 15) rfl rfl h439 r_i1 (by omega) (by omega) dX12_sounds_15 (fun l441 u442 => ?_)
    refine GO.iconst dX12_sounds_16 ?_
    refine GO.icmp_ne (tgt := 105) dX12_sounds_17 (by decide) vi_ir (ir_c rfl) (fun c443 => ?_) (fun c443 => ?_)
    ·
      refine GO.iinc (X := i1) (n := 1) (Y := i1 + 1) (ls1 := [some (.ref x), some (ti p0), some (ti (i1 + 1))]) dX12_sounds_105 rfl rfl rfl rfl ?_
      refine GO.goto (tgt := 2) dX12_sounds_108 (by decide) ?_
      exact ih434 (i1 + 1) Wi1 ⟨by omega, by omega, trivial⟩ (by show (2147483647 - (i1 + 1)).toNat < (2147483647 - i1).toNat; omega)
    ·
      refine GO.aload_n dX12_sounds_20 rfl rfl ?_
      refine GO.aload_n dX12_sounds_21 rfl rfl ?_
      refine GO.getA (n := 60) h_x fl_RX12_41 rfl rfl rfl rfl dX12_sounds_22 (fun hv445 h444 => ?_)
      refine GO.iload_n dX12_sounds_25 rfl rfl ?_
      refine GO.iald (t := 17) rfl rfl h444 r_i1 (by omega) (by omega) dX12_sounds_26 (fun l446 u447 => ?_)
      refine GO.aload_n dX12_sounds_27 rfl rfl ?_
      refine GO.getA (n := 100) h_x fl_RX12_169 rfl rfl rfl rfl dX12_sounds_28 (fun hv449 h448 => ?_)
      refine GO.iload_n dX12_sounds_31 rfl rfl ?_
      have q450 : -2147483648 ≤ p0 ∧ p0 ≤ 2147483647 := r_p0
      refine GO.iald (t := 59) rfl rfl h448 r_p0 (by omega) (by omega) dX12_sounds_32 (fun l451 u452 => ?_)
      refine GO.callV (ci := 11) (N := mX12_far) dX12_sounds_33 (RX12, TX12, 151) rfl gV_RX12_389 h_x (t_X12_far h_x vi_ir vi_ir (by omega) (by omega) (by omega) (by omega)) rfl [] rfl rfl (Nat.le_of_ble_eq_true rfl) rfl (k_ip fun X453 r454 h455 => ?_)
      have raw_far := h455.2
      have rw33 := h455.2
      refine GO.iconst dX12_sounds_36 ?_
      refine GO.icmp_le (tgt := 43) dX12_sounds_37 (by decide) r454 (ir_c rfl) (fun c456 => ?_) (fun c456 => ?_)
      ·
        refine GO.aload_n dX12_sounds_43 rfl rfl ?_
        refine GO.getA (n := 600) h_x fl_RX12_74 rfl rfl rfl rfl dX12_sounds_44 (fun hv458 h457 => ?_)
        refine GO.bipush dX12_sounds_47 rfl ?_
        refine GO.iload_n dX12_sounds_49 rfl rfl ?_
        refine GO.imul dX12_sounds_50 ?_
        refine GO.aload_n dX12_sounds_51 rfl rfl ?_
        refine GO.getI h_x fl_RX12_396 rfl rfl dX12_sounds_52 (fun l459 u460 => ?_)
        refine GO.sipush dX12_sounds_55 rfl ?_
        refine GO.idivP dX12_sounds_58 vi_ir (ir_c rfl) (by omega) (by omega) ?_
        refine GO.iadd dX12_sounds_59 ?_
        refine GO.aload_n dX12_sounds_60 rfl rfl ?_
        refine GO.getRaw h_x fl_RX12_74 hv458 dX12_sounds_61 ?_
        refine GO.bipush dX12_sounds_64 rfl ?_
        refine GO.iload_n dX12_sounds_66 rfl rfl ?_
        refine GO.imul dX12_sounds_67 ?_
        refine GO.aload_n dX12_sounds_68 rfl rfl ?_
        refine GO.getI h_x fl_RX12_396 rfl rfl dX12_sounds_69 (fun l463 u464 => ?_)
        refine GO.sipush dX12_sounds_72 rfl ?_
        refine GO.idivP dX12_sounds_75 vi_ir (ir_c rfl) (by omega) (by omega) ?_
        refine GO.iadd dX12_sounds_76 ?_
        refine GO.iald (t := 28) rfl rfl h457 ⟨by omega, by omega⟩ (by omega) (by omega) dX12_sounds_77 (fun _ _ => ?_)
        refine GO.aload_n dX12_sounds_78 rfl rfl ?_
        refine GO.getA (n := 100) h_x fl_RX12_181 rfl rfl rfl rfl dX12_sounds_79 (fun hv466 h465 => ?_)
        refine GO.iload_n dX12_sounds_82 rfl rfl ?_
        refine GO.iald (t := 63) rfl rfl h465 r_p0 (by omega) (by omega) dX12_sounds_83 (fun _ _ => ?_)
        refine GO.aload_n dX12_sounds_84 rfl rfl ?_
        refine GO.aload_n dX12_sounds_85 rfl rfl ?_
        refine GO.getRaw h_x fl_RX12_41 hv445 dX12_sounds_86 ?_
        refine GO.iload_n dX12_sounds_89 rfl rfl ?_
        refine GO.iald (t := 17) rfl rfl h444 r_i1 (by omega) (by omega) dX12_sounds_90 (fun l469 u470 => ?_)
        refine GO.aload_n dX12_sounds_91 rfl rfl ?_
        refine GO.getRaw h_x fl_RX12_169 hv449 dX12_sounds_92 ?_
        refine GO.iload_n dX12_sounds_95 rfl rfl ?_
        refine GO.iald (t := 59) rfl rfl h448 r_p0 (by omega) (by omega) dX12_sounds_96 (fun l473 u474 => ?_)
        refine GO.callV (ci := 11) (N := mX12_far) dX12_sounds_97 (RX12, TX12, 151) rfl gV_RX12_389 h_x (t_X12_far h_x vi_ir vi_ir (by omega) (by omega) (by omega) (by omega)) rfl [ti (vi Wi1 (vq Wi1 x 73) (p0).toNat), ti (vi Wi1 (vq Wi1 x 26) ((10 * i1) + ((vi Wi1 x 2) / 360)).toNat), ti ((10 * i1) + ((vi Wi1 x 2) / 360)), .ref (vq Wi1 x 26)] rfl rfl (Nat.le_of_ble_eq_true rfl) rfl (k_ip fun X475 r476 h477 => ?_)
        have raw_far := h477.2
        have rw97 := h477.2
        refine GO.iconst dX12_sounds_100 ?_
        refine GO.iadd dX12_sounds_101 ?_
        refine GO.idiv dX12_sounds_102 ⟨by omega, by omega⟩ (by omega) ?_
        refine GO.iadd dX12_sounds_103 ?_
        refine GO.norm2 (fun z478 r479 hn480 hw481 => ?_)
        refine GO.iast (t := 28) rfl rfl (by decide +kernel) h457 ⟨by omega, by omega⟩ (by omega) (by omega) r479 (r479).1 (r479).2 dX12_sounds_104 (fun V483 e482 => ?_)
        refine GO.iinc (X := i1) (n := 1) (Y := i1 + 1) (ls1 := [some (.ref x), some (ti p0), some (ti (i1 + 1))]) dX12_sounds_105 rfl rfl rfl rfl ?_
        refine GO.goto (tgt := 2) dX12_sounds_108 (by decide) ?_
        exact ih434 (i1 + 1) V483 ⟨by omega, by omega, trivial⟩ (by show (2147483647 - (i1 + 1)).toNat < (2147483647 - i1).toNat; omega)
      ·
        refine GO.goto (tgt := 105) dX12_sounds_40 (by decide) ?_
        refine GO.iinc (X := i1) (n := 1) (Y := i1 + 1) (ls1 := [some (.ref x), some (ti p0), some (ti (i1 + 1))]) dX12_sounds_105 rfl rfl rfl rfl ?_
        refine GO.goto (tgt := 2) dX12_sounds_108 (by decide) ?_
        exact ih434 (i1 + 1) Wi1 ⟨by omega, by omega, trivial⟩ (by show (2147483647 - (i1 + 1)).toNat < (2147483647 - i1).toNat; omega)

set_option maxHeartbeats 1000000 in
theorem t_X12_sureOf {K : Kmap} {V : Vmap} {x : Nat} {p0 : Int} (h_x : K x = some (0, 11)) (r_p0 : ir p0) (q_0 : p0 ≥ 0) (q_1 : p0 ≤ 59) : MC mX12_sureOf K V [.ref x, ti p0] (IP K V (fun X => True)) := by
  refine MC.start 6 (by decide +kernel) rfl rfl rfl (ls0 := [some (.ref x), some (ti p0), none, none, none, none, none, none]) rfl ?_
  refine GO.aload_n dX12_sureOf_0 rfl rfl ?_
  refine GO.getA (n := 60) h_x fl_RX12_283 rfl rfl rfl rfl dX12_sureOf_1 (fun hv2 h1 => ?_)
  refine GO.iload_n dX12_sureOf_4 rfl rfl ?_
  have q3 : -2147483648 ≤ p0 ∧ p0 ≤ 2147483647 := r_p0
  refine GO.iald (t := 96) rfl rfl h1 r_p0 (by omega) (by omega) dX12_sureOf_5 (fun l4 u5 => ?_)
  refine GO.if_ne (tgt := 11) dX12_sureOf_6 (by decide) vi_ir (fun c6 => ?_) (fun c6 => ?_)
  ·
    refine GO.ldcw (X := (-1000000)) dX12_sureOf_11 gw_2322 rfl ?_
    refine GO.istore_n (ls1 := [some (.ref x), some (ti p0), some (ti (-1000000)), none, none, none, none, none]) dX12_sureOf_14 rfl rfl rfl ?_
    refine GO.ldcw (X := 1000000) dX12_sureOf_15 gw_2291 rfl ?_
    refine GO.istore_n (ls1 := [some (.ref x), some (ti p0), some (ti (-1000000)), some (ti 1000000), none, none, none, none]) dX12_sureOf_18 rfl rfl rfl ?_
    refine GO.ldcw (X := 1000000) dX12_sureOf_19 gw_2291 rfl ?_
    refine GO.istore (ls1 := [some (.ref x), some (ti p0), some (ti (-1000000)), some (ti 1000000), some (ti 1000000), none, none, none]) dX12_sureOf_22 rfl rfl ?_
    refine GO.bipush dX12_sureOf_24 rfl ?_
    refine GO.iload_n dX12_sureOf_26 rfl rfl ?_
    refine GO.imul dX12_sureOf_27 ?_
    refine GO.name (fun z7 hz8 => ?_)
    refine GO.istore (ls1 := [some (.ref x), some (ti p0), some (ti (-1000000)), some (ti 1000000), some (ti 1000000), some (ti z7), none, none]) dX12_sureOf_28 rfl rfl ?_
    refine GO.loop4 (fun i9 i10 i11 i12 W => (-1000000) ≤ i9 ∧ i9 ≤ 2147483647 ∧ (-2147483648) ≤ i10 ∧ i10 ≤ 1000000 ∧ (-2147483648) ≤ i11 ∧ i11 ≤ 1000000 ∧ 0 ≤ i12 ∧ i12 ≤ 480 ∧ V = W) (fun i9 i10 i11 i12 => [some (.ref x), some (ti p0), some (ti i9), some (ti i10), some (ti i11), some (ti i12), none, none]) (fun i9 i10 i11 i12 W => (2147483647 - i12).toNat) (-1000000) 1000000 1000000 z7 ⟨by omega, by omega, by omega, by omega, by omega, by omega, by omega, by omega, rfl⟩ rfl (fun i9 i10 i11 i12 V1128 hp1130 ih1129 => ?_)
    obtain ⟨l_i9, u_i9, l_i10, u_i10, l_i11, u_i11, l_i12, u_i12, rfl⟩ := hp1130
    have r_i9 : ir i9 := ⟨by omega, by omega⟩
    have r_i10 : ir i10 := ⟨by omega, by omega⟩
    have r_i11 : ir i11 := ⟨by omega, by omega⟩
    have r_i12 : ir i12 := ⟨by omega, by omega⟩
    show GO mX12_sureOf K V (IP K V (fun X => True)) K V 0 0 30 [some (.ref x), some (ti p0), some (ti i9), some (ti i10), some (ti i11), some (ti i12), none, none] []
    refine GO.iload dX12_sureOf_30 rfl ?_
    refine GO.bipush dX12_sureOf_32 rfl ?_
    refine GO.iload_n dX12_sureOf_34 rfl rfl ?_
    refine GO.imul dX12_sureOf_35 ?_
    refine GO.aload_n dX12_sureOf_36 rfl rfl ?_
    refine GO.getRaw h_x fl_RX12_283 hv2 dX12_sureOf_37 ?_
    refine GO.iload_n dX12_sureOf_40 rfl rfl ?_
    refine GO.iald (t := 96) rfl rfl h1 r_p0 (by omega) (by omega) dX12_sureOf_41 (fun l1133 u1134 => ?_)
    refine GO.iadd dX12_sureOf_42 ?_
    refine GO.icmp_ge (tgt := 128) dX12_sureOf_43 (by decide) r_i12 ⟨by omega, by omega⟩ (fun c1135 => ?_) (fun c1135 => ?_)
    ·
      refine GO.iload_n dX12_sureOf_128 rfl rfl ?_
      refine GO.iload dX12_sureOf_129 rfl ?_
      refine GO.icmp_gt (tgt := 138) dX12_sureOf_131 (by decide) r_i9 r_i11 (fun c1136 => ?_) (fun c1136 => ?_)
      ·
        refine GO.iload_n dX12_sureOf_138 rfl rfl ?_
        refine GO.istore (ls1 := [some (.ref x), some (ti p0), some (ti i9), some (ti i10), some (ti i11), some (ti i10), none, none]) dX12_sureOf_139 rfl rfl ?_
        refine GO.iload dX12_sureOf_141 rfl ?_
        refine GO.if_ge (tgt := 150) dX12_sureOf_143 (by decide) r_i10 (fun c1137 => ?_) (fun c1137 => ?_)
        ·
          refine GO.iload dX12_sureOf_150 rfl ?_
          exact GO.reti rfl rfl dX12_sureOf_152 ⟨rfl, rfl, _, rfl, r_i10, trivial⟩
        ·
          refine GO.iconst dX12_sureOf_146 ?_
          refine GO.goto (tgt := 152) dX12_sureOf_147 (by decide) ?_
          exact GO.reti rfl rfl dX12_sureOf_152 ⟨rfl, rfl, _, rfl, (ir_c rfl), trivial⟩
      ·
        refine GO.iload_n dX12_sureOf_134 rfl rfl ?_
        refine GO.goto (tgt := 139) dX12_sureOf_135 (by decide) ?_
        refine GO.istore (ls1 := [some (.ref x), some (ti p0), some (ti i9), some (ti i10), some (ti i11), some (ti i9), none, none]) dX12_sureOf_139 rfl rfl ?_
        refine GO.iload dX12_sureOf_141 rfl ?_
        refine GO.if_ge (tgt := 150) dX12_sureOf_143 (by decide) r_i9 (fun c1138 => ?_) (fun c1138 => ?_)
        ·
          refine GO.iload dX12_sureOf_150 rfl ?_
          exact GO.reti rfl rfl dX12_sureOf_152 ⟨rfl, rfl, _, rfl, r_i9, trivial⟩
        ·
          refine GO.iconst dX12_sureOf_146 ?_
          refine GO.goto (tgt := 152) dX12_sureOf_147 (by decide) ?_
          exact GO.reti rfl rfl dX12_sureOf_152 ⟨rfl, rfl, _, rfl, (ir_c rfl), trivial⟩
    ·
      refine GO.aload_n dX12_sureOf_46 rfl rfl ?_
      refine GO.getA (n := 480) h_x fl_RX12_286 rfl rfl rfl rfl dX12_sureOf_47 (fun hv1140 h1139 => ?_)
      refine GO.iload dX12_sureOf_50 rfl ?_
      refine GO.iald (t := 97) rfl rfl h1139 r_i12 (by omega) (by omega) dX12_sureOf_52 (fun _ _ => ?_)
      refine GO.aload_n dX12_sureOf_53 rfl rfl ?_
      refine GO.getA (n := 480) h_x fl_RX12_289 rfl rfl rfl rfl dX12_sureOf_54 (fun hv1142 h1141 => ?_)
      refine GO.iload dX12_sureOf_57 rfl ?_
      refine GO.iald (t := 98) rfl rfl h1141 r_i12 (by omega) (by omega) dX12_sureOf_59 (fun _ _ => ?_)
      refine GO.isub dX12_sureOf_60 ?_
      refine GO.norm2 (fun z1143 r1144 hn1145 hw1146 => ?_)
      refine GO.istore (ls1 := [some (.ref x), some (ti p0), some (ti i9), some (ti i10), some (ti i11), some (ti i12), some (ti z1143), none]) dX12_sureOf_61 rfl rfl ?_
      refine GO.aload_n dX12_sureOf_63 rfl rfl ?_
      refine GO.getRaw h_x fl_RX12_286 hv1140 dX12_sureOf_64 ?_
      refine GO.iload dX12_sureOf_67 rfl ?_
      refine GO.iald (t := 97) rfl rfl h1139 r_i12 (by omega) (by omega) dX12_sureOf_69 (fun _ _ => ?_)
      refine GO.aload_n dX12_sureOf_70 rfl rfl ?_
      refine GO.getRaw h_x fl_RX12_289 hv1142 dX12_sureOf_71 ?_
      refine GO.iload dX12_sureOf_74 rfl ?_
      refine GO.iald (t := 98) rfl rfl h1141 r_i12 (by omega) (by omega) dX12_sureOf_76 (fun _ _ => ?_)
      refine GO.iadd dX12_sureOf_77 ?_
      refine GO.norm2 (fun z1151 r1152 hn1153 hw1154 => ?_)
      refine GO.istore (ls1 := [some (.ref x), some (ti p0), some (ti i9), some (ti i10), some (ti i11), some (ti i12), some (ti z1143), some (ti z1151)]) dX12_sureOf_78 rfl rfl ?_
      refine GO.iload dX12_sureOf_80 rfl ?_
      refine GO.iload_n dX12_sureOf_82 rfl rfl ?_
      have hj1157 : ∀ (z1156 : Int), ∀ (l1158 : (-1000000) ≤ z1156), ∀ (u1159 : z1156 ≤ 2147483647), GO mX12_sureOf K V (IP K V (fun X => True)) K V 0 0 92 [some (.ref x), some (ti p0), some (ti i9), some (ti i10), some (ti i11), some (ti i12), some (ti z1143), some (ti z1151)] [ti z1156] := by
        intro z1156 l1158 u1159
        have r1160 : ir z1156 := ⟨by omega, by omega⟩
        refine GO.istore_n (ls1 := [some (.ref x), some (ti p0), some (ti z1156), some (ti i10), some (ti i11), some (ti i12), some (ti z1143), some (ti z1151)]) dX12_sureOf_92 rfl rfl rfl ?_
        refine GO.iload dX12_sureOf_93 rfl ?_
        refine GO.iload_n dX12_sureOf_95 rfl rfl ?_
        refine GO.icmp_ge (tgt := 104) dX12_sureOf_96 (by decide) r1144 r_i10 (fun c1161 => ?_) (fun c1161 => ?_)
        ·
          refine GO.iload_n dX12_sureOf_104 rfl rfl ?_
          refine GO.istore_n (ls1 := [some (.ref x), some (ti p0), some (ti z1156), some (ti i10), some (ti i11), some (ti i12), some (ti z1143), some (ti z1151)]) dX12_sureOf_105 rfl rfl rfl ?_
          refine GO.iload dX12_sureOf_106 rfl ?_
          refine GO.iload dX12_sureOf_108 rfl ?_
          refine GO.icmp_ge (tgt := 118) dX12_sureOf_110 (by decide) r1152 r_i11 (fun c1162 => ?_) (fun c1162 => ?_)
          ·
            refine GO.iload dX12_sureOf_118 rfl ?_
            refine GO.istore (ls1 := [some (.ref x), some (ti p0), some (ti z1156), some (ti i10), some (ti i11), some (ti i12), some (ti z1143), some (ti z1151)]) dX12_sureOf_120 rfl rfl ?_
            refine GO.iinc (X := i12) (n := 1) (Y := i12 + 1) (ls1 := [some (.ref x), some (ti p0), some (ti z1156), some (ti i10), some (ti i11), some (ti (i12 + 1)), some (ti z1143), some (ti z1151)]) dX12_sureOf_122 rfl rfl rfl rfl ?_
            refine GO.goto (tgt := 30) dX12_sureOf_125 (by decide) ?_
            refine GO.drop [true, true, true, true, true, true, false, false] rfl ?_
            have q1163 : -2147483648 ≤ z1151 ∧ z1151 ≤ 2147483647 := r1152
            have q1164 : -2147483648 ≤ z1143 ∧ z1143 ≤ 2147483647 := r1144
            exact ih1129 z1156 i10 i11 (i12 + 1) V ⟨by omega, by omega, by omega, by omega, by omega, by omega, by omega, by omega, rfl⟩ (by show (2147483647 - (i12 + 1)).toNat < (2147483647 - i12).toNat; omega)
          ·
            refine GO.iload dX12_sureOf_113 rfl ?_
            refine GO.goto (tgt := 120) dX12_sureOf_115 (by decide) ?_
            refine GO.istore (ls1 := [some (.ref x), some (ti p0), some (ti z1156), some (ti i10), some (ti z1151), some (ti i12), some (ti z1143), some (ti z1151)]) dX12_sureOf_120 rfl rfl ?_
            refine GO.iinc (X := i12) (n := 1) (Y := i12 + 1) (ls1 := [some (.ref x), some (ti p0), some (ti z1156), some (ti i10), some (ti z1151), some (ti (i12 + 1)), some (ti z1143), some (ti z1151)]) dX12_sureOf_122 rfl rfl rfl rfl ?_
            refine GO.goto (tgt := 30) dX12_sureOf_125 (by decide) ?_
            refine GO.drop [true, true, true, true, true, true, false, false] rfl ?_
            have q1165 : -2147483648 ≤ z1151 ∧ z1151 ≤ 2147483647 := r1152
            have q1166 : -2147483648 ≤ z1143 ∧ z1143 ≤ 2147483647 := r1144
            exact ih1129 z1156 i10 z1151 (i12 + 1) V ⟨by omega, by omega, by omega, by omega, by omega, by omega, by omega, by omega, rfl⟩ (by show (2147483647 - (i12 + 1)).toNat < (2147483647 - i12).toNat; omega)
        ·
          refine GO.iload dX12_sureOf_99 rfl ?_
          refine GO.goto (tgt := 105) dX12_sureOf_101 (by decide) ?_
          refine GO.istore_n (ls1 := [some (.ref x), some (ti p0), some (ti z1156), some (ti z1143), some (ti i11), some (ti i12), some (ti z1143), some (ti z1151)]) dX12_sureOf_105 rfl rfl rfl ?_
          refine GO.iload dX12_sureOf_106 rfl ?_
          refine GO.iload dX12_sureOf_108 rfl ?_
          refine GO.icmp_ge (tgt := 118) dX12_sureOf_110 (by decide) r1152 r_i11 (fun c1167 => ?_) (fun c1167 => ?_)
          ·
            refine GO.iload dX12_sureOf_118 rfl ?_
            refine GO.istore (ls1 := [some (.ref x), some (ti p0), some (ti z1156), some (ti z1143), some (ti i11), some (ti i12), some (ti z1143), some (ti z1151)]) dX12_sureOf_120 rfl rfl ?_
            refine GO.iinc (X := i12) (n := 1) (Y := i12 + 1) (ls1 := [some (.ref x), some (ti p0), some (ti z1156), some (ti z1143), some (ti i11), some (ti (i12 + 1)), some (ti z1143), some (ti z1151)]) dX12_sureOf_122 rfl rfl rfl rfl ?_
            refine GO.goto (tgt := 30) dX12_sureOf_125 (by decide) ?_
            refine GO.drop [true, true, true, true, true, true, false, false] rfl ?_
            have q1168 : -2147483648 ≤ z1151 ∧ z1151 ≤ 2147483647 := r1152
            have q1169 : -2147483648 ≤ z1143 ∧ z1143 ≤ 2147483647 := r1144
            exact ih1129 z1156 z1143 i11 (i12 + 1) V ⟨by omega, by omega, by omega, by omega, by omega, by omega, by omega, by omega, rfl⟩ (by show (2147483647 - (i12 + 1)).toNat < (2147483647 - i12).toNat; omega)
          ·
            refine GO.iload dX12_sureOf_113 rfl ?_
            refine GO.goto (tgt := 120) dX12_sureOf_115 (by decide) ?_
            refine GO.istore (ls1 := [some (.ref x), some (ti p0), some (ti z1156), some (ti z1143), some (ti z1151), some (ti i12), some (ti z1143), some (ti z1151)]) dX12_sureOf_120 rfl rfl ?_
            refine GO.iinc (X := i12) (n := 1) (Y := i12 + 1) (ls1 := [some (.ref x), some (ti p0), some (ti z1156), some (ti z1143), some (ti z1151), some (ti (i12 + 1)), some (ti z1143), some (ti z1151)]) dX12_sureOf_122 rfl rfl rfl rfl ?_
            refine GO.goto (tgt := 30) dX12_sureOf_125 (by decide) ?_
            refine GO.drop [true, true, true, true, true, true, false, false] rfl ?_
            have q1170 : -2147483648 ≤ z1151 ∧ z1151 ≤ 2147483647 := r1152
            have q1171 : -2147483648 ≤ z1143 ∧ z1143 ≤ 2147483647 := r1144
            exact ih1129 z1156 z1143 z1151 (i12 + 1) V ⟨by omega, by omega, by omega, by omega, by omega, by omega, by omega, by omega, rfl⟩ (by show (2147483647 - (i12 + 1)).toNat < (2147483647 - i12).toNat; omega)
      refine GO.icmp_le (tgt := 91) dX12_sureOf_83 (by decide) r1144 r_i9 (fun c1172 => ?_) (fun c1172 => ?_)
      ·
        refine GO.iload_n dX12_sureOf_91 rfl rfl ?_
        have q1173 : -2147483648 ≤ z1143 ∧ z1143 ≤ 2147483647 := r1144
        exact hj1157 i9 (by omega) (by omega)
      ·
        refine GO.iload dX12_sureOf_86 rfl ?_
        refine GO.goto (tgt := 92) dX12_sureOf_88 (by decide) ?_
        have q1174 : -2147483648 ≤ z1143 ∧ z1143 ≤ 2147483647 := r1144
        exact hj1157 z1143 (by omega) (by omega)
  ·
    refine GO.iconst dX12_sureOf_9 ?_
    exact GO.reti rfl rfl dX12_sureOf_10 ⟨rfl, rfl, _, rfl, (ir_c rfl), trivial⟩
