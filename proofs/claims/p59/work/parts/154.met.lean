def mX12_shipGoes : MRec := (RX12, cX12_shipGoes, 2, (none : Option Jvm.ClassFile.FieldType), yX12_shipGoes, 5, 112, 0, 0, 4443653568480763696975057570666346388543432595596103372762149162033388289529894187260058295704817238016000)
def mX12_goesOver : MRec := (RX12, cX12_goesOver, 7, (none : Option Jvm.ClassFile.FieldType), yX12_goesOver, 2, 47, 0, 0, 150306725297525326584926758194517569752043683130132471725266622178061377607334940381676735896625196994043838464)
def mX12_sledge : MRec := (RX12, cX12_sledge, 5, (some .int), yX12_sledge, 3, 73, 0, 0, 154857026551649628463978541194362023415133040303886904360641697038744821782306019398933883165117509493564899328)
set_option maxHeartbeats 1000000 in
theorem t_X12_shipGoes {K : Kmap} {V : Vmap} {x : Nat} {p0 : Int} (h_x : K x = some (0, 11)) (r_p0 : ir p0) (q_0 : p0 ≥ 0) (q_1 : p0 ≤ 9) : MC mX12_shipGoes K V [.ref x, ti p0] (VS K (fun V1 => (True) ∧ (MSG V V1 x p0))) := by
  refine MC.start 0 (by decide +kernel) rfl rfl rfl (ls0 := [some (.ref x), some (ti p0)]) rfl ?_
  refine GO.useWT (fun hW1 => ?_)
  have ak2 := hW1.arr h_x 20 22 (by decide) rfl (by decide)
  have ak3 := hW1.arr h_x 23 25 (by decide) rfl (by decide)
  have ak4 := hW1.arr h_x 97 75 (by decide) rfl (by decide)
  have ak5 := hW1.arr h_x 98 76 (by decide) rfl (by decide)
  have ak6 := hW1.arr h_x 99 77 (by decide) rfl (by decide)
  have ak7 := hW1.arr h_x 100 78 (by decide) rfl (by decide)
  have ak8 := hW1.arr h_x 101 79 (by decide) rfl (by decide)
  refine GO.useWT (fun hW_0 => ?_)
  refine GO.aload_n dX12_shipGoes_0 rfl rfl ?_
  refine GO.getA (n := 10) h_x fl_RX12_217 rfl rfl rfl rfl dX12_shipGoes_1 (fun hv10 h9 => ?_)
  refine GO.iload_n dX12_shipGoes_4 rfl rfl ?_
  have q11 : -2147483648 ≤ p0 ∧ p0 ≤ 2147483647 := r_p0
  refine GO.iald (t := 75) rfl rfl h9 r_p0 (by omega) (by omega) dX12_shipGoes_5 (fun _ _ => ?_)
  refine GO.iconst dX12_shipGoes_6 ?_
  refine GO.icmp_ne (tgt := 37) dX12_shipGoes_7 (by decide) vi_ir (ir_c rfl) (fun c12 => ?_) (fun c12 => ?_)
  ·
    refine GO.useFR (fun hFs => ?_)
    have h22 : vi V x 2 = vi V x 2 := vi_fr hFs h_x h_x (by decide +kernel)
    refine GO.aload_n dX12_shipGoes_37 rfl rfl ?_
    have h97 : (vi V (vq V x 97) (p0).toNat) = 2 ∨ (((vi V (vq V x 97) (p0).toNat) ≠ 1 ∨ vi V x 2 < (vi V (vq V x 100) (p0).toNat)) ∧ (vi V (vq V x 97) (p0).toNat) = (vi V (vq V x 97) (p0).toNat) ∧ (vi V (vq V x 100) (p0).toNat) = (vi V (vq V x 100) (p0).toNat)) := by first | exact Or.inr ⟨by omega, congrFun (rfl : ar 97 V x = ar 97 V x) _, congrFun (rfl : ar 100 V x = ar 100 V x) _⟩ | exact Or.inl ((congrFun (rfl : ar 97 V x = ar 97 V x) _).trans updf_at)
    have h97b : vi V (vq V x 97) (p0).toNat = vi V (vq V x 97) (p0).toNat := by rw [vq_eq (hFs _ _ 97 h_x h_x (by decide +kernel))]
    have h100b : vi V (vq V x 100) (p0).toNat = vi V (vq V x 100) (p0).toNat := by rw [vq_eq (hFs _ _ 100 h_x h_x (by decide +kernel))]
    refine GO.getRaw h_x fl_RX12_217 hv10 dX12_shipGoes_38 ?_
    refine GO.iload_n dX12_shipGoes_41 rfl rfl ?_
    refine GO.iald (t := 75) rfl rfl h9 r_p0 (by omega) (by omega) dX12_shipGoes_42 (fun _ _ => ?_)
    refine GO.iconst dX12_shipGoes_43 ?_
    refine GO.icmp_ne (tgt := 53) dX12_shipGoes_44 (by decide) vi_ir (ir_c rfl) (fun c15 => ?_) (fun c15 => ?_)
    ·
      refine GO.aload_n dX12_shipGoes_53 rfl rfl ?_
      refine GO.getRaw h_x fl_RX12_217 hv10 dX12_shipGoes_54 ?_
      refine GO.iload_n dX12_shipGoes_57 rfl rfl ?_
      refine GO.iald (t := 75) rfl rfl h9 r_p0 (by omega) (by omega) dX12_shipGoes_58 (fun _ _ => ?_)
      refine GO.iconst dX12_shipGoes_59 ?_
      refine GO.icmp_ne (tgt := 76) dX12_shipGoes_60 (by decide) vi_ir (ir_c rfl) (fun c18 => ?_) (fun c18 => ?_)
      ·
        clear ak2 ak3 ak4 ak5 ak6 ak7 ak8
        exact GO.retv rfl rfl dX12_shipGoes_76 ⟨rfl, rfl, ⟨trivial, (by first | exact MSG.home (by omega) (by omega) (by omega) (MWQ.fr hFs ext.rf hW_0 h_x (by decide +kernel)) (rfl : ar 97 V x = ar 97 V x) (rfl : ar 98 V x = ar 98 V x) (rfl : ar 99 V x = ar 99 V x) (rfl : ar 100 V x = ar 100 V x) (rfl : ar 101 V x = ar 101 V x) (rfl : ar 20 V x = ar 20 V x) (rfl : ar 23 V x = ar 23 V x) (by omega) (by omega) (by omega) (by omega) | exact MSG.not (by omega) (by omega) | exact (by exfalso; omega))⟩⟩
      ·
        refine GO.aload_n dX12_shipGoes_63 rfl rfl ?_
        refine GO.getI h_x fl_RX12_396 rfl rfl dX12_shipGoes_64 (fun l19 u20 => ?_)
        refine GO.aload_n dX12_shipGoes_67 rfl rfl ?_
        refine GO.getA (n := 10) h_x fl_RX12_226 rfl rfl rfl rfl dX12_shipGoes_68 (fun hv22 h21 => ?_)
        refine GO.iload_n dX12_shipGoes_71 rfl rfl ?_
        refine GO.iald (t := 78) rfl rfl h21 r_p0 (by omega) (by omega) dX12_shipGoes_72 (fun _ _ => ?_)
        refine GO.icmp_ge (tgt := 77) dX12_shipGoes_73 (by decide) vi_ir vi_ir (fun c23 => ?_) (fun c23 => ?_)
        ·
          refine GO.aload_n dX12_shipGoes_77 rfl rfl ?_
          refine GO.aload_n dX12_shipGoes_78 rfl rfl ?_
          refine GO.getL h_x fl_RX12_632 rfl rfl dX12_shipGoes_79 ?_
          refine GO.anyL (fun z24 => ?_)
          refine GO.aload_n dX12_shipGoes_82 rfl rfl ?_
          refine GO.getA (n := 10) h_x fl_RX12_220 rfl rfl rfl rfl dX12_shipGoes_83 (fun hv26 h25 => ?_)
          refine GO.iload_n dX12_shipGoes_86 rfl rfl ?_
          refine GO.iald (t := 76) rfl rfl h25 r_p0 (by omega) (by omega) dX12_shipGoes_87 (fun _ _ => ?_)
          refine GO.i2l dX12_shipGoes_88 ?_
          refine GO.anyL (fun z27 => ?_)
          refine GO.ladd dX12_shipGoes_89 ?_
          refine GO.anyL (fun z28 => ?_)
          refine GO.putL h_x fp_RX12_632 rfl (by decide +kernel) dX12_shipGoes_90 (fun V30 e29 => ?_)
          have ak31 := tk_fld e29 ak2 h_x (by decide) (rfl : ar 20 V x = ar 20 V x)
          clear ak2
          have ak32 := tk_fld e29 ak3 h_x (by decide) (rfl : ar 23 V x = ar 23 V x)
          clear ak3
          have ak33 := tk_fld e29 ak4 h_x (by decide) (rfl : ar 97 V x = ar 97 V x)
          clear ak4
          have ak34 := tk_fld e29 ak5 h_x (by decide) (rfl : ar 98 V x = ar 98 V x)
          clear ak5
          have ak35 := tk_fld e29 ak6 h_x (by decide) (rfl : ar 99 V x = ar 99 V x)
          clear ak6
          have ak36 := tk_fld e29 ak7 h_x (by decide) (rfl : ar 100 V x = ar 100 V x)
          clear ak7
          have ak37 := tk_fld e29 ak8 h_x (by decide) (rfl : ar 101 V x = ar 101 V x)
          clear ak8
          refine GO.aload_n dX12_shipGoes_93 rfl rfl ?_
          refine GO.aload_n dX12_shipGoes_94 rfl rfl ?_
          refine GO.getL h_x fl_RX12_635 rfl rfl dX12_shipGoes_95 ?_
          refine GO.anyL (fun z38 => ?_)
          refine GO.aload_n dX12_shipGoes_98 rfl rfl ?_
          refine GO.getA (n := 10) h_x fl_RX12_223 rfl rfl rfl rfl dX12_shipGoes_99 (fun hv40 h39 => ?_)
          refine GO.iload_n dX12_shipGoes_102 rfl rfl ?_
          refine GO.iald (t := 77) rfl rfl h39 r_p0 (by omega) (by omega) dX12_shipGoes_103 (fun _ _ => ?_)
          refine GO.i2l dX12_shipGoes_104 ?_
          refine GO.anyL (fun z42 => ?_)
          refine GO.ladd dX12_shipGoes_105 ?_
          refine GO.anyL (fun z43 => ?_)
          refine GO.putL h_x fp_RX12_635 rfl (by decide +kernel) dX12_shipGoes_106 (fun V45 e44 => ?_)
          have ak46 := tk_fld e44 ak31.1 h_x (by decide) ak31.2
          clear ak31
          have ak47 := tk_fld e44 ak32.1 h_x (by decide) ak32.2
          clear ak32
          have ak48 := tk_fld e44 ak33.1 h_x (by decide) ak33.2
          clear ak33
          have ak49 := tk_fld e44 ak34.1 h_x (by decide) ak34.2
          clear ak34
          have ak50 := tk_fld e44 ak35.1 h_x (by decide) ak35.2
          clear ak35
          have ak51 := tk_fld e44 ak36.1 h_x (by decide) ak36.2
          clear ak36
          have ak52 := tk_fld e44 ak37.1 h_x (by decide) ak37.2
          clear ak37
          refine GO.aload_n dX12_shipGoes_109 rfl rfl ?_
          refine GO.getRaw h_x fl_RX12_220 (Eq.trans (uq_ne e44 (Or.inr (by decide))) (Eq.trans (uq_ne e29 (Or.inr (by decide))) hv26)) dX12_shipGoes_110 ?_
          refine GO.iload_n dX12_shipGoes_113 rfl rfl ?_
          refine GO.iconst dX12_shipGoes_114 ?_
          refine GO.iast (t := 76) rfl rfl (by decide +kernel) h25 r_p0 (by omega) (by omega) (ir_c rfl) (by decide) (by decide) dX12_shipGoes_115 (fun V56 e55 => ?_)
          have ak57 := tk_oth e55 ak46.1 h_x h25 (by decide) (by decide) ak46.2
          clear ak46
          have ak58 := tk_oth e55 ak47.1 h_x h25 (by decide) (by decide) ak47.2
          clear ak47
          have ak59 := tk_oth e55 ak48.1 h_x h25 (by decide) (by decide) ak48.2
          clear ak48
          have ak60 := tk_put e55 ak49.1 h_x (vq_of (Eq.trans (uq_ne e44 (Or.inr (by decide))) (Eq.trans (uq_ne e29 (Or.inr (by decide))) hv26))) (ir_c rfl) ak49.2
          clear ak49
          have ak61 := tk_oth e55 ak50.1 h_x h25 (by decide) (by decide) ak50.2
          clear ak50
          have ak62 := tk_oth e55 ak51.1 h_x h25 (by decide) (by decide) ak51.2
          clear ak51
          have ak63 := tk_oth e55 ak52.1 h_x h25 (by decide) (by decide) ak52.2
          clear ak52
          refine GO.aload_n dX12_shipGoes_116 rfl rfl ?_
          refine GO.getRaw h_x fl_RX12_223 (Eq.trans (uq_ne e55 (Or.inl (K_ne h_x h25 (by decide)))) (Eq.trans (uq_ne e44 (Or.inr (by decide))) hv40)) dX12_shipGoes_117 ?_
          refine GO.iload_n dX12_shipGoes_120 rfl rfl ?_
          refine GO.iconst dX12_shipGoes_121 ?_
          refine GO.iast (t := 77) rfl rfl (by decide +kernel) h39 r_p0 (by omega) (by omega) (ir_c rfl) (by decide) (by decide) dX12_shipGoes_122 (fun V67 e66 => ?_)
          have ak68 := tk_oth e66 ak57.1 h_x h39 (by decide) (by decide) ak57.2
          clear ak57
          have ak69 := tk_oth e66 ak58.1 h_x h39 (by decide) (by decide) ak58.2
          clear ak58
          have ak70 := tk_oth e66 ak59.1 h_x h39 (by decide) (by decide) ak59.2
          clear ak59
          have ak71 := tk_oth e66 ak60.1 h_x h39 (by decide) (by decide) ak60.2
          clear ak60
          have ak72 := tk_put e66 ak61.1 h_x (vq_of (Eq.trans (uq_ne e55 (Or.inl (K_ne h_x h25 (by decide)))) (Eq.trans (uq_ne e44 (Or.inr (by decide))) hv40))) (ir_c rfl) ak61.2
          clear ak61
          have ak73 := tk_oth e66 ak62.1 h_x h39 (by decide) (by decide) ak62.2
          clear ak62
          have ak74 := tk_oth e66 ak63.1 h_x h39 (by decide) (by decide) ak63.2
          clear ak63
          refine GO.aload_n dX12_shipGoes_123 rfl rfl ?_
          refine GO.getRaw h_x fl_RX12_217 (Eq.trans (uq_ne e66 (Or.inl (K_ne h_x h39 (by decide)))) (Eq.trans (uq_ne e55 (Or.inl (K_ne h_x h25 (by decide)))) (Eq.trans (uq_ne e44 (Or.inr (by decide))) (Eq.trans (uq_ne e29 (Or.inr (by decide))) hv10)))) dX12_shipGoes_124 ?_
          refine GO.iload_n dX12_shipGoes_127 rfl rfl ?_
          refine GO.iconst dX12_shipGoes_128 ?_
          refine GO.iast (t := 75) rfl rfl (by decide +kernel) h9 r_p0 (by omega) (by omega) (ir_c rfl) (by decide) (by decide) dX12_shipGoes_129 (fun V78 e77 => ?_)
          have ak79 := tk_oth e77 ak68.1 h_x h9 (by decide) (by decide) ak68.2
          clear ak68
          have ak80 := tk_oth e77 ak69.1 h_x h9 (by decide) (by decide) ak69.2
          clear ak69
          have ak81 := tk_put e77 ak70.1 h_x (vq_of (Eq.trans (uq_ne e66 (Or.inl (K_ne h_x h39 (by decide)))) (Eq.trans (uq_ne e55 (Or.inl (K_ne h_x h25 (by decide)))) (Eq.trans (uq_ne e44 (Or.inr (by decide))) (Eq.trans (uq_ne e29 (Or.inr (by decide))) hv10))))) (ir_c rfl) ak70.2
          clear ak70
          have ak82 := tk_oth e77 ak71.1 h_x h9 (by decide) (by decide) ak71.2
          clear ak71
          have ak83 := tk_oth e77 ak72.1 h_x h9 (by decide) (by decide) ak72.2
          clear ak72
          have ak84 := tk_oth e77 ak73.1 h_x h9 (by decide) (by decide) ak73.2
          clear ak73
          have ak85 := tk_oth e77 ak74.1 h_x h9 (by decide) (by decide) ak74.2
          clear ak74
          refine GO.aload_n dX12_shipGoes_130 rfl rfl ?_
          refine GO.getRaw h_x fl_RX12_226 (Eq.trans (uq_ne e77 (Or.inl (K_ne h_x h9 (by decide)))) (Eq.trans (uq_ne e66 (Or.inl (K_ne h_x h39 (by decide)))) (Eq.trans (uq_ne e55 (Or.inl (K_ne h_x h25 (by decide)))) (Eq.trans (uq_ne e44 (Or.inr (by decide))) (Eq.trans (uq_ne e29 (Or.inr (by decide))) hv22))))) dX12_shipGoes_131 ?_
          refine GO.iload_n dX12_shipGoes_134 rfl rfl ?_
          refine GO.iconst dX12_shipGoes_135 ?_
          refine GO.iast (t := 78) rfl rfl (by decide +kernel) h21 r_p0 (by omega) (by omega) (ir_c rfl) (by decide) (by decide) dX12_shipGoes_136 (fun V89 e88 => ?_)
          have ak90 := tk_oth e88 ak79.1 h_x h21 (by decide) (by decide) ak79.2
          clear ak79
          have ak91 := tk_oth e88 ak80.1 h_x h21 (by decide) (by decide) ak80.2
          clear ak80
          have ak92 := tk_oth e88 ak81.1 h_x h21 (by decide) (by decide) ak81.2
          clear ak81
          have ak93 := tk_oth e88 ak82.1 h_x h21 (by decide) (by decide) ak82.2
          clear ak82
          have ak94 := tk_oth e88 ak83.1 h_x h21 (by decide) (by decide) ak83.2
          clear ak83
          have ak95 := tk_put e88 ak84.1 h_x (vq_of (Eq.trans (uq_ne e77 (Or.inl (K_ne h_x h9 (by decide)))) (Eq.trans (uq_ne e66 (Or.inl (K_ne h_x h39 (by decide)))) (Eq.trans (uq_ne e55 (Or.inl (K_ne h_x h25 (by decide)))) (Eq.trans (uq_ne e44 (Or.inr (by decide))) (Eq.trans (uq_ne e29 (Or.inr (by decide))) hv22)))))) (ir_c rfl) ak84.2
          clear ak84
          have ak96 := tk_oth e88 ak85.1 h_x h21 (by decide) (by decide) ak85.2
          clear ak85
          refine GO.useFR (fun hFs => ?_)
          exact GO.retv rfl rfl dX12_shipGoes_137 ⟨rfl, rfl, ⟨trivial, (by first | exact MSG.home (by omega) (by omega) (by omega) (MWQ.fr hFs ext.rf hW_0 h_x (by decide +kernel)) ak92.2 ak93.2 ak94.2 ak95.2 ak96.2 ak90.2 ak91.2 (by omega) (by omega) (by omega) (by omega) | exact MSG.not (by omega) (by omega) | exact (by exfalso; omega))⟩⟩
        ·
          clear ak2 ak3 ak4 ak5 ak6 ak7 ak8
          exact GO.retv rfl rfl dX12_shipGoes_76 ⟨rfl, rfl, ⟨trivial, (by first | exact MSG.home (by omega) (by omega) (by omega) (MWQ.fr hFs ext.rf hW_0 h_x (by decide +kernel)) (rfl : ar 97 V x = ar 97 V x) (rfl : ar 98 V x = ar 98 V x) (rfl : ar 99 V x = ar 99 V x) (rfl : ar 100 V x = ar 100 V x) (rfl : ar 101 V x = ar 101 V x) (rfl : ar 20 V x = ar 20 V x) (rfl : ar 23 V x = ar 23 V x) (by omega) (by omega) (by omega) (by omega) | exact MSG.not (by omega) (by omega) | exact (by exfalso; omega))⟩⟩
    ·
      clear ak2 ak3 ak4 ak5 ak6 ak7 ak8
      refine GO.useFR (fun hFs => ?_)
      have hsw : MWQ V V x := (MWQ.fr hFs ext.rf hW_0 h_x (by decide +kernel))
      have hMw : MSM V V x := MSM.fr hFs ext.rf hW_0 h_x (by decide +kernel) (by decide +kernel) (by decide +kernel)
      have hpm : msv V x = upg (msv V x) (p0).toNat (pre (msv V x (p0).toNat)) := by first | exact MSG.pr1 (by omega) | exact MSG.pr2 hsw (rfl : ar 97 V x = ar 97 V x) (rfl : ar 100 V x = ar 100 V x) (rfl : ar 98 V x = ar 98 V x) (rfl : ar 99 V x = ar 99 V x) (rfl : ar 101 V x = ar 101 V x) (by omega) (by omega) (by omega)
      have hrm : rst V x = rst V x := rst_n hsw (rfl : ar 20 V x = ar 20 V x) (rfl : ar 23 V x = ar 23 V x)
      refine GO.aload_n dX12_shipGoes_47 rfl rfl ?_
      refine GO.iload_n dX12_shipGoes_48 rfl rfl ?_
      refine GO.callV (ci := 11) (N := mX12_waits) dX12_shipGoes_49 (RX12, TX12, 151) rfl gV_RX12_630 h_x (t_X12_waits h_x r_p0 (by omega) (by omega)) rfl [] rfl rfl (Nat.le_of_ble_eq_true rfl) rfl (k_vs fun V99 h98 hF97 => ?_)
      refine GO.useWT (fun hW100 => ?_)
      have ak101 := hW100.arr h_x 20 22 (by decide) rfl (by decide)
      clear ak101
      have ak102 := hW100.arr h_x 23 25 (by decide) rfl (by decide)
      clear ak102
      have ak103 := hW100.arr h_x 97 75 (by decide) rfl (by decide)
      clear ak103
      have ak104 := hW100.arr h_x 98 76 (by decide) rfl (by decide)
      clear ak104
      have ak105 := hW100.arr h_x 99 77 (by decide) rfl (by decide)
      clear ak105
      have ak106 := hW100.arr h_x 100 78 (by decide) rfl (by decide)
      clear ak106
      have ak107 := hW100.arr h_x 101 79 (by decide) rfl (by decide)
      clear ak107
      have raw_waits := h98.2
      have rw49 := h98.2
      exact GO.retv rfl rfl dX12_shipGoes_52 ⟨rfl, rfl, ⟨trivial, (by first | exact MSG.ice (by omega) hsw hMw hpm hrm rw49 | exact MSG.home (by omega) (by omega) (by omega) (MWQ.fr hFs ext.rf hW_0 h_x (by decide +kernel)) (rfl : ar 97 V99 x = ar 97 V99 x) (rfl : ar 98 V99 x = ar 98 V99 x) (rfl : ar 99 V99 x = ar 99 V99 x) (rfl : ar 100 V99 x = ar 100 V99 x) (rfl : ar 101 V99 x = ar 101 V99 x) (rfl : ar 20 V99 x = ar 20 V99 x) (rfl : ar 23 V99 x = ar 23 V99 x) (by omega) (by omega) (by omega) (by omega) | exact MSG.not (by omega) (by omega) | exact (by exfalso; omega))⟩⟩
  ·
    refine GO.aload_n dX12_shipGoes_10 rfl rfl ?_
    refine GO.getI h_x fl_RX12_396 rfl rfl dX12_shipGoes_11 (fun l108 u109 => ?_)
    refine GO.aload_n dX12_shipGoes_14 rfl rfl ?_
    refine GO.getA (n := 10) h_x fl_RX12_226 rfl rfl rfl rfl dX12_shipGoes_15 (fun hv111 h110 => ?_)
    refine GO.iload_n dX12_shipGoes_18 rfl rfl ?_
    refine GO.iald (t := 78) rfl rfl h110 r_p0 (by omega) (by omega) dX12_shipGoes_19 (fun _ _ => ?_)
    refine GO.icmp_lt (tgt := 37) dX12_shipGoes_20 (by decide) vi_ir vi_ir (fun c112 => ?_) (fun c112 => ?_)
    ·
      clear ak2 ak3 ak4 ak5 ak6 ak7 ak8
      refine GO.useFR (fun hFs => ?_)
      have h22 : vi V x 2 = vi V x 2 := vi_fr hFs h_x h_x (by decide +kernel)
      refine GO.aload_n dX12_shipGoes_37 rfl rfl ?_
      have h97 : (vi V (vq V x 97) (p0).toNat) = 2 ∨ (((vi V (vq V x 97) (p0).toNat) ≠ 1 ∨ vi V x 2 < (vi V (vq V x 100) (p0).toNat)) ∧ (vi V (vq V x 97) (p0).toNat) = (vi V (vq V x 97) (p0).toNat) ∧ (vi V (vq V x 100) (p0).toNat) = (vi V (vq V x 100) (p0).toNat)) := by first | exact Or.inr ⟨by omega, congrFun (rfl : ar 97 V x = ar 97 V x) _, congrFun (rfl : ar 100 V x = ar 100 V x) _⟩ | exact Or.inl ((congrFun (rfl : ar 97 V x = ar 97 V x) _).trans updf_at)
      have h97b : vi V (vq V x 97) (p0).toNat = vi V (vq V x 97) (p0).toNat := by rw [vq_eq (hFs _ _ 97 h_x h_x (by decide +kernel))]
      have h100b : vi V (vq V x 100) (p0).toNat = vi V (vq V x 100) (p0).toNat := by rw [vq_eq (hFs _ _ 100 h_x h_x (by decide +kernel))]
      refine GO.getRaw h_x fl_RX12_217 hv10 dX12_shipGoes_38 ?_
      refine GO.iload_n dX12_shipGoes_41 rfl rfl ?_
      refine GO.iald (t := 75) rfl rfl h9 r_p0 (by omega) (by omega) dX12_shipGoes_42 (fun _ _ => ?_)
      refine GO.iconst dX12_shipGoes_43 ?_
      have q116 : -2147483648 ≤ vi V (vq V x 97) (p0).toNat ∧ vi V (vq V x 97) (p0).toNat ≤ 2147483647 := vi_ir
      refine GO.icmp_ne (tgt := 53) dX12_shipGoes_44 (by decide) vi_ir (ir_c rfl) (fun c115 => ?_) (fun h => by exfalso; omega)
      refine GO.aload_n dX12_shipGoes_53 rfl rfl ?_
      refine GO.getRaw h_x fl_RX12_217 hv10 dX12_shipGoes_54 ?_
      refine GO.iload_n dX12_shipGoes_57 rfl rfl ?_
      refine GO.iald (t := 75) rfl rfl h9 r_p0 (by omega) (by omega) dX12_shipGoes_58 (fun _ _ => ?_)
      refine GO.iconst dX12_shipGoes_59 ?_
      refine GO.icmp_ne (tgt := 76) dX12_shipGoes_60 (by decide) vi_ir (ir_c rfl) (fun c119 => ?_) (fun h => by exfalso; omega)
      exact GO.retv rfl rfl dX12_shipGoes_76 ⟨rfl, rfl, ⟨trivial, (by first | exact MSG.home (by omega) (by omega) (by omega) (MWQ.fr hFs ext.rf hW_0 h_x (by decide +kernel)) (rfl : ar 97 V x = ar 97 V x) (rfl : ar 98 V x = ar 98 V x) (rfl : ar 99 V x = ar 99 V x) (rfl : ar 100 V x = ar 100 V x) (rfl : ar 101 V x = ar 101 V x) (rfl : ar 20 V x = ar 20 V x) (rfl : ar 23 V x = ar 23 V x) (by omega) (by omega) (by omega) (by omega) | exact MSG.not (by omega) (by omega) | exact (by exfalso; omega))⟩⟩
    ·
      refine GO.aload_n dX12_shipGoes_23 rfl rfl ?_
      refine GO.getRaw h_x fl_RX12_217 hv10 dX12_shipGoes_24 ?_
      refine GO.iload_n dX12_shipGoes_27 rfl rfl ?_
      refine GO.iconst dX12_shipGoes_28 ?_
      refine GO.iast (t := 75) rfl rfl (by decide +kernel) h9 r_p0 (by omega) (by omega) (ir_c rfl) (by decide) (by decide) dX12_shipGoes_29 (fun V123 e122 => ?_)
      have ak124 := tk_oth e122 ak2 h_x h9 (by decide) (by decide) (rfl : ar 20 V x = ar 20 V x)
      clear ak2
      have ak125 := tk_oth e122 ak3 h_x h9 (by decide) (by decide) (rfl : ar 23 V x = ar 23 V x)
      clear ak3
      have ak126 := tk_put e122 ak4 h_x (vq_of hv10) (ir_c rfl) (rfl : ar 97 V x = ar 97 V x)
      clear ak4
      have ak127 := tk_oth e122 ak5 h_x h9 (by decide) (by decide) (rfl : ar 98 V x = ar 98 V x)
      clear ak5
      have ak128 := tk_oth e122 ak6 h_x h9 (by decide) (by decide) (rfl : ar 99 V x = ar 99 V x)
      clear ak6
      have ak129 := tk_oth e122 ak7 h_x h9 (by decide) (by decide) (rfl : ar 100 V x = ar 100 V x)
      clear ak7
      have ak130 := tk_oth e122 ak8 h_x h9 (by decide) (by decide) (rfl : ar 101 V x = ar 101 V x)
      clear ak8
      refine GO.aload_n dX12_shipGoes_30 rfl rfl ?_
      refine GO.getRaw h_x fl_RX12_226 (Eq.trans (uq_ne e122 (Or.inl (K_ne h_x h9 (by decide)))) hv111) dX12_shipGoes_31 ?_
      refine GO.iload_n dX12_shipGoes_34 rfl rfl ?_
      refine GO.iconst dX12_shipGoes_35 ?_
      refine GO.iast (t := 78) rfl rfl (by decide +kernel) h110 r_p0 (by omega) (by omega) (ir_c rfl) (by decide) (by decide) dX12_shipGoes_36 (fun V134 e133 => ?_)
      have ak135 := tk_oth e133 ak124.1 h_x h110 (by decide) (by decide) ak124.2
      clear ak124
      have ak136 := tk_oth e133 ak125.1 h_x h110 (by decide) (by decide) ak125.2
      clear ak125
      have ak137 := tk_oth e133 ak126.1 h_x h110 (by decide) (by decide) ak126.2
      clear ak126
      have ak138 := tk_oth e133 ak127.1 h_x h110 (by decide) (by decide) ak127.2
      clear ak127
      have ak139 := tk_oth e133 ak128.1 h_x h110 (by decide) (by decide) ak128.2
      clear ak128
      have ak140 := tk_put e133 ak129.1 h_x (vq_of (Eq.trans (uq_ne e122 (Or.inl (K_ne h_x h9 (by decide)))) hv111)) (ir_c rfl) ak129.2
      clear ak129
      have ak141 := tk_oth e133 ak130.1 h_x h110 (by decide) (by decide) ak130.2
      clear ak130
      refine GO.useFR (fun hFs => ?_)
      have h22 : vi V134 x 2 = vi V x 2 := vi_fr hFs h_x h_x (by decide +kernel)
      refine GO.aload_n dX12_shipGoes_37 rfl rfl ?_
      have h97 : (vi V134 (vq V134 x 97) (p0).toNat) = 2 ∨ (((vi V (vq V x 97) (p0).toNat) ≠ 1 ∨ vi V x 2 < (vi V (vq V x 100) (p0).toNat)) ∧ (vi V134 (vq V134 x 97) (p0).toNat) = (vi V (vq V x 97) (p0).toNat) ∧ (vi V134 (vq V134 x 100) (p0).toNat) = (vi V (vq V x 100) (p0).toNat)) := by first | exact Or.inr ⟨by omega, congrFun ak137.2 _, congrFun ak140.2 _⟩ | exact Or.inl ((congrFun ak137.2 _).trans updf_at)
      have h97b : vi V134 (vq V x 97) (p0).toNat = vi V134 (vq V134 x 97) (p0).toNat := by rw [vq_eq (hFs _ _ 97 h_x h_x (by decide +kernel))]
      have h100b : vi V134 (vq V x 100) (p0).toNat = vi V134 (vq V134 x 100) (p0).toNat := by rw [vq_eq (hFs _ _ 100 h_x h_x (by decide +kernel))]
      refine GO.getRaw h_x fl_RX12_217 (Eq.trans (uq_ne e133 (Or.inl (K_ne h_x h110 (by decide)))) (Eq.trans (uq_ne e122 (Or.inl (K_ne h_x h9 (by decide)))) hv10)) dX12_shipGoes_38 ?_
      refine GO.iload_n dX12_shipGoes_41 rfl rfl ?_
      refine GO.iald (t := 75) rfl rfl h9 r_p0 (by omega) (by omega) dX12_shipGoes_42 (fun _ _ => ?_)
      refine GO.iconst dX12_shipGoes_43 ?_
      refine GO.icmp_ne (tgt := 53) dX12_shipGoes_44 (by decide) vi_ir (ir_c rfl) (fun c146 => ?_) (fun c146 => ?_)
      ·
        refine GO.aload_n dX12_shipGoes_53 rfl rfl ?_
        refine GO.getRaw h_x fl_RX12_217 (Eq.trans (uq_ne e133 (Or.inl (K_ne h_x h110 (by decide)))) (Eq.trans (uq_ne e122 (Or.inl (K_ne h_x h9 (by decide)))) hv10)) dX12_shipGoes_54 ?_
        refine GO.iload_n dX12_shipGoes_57 rfl rfl ?_
        refine GO.iald (t := 75) rfl rfl h9 r_p0 (by omega) (by omega) dX12_shipGoes_58 (fun _ _ => ?_)
        refine GO.iconst dX12_shipGoes_59 ?_
        refine GO.icmp_ne (tgt := 76) dX12_shipGoes_60 (by decide) vi_ir (ir_c rfl) (fun c149 => ?_) (fun c149 => ?_)
        ·
          exact GO.retv rfl rfl dX12_shipGoes_76 ⟨rfl, rfl, ⟨trivial, (by first | exact MSG.home (by omega) (by omega) (by omega) (MWQ.fr hFs ext.rf hW_0 h_x (by decide +kernel)) ak137.2 ak138.2 ak139.2 ak140.2 ak141.2 ak135.2 ak136.2 (by omega) (by omega) (by omega) (by omega) | exact MSG.not (by omega) (by omega) | exact (by exfalso; omega))⟩⟩
        ·
          refine GO.aload_n dX12_shipGoes_63 rfl rfl ?_
          refine GO.getI h_x fl_RX12_396 rfl rfl dX12_shipGoes_64 (fun l150 u151 => ?_)
          have e153 : vi V123 x 2 = vi V x 2 := vi_up e122 (Or.inl (K_ne h_x h9 (by decide)))
          have e152 : vi V134 x 2 = vi V123 x 2 := vi_up e133 (Or.inl (K_ne h_x h110 (by decide)))
          refine GO.aload_n dX12_shipGoes_67 rfl rfl ?_
          refine GO.getRaw h_x fl_RX12_226 (Eq.trans (uq_ne e133 (Or.inl (K_ne h_x h110 (by decide)))) (Eq.trans (uq_ne e122 (Or.inl (K_ne h_x h9 (by decide)))) hv111)) dX12_shipGoes_68 ?_
          refine GO.iload_n dX12_shipGoes_71 rfl rfl ?_
          refine GO.iald (t := 78) rfl rfl h110 r_p0 (by omega) (by omega) dX12_shipGoes_72 (fun _ _ => ?_)
          refine GO.icmp_ge (tgt := 77) dX12_shipGoes_73 (by decide) vi_ir vi_ir (fun c157 => ?_) (fun c157 => ?_)
          ·
            refine GO.aload_n dX12_shipGoes_77 rfl rfl ?_
            refine GO.aload_n dX12_shipGoes_78 rfl rfl ?_
            refine GO.getL h_x fl_RX12_632 rfl rfl dX12_shipGoes_79 ?_
            refine GO.anyL (fun z158 => ?_)
            refine GO.aload_n dX12_shipGoes_82 rfl rfl ?_
            refine GO.getA (n := 10) h_x fl_RX12_220 rfl rfl rfl rfl dX12_shipGoes_83 (fun hv160 h159 => ?_)
            refine GO.iload_n dX12_shipGoes_86 rfl rfl ?_
            refine GO.iald (t := 76) rfl rfl h159 r_p0 (by omega) (by omega) dX12_shipGoes_87 (fun _ _ => ?_)
            refine GO.i2l dX12_shipGoes_88 ?_
            refine GO.anyL (fun z163 => ?_)
            refine GO.ladd dX12_shipGoes_89 ?_
            refine GO.anyL (fun z164 => ?_)
            refine GO.putL h_x fp_RX12_632 rfl (by decide +kernel) dX12_shipGoes_90 (fun V166 e165 => ?_)
            have ak167 := tk_fld e165 ak135.1 h_x (by decide) ak135.2
            clear ak135
            have ak168 := tk_fld e165 ak136.1 h_x (by decide) ak136.2
            clear ak136
            have ak169 := tk_fld e165 ak137.1 h_x (by decide) ak137.2
            clear ak137
            have ak170 := tk_fld e165 ak138.1 h_x (by decide) ak138.2
            clear ak138
            have ak171 := tk_fld e165 ak139.1 h_x (by decide) ak139.2
            clear ak139
            have ak172 := tk_fld e165 ak140.1 h_x (by decide) ak140.2
            clear ak140
            have ak173 := tk_fld e165 ak141.1 h_x (by decide) ak141.2
            clear ak141
            refine GO.aload_n dX12_shipGoes_93 rfl rfl ?_
            refine GO.aload_n dX12_shipGoes_94 rfl rfl ?_
            refine GO.getL h_x fl_RX12_635 rfl rfl dX12_shipGoes_95 ?_
            refine GO.anyL (fun z174 => ?_)
            refine GO.aload_n dX12_shipGoes_98 rfl rfl ?_
            refine GO.getA (n := 10) h_x fl_RX12_223 rfl rfl rfl rfl dX12_shipGoes_99 (fun hv176 h175 => ?_)
            refine GO.iload_n dX12_shipGoes_102 rfl rfl ?_
            refine GO.iald (t := 77) rfl rfl h175 r_p0 (by omega) (by omega) dX12_shipGoes_103 (fun _ _ => ?_)
            refine GO.i2l dX12_shipGoes_104 ?_
            refine GO.anyL (fun z180 => ?_)
            refine GO.ladd dX12_shipGoes_105 ?_
            refine GO.anyL (fun z181 => ?_)
            refine GO.putL h_x fp_RX12_635 rfl (by decide +kernel) dX12_shipGoes_106 (fun V183 e182 => ?_)
            have ak184 := tk_fld e182 ak167.1 h_x (by decide) ak167.2
            clear ak167
            have ak185 := tk_fld e182 ak168.1 h_x (by decide) ak168.2
            clear ak168
            have ak186 := tk_fld e182 ak169.1 h_x (by decide) ak169.2
            clear ak169
            have ak187 := tk_fld e182 ak170.1 h_x (by decide) ak170.2
            clear ak170
            have ak188 := tk_fld e182 ak171.1 h_x (by decide) ak171.2
            clear ak171
            have ak189 := tk_fld e182 ak172.1 h_x (by decide) ak172.2
            clear ak172
            have ak190 := tk_fld e182 ak173.1 h_x (by decide) ak173.2
            clear ak173
            refine GO.aload_n dX12_shipGoes_109 rfl rfl ?_
            refine GO.getRaw h_x fl_RX12_220 (Eq.trans (uq_ne e182 (Or.inr (by decide))) (Eq.trans (uq_ne e165 (Or.inr (by decide))) hv160)) dX12_shipGoes_110 ?_
            refine GO.iload_n dX12_shipGoes_113 rfl rfl ?_
            refine GO.iconst dX12_shipGoes_114 ?_
            refine GO.iast (t := 76) rfl rfl (by decide +kernel) h159 r_p0 (by omega) (by omega) (ir_c rfl) (by decide) (by decide) dX12_shipGoes_115 (fun V194 e193 => ?_)
            have ak195 := tk_oth e193 ak184.1 h_x h159 (by decide) (by decide) ak184.2
            clear ak184
            have ak196 := tk_oth e193 ak185.1 h_x h159 (by decide) (by decide) ak185.2
            clear ak185
            have ak197 := tk_oth e193 ak186.1 h_x h159 (by decide) (by decide) ak186.2
            clear ak186
            have ak198 := tk_put e193 ak187.1 h_x (vq_of (Eq.trans (uq_ne e182 (Or.inr (by decide))) (Eq.trans (uq_ne e165 (Or.inr (by decide))) hv160))) (ir_c rfl) ak187.2
            clear ak187
            have ak199 := tk_oth e193 ak188.1 h_x h159 (by decide) (by decide) ak188.2
            clear ak188
            have ak200 := tk_oth e193 ak189.1 h_x h159 (by decide) (by decide) ak189.2
            clear ak189
            have ak201 := tk_oth e193 ak190.1 h_x h159 (by decide) (by decide) ak190.2
            clear ak190
            refine GO.aload_n dX12_shipGoes_116 rfl rfl ?_
            refine GO.getRaw h_x fl_RX12_223 (Eq.trans (uq_ne e193 (Or.inl (K_ne h_x h159 (by decide)))) (Eq.trans (uq_ne e182 (Or.inr (by decide))) hv176)) dX12_shipGoes_117 ?_
            refine GO.iload_n dX12_shipGoes_120 rfl rfl ?_
            refine GO.iconst dX12_shipGoes_121 ?_
            refine GO.iast (t := 77) rfl rfl (by decide +kernel) h175 r_p0 (by omega) (by omega) (ir_c rfl) (by decide) (by decide) dX12_shipGoes_122 (fun V205 e204 => ?_)
            have ak206 := tk_oth e204 ak195.1 h_x h175 (by decide) (by decide) ak195.2
            clear ak195
            have ak207 := tk_oth e204 ak196.1 h_x h175 (by decide) (by decide) ak196.2
            clear ak196
            have ak208 := tk_oth e204 ak197.1 h_x h175 (by decide) (by decide) ak197.2
            clear ak197
            have ak209 := tk_oth e204 ak198.1 h_x h175 (by decide) (by decide) ak198.2
            clear ak198
            have ak210 := tk_put e204 ak199.1 h_x (vq_of (Eq.trans (uq_ne e193 (Or.inl (K_ne h_x h159 (by decide)))) (Eq.trans (uq_ne e182 (Or.inr (by decide))) hv176))) (ir_c rfl) ak199.2
            clear ak199
            have ak211 := tk_oth e204 ak200.1 h_x h175 (by decide) (by decide) ak200.2
            clear ak200
            have ak212 := tk_oth e204 ak201.1 h_x h175 (by decide) (by decide) ak201.2
            clear ak201
            refine GO.aload_n dX12_shipGoes_123 rfl rfl ?_
            refine GO.getRaw h_x fl_RX12_217 (Eq.trans (uq_ne e204 (Or.inl (K_ne h_x h175 (by decide)))) (Eq.trans (uq_ne e193 (Or.inl (K_ne h_x h159 (by decide)))) (Eq.trans (uq_ne e182 (Or.inr (by decide))) (Eq.trans (uq_ne e165 (Or.inr (by decide))) (Eq.trans (uq_ne e133 (Or.inl (K_ne h_x h110 (by decide)))) (Eq.trans (uq_ne e122 (Or.inl (K_ne h_x h9 (by decide)))) hv10)))))) dX12_shipGoes_124 ?_
            refine GO.iload_n dX12_shipGoes_127 rfl rfl ?_
            refine GO.iconst dX12_shipGoes_128 ?_
            refine GO.iast (t := 75) rfl rfl (by decide +kernel) h9 r_p0 (by omega) (by omega) (ir_c rfl) (by decide) (by decide) dX12_shipGoes_129 (fun V216 e215 => ?_)
            have ak217 := tk_oth e215 ak206.1 h_x h9 (by decide) (by decide) ak206.2
            clear ak206
            have ak218 := tk_oth e215 ak207.1 h_x h9 (by decide) (by decide) ak207.2
            clear ak207
            have ak219 := tk_put e215 ak208.1 h_x (vq_of (Eq.trans (uq_ne e204 (Or.inl (K_ne h_x h175 (by decide)))) (Eq.trans (uq_ne e193 (Or.inl (K_ne h_x h159 (by decide)))) (Eq.trans (uq_ne e182 (Or.inr (by decide))) (Eq.trans (uq_ne e165 (Or.inr (by decide))) (Eq.trans (uq_ne e133 (Or.inl (K_ne h_x h110 (by decide)))) (Eq.trans (uq_ne e122 (Or.inl (K_ne h_x h9 (by decide)))) hv10))))))) (ir_c rfl) ak208.2
            clear ak208
            have ak220 := tk_oth e215 ak209.1 h_x h9 (by decide) (by decide) ak209.2
            clear ak209
            have ak221 := tk_oth e215 ak210.1 h_x h9 (by decide) (by decide) ak210.2
            clear ak210
            have ak222 := tk_oth e215 ak211.1 h_x h9 (by decide) (by decide) ak211.2
            clear ak211
            have ak223 := tk_oth e215 ak212.1 h_x h9 (by decide) (by decide) ak212.2
            clear ak212
            refine GO.aload_n dX12_shipGoes_130 rfl rfl ?_
            refine GO.getRaw h_x fl_RX12_226 (Eq.trans (uq_ne e215 (Or.inl (K_ne h_x h9 (by decide)))) (Eq.trans (uq_ne e204 (Or.inl (K_ne h_x h175 (by decide)))) (Eq.trans (uq_ne e193 (Or.inl (K_ne h_x h159 (by decide)))) (Eq.trans (uq_ne e182 (Or.inr (by decide))) (Eq.trans (uq_ne e165 (Or.inr (by decide))) (Eq.trans (uq_ne e133 (Or.inl (K_ne h_x h110 (by decide)))) (Eq.trans (uq_ne e122 (Or.inl (K_ne h_x h9 (by decide)))) hv111))))))) dX12_shipGoes_131 ?_
            refine GO.iload_n dX12_shipGoes_134 rfl rfl ?_
            refine GO.iconst dX12_shipGoes_135 ?_
            refine GO.iast (t := 78) rfl rfl (by decide +kernel) h110 r_p0 (by omega) (by omega) (ir_c rfl) (by decide) (by decide) dX12_shipGoes_136 (fun V227 e226 => ?_)
            have ak228 := tk_oth e226 ak217.1 h_x h110 (by decide) (by decide) ak217.2
            clear ak217
            have ak229 := tk_oth e226 ak218.1 h_x h110 (by decide) (by decide) ak218.2
            clear ak218
            have ak230 := tk_oth e226 ak219.1 h_x h110 (by decide) (by decide) ak219.2
            clear ak219
            have ak231 := tk_oth e226 ak220.1 h_x h110 (by decide) (by decide) ak220.2
            clear ak220
            have ak232 := tk_oth e226 ak221.1 h_x h110 (by decide) (by decide) ak221.2
            clear ak221
            have ak233 := tk_put e226 ak222.1 h_x (vq_of (Eq.trans (uq_ne e215 (Or.inl (K_ne h_x h9 (by decide)))) (Eq.trans (uq_ne e204 (Or.inl (K_ne h_x h175 (by decide)))) (Eq.trans (uq_ne e193 (Or.inl (K_ne h_x h159 (by decide)))) (Eq.trans (uq_ne e182 (Or.inr (by decide))) (Eq.trans (uq_ne e165 (Or.inr (by decide))) (Eq.trans (uq_ne e133 (Or.inl (K_ne h_x h110 (by decide)))) (Eq.trans (uq_ne e122 (Or.inl (K_ne h_x h9 (by decide)))) hv111)))))))) (ir_c rfl) ak222.2
            clear ak222
            have ak234 := tk_oth e226 ak223.1 h_x h110 (by decide) (by decide) ak223.2
            clear ak223
            refine GO.useFR (fun hFs => ?_)
            exact GO.retv rfl rfl dX12_shipGoes_137 ⟨rfl, rfl, ⟨trivial, (by first | exact MSG.home (by omega) (by omega) (by omega) (MWQ.fr hFs ext.rf hW_0 h_x (by decide +kernel)) ak230.2 ak231.2 ak232.2 ak233.2 ak234.2 ak228.2 ak229.2 (by omega) (by omega) (by omega) (by omega) | exact MSG.not (by omega) (by omega) | exact (by exfalso; omega))⟩⟩
          ·
            exact GO.retv rfl rfl dX12_shipGoes_76 ⟨rfl, rfl, ⟨trivial, (by first | exact MSG.home (by omega) (by omega) (by omega) (MWQ.fr hFs ext.rf hW_0 h_x (by decide +kernel)) ak137.2 ak138.2 ak139.2 ak140.2 ak141.2 ak135.2 ak136.2 (by omega) (by omega) (by omega) (by omega) | exact MSG.not (by omega) (by omega) | exact (by exfalso; omega))⟩⟩
      ·
        refine GO.useFR (fun hFs => ?_)
        have hsw : MWQ V V134 x := (MWQ.fr hFs ext.rf hW_0 h_x (by decide +kernel))
        have hMw : MSM V V134 x := MSM.fr hFs ext.rf hW_0 h_x (by decide +kernel) (by decide +kernel) (by decide +kernel)
        have hpm : msv V134 x = upg (msv V x) (p0).toNat (pre (msv V x (p0).toNat)) := by first | exact MSG.pr1 (by omega) | exact MSG.pr2 hsw ak137.2 ak140.2 ak138.2 ak139.2 ak141.2 (by omega) (by omega) (by omega)
        clear ak137 ak138 ak139 ak140 ak141
        have hrm : rst V134 x = rst V x := rst_n hsw ak135.2 ak136.2
        clear ak135 ak136
        refine GO.aload_n dX12_shipGoes_47 rfl rfl ?_
        refine GO.iload_n dX12_shipGoes_48 rfl rfl ?_
        refine GO.callV (ci := 11) (N := mX12_waits) dX12_shipGoes_49 (RX12, TX12, 151) rfl gV_RX12_630 h_x (t_X12_waits h_x r_p0 (by omega) (by omega)) rfl [] rfl rfl (Nat.le_of_ble_eq_true rfl) rfl (k_vs fun V237 h236 hF235 => ?_)
        refine GO.useWT (fun hW238 => ?_)
        have ak239 := hW238.arr h_x 20 22 (by decide) rfl (by decide)
        clear ak239
        have ak240 := hW238.arr h_x 23 25 (by decide) rfl (by decide)
        clear ak240
        have ak241 := hW238.arr h_x 97 75 (by decide) rfl (by decide)
        clear ak241
        have ak242 := hW238.arr h_x 98 76 (by decide) rfl (by decide)
        clear ak242
        have ak243 := hW238.arr h_x 99 77 (by decide) rfl (by decide)
        clear ak243
        have ak244 := hW238.arr h_x 100 78 (by decide) rfl (by decide)
        clear ak244
        have ak245 := hW238.arr h_x 101 79 (by decide) rfl (by decide)
        clear ak245
        have raw_waits := h236.2
        have rw49 := h236.2
        exact GO.retv rfl rfl dX12_shipGoes_52 ⟨rfl, rfl, ⟨trivial, (by first | exact MSG.ice (by omega) hsw hMw hpm hrm rw49 | exact MSG.home (by omega) (by omega) (by omega) (MWQ.fr hFs ext.rf hW_0 h_x (by decide +kernel)) (rfl : ar 97 V237 x = ar 97 V237 x) (rfl : ar 98 V237 x = ar 98 V237 x) (rfl : ar 99 V237 x = ar 99 V237 x) (rfl : ar 100 V237 x = ar 100 V237 x) (rfl : ar 101 V237 x = ar 101 V237 x) (rfl : ar 20 V237 x = ar 20 V237 x) (rfl : ar 23 V237 x = ar 23 V237 x) (by omega) (by omega) (by omega) (by omega) | exact MSG.not (by omega) (by omega) | exact (by exfalso; omega))⟩⟩

set_option maxHeartbeats 1000000 in
theorem t_X12_goesOver {K : Kmap} {V : Vmap} {x : Nat} {p0 : Int} (h_x : K x = some (0, 11)) (r_p0 : ir p0) (q_0 : p0 ≥ 0) (q_1 : p0 ≤ 143) : MC mX12_goesOver K V [.ref x, ti p0] (VS K (fun V1 => (True) ∧ (MGV V V1 x p0))) := by
  refine MC.start 5 (by decide +kernel) rfl rfl rfl (ls0 := [some (.ref x), some (ti p0), none, none, none, none, none]) rfl ?_
  refine GO.useWT (fun hW1 => ?_)
  have ak2 := hW1.arr h_x 117 95 (by decide) rfl (by decide)
  refine GO.useWT (fun hW_0 => ?_)
  refine GO.iconst dX12_goesOver_0 ?_
  refine GO.istore_n (ls1 := [some (.ref x), some (ti p0), some (ti 0), none, none, none, none]) dX12_goesOver_1 rfl rfl rfl ?_
  refine GO.loop1 (fun i3 W => 0 ≤ i3 ∧ i3 ≤ 144 ∧ (MGI W x p0 i3) ∧ True) (fun i3 => [some (.ref x), some (ti p0), some (ti i3), none, none, none, none]) (fun i3 W => (2147483647 - i3).toNat) 0 ⟨by omega, by omega, (by first | exact MGI.beg), trivial⟩ rfl (fun i3 Wi3 hp17971 ih17970 => ?_)
  obtain ⟨l_i3, u_i3, hgi, -⟩ := hp17971
  have r_i3 : ir i3 := ⟨by omega, by omega⟩
  show GO mX12_goesOver K V (VS K (fun V1 => (True) ∧ (MGV V V1 x p0))) K Wi3 0 0 2 [some (.ref x), some (ti p0), some (ti i3), none, none, none, none] []
  refine GO.useWT (fun hW17972 => ?_)
  have ak17973 := hW17972.arr h_x 117 95 (by decide) rfl (by decide)
  refine GO.useFR (fun hFs => ?_)
  have hg0 : MGW V Wi3 x := MGW.fr hFs hW_0 h_x (by decide +kernel)
  have hg0w : vi Wi3 x 0 * vi Wi3 x 1 = vi V x 0 * vi V x 1 := by rw [vi_fr hFs h_x h_x (by decide +kernel), vi_fr hFs h_x h_x (by decide +kernel)]
  refine GO.iload_n dX12_goesOver_2 rfl rfl ?_
  refine GO.aload_n dX12_goesOver_3 rfl rfl ?_
  refine GO.getI h_x fl_RX12_365 rfl rfl dX12_goesOver_4 (fun l17974 u17975 => ?_)
  refine GO.aload_n dX12_goesOver_7 rfl rfl ?_
  refine GO.getI h_x fl_RX12_368 rfl rfl dX12_goesOver_8 (fun l17976 u17977 => ?_)
  refine GO.imul dX12_goesOver_11 ?_
  have m17978 := mul_rng (a := vi Wi3 x 0) (b := vi Wi3 x 1) (A := 12) (B := 12) (by omega) (by omega) (by omega) (by omega)
  have m17979 := mul_low (a := vi Wi3 x 0) (b := vi Wi3 x 1) (m := 4) (n := 4) (by omega) (by omega) (by omega) (by omega)
  refine GO.icmp_ge (tgt := 39) dX12_goesOver_12 (by decide) r_i3 ⟨by omega, by omega⟩ (fun c17980 => ?_) (fun c17980 => ?_)
  ·
    refine GO.iconst dX12_goesOver_39 ?_
    refine GO.istore_n (ls1 := [some (.ref x), some (ti p0), some (ti 1), none, none, none, none]) dX12_goesOver_40 rfl rfl rfl ?_
    refine GO.loop1 (fun i17981 W => 0 ≤ i17981 ∧ i17981 ≤ 1 ∧ (MGJ V W x p0 i17981) ∧ True) (fun i17981 => [some (.ref x), some (ti p0), some (ti i17981), none, none, none, none]) (fun i17981 W => (((2 * dsum W x) + i17981)).toNat) 1 ⟨by omega, by omega, (by first | exact MGJ.beg hgi hg0 hW_0 h_x (by omega) (by decide)), trivial⟩ rfl (fun i17981 Wi17981 hp23917 ih23916 => ?_)
    obtain ⟨l_i17981, u_i17981, hgj, -⟩ := hp23917
    have r_i17981 : ir i17981 := ⟨by omega, by omega⟩
    show GO mX12_goesOver K V (VS K (fun V1 => (True) ∧ (MGV V V1 x p0))) K Wi17981 0 0 41 [some (.ref x), some (ti p0), some (ti i17981), none, none, none, none] []
    refine GO.useWT (fun hW23918 => ?_)
    have ak23919 := hW23918.arr h_x 117 95 (by decide) rfl (by decide)
    refine GO.useWT (fun hW => ?_)
    have hds := dsum_nn hW h_x
    refine GO.useFR (fun hFs => ?_)
    have hg1 : MGW V Wi17981 x := MGW.fr hFs hW_0 h_x (by decide +kernel)
    have hg1w : vi Wi17981 x 0 * vi Wi17981 x 1 = vi V x 0 * vi V x 1 := by rw [vi_fr hFs h_x h_x (by decide +kernel), vi_fr hFs h_x h_x (by decide +kernel)]
    refine GO.iload_n dX12_goesOver_41 rfl rfl ?_
    refine GO.if_eq (tgt := 188) dX12_goesOver_42 (by decide) r_i17981 (fun c23920 => ?_) (fun c23920 => ?_)
    ·
      exact GO.retv rfl rfl dX12_goesOver_188 ⟨rfl, rfl, ⟨trivial, MGV.mk hgj (by omega)⟩⟩
    ·
      refine GO.iconst dX12_goesOver_45 ?_
      refine GO.istore_n (ls1 := [some (.ref x), some (ti p0), some (ti 0), none, none, none, none]) dX12_goesOver_46 rfl rfl rfl ?_
      refine GO.iconst dX12_goesOver_47 ?_
      refine GO.istore_n (ls1 := [some (.ref x), some (ti p0), some (ti 0), some (ti 0), none, none, none]) dX12_goesOver_48 rfl rfl rfl ?_
      refine GO.loop2 (fun i23921 i23922 W => 0 ≤ i23921 ∧ i23921 ≤ 1 ∧ 0 ≤ i23922 ∧ i23922 ≤ 144 ∧ (dsum W x ≤ dsum Wi17981 x ∧ (i23921 ≠ 0 → dsum W x < dsum Wi17981 x)) ∧ (MGL V W x p0 i23921 i23922 0) ∧ True) (fun i23921 i23922 => [some (.ref x), some (ti p0), some (ti i23921), some (ti i23922), none, none, none]) (fun i23921 i23922 W => (2147483647 - i23922).toNat) 0 0 ⟨by omega, by omega, by omega, by omega, by omega, (by first | exact MGL.beg hgj rfl), trivial⟩ rfl (fun i23921 i23922 Wi23921 hp26588 ih26587 => ?_)
      obtain ⟨l_i23921, u_i23921, l_i23922, u_i23922, n_i23921, hgk, -⟩ := hp26588
      have r_i23921 : ir i23921 := ⟨by omega, by omega⟩
      have r_i23922 : ir i23922 := ⟨by omega, by omega⟩
      show GO mX12_goesOver K V (VS K (fun V1 => (True) ∧ (MGV V V1 x p0))) K Wi23921 0 0 49 [some (.ref x), some (ti p0), some (ti i23921), some (ti i23922), none, none, none] []
      refine GO.useWT (fun hW26589 => ?_)
      have ak26590 := hW26589.arr h_x 117 95 (by decide) rfl (by decide)
      refine GO.useFR (fun hFs => ?_)
      have hg2 : MGW V Wi23921 x := MGW.fr hFs hW_0 h_x (by decide +kernel)
      have hg2w : vi Wi23921 x 0 * vi Wi23921 x 1 = vi V x 0 * vi V x 1 := by rw [vi_fr hFs h_x h_x (by decide +kernel), vi_fr hFs h_x h_x (by decide +kernel)]
      refine GO.iload_n dX12_goesOver_49 rfl rfl ?_
      refine GO.aload_n dX12_goesOver_50 rfl rfl ?_
      refine GO.getI h_x fl_RX12_365 rfl rfl dX12_goesOver_51 (fun l26591 u26592 => ?_)
      refine GO.aload_n dX12_goesOver_54 rfl rfl ?_
      refine GO.getI h_x fl_RX12_368 rfl rfl dX12_goesOver_55 (fun l26593 u26594 => ?_)
      refine GO.imul dX12_goesOver_58 ?_
      have m26595 := mul_rng (a := vi Wi23921 x 0) (b := vi Wi23921 x 1) (A := 12) (B := 12) (by omega) (by omega) (by omega) (by omega)
      have m26596 := mul_low (a := vi Wi23921 x 0) (b := vi Wi23921 x 1) (m := 4) (n := 4) (by omega) (by omega) (by omega) (by omega)
      refine GO.icmp_ge (tgt := 185) dX12_goesOver_59 (by decide) r_i23922 ⟨by omega, by omega⟩ (fun c26597 => ?_) (fun c26597 => ?_)
      ·
        refine GO.goto (tgt := 41) dX12_goesOver_185 (by decide) ?_
        refine GO.drop [true, true, true, false, true, true, true] rfl ?_
        exact ih23916 i23921 Wi23921 ⟨by omega, by omega, (by first | exact MGJ.beg hgi hg0 hW_0 h_x (by omega) (by decide) | exact MGJ.next hgk hg2 (by omega)), trivial⟩ (by show (((2 * dsum Wi23921 x) + i23921)).toNat < (((2 * dsum Wi17981 x) + i17981)).toNat; omega)
      ·
        refine GO.iconst dX12_goesOver_62 ?_
        refine GO.istore (ls1 := [some (.ref x), some (ti p0), some (ti i23921), some (ti i23922), some (ti 0), none, none]) dX12_goesOver_63 rfl rfl ?_
        refine GO.loop2 (fun i26598 i26599 W => 0 ≤ i26598 ∧ i26598 ≤ 1 ∧ 0 ≤ i26599 ∧ i26599 ≤ 8 ∧ (dsum W x ≤ dsum Wi17981 x ∧ (i26598 ≠ 0 → dsum W x < dsum Wi17981 x)) ∧ (MGL V W x p0 i26598 i23922 i26599) ∧ True) (fun i26598 i26599 => [some (.ref x), some (ti p0), some (ti i26598), some (ti i23922), some (ti i26599), none, none]) (fun i26598 i26599 W => (2147483647 - i26599).toNat) i23921 0 ⟨by omega, by omega, by omega, by omega, by omega, (by first | exact hgk), trivial⟩ rfl (fun i26598 i26599 Wi26598 hp26836 ih26835 => ?_)
        obtain ⟨l_i26598, u_i26598, l_i26599, u_i26599, n_i26598, hgl, -⟩ := hp26836
        have r_i26598 : ir i26598 := ⟨by omega, by omega⟩
        have r_i26599 : ir i26599 := ⟨by omega, by omega⟩
        show GO mX12_goesOver K V (VS K (fun V1 => (True) ∧ (MGV V V1 x p0))) K Wi26598 0 0 65 [some (.ref x), some (ti p0), some (ti i26598), some (ti i23922), some (ti i26599), none, none] []
        refine GO.useWT (fun hW26837 => ?_)
        have ak26838 := hW26837.arr h_x 117 95 (by decide) rfl (by decide)
        refine GO.useFR (fun hFs => ?_)
        have hg3 : MGW V Wi26598 x := MGW.fr hFs hW_0 h_x (by decide +kernel)
        have hg3w : vi Wi26598 x 0 * vi Wi26598 x 1 = vi V x 0 * vi V x 1 := by rw [vi_fr hFs h_x h_x (by decide +kernel), vi_fr hFs h_x h_x (by decide +kernel)]
        refine GO.iload dX12_goesOver_65 rfl ?_
        refine GO.bipush dX12_goesOver_67 rfl ?_
        refine GO.icmp_ge (tgt := 179) dX12_goesOver_69 (by decide) r_i26599 (ir_c rfl) (fun c26839 => ?_) (fun c26839 => ?_)
        ·
          refine GO.iinc (X := i23922) (n := 1) (Y := i23922 + 1) (ls1 := [some (.ref x), some (ti p0), some (ti i26598), some (ti (i23922 + 1)), some (ti i26599), none, none]) dX12_goesOver_179 rfl rfl rfl rfl ?_
          refine GO.goto (tgt := 49) dX12_goesOver_182 (by decide) ?_
          refine GO.drop [true, true, true, true, false, true, true] rfl ?_
          exact ih26587 i26598 (i23922 + 1) Wi26598 ⟨by omega, by omega, by omega, by omega, by omega, (by first | exact MGL.beg hgj rfl | exact MGL.row hgl (by omega) (by omega) (by first | exact Or.inl (by omega) | exact Or.inr (by omega)) (by omega)), trivial⟩ (by show (2147483647 - (i23922 + 1)).toNat < (2147483647 - i23922).toNat; omega)
        ·
          refine GO.aload_n dX12_goesOver_72 rfl rfl ?_
          refine GO.getA (n := 144) h_x fl_RX12_277 rfl rfl rfl rfl dX12_goesOver_73 (fun hv26841 h26840 => ?_)
          refine GO.iload_n dX12_goesOver_76 rfl rfl ?_
          refine GO.iald (t := 95) rfl rfl h26840 r_i23922 (by omega) (by omega) dX12_goesOver_77 (fun l26842 u26843 => ?_)
          refine GO.ldcw (X := 1000000) dX12_goesOver_78 gw_2291 rfl ?_
          refine GO.icmp_ge (tgt := 179) dX12_goesOver_81 (by decide) vi_ir (ir_c rfl) (fun c26844 => ?_) (fun c26844 => ?_)
          ·
            refine GO.iinc (X := i23922) (n := 1) (Y := i23922 + 1) (ls1 := [some (.ref x), some (ti p0), some (ti i26598), some (ti (i23922 + 1)), some (ti i26599), none, none]) dX12_goesOver_179 rfl rfl rfl rfl ?_
            refine GO.goto (tgt := 49) dX12_goesOver_182 (by decide) ?_
            refine GO.drop [true, true, true, true, false, true, true] rfl ?_
            exact ih26587 i26598 (i23922 + 1) Wi26598 ⟨by omega, by omega, by omega, by omega, by omega, (by first | exact MGL.beg hgj rfl | exact MGL.row hgl (by omega) (by omega) (by first | exact Or.inl (by omega) | exact Or.inr (by omega)) (by omega)), trivial⟩ (by show (2147483647 - (i23922 + 1)).toNat < (2147483647 - i23922).toNat; omega)
          ·
            refine GO.aload_n dX12_goesOver_84 rfl rfl ?_
            refine GO.iload_n dX12_goesOver_85 rfl rfl ?_
            refine GO.iload dX12_goesOver_86 rfl ?_
            refine GO.callS (N := mX12_columnStep) dX12_goesOver_88 gS_RX12_639 (t_X12_columnStep r_i26599) rfl [ti i23922, .ref x] rfl rfl (Nat.le_of_ble_eq_true rfl) rfl (k_ip fun X26845 r26846 h26847 => ?_)
            have raw_columnStep := h26847.2
            have rw88 := h26847.2
            refine GO.iload dX12_goesOver_91 rfl ?_
            refine GO.callS (N := mX12_rowStep) dX12_goesOver_93 gS_RX12_642 (t_X12_rowStep r_i26599) rfl [ti X26845, ti i23922, .ref x] rfl rfl (Nat.le_of_ble_eq_true rfl) rfl (k_ip fun X26848 r26849 h26850 => ?_)
            have raw_rowStep := h26850.2
            have rw93 := h26850.2
            refine GO.callV (ci := 11) (N := mX12_moved) dX12_goesOver_96 (RX12, TX12, 151) rfl gV_RX12_645 h_x (t_X12_moved h_x r_i23922 r26846 r26849 (by omega) (by omega) (by omega) (by omega) (by omega) (by omega)) rfl [] rfl rfl (Nat.le_of_ble_eq_true rfl) rfl (k_ip fun X26851 r26852 h26853 => ?_)
            have raw_moved := h26853.2
            have rw96 := h26853.2
            refine GO.istore (ls1 := [some (.ref x), some (ti p0), some (ti i26598), some (ti i23922), some (ti i26599), some (ti X26851), none]) dX12_goesOver_99 rfl rfl ?_
            have hmv := MOV.is rw96 (rw88 (by omega) (by omega)) (rw93 (by omega) (by omega))
            refine GO.iload dX12_goesOver_101 rfl ?_
            refine GO.iconst dX12_goesOver_103 ?_
            refine GO.icmp_eq (tgt := 173) dX12_goesOver_104 (by decide) r26852 (ir_c rfl) (fun c26854 => ?_) (fun c26854 => ?_)
            ·
              refine GO.iinc (X := i26599) (n := 1) (Y := i26599 + 1) (ls1 := [some (.ref x), some (ti p0), some (ti i26598), some (ti i23922), some (ti (i26599 + 1)), some (ti X26851), none]) dX12_goesOver_173 rfl rfl rfl rfl ?_
              refine GO.goto (tgt := 65) dX12_goesOver_176 (by decide) ?_
              refine GO.drop [true, true, true, true, true, false, true] rfl ?_
              exact ih26835 i26598 (i26599 + 1) Wi26598 ⟨by omega, by omega, by omega, by omega, by omega, (by first | exact hgk | exact MGL.n1 hgl hg3 hmv (by omega) (by omega)), trivial⟩ (by show (2147483647 - (i26599 + 1)).toNat < (2147483647 - i26599).toNat; omega)
            ·
              refine GO.aload_n dX12_goesOver_107 rfl rfl ?_
              refine GO.iload dX12_goesOver_108 rfl ?_
              refine GO.callV (ci := 11) (N := mX12_isLand) dX12_goesOver_110 (RX12, TX12, 151) rfl gV_RX12_425 h_x (t_X12_isLand h_x r26852 (by omega) (by omega)) rfl [] rfl rfl (Nat.le_of_ble_eq_true rfl) rfl (k_ip fun X26855 r26856 h26857 => ?_)
              have raw_isLand := h26857.2.2.2
              have rw110 := h26857.2.2.2
              refine GO.if_ne (tgt := 119) dX12_goesOver_113 (by decide) r26856 (fun c26858 => ?_) (fun c26858 => ?_)
              ·
                refine GO.aload_n dX12_goesOver_119 rfl rfl ?_
                refine GO.getRaw h_x fl_RX12_277 hv26841 dX12_goesOver_120 ?_
                refine GO.iload_n dX12_goesOver_123 rfl rfl ?_
                refine GO.iald (t := 95) rfl rfl h26840 r_i23922 (by omega) (by omega) dX12_goesOver_124 (fun l26861 u26862 => ?_)
                refine GO.iconst dX12_goesOver_125 ?_
                refine GO.iadd dX12_goesOver_126 ?_
                refine GO.aload_n dX12_goesOver_127 rfl rfl ?_
                refine GO.getA (n := 144) h_x fl_RX12_16 rfl rfl rfl rfl dX12_goesOver_128 (fun hv26864 h26863 => ?_)
                refine GO.iload dX12_goesOver_131 rfl ?_
                refine GO.iald (t := 9) rfl rfl h26863 r26852 (by omega) (by omega) dX12_goesOver_133 (fun l26865 u26866 => ?_)
                refine GO.aload_n dX12_goesOver_134 rfl rfl ?_
                refine GO.getRaw h_x fl_RX12_16 hv26864 dX12_goesOver_135 ?_
                refine GO.iload_n dX12_goesOver_138 rfl rfl ?_
                refine GO.iald (t := 9) rfl rfl h26863 r_i23922 (by omega) (by omega) dX12_goesOver_139 (fun l26869 u26870 => ?_)
                refine GO.isub dX12_goesOver_140 ?_
                refine GO.callS (N := mX12_size) dX12_goesOver_141 gS_RX12_385 (t_X12_size ⟨by omega, by omega⟩ (by omega) (by omega)) rfl [ti ((vi Wi26598 (vq Wi26598 x 117) (i23922).toNat) + 1)] rfl rfl (Nat.le_of_ble_eq_true rfl) rfl (k_ip fun X26871 r26872 h26873 => ?_)
                have raw_size := h26873.2
                have rw141 := h26873.2
                refine GO.iadd dX12_goesOver_144 ?_
                refine GO.name (fun z26874 hz26875 => ?_)
                refine GO.istore (ls1 := [some (.ref x), some (ti p0), some (ti i26598), some (ti i23922), some (ti i26599), some (ti X26851), some (ti z26874)]) dX12_goesOver_145 rfl rfl ?_
                have hzz : z26874 = z26874 := rfl
                refine GO.iload dX12_goesOver_147 rfl ?_
                refine GO.aload_n dX12_goesOver_149 rfl rfl ?_
                refine GO.getRaw h_x fl_RX12_277 hv26841 dX12_goesOver_150 ?_
                refine GO.iload dX12_goesOver_153 rfl ?_
                refine GO.iald (t := 95) rfl rfl h26840 r26852 (by omega) (by omega) dX12_goesOver_155 (fun l26878 u26879 => ?_)
                refine GO.icmp_lt (tgt := 162) dX12_goesOver_156 (by decide) ⟨by omega, by omega⟩ vi_ir (fun c26880 => ?_) (fun c26880 => ?_)
                ·
                  refine GO.aload_n dX12_goesOver_162 rfl rfl ?_
                  refine GO.getRaw h_x fl_RX12_277 hv26841 dX12_goesOver_163 ?_
                  refine GO.iload dX12_goesOver_166 rfl ?_
                  refine GO.iload dX12_goesOver_168 rfl ?_
                  refine GO.iast (t := 95) rfl rfl (by decide +kernel) h26840 r26852 (by omega) (by omega) ⟨by omega, by omega⟩ (by omega) (by omega) dX12_goesOver_170 (fun V26884 e26883 => ?_)
                  have ak26885 := tk_put e26883 ak26838 h_x (vq_of hv26841) ⟨by omega, by omega⟩ (rfl : ar 117 Wi26598 x = ar 117 Wi26598 x)
                  refine GO.iconst dX12_goesOver_171 ?_
                  refine GO.istore_n (ls1 := [some (.ref x), some (ti p0), some (ti 1), some (ti i23922), some (ti i26599), some (ti X26851), some (ti z26874)]) dX12_goesOver_172 rfl rfl rfl ?_
                  refine GO.iinc (X := i26599) (n := 1) (Y := i26599 + 1) (ls1 := [some (.ref x), some (ti p0), some (ti 1), some (ti i23922), some (ti (i26599 + 1)), some (ti X26851), some (ti z26874)]) dX12_goesOver_173 rfl rfl rfl rfl ?_
                  refine GO.goto (tgt := 65) dX12_goesOver_176 (by decide) ?_
                  refine GO.drop [true, true, true, true, true, false, false] rfl ?_
                  have e26886 : dsum V26884 x = dsum Wi26598 x - vi Wi26598 (vq Wi26598 x 117) (X26851).toNat + z26874 := dsum_put e26883 h_x h26840 (by omega) ⟨by omega, by omega⟩
                  exact ih26835 1 (i26599 + 1) V26884 ⟨by omega, by omega, by omega, by omega, by omega, (by first | exact hgk | exact MGL.n1 hgl hg3 hmv (by omega) (by omega) | exact MGL.n2 hgl hg3 hmv rw110 (by omega) (by omega) | exact MGL.put hgl hg3 hW_0 h_x hmv (by omega) (by omega) (by omega) rw110 (by omega) (by omega) (by omega) (by omega) rw141 (by omega) (by omega) ak26885.2 (by omega) (by decide) | exact MGL.keep hzz hgl hg3 hW_0 h_x hmv (by omega) (by omega) (by omega) rw141 (by omega) (by omega) (by omega)), trivial⟩ (by show (2147483647 - (i26599 + 1)).toNat < (2147483647 - i26599).toNat; omega)
                ·
                  refine GO.goto (tgt := 173) dX12_goesOver_159 (by decide) ?_
                  refine GO.iinc (X := i26599) (n := 1) (Y := i26599 + 1) (ls1 := [some (.ref x), some (ti p0), some (ti i26598), some (ti i23922), some (ti (i26599 + 1)), some (ti X26851), some (ti z26874)]) dX12_goesOver_173 rfl rfl rfl rfl ?_
                  refine GO.goto (tgt := 65) dX12_goesOver_176 (by decide) ?_
                  refine GO.drop [true, true, true, true, true, false, false] rfl ?_
                  exact ih26835 i26598 (i26599 + 1) Wi26598 ⟨by omega, by omega, by omega, by omega, by omega, (by first | exact hgk | exact MGL.n1 hgl hg3 hmv (by omega) (by omega) | exact MGL.n2 hgl hg3 hmv rw110 (by omega) (by omega) | exact MGL.put hgl hg3 hW_0 h_x hmv (by omega) (by omega) (by omega) rw110 (by omega) (by omega) (by omega) (by omega) rw141 (by omega) (by omega) (rfl : ar 117 Wi26598 x = ar 117 Wi26598 x) (by omega) (by decide) | exact MGL.keep hzz hgl hg3 hW_0 h_x hmv (by omega) (by omega) (by omega) rw141 (by omega) (by omega) (by omega)), trivial⟩ (by show (2147483647 - (i26599 + 1)).toNat < (2147483647 - i26599).toNat; omega)
              ·
                refine GO.goto (tgt := 173) dX12_goesOver_116 (by decide) ?_
                refine GO.iinc (X := i26599) (n := 1) (Y := i26599 + 1) (ls1 := [some (.ref x), some (ti p0), some (ti i26598), some (ti i23922), some (ti (i26599 + 1)), some (ti X26851), none]) dX12_goesOver_173 rfl rfl rfl rfl ?_
                refine GO.goto (tgt := 65) dX12_goesOver_176 (by decide) ?_
                refine GO.drop [true, true, true, true, true, false, true] rfl ?_
                exact ih26835 i26598 (i26599 + 1) Wi26598 ⟨by omega, by omega, by omega, by omega, by omega, (by first | exact hgk | exact MGL.n1 hgl hg3 hmv (by omega) (by omega) | exact MGL.n2 hgl hg3 hmv rw110 (by omega) (by omega)), trivial⟩ (by show (2147483647 - (i26599 + 1)).toNat < (2147483647 - i26599).toNat; omega)
  ·
    refine GO.aload_n dX12_goesOver_15 rfl rfl ?_
    refine GO.getA (n := 144) h_x fl_RX12_277 rfl rfl rfl rfl dX12_goesOver_16 (fun hv26888 h26887 => ?_)
    refine GO.iload_n dX12_goesOver_19 rfl rfl ?_
    refine GO.iload_n dX12_goesOver_20 rfl rfl ?_
    refine GO.iload_n dX12_goesOver_21 rfl rfl ?_
    refine GO.icmp_ne (tgt := 29) dX12_goesOver_22 (by decide) r_i3 r_p0 (fun c26889 => ?_) (fun c26889 => ?_)
    ·
      refine GO.ldcw (X := 1000000) dX12_goesOver_29 gw_2291 rfl ?_
      refine GO.iast (t := 95) rfl rfl (by decide +kernel) h26887 r_i3 (by omega) (by omega) (ir_c rfl) (by decide) (by decide) dX12_goesOver_32 (fun V26891 e26890 => ?_)
      have ak26892 := tk_put e26890 ak17973 h_x (vq_of hv26888) (ir_c rfl) (rfl : ar 117 Wi3 x = ar 117 Wi3 x)
      refine GO.iinc (X := i3) (n := 1) (Y := i3 + 1) (ls1 := [some (.ref x), some (ti p0), some (ti (i3 + 1)), none, none, none, none]) dX12_goesOver_33 rfl rfl rfl rfl ?_
      refine GO.goto (tgt := 2) dX12_goesOver_36 (by decide) ?_
      exact ih17970 (i3 + 1) V26891 ⟨by omega, by omega, (by first | exact MGI.beg | exact MGI.step hgi ak26892.2 (by omega) (by omega) (by omega) (by omega)), trivial⟩ (by show (2147483647 - (i3 + 1)).toNat < (2147483647 - i3).toNat; omega)
    ·
      refine GO.iconst dX12_goesOver_25 ?_
      refine GO.goto (tgt := 32) dX12_goesOver_26 (by decide) ?_
      have q26893 : -2147483648 ≤ p0 ∧ p0 ≤ 2147483647 := r_p0
      refine GO.iast (t := 95) rfl rfl (by decide +kernel) h26887 r_i3 (by omega) (by omega) (ir_c rfl) (by decide) (by decide) dX12_goesOver_32 (fun V26895 e26894 => ?_)
      have ak26896 := tk_put e26894 ak17973 h_x (vq_of hv26888) (ir_c rfl) (rfl : ar 117 Wi3 x = ar 117 Wi3 x)
      refine GO.iinc (X := i3) (n := 1) (Y := i3 + 1) (ls1 := [some (.ref x), some (ti p0), some (ti (i3 + 1)), none, none, none, none]) dX12_goesOver_33 rfl rfl rfl rfl ?_
      refine GO.goto (tgt := 2) dX12_goesOver_36 (by decide) ?_
      exact ih17970 (i3 + 1) V26895 ⟨by omega, by omega, (by first | exact MGI.beg | exact MGI.step hgi ak26896.2 (by omega) (by omega) (by omega) (by omega)), trivial⟩ (by show (2147483647 - (i3 + 1)).toNat < (2147483647 - i3).toNat; omega)

set_option maxHeartbeats 1000000 in
theorem t_X12_sledge {K : Kmap} {V : Vmap} {x : Nat} {p0 : Int} {p1 : Int} {p2 : Int} (h_x : K x = some (0, 11)) (r_p0 : ir p0) (r_p1 : ir p1) (r_p2 : ir p2) : MC mX12_sledge K V [.ref x, ti p0, ti p1, ti p2] (IS K (fun X V1 => (X ≥ (-2147483648) ∧ X ≤ 2147483647) ∧ (SGM V V1 x p0 p1 p2 X))) := by
  refine MC.start 1 (by decide +kernel) rfl rfl rfl (ls0 := [some (.ref x), some (ti p0), some (ti p1), some (ti p2), none]) rfl ?_
  refine GO.useWT (fun hW1 => ?_)
  have ak2 := hW1.arr h_x 20 22 (by decide) rfl (by decide)
  have ak3 := hW1.arr h_x 107 85 (by decide) rfl (by decide)
  have ak4 := hW1.arr h_x 108 86 (by decide) rfl (by decide)
  have ak5 := hW1.arr h_x 109 87 (by decide) rfl (by decide)
  have ak6 := hW1.arr h_x 110 88 (by decide) rfl (by decide)
  have ak7 := hW1.arr h_x 111 89 (by decide) rfl (by decide)
  refine GO.useWT (fun hW_0 => ?_)
  refine GO.aload_n dX12_sledge_0 rfl rfl ?_
  refine GO.iload_n dX12_sledge_1 rfl rfl ?_
  refine GO.callV (ci := 11) (N := mX12_stands) dX12_sledge_2 (RX12, TX12, 151) rfl gV_RX12_433 h_x (t_X12_stands h_x r_p0) rfl [] rfl rfl (Nat.le_of_ble_eq_true rfl) rfl (k_ip fun X8 r9 h10 => ?_)
  have raw_stands := h10.2.2.2
  have rw2 := h10.2.2.2
  refine GO.if_eq (tgt := 66) dX12_sledge_5 (by decide) r9 (fun c11 => ?_) (fun c11 => ?_)
  ·
    refine GO.iconst dX12_sledge_66 ?_
    exact GO.reti rfl rfl dX12_sledge_67 ⟨rfl, _, rfl, (ir_c rfl), ⟨(by first | exact trivial | omega), (by first | exact SGM.no (MGD.n1 rw2 (by omega)) rfl | exact SGM.no (MGD.n3 (by omega)) rfl | exact SGM.no (MGD.n4 (by omega)) rfl | exact SGM.no (MGD.n5 (by omega)) rfl | exact SGM.no (MGD.n6 (by omega)) rfl | exact SGM.no (MGD.n7 (by omega)) rfl)⟩⟩
  ·
    have q12 := h10.2.1 (by omega)
    refine GO.aload_n dX12_sledge_8 rfl rfl ?_
    refine GO.iload_n dX12_sledge_9 rfl rfl ?_
    refine GO.callV (ci := 11) (N := mX12_stands) dX12_sledge_10 (RX12, TX12, 151) rfl gV_RX12_433 h_x (t_X12_stands h_x r_p1) rfl [] rfl rfl (Nat.le_of_ble_eq_true rfl) rfl (k_ip fun X13 r14 h15 => ?_)
    have raw_stands := h15.2.2.2
    have rw10 := h15.2.2.2
    refine GO.if_eq (tgt := 66) dX12_sledge_13 (by decide) r14 (fun c16 => ?_) (fun c16 => ?_)
    ·
      refine GO.iconst dX12_sledge_66 ?_
      exact GO.reti rfl rfl dX12_sledge_67 ⟨rfl, _, rfl, (ir_c rfl), ⟨(by first | exact trivial | omega), (by first | exact SGM.no (MGD.n1 rw2 (by omega)) rfl | exact SGM.no (MGD.n2 rw10 (by omega)) rfl | exact SGM.no (MGD.n3 (by omega)) rfl | exact SGM.no (MGD.n4 (by omega)) rfl | exact SGM.no (MGD.n5 (by omega)) rfl | exact SGM.no (MGD.n6 (by omega)) rfl | exact SGM.no (MGD.n7 (by omega)) rfl)⟩⟩
    ·
      have q17 := h15.2.1 (by omega)
      refine GO.iload_n dX12_sledge_16 rfl rfl ?_
      refine GO.iload_n dX12_sledge_17 rfl rfl ?_
      refine GO.icmp_eq (tgt := 66) dX12_sledge_18 (by decide) r_p0 r_p1 (fun c18 => ?_) (fun c18 => ?_)
      ·
        refine GO.iconst dX12_sledge_66 ?_
        exact GO.reti rfl rfl dX12_sledge_67 ⟨rfl, _, rfl, (ir_c rfl), ⟨(by first | exact trivial | omega), (by first | exact SGM.no (MGD.n1 rw2 (by omega)) rfl | exact SGM.no (MGD.n2 rw10 (by omega)) rfl | exact SGM.no (MGD.n3 (by omega)) rfl | exact SGM.no (MGD.n4 (by omega)) rfl | exact SGM.no (MGD.n5 (by omega)) rfl | exact SGM.no (MGD.n6 (by omega)) rfl | exact SGM.no (MGD.n7 (by omega)) rfl)⟩⟩
      ·
        refine GO.aload_n dX12_sledge_21 rfl rfl ?_
        refine GO.getA (n := 60) h_x fl_RX12_38 rfl rfl rfl rfl dX12_sledge_22 (fun hv20 h19 => ?_)
        refine GO.iload_n dX12_sledge_25 rfl rfl ?_
        have q21 : -2147483648 ≤ p0 ∧ p0 ≤ 2147483647 := r_p0
        refine GO.iald (t := 16) rfl rfl h19 r_p0 (by omega) (by omega) dX12_sledge_26 (fun l22 u23 => ?_)
        refine GO.aload_n dX12_sledge_27 rfl rfl ?_
        refine GO.getRaw h_x fl_RX12_38 hv20 dX12_sledge_28 ?_
        refine GO.iload_n dX12_sledge_31 rfl rfl ?_
        have q26 : -2147483648 ≤ p1 ∧ p1 ≤ 2147483647 := r_p1
        refine GO.iald (t := 16) rfl rfl h19 r_p1 (by omega) (by omega) dX12_sledge_32 (fun l27 u28 => ?_)
        refine GO.icmp_ne (tgt := 66) dX12_sledge_33 (by decide) vi_ir vi_ir (fun c29 => ?_) (fun c29 => ?_)
        ·
          refine GO.iconst dX12_sledge_66 ?_
          exact GO.reti rfl rfl dX12_sledge_67 ⟨rfl, _, rfl, (ir_c rfl), ⟨(by first | exact trivial | omega), (by first | exact SGM.no (MGD.n1 rw2 (by omega)) rfl | exact SGM.no (MGD.n2 rw10 (by omega)) rfl | exact SGM.no (MGD.n3 (by omega)) rfl | exact SGM.no (MGD.n4 (by omega)) rfl | exact SGM.no (MGD.n5 (by omega)) rfl | exact SGM.no (MGD.n6 (by omega)) rfl | exact SGM.no (MGD.n7 (by omega)) rfl)⟩⟩
        ·
          refine GO.iload_n dX12_sledge_36 rfl rfl ?_
          refine GO.iconst dX12_sledge_37 ?_
          refine GO.sipush dX12_sledge_38 rfl ?_
          refine GO.callS (N := mX12_in) dX12_sledge_41 gS_RX12_371 (t_X12_in r_p2 (ir_c rfl) (ir_c rfl)) rfl [] rfl rfl (Nat.le_of_ble_eq_true rfl) rfl (k_ip fun X30 r31 h32 => ?_)
          have raw_in := h32.2.2.2
          have rw41 := h32.2.2.2
          refine GO.if_eq (tgt := 66) dX12_sledge_44 (by decide) r31 (fun c33 => ?_) (fun c33 => ?_)
          ·
            have q34 := h32.2.2.1 (by omega)
            refine GO.iconst dX12_sledge_66 ?_
            exact GO.reti rfl rfl dX12_sledge_67 ⟨rfl, _, rfl, (ir_c rfl), ⟨(by first | exact trivial | omega), (by first | exact SGM.no (MGD.n1 rw2 (by omega)) rfl | exact SGM.no (MGD.n2 rw10 (by omega)) rfl | exact SGM.no (MGD.n3 (by omega)) rfl | exact SGM.no (MGD.n4 (by omega)) rfl | exact SGM.no (MGD.n5 (by omega)) rfl | exact SGM.no (MGD.n6 (by omega)) rfl | exact SGM.no (MGD.n7 (by omega)) rfl)⟩⟩
          ·
            have q35 := h32.2.1 (by omega)
            refine GO.iload_n dX12_sledge_47 rfl rfl ?_
            refine GO.aload_n dX12_sledge_48 rfl rfl ?_
            refine GO.getA (n := 60) h_x fl_RX12_56 rfl rfl rfl rfl dX12_sledge_49 (fun hv37 h36 => ?_)
            refine GO.iload_n dX12_sledge_52 rfl rfl ?_
            refine GO.iald (t := 22) rfl rfl h36 r_p0 (by omega) (by omega) dX12_sledge_53 (fun _ _ => ?_)
            refine GO.icmp_gt (tgt := 66) dX12_sledge_54 (by decide) r_p2 vi_ir (fun c38 => ?_) (fun c38 => ?_)
            ·
              refine GO.iconst dX12_sledge_66 ?_
              exact GO.reti rfl rfl dX12_sledge_67 ⟨rfl, _, rfl, (ir_c rfl), ⟨(by first | exact trivial | omega), (by first | exact SGM.no (MGD.n1 rw2 (by omega)) rfl | exact SGM.no (MGD.n2 rw10 (by omega)) rfl | exact SGM.no (MGD.n3 (by omega)) rfl | exact SGM.no (MGD.n4 (by omega)) rfl | exact SGM.no (MGD.n5 (by omega)) rfl | exact SGM.no (MGD.n6 (by omega)) rfl | exact SGM.no (MGD.n7 (by omega)) rfl)⟩⟩
            ·
              refine GO.aload_n dX12_sledge_57 rfl rfl ?_
              refine GO.getI h_x fl_RX12_648 rfl rfl dX12_sledge_58 (fun l39 u40 => ?_)
              refine GO.bipush dX12_sledge_61 rfl ?_
              refine GO.icmp_ne (tgt := 68) dX12_sledge_63 (by decide) vi_ir (ir_c rfl) (fun c41 => ?_) (fun c41 => ?_)
              ·
                refine GO.aload_n dX12_sledge_68 rfl rfl ?_
                refine GO.aload_n dX12_sledge_69 rfl rfl ?_
                refine GO.getA (n := 60) h_x fl_RX12_41 rfl rfl rfl rfl dX12_sledge_70 (fun hv43 h42 => ?_)
                refine GO.iload_n dX12_sledge_73 rfl rfl ?_
                refine GO.iald (t := 17) rfl rfl h42 r_p0 (by omega) (by omega) dX12_sledge_74 (fun l44 u45 => ?_)
                refine GO.callV (ci := 11) (N := mX12_goesOver) dX12_sledge_75 (RX12, TX12, 151) rfl gV_RX12_651 h_x (t_X12_goesOver h_x vi_ir (by omega) (by omega)) rfl [] rfl rfl (Nat.le_of_ble_eq_true rfl) rfl (k_vs fun V48 h47 hF46 => ?_)
                have ak49 := tk_fr hF46 ak2 h_x (by decide +kernel) (by decide +kernel) (rfl : ar 20 V x = ar 20 V x)
                have ak50 := tk_fr hF46 ak3 h_x (by decide +kernel) (by decide +kernel) (rfl : ar 107 V x = ar 107 V x)
                have ak51 := tk_fr hF46 ak4 h_x (by decide +kernel) (by decide +kernel) (rfl : ar 108 V x = ar 108 V x)
                have ak52 := tk_fr hF46 ak5 h_x (by decide +kernel) (by decide +kernel) (rfl : ar 109 V x = ar 109 V x)
                have ak53 := tk_fr hF46 ak6 h_x (by decide +kernel) (by decide +kernel) (rfl : ar 110 V x = ar 110 V x)
                have ak54 := tk_fr hF46 ak7 h_x (by decide +kernel) (by decide +kernel) (rfl : ar 111 V x = ar 111 V x)
                have raw_goesOver := h47.2
                have rw75 := h47.2
                refine GO.aload_n dX12_sledge_78 rfl rfl ?_
                refine GO.getA (n := 144) h_x fl_RX12_277 rfl rfl rfl rfl dX12_sledge_79 (fun hv56 h55 => ?_)
                refine GO.aload_n dX12_sledge_82 rfl rfl ?_
                refine GO.getRaw h_x fl_RX12_41 (Eq.trans (hF46 _ _ _ h_x h_x (by decide +kernel)) hv43) dX12_sledge_83 ?_
                refine GO.iload_n dX12_sledge_86 rfl rfl ?_
                refine GO.iald (t := 17) rfl rfl h42 r_p1 (by omega) (by omega) dX12_sledge_87 (fun l59 u60 => ?_)
                have h15q : vi V48 (vq V x 15) (p1).toNat = vi V (vq V x 15) (p1).toNat := vi_frA hF46 (show K (vq V x 15) = some (17 + 1, 60) by assumption) (show K (vq V x 15) = some (17 + 1, 60) by assumption) (by decide +kernel)
                refine GO.iald (t := 95) rfl rfl h55 vi_ir (by omega) (by omega) dX12_sledge_88 (fun l62 u63 => ?_)
                refine GO.name (fun z65 hz66 => ?_)
                have r67 : ir z65 := hz66 ▸ vi_ir
                refine GO.istore (ls1 := [some (.ref x), some (ti p0), some (ti p1), some (ti p2), some (ti z65)]) dX12_sledge_89 rfl rfl ?_
                refine GO.iload dX12_sledge_91 rfl ?_
                refine GO.iload_n dX12_sledge_93 rfl rfl ?_
                refine GO.icmp_lt (tgt := 99) dX12_sledge_94 (by decide) r67 r_p2 (fun c68 => ?_) (fun c68 => ?_)
                ·
                  refine GO.aload_n dX12_sledge_99 rfl rfl ?_
                  refine GO.getRaw h_x fl_RX12_56 (Eq.trans (hF46 _ _ _ h_x h_x (by decide +kernel)) hv37) dX12_sledge_100 ?_
                  refine GO.iload_n dX12_sledge_103 rfl rfl ?_
                  refine GO.aload_n dX12_sledge_104 rfl rfl ?_
                  refine GO.getRaw h_x fl_RX12_56 (Eq.trans (hF46 _ _ _ h_x h_x (by decide +kernel)) hv37) dX12_sledge_105 ?_
                  refine GO.iload_n dX12_sledge_108 rfl rfl ?_
                  refine GO.iald (t := 22) rfl rfl h36 r_p0 (by omega) (by omega) dX12_sledge_109 (fun _ _ => ?_)
                  have e73 : vi V48 (vq V x 20) (p0).toNat = vi V (vq V x 20) (p0).toNat := vi_frA hF46 h36 h36 (by decide +kernel)
                  refine GO.iload_n dX12_sledge_110 rfl rfl ?_
                  refine GO.isub dX12_sledge_111 ?_
                  have q75 : -2147483648 ≤ p2 ∧ p2 ≤ 2147483647 := r_p2
                  have q76 : -2147483648 ≤ vi V (vq V x 20) (p0).toNat ∧ vi V (vq V x 20) (p0).toNat ≤ 2147483647 := vi_ir
                  have q77 : -2147483648 ≤ vi V48 (vq V x 20) (p0).toNat ∧ vi V48 (vq V x 20) (p0).toNat ≤ 2147483647 := vi_ir
                  refine GO.iast (t := 22) rfl rfl (by decide +kernel) h36 r_p0 (by omega) (by omega) ⟨by omega, by omega⟩ (by omega) (by omega) dX12_sledge_112 (fun V78 e74 => ?_)
                  have ak79 := tk_put e74 ak49.1 h_x (vq_of (Eq.trans (hF46 _ _ _ h_x h_x (by decide +kernel)) hv37)) ⟨by omega, by omega⟩ ak49.2
                  have ak80 := tk_oth e74 ak50.1 h_x h36 (by decide) (by decide) ak50.2
                  have ak81 := tk_oth e74 ak51.1 h_x h36 (by decide) (by decide) ak51.2
                  have ak82 := tk_oth e74 ak52.1 h_x h36 (by decide) (by decide) ak52.2
                  have ak83 := tk_oth e74 ak53.1 h_x h36 (by decide) (by decide) ak53.2
                  have ak84 := tk_oth e74 ak54.1 h_x h36 (by decide) (by decide) ak54.2
                  refine GO.aload_n dX12_sledge_113 rfl rfl ?_
                  refine GO.aload_n dX12_sledge_114 rfl rfl ?_
                  refine GO.getL h_x fl_RX12_654 rfl rfl dX12_sledge_115 ?_
                  refine GO.anyL (fun z85 => ?_)
                  refine GO.iload dX12_sledge_118 rfl ?_
                  refine GO.i2l dX12_sledge_120 ?_
                  refine GO.anyL (fun z86 => ?_)
                  refine GO.ladd dX12_sledge_121 ?_
                  refine GO.anyL (fun z87 => ?_)
                  refine GO.putL h_x fp_RX12_654 rfl (by decide +kernel) dX12_sledge_122 (fun V89 e88 => ?_)
                  have ak90 := tk_fld e88 ak79.1 h_x (by decide) ak79.2
                  have ak91 := tk_fld e88 ak80.1 h_x (by decide) ak80.2
                  have ak92 := tk_fld e88 ak81.1 h_x (by decide) ak81.2
                  have ak93 := tk_fld e88 ak82.1 h_x (by decide) ak82.2
                  have ak94 := tk_fld e88 ak83.1 h_x (by decide) ak83.2
                  have ak95 := tk_fld e88 ak84.1 h_x (by decide) ak84.2
                  refine GO.aload_n dX12_sledge_125 rfl rfl ?_
                  refine GO.getA (n := 40) h_x fl_RX12_247 rfl rfl rfl rfl dX12_sledge_126 (fun hv97 h96 => ?_)
                  refine GO.aload_n dX12_sledge_129 rfl rfl ?_
                  refine GO.getI h_x fl_RX12_648 rfl rfl dX12_sledge_130 (fun l98 u99 => ?_)
                  have e102 : vi V48 x 92 = vi V x 92 := vi_fr hF46 h_x h_x (by decide +kernel)
                  have e101 : vi V78 x 92 = vi V48 x 92 := vi_up e74 (Or.inl (K_ne h_x h36 (by decide)))
                  have e100 : vi V89 x 92 = vi V78 x 92 := vi_up e88 (Or.inr (by decide))
                  refine GO.iload_n dX12_sledge_133 rfl rfl ?_
                  refine GO.iast (t := 85) rfl rfl (by decide +kernel) h96 vi_ir (by omega) (by omega) r_p1 (by omega) (by omega) dX12_sledge_134 (fun V104 e103 => ?_)
                  have ak105 := tk_oth e103 ak90.1 h_x h96 (by decide) (by decide) ak90.2
                  have ak106 := tk_put e103 ak91.1 h_x (vq_of hv97) r_p1 ak91.2
                  have ak107 := tk_oth e103 ak92.1 h_x h96 (by decide) (by decide) ak92.2
                  have ak108 := tk_oth e103 ak93.1 h_x h96 (by decide) (by decide) ak93.2
                  have ak109 := tk_oth e103 ak94.1 h_x h96 (by decide) (by decide) ak94.2
                  have ak110 := tk_oth e103 ak95.1 h_x h96 (by decide) (by decide) ak95.2
                  refine GO.aload_n dX12_sledge_135 rfl rfl ?_
                  refine GO.getA (n := 40) h_x fl_RX12_250 rfl rfl rfl rfl dX12_sledge_136 (fun hv112 h111 => ?_)
                  refine GO.aload_n dX12_sledge_139 rfl rfl ?_
                  refine GO.getI h_x fl_RX12_648 rfl rfl dX12_sledge_140 (fun l113 u114 => ?_)
                  have e115 : vi V104 x 92 = vi V89 x 92 := vi_up e103 (Or.inl (K_ne h_x h96 (by decide)))
                  refine GO.aload_n dX12_sledge_143 rfl rfl ?_
                  refine GO.getRaw h_x fl_RX12_41 (Eq.trans (uq_ne e103 (Or.inl (K_ne h_x h96 (by decide)))) (Eq.trans (uq_ne e88 (Or.inr (by decide))) (Eq.trans (uq_ne e74 (Or.inl (K_ne h_x h36 (by decide)))) (Eq.trans (hF46 _ _ _ h_x h_x (by decide +kernel)) hv43)))) dX12_sledge_144 ?_
                  refine GO.iload_n dX12_sledge_147 rfl rfl ?_
                  refine GO.iald (t := 17) rfl rfl h42 r_p1 (by omega) (by omega) dX12_sledge_148 (fun l118 u119 => ?_)
                  have e122 : vi V78 (vq V x 15) (p1).toNat = vi V48 (vq V x 15) (p1).toNat := vi_up e74 (Or.inl (K_ne h42 h36 (by decide)))
                  have e121 : vi V89 (vq V x 15) (p1).toNat = vi V78 (vq V x 15) (p1).toNat := vi_up e88 (Or.inl (K_ne h42 h_x (by decide)))
                  have e120 : vi V104 (vq V x 15) (p1).toNat = vi V89 (vq V x 15) (p1).toNat := vi_up e103 (Or.inl (K_ne h42 h96 (by decide)))
                  refine GO.iast (t := 86) rfl rfl (by decide +kernel) h111 vi_ir (by omega) (by omega) vi_ir (vi_ir).1 (vi_ir).2 dX12_sledge_149 (fun V124 e123 => ?_)
                  have ak125 := tk_oth e123 ak105.1 h_x h111 (by decide) (by decide) ak105.2
                  have ak126 := tk_oth e123 ak106.1 h_x h111 (by decide) (by decide) ak106.2
                  have ak127 := tk_put e123 ak107.1 h_x (vq_of hv112) vi_ir ak107.2
                  have ak128 := tk_oth e123 ak108.1 h_x h111 (by decide) (by decide) ak108.2
                  have ak129 := tk_oth e123 ak109.1 h_x h111 (by decide) (by decide) ak109.2
                  have ak130 := tk_oth e123 ak110.1 h_x h111 (by decide) (by decide) ak110.2
                  refine GO.aload_n dX12_sledge_150 rfl rfl ?_
                  refine GO.getA (n := 40) h_x fl_RX12_253 rfl rfl rfl rfl dX12_sledge_151 (fun hv132 h131 => ?_)
                  refine GO.aload_n dX12_sledge_154 rfl rfl ?_
                  refine GO.getI h_x fl_RX12_648 rfl rfl dX12_sledge_155 (fun l133 u134 => ?_)
                  have e135 : vi V124 x 92 = vi V104 x 92 := vi_up e123 (Or.inl (K_ne h_x h111 (by decide)))
                  refine GO.iload_n dX12_sledge_158 rfl rfl ?_
                  refine GO.iload dX12_sledge_159 rfl ?_
                  refine GO.isub dX12_sledge_161 ?_
                  refine GO.iast (t := 87) rfl rfl (by decide +kernel) h131 vi_ir (by omega) (by omega) ⟨by omega, by omega⟩ (by omega) (by omega) dX12_sledge_162 (fun V137 e136 => ?_)
                  have ak138 := tk_oth e136 ak125.1 h_x h131 (by decide) (by decide) ak125.2
                  have ak139 := tk_oth e136 ak126.1 h_x h131 (by decide) (by decide) ak126.2
                  have ak140 := tk_oth e136 ak127.1 h_x h131 (by decide) (by decide) ak127.2
                  have ak141 := tk_put e136 ak128.1 h_x (vq_of hv132) ⟨by omega, by omega⟩ ak128.2
                  have ak142 := tk_oth e136 ak129.1 h_x h131 (by decide) (by decide) ak129.2
                  have ak143 := tk_oth e136 ak130.1 h_x h131 (by decide) (by decide) ak130.2
                  refine GO.aload_n dX12_sledge_163 rfl rfl ?_
                  refine GO.getA (n := 40) h_x fl_RX12_256 rfl rfl rfl rfl dX12_sledge_164 (fun hv145 h144 => ?_)
                  refine GO.useFR (fun hFs => ?_)
                  have h110 : vq V137 x 110 = vq V x 110 := vq_eq (hFs _ _ 110 h_x h_x (by decide +kernel))
                  refine GO.aload_n dX12_sledge_167 rfl rfl ?_
                  refine GO.getI h_x fl_RX12_648 rfl rfl dX12_sledge_168 (fun l146 u147 => ?_)
                  have e148 : vi V137 x 92 = vi V124 x 92 := vi_up e136 (Or.inl (K_ne h_x h131 (by decide)))
                  refine GO.aload_n dX12_sledge_171 rfl rfl ?_
                  refine GO.getI h_x fl_RX12_396 rfl rfl dX12_sledge_172 (fun l149 u150 => ?_)
                  refine GO.useFR (fun hFs => ?_)
                  have hnow : vi V137 x 2 = vi V x 2 := vi_fr hFs h_x h_x (by decide +kernel)
                  refine GO.iload dX12_sledge_175 rfl ?_
                  refine GO.if_le (tgt := 185) dX12_sledge_177 (by decide) r67 (fun c157 => ?_) (fun c157 => ?_)
                  ·
                    refine GO.iconst dX12_sledge_185 ?_
                    refine GO.iadd dX12_sledge_186 ?_
                    refine GO.iast (t := 88) rfl rfl (by decide +kernel) h144 vi_ir (by omega) (by omega) ⟨by omega, by omega⟩ (by omega) (by omega) dX12_sledge_187 (fun V159 e158 => ?_)
                    have ak160 := tk_oth e158 ak138.1 h_x h144 (by decide) (by decide) ak138.2
                    have ak161 := tk_oth e158 ak139.1 h_x h144 (by decide) (by decide) ak139.2
                    have ak162 := tk_oth e158 ak140.1 h_x h144 (by decide) (by decide) ak140.2
                    have ak163 := tk_oth e158 ak141.1 h_x h144 (by decide) (by decide) ak141.2
                    have ak164 := tk_put e158 ak142.1 h_x (vq_of hv145) ⟨by omega, by omega⟩ ak142.2
                    have ak165 := tk_oth e158 ak143.1 h_x h144 (by decide) (by decide) ak143.2
                    refine GO.aload_n dX12_sledge_188 rfl rfl ?_
                    refine GO.getA (n := 40) h_x fl_RX12_259 rfl rfl rfl rfl dX12_sledge_189 (fun hv167 h166 => ?_)
                    refine GO.aload_n dX12_sledge_192 rfl rfl ?_
                    refine GO.getI h_x fl_RX12_648 rfl rfl dX12_sledge_193 (fun l168 u169 => ?_)
                    have e170 : vi V159 x 92 = vi V137 x 92 := vi_up e158 (Or.inl (K_ne h_x h144 (by decide)))
                    refine GO.iconst dX12_sledge_196 ?_
                    refine GO.zast (t := 89) rfl rfl (by decide +kernel) h166 vi_ir (by omega) (by omega) (by omega) (by omega) (by omega) dX12_sledge_197 (fun V172 e171 => ?_)
                    have ak173 := tk_oth e171 ak160.1 h_x h166 (by decide) (by decide) ak160.2
                    have ak174 := tk_oth e171 ak161.1 h_x h166 (by decide) (by decide) ak161.2
                    have ak175 := tk_oth e171 ak162.1 h_x h166 (by decide) (by decide) ak162.2
                    have ak176 := tk_oth e171 ak163.1 h_x h166 (by decide) (by decide) ak163.2
                    have ak177 := tk_oth e171 ak164.1 h_x h166 (by decide) (by decide) ak164.2
                    have ak178 := tk_put e171 ak165.1 h_x (vq_of hv167) ⟨by omega, by omega⟩ ak165.2
                    refine GO.aload_n dX12_sledge_198 rfl rfl ?_
                    refine GO.aload_n dX12_sledge_199 rfl rfl ?_
                    refine GO.getI h_x fl_RX12_648 rfl rfl dX12_sledge_200 (fun l179 u180 => ?_)
                    have e181 : vi V172 x 92 = vi V159 x 92 := vi_up e171 (Or.inl (K_ne h_x h166 (by decide)))
                    refine GO.iconst dX12_sledge_203 ?_
                    refine GO.iadd dX12_sledge_204 ?_
                    refine GO.putI h_x fp_RX12_648 rfl (by decide +kernel) ⟨by omega, by omega⟩ (by omega) (by omega) dX12_sledge_205 (fun V183 e182 => ?_)
                    have ak184 := tk_fld e182 ak173.1 h_x (by decide) ak173.2
                    have ak185 := tk_fld e182 ak174.1 h_x (by decide) ak174.2
                    have ak186 := tk_fld e182 ak175.1 h_x (by decide) ak175.2
                    have ak187 := tk_fld e182 ak176.1 h_x (by decide) ak176.2
                    have ak188 := tk_fld e182 ak177.1 h_x (by decide) ak177.2
                    have ak189 := tk_fld e182 ak178.1 h_x (by decide) ak178.2
                    refine GO.aload_n dX12_sledge_208 rfl rfl ?_
                    refine GO.getRaw h_x fl_RX12_256 (Eq.trans (uq_ne e182 (Or.inr (by decide))) (Eq.trans (uq_ne e171 (Or.inl (K_ne h_x h166 (by decide)))) (Eq.trans (uq_ne e158 (Or.inl (K_ne h_x h144 (by decide)))) hv145))) dX12_sledge_209 ?_
                    refine GO.aload_n dX12_sledge_212 rfl rfl ?_
                    refine GO.getI h_x fl_RX12_648 rfl rfl dX12_sledge_213 (fun l192 u193 => ?_)
                    have e194 : vi V183 x 92 = (vi V172 x 92) + 1 := upd2_int e182 ⟨by omega, by omega⟩
                    refine GO.iconst dX12_sledge_216 ?_
                    refine GO.isub dX12_sledge_217 ?_
                    refine GO.iald (t := 88) rfl rfl h144 ⟨by omega, by omega⟩ (by omega) (by omega) dX12_sledge_218 (fun _ _ => ?_)
                    refine GO.useFR (fun hFs => ?_)
                    have h110e : vq V183 x 110 = vq V x 110 := vq_eq (hFs _ _ 110 h_x h_x (by decide +kernel))
                    have q198 : -2147483648 ≤ vi V183 (vq V137 x 110) ((vi V183 x 92) - 1).toNat ∧ vi V183 (vq V137 x 110) ((vi V183 x 92) - 1).toNat ≤ 2147483647 := vi_ir
                    exact GO.reti rfl rfl dX12_sledge_219 ⟨rfl, _, rfl, vi_ir, ⟨(by first | exact trivial | omega), (by first | exact SGM.no (MGD.n1 rw2 (by omega)) rfl | exact SGM.no (MGD.n2 rw10 (by omega)) rfl | exact SGM.no (MGD.n3 (by omega)) rfl | exact SGM.no (MGD.n4 (by omega)) rfl | exact SGM.no (MGD.n5 (by omega)) rfl | exact SGM.no (MGD.n6 (by omega)) rfl | exact SGM.no (MGD.n7 (by omega)) rfl | exact SGM.lo (MGD.ys rw2 (by omega) rw10 (by omega) (by omega) (by omega) (by omega) (by omega) (by omega)) rw75 (by assumption) (by omega) (by omega) (by omega) rfl (rs_same hF46 ext.rf hW_0 h_x (by decide +kernel) (by decide +kernel)).1 (sm_fr hF46 ext.rf hW_0 h_x (by decide +kernel)).2 (sm_fr hF46 ext.rf hW_0 h_x (by decide +kernel)).1 | exact SGM.ok (MGD.ys rw2 (by omega) rw10 (by omega) (by omega) (by omega) (by omega) (by omega) (by omega)) rw75 (by assumption) (by omega) (by omega) (by omega) ak184.2 (by omega) (by omega) vi_ir ak185.2 ak186.2 (by omega) ak187.2 (by omega) ak188.2 (by split <;> omega) ak189.2 (by omega) (by omega) (by omega) (by omega) (by omega) (by omega) rfl h110 h110e (by omega) (arq hFs ext.rf h_x (hW_0.ref h_x (j := 19) (Nat.le_of_ble_eq_true rfl) rfl).2 (by decide +kernel) (by decide +kernel)) (arq hFs ext.rf h_x (hW_0.ref h_x (j := 21) (Nat.le_of_ble_eq_true rfl) rfl).2 (by decide +kernel) (by decide +kernel)) (arq hFs ext.rf h_x (hW_0.ref h_x (j := 22) (Nat.le_of_ble_eq_true rfl) rfl).2 (by decide +kernel) (by decide +kernel)) (arq hFs ext.rf h_x (hW_0.ref h_x (j := 23) (Nat.le_of_ble_eq_true rfl) rfl).2 (by decide +kernel) (by decide +kernel)) (arq hFs ext.rf h_x (hW_0.ref h_x (j := 28) (Nat.le_of_ble_eq_true rfl) rfl).2 (by decide +kernel) (by decide +kernel)))⟩⟩
                  ·
                    refine GO.iload dX12_sledge_180 rfl ?_
                    refine GO.goto (tgt := 186) dX12_sledge_182 (by decide) ?_
                    refine GO.iadd dX12_sledge_186 ?_
                    refine GO.iast (t := 88) rfl rfl (by decide +kernel) h144 vi_ir (by omega) (by omega) ⟨by omega, by omega⟩ (by omega) (by omega) dX12_sledge_187 (fun V200 e199 => ?_)
                    have ak201 := tk_oth e199 ak138.1 h_x h144 (by decide) (by decide) ak138.2
                    have ak202 := tk_oth e199 ak139.1 h_x h144 (by decide) (by decide) ak139.2
                    have ak203 := tk_oth e199 ak140.1 h_x h144 (by decide) (by decide) ak140.2
                    have ak204 := tk_oth e199 ak141.1 h_x h144 (by decide) (by decide) ak141.2
                    have ak205 := tk_put e199 ak142.1 h_x (vq_of hv145) ⟨by omega, by omega⟩ ak142.2
                    have ak206 := tk_oth e199 ak143.1 h_x h144 (by decide) (by decide) ak143.2
                    refine GO.aload_n dX12_sledge_188 rfl rfl ?_
                    refine GO.getA (n := 40) h_x fl_RX12_259 rfl rfl rfl rfl dX12_sledge_189 (fun hv208 h207 => ?_)
                    refine GO.aload_n dX12_sledge_192 rfl rfl ?_
                    refine GO.getI h_x fl_RX12_648 rfl rfl dX12_sledge_193 (fun l209 u210 => ?_)
                    have e211 : vi V200 x 92 = vi V137 x 92 := vi_up e199 (Or.inl (K_ne h_x h144 (by decide)))
                    refine GO.iconst dX12_sledge_196 ?_
                    refine GO.zast (t := 89) rfl rfl (by decide +kernel) h207 vi_ir (by omega) (by omega) (by omega) (by omega) (by omega) dX12_sledge_197 (fun V213 e212 => ?_)
                    have ak214 := tk_oth e212 ak201.1 h_x h207 (by decide) (by decide) ak201.2
                    have ak215 := tk_oth e212 ak202.1 h_x h207 (by decide) (by decide) ak202.2
                    have ak216 := tk_oth e212 ak203.1 h_x h207 (by decide) (by decide) ak203.2
                    have ak217 := tk_oth e212 ak204.1 h_x h207 (by decide) (by decide) ak204.2
                    have ak218 := tk_oth e212 ak205.1 h_x h207 (by decide) (by decide) ak205.2
                    have ak219 := tk_put e212 ak206.1 h_x (vq_of hv208) ⟨by omega, by omega⟩ ak206.2
                    refine GO.aload_n dX12_sledge_198 rfl rfl ?_
                    refine GO.aload_n dX12_sledge_199 rfl rfl ?_
                    refine GO.getI h_x fl_RX12_648 rfl rfl dX12_sledge_200 (fun l220 u221 => ?_)
                    have e222 : vi V213 x 92 = vi V200 x 92 := vi_up e212 (Or.inl (K_ne h_x h207 (by decide)))
                    refine GO.iconst dX12_sledge_203 ?_
                    refine GO.iadd dX12_sledge_204 ?_
                    refine GO.putI h_x fp_RX12_648 rfl (by decide +kernel) ⟨by omega, by omega⟩ (by omega) (by omega) dX12_sledge_205 (fun V224 e223 => ?_)
                    have ak225 := tk_fld e223 ak214.1 h_x (by decide) ak214.2
                    have ak226 := tk_fld e223 ak215.1 h_x (by decide) ak215.2
                    have ak227 := tk_fld e223 ak216.1 h_x (by decide) ak216.2
                    have ak228 := tk_fld e223 ak217.1 h_x (by decide) ak217.2
                    have ak229 := tk_fld e223 ak218.1 h_x (by decide) ak218.2
                    have ak230 := tk_fld e223 ak219.1 h_x (by decide) ak219.2
                    refine GO.aload_n dX12_sledge_208 rfl rfl ?_
                    refine GO.getRaw h_x fl_RX12_256 (Eq.trans (uq_ne e223 (Or.inr (by decide))) (Eq.trans (uq_ne e212 (Or.inl (K_ne h_x h207 (by decide)))) (Eq.trans (uq_ne e199 (Or.inl (K_ne h_x h144 (by decide)))) hv145))) dX12_sledge_209 ?_
                    refine GO.aload_n dX12_sledge_212 rfl rfl ?_
                    refine GO.getI h_x fl_RX12_648 rfl rfl dX12_sledge_213 (fun l233 u234 => ?_)
                    have e235 : vi V224 x 92 = (vi V213 x 92) + 1 := upd2_int e223 ⟨by omega, by omega⟩
                    refine GO.iconst dX12_sledge_216 ?_
                    refine GO.isub dX12_sledge_217 ?_
                    refine GO.iald (t := 88) rfl rfl h144 ⟨by omega, by omega⟩ (by omega) (by omega) dX12_sledge_218 (fun _ _ => ?_)
                    refine GO.useFR (fun hFs => ?_)
                    have h110e : vq V224 x 110 = vq V x 110 := vq_eq (hFs _ _ 110 h_x h_x (by decide +kernel))
                    have q239 : -2147483648 ≤ vi V224 (vq V137 x 110) ((vi V224 x 92) - 1).toNat ∧ vi V224 (vq V137 x 110) ((vi V224 x 92) - 1).toNat ≤ 2147483647 := vi_ir
                    exact GO.reti rfl rfl dX12_sledge_219 ⟨rfl, _, rfl, vi_ir, ⟨(by first | exact trivial | omega), (by first | exact SGM.no (MGD.n1 rw2 (by omega)) rfl | exact SGM.no (MGD.n2 rw10 (by omega)) rfl | exact SGM.no (MGD.n3 (by omega)) rfl | exact SGM.no (MGD.n4 (by omega)) rfl | exact SGM.no (MGD.n5 (by omega)) rfl | exact SGM.no (MGD.n6 (by omega)) rfl | exact SGM.no (MGD.n7 (by omega)) rfl | exact SGM.lo (MGD.ys rw2 (by omega) rw10 (by omega) (by omega) (by omega) (by omega) (by omega) (by omega)) rw75 (by assumption) (by omega) (by omega) (by omega) rfl (rs_same hF46 ext.rf hW_0 h_x (by decide +kernel) (by decide +kernel)).1 (sm_fr hF46 ext.rf hW_0 h_x (by decide +kernel)).2 (sm_fr hF46 ext.rf hW_0 h_x (by decide +kernel)).1 | exact SGM.ok (MGD.ys rw2 (by omega) rw10 (by omega) (by omega) (by omega) (by omega) (by omega) (by omega)) rw75 (by assumption) (by omega) (by omega) (by omega) ak225.2 (by omega) (by omega) vi_ir ak226.2 ak227.2 (by omega) ak228.2 (by omega) ak229.2 (by split <;> omega) ak230.2 (by omega) (by omega) (by omega) (by omega) (by omega) (by omega) rfl h110 h110e (by omega) (arq hFs ext.rf h_x (hW_0.ref h_x (j := 19) (Nat.le_of_ble_eq_true rfl) rfl).2 (by decide +kernel) (by decide +kernel)) (arq hFs ext.rf h_x (hW_0.ref h_x (j := 21) (Nat.le_of_ble_eq_true rfl) rfl).2 (by decide +kernel) (by decide +kernel)) (arq hFs ext.rf h_x (hW_0.ref h_x (j := 22) (Nat.le_of_ble_eq_true rfl) rfl).2 (by decide +kernel) (by decide +kernel)) (arq hFs ext.rf h_x (hW_0.ref h_x (j := 23) (Nat.le_of_ble_eq_true rfl) rfl).2 (by decide +kernel) (by decide +kernel)) (arq hFs ext.rf h_x (hW_0.ref h_x (j := 28) (Nat.le_of_ble_eq_true rfl) rfl).2 (by decide +kernel) (by decide +kernel)))⟩⟩
                ·
                  refine GO.iconst dX12_sledge_97 ?_
                  exact GO.reti rfl rfl dX12_sledge_98 ⟨rfl, _, rfl, (ir_c rfl), ⟨(by first | exact trivial | omega), (by first | exact SGM.no (MGD.n1 rw2 (by omega)) rfl | exact SGM.no (MGD.n2 rw10 (by omega)) rfl | exact SGM.no (MGD.n3 (by omega)) rfl | exact SGM.no (MGD.n4 (by omega)) rfl | exact SGM.no (MGD.n5 (by omega)) rfl | exact SGM.no (MGD.n6 (by omega)) rfl | exact SGM.no (MGD.n7 (by omega)) rfl | exact SGM.lo (MGD.ys rw2 (by omega) rw10 (by omega) (by omega) (by omega) (by omega) (by omega) (by omega)) rw75 (by assumption) (by omega) (by omega) (by omega) rfl (rs_same hF46 ext.rf hW_0 h_x (by decide +kernel) (by decide +kernel)).1 (sm_fr hF46 ext.rf hW_0 h_x (by decide +kernel)).2 (sm_fr hF46 ext.rf hW_0 h_x (by decide +kernel)).1)⟩⟩
              ·
                refine GO.iconst dX12_sledge_66 ?_
                exact GO.reti rfl rfl dX12_sledge_67 ⟨rfl, _, rfl, (ir_c rfl), ⟨(by first | exact trivial | omega), (by first | exact SGM.no (MGD.n1 rw2 (by omega)) rfl | exact SGM.no (MGD.n2 rw10 (by omega)) rfl | exact SGM.no (MGD.n3 (by omega)) rfl | exact SGM.no (MGD.n4 (by omega)) rfl | exact SGM.no (MGD.n5 (by omega)) rfl | exact SGM.no (MGD.n6 (by omega)) rfl | exact SGM.no (MGD.n7 (by omega)) rfl)⟩⟩
