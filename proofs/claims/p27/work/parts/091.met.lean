def mX12_goesHome : MRec := (RX12, cX12_goesHome, 2, (none : Option Jvm.ClassFile.FieldType), yX12_goesHome, 0, 0, 0, 0, 7957171782556586274486116793101412102210319490242154757722676121658484768990465682833408)
def mX12_burns : MRec := (RX12, cX12_burns, 6, (none : Option Jvm.ClassFile.FieldType), yX12_burns, 2, 43, 0, 0, 214843638129027829411125132137878420770647378060960075861519397890811451078565434046283776)
def mX12_loses : MRec := (RX12, cX12_loses, 3, (none : Option Jvm.ClassFile.FieldType), yX12_loses, 1, 21, 0, 0, 4257086903667773656850072045190937748293802271580823593866174309460010458348797794520662016)
def mX12_flows : MRec := (RX12, cX12_flows, 8, (none : Option Jvm.ClassFile.FieldType), yX12_flows, 2, 47, 0, 0, 4261562812795461736629470485424259135854706376937999723323138485252048893821910594900459520)
def mX12_day : MRec := (RX12, cX12_day, 2, (some .int), yX12_day, 10, 241, 0, 0, 9621983414447328363233382384140077613501227500180687977789929935050844395256104618180874285838199532188696838144)
def mX12_sound : MRec := (RX12, cX12_sound, 4, (some .boolean), yX12_sound, 1, 22, 0, 0, 2104294154165354572188974614723245976528611563821854604153732710492859286502689165343474302552752757916613738496)
def mX12_sure : MRec := (RX12, cX12_sure, 2, (some .int), yX12_sure, 1, 27, 0, 0, 0)
set_option maxHeartbeats 1000000 in
theorem t_X12_goesHome {K : Kmap} {V : Vmap} {x : Nat} {p0 : Int} (h_x : K x = some (0, 11)) (r_p0 : ir p0) (q_0 : p0 ≥ 0) (q_1 : p0 ≤ 59) : MC mX12_goesHome K V [.ref x, ti p0] (VS K (fun V1 => (True))) := by
  refine MC.start 0 (by decide +kernel) rfl rfl rfl (ls0 := [some (.ref x), some (ti p0)]) rfl ?_
  refine GO.aload_n dX12_goesHome_0 rfl rfl ?_
  refine GO.aload_n dX12_goesHome_1 rfl rfl ?_
  refine GO.getL h_x fl_RX12_673 rfl rfl dX12_goesHome_2 ?_
  refine GO.anyL (fun z1 => ?_)
  refine GO.aload_n dX12_goesHome_5 rfl rfl ?_
  refine GO.getA (n := 60) h_x fl_RX12_53 rfl rfl rfl rfl dX12_goesHome_6 (fun hv3 h2 => ?_)
  refine GO.iload_n dX12_goesHome_9 rfl rfl ?_
  have q4 : -2147483648 ≤ p0 ∧ p0 ≤ 2147483647 := r_p0
  refine GO.iald (t := 21) rfl rfl h2 r_p0 (by omega) (by omega) dX12_goesHome_10 (fun l5 u6 => ?_)
  refine GO.i2l dX12_goesHome_11 ?_
  refine GO.anyL (fun z7 => ?_)
  refine GO.ladd dX12_goesHome_12 ?_
  refine GO.anyL (fun z8 => ?_)
  refine GO.putL h_x fp_RX12_673 rfl (by decide +kernel) dX12_goesHome_13 (fun V10 e9 => ?_)
  refine GO.aload_n dX12_goesHome_16 rfl rfl ?_
  refine GO.getRaw h_x fl_RX12_53 (Eq.trans (uq_ne e9 (Or.inr (by decide))) hv3) dX12_goesHome_17 ?_
  refine GO.iload_n dX12_goesHome_20 rfl rfl ?_
  refine GO.iconst dX12_goesHome_21 ?_
  refine GO.iast (t := 21) rfl rfl (by decide +kernel) h2 r_p0 (by omega) (by omega) (ir_c rfl) (by decide) (by decide) dX12_goesHome_22 (fun V14 e13 => ?_)
  exact GO.retv rfl rfl dX12_goesHome_23 ⟨rfl, rfl, trivial⟩

set_option maxHeartbeats 1000000 in
theorem t_X12_burns {K : Kmap} {V : Vmap} {x : Nat} {p0 : Int} (h_x : K x = some (0, 11)) (r_p0 : ir p0) (q_0 : p0 ≥ 0) (q_1 : p0 ≤ 59) : MC mX12_burns K V [.ref x, ti p0] (VS K (fun V1 => (True))) := by
  refine MC.start 4 (by decide +kernel) rfl rfl rfl (ls0 := [some (.ref x), some (ti p0), none, none, none, none]) rfl ?_
  refine GO.aload_n dX12_burns_0 rfl rfl ?_
  refine GO.getA (n := 60) h_x fl_RX12_53 rfl rfl rfl rfl dX12_burns_1 (fun hv2 h1 => ?_)
  refine GO.iload_n dX12_burns_4 rfl rfl ?_
  have q3 : -2147483648 ≤ p0 ∧ p0 ≤ 2147483647 := r_p0
  refine GO.iald (t := 21) rfl rfl h1 r_p0 (by omega) (by omega) dX12_burns_5 (fun l4 u5 => ?_)
  refine GO.bipush dX12_burns_6 rfl ?_
  refine GO.iadd dX12_burns_8 ?_
  refine GO.bipush dX12_burns_9 rfl ?_
  refine GO.idivP dX12_burns_11 ⟨by omega, by omega⟩ (ir_c rfl) (by omega) (by omega) ?_
  refine GO.aload_n dX12_burns_12 rfl rfl ?_
  refine GO.aload_n dX12_burns_13 rfl rfl ?_
  refine GO.getI h_x fl_RX12_396 rfl rfl dX12_burns_14 (fun l6 u7 => ?_)
  refine GO.callV (ci := 11) (N := mX12_isDark) dX12_burns_17 (RX12, TX12, 151) rfl gV_RX12_582 h_x (t_X12_isDark h_x vi_ir) rfl [ti (((vi V (vq V x 19) (p0).toNat) + 9) / 10)] rfl rfl (Nat.le_of_ble_eq_true rfl) rfl (k_ip fun X8 r9 h10 => ?_)
  have hj13 : ∀ (z12 : Int), ∀ (l14 : 1 ≤ z12), ∀ (u15 : z12 ≤ 2), GO mX12_burns K V (VS K (fun V1 => (True))) K V 0 0 28 [some (.ref x), some (ti p0), none, none, none, none] [ti z12, ti (((vi V (vq V x 19) (p0).toNat) + 9) / 10)] := by
    intro z12 l14 u15
    have r16 : ir z12 := ⟨by omega, by omega⟩
    refine GO.imul dX12_burns_28 ?_
    have m17 := mul_rng (a := ((vi V (vq V x 19) (p0).toNat) + 9) / 10) (b := z12) (A := 50) (B := 2) (by omega) (by omega) (by omega) (by omega)
    refine GO.name (fun z18 hz19 => ?_)
    refine GO.istore_n (ls1 := [some (.ref x), some (ti p0), some (ti z18), none, none, none]) dX12_burns_29 rfl rfl rfl ?_
    refine GO.iload_n dX12_burns_30 rfl rfl ?_
    refine GO.aload_n dX12_burns_31 rfl rfl ?_
    refine GO.getA (n := 60) h_x fl_RX12_56 rfl rfl rfl rfl dX12_burns_32 (fun hv21 h20 => ?_)
    refine GO.iload_n dX12_burns_35 rfl rfl ?_
    refine GO.iald (t := 22) rfl rfl h20 r_p0 (by omega) (by omega) dX12_burns_36 (fun _ _ => ?_)
    have hj26 : ∀ (z25 : Int), ∀ (l27 : (-2147483648) ≤ z25), ∀ (u28 : z25 ≤ 100), GO mX12_burns K V (VS K (fun V1 => (True))) K V 0 0 50 [some (.ref x), some (ti p0), some (ti z18), none, none, none] [ti z25] := by
      intro z25 l27 u28
      have r29 : ir z25 := ⟨by omega, by omega⟩
      refine GO.istore_n (ls1 := [some (.ref x), some (ti p0), some (ti z18), some (ti z25), none, none]) dX12_burns_50 rfl rfl rfl ?_
      refine GO.aload_n dX12_burns_51 rfl rfl ?_
      refine GO.getRaw h_x fl_RX12_56 hv21 dX12_burns_52 ?_
      refine GO.iload_n dX12_burns_55 rfl rfl ?_
      refine GO.aload_n dX12_burns_56 rfl rfl ?_
      refine GO.getRaw h_x fl_RX12_56 hv21 dX12_burns_57 ?_
      refine GO.iload_n dX12_burns_60 rfl rfl ?_
      refine GO.iald (t := 22) rfl rfl h20 r_p0 (by omega) (by omega) dX12_burns_61 (fun _ _ => ?_)
      refine GO.iload_n dX12_burns_62 rfl rfl ?_
      refine GO.isub dX12_burns_63 ?_
      refine GO.norm (fun z34 r35 _ => ?_)
      refine GO.iast (t := 22) rfl rfl (by decide +kernel) h20 r_p0 (by omega) (by omega) r35 (r35).1 (r35).2 dX12_burns_64 (fun V37 e36 => ?_)
      refine GO.aload_n dX12_burns_65 rfl rfl ?_
      refine GO.aload_n dX12_burns_66 rfl rfl ?_
      refine GO.getL h_x fl_RX12_654 rfl rfl dX12_burns_67 ?_
      refine GO.anyL (fun z38 => ?_)
      refine GO.iload_n dX12_burns_70 rfl rfl ?_
      refine GO.i2l dX12_burns_71 ?_
      refine GO.anyL (fun z39 => ?_)
      refine GO.ladd dX12_burns_72 ?_
      refine GO.anyL (fun z40 => ?_)
      refine GO.putL h_x fp_RX12_654 rfl (by decide +kernel) dX12_burns_73 (fun V42 e41 => ?_)
      refine GO.aload_n dX12_burns_76 rfl rfl ?_
      refine GO.getA (n := 60) h_x fl_RX12_62 rfl rfl rfl rfl dX12_burns_77 (fun hv44 h43 => ?_)
      refine GO.iload_n dX12_burns_80 rfl rfl ?_
      refine GO.iload_n dX12_burns_81 rfl rfl ?_
      refine GO.iload_n dX12_burns_82 rfl rfl ?_
      have hj53 : ∀ (z52 : Int), ∀ (l54 : (-2147483648) ≤ z52), ∀ (u55 : z52 ≤ 2147483647), GO mX12_burns K V (VS K (fun V1 => (True))) K V42 0 0 98 [some (.ref x), some (ti p0), some (ti z18), some (ti z25), none, none] [ti z52, ti p0, .ref (vq V42 x 22)] := by
        intro z52 l54 u55
        have r56 : ir z52 := ⟨by omega, by omega⟩
        refine GO.iast (t := 24) rfl rfl (by decide +kernel) h43 r_p0 (by omega) (by omega) r56 (r56).1 (r56).2 dX12_burns_98 (fun V58 e57 => ?_)
        refine GO.aload_n dX12_burns_99 rfl rfl ?_
        refine GO.getRaw h_x fl_RX12_62 (Eq.trans (uq_ne e57 (Or.inl (K_ne h_x h43 (by decide)))) hv44) dX12_burns_100 ?_
        refine GO.iload_n dX12_burns_103 rfl rfl ?_
        refine GO.iald (t := 24) rfl rfl h43 r_p0 (by omega) (by omega) dX12_burns_104 (fun _ _ => ?_)
        refine GO.bipush dX12_burns_105 rfl ?_
        have hj66 : ∀ (V67 : Vmap), GO mX12_burns K V (VS K (fun V1 => (True))) K V67 0 0 115 [some (.ref x), some (ti p0), some (ti z18), some (ti z25), none, none] [] := by
          intro V67
          refine GO.aload_n dX12_burns_115 rfl rfl ?_
          refine GO.getA (n := 60) h_x fl_RX12_53 rfl rfl rfl rfl dX12_burns_116 (fun hv69 h68 => ?_)
          refine GO.iload_n dX12_burns_119 rfl rfl ?_
          refine GO.iald (t := 21) rfl rfl h68 r_p0 (by omega) (by omega) dX12_burns_120 (fun l70 u71 => ?_)
          refine GO.bipush dX12_burns_121 rfl ?_
          refine GO.iadd dX12_burns_123 ?_
          refine GO.bipush dX12_burns_124 rfl ?_
          refine GO.idivP dX12_burns_126 ⟨by omega, by omega⟩ (ir_c rfl) (by omega) (by omega) ?_
          refine GO.name (fun z72 hz73 => ?_)
          refine GO.istore (ls1 := [some (.ref x), some (ti p0), some (ti z18), some (ti z25), some (ti z72), none]) dX12_burns_127 rfl rfl ?_
          refine GO.aload_n dX12_burns_129 rfl rfl ?_
          refine GO.aload_n dX12_burns_130 rfl rfl ?_
          refine GO.getI h_x fl_RX12_396 rfl rfl dX12_burns_131 (fun l74 u75 => ?_)
          refine GO.callV (ci := 11) (N := mX12_isDark) dX12_burns_134 (RX12, TX12, 151) rfl gV_RX12_582 h_x (t_X12_isDark h_x vi_ir) rfl [] rfl rfl (Nat.le_of_ble_eq_true rfl) rfl (k_ip fun X76 r77 h78 => ?_)
          have hj81 : ∀ (z80 : Int), ∀ (l82 : 0 ≤ z80), ∀ (u83 : z80 ≤ 3), GO mX12_burns K V (VS K (fun V1 => (True))) K V67 0 0 145 [some (.ref x), some (ti p0), some (ti z18), some (ti z25), some (ti z72), none] [ti z80] := by
            intro z80 l82 u83
            have r84 : ir z80 := ⟨by omega, by omega⟩
            refine GO.istore (ls1 := [some (.ref x), some (ti p0), some (ti z18), some (ti z25), some (ti z72), some (ti z80)]) dX12_burns_145 rfl rfl ?_
            refine GO.aload_n dX12_burns_147 rfl rfl ?_
            refine GO.getA (n := 240) h_x fl_RX12_65 rfl rfl rfl rfl dX12_burns_148 (fun hv86 h85 => ?_)
            refine GO.iconst dX12_burns_151 ?_
            refine GO.iload_n dX12_burns_152 rfl rfl ?_
            refine GO.imul dX12_burns_153 ?_
            refine GO.iload dX12_burns_154 rfl ?_
            refine GO.iadd dX12_burns_156 ?_
            refine GO.aload_n dX12_burns_157 rfl rfl ?_
            refine GO.getRaw h_x fl_RX12_65 hv86 dX12_burns_158 ?_
            refine GO.iconst dX12_burns_161 ?_
            refine GO.iload_n dX12_burns_162 rfl rfl ?_
            refine GO.imul dX12_burns_163 ?_
            refine GO.iload dX12_burns_164 rfl ?_
            refine GO.iadd dX12_burns_166 ?_
            refine GO.iald (t := 25) rfl rfl h85 ⟨by omega, by omega⟩ (by omega) (by omega) dX12_burns_167 (fun _ _ => ?_)
            refine GO.iload dX12_burns_168 rfl ?_
            refine GO.iadd dX12_burns_170 ?_
            refine GO.norm (fun z89 r90 _ => ?_)
            refine GO.iast (t := 25) rfl rfl (by decide +kernel) h85 ⟨by omega, by omega⟩ (by omega) (by omega) r90 (r90).1 (r90).2 dX12_burns_171 (fun V92 e91 => ?_)
            refine GO.aload_n dX12_burns_172 rfl rfl ?_
            refine GO.aload_n dX12_burns_173 rfl rfl ?_
            refine GO.getL h_x fl_RX12_679 rfl rfl dX12_burns_174 ?_
            refine GO.anyL (fun z93 => ?_)
            refine GO.iload dX12_burns_177 rfl ?_
            refine GO.i2l dX12_burns_179 ?_
            refine GO.anyL (fun z94 => ?_)
            refine GO.ladd dX12_burns_180 ?_
            refine GO.anyL (fun z95 => ?_)
            refine GO.putL h_x fp_RX12_679 rfl (by decide +kernel) dX12_burns_181 (fun V97 e96 => ?_)
            exact GO.retv rfl rfl dX12_burns_184 ⟨rfl, rfl, trivial⟩
          refine GO.if_eq (tgt := 144) dX12_burns_137 (by decide) r77 (fun c98 => ?_) (fun c98 => ?_)
          ·
            refine GO.iconst dX12_burns_144 ?_
            exact hj81 0 (by omega) (by omega)
          ·
            refine GO.iconst dX12_burns_140 ?_
            refine GO.goto (tgt := 145) dX12_burns_141 (by decide) ?_
            exact hj81 3 (by omega) (by omega)
        refine GO.icmp_ne (tgt := 115) dX12_burns_107 (by decide) vi_ir (ir_c rfl) (fun c99 => ?_) (fun c99 => ?_)
        ·
          exact hj66  V58
        ·
          refine GO.aload_n dX12_burns_110 rfl rfl ?_
          refine GO.iload_n dX12_burns_111 rfl rfl ?_
          refine GO.callV (ci := 11) (N := mX12_goesHome) dX12_burns_112 (RX12, TX12, 151) rfl gV_RX12_676 h_x (t_X12_goesHome h_x r_p0 (by omega) (by omega)) rfl [] rfl rfl (Nat.le_of_ble_eq_true rfl) rfl (k_vs fun V102 h101 hF100 => ?_)
          exact hj66  V102
      refine GO.icmp_ge (tgt := 97) dX12_burns_83 (by decide) r29 ⟨by omega, by omega⟩ (fun c103 => ?_) (fun c103 => ?_)
      ·
        refine GO.iconst dX12_burns_97 ?_
        exact hj53 0 (by omega) (by omega)
      ·
        refine GO.aload_n dX12_burns_86 rfl rfl ?_
        refine GO.getRaw h_x fl_RX12_62 hv44 dX12_burns_87 ?_
        refine GO.iload_n dX12_burns_90 rfl rfl ?_
        refine GO.iald (t := 24) rfl rfl h43 r_p0 (by omega) (by omega) dX12_burns_91 (fun _ _ => ?_)
        refine GO.iconst dX12_burns_92 ?_
        refine GO.iadd dX12_burns_93 ?_
        refine GO.norm (fun z108 r109 _ => ?_)
        refine GO.goto (tgt := 98) dX12_burns_94 (by decide) ?_
        have q110 : -2147483648 ≤ z108 ∧ z108 ≤ 2147483647 := r109
        exact hj53 z108 (by omega) (by omega)
    refine GO.icmp_ge (tgt := 44) dX12_burns_37 (by decide) ⟨by omega, by omega⟩ vi_ir (fun c111 => ?_) (fun c111 => ?_)
    ·
      refine GO.aload_n dX12_burns_44 rfl rfl ?_
      refine GO.getRaw h_x fl_RX12_56 hv21 dX12_burns_45 ?_
      refine GO.iload_n dX12_burns_48 rfl rfl ?_
      refine GO.iald (t := 22) rfl rfl h20 r_p0 (by omega) (by omega) dX12_burns_49 (fun _ _ => ?_)
      have q114 : -2147483648 ≤ vi V (vq V x 20) (p0).toNat ∧ vi V (vq V x 20) (p0).toNat ≤ 2147483647 := vi_ir
      exact hj26 (vi V (vq V x 20) (p0).toNat) (by omega) (by omega)
    ·
      refine GO.iload_n dX12_burns_40 rfl rfl ?_
      refine GO.goto (tgt := 50) dX12_burns_41 (by decide) ?_
      have q115 : -2147483648 ≤ vi V (vq V x 20) (p0).toNat ∧ vi V (vq V x 20) (p0).toNat ≤ 2147483647 := vi_ir
      exact hj26 z18 (by omega) (by omega)
  refine GO.if_eq (tgt := 27) dX12_burns_20 (by decide) r9 (fun c116 => ?_) (fun c116 => ?_)
  ·
    refine GO.iconst dX12_burns_27 ?_
    exact hj13 1 (by omega) (by omega)
  ·
    refine GO.iconst dX12_burns_23 ?_
    refine GO.goto (tgt := 28) dX12_burns_24 (by decide) ?_
    exact hj13 2 (by omega) (by omega)

set_option maxHeartbeats 1000000 in
theorem t_X12_loses {K : Kmap} {V : Vmap} {x : Nat} {p0 : Int} (h_x : K x = some (0, 11)) (r_p0 : ir p0) (q_0 : p0 ≥ 0) (q_1 : p0 ≤ 59) : MC mX12_loses K V [.ref x, ti p0] (VS K (fun V1 => (True))) := by
  refine MC.start 1 (by decide +kernel) rfl rfl rfl (ls0 := [some (.ref x), some (ti p0), none]) rfl ?_
  refine GO.aload_n dX12_loses_0 rfl rfl ?_
  refine GO.getA (n := 60) h_x fl_RX12_80 rfl rfl rfl rfl dX12_loses_1 (fun hv2 h1 => ?_)
  refine GO.iload_n dX12_loses_4 rfl rfl ?_
  refine GO.iconst dX12_loses_5 ?_
  have q3 : -2147483648 ≤ p0 ∧ p0 ≤ 2147483647 := r_p0
  refine GO.zast (t := 30) rfl rfl (by decide +kernel) h1 r_p0 (by omega) (by omega) (by omega) (by omega) (by omega) dX12_loses_6 (fun V5 e4 => ?_)
  refine GO.aload_n dX12_loses_7 rfl rfl ?_
  refine GO.aload_n dX12_loses_8 rfl rfl ?_
  refine GO.getL h_x fl_RX12_657 rfl rfl dX12_loses_9 ?_
  refine GO.anyL (fun z6 => ?_)
  refine GO.aload_n dX12_loses_12 rfl rfl ?_
  refine GO.getA (n := 60) h_x fl_RX12_56 rfl rfl rfl rfl dX12_loses_13 (fun hv8 h7 => ?_)
  refine GO.iload_n dX12_loses_16 rfl rfl ?_
  refine GO.iald (t := 22) rfl rfl h7 r_p0 (by omega) (by omega) dX12_loses_17 (fun _ _ => ?_)
  refine GO.i2l dX12_loses_18 ?_
  refine GO.anyL (fun z10 => ?_)
  refine GO.ladd dX12_loses_19 ?_
  refine GO.anyL (fun z11 => ?_)
  refine GO.aload_n dX12_loses_20 rfl rfl ?_
  refine GO.getA (n := 60) h_x fl_RX12_59 rfl rfl rfl rfl dX12_loses_21 (fun hv13 h12 => ?_)
  refine GO.iload_n dX12_loses_24 rfl rfl ?_
  refine GO.iald (t := 23) rfl rfl h12 r_p0 (by omega) (by omega) dX12_loses_25 (fun _ _ => ?_)
  refine GO.i2l dX12_loses_26 ?_
  refine GO.anyL (fun z15 => ?_)
  refine GO.ladd dX12_loses_27 ?_
  refine GO.anyL (fun z16 => ?_)
  refine GO.putL h_x fp_RX12_657 rfl (by decide +kernel) dX12_loses_28 (fun V18 e17 => ?_)
  refine GO.aload_n dX12_loses_31 rfl rfl ?_
  refine GO.getRaw h_x fl_RX12_56 (Eq.trans (uq_ne e17 (Or.inr (by decide))) hv8) dX12_loses_32 ?_
  refine GO.iload_n dX12_loses_35 rfl rfl ?_
  refine GO.iconst dX12_loses_36 ?_
  refine GO.iast (t := 22) rfl rfl (by decide +kernel) h7 r_p0 (by omega) (by omega) (ir_c rfl) (by decide) (by decide) dX12_loses_37 (fun V22 e21 => ?_)
  refine GO.aload_n dX12_loses_38 rfl rfl ?_
  refine GO.getRaw h_x fl_RX12_59 (Eq.trans (uq_ne e21 (Or.inl (K_ne h_x h7 (by decide)))) (Eq.trans (uq_ne e17 (Or.inr (by decide))) hv13)) dX12_loses_39 ?_
  refine GO.iload_n dX12_loses_42 rfl rfl ?_
  refine GO.iconst dX12_loses_43 ?_
  refine GO.iast (t := 23) rfl rfl (by decide +kernel) h12 r_p0 (by omega) (by omega) (ir_c rfl) (by decide) (by decide) dX12_loses_44 (fun V26 e25 => ?_)
  refine GO.iconst dX12_loses_45 ?_
  refine GO.istore_n (ls1 := [some (.ref x), some (ti p0), some (ti 0)]) dX12_loses_46 rfl rfl rfl ?_
  refine GO.loop1 (fun i27 W => 0 ≤ i27 ∧ i27 ≤ 4 ∧ True) (fun i27 => [some (.ref x), some (ti p0), some (ti i27)]) (fun i27 W => (2147483647 - i27).toNat) 0 ⟨by omega, by omega, trivial⟩ rfl (fun i27 Wi27 hp401 ih400 => ?_)
  obtain ⟨l_i27, u_i27, -⟩ := hp401
  have r_i27 : ir i27 := ⟨by omega, by omega⟩
  show GO mX12_loses K V (VS K (fun V1 => (True))) K Wi27 0 0 47 [some (.ref x), some (ti p0), some (ti i27)] []
  refine GO.iload_n dX12_loses_47 rfl rfl ?_
  refine GO.iconst dX12_loses_48 ?_
  refine GO.icmp_ge (tgt := 89) dX12_loses_49 (by decide) r_i27 (ir_c rfl) (fun c402 => ?_) (fun c402 => ?_)
  ·
    refine GO.aload_n dX12_loses_89 rfl rfl ?_
    refine GO.iload_n dX12_loses_90 rfl rfl ?_
    refine GO.callV (ci := 11) (N := mX12_goesHome) dX12_loses_91 (RX12, TX12, 151) rfl gV_RX12_676 h_x (t_X12_goesHome h_x r_p0 (by omega) (by omega)) rfl [] rfl rfl (Nat.le_of_ble_eq_true rfl) rfl (k_vs fun V405 h404 hF403 => ?_)
    refine GO.iconst dX12_loses_94 ?_
    refine GO.istore_n (ls1 := [some (.ref x), some (ti p0), some (ti 0)]) dX12_loses_95 rfl rfl rfl ?_
    refine GO.loop1 (fun i406 W => 0 ≤ i406 ∧ i406 ≤ 60 ∧ True) (fun i406 => [some (.ref x), some (ti p0), some (ti i406)]) (fun i406 W => (2147483647 - i406).toNat) 0 ⟨by omega, by omega, trivial⟩ rfl (fun i406 Wi406 hp543 ih542 => ?_)
    obtain ⟨l_i406, u_i406, -⟩ := hp543
    have r_i406 : ir i406 := ⟨by omega, by omega⟩
    show GO mX12_loses K V (VS K (fun V1 => (True))) K Wi406 0 0 96 [some (.ref x), some (ti p0), some (ti i406)] []
    refine GO.iload_n dX12_loses_96 rfl rfl ?_
    refine GO.aload_n dX12_loses_97 rfl rfl ?_
    refine GO.getI h_x fl_RX12_375 rfl rfl dX12_loses_98 (fun l544 u545 => ?_)
    refine GO.icmp_ge (tgt := 137) dX12_loses_101 (by decide) r_i406 vi_ir (fun c546 => ?_) (fun c546 => ?_)
    ·
      exact GO.retv rfl rfl dX12_loses_137 ⟨rfl, rfl, trivial⟩
    ·
      refine GO.aload_n dX12_loses_104 rfl rfl ?_
      refine GO.getA (n := 60) h_x fl_RX12_35 rfl rfl rfl rfl dX12_loses_105 (fun hv548 h547 => ?_)
      refine GO.iload_n dX12_loses_108 rfl rfl ?_
      refine GO.iald (t := 15) rfl rfl h547 r_i406 (by omega) (by omega) dX12_loses_109 (fun l549 u550 => ?_)
      refine GO.iconst dX12_loses_110 ?_
      refine GO.icmp_ne (tgt := 131) dX12_loses_111 (by decide) vi_ir (ir_c rfl) (fun c551 => ?_) (fun c551 => ?_)
      ·
        refine GO.iinc (X := i406) (n := 1) (Y := i406 + 1) (ls1 := [some (.ref x), some (ti p0), some (ti (i406 + 1))]) dX12_loses_131 rfl rfl rfl rfl ?_
        refine GO.goto (tgt := 96) dX12_loses_134 (by decide) ?_
        exact ih542 (i406 + 1) Wi406 ⟨by omega, by omega, trivial⟩ (by show (2147483647 - (i406 + 1)).toNat < (2147483647 - i406).toNat; omega)
      ·
        refine GO.aload_n dX12_loses_114 rfl rfl ?_
        refine GO.getA (n := 60) h_x fl_RX12_47 rfl rfl rfl rfl dX12_loses_115 (fun hv553 h552 => ?_)
        refine GO.iload_n dX12_loses_118 rfl rfl ?_
        refine GO.iald (t := 19) rfl rfl h552 r_i406 (by omega) (by omega) dX12_loses_119 (fun _ _ => ?_)
        refine GO.iload_n dX12_loses_120 rfl rfl ?_
        refine GO.icmp_ne (tgt := 131) dX12_loses_121 (by decide) vi_ir r_p0 (fun c554 => ?_) (fun c554 => ?_)
        ·
          refine GO.iinc (X := i406) (n := 1) (Y := i406 + 1) (ls1 := [some (.ref x), some (ti p0), some (ti (i406 + 1))]) dX12_loses_131 rfl rfl rfl rfl ?_
          refine GO.goto (tgt := 96) dX12_loses_134 (by decide) ?_
          exact ih542 (i406 + 1) Wi406 ⟨by omega, by omega, trivial⟩ (by show (2147483647 - (i406 + 1)).toNat < (2147483647 - i406).toNat; omega)
        ·
          refine GO.aload_n dX12_loses_124 rfl rfl ?_
          refine GO.getA (n := 60) h_x fl_RX12_80 rfl rfl rfl rfl dX12_loses_125 (fun hv556 h555 => ?_)
          refine GO.iload_n dX12_loses_128 rfl rfl ?_
          refine GO.iconst dX12_loses_129 ?_
          refine GO.zast (t := 30) rfl rfl (by decide +kernel) h555 r_i406 (by omega) (by omega) (by omega) (by omega) (by omega) dX12_loses_130 (fun V558 e557 => ?_)
          refine GO.iinc (X := i406) (n := 1) (Y := i406 + 1) (ls1 := [some (.ref x), some (ti p0), some (ti (i406 + 1))]) dX12_loses_131 rfl rfl rfl rfl ?_
          refine GO.goto (tgt := 96) dX12_loses_134 (by decide) ?_
          exact ih542 (i406 + 1) V558 ⟨by omega, by omega, trivial⟩ (by show (2147483647 - (i406 + 1)).toNat < (2147483647 - i406).toNat; omega)
  ·
    refine GO.aload_n dX12_loses_52 rfl rfl ?_
    refine GO.aload_n dX12_loses_53 rfl rfl ?_
    refine GO.getL h_x fl_RX12_682 rfl rfl dX12_loses_54 ?_
    refine GO.anyL (fun z559 => ?_)
    refine GO.aload_n dX12_loses_57 rfl rfl ?_
    refine GO.getA (n := 240) h_x fl_RX12_65 rfl rfl rfl rfl dX12_loses_58 (fun hv561 h560 => ?_)
    refine GO.iconst dX12_loses_61 ?_
    refine GO.iload_n dX12_loses_62 rfl rfl ?_
    refine GO.imul dX12_loses_63 ?_
    refine GO.iload_n dX12_loses_64 rfl rfl ?_
    refine GO.iadd dX12_loses_65 ?_
    refine GO.iald (t := 25) rfl rfl h560 ⟨by omega, by omega⟩ (by omega) (by omega) dX12_loses_66 (fun _ _ => ?_)
    refine GO.i2l dX12_loses_67 ?_
    refine GO.anyL (fun z562 => ?_)
    refine GO.ladd dX12_loses_68 ?_
    refine GO.anyL (fun z563 => ?_)
    refine GO.putL h_x fp_RX12_682 rfl (by decide +kernel) dX12_loses_69 (fun V565 e564 => ?_)
    refine GO.aload_n dX12_loses_72 rfl rfl ?_
    refine GO.getRaw h_x fl_RX12_65 (Eq.trans (uq_ne e564 (Or.inr (by decide))) hv561) dX12_loses_73 ?_
    refine GO.iconst dX12_loses_76 ?_
    refine GO.iload_n dX12_loses_77 rfl rfl ?_
    refine GO.imul dX12_loses_78 ?_
    refine GO.iload_n dX12_loses_79 rfl rfl ?_
    refine GO.iadd dX12_loses_80 ?_
    refine GO.iconst dX12_loses_81 ?_
    refine GO.iast (t := 25) rfl rfl (by decide +kernel) h560 ⟨by omega, by omega⟩ (by omega) (by omega) (ir_c rfl) (by decide) (by decide) dX12_loses_82 (fun V569 e568 => ?_)
    refine GO.iinc (X := i27) (n := 1) (Y := i27 + 1) (ls1 := [some (.ref x), some (ti p0), some (ti (i27 + 1))]) dX12_loses_83 rfl rfl rfl rfl ?_
    refine GO.goto (tgt := 47) dX12_loses_86 (by decide) ?_
    exact ih400 (i27 + 1) V569 ⟨by omega, by omega, trivial⟩ (by show (2147483647 - (i27 + 1)).toNat < (2147483647 - i27).toNat; omega)

set_option maxHeartbeats 1000000 in
theorem t_X12_flows {K : Kmap} {V : Vmap} {x : Nat} {p0 : Int} (h_x : K x = some (0, 11)) (r_p0 : ir p0) (q_0 : p0 ≥ 0) (q_1 : p0 ≤ 59) : MC mX12_flows K V [.ref x, ti p0] (VS K (fun V1 => (True))) := by
  refine MC.start 6 (by decide +kernel) rfl rfl rfl (ls0 := [some (.ref x), some (ti p0), none, none, none, none, none, none]) rfl ?_
  refine GO.aload_n dX12_flows_0 rfl rfl ?_
  refine GO.getA (n := 60) h_x fl_RX12_41 rfl rfl rfl rfl dX12_flows_1 (fun hv2 h1 => ?_)
  refine GO.iload_n dX12_flows_4 rfl rfl ?_
  have q3 : -2147483648 ≤ p0 ∧ p0 ≤ 2147483647 := r_p0
  refine GO.iald (t := 17) rfl rfl h1 r_p0 (by omega) (by omega) dX12_flows_5 (fun l4 u5 => ?_)
  refine GO.name (fun z6 hz7 => ?_)
  have r8 : ir z6 := hz7 ▸ vi_ir
  refine GO.istore_n (ls1 := [some (.ref x), some (ti p0), some (ti z6), none, none, none, none, none]) dX12_flows_6 rfl rfl rfl ?_
  refine GO.aload_n dX12_flows_7 rfl rfl ?_
  refine GO.getA (n := 144) h_x fl_RX12_20 rfl rfl rfl rfl dX12_flows_8 (fun hv10 h9 => ?_)
  refine GO.iload_n dX12_flows_11 rfl rfl ?_
  refine GO.iald (t := 10) rfl rfl h9 r8 (by omega) (by omega) dX12_flows_12 (fun l11 u12 => ?_)
  refine GO.if_ne (tgt := 46) dX12_flows_13 (by decide) vi_ir (fun c13 => ?_) (fun c13 => ?_)
  ·
    exact GO.retv rfl rfl dX12_flows_46 ⟨rfl, rfl, trivial⟩
  ·
    refine GO.aload_n dX12_flows_16 rfl rfl ?_
    refine GO.getA (n := 144) h_x fl_RX12_23 rfl rfl rfl rfl dX12_flows_17 (fun hv15 h14 => ?_)
    refine GO.iload_n dX12_flows_20 rfl rfl ?_
    refine GO.iald (t := 11) rfl rfl h14 r8 (by omega) (by omega) dX12_flows_21 (fun l16 u17 => ?_)
    refine GO.iconst dX12_flows_22 ?_
    refine GO.icmp_eq (tgt := 46) dX12_flows_23 (by decide) vi_ir (ir_c rfl) (fun c18 => ?_) (fun c18 => ?_)
    ·
      exact GO.retv rfl rfl dX12_flows_46 ⟨rfl, rfl, trivial⟩
    ·
      refine GO.aload_n dX12_flows_26 rfl rfl ?_
      refine GO.getI h_x fl_RX12_396 rfl rfl dX12_flows_27 (fun l19 u20 => ?_)
      refine GO.aload_n dX12_flows_30 rfl rfl ?_
      refine GO.getA (n := 60) h_x fl_RX12_50 rfl rfl rfl rfl dX12_flows_31 (fun hv22 h21 => ?_)
      refine GO.iload_n dX12_flows_34 rfl rfl ?_
      refine GO.iald (t := 20) rfl rfl h21 r_p0 (by omega) (by omega) dX12_flows_35 (fun _ _ => ?_)
      refine GO.isub dX12_flows_36 ?_
      refine GO.norm (fun z23 r24 _ => ?_)
      refine GO.aload_n dX12_flows_37 rfl rfl ?_
      refine GO.getA (n := 144) h_x fl_RX12_26 rfl rfl rfl rfl dX12_flows_38 (fun hv26 h25 => ?_)
      refine GO.iload_n dX12_flows_41 rfl rfl ?_
      refine GO.iald (t := 12) rfl rfl h25 r8 (by omega) (by omega) dX12_flows_42 (fun l27 u28 => ?_)
      refine GO.icmp_ge (tgt := 47) dX12_flows_43 (by decide) r24 vi_ir (fun c29 => ?_) (fun c29 => ?_)
      ·
        refine GO.aload_n dX12_flows_47 rfl rfl ?_
        refine GO.getRaw h_x fl_RX12_23 hv15 dX12_flows_48 ?_
        refine GO.iload_n dX12_flows_51 rfl rfl ?_
        refine GO.iald (t := 11) rfl rfl h14 r8 (by omega) (by omega) dX12_flows_52 (fun l32 u33 => ?_)
        refine GO.callS (N := mX12_columnStep) dX12_flows_53 gS_RX12_639 (t_X12_columnStep vi_ir) rfl [] rfl rfl (Nat.le_of_ble_eq_true rfl) rfl (k_ip fun X34 r35 h36 => ?_)
        refine GO.istore_n (ls1 := [some (.ref x), some (ti p0), some (ti z6), some (ti X34), none, none, none, none]) dX12_flows_56 rfl rfl rfl ?_
        refine GO.aload_n dX12_flows_57 rfl rfl ?_
        refine GO.getRaw h_x fl_RX12_23 hv15 dX12_flows_58 ?_
        refine GO.iload_n dX12_flows_61 rfl rfl ?_
        refine GO.iald (t := 11) rfl rfl h14 r8 (by omega) (by omega) dX12_flows_62 (fun l39 u40 => ?_)
        refine GO.callS (N := mX12_rowStep) dX12_flows_63 gS_RX12_642 (t_X12_rowStep vi_ir) rfl [] rfl rfl (Nat.le_of_ble_eq_true rfl) rfl (k_ip fun X41 r42 h43 => ?_)
        refine GO.istore (ls1 := [some (.ref x), some (ti p0), some (ti z6), some (ti X34), some (ti X41), none, none, none]) dX12_flows_66 rfl rfl ?_
        refine GO.aload_n dX12_flows_68 rfl rfl ?_
        refine GO.iload_n dX12_flows_69 rfl rfl ?_
        refine GO.iload_n dX12_flows_70 rfl rfl ?_
        refine GO.iload dX12_flows_71 rfl ?_
        refine GO.callV (ci := 11) (N := mX12_moved) dX12_flows_73 (RX12, TX12, 151) rfl gV_RX12_645 h_x (t_X12_moved h_x r8 r35 r42 (by omega) (by omega) (by omega) (by omega) (by omega) (by omega)) rfl [] rfl rfl (Nat.le_of_ble_eq_true rfl) rfl (k_ip fun X44 r45 h46 => ?_)
        refine GO.istore (ls1 := [some (.ref x), some (ti p0), some (ti z6), some (ti X34), some (ti X41), some (ti X44), none, none]) dX12_flows_76 rfl rfl ?_
        refine GO.iload dX12_flows_78 rfl ?_
        refine GO.iconst dX12_flows_80 ?_
        refine GO.icmp_ne (tgt := 90) dX12_flows_81 (by decide) r45 (ir_c rfl) (fun c47 => ?_) (fun c47 => ?_)
        ·
          refine GO.aload_n dX12_flows_90 rfl rfl ?_
          refine GO.getRaw h_x fl_RX12_41 hv2 dX12_flows_91 ?_
          refine GO.iload_n dX12_flows_94 rfl rfl ?_
          refine GO.iload dX12_flows_95 rfl ?_
          refine GO.iast (t := 17) rfl rfl (by decide +kernel) h1 r_p0 (by omega) (by omega) r45 (by omega) (by omega) dX12_flows_97 (fun V51 e50 => ?_)
          refine GO.aload_n dX12_flows_98 rfl rfl ?_
          refine GO.getRaw h_x fl_RX12_50 (Eq.trans (uq_ne e50 (Or.inl (K_ne h_x h1 (by decide)))) hv22) dX12_flows_99 ?_
          refine GO.iload_n dX12_flows_102 rfl rfl ?_
          refine GO.aload_n dX12_flows_103 rfl rfl ?_
          refine GO.getI h_x fl_RX12_396 rfl rfl dX12_flows_104 (fun l54 u55 => ?_)
          have e56 : vi V51 x 2 = vi V x 2 := vi_up e50 (Or.inl (K_ne h_x h1 (by decide)))
          refine GO.iast (t := 20) rfl rfl (by decide +kernel) h21 r_p0 (by omega) (by omega) vi_ir (vi_ir).1 (vi_ir).2 dX12_flows_107 (fun V58 e57 => ?_)
          refine GO.iconst dX12_flows_108 ?_
          refine GO.istore (ls1 := [some (.ref x), some (ti p0), some (ti z6), some (ti X34), some (ti X41), some (ti X44), some (ti 0), none]) dX12_flows_109 rfl rfl ?_
          refine GO.loop1 (fun i59 W => 0 ≤ i59 ∧ i59 ≤ 60 ∧ True) (fun i59 => [some (.ref x), some (ti p0), some (ti z6), some (ti X34), some (ti X41), some (ti X44), some (ti i59), none]) (fun i59 W => (2147483647 - i59).toNat) 0 ⟨by omega, by omega, trivial⟩ rfl (fun i59 Wi59 hp664 ih663 => ?_)
          obtain ⟨l_i59, u_i59, -⟩ := hp664
          have r_i59 : ir i59 := ⟨by omega, by omega⟩
          show GO mX12_flows K V (VS K (fun V1 => (True))) K Wi59 0 0 111 [some (.ref x), some (ti p0), some (ti z6), some (ti X34), some (ti X41), some (ti X44), some (ti i59), none] []
          refine GO.iload dX12_flows_111 rfl ?_
          refine GO.aload_n dX12_flows_113 rfl rfl ?_
          refine GO.getI h_x fl_RX12_375 rfl rfl dX12_flows_114 (fun l665 u666 => ?_)
          refine GO.icmp_ge (tgt := 229) dX12_flows_117 (by decide) r_i59 vi_ir (fun c667 => ?_) (fun c667 => ?_)
          ·
            refine GO.aload_n dX12_flows_229 rfl rfl ?_
            refine GO.iload dX12_flows_230 rfl ?_
            refine GO.callV (ci := 11) (N := mX12_isLand) dX12_flows_232 (RX12, TX12, 151) rfl gV_RX12_425 h_x (t_X12_isLand h_x r45 (by omega) (by omega)) rfl [] rfl rfl (Nat.le_of_ble_eq_true rfl) rfl (k_ip fun X668 r669 h670 => ?_)
            refine GO.if_ne (tgt := 243) dX12_flows_235 (by decide) r669 (fun c671 => ?_) (fun c671 => ?_)
            ·
              exact GO.retv rfl rfl dX12_flows_243 ⟨rfl, rfl, trivial⟩
            ·
              refine GO.aload_n dX12_flows_238 rfl rfl ?_
              refine GO.iload_n dX12_flows_239 rfl rfl ?_
              refine GO.callV (ci := 11) (N := mX12_loses) dX12_flows_240 (RX12, TX12, 151) rfl gV_RX12_685 h_x (t_X12_loses h_x r_p0 (by omega) (by omega)) rfl [] rfl rfl (Nat.le_of_ble_eq_true rfl) rfl (k_vs fun V674 h673 hF672 => ?_)
              exact GO.retv rfl rfl dX12_flows_243 ⟨rfl, rfl, trivial⟩
          ·
            refine GO.aload_n dX12_flows_120 rfl rfl ?_
            refine GO.getA (n := 60) h_x fl_RX12_35 rfl rfl rfl rfl dX12_flows_121 (fun hv676 h675 => ?_)
            refine GO.iload dX12_flows_124 rfl ?_
            refine GO.iald (t := 15) rfl rfl h675 r_i59 (by omega) (by omega) dX12_flows_126 (fun l677 u678 => ?_)
            refine GO.iconst dX12_flows_127 ?_
            refine GO.icmp_ne (tgt := 223) dX12_flows_128 (by decide) vi_ir (ir_c rfl) (fun c679 => ?_) (fun c679 => ?_)
            ·
              refine GO.iinc (X := i59) (n := 1) (Y := i59 + 1) (ls1 := [some (.ref x), some (ti p0), some (ti z6), some (ti X34), some (ti X41), some (ti X44), some (ti (i59 + 1)), none]) dX12_flows_223 rfl rfl rfl rfl ?_
              refine GO.goto (tgt := 111) dX12_flows_226 (by decide) ?_
              exact ih663 (i59 + 1) Wi59 ⟨by omega, by omega, trivial⟩ (by show (2147483647 - (i59 + 1)).toNat < (2147483647 - i59).toNat; omega)
            ·
              refine GO.aload_n dX12_flows_131 rfl rfl ?_
              refine GO.getA (n := 60) h_x fl_RX12_47 rfl rfl rfl rfl dX12_flows_132 (fun hv681 h680 => ?_)
              refine GO.iload dX12_flows_135 rfl ?_
              refine GO.iald (t := 19) rfl rfl h680 r_i59 (by omega) (by omega) dX12_flows_137 (fun _ _ => ?_)
              refine GO.iload_n dX12_flows_138 rfl rfl ?_
              refine GO.icmp_ne (tgt := 223) dX12_flows_139 (by decide) vi_ir r_p0 (fun c682 => ?_) (fun c682 => ?_)
              ·
                refine GO.iinc (X := i59) (n := 1) (Y := i59 + 1) (ls1 := [some (.ref x), some (ti p0), some (ti z6), some (ti X34), some (ti X41), some (ti X44), some (ti (i59 + 1)), none]) dX12_flows_223 rfl rfl rfl rfl ?_
                refine GO.goto (tgt := 111) dX12_flows_226 (by decide) ?_
                exact ih663 (i59 + 1) Wi59 ⟨by omega, by omega, trivial⟩ (by show (2147483647 - (i59 + 1)).toNat < (2147483647 - i59).toNat; omega)
              ·
                refine GO.aload_n dX12_flows_142 rfl rfl ?_
                refine GO.getA (n := 60) h_x fl_RX12_80 rfl rfl rfl rfl dX12_flows_143 (fun hv684 h683 => ?_)
                refine GO.iload dX12_flows_146 rfl ?_
                refine GO.zald (t := 30) rfl rfl h683 r_i59 (by omega) (by omega) dX12_flows_148 (fun l685 u686 => ?_)
                refine GO.if_eq (tgt := 155) dX12_flows_149 (by decide) vi_ir (fun c687 => ?_) (fun c687 => ?_)
                ·
                  refine GO.aload_n dX12_flows_155 rfl rfl ?_
                  refine GO.aload_n dX12_flows_156 rfl rfl ?_
                  refine GO.getA (n := 60) h_x fl_RX12_41 rfl rfl rfl rfl dX12_flows_157 (fun hv689 h688 => ?_)
                  refine GO.iload dX12_flows_160 rfl ?_
                  refine GO.iald (t := 17) rfl rfl h688 r_i59 (by omega) (by omega) dX12_flows_162 (fun l690 u691 => ?_)
                  refine GO.iload_n dX12_flows_163 rfl rfl ?_
                  refine GO.iload dX12_flows_164 rfl ?_
                  refine GO.callV (ci := 11) (N := mX12_moved) dX12_flows_166 (RX12, TX12, 151) rfl gV_RX12_645 h_x (t_X12_moved h_x vi_ir r35 r42 (by omega) (by omega) (by omega) (by omega) (by omega) (by omega)) rfl [] rfl rfl (Nat.le_of_ble_eq_true rfl) rfl (k_ip fun X692 r693 h694 => ?_)
                  refine GO.istore (ls1 := [some (.ref x), some (ti p0), some (ti z6), some (ti X34), some (ti X41), some (ti X44), some (ti i59), some (ti X692)]) dX12_flows_169 rfl rfl ?_
                  refine GO.aload_n dX12_flows_171 rfl rfl ?_
                  refine GO.getRaw h_x fl_RX12_80 hv684 dX12_flows_172 ?_
                  refine GO.iload dX12_flows_175 rfl ?_
                  refine GO.iload dX12_flows_177 rfl ?_
                  refine GO.iconst dX12_flows_179 ?_
                  have hj703 : ∀ (z702 : Int), ∀ (l704 : 0 ≤ z702), ∀ (u705 : z702 ≤ 1), GO mX12_flows K V (VS K (fun V1 => (True))) K Wi59 0 0 197 [some (.ref x), some (ti p0), some (ti z6), some (ti X34), some (ti X41), some (ti X44), some (ti i59), some (ti X692)] [ti z702, ti i59, .ref (vq Wi59 x 28)] := by
                    intro z702 l704 u705
                    have r706 : ir z702 := ⟨by omega, by omega⟩
                    refine GO.zast (t := 30) rfl rfl (by decide +kernel) h683 r_i59 (by omega) (by omega) (by omega) (by omega) (by omega) dX12_flows_197 (fun V708 e707 => ?_)
                    refine GO.aload_n dX12_flows_198 rfl rfl ?_
                    refine GO.getRaw h_x fl_RX12_41 (Eq.trans (uq_ne e707 (Or.inl (K_ne h_x h683 (by decide)))) hv689) dX12_flows_199 ?_
                    refine GO.iload dX12_flows_202 rfl ?_
                    refine GO.iload dX12_flows_204 rfl ?_
                    refine GO.iconst dX12_flows_206 ?_
                    refine GO.icmp_ne (tgt := 220) dX12_flows_207 (by decide) r693 (ir_c rfl) (fun c711 => ?_) (fun c711 => ?_)
                    ·
                      refine GO.iload dX12_flows_220 rfl ?_
                      refine GO.iast (t := 17) rfl rfl (by decide +kernel) h688 r_i59 (by omega) (by omega) r693 (by omega) (by omega) dX12_flows_222 (fun V713 e712 => ?_)
                      refine GO.iinc (X := i59) (n := 1) (Y := i59 + 1) (ls1 := [some (.ref x), some (ti p0), some (ti z6), some (ti X34), some (ti X41), some (ti X44), some (ti (i59 + 1)), some (ti X692)]) dX12_flows_223 rfl rfl rfl rfl ?_
                      refine GO.goto (tgt := 111) dX12_flows_226 (by decide) ?_
                      refine GO.drop [true, true, true, true, true, true, true, false] rfl ?_
                      exact ih663 (i59 + 1) V713 ⟨by omega, by omega, trivial⟩ (by show (2147483647 - (i59 + 1)).toNat < (2147483647 - i59).toNat; omega)
                    ·
                      refine GO.aload_n dX12_flows_210 rfl rfl ?_
                      refine GO.getRaw h_x fl_RX12_41 (Eq.trans (uq_ne e707 (Or.inl (K_ne h_x h683 (by decide)))) hv689) dX12_flows_211 ?_
                      refine GO.iload dX12_flows_214 rfl ?_
                      refine GO.iald (t := 17) rfl rfl h688 r_i59 (by omega) (by omega) dX12_flows_216 (fun l716 u717 => ?_)
                      have e718 : vi V708 (vq Wi59 x 15) (i59).toNat = vi Wi59 (vq Wi59 x 15) (i59).toNat := vi_up e707 (Or.inl (K_ne h688 h683 (by decide)))
                      refine GO.goto (tgt := 222) dX12_flows_217 (by decide) ?_
                      refine GO.iast (t := 17) rfl rfl (by decide +kernel) h688 r_i59 (by omega) (by omega) vi_ir (by omega) (by omega) dX12_flows_222 (fun V720 e719 => ?_)
                      refine GO.iinc (X := i59) (n := 1) (Y := i59 + 1) (ls1 := [some (.ref x), some (ti p0), some (ti z6), some (ti X34), some (ti X41), some (ti X44), some (ti (i59 + 1)), some (ti X692)]) dX12_flows_223 rfl rfl rfl rfl ?_
                      refine GO.goto (tgt := 111) dX12_flows_226 (by decide) ?_
                      refine GO.drop [true, true, true, true, true, true, true, false] rfl ?_
                      exact ih663 (i59 + 1) V720 ⟨by omega, by omega, trivial⟩ (by show (2147483647 - (i59 + 1)).toNat < (2147483647 - i59).toNat; omega)
                  have hj726 : GO mX12_flows K V (VS K (fun V1 => (True))) K Wi59 0 0 192 [some (.ref x), some (ti p0), some (ti z6), some (ti X34), some (ti X41), some (ti X44), some (ti i59), some (ti X692)] [ti i59, .ref (vq Wi59 x 28)] := by
                    skip
                    refine GO.iconst dX12_flows_192 ?_
                    refine GO.goto (tgt := 197) dX12_flows_193 (by decide) ?_
                    exact hj703 1 (by omega) (by omega)
                  refine GO.icmp_eq (tgt := 192) dX12_flows_180 (by decide) r693 (ir_c rfl) (fun c727 => ?_) (fun c727 => ?_)
                  ·
                    exact hj726 
                  ·
                    refine GO.aload_n dX12_flows_183 rfl rfl ?_
                    refine GO.iload dX12_flows_184 rfl ?_
                    refine GO.callV (ci := 11) (N := mX12_isLand) dX12_flows_186 (RX12, TX12, 151) rfl gV_RX12_425 h_x (t_X12_isLand h_x r693 (by omega) (by omega)) rfl [ti i59, .ref (vq Wi59 x 28)] rfl rfl (Nat.le_of_ble_eq_true rfl) rfl (k_ip fun X728 r729 h730 => ?_)
                    refine GO.if_ne (tgt := 196) dX12_flows_189 (by decide) r729 (fun c731 => ?_) (fun c731 => ?_)
                    ·
                      refine GO.iconst dX12_flows_196 ?_
                      exact hj703 0 (by omega) (by omega)
                    ·
                      exact hj726 
                ·
                  refine GO.goto (tgt := 223) dX12_flows_152 (by decide) ?_
                  refine GO.iinc (X := i59) (n := 1) (Y := i59 + 1) (ls1 := [some (.ref x), some (ti p0), some (ti z6), some (ti X34), some (ti X41), some (ti X44), some (ti (i59 + 1)), none]) dX12_flows_223 rfl rfl rfl rfl ?_
                  refine GO.goto (tgt := 111) dX12_flows_226 (by decide) ?_
                  exact ih663 (i59 + 1) Wi59 ⟨by omega, by omega, trivial⟩ (by show (2147483647 - (i59 + 1)).toNat < (2147483647 - i59).toNat; omega)
        ·
          refine GO.aload_n dX12_flows_84 rfl rfl ?_
          refine GO.iload_n dX12_flows_85 rfl rfl ?_
          refine GO.callV (ci := 11) (N := mX12_loses) dX12_flows_86 (RX12, TX12, 151) rfl gV_RX12_685 h_x (t_X12_loses h_x r_p0 (by omega) (by omega)) rfl [] rfl rfl (Nat.le_of_ble_eq_true rfl) rfl (k_vs fun V734 h733 hF732 => ?_)
          exact GO.retv rfl rfl dX12_flows_89 ⟨rfl, rfl, trivial⟩
      ·
        exact GO.retv rfl rfl dX12_flows_46 ⟨rfl, rfl, trivial⟩

set_option maxHeartbeats 1000000 in
theorem t_X12_day {K : Kmap} {V : Vmap} {x : Nat} (h_x : K x = some (0, 11)) (w_0 : GX V x) : MC mX12_day K V [.ref x] (IS K (fun X V1 => True)) := by
  refine MC.start 1 (by decide +kernel) rfl rfl rfl (ls0 := [some (.ref x), none]) rfl ?_
  refine GO.useWT (fun hW_0 => ?_)
  refine GO.aload_n dX12_day_0 rfl rfl ?_
  refine GO.getI h_x fl_RX12_396 rfl rfl dX12_day_1 (fun l1 u2 => ?_)
  refine GO.sipush dX12_day_4 rfl ?_
  refine GO.icmp_ne (tgt := 12) dX12_day_7 (by decide) vi_ir (ir_c rfl) (fun c3 => ?_) (fun c3 => ?_)
  ·
    refine GO.aload_n dX12_day_12 rfl rfl ?_
    refine GO.aload_n dX12_day_13 rfl rfl ?_
    refine GO.getI h_x fl_RX12_396 rfl rfl dX12_day_14 (fun l4 u5 => ?_)
    refine GO.iconst dX12_day_17 ?_
    refine GO.iadd dX12_day_18 ?_
    refine GO.putI h_x fp_RX12_396 rfl (by decide +kernel) ⟨by omega, by omega⟩ (by omega) (by omega) dX12_day_19 (fun V7 e6 => ?_)
    refine GO.aload_n dX12_day_22 rfl rfl ?_
    refine GO.useFR (fun hF8 => ?_)
    have hg9 := GX.fr hF8 w_0 hW_0 h_x (by decide +kernel)
    refine GO.callV (ci := 11) (N := mX12_worksGo) dX12_day_23 (RX12, TX12, 151) rfl gV_RX12_688 h_x (t_X12_worksGo h_x (hg9)) rfl [] rfl rfl (Nat.le_of_ble_eq_true rfl) rfl (k_vs fun V12 h11 hF10 => ?_)
    refine GO.iconst dX12_day_26 ?_
    refine GO.istore_n (ls1 := [some (.ref x), some (ti 0)]) dX12_day_27 rfl rfl rfl ?_
    refine GO.loop1 (fun i13 W => 0 ≤ i13 ∧ i13 ≤ 60 ∧ True) (fun i13 => [some (.ref x), some (ti i13)]) (fun i13 W => (2147483647 - i13).toNat) 0 ⟨by omega, by omega, trivial⟩ rfl (fun i13 Wi13 hp6576 ih6575 => ?_)
    obtain ⟨l_i13, u_i13, -⟩ := hp6576
    have r_i13 : ir i13 := ⟨by omega, by omega⟩
    show GO mX12_day K V (IS K (fun X V1 => True)) K Wi13 0 0 28 [some (.ref x), some (ti i13)] []
    refine GO.iload_n dX12_day_28 rfl rfl ?_
    refine GO.aload_n dX12_day_29 rfl rfl ?_
    refine GO.getI h_x fl_RX12_375 rfl rfl dX12_day_30 (fun l6577 u6578 => ?_)
    refine GO.icmp_ge (tgt := 63) dX12_day_33 (by decide) r_i13 vi_ir (fun c6579 => ?_) (fun c6579 => ?_)
    ·
      refine GO.iconst dX12_day_63 ?_
      refine GO.istore_n (ls1 := [some (.ref x), some (ti 0)]) dX12_day_64 rfl rfl rfl ?_
      refine GO.loop1 (fun i6580 W => 0 ≤ i6580 ∧ i6580 ≤ 10 ∧ True) (fun i6580 => [some (.ref x), some (ti i6580)]) (fun i6580 W => (2147483647 - i6580).toNat) 0 ⟨by omega, by omega, trivial⟩ rfl (fun i6580 Wi6580 hp7205 ih7204 => ?_)
      obtain ⟨l_i6580, u_i6580, -⟩ := hp7205
      have r_i6580 : ir i6580 := ⟨by omega, by omega⟩
      show GO mX12_day K V (IS K (fun X V1 => True)) K Wi6580 0 0 65 [some (.ref x), some (ti i6580)] []
      refine GO.iload_n dX12_day_65 rfl rfl ?_
      refine GO.aload_n dX12_day_66 rfl rfl ?_
      refine GO.getI h_x fl_RX12_612 rfl rfl dX12_day_67 (fun l7206 u7207 => ?_)
      refine GO.icmp_ge (tgt := 84) dX12_day_70 (by decide) r_i6580 vi_ir (fun c7208 => ?_) (fun c7208 => ?_)
      ·
        refine GO.iconst dX12_day_84 ?_
        refine GO.istore_n (ls1 := [some (.ref x), some (ti 0)]) dX12_day_85 rfl rfl rfl ?_
        refine GO.loop1 (fun i7209 W => 0 ≤ i7209 ∧ i7209 ≤ 40 ∧ True) (fun i7209 => [some (.ref x), some (ti i7209)]) (fun i7209 W => (2147483647 - i7209).toNat) 0 ⟨by omega, by omega, trivial⟩ rfl (fun i7209 Wi7209 hp7283 ih7282 => ?_)
        obtain ⟨l_i7209, u_i7209, -⟩ := hp7283
        have r_i7209 : ir i7209 := ⟨by omega, by omega⟩
        show GO mX12_day K V (IS K (fun X V1 => True)) K Wi7209 0 0 86 [some (.ref x), some (ti i7209)] []
        refine GO.iload_n dX12_day_86 rfl rfl ?_
        refine GO.aload_n dX12_day_87 rfl rfl ?_
        refine GO.getI h_x fl_RX12_648 rfl rfl dX12_day_88 (fun l7284 u7285 => ?_)
        refine GO.icmp_ge (tgt := 105) dX12_day_91 (by decide) r_i7209 vi_ir (fun c7286 => ?_) (fun c7286 => ?_)
        ·
          refine GO.aload_n dX12_day_105 rfl rfl ?_
          refine GO.getI h_x fl_RX12_396 rfl rfl dX12_day_106 (fun l7287 u7288 => ?_)
          exact GO.reti rfl rfl dX12_day_109 ⟨rfl, _, rfl, vi_ir, trivial⟩
        ·
          refine GO.aload_n dX12_day_94 rfl rfl ?_
          refine GO.iload_n dX12_day_95 rfl rfl ?_
          refine GO.callV (ci := 11) (N := mX12_sledgeGoes) dX12_day_96 (RX12, TX12, 151) rfl gV_RX12_700 h_x (t_X12_sledgeGoes h_x r_i7209 (by omega) (by omega)) rfl [] rfl rfl (Nat.le_of_ble_eq_true rfl) rfl (k_vs fun V7291 h7290 hF7289 => ?_)
          refine GO.iinc (X := i7209) (n := 1) (Y := i7209 + 1) (ls1 := [some (.ref x), some (ti (i7209 + 1))]) dX12_day_99 rfl rfl rfl rfl ?_
          refine GO.goto (tgt := 86) dX12_day_102 (by decide) ?_
          exact ih7282 (i7209 + 1) V7291 ⟨by omega, by omega, trivial⟩ (by show (2147483647 - (i7209 + 1)).toNat < (2147483647 - i7209).toNat; omega)
      ·
        refine GO.aload_n dX12_day_73 rfl rfl ?_
        refine GO.iload_n dX12_day_74 rfl rfl ?_
        refine GO.callV (ci := 11) (N := mX12_shipGoes) dX12_day_75 (RX12, TX12, 151) rfl gV_RX12_697 h_x (t_X12_shipGoes h_x r_i6580 (by omega) (by omega)) rfl [] rfl rfl (Nat.le_of_ble_eq_true rfl) rfl (k_vs fun V7294 h7293 hF7292 => ?_)
        refine GO.iinc (X := i6580) (n := 1) (Y := i6580 + 1) (ls1 := [some (.ref x), some (ti (i6580 + 1))]) dX12_day_78 rfl rfl rfl rfl ?_
        refine GO.goto (tgt := 65) dX12_day_81 (by decide) ?_
        exact ih7204 (i6580 + 1) V7294 ⟨by omega, by omega, trivial⟩ (by show (2147483647 - (i6580 + 1)).toNat < (2147483647 - i6580).toNat; omega)
    ·
      refine GO.aload_n dX12_day_36 rfl rfl ?_
      refine GO.iload_n dX12_day_37 rfl rfl ?_
      refine GO.callV (ci := 11) (N := mX12_stands) dX12_day_38 (RX12, TX12, 151) rfl gV_RX12_433 h_x (t_X12_stands h_x r_i13) rfl [] rfl rfl (Nat.le_of_ble_eq_true rfl) rfl (k_ip fun X7295 r7296 h7297 => ?_)
      refine GO.if_ne (tgt := 47) dX12_day_41 (by decide) r7296 (fun c7298 => ?_) (fun c7298 => ?_)
      ·
        have q7299 := h7297.2.1 (by omega)
        refine GO.aload_n dX12_day_47 rfl rfl ?_
        refine GO.iload_n dX12_day_48 rfl rfl ?_
        refine GO.callV (ci := 11) (N := mX12_burns) dX12_day_49 (RX12, TX12, 151) rfl gV_RX12_691 h_x (t_X12_burns h_x r_i13 (by omega) (by omega)) rfl [] rfl rfl (Nat.le_of_ble_eq_true rfl) rfl (k_vs fun V7302 h7301 hF7300 => ?_)
        refine GO.aload_n dX12_day_52 rfl rfl ?_
        refine GO.iload_n dX12_day_53 rfl rfl ?_
        refine GO.callV (ci := 11) (N := mX12_flows) dX12_day_54 (RX12, TX12, 151) rfl gV_RX12_694 h_x (t_X12_flows h_x r_i13 (by omega) (by omega)) rfl [] rfl rfl (Nat.le_of_ble_eq_true rfl) rfl (k_vs fun V7305 h7304 hF7303 => ?_)
        refine GO.iinc (X := i13) (n := 1) (Y := i13 + 1) (ls1 := [some (.ref x), some (ti (i13 + 1))]) dX12_day_57 rfl rfl rfl rfl ?_
        refine GO.goto (tgt := 28) dX12_day_60 (by decide) ?_
        exact ih6575 (i13 + 1) V7305 ⟨by omega, by omega, trivial⟩ (by show (2147483647 - (i13 + 1)).toNat < (2147483647 - i13).toNat; omega)
      ·
        refine GO.goto (tgt := 57) dX12_day_44 (by decide) ?_
        refine GO.iinc (X := i13) (n := 1) (Y := i13 + 1) (ls1 := [some (.ref x), some (ti (i13 + 1))]) dX12_day_57 rfl rfl rfl rfl ?_
        refine GO.goto (tgt := 28) dX12_day_60 (by decide) ?_
        exact ih6575 (i13 + 1) Wi13 ⟨by omega, by omega, trivial⟩ (by show (2147483647 - (i13 + 1)).toNat < (2147483647 - i13).toNat; omega)
  ·
    refine GO.iconst dX12_day_10 ?_
    exact GO.reti rfl rfl dX12_day_11 ⟨rfl, _, rfl, (ir_c rfl), trivial⟩

set_option maxHeartbeats 1000000 in
theorem t_X12_sound {K : Kmap} {V : Vmap} {x : Nat} {p0 : Int} {p1 : Int} {p2 : Int} (h_x : K x = some (0, 11)) (r_p0 : ir p0) (r_p1 : ir p1) (r_p2 : ir p2) : MC mX12_sound K V [.ref x, ti p0, ti p1, ti p2] (IS K (fun X V1 => (X = 0 ∨ X = 1) ∧ (X ≠ 0 → True) ∧ (X = 0 → True))) := by
  refine MC.start 0 (by decide +kernel) rfl rfl rfl (ls0 := [some (.ref x), some (ti p0), some (ti p1), some (ti p2)]) rfl ?_
  refine GO.aload_n dX12_sound_0 rfl rfl ?_
  refine GO.iload_n dX12_sound_1 rfl rfl ?_
  refine GO.iconst dX12_sound_2 ?_
  refine GO.callV (ci := 11) (N := mX12_isPlace) dX12_sound_3 (RX12, TX12, 151) rfl gV_RX12_399 h_x (t_X12_isPlace h_x r_p0 (ir_c rfl)) rfl [] rfl rfl (Nat.le_of_ble_eq_true rfl) rfl (k_ip fun X1 r2 h3 => ?_)
  have raw_isPlace := h3.2.2.2
  refine GO.if_eq (tgt := 42) dX12_sound_6 (by decide) r2 (fun c4 => ?_) (fun c4 => ?_)
  ·
    refine GO.iconst dX12_sound_42 ?_
    exact GO.retz rfl rfl dX12_sound_43 (by omega) ⟨rfl, _, rfl, (ir_c rfl), ⟨by omega, fun _ => trivial, fun _ => trivial⟩⟩
  ·
    have q5 := h3.2.1 (by omega)
    refine GO.iload_n dX12_sound_9 rfl rfl ?_
    refine GO.iconst dX12_sound_10 ?_
    refine GO.sipush dX12_sound_11 rfl ?_
    refine GO.callS (N := mX12_in) dX12_sound_14 gS_RX12_371 (t_X12_in r_p1 (ir_c rfl) (ir_c rfl)) rfl [] rfl rfl (Nat.le_of_ble_eq_true rfl) rfl (k_ip fun X6 r7 h8 => ?_)
    refine GO.if_eq (tgt := 42) dX12_sound_17 (by decide) r7 (fun c9 => ?_) (fun c9 => ?_)
    ·
      have q10 := h8.2.2 (by omega)
      refine GO.iconst dX12_sound_42 ?_
      exact GO.retz rfl rfl dX12_sound_43 (by omega) ⟨rfl, _, rfl, (ir_c rfl), ⟨by omega, fun _ => trivial, fun _ => trivial⟩⟩
    ·
      have q11 := h8.2.1 (by omega)
      refine GO.iload_n dX12_sound_20 rfl rfl ?_
      refine GO.iconst dX12_sound_21 ?_
      refine GO.sipush dX12_sound_22 rfl ?_
      refine GO.callS (N := mX12_in) dX12_sound_25 gS_RX12_371 (t_X12_in r_p2 (ir_c rfl) (ir_c rfl)) rfl [] rfl rfl (Nat.le_of_ble_eq_true rfl) rfl (k_ip fun X12 r13 h14 => ?_)
      refine GO.if_eq (tgt := 42) dX12_sound_28 (by decide) r13 (fun c15 => ?_) (fun c15 => ?_)
      ·
        have q16 := h14.2.2 (by omega)
        refine GO.iconst dX12_sound_42 ?_
        exact GO.retz rfl rfl dX12_sound_43 (by omega) ⟨rfl, _, rfl, (ir_c rfl), ⟨by omega, fun _ => trivial, fun _ => trivial⟩⟩
      ·
        have q17 := h14.2.1 (by omega)
        refine GO.aload_n dX12_sound_31 rfl rfl ?_
        refine GO.getA (n := 60) h_x fl_RX12_283 rfl rfl rfl rfl dX12_sound_32 (fun hv19 h18 => ?_)
        refine GO.iload_n dX12_sound_35 rfl rfl ?_
        have q20 : -2147483648 ≤ p0 ∧ p0 ≤ 2147483647 := r_p0
        refine GO.iald (t := 96) rfl rfl h18 r_p0 (by omega) (by omega) dX12_sound_36 (fun l21 u22 => ?_)
        refine GO.bipush dX12_sound_37 rfl ?_
        refine GO.icmp_ne (tgt := 44) dX12_sound_39 (by decide) vi_ir (ir_c rfl) (fun c23 => ?_) (fun c23 => ?_)
        ·
          refine GO.aload_n dX12_sound_44 rfl rfl ?_
          refine GO.getA (n := 480) h_x fl_RX12_286 rfl rfl rfl rfl dX12_sound_45 (fun hv25 h24 => ?_)
          refine GO.bipush dX12_sound_48 rfl ?_
          refine GO.iload_n dX12_sound_50 rfl rfl ?_
          refine GO.imul dX12_sound_51 ?_
          refine GO.aload_n dX12_sound_52 rfl rfl ?_
          refine GO.getRaw h_x fl_RX12_283 hv19 dX12_sound_53 ?_
          refine GO.iload_n dX12_sound_56 rfl rfl ?_
          refine GO.iald (t := 96) rfl rfl h18 r_p0 (by omega) (by omega) dX12_sound_57 (fun l28 u29 => ?_)
          refine GO.iadd dX12_sound_58 ?_
          refine GO.iload_n dX12_sound_59 rfl rfl ?_
          refine GO.iast (t := 97) rfl rfl (by decide +kernel) h24 ⟨by omega, by omega⟩ (by omega) (by omega) r_p1 (r_p1).1 (r_p1).2 dX12_sound_60 (fun V31 e30 => ?_)
          refine GO.aload_n dX12_sound_61 rfl rfl ?_
          refine GO.getA (n := 480) h_x fl_RX12_289 rfl rfl rfl rfl dX12_sound_62 (fun hv33 h32 => ?_)
          refine GO.bipush dX12_sound_65 rfl ?_
          refine GO.iload_n dX12_sound_67 rfl rfl ?_
          refine GO.imul dX12_sound_68 ?_
          refine GO.aload_n dX12_sound_69 rfl rfl ?_
          refine GO.getRaw h_x fl_RX12_283 (Eq.trans (uq_ne e30 (Or.inl (K_ne h_x h24 (by decide)))) hv19) dX12_sound_70 ?_
          refine GO.iload_n dX12_sound_73 rfl rfl ?_
          refine GO.iald (t := 96) rfl rfl h18 r_p0 (by omega) (by omega) dX12_sound_74 (fun l36 u37 => ?_)
          have e38 : vi V31 (vq V x 121) (p0).toNat = vi V (vq V x 121) (p0).toNat := vi_up e30 (Or.inl (K_ne h18 h24 (by decide)))
          refine GO.iadd dX12_sound_75 ?_
          refine GO.iload_n dX12_sound_76 rfl rfl ?_
          refine GO.iast (t := 98) rfl rfl (by decide +kernel) h32 ⟨by omega, by omega⟩ (by omega) (by omega) r_p2 (r_p2).1 (r_p2).2 dX12_sound_77 (fun V40 e39 => ?_)
          refine GO.aload_n dX12_sound_78 rfl rfl ?_
          refine GO.getRaw h_x fl_RX12_283 (Eq.trans (uq_ne e39 (Or.inl (K_ne h_x h32 (by decide)))) (Eq.trans (uq_ne e30 (Or.inl (K_ne h_x h24 (by decide)))) hv19)) dX12_sound_79 ?_
          refine GO.iload_n dX12_sound_82 rfl rfl ?_
          refine GO.aload_n dX12_sound_83 rfl rfl ?_
          refine GO.getRaw h_x fl_RX12_283 (Eq.trans (uq_ne e39 (Or.inl (K_ne h_x h32 (by decide)))) (Eq.trans (uq_ne e30 (Or.inl (K_ne h_x h24 (by decide)))) hv19)) dX12_sound_84 ?_
          refine GO.iload_n dX12_sound_87 rfl rfl ?_
          refine GO.iald (t := 96) rfl rfl h18 r_p0 (by omega) (by omega) dX12_sound_88 (fun l45 u46 => ?_)
          have e47 : vi V40 (vq V x 121) (p0).toNat = vi V31 (vq V x 121) (p0).toNat := vi_up e39 (Or.inl (K_ne h18 h32 (by decide)))
          refine GO.iconst dX12_sound_89 ?_
          refine GO.iadd dX12_sound_90 ?_
          refine GO.iast (t := 96) rfl rfl (by decide +kernel) h18 r_p0 (by omega) (by omega) ⟨by omega, by omega⟩ (by omega) (by omega) dX12_sound_91 (fun V49 e48 => ?_)
          refine GO.iconst dX12_sound_92 ?_
          exact GO.retz rfl rfl dX12_sound_93 (by omega) ⟨rfl, _, rfl, (ir_c rfl), ⟨by omega, fun _ => trivial, fun _ => trivial⟩⟩
        ·
          refine GO.iconst dX12_sound_42 ?_
          exact GO.retz rfl rfl dX12_sound_43 (by omega) ⟨rfl, _, rfl, (ir_c rfl), ⟨by omega, fun _ => trivial, fun _ => trivial⟩⟩

set_option maxHeartbeats 1000000 in
theorem t_X12_sure {K : Kmap} {V : Vmap} {x : Nat} {p0 : Int} (h_x : K x = some (0, 11)) (r_p0 : ir p0) : MC mX12_sure K V [.ref x, ti p0] (IP K V (fun X => True)) := by
  refine MC.start 0 (by decide +kernel) rfl rfl rfl (ls0 := [some (.ref x), some (ti p0)]) rfl ?_
  refine GO.aload_n dX12_sure_0 rfl rfl ?_
  refine GO.iload_n dX12_sure_1 rfl rfl ?_
  refine GO.iconst dX12_sure_2 ?_
  refine GO.callV (ci := 11) (N := mX12_isPlace) dX12_sure_3 (RX12, TX12, 151) rfl gV_RX12_399 h_x (t_X12_isPlace h_x r_p0 (ir_c rfl)) rfl [] rfl rfl (Nat.le_of_ble_eq_true rfl) rfl (k_ip fun X1 r2 h3 => ?_)
  have raw_isPlace := h3.2.2.2
  refine GO.if_eq (tgt := 17) dX12_sure_6 (by decide) r2 (fun c4 => ?_) (fun c4 => ?_)
  ·
    refine GO.iconst dX12_sure_17 ?_
    exact GO.reti rfl rfl dX12_sure_18 ⟨rfl, rfl, _, rfl, (ir_c rfl), trivial⟩
  ·
    have q5 := h3.2.1 (by omega)
    refine GO.aload_n dX12_sure_9 rfl rfl ?_
    refine GO.iload_n dX12_sure_10 rfl rfl ?_
    have q6 : -2147483648 ≤ p0 ∧ p0 ≤ 2147483647 := r_p0
    refine GO.callV (ci := 11) (N := mX12_sureOf) dX12_sure_11 (RX12, TX12, 151) rfl gV_RX12_703 h_x (t_X12_sureOf h_x r_p0 (by omega) (by omega)) rfl [] rfl rfl (Nat.le_of_ble_eq_true rfl) rfl (k_ip fun X7 r8 h9 => ?_)
    refine GO.goto (tgt := 18) dX12_sure_14 (by decide) ?_
    have q10 : -2147483648 ≤ X7 ∧ X7 ≤ 2147483647 := r8
    exact GO.reti rfl rfl dX12_sure_18 ⟨rfl, rfl, _, rfl, r8, trivial⟩
