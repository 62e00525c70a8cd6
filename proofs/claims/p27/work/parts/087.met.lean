def mX12_reckon : MRec := (RX12, cX12_reckon, 3, (some .int), yX12_reckon, 0, 0, 0, 0, 0)
def mX12_holds : MRec := (RX12, cX12_holds, 11, (some .int), yX12_holds, 5, 112, 0, 0, 8958978968711216842229769122273777112486581988938598139599956403855167484720643781523509973086428463104)
def mX12_clauseHolds : MRec := (RX12, cX12_clauseHolds, 6, (some .int), yX12_clauseHolds, 6, 142, 0, 0, 8958978968711216842229769122273777112486581988938598139599956403855167484720643781523509973086428463104)
def mX12_barOf : MRec := (RX12, cX12_barOf, 6, (some .int), yX12_barOf, 7, 167, 0, 0, 8958978968711216842229769122273777112486581988938598139599956403855167484720643781523509973086428463104)
def mX12_mayOn : MRec := (RX12, cX12_mayOn, 8, (some .int), yX12_mayOn, 8, 192, 0, 0, 8959389078222113656965588966441361666492588922082979134912337319768054033233198708915101947392790888448)
set_option maxHeartbeats 1000000 in
theorem t_X12_reckon {K : Kmap} {V : Vmap} {p0 : Int} {p1 : Int} {p2 : Int} (r_p0 : ir p0) (r_p1 : ir p1) (r_p2 : ir p2) (q_0 : (p0 = 5 → p2 ≠ 0)) (q_1 : (p0 = 6 → p2 ≠ 0)) : MC mX12_reckon K V [ti p0, ti p1, ti p2] (IP K V (fun X => True)) := by
  refine MC.start 0 (by decide +kernel) rfl rfl rfl (ls0 := [some (ti p0), some (ti p1), some (ti p2)]) rfl ?_
  refine GO.iload_n dX12_reckon_0 rfl rfl ?_
  have q1 : -2147483648 ≤ p0 ∧ p0 ≤ 2147483647 := r_p0
  rcases (show (p0 < 2 ∨ 8 < p0) ∨ p0 = 2 ∨ p0 = 3 ∨ p0 = 4 ∨ p0 = 5 ∨ p0 = 6 ∨ p0 = 7 ∨ p0 = 8 by omega) with c2 | c2 | c2 | c2 | c2 | c2 | c2 | c2
  ·
    refine GO.tableOut (tgt := 86) dX12_reckon_1 r_p0 c2 (by decide) ?_
    refine GO.iload_n dX12_reckon_86 rfl rfl ?_
    refine GO.iload_n dX12_reckon_87 rfl rfl ?_
    refine GO.icmp_ne (tgt := 95) dX12_reckon_88 (by decide) r_p1 r_p2 (fun c3 => ?_) (fun c3 => ?_)
    ·
      refine GO.iconst dX12_reckon_95 ?_
      exact GO.reti rfl rfl dX12_reckon_96 ⟨rfl, rfl, _, rfl, (ir_c rfl), trivial⟩
    ·
      refine GO.iconst dX12_reckon_91 ?_
      refine GO.goto (tgt := 96) dX12_reckon_92 (by decide) ?_
      exact GO.reti rfl rfl dX12_reckon_96 ⟨rfl, rfl, _, rfl, (ir_c rfl), trivial⟩
  ·
    refine GO.tableAt (n := 2) (tgt := 44) dX12_reckon_1 (ir_c rfl) c2 (by decide) (by decide) rfl (by decide) ?_
    refine GO.iload_n dX12_reckon_44 rfl rfl ?_
    refine GO.iload_n dX12_reckon_45 rfl rfl ?_
    refine GO.iadd dX12_reckon_46 ?_
    refine GO.norm (fun z4 r5 _ => ?_)
    have q6 : -2147483648 ≤ z4 ∧ z4 ≤ 2147483647 := r5
    exact GO.reti rfl rfl dX12_reckon_47 ⟨rfl, rfl, _, rfl, r5, trivial⟩
  ·
    refine GO.tableAt (n := 3) (tgt := 48) dX12_reckon_1 (ir_c rfl) c2 (by decide) (by decide) rfl (by decide) ?_
    refine GO.iload_n dX12_reckon_48 rfl rfl ?_
    refine GO.iload_n dX12_reckon_49 rfl rfl ?_
    refine GO.isub dX12_reckon_50 ?_
    refine GO.norm (fun z7 r8 _ => ?_)
    have q9 : -2147483648 ≤ z7 ∧ z7 ≤ 2147483647 := r8
    exact GO.reti rfl rfl dX12_reckon_51 ⟨rfl, rfl, _, rfl, r8, trivial⟩
  ·
    refine GO.tableAt (n := 4) (tgt := 52) dX12_reckon_1 (ir_c rfl) c2 (by decide) (by decide) rfl (by decide) ?_
    refine GO.iload_n dX12_reckon_52 rfl rfl ?_
    refine GO.iload_n dX12_reckon_53 rfl rfl ?_
    refine GO.imul dX12_reckon_54 ?_
    refine GO.norm (fun z10 r11 _ => ?_)
    have q12 : -2147483648 ≤ z10 ∧ z10 ≤ 2147483647 := r11
    exact GO.reti rfl rfl dX12_reckon_55 ⟨rfl, rfl, _, rfl, r11, trivial⟩
  ·
    refine GO.tableAt (n := 5) (tgt := 56) dX12_reckon_1 (ir_c rfl) c2 (by decide) (by decide) rfl (by decide) ?_
    refine GO.iload_n dX12_reckon_56 rfl rfl ?_
    refine GO.iload_n dX12_reckon_57 rfl rfl ?_
    have q13 : -2147483648 ≤ p2 ∧ p2 ≤ 2147483647 := r_p2
    refine GO.idiv dX12_reckon_58 r_p2 (by omega) ?_
    have q14 : -2147483648 ≤ wdiv p1 p2 ∧ wdiv p1 p2 ≤ 2147483647 := wdiv_ir
    exact GO.reti rfl rfl dX12_reckon_59 ⟨rfl, rfl, _, rfl, wdiv_ir, trivial⟩
  ·
    refine GO.tableAt (n := 6) (tgt := 60) dX12_reckon_1 (ir_c rfl) c2 (by decide) (by decide) rfl (by decide) ?_
    refine GO.iload_n dX12_reckon_60 rfl rfl ?_
    refine GO.iload_n dX12_reckon_61 rfl rfl ?_
    have q15 : -2147483648 ≤ p2 ∧ p2 ≤ 2147483647 := r_p2
    refine GO.irem dX12_reckon_62 r_p2 (by omega) ?_
    have q16 : -2147483648 ≤ wrem p1 p2 ∧ wrem p1 p2 ≤ 2147483647 := wrem_ir
    exact GO.reti rfl rfl dX12_reckon_63 ⟨rfl, rfl, _, rfl, wrem_ir, trivial⟩
  ·
    refine GO.tableAt (n := 7) (tgt := 64) dX12_reckon_1 (ir_c rfl) c2 (by decide) (by decide) rfl (by decide) ?_
    refine GO.iload_n dX12_reckon_64 rfl rfl ?_
    refine GO.iload_n dX12_reckon_65 rfl rfl ?_
    refine GO.icmp_ge (tgt := 73) dX12_reckon_66 (by decide) r_p1 r_p2 (fun c17 => ?_) (fun c17 => ?_)
    ·
      refine GO.iconst dX12_reckon_73 ?_
      exact GO.reti rfl rfl dX12_reckon_74 ⟨rfl, rfl, _, rfl, (ir_c rfl), trivial⟩
    ·
      refine GO.iconst dX12_reckon_69 ?_
      refine GO.goto (tgt := 74) dX12_reckon_70 (by decide) ?_
      exact GO.reti rfl rfl dX12_reckon_74 ⟨rfl, rfl, _, rfl, (ir_c rfl), trivial⟩
  ·
    refine GO.tableAt (n := 8) (tgt := 75) dX12_reckon_1 (ir_c rfl) c2 (by decide) (by decide) rfl (by decide) ?_
    refine GO.iload_n dX12_reckon_75 rfl rfl ?_
    refine GO.iload_n dX12_reckon_76 rfl rfl ?_
    refine GO.icmp_le (tgt := 84) dX12_reckon_77 (by decide) r_p1 r_p2 (fun c18 => ?_) (fun c18 => ?_)
    ·
      refine GO.iconst dX12_reckon_84 ?_
      exact GO.reti rfl rfl dX12_reckon_85 ⟨rfl, rfl, _, rfl, (ir_c rfl), trivial⟩
    ·
      refine GO.iconst dX12_reckon_80 ?_
      refine GO.goto (tgt := 85) dX12_reckon_81 (by decide) ?_
      exact GO.reti rfl rfl dX12_reckon_85 ⟨rfl, rfl, _, rfl, (ir_c rfl), trivial⟩

set_option maxHeartbeats 1000000 in
theorem t_X12_holds {K : Kmap} {V : Vmap} {x : Nat} {p0 t_p0 n_p0 : Nat} {p1 : Int} {p2 : Int} {p3 : Int} {p4 : Int} {p5 : Int} (h_x : K x = some (0, 11)) (ht_p0 : bt t_p0 = 0) (h_p0 : K p0 = some (t_p0 + 1, n_p0)) (r_p1 : ir p1) (r_p2 : ir p2) (r_p3 : ir p3) (r_p4 : ir p4) (r_p5 : ir p5) (q_0 : p4 ≥ 0) (q_1 : p4 ≤ 99) (w_0 : HG V p0 n_p0 p1 p2 p3) (w_1 : (t_p0 + 1, n_p0) ≠ (72, 220)) : MC mX12_holds K V [.ref x, .ref p0, ti p1, ti p2, ti p3, ti p4, ti p5] (IS K (fun X V1 => True)) := by
  refine MC.start 4 (by decide +kernel) rfl rfl rfl (ls0 := [some (.ref x), some (.ref p0), some (ti p1), some (ti p2), some (ti p3), some (ti p4), some (ti p5), none, none, none, none]) rfl ?_
  refine GO.useWT (fun hWx => ?_)
  have hln := (hWx.len h_p0).2.1
  have hg1 := w_0.1
  refine GO.iconst dX12_holds_0 ?_
  refine GO.istore (ls1 := [some (.ref x), some (.ref p0), some (ti p1), some (ti p2), some (ti p3), some (ti p4), some (ti p5), some (ti 0), none, none, none]) dX12_holds_1 rfl rfl ?_
  refine GO.iload_n dX12_holds_3 rfl rfl ?_
  refine GO.istore (ls1 := [some (.ref x), some (.ref p0), some (ti p1), some (ti p2), some (ti p3), some (ti p4), some (ti p5), some (ti 0), some (ti p2), none, none]) dX12_holds_4 rfl rfl ?_
  have q3 : -2147483648 ≤ p2 ∧ p2 ≤ 2147483647 := r_p2
  refine GO.loop2 (fun i1 i2 W => 0 ≤ i1 ∧ i1 ≤ 220 ∧ 0 ≤ i2 ∧ i2 ≤ 10000 ∧ (i1 ≥ 0 ∧ i1 ≤ 220 ∧ i2 ≥ 0 ∧ i2 ≤ 5000) ∧ (HI V p0 p1 p2 p3 i2 i1) ∧ (∀ j, vi W p0 j = vi V p0 j) ∧ True) (fun i1 i2 => [some (.ref x), some (.ref p0), some (ti p1), some (ti p2), some (ti p3), some (ti p4), some (ti p5), some (ti i1), some (ti i2), none, none]) (fun i1 i2 W => ((p3 - i2)).toNat) 0 p2 ⟨by omega, by omega, by omega, by omega, by omega, (by first | exact HI.rf w_0 | exact HI.eq (hk1 (by omega)) (by omega) (by omega) | exact HI.eq (hka.2) (by omega) (by omega) | exact HI.eq (hka.2.2.2.1) (by omega) (by omega) | exact HI.eq (hka.2.2.2.2) (by omega) (by omega)), (by first | exact fun _ => rfl | assumption | exact fun j => (vi_up @E (Or.inl (K_ne h_p0 @P w_1))).trans (by first | exact w1_j j | (rename_i h; exact h j) | simp_all)), trivial⟩ rfl (fun i1 i2 Wi1 hp969 ih968 => ?_)
  obtain ⟨l_i1, u_i1, l_i2, u_i2, n_i1, w0_i1, w1_i1, -⟩ := hp969
  have r_i1 : ir i1 := ⟨by omega, by omega⟩
  have r_i2 : ir i2 := ⟨by omega, by omega⟩
  show GO mX12_holds K V (IS K (fun X V1 => True)) K Wi1 0 0 6 [some (.ref x), some (.ref p0), some (ti p1), some (ti p2), some (ti p3), some (ti p4), some (ti p5), some (ti i1), some (ti i2), none, none] []
  have hil := HI.le w_0 (k := i2) (n := i1) (by assumption)
  refine GO.iload dX12_holds_6 rfl ?_
  refine GO.iload dX12_holds_8 rfl ?_
  refine GO.icmp_ge (tgt := 236) dX12_holds_10 (by decide) r_i2 r_p3 (fun c970 => ?_) (fun c970 => ?_)
  ·
    refine GO.aload_n dX12_holds_236 rfl rfl ?_
    refine GO.getA (n := 220) h_x fl_RX12_205 rfl rfl rfl rfl dX12_holds_237 (fun hv972 h971 => ?_)
    refine GO.iconst dX12_holds_240 ?_
    refine GO.iald (t := 71) rfl rfl h971 (ir_c rfl) (by omega) (by omega) dX12_holds_241 (fun _ _ => ?_)
    have q973 : -2147483648 ≤ vi Wi1 (vq Wi1 x 81) (0 : Int).toNat ∧ vi Wi1 (vq Wi1 x 81) (0 : Int).toNat ≤ 2147483647 := vi_ir
    exact GO.reti rfl rfl dX12_holds_242 ⟨rfl, _, rfl, vi_ir, trivial⟩
  ·
    have hrg := HI.rng (V1 := Wi1) (k := i2) (n := i1) w_0 (by assumption) (by omega) (by assumption)
    refine GO.aload_n dX12_holds_13 rfl rfl ?_
    refine GO.iload dX12_holds_14 rfl ?_
    have q974 : -2147483648 ≤ p3 ∧ p3 ≤ 2147483647 := r_p3
    refine GO.ialdG ht_p0 h_p0 r_i2 (by omega) (by omega) dX12_holds_16 ?_
    refine GO.ldcw (X := 1048576) dX12_holds_17 gw_2078 rfl ?_
    have q975 : -2147483648 ≤ vi Wi1 p0 (i2).toNat ∧ vi Wi1 p0 (i2).toNat ≤ 2147483647 := vi_ir
    refine GO.idivP dX12_holds_20 vi_ir (ir_c rfl) (by omega) (by omega) ?_
    refine GO.name (fun z976 hz977 => ?_)
    refine GO.istore (ls1 := [some (.ref x), some (.ref p0), some (ti p1), some (ti p2), some (ti p3), some (ti p4), some (ti p5), some (ti i1), some (ti i2), some (ti z976), none]) dX12_holds_21 rfl rfl ?_
    refine GO.aload_n dX12_holds_23 rfl rfl ?_
    refine GO.iload dX12_holds_24 rfl ?_
    refine GO.ialdG ht_p0 h_p0 r_i2 (by omega) (by omega) dX12_holds_26 ?_
    refine GO.ldcw (X := 1048576) dX12_holds_27 gw_2078 rfl ?_
    have q978 : -2147483648 ≤ vi Wi1 p0 (i2).toNat ∧ vi Wi1 p0 (i2).toNat ≤ 2147483647 := vi_ir
    refine GO.iremP dX12_holds_30 vi_ir (ir_c rfl) (by omega) (by omega) ?_
    refine GO.name (fun z979 hz980 => ?_)
    refine GO.istore (ls1 := [some (.ref x), some (.ref p0), some (ti p1), some (ti p2), some (ti p3), some (ti p4), some (ti p5), some (ti i1), some (ti i2), some (ti z976), some (ti z979)]) dX12_holds_31 rfl rfl ?_
    have hk := HI.at (V1 := Wi1) (k := i2) (n := i1) (op := z976) (v := z979) w_0 (by assumption) (by omega) (by assumption) (by assumption) (by assumption)
    obtain ⟨hk0, hk1, hk2, hk3, hk4⟩ := hk
    refine GO.iload dX12_holds_33 rfl ?_
    refine GO.iconst dX12_holds_35 ?_
    refine GO.iadd dX12_holds_36 ?_
    refine GO.name (fun z981 hz982 => ?_)
    refine GO.istore (ls1 := [some (.ref x), some (.ref p0), some (ti p1), some (ti p2), some (ti p3), some (ti p4), some (ti p5), some (ti i1), some (ti z981), some (ti z976), some (ti z979)]) dX12_holds_37 rfl rfl ?_
    refine GO.iload dX12_holds_39 rfl ?_
    refine GO.if_eq (tgt := 50) dX12_holds_41 (by decide) ⟨by omega, by omega⟩ (fun c983 => ?_) (fun c983 => ?_)
    ·
      refine GO.aload_n dX12_holds_50 rfl rfl ?_
      refine GO.getA (n := 220) h_x fl_RX12_205 rfl rfl rfl rfl dX12_holds_51 (fun hv985 h984 => ?_)
      refine GO.iload dX12_holds_54 rfl ?_
      refine GO.iload dX12_holds_56 rfl ?_
      refine GO.if_ne (tgt := 66) dX12_holds_58 (by decide) ⟨by omega, by omega⟩ (fun h => by exfalso; omega) (fun c986 => ?_)
      refine GO.iload dX12_holds_61 rfl ?_
      refine GO.goto (tgt := 76) dX12_holds_63 (by decide) ?_
      refine GO.iast (t := 71) rfl rfl (by decide +kernel) h984 r_i1 (by omega) (by omega) ⟨by omega, by omega⟩ (by omega) (by omega) dX12_holds_76 (fun V988 e987 => ?_)
      refine GO.iload dX12_holds_77 rfl ?_
      refine GO.iconst dX12_holds_79 ?_
      refine GO.iadd dX12_holds_80 ?_
      refine GO.name (fun z989 hz990 => ?_)
      refine GO.istore (ls1 := [some (.ref x), some (.ref p0), some (ti p1), some (ti p2), some (ti p3), some (ti p4), some (ti p5), some (ti z989), some (ti z981), some (ti z976), some (ti z979)]) dX12_holds_81 rfl rfl ?_
      refine GO.goto (tgt := 233) dX12_holds_83 (by decide) ?_
      refine GO.goto (tgt := 6) dX12_holds_233 (by decide) ?_
      refine GO.drop [true, true, true, true, true, true, true, true, true, false, false] rfl ?_
      exact ih968 z989 z981 V988 ⟨by omega, by omega, by omega, by omega, by omega, (by first | exact HI.rf w_0 | exact HI.eq (hk1 (by omega)) (by omega) (by omega) | exact HI.eq (hka.2) (by omega) (by omega) | exact HI.eq (hka.2.2.2.1) (by omega) (by omega) | exact HI.eq (hka.2.2.2.2) (by omega) (by omega)), (by first | exact fun _ => rfl | assumption | exact fun j => (vi_up e987 (Or.inl (K_ne h_p0 h984 w_1))).trans (by first | exact w1_j j | (rename_i h; exact h j) | simp_all)), trivial⟩ (by show ((p3 - z981)).toNat < ((p3 - i2)).toNat; omega)
    ·
      refine GO.iload dX12_holds_44 rfl ?_
      refine GO.iconst dX12_holds_46 ?_
      refine GO.icmp_ne (tgt := 86) dX12_holds_47 (by decide) ⟨by omega, by omega⟩ (ir_c rfl) (fun c991 => ?_) (fun c991 => ?_)
      ·
        refine GO.iload dX12_holds_86 rfl ?_
        refine GO.bipush dX12_holds_88 rfl ?_
        refine GO.icmp_ne (tgt := 116) dX12_holds_90 (by decide) ⟨by omega, by omega⟩ (ir_c rfl) (fun c992 => ?_) (fun c992 => ?_)
        ·
          refine GO.iload dX12_holds_116 rfl ?_
          refine GO.bipush dX12_holds_118 rfl ?_
          refine GO.icmp_eq (tgt := 130) dX12_holds_120 (by decide) ⟨by omega, by omega⟩ (ir_c rfl) (fun c993 => ?_) (fun c993 => ?_)
          ·
            have hka := hk4 (by omega)
            have hkb := hka.1
            have hkc := hka.2.1
            have hkd := hka.2.2.1
            refine GO.aload_n dX12_holds_130 rfl rfl ?_
            refine GO.getA (n := 220) h_x fl_RX12_205 rfl rfl rfl rfl dX12_holds_131 (fun hv995 h994 => ?_)
            refine GO.iload dX12_holds_134 rfl ?_
            refine GO.iconst dX12_holds_136 ?_
            refine GO.isub dX12_holds_137 ?_
            refine GO.iald (t := 71) rfl rfl h994 ⟨by omega, by omega⟩ (by omega) (by omega) dX12_holds_138 (fun _ _ => ?_)
            refine GO.iload dX12_holds_139 rfl ?_
            refine GO.bipush dX12_holds_141 rfl ?_
            refine GO.icmp_ne (tgt := 150) dX12_holds_143 (by decide) ⟨by omega, by omega⟩ (ir_c rfl) (fun c996 => ?_) (fun h => by exfalso; omega)
            refine GO.iconst dX12_holds_150 ?_
            refine GO.icmp_ne (tgt := 163) dX12_holds_151 (by decide) vi_ir (ir_c rfl) (fun c997 => ?_) (fun c997 => ?_)
            ·
              refine GO.iload dX12_holds_163 rfl ?_
              refine GO.iconst dX12_holds_165 ?_
              refine GO.isub dX12_holds_166 ?_
              refine GO.name (fun z998 hz999 => ?_)
              refine GO.istore (ls1 := [some (.ref x), some (.ref p0), some (ti p1), some (ti p2), some (ti p3), some (ti p4), some (ti p5), some (ti z998), some (ti z981), some (ti z976), some (ti z979)]) dX12_holds_167 rfl rfl ?_
              refine GO.goto (tgt := 233) dX12_holds_169 (by decide) ?_
              refine GO.goto (tgt := 6) dX12_holds_233 (by decide) ?_
              refine GO.drop [true, true, true, true, true, true, true, true, true, false, false] rfl ?_
              have q1000 : -2147483648 ≤ p1 ∧ p1 ≤ 2147483647 := r_p1
              exact ih968 z998 z981 Wi1 ⟨by omega, by omega, by omega, by omega, by omega, (by first | exact HI.rf w_0 | exact HI.eq (hk1 (by omega)) (by omega) (by omega) | exact HI.eq (hka.2) (by omega) (by omega) | exact HI.eq (hka.2.2.2.1) (by omega) (by omega) | exact HI.eq (hka.2.2.2.2) (by omega) (by omega)), (by first | exact fun _ => rfl | assumption | exact fun j => (vi_up @E (Or.inl (K_ne h_p0 @P w_1))).trans (by first | exact w1_j j | (rename_i h; exact h j) | simp_all)), trivial⟩ (by show ((p3 - z981)).toNat < ((p3 - i2)).toNat; omega)
            ·
              refine GO.iload_n dX12_holds_154 rfl rfl ?_
              refine GO.iload dX12_holds_155 rfl ?_
              refine GO.iadd dX12_holds_157 ?_
              refine GO.name (fun z1001 hz1002 => ?_)
              refine GO.istore (ls1 := [some (.ref x), some (.ref p0), some (ti p1), some (ti p2), some (ti p3), some (ti p4), some (ti p5), some (ti i1), some (ti z1001), some (ti z976), some (ti z979)]) dX12_holds_158 rfl rfl ?_
              refine GO.goto (tgt := 233) dX12_holds_160 (by decide) ?_
              refine GO.goto (tgt := 6) dX12_holds_233 (by decide) ?_
              refine GO.drop [true, true, true, true, true, true, true, true, true, false, false] rfl ?_
              have q1003 : -2147483648 ≤ p1 ∧ p1 ≤ 2147483647 := r_p1
              exact ih968 i1 z1001 Wi1 ⟨by omega, by omega, by omega, by omega, by omega, (by first | exact HI.rf w_0 | exact HI.eq (hk1 (by omega)) (by omega) (by omega) | exact HI.eq (hka.2) (by omega) (by omega) | exact HI.eq (hka.2.2.2.1) (by omega) (by omega) | exact HI.eq (hka.2.2.2.2) (by omega) (by omega)), (by first | exact fun _ => rfl | assumption | exact fun j => (vi_up @E (Or.inl (K_ne h_p0 @P w_1))).trans (by first | exact w1_j j | (rename_i h; exact h j) | simp_all)), trivial⟩ (by show ((p3 - z1001)).toNat < ((p3 - i2)).toNat; omega)
          ·
            refine GO.iload dX12_holds_123 rfl ?_
            refine GO.bipush dX12_holds_125 rfl ?_
            refine GO.icmp_ne (tgt := 172) dX12_holds_127 (by decide) ⟨by omega, by omega⟩ (ir_c rfl) (fun c1004 => ?_) (fun c1004 => ?_)
            ·
              have hka := hk3 (by omega)
              have hkb := hka.1
              refine GO.iload dX12_holds_172 rfl ?_
              refine GO.iconst dX12_holds_174 ?_
              refine GO.isub dX12_holds_175 ?_
              refine GO.name (fun z1005 hz1006 => ?_)
              refine GO.istore (ls1 := [some (.ref x), some (.ref p0), some (ti p1), some (ti p2), some (ti p3), some (ti p4), some (ti p5), some (ti z1005), some (ti z981), some (ti z976), some (ti z979)]) dX12_holds_176 rfl rfl ?_
              refine GO.iload dX12_holds_178 rfl ?_
              refine GO.iconst dX12_holds_180 ?_
              refine GO.icmp_eq (tgt := 191) dX12_holds_181 (by decide) ⟨by omega, by omega⟩ (ir_c rfl) (fun c1007 => ?_) (fun c1007 => ?_)
              ·
                refine GO.aload_n dX12_holds_191 rfl rfl ?_
                refine GO.getA (n := 220) h_x fl_RX12_205 rfl rfl rfl rfl dX12_holds_192 (fun hv1009 h1008 => ?_)
                refine GO.iload dX12_holds_195 rfl ?_
                refine GO.iald (t := 71) rfl rfl h1008 ⟨by omega, by omega⟩ (by omega) (by omega) dX12_holds_197 (fun _ _ => ?_)
                refine GO.if_ne (tgt := 203) dX12_holds_198 (by decide) vi_ir (fun c1010 => ?_) (fun c1010 => ?_)
                ·
                  refine GO.aload_n dX12_holds_203 rfl rfl ?_
                  refine GO.getRaw h_x fl_RX12_205 hv1009 dX12_holds_204 ?_
                  refine GO.iload dX12_holds_207 rfl ?_
                  refine GO.iconst dX12_holds_209 ?_
                  refine GO.isub dX12_holds_210 ?_
                  refine GO.iload dX12_holds_211 rfl ?_
                  refine GO.aload_n dX12_holds_213 rfl rfl ?_
                  refine GO.getRaw h_x fl_RX12_205 hv1009 dX12_holds_214 ?_
                  refine GO.iload dX12_holds_217 rfl ?_
                  refine GO.iconst dX12_holds_219 ?_
                  refine GO.isub dX12_holds_220 ?_
                  refine GO.iald (t := 71) rfl rfl h1008 ⟨by omega, by omega⟩ (by omega) (by omega) dX12_holds_221 (fun _ _ => ?_)
                  refine GO.aload_n dX12_holds_222 rfl rfl ?_
                  refine GO.getRaw h_x fl_RX12_205 hv1009 dX12_holds_223 ?_
                  refine GO.iload dX12_holds_226 rfl ?_
                  refine GO.iald (t := 71) rfl rfl h1008 ⟨by omega, by omega⟩ (by omega) (by omega) dX12_holds_228 (fun _ _ => ?_)
                  have q1017 : -2147483648 ≤ vi Wi1 (vq Wi1 x 81) (z1005).toNat ∧ vi Wi1 (vq Wi1 x 81) (z1005).toNat ≤ 2147483647 := vi_ir
                  refine GO.callS (N := mX12_reckon) dX12_holds_229 gS_RX12_588 (t_X12_reckon ⟨by omega, by omega⟩ vi_ir vi_ir (by omega) (by omega)) rfl [ti (z1005 - 1), .ref (vq Wi1 x 81)] rfl rfl (Nat.le_of_ble_eq_true rfl) rfl (k_ip fun X1018 r1019 h1020 => ?_)
                  refine GO.iast (t := 71) rfl rfl (by decide +kernel) h1008 ⟨by omega, by omega⟩ (by omega) (by omega) r1019 (r1019).1 (r1019).2 dX12_holds_232 (fun V1022 e1021 => ?_)
                  refine GO.goto (tgt := 6) dX12_holds_233 (by decide) ?_
                  refine GO.drop [true, true, true, true, true, true, true, true, true, false, false] rfl ?_
                  exact ih968 z1005 z981 V1022 ⟨by omega, by omega, by omega, by omega, by omega, (by first | exact HI.rf w_0 | exact HI.eq (hk1 (by omega)) (by omega) (by omega) | exact HI.eq (hka.2) (by omega) (by omega) | exact HI.eq (hka.2.2.2.1) (by omega) (by omega) | exact HI.eq (hka.2.2.2.2) (by omega) (by omega)), (by first | exact fun _ => rfl | assumption | exact fun j => (vi_up e1021 (Or.inl (K_ne h_p0 h1008 w_1))).trans (by first | exact w1_j j | (rename_i h; exact h j) | simp_all)), trivial⟩ (by show ((p3 - z981)).toNat < ((p3 - i2)).toNat; omega)
                ·
                  refine GO.iconst dX12_holds_201 ?_
                  exact GO.reti rfl rfl dX12_holds_202 ⟨rfl, _, rfl, (ir_c rfl), trivial⟩
              ·
                refine GO.iload dX12_holds_184 rfl ?_
                refine GO.bipush dX12_holds_186 rfl ?_
                refine GO.icmp_ne (tgt := 203) dX12_holds_188 (by decide) ⟨by omega, by omega⟩ (ir_c rfl) (fun c1023 => ?_) (fun c1023 => ?_)
                ·
                  refine GO.aload_n dX12_holds_203 rfl rfl ?_
                  refine GO.getA (n := 220) h_x fl_RX12_205 rfl rfl rfl rfl dX12_holds_204 (fun hv1025 h1024 => ?_)
                  refine GO.iload dX12_holds_207 rfl ?_
                  refine GO.iconst dX12_holds_209 ?_
                  refine GO.isub dX12_holds_210 ?_
                  refine GO.iload dX12_holds_211 rfl ?_
                  refine GO.aload_n dX12_holds_213 rfl rfl ?_
                  refine GO.getRaw h_x fl_RX12_205 hv1025 dX12_holds_214 ?_
                  refine GO.iload dX12_holds_217 rfl ?_
                  refine GO.iconst dX12_holds_219 ?_
                  refine GO.isub dX12_holds_220 ?_
                  refine GO.iald (t := 71) rfl rfl h1024 ⟨by omega, by omega⟩ (by omega) (by omega) dX12_holds_221 (fun _ _ => ?_)
                  refine GO.aload_n dX12_holds_222 rfl rfl ?_
                  refine GO.getRaw h_x fl_RX12_205 hv1025 dX12_holds_223 ?_
                  refine GO.iload dX12_holds_226 rfl ?_
                  refine GO.iald (t := 71) rfl rfl h1024 ⟨by omega, by omega⟩ (by omega) (by omega) dX12_holds_228 (fun _ _ => ?_)
                  have q1030 : -2147483648 ≤ vi Wi1 (vq Wi1 x 81) (z1005).toNat ∧ vi Wi1 (vq Wi1 x 81) (z1005).toNat ≤ 2147483647 := vi_ir
                  refine GO.callS (N := mX12_reckon) dX12_holds_229 gS_RX12_588 (t_X12_reckon ⟨by omega, by omega⟩ vi_ir vi_ir (by omega) (by omega)) rfl [ti (z1005 - 1), .ref (vq Wi1 x 81)] rfl rfl (Nat.le_of_ble_eq_true rfl) rfl (k_ip fun X1031 r1032 h1033 => ?_)
                  refine GO.iast (t := 71) rfl rfl (by decide +kernel) h1024 ⟨by omega, by omega⟩ (by omega) (by omega) r1032 (r1032).1 (r1032).2 dX12_holds_232 (fun V1035 e1034 => ?_)
                  refine GO.goto (tgt := 6) dX12_holds_233 (by decide) ?_
                  refine GO.drop [true, true, true, true, true, true, true, true, true, false, false] rfl ?_
                  exact ih968 z1005 z981 V1035 ⟨by omega, by omega, by omega, by omega, by omega, (by first | exact HI.rf w_0 | exact HI.eq (hk1 (by omega)) (by omega) (by omega) | exact HI.eq (hka.2) (by omega) (by omega) | exact HI.eq (hka.2.2.2.1) (by omega) (by omega) | exact HI.eq (hka.2.2.2.2) (by omega) (by omega)), (by first | exact fun _ => rfl | assumption | exact fun j => (vi_up e1034 (Or.inl (K_ne h_p0 h1024 w_1))).trans (by first | exact w1_j j | (rename_i h; exact h j) | simp_all)), trivial⟩ (by show ((p3 - z981)).toNat < ((p3 - i2)).toNat; omega)
                ·
                  refine GO.aload_n dX12_holds_191 rfl rfl ?_
                  refine GO.getA (n := 220) h_x fl_RX12_205 rfl rfl rfl rfl dX12_holds_192 (fun hv1037 h1036 => ?_)
                  refine GO.iload dX12_holds_195 rfl ?_
                  refine GO.iald (t := 71) rfl rfl h1036 ⟨by omega, by omega⟩ (by omega) (by omega) dX12_holds_197 (fun _ _ => ?_)
                  refine GO.if_ne (tgt := 203) dX12_holds_198 (by decide) vi_ir (fun c1038 => ?_) (fun c1038 => ?_)
                  ·
                    refine GO.aload_n dX12_holds_203 rfl rfl ?_
                    refine GO.getRaw h_x fl_RX12_205 hv1037 dX12_holds_204 ?_
                    refine GO.iload dX12_holds_207 rfl ?_
                    refine GO.iconst dX12_holds_209 ?_
                    refine GO.isub dX12_holds_210 ?_
                    refine GO.iload dX12_holds_211 rfl ?_
                    refine GO.aload_n dX12_holds_213 rfl rfl ?_
                    refine GO.getRaw h_x fl_RX12_205 hv1037 dX12_holds_214 ?_
                    refine GO.iload dX12_holds_217 rfl ?_
                    refine GO.iconst dX12_holds_219 ?_
                    refine GO.isub dX12_holds_220 ?_
                    refine GO.iald (t := 71) rfl rfl h1036 ⟨by omega, by omega⟩ (by omega) (by omega) dX12_holds_221 (fun _ _ => ?_)
                    refine GO.aload_n dX12_holds_222 rfl rfl ?_
                    refine GO.getRaw h_x fl_RX12_205 hv1037 dX12_holds_223 ?_
                    refine GO.iload dX12_holds_226 rfl ?_
                    refine GO.iald (t := 71) rfl rfl h1036 ⟨by omega, by omega⟩ (by omega) (by omega) dX12_holds_228 (fun _ _ => ?_)
                    have q1045 : -2147483648 ≤ vi Wi1 (vq Wi1 x 81) (z1005).toNat ∧ vi Wi1 (vq Wi1 x 81) (z1005).toNat ≤ 2147483647 := vi_ir
                    refine GO.callS (N := mX12_reckon) dX12_holds_229 gS_RX12_588 (t_X12_reckon ⟨by omega, by omega⟩ vi_ir vi_ir (by omega) (by omega)) rfl [ti (z1005 - 1), .ref (vq Wi1 x 81)] rfl rfl (Nat.le_of_ble_eq_true rfl) rfl (k_ip fun X1046 r1047 h1048 => ?_)
                    refine GO.iast (t := 71) rfl rfl (by decide +kernel) h1036 ⟨by omega, by omega⟩ (by omega) (by omega) r1047 (r1047).1 (r1047).2 dX12_holds_232 (fun V1050 e1049 => ?_)
                    refine GO.goto (tgt := 6) dX12_holds_233 (by decide) ?_
                    refine GO.drop [true, true, true, true, true, true, true, true, true, false, false] rfl ?_
                    exact ih968 z1005 z981 V1050 ⟨by omega, by omega, by omega, by omega, by omega, (by first | exact HI.rf w_0 | exact HI.eq (hk1 (by omega)) (by omega) (by omega) | exact HI.eq (hka.2) (by omega) (by omega) | exact HI.eq (hka.2.2.2.1) (by omega) (by omega) | exact HI.eq (hka.2.2.2.2) (by omega) (by omega)), (by first | exact fun _ => rfl | assumption | exact fun j => (vi_up e1049 (Or.inl (K_ne h_p0 h1036 w_1))).trans (by first | exact w1_j j | (rename_i h; exact h j) | simp_all)), trivial⟩ (by show ((p3 - z981)).toNat < ((p3 - i2)).toNat; omega)
                  ·
                    refine GO.iconst dX12_holds_201 ?_
                    exact GO.reti rfl rfl dX12_holds_202 ⟨rfl, _, rfl, (ir_c rfl), trivial⟩
            ·
              have hka := hk4 (by omega)
              have hkb := hka.1
              have hkc := hka.2.1
              have hkd := hka.2.2.1
              refine GO.aload_n dX12_holds_130 rfl rfl ?_
              refine GO.getA (n := 220) h_x fl_RX12_205 rfl rfl rfl rfl dX12_holds_131 (fun hv1052 h1051 => ?_)
              refine GO.iload dX12_holds_134 rfl ?_
              refine GO.iconst dX12_holds_136 ?_
              refine GO.isub dX12_holds_137 ?_
              refine GO.iald (t := 71) rfl rfl h1051 ⟨by omega, by omega⟩ (by omega) (by omega) dX12_holds_138 (fun _ _ => ?_)
              refine GO.iload dX12_holds_139 rfl ?_
              refine GO.bipush dX12_holds_141 rfl ?_
              refine GO.icmp_ne (tgt := 150) dX12_holds_143 (by decide) ⟨by omega, by omega⟩ (ir_c rfl) (fun h => by exfalso; omega) (fun c1053 => ?_)
              refine GO.iconst dX12_holds_146 ?_
              refine GO.goto (tgt := 151) dX12_holds_147 (by decide) ?_
              refine GO.icmp_ne (tgt := 163) dX12_holds_151 (by decide) vi_ir (ir_c rfl) (fun c1054 => ?_) (fun c1054 => ?_)
              ·
                refine GO.iload dX12_holds_163 rfl ?_
                refine GO.iconst dX12_holds_165 ?_
                refine GO.isub dX12_holds_166 ?_
                refine GO.name (fun z1055 hz1056 => ?_)
                refine GO.istore (ls1 := [some (.ref x), some (.ref p0), some (ti p1), some (ti p2), some (ti p3), some (ti p4), some (ti p5), some (ti z1055), some (ti z981), some (ti z976), some (ti z979)]) dX12_holds_167 rfl rfl ?_
                refine GO.goto (tgt := 233) dX12_holds_169 (by decide) ?_
                refine GO.goto (tgt := 6) dX12_holds_233 (by decide) ?_
                refine GO.drop [true, true, true, true, true, true, true, true, true, false, false] rfl ?_
                have q1057 : -2147483648 ≤ p1 ∧ p1 ≤ 2147483647 := r_p1
                exact ih968 z1055 z981 Wi1 ⟨by omega, by omega, by omega, by omega, by omega, (by first | exact HI.rf w_0 | exact HI.eq (hk1 (by omega)) (by omega) (by omega) | exact HI.eq (hka.2) (by omega) (by omega) | exact HI.eq (hka.2.2.2.1) (by omega) (by omega) | exact HI.eq (hka.2.2.2.2) (by omega) (by omega)), (by first | exact fun _ => rfl | assumption | exact fun j => (vi_up @E (Or.inl (K_ne h_p0 @P w_1))).trans (by first | exact w1_j j | (rename_i h; exact h j) | simp_all)), trivial⟩ (by show ((p3 - z981)).toNat < ((p3 - i2)).toNat; omega)
              ·
                refine GO.iload_n dX12_holds_154 rfl rfl ?_
                refine GO.iload dX12_holds_155 rfl ?_
                refine GO.iadd dX12_holds_157 ?_
                refine GO.name (fun z1058 hz1059 => ?_)
                refine GO.istore (ls1 := [some (.ref x), some (.ref p0), some (ti p1), some (ti p2), some (ti p3), some (ti p4), some (ti p5), some (ti i1), some (ti z1058), some (ti z976), some (ti z979)]) dX12_holds_158 rfl rfl ?_
                refine GO.goto (tgt := 233) dX12_holds_160 (by decide) ?_
                refine GO.goto (tgt := 6) dX12_holds_233 (by decide) ?_
                refine GO.drop [true, true, true, true, true, true, true, true, true, false, false] rfl ?_
                have q1060 : -2147483648 ≤ p1 ∧ p1 ≤ 2147483647 := r_p1
                exact ih968 i1 z1058 Wi1 ⟨by omega, by omega, by omega, by omega, by omega, (by first | exact HI.rf w_0 | exact HI.eq (hk1 (by omega)) (by omega) (by omega) | exact HI.eq (hka.2) (by omega) (by omega) | exact HI.eq (hka.2.2.2.1) (by omega) (by omega) | exact HI.eq (hka.2.2.2.2) (by omega) (by omega)), (by first | exact fun _ => rfl | assumption | exact fun j => (vi_up @E (Or.inl (K_ne h_p0 @P w_1))).trans (by first | exact w1_j j | (rename_i h; exact h j) | simp_all)), trivial⟩ (by show ((p3 - z1058)).toNat < ((p3 - i2)).toNat; omega)
        ·
          have hka := hk2 (by omega)
          have hkb := hka.1
          refine GO.aload_n dX12_holds_93 rfl rfl ?_
          refine GO.getA (n := 220) h_x fl_RX12_205 rfl rfl rfl rfl dX12_holds_94 (fun hv1062 h1061 => ?_)
          refine GO.iload dX12_holds_97 rfl ?_
          refine GO.iconst dX12_holds_99 ?_
          refine GO.isub dX12_holds_100 ?_
          refine GO.iconst dX12_holds_101 ?_
          refine GO.aload_n dX12_holds_102 rfl rfl ?_
          refine GO.getRaw h_x fl_RX12_205 hv1062 dX12_holds_103 ?_
          refine GO.iload dX12_holds_106 rfl ?_
          refine GO.iconst dX12_holds_108 ?_
          refine GO.isub dX12_holds_109 ?_
          refine GO.iald (t := 71) rfl rfl h1061 ⟨by omega, by omega⟩ (by omega) (by omega) dX12_holds_110 (fun _ _ => ?_)
          refine GO.isub dX12_holds_111 ?_
          refine GO.norm (fun z1065 r1066 _ => ?_)
          refine GO.iast (t := 71) rfl rfl (by decide +kernel) h1061 ⟨by omega, by omega⟩ (by omega) (by omega) r1066 (r1066).1 (r1066).2 dX12_holds_112 (fun V1068 e1067 => ?_)
          refine GO.goto (tgt := 233) dX12_holds_113 (by decide) ?_
          refine GO.goto (tgt := 6) dX12_holds_233 (by decide) ?_
          refine GO.drop [true, true, true, true, true, true, true, true, true, false, false] rfl ?_
          exact ih968 i1 z981 V1068 ⟨by omega, by omega, by omega, by omega, by omega, (by first | exact HI.rf w_0 | exact HI.eq (hk1 (by omega)) (by omega) (by omega) | exact HI.eq (hka.2) (by omega) (by omega) | exact HI.eq (hka.2.2.2.1) (by omega) (by omega) | exact HI.eq (hka.2.2.2.2) (by omega) (by omega)), (by first | exact fun _ => rfl | assumption | exact fun j => (vi_up e1067 (Or.inl (K_ne h_p0 h1061 w_1))).trans (by first | exact w1_j j | (rename_i h; exact h j) | simp_all)), trivial⟩ (by show ((p3 - z981)).toNat < ((p3 - i2)).toNat; omega)
      ·
        refine GO.aload_n dX12_holds_50 rfl rfl ?_
        refine GO.getA (n := 220) h_x fl_RX12_205 rfl rfl rfl rfl dX12_holds_51 (fun hv1070 h1069 => ?_)
        refine GO.iload dX12_holds_54 rfl ?_
        refine GO.iload dX12_holds_56 rfl ?_
        refine GO.if_ne (tgt := 66) dX12_holds_58 (by decide) ⟨by omega, by omega⟩ (fun c1071 => ?_) (fun h => by exfalso; omega)
        refine GO.aload_n dX12_holds_66 rfl rfl ?_
        refine GO.iload dX12_holds_67 rfl ?_
        refine GO.iload dX12_holds_69 rfl ?_
        refine GO.iload dX12_holds_71 rfl ?_
        have q1072 : -2147483648 ≤ p4 ∧ p4 ≤ 2147483647 := r_p4
        refine GO.callV (ci := 11) (N := mX12_valueOf) dX12_holds_73 (RX12, TX12, 151) rfl gV_RX12_585 h_x (t_X12_valueOf h_x ⟨by omega, by omega⟩ r_p4 r_p5 (by omega) (by omega)) rfl [ti i1, .ref (vq Wi1 x 81)] rfl rfl (Nat.le_of_ble_eq_true rfl) rfl (k_ip fun X1073 r1074 h1075 => ?_)
        refine GO.iast (t := 71) rfl rfl (by decide +kernel) h1069 r_i1 (by omega) (by omega) r1074 (r1074).1 (r1074).2 dX12_holds_76 (fun V1077 e1076 => ?_)
        refine GO.iload dX12_holds_77 rfl ?_
        refine GO.iconst dX12_holds_79 ?_
        refine GO.iadd dX12_holds_80 ?_
        refine GO.name (fun z1078 hz1079 => ?_)
        refine GO.istore (ls1 := [some (.ref x), some (.ref p0), some (ti p1), some (ti p2), some (ti p3), some (ti p4), some (ti p5), some (ti z1078), some (ti z981), some (ti z976), some (ti z979)]) dX12_holds_81 rfl rfl ?_
        refine GO.goto (tgt := 233) dX12_holds_83 (by decide) ?_
        refine GO.goto (tgt := 6) dX12_holds_233 (by decide) ?_
        refine GO.drop [true, true, true, true, true, true, true, true, true, false, false] rfl ?_
        exact ih968 z1078 z981 V1077 ⟨by omega, by omega, by omega, by omega, by omega, (by first | exact HI.rf w_0 | exact HI.eq (hk1 (by omega)) (by omega) (by omega) | exact HI.eq (hka.2) (by omega) (by omega) | exact HI.eq (hka.2.2.2.1) (by omega) (by omega) | exact HI.eq (hka.2.2.2.2) (by omega) (by omega)), (by first | exact fun _ => rfl | assumption | exact fun j => (vi_up e1076 (Or.inl (K_ne h_p0 h1069 w_1))).trans (by first | exact w1_j j | (rename_i h; exact h j) | simp_all)), trivial⟩ (by show ((p3 - z981)).toNat < ((p3 - i2)).toNat; omega)

set_option maxHeartbeats 1000000 in
theorem t_X12_clauseHolds {K : Kmap} {V : Vmap} {x : Nat} {p0 : Int} {p1 : Int} {p2 : Int} {p3 : Int} (h_x : K x = some (0, 11)) (r_p0 : ir p0) (r_p1 : ir p1) (r_p2 : ir p2) (r_p3 : ir p3) (z_p3 : p3 = 0 ∨ p3 = 1) (q_0 : p0 ≥ 0) (q_1 : p0 ≤ 239) (q_2 : p1 ≥ 0) (q_3 : p1 ≤ 99) (w_0 : GX V x) (w_1 : HX V x p0) : MC mX12_clauseHolds K V [.ref x, ti p0, ti p1, ti p2, ti p3] (IS K (fun X V1 => True)) := by
  refine MC.start 1 (by decide +kernel) rfl rfl rfl (ls0 := [some (.ref x), some (ti p0), some (ti p1), some (ti p2), some (ti p3), none]) rfl ?_
  refine GO.useWT (fun hW_0 => ?_)
  refine GO.aload_n dX12_clauseHolds_0 rfl rfl ?_
  refine GO.getI h_x fl_RX12_547 rfl rfl dX12_clauseHolds_1 (fun l1 u2 => ?_)
  refine GO.iconst dX12_clauseHolds_4 ?_
  refine GO.isub dX12_clauseHolds_5 ?_
  refine GO.name (fun z3 hz4 => ?_)
  refine GO.istore (ls1 := [some (.ref x), some (ti p0), some (ti p1), some (ti p2), some (ti p3), some (ti z3)]) dX12_clauseHolds_6 rfl rfl ?_
  refine GO.loop1 (fun i5 W => (-1) ≤ i5 ∧ i5 ≤ 19 ∧ (i5 < vi W x 48) ∧ V = W) (fun i5 => [some (.ref x), some (ti p0), some (ti p1), some (ti p2), some (ti p3), some (ti i5)]) (fun i5 W => (i5 + 2147483648).toNat) z3 ⟨by omega, by omega, by omega, rfl⟩ rfl (fun i5 V67 hp69 ih68 => ?_)
  obtain ⟨l_i5, u_i5, n_i5, rfl⟩ := hp69
  have r_i5 : ir i5 := ⟨by omega, by omega⟩
  show GO mX12_clauseHolds K V (IS K (fun X V1 => True)) K V 0 0 8 [some (.ref x), some (ti p0), some (ti p1), some (ti p2), some (ti p3), some (ti i5)] []
  refine GO.iload dX12_clauseHolds_8 rfl ?_
  refine GO.if_lt (tgt := 85) dX12_clauseHolds_10 (by decide) r_i5 (fun c70 => ?_) (fun c70 => ?_)
  ·
    refine GO.aload_n dX12_clauseHolds_85 rfl rfl ?_
    refine GO.aload_n dX12_clauseHolds_86 rfl rfl ?_
    refine GO.getA (n := 4400) h_x fl_RX12_112 rfl rfl rfl rfl dX12_clauseHolds_87 (fun hv72 h71 => ?_)
    refine GO.sipush dX12_clauseHolds_90 rfl ?_
    refine GO.iload_n dX12_clauseHolds_93 rfl rfl ?_
    refine GO.bipush dX12_clauseHolds_94 rfl ?_
    have q73 : -2147483648 ≤ p0 ∧ p0 ≤ 2147483647 := r_p0
    refine GO.idivP dX12_clauseHolds_96 r_p0 (ir_c rfl) (by omega) (by omega) ?_
    refine GO.imul dX12_clauseHolds_97 ?_
    refine GO.aload_n dX12_clauseHolds_98 rfl rfl ?_
    refine GO.getA (n := 240) h_x fl_RX12_127 rfl rfl rfl rfl dX12_clauseHolds_99 (fun hv75 h74 => ?_)
    refine GO.iload_n dX12_clauseHolds_102 rfl rfl ?_
    refine GO.iald (t := 45) rfl rfl h74 r_p0 (by omega) (by omega) dX12_clauseHolds_103 (fun l76 u77 => ?_)
    refine GO.aload_n dX12_clauseHolds_104 rfl rfl ?_
    refine GO.getA (n := 240) h_x fl_RX12_130 rfl rfl rfl rfl dX12_clauseHolds_105 (fun hv79 h78 => ?_)
    refine GO.iload_n dX12_clauseHolds_108 rfl rfl ?_
    refine GO.iald (t := 46) rfl rfl h78 r_p0 (by omega) (by omega) dX12_clauseHolds_109 (fun l80 u81 => ?_)
    refine GO.iload_n dX12_clauseHolds_110 rfl rfl ?_
    refine GO.iload_n dX12_clauseHolds_111 rfl rfl ?_
    have q82 : -2147483648 ≤ p1 ∧ p1 ≤ 2147483647 := r_p1
    refine GO.callV (ci := 11) (N := mX12_holds) dX12_clauseHolds_112 (RX12, TX12, 151) rfl gV_RX12_591 h_x (t_X12_holds h_x rfl h71 ⟨by omega, by omega⟩ vi_ir vi_ir r_p1 r_p2 (by omega) (by omega) ((by first | exact GX.own w_0.2 (by omega) (by omega) | exact w_1)) (by decide)) rfl [] rfl rfl (Nat.le_of_ble_eq_true rfl) rfl (k_is fun X83 V87 r84 h85 hF86 => ?_)
    have q88 : -2147483648 ≤ X83 ∧ X83 ≤ 2147483647 := r84
    exact GO.reti rfl rfl dX12_clauseHolds_115 ⟨rfl, _, rfl, r84, trivial⟩
  ·
    refine GO.iload dX12_clauseHolds_13 rfl ?_
    refine GO.if_eq (tgt := 85) dX12_clauseHolds_15 (by decide) r_p3 (fun c89 => ?_) (fun c89 => ?_)
    ·
      refine GO.aload_n dX12_clauseHolds_85 rfl rfl ?_
      refine GO.aload_n dX12_clauseHolds_86 rfl rfl ?_
      refine GO.getA (n := 4400) h_x fl_RX12_112 rfl rfl rfl rfl dX12_clauseHolds_87 (fun hv91 h90 => ?_)
      refine GO.sipush dX12_clauseHolds_90 rfl ?_
      refine GO.iload_n dX12_clauseHolds_93 rfl rfl ?_
      refine GO.bipush dX12_clauseHolds_94 rfl ?_
      have q92 : -2147483648 ≤ p0 ∧ p0 ≤ 2147483647 := r_p0
      refine GO.idivP dX12_clauseHolds_96 r_p0 (ir_c rfl) (by omega) (by omega) ?_
      refine GO.imul dX12_clauseHolds_97 ?_
      refine GO.aload_n dX12_clauseHolds_98 rfl rfl ?_
      refine GO.getA (n := 240) h_x fl_RX12_127 rfl rfl rfl rfl dX12_clauseHolds_99 (fun hv94 h93 => ?_)
      refine GO.iload_n dX12_clauseHolds_102 rfl rfl ?_
      refine GO.iald (t := 45) rfl rfl h93 r_p0 (by omega) (by omega) dX12_clauseHolds_103 (fun l95 u96 => ?_)
      refine GO.aload_n dX12_clauseHolds_104 rfl rfl ?_
      refine GO.getA (n := 240) h_x fl_RX12_130 rfl rfl rfl rfl dX12_clauseHolds_105 (fun hv98 h97 => ?_)
      refine GO.iload_n dX12_clauseHolds_108 rfl rfl ?_
      refine GO.iald (t := 46) rfl rfl h97 r_p0 (by omega) (by omega) dX12_clauseHolds_109 (fun l99 u100 => ?_)
      refine GO.iload_n dX12_clauseHolds_110 rfl rfl ?_
      refine GO.iload_n dX12_clauseHolds_111 rfl rfl ?_
      have q101 : -2147483648 ≤ p1 ∧ p1 ≤ 2147483647 := r_p1
      refine GO.callV (ci := 11) (N := mX12_holds) dX12_clauseHolds_112 (RX12, TX12, 151) rfl gV_RX12_591 h_x (t_X12_holds h_x rfl h90 ⟨by omega, by omega⟩ vi_ir vi_ir r_p1 r_p2 (by omega) (by omega) ((by first | exact GX.own w_0.2 (by omega) (by omega) | exact w_1)) (by decide)) rfl [] rfl rfl (Nat.le_of_ble_eq_true rfl) rfl (k_is fun X102 V106 r103 h104 hF105 => ?_)
      have q107 : -2147483648 ≤ X102 ∧ X102 ≤ 2147483647 := r103
      exact GO.reti rfl rfl dX12_clauseHolds_115 ⟨rfl, _, rfl, r103, trivial⟩
    ·
      refine GO.aload_n dX12_clauseHolds_18 rfl rfl ?_
      refine GO.getA (n := 20) h_x fl_RX12_151 rfl rfl rfl rfl dX12_clauseHolds_19 (fun hv109 h108 => ?_)
      refine GO.iload dX12_clauseHolds_22 rfl ?_
      refine GO.iald (t := 53) rfl rfl h108 r_i5 (by omega) (by omega) dX12_clauseHolds_24 (fun _ _ => ?_)
      refine GO.aload_n dX12_clauseHolds_25 rfl rfl ?_
      refine GO.getA (n := 100) h_x fl_RX12_166 rfl rfl rfl rfl dX12_clauseHolds_26 (fun hv111 h110 => ?_)
      refine GO.iload_n dX12_clauseHolds_29 rfl rfl ?_
      have q112 : -2147483648 ≤ p1 ∧ p1 ≤ 2147483647 := r_p1
      refine GO.iald (t := 58) rfl rfl h110 r_p1 (by omega) (by omega) dX12_clauseHolds_30 (fun l113 u114 => ?_)
      refine GO.icmp_ne (tgt := 79) dX12_clauseHolds_31 (by decide) vi_ir vi_ir (fun c115 => ?_) (fun c115 => ?_)
      ·
        refine GO.iinc (X := i5) (n := (-1)) (Y := i5 + (-1)) (ls1 := [some (.ref x), some (ti p0), some (ti p1), some (ti p2), some (ti p3), some (ti (i5 + (-1)))]) dX12_clauseHolds_79 rfl rfl rfl rfl ?_
        refine GO.goto (tgt := 8) dX12_clauseHolds_82 (by decide) ?_
        exact ih68 (i5 + (-1)) V ⟨by omega, by omega, by omega, rfl⟩ (by show ((i5 + (-1)) + 2147483648).toNat < (i5 + 2147483648).toNat; omega)
      ·
        refine GO.aload_n dX12_clauseHolds_34 rfl rfl ?_
        refine GO.getA (n := 20) h_x fl_RX12_154 rfl rfl rfl rfl dX12_clauseHolds_35 (fun hv117 h116 => ?_)
        refine GO.iload dX12_clauseHolds_38 rfl ?_
        refine GO.iald (t := 54) rfl rfl h116 r_i5 (by omega) (by omega) dX12_clauseHolds_40 (fun _ _ => ?_)
        refine GO.iload_n dX12_clauseHolds_41 rfl rfl ?_
        refine GO.icmp_ne (tgt := 79) dX12_clauseHolds_42 (by decide) vi_ir r_p0 (fun c118 => ?_) (fun c118 => ?_)
        ·
          refine GO.iinc (X := i5) (n := (-1)) (Y := i5 + (-1)) (ls1 := [some (.ref x), some (ti p0), some (ti p1), some (ti p2), some (ti p3), some (ti (i5 + (-1)))]) dX12_clauseHolds_79 rfl rfl rfl rfl ?_
          refine GO.goto (tgt := 8) dX12_clauseHolds_82 (by decide) ?_
          exact ih68 (i5 + (-1)) V ⟨by omega, by omega, by omega, rfl⟩ (by show ((i5 + (-1)) + 2147483648).toNat < (i5 + 2147483648).toNat; omega)
        ·
          refine GO.aload_n dX12_clauseHolds_45 rfl rfl ?_
          refine GO.aload_n dX12_clauseHolds_46 rfl rfl ?_
          refine GO.getA (n := 2200) h_x fl_RX12_145 rfl rfl rfl rfl dX12_clauseHolds_47 (fun hv120 h119 => ?_)
          refine GO.bipush dX12_clauseHolds_50 rfl ?_
          refine GO.iload dX12_clauseHolds_52 rfl ?_
          refine GO.imul dX12_clauseHolds_54 ?_
          refine GO.bipush dX12_clauseHolds_55 rfl ?_
          refine GO.iload dX12_clauseHolds_57 rfl ?_
          refine GO.imul dX12_clauseHolds_59 ?_
          refine GO.bipush dX12_clauseHolds_60 rfl ?_
          refine GO.iload dX12_clauseHolds_62 rfl ?_
          refine GO.imul dX12_clauseHolds_64 ?_
          refine GO.aload_n dX12_clauseHolds_65 rfl rfl ?_
          refine GO.getA (n := 20) h_x fl_RX12_148 rfl rfl rfl rfl dX12_clauseHolds_66 (fun hv122 h121 => ?_)
          refine GO.iload dX12_clauseHolds_69 rfl ?_
          refine GO.iald (t := 52) rfl rfl h121 r_i5 (by omega) (by omega) dX12_clauseHolds_71 (fun l123 u124 => ?_)
          refine GO.iadd dX12_clauseHolds_72 ?_
          refine GO.iload_n dX12_clauseHolds_73 rfl rfl ?_
          refine GO.iload_n dX12_clauseHolds_74 rfl rfl ?_
          refine GO.callV (ci := 11) (N := mX12_holds) dX12_clauseHolds_75 (RX12, TX12, 151) rfl gV_RX12_591 h_x (t_X12_holds h_x rfl h119 ⟨by omega, by omega⟩ ⟨by omega, by omega⟩ ⟨by omega, by omega⟩ r_p1 r_p2 (by omega) (by omega) ((by first | exact GX.own w_0.2 (by omega) (by omega) | exact w_1)) (by decide)) rfl [] rfl rfl (Nat.le_of_ble_eq_true rfl) rfl (k_is fun X125 V129 r126 h127 hF128 => ?_)
          have q130 : -2147483648 ≤ X125 ∧ X125 ≤ 2147483647 := r126
          exact GO.reti rfl rfl dX12_clauseHolds_78 ⟨rfl, _, rfl, r126, trivial⟩

set_option maxHeartbeats 1000000 in
theorem t_X12_barOf {K : Kmap} {V : Vmap} {x : Nat} {p0 : Int} {p1 : Int} {p2 : Int} {p3 : Int} (h_x : K x = some (0, 11)) (r_p0 : ir p0) (r_p1 : ir p1) (r_p2 : ir p2) (r_p3 : ir p3) (z_p3 : p3 = 0 ∨ p3 = 1) (q_0 : p0 ≥ 0) (q_1 : p0 ≤ 239) (q_2 : p1 ≥ 0) (q_3 : p1 ≤ 99) (w_0 : GX V x) (w_1 : HX V x p0) : MC mX12_barOf K V [.ref x, ti p0, ti p1, ti p2, ti p3] (IS K (fun X V1 => True)) := by
  refine MC.start 1 (by decide +kernel) rfl rfl rfl (ls0 := [some (.ref x), some (ti p0), some (ti p1), some (ti p2), some (ti p3), none]) rfl ?_
  refine GO.useWT (fun hW_0 => ?_)
  refine GO.aload_n dX12_barOf_0 rfl rfl ?_
  refine GO.iload_n dX12_barOf_1 rfl rfl ?_
  refine GO.iload_n dX12_barOf_2 rfl rfl ?_
  refine GO.iload_n dX12_barOf_3 rfl rfl ?_
  refine GO.iload dX12_barOf_4 rfl ?_
  have q1 : -2147483648 ≤ p0 ∧ p0 ≤ 2147483647 := r_p0
  have q2 : -2147483648 ≤ p1 ∧ p1 ≤ 2147483647 := r_p1
  refine GO.callV (ci := 11) (N := mX12_clauseHolds) dX12_barOf_6 (RX12, TX12, 151) rfl gV_RX12_595 h_x (t_X12_clauseHolds h_x r_p0 r_p1 r_p2 r_p3 (by omega) (by omega) (by omega) (by omega) (by omega) w_0 (w_1)) rfl [] rfl rfl (Nat.le_of_ble_eq_true rfl) rfl (k_is fun X3 V7 r4 h5 hF6 => ?_)
  refine GO.istore (ls1 := [some (.ref x), some (ti p0), some (ti p1), some (ti p2), some (ti p3), some (ti X3)]) dX12_barOf_9 rfl rfl ?_
  refine GO.iload dX12_barOf_11 rfl ?_
  refine GO.iconst dX12_barOf_13 ?_
  refine GO.icmp_ne (tgt := 20) dX12_barOf_14 (by decide) r4 (ir_c rfl) (fun c8 => ?_) (fun c8 => ?_)
  ·
    refine GO.iload dX12_barOf_20 rfl ?_
    refine GO.if_ne (tgt := 27) dX12_barOf_22 (by decide) r4 (fun c9 => ?_) (fun c9 => ?_)
    ·
      refine GO.aload_n dX12_barOf_27 rfl rfl ?_
      refine GO.getA (n := 240) h_x fl_RX12_124 rfl rfl rfl rfl dX12_barOf_28 (fun hv11 h10 => ?_)
      refine GO.iload_n dX12_barOf_31 rfl rfl ?_
      refine GO.iald (t := 44) rfl rfl h10 r_p0 (by omega) (by omega) dX12_barOf_32 (fun _ _ => ?_)
      by_cases c13 : vi V7 (vq V7 x 53) (p0).toNat = 102
      ·
        refine GO.lookupK (n := 102) (tgt := 76) dX12_barOf_33 (ir_c rfl) c13 (by decide) rfl (by decide) ?_
        refine GO.iconst dX12_barOf_76 ?_
        exact GO.reti rfl rfl dX12_barOf_77 ⟨rfl, _, rfl, (ir_c rfl), trivial⟩
      by_cases c14 : vi V7 (vq V7 x 53) (p0).toNat = 108
      ·
        refine GO.lookupK (n := 108) (tgt := 78) dX12_barOf_33 (ir_c rfl) c14 (by decide) rfl (by decide) ?_
        refine GO.aload_n dX12_barOf_78 rfl rfl ?_
        refine GO.getA (n := 100) h_x fl_RX12_193 rfl rfl rfl rfl dX12_barOf_79 (fun hv16 h15 => ?_)
        refine GO.iload_n dX12_barOf_82 rfl rfl ?_
        refine GO.iald (t := 67) rfl rfl h15 r_p1 (by omega) (by omega) dX12_barOf_83 (fun _ _ => ?_)
        refine GO.iconst dX12_barOf_84 ?_
        refine GO.icmp_eq (tgt := 102) dX12_barOf_85 (by decide) vi_ir (ir_c rfl) (fun c18 => ?_) (fun c18 => ?_)
        ·
          refine GO.iconst dX12_barOf_102 ?_
          exact GO.reti rfl rfl dX12_barOf_103 ⟨rfl, _, rfl, (ir_c rfl), trivial⟩
        ·
          refine GO.aload_n dX12_barOf_88 rfl rfl ?_
          refine GO.getRaw h_x fl_RX12_193 hv16 dX12_barOf_89 ?_
          refine GO.iload_n dX12_barOf_92 rfl rfl ?_
          refine GO.iald (t := 67) rfl rfl h15 r_p1 (by omega) (by omega) dX12_barOf_93 (fun _ _ => ?_)
          refine GO.iload_n dX12_barOf_94 rfl rfl ?_
          refine GO.icmp_gt (tgt := 102) dX12_barOf_95 (by decide) vi_ir r_p2 (fun c21 => ?_) (fun c21 => ?_)
          ·
            refine GO.iconst dX12_barOf_102 ?_
            exact GO.reti rfl rfl dX12_barOf_103 ⟨rfl, _, rfl, (ir_c rfl), trivial⟩
          ·
            refine GO.iconst dX12_barOf_98 ?_
            refine GO.goto (tgt := 103) dX12_barOf_99 (by decide) ?_
            exact GO.reti rfl rfl dX12_barOf_103 ⟨rfl, _, rfl, (ir_c rfl), trivial⟩
      by_cases c22 : vi V7 (vq V7 x 53) (p0).toNat = 110
      ·
        refine GO.lookupK (n := 110) (tgt := 104) dX12_barOf_33 (ir_c rfl) c22 (by decide) rfl (by decide) ?_
        refine GO.aload_n dX12_barOf_104 rfl rfl ?_
        refine GO.getA (n := 100) h_x fl_RX12_190 rfl rfl rfl rfl dX12_barOf_105 (fun hv24 h23 => ?_)
        refine GO.iload_n dX12_barOf_108 rfl rfl ?_
        refine GO.iald (t := 66) rfl rfl h23 r_p1 (by omega) (by omega) dX12_barOf_109 (fun _ _ => ?_)
        refine GO.iconst dX12_barOf_110 ?_
        refine GO.icmp_eq (tgt := 140) dX12_barOf_111 (by decide) vi_ir (ir_c rfl) (fun c26 => ?_) (fun c26 => ?_)
        ·
          refine GO.iconst dX12_barOf_140 ?_
          exact GO.reti rfl rfl dX12_barOf_141 ⟨rfl, _, rfl, (ir_c rfl), trivial⟩
        ·
          refine GO.aload_n dX12_barOf_114 rfl rfl ?_
          refine GO.getRaw h_x fl_RX12_190 hv24 dX12_barOf_115 ?_
          refine GO.iload_n dX12_barOf_118 rfl rfl ?_
          refine GO.iald (t := 66) rfl rfl h23 r_p1 (by omega) (by omega) dX12_barOf_119 (fun _ _ => ?_)
          refine GO.aload_n dX12_barOf_120 rfl rfl ?_
          refine GO.getA (n := 240) h_x fl_RX12_133 rfl rfl rfl rfl dX12_barOf_121 (fun hv30 h29 => ?_)
          refine GO.iload_n dX12_barOf_124 rfl rfl ?_
          refine GO.iald (t := 47) rfl rfl h29 r_p0 (by omega) (by omega) dX12_barOf_125 (fun _ _ => ?_)
          refine GO.iadd dX12_barOf_126 ?_
          refine GO.norm (fun z32 r33 _ => ?_)
          refine GO.aload_n dX12_barOf_127 rfl rfl ?_
          refine GO.getA (n := 100) h_x fl_RX12_172 rfl rfl rfl rfl dX12_barOf_128 (fun hv35 h34 => ?_)
          refine GO.iload_n dX12_barOf_131 rfl rfl ?_
          refine GO.iald (t := 60) rfl rfl h34 r_p1 (by omega) (by omega) dX12_barOf_132 (fun _ _ => ?_)
          refine GO.icmp_gt (tgt := 140) dX12_barOf_133 (by decide) r33 vi_ir (fun c37 => ?_) (fun c37 => ?_)
          ·
            refine GO.iconst dX12_barOf_140 ?_
            exact GO.reti rfl rfl dX12_barOf_141 ⟨rfl, _, rfl, (ir_c rfl), trivial⟩
          ·
            refine GO.iconst dX12_barOf_136 ?_
            refine GO.goto (tgt := 141) dX12_barOf_137 (by decide) ?_
            exact GO.reti rfl rfl dX12_barOf_141 ⟨rfl, _, rfl, (ir_c rfl), trivial⟩
      by_cases c38 : vi V7 (vq V7 x 53) (p0).toNat = 115
      ·
        refine GO.lookupK (n := 115) (tgt := 142) dX12_barOf_33 (ir_c rfl) c38 (by decide) rfl (by decide) ?_
        refine GO.aload_n dX12_barOf_142 rfl rfl ?_
        refine GO.getA (n := 100) h_x fl_RX12_196 rfl rfl rfl rfl dX12_barOf_143 (fun hv40 h39 => ?_)
        refine GO.iload_n dX12_barOf_146 rfl rfl ?_
        refine GO.iald (t := 68) rfl rfl h39 r_p1 (by omega) (by omega) dX12_barOf_147 (fun _ _ => ?_)
        refine GO.iconst dX12_barOf_148 ?_
        refine GO.icmp_eq (tgt := 178) dX12_barOf_149 (by decide) vi_ir (ir_c rfl) (fun c42 => ?_) (fun c42 => ?_)
        ·
          refine GO.iconst dX12_barOf_178 ?_
          exact GO.reti rfl rfl dX12_barOf_179 ⟨rfl, _, rfl, (ir_c rfl), trivial⟩
        ·
          refine GO.aload_n dX12_barOf_152 rfl rfl ?_
          refine GO.getRaw h_x fl_RX12_196 hv40 dX12_barOf_153 ?_
          refine GO.iload_n dX12_barOf_156 rfl rfl ?_
          refine GO.iald (t := 68) rfl rfl h39 r_p1 (by omega) (by omega) dX12_barOf_157 (fun _ _ => ?_)
          refine GO.aload_n dX12_barOf_158 rfl rfl ?_
          refine GO.getA (n := 240) h_x fl_RX12_133 rfl rfl rfl rfl dX12_barOf_159 (fun hv46 h45 => ?_)
          refine GO.iload_n dX12_barOf_162 rfl rfl ?_
          refine GO.iald (t := 47) rfl rfl h45 r_p0 (by omega) (by omega) dX12_barOf_163 (fun _ _ => ?_)
          refine GO.iadd dX12_barOf_164 ?_
          refine GO.norm (fun z48 r49 _ => ?_)
          refine GO.aload_n dX12_barOf_165 rfl rfl ?_
          refine GO.getA (n := 100) h_x fl_RX12_172 rfl rfl rfl rfl dX12_barOf_166 (fun hv51 h50 => ?_)
          refine GO.iload_n dX12_barOf_169 rfl rfl ?_
          refine GO.iald (t := 60) rfl rfl h50 r_p1 (by omega) (by omega) dX12_barOf_170 (fun _ _ => ?_)
          refine GO.icmp_gt (tgt := 178) dX12_barOf_171 (by decide) r49 vi_ir (fun c53 => ?_) (fun c53 => ?_)
          ·
            refine GO.iconst dX12_barOf_178 ?_
            exact GO.reti rfl rfl dX12_barOf_179 ⟨rfl, _, rfl, (ir_c rfl), trivial⟩
          ·
            refine GO.iconst dX12_barOf_174 ?_
            refine GO.goto (tgt := 179) dX12_barOf_175 (by decide) ?_
            exact GO.reti rfl rfl dX12_barOf_179 ⟨rfl, _, rfl, (ir_c rfl), trivial⟩
      refine GO.lookup (off := 147) (tgt := 180) dX12_barOf_33 vi_ir (by decide) (by simp [Op.lookupswitch.offset, Ne.symm c13, Ne.symm c14, Ne.symm c22, Ne.symm c38, c13, c14, c22, c38]) (by decide) ?_
      refine GO.aload_n dX12_barOf_180 rfl rfl ?_
      refine GO.iload_n dX12_barOf_181 rfl rfl ?_
      refine GO.iload_n dX12_barOf_182 rfl rfl ?_
      refine GO.callV (ci := 11) (N := mX12_isConsented) dX12_barOf_183 (RX12, TX12, 151) rfl gV_RX12_599 h_x (t_X12_isConsented h_x r_p1 r_p2 (by omega) (by omega)) rfl [] rfl rfl (Nat.le_of_ble_eq_true rfl) rfl (k_ip fun X54 r55 h56 => ?_)
      refine GO.if_eq (tgt := 193) dX12_barOf_186 (by decide) r55 (fun c57 => ?_) (fun c57 => ?_)
      ·
        refine GO.iconst dX12_barOf_193 ?_
        exact GO.reti rfl rfl dX12_barOf_194 ⟨rfl, _, rfl, (ir_c rfl), trivial⟩
      ·
        refine GO.iconst dX12_barOf_189 ?_
        refine GO.goto (tgt := 194) dX12_barOf_190 (by decide) ?_
        exact GO.reti rfl rfl dX12_barOf_194 ⟨rfl, _, rfl, (ir_c rfl), trivial⟩
    ·
      refine GO.iconst dX12_barOf_25 ?_
      exact GO.reti rfl rfl dX12_barOf_26 ⟨rfl, _, rfl, (ir_c rfl), trivial⟩
  ·
    refine GO.bipush dX12_barOf_17 rfl ?_
    exact GO.reti rfl rfl dX12_barOf_19 ⟨rfl, _, rfl, (ir_c rfl), trivial⟩

set_option maxHeartbeats 1000000 in
theorem t_X12_mayOn {K : Kmap} {V : Vmap} {x : Nat} {p0 : Int} {p1 : Int} {p2 : Int} (h_x : K x = some (0, 11)) (r_p0 : ir p0) (r_p1 : ir p1) (r_p2 : ir p2) (z_p2 : p2 = 0 ∨ p2 = 1) (q_0 : p0 ≥ 0) (q_1 : p0 ≤ 99) (w_0 : GX V x) : MC mX12_mayOn K V [.ref x, ti p0, ti p1, ti p2] (IS K (fun X V1 => True)) := by
  refine MC.start 4 (by decide +kernel) rfl rfl rfl (ls0 := [some (.ref x), some (ti p0), some (ti p1), some (ti p2), none, none, none, none]) rfl ?_
  refine GO.useWT (fun hW_0 => ?_)
  refine GO.aload_n dX12_mayOn_0 rfl rfl ?_
  refine GO.aload_n dX12_mayOn_1 rfl rfl ?_
  refine GO.getA (n := 100) h_x fl_RX12_166 rfl rfl rfl rfl dX12_mayOn_2 (fun hv2 h1 => ?_)
  refine GO.iload_n dX12_mayOn_5 rfl rfl ?_
  have q3 : -2147483648 ≤ p0 ∧ p0 ≤ 2147483647 := r_p0
  refine GO.iald (t := 58) rfl rfl h1 r_p0 (by omega) (by omega) dX12_mayOn_6 (fun l4 u5 => ?_)
  refine GO.iload_n dX12_mayOn_7 rfl rfl ?_
  refine GO.callV (ci := 11) (N := mX12_binds) dX12_mayOn_8 (RX12, TX12, 151) rfl gV_RX12_557 h_x (t_X12_binds h_x vi_ir r_p1 (by omega) (by omega)) rfl [] rfl rfl (Nat.le_of_ble_eq_true rfl) rfl (k_vs fun V8 h7 hF6 => ?_)
  refine GO.iconst dX12_mayOn_11 ?_
  refine GO.istore (ls1 := [some (.ref x), some (ti p0), some (ti p1), some (ti p2), some (ti 0), none, none, none]) dX12_mayOn_12 rfl rfl ?_
  refine GO.loop1 (fun i9 W => 0 ≤ i9 ∧ i9 ≤ 20 ∧ True) (fun i9 => [some (.ref x), some (ti p0), some (ti p1), some (ti p2), some (ti i9), none, none, none]) (fun i9 W => (2147483647 - i9).toNat) 0 ⟨by omega, by omega, trivial⟩ rfl (fun i9 Wi9 hp3494 ih3493 => ?_)
  obtain ⟨l_i9, u_i9, -⟩ := hp3494
  have r_i9 : ir i9 := ⟨by omega, by omega⟩
  show GO mX12_mayOn K V (IS K (fun X V1 => True)) K Wi9 0 0 14 [some (.ref x), some (ti p0), some (ti p1), some (ti p2), some (ti i9), none, none, none] []
  refine GO.iload dX12_mayOn_14 rfl ?_
  refine GO.aload_n dX12_mayOn_16 rfl rfl ?_
  refine GO.getI h_x fl_RX12_535 rfl rfl dX12_mayOn_17 (fun l3495 u3496 => ?_)
  refine GO.icmp_ge (tgt := 124) dX12_mayOn_20 (by decide) r_i9 vi_ir (fun c3497 => ?_) (fun c3497 => ?_)
  ·
    refine GO.iconst dX12_mayOn_124 ?_
    exact GO.reti rfl rfl dX12_mayOn_125 ⟨rfl, _, rfl, (ir_c rfl), trivial⟩
  ·
    refine GO.iconst dX12_mayOn_23 ?_
    refine GO.istore (ls1 := [some (.ref x), some (ti p0), some (ti p1), some (ti p2), some (ti i9), some (ti 0), none, none]) dX12_mayOn_24 rfl rfl ?_
    refine GO.loop1 (fun i3498 W => 0 ≤ i3498 ∧ i3498 ≤ 12 ∧ (i9 < vi W x 47) ∧ True) (fun i3498 => [some (.ref x), some (ti p0), some (ti p1), some (ti p2), some (ti i9), some (ti i3498), none, none]) (fun i3498 W => (2147483647 - i3498).toNat) 0 ⟨by omega, by omega, by omega, trivial⟩ rfl (fun i3498 Wi3498 hp3842 ih3841 => ?_)
    obtain ⟨l_i3498, u_i3498, n_i3498, -⟩ := hp3842
    have r_i3498 : ir i3498 := ⟨by omega, by omega⟩
    show GO mX12_mayOn K V (IS K (fun X V1 => True)) K Wi3498 0 0 26 [some (.ref x), some (ti p0), some (ti p1), some (ti p2), some (ti i9), some (ti i3498), none, none] []
    refine GO.iload dX12_mayOn_26 rfl ?_
    refine GO.aload_n dX12_mayOn_28 rfl rfl ?_
    refine GO.getA (n := 20) h_x fl_RX12_115 rfl rfl rfl rfl dX12_mayOn_29 (fun hv3844 h3843 => ?_)
    refine GO.iload dX12_mayOn_32 rfl ?_
    have q3845 : -2147483648 ≤ vi Wi3498 x 47 ∧ vi Wi3498 x 47 ≤ 2147483647 := vi_ir
    refine GO.iald (t := 41) rfl rfl h3843 r_i9 (by omega) (by omega) dX12_mayOn_34 (fun l3846 u3847 => ?_)
    refine GO.icmp_ge (tgt := 118) dX12_mayOn_35 (by decide) r_i3498 vi_ir (fun c3848 => ?_) (fun c3848 => ?_)
    ·
      refine GO.iinc (X := i9) (n := 1) (Y := i9 + 1) (ls1 := [some (.ref x), some (ti p0), some (ti p1), some (ti p2), some (ti (i9 + 1)), some (ti i3498), none, none]) dX12_mayOn_118 rfl rfl rfl rfl ?_
      refine GO.goto (tgt := 14) dX12_mayOn_121 (by decide) ?_
      refine GO.drop [true, true, true, true, true, false, true, true] rfl ?_
      exact ih3493 (i9 + 1) Wi3498 ⟨by omega, by omega, trivial⟩ (by show (2147483647 - (i9 + 1)).toNat < (2147483647 - i9).toNat; omega)
    ·
      refine GO.aload_n dX12_mayOn_38 rfl rfl ?_
      refine GO.getA (n := 20) h_x fl_RX12_157 rfl rfl rfl rfl dX12_mayOn_39 (fun hv3850 h3849 => ?_)
      refine GO.iload dX12_mayOn_42 rfl ?_
      refine GO.zald (t := 55) rfl rfl h3849 r_i9 (by omega) (by omega) dX12_mayOn_44 (fun l3851 u3852 => ?_)
      refine GO.if_eq (tgt := 118) dX12_mayOn_45 (by decide) vi_ir (fun c3853 => ?_) (fun c3853 => ?_)
      ·
        refine GO.iinc (X := i9) (n := 1) (Y := i9 + 1) (ls1 := [some (.ref x), some (ti p0), some (ti p1), some (ti p2), some (ti (i9 + 1)), some (ti i3498), none, none]) dX12_mayOn_118 rfl rfl rfl rfl ?_
        refine GO.goto (tgt := 14) dX12_mayOn_121 (by decide) ?_
        refine GO.drop [true, true, true, true, true, false, true, true] rfl ?_
        exact ih3493 (i9 + 1) Wi3498 ⟨by omega, by omega, trivial⟩ (by show (2147483647 - (i9 + 1)).toNat < (2147483647 - i9).toNat; omega)
      ·
        refine GO.bipush dX12_mayOn_48 rfl ?_
        refine GO.iload dX12_mayOn_50 rfl ?_
        refine GO.imul dX12_mayOn_52 ?_
        refine GO.iload dX12_mayOn_53 rfl ?_
        refine GO.iadd dX12_mayOn_55 ?_
        refine GO.name (fun z3854 hz3855 => ?_)
        refine GO.istore (ls1 := [some (.ref x), some (ti p0), some (ti p1), some (ti p2), some (ti i9), some (ti i3498), some (ti z3854), none]) dX12_mayOn_56 rfl rfl ?_
        refine GO.aload_n dX12_mayOn_58 rfl rfl ?_
        refine GO.getA (n := 240) h_x fl_RX12_160 rfl rfl rfl rfl dX12_mayOn_59 (fun hv3857 h3856 => ?_)
        refine GO.iload dX12_mayOn_62 rfl ?_
        refine GO.zald (t := 56) rfl rfl h3856 ⟨by omega, by omega⟩ (by omega) (by omega) dX12_mayOn_64 (fun l3858 u3859 => ?_)
        refine GO.if_ne (tgt := 112) dX12_mayOn_65 (by decide) vi_ir (fun c3860 => ?_) (fun c3860 => ?_)
        ·
          refine GO.iinc (X := i3498) (n := 1) (Y := i3498 + 1) (ls1 := [some (.ref x), some (ti p0), some (ti p1), some (ti p2), some (ti i9), some (ti (i3498 + 1)), some (ti z3854), none]) dX12_mayOn_112 rfl rfl rfl rfl ?_
          refine GO.goto (tgt := 26) dX12_mayOn_115 (by decide) ?_
          refine GO.drop [true, true, true, true, true, true, false, true] rfl ?_
          exact ih3841 (i3498 + 1) Wi3498 ⟨by omega, by omega, by omega, trivial⟩ (by show (2147483647 - (i3498 + 1)).toNat < (2147483647 - i3498).toNat; omega)
        ·
          refine GO.aload_n dX12_mayOn_68 rfl rfl ?_
          refine GO.getA (n := 240) h_x fl_RX12_124 rfl rfl rfl rfl dX12_mayOn_69 (fun hv3862 h3861 => ?_)
          refine GO.iload dX12_mayOn_72 rfl ?_
          refine GO.iald (t := 44) rfl rfl h3861 ⟨by omega, by omega⟩ (by omega) (by omega) dX12_mayOn_74 (fun _ _ => ?_)
          refine GO.callS (N := mX12_isAsking) dX12_mayOn_75 gS_RX12_520 (t_X12_isAsking vi_ir) rfl [] rfl rfl (Nat.le_of_ble_eq_true rfl) rfl (k_ip fun X3863 r3864 h3865 => ?_)
          have raw_isAsking := h3865.2.2.2
          refine GO.if_ne (tgt := 84) dX12_mayOn_78 (by decide) r3864 (fun c3866 => ?_) (fun c3866 => ?_)
          ·
            have q3867 := h3865.2.1 (by omega)
            refine GO.aload_n dX12_mayOn_84 rfl rfl ?_
            refine GO.iload dX12_mayOn_85 rfl ?_
            refine GO.iload_n dX12_mayOn_87 rfl rfl ?_
            refine GO.iload_n dX12_mayOn_88 rfl rfl ?_
            refine GO.iload_n dX12_mayOn_89 rfl rfl ?_
            refine GO.useFR (fun hF3868 => ?_)
            have hg3869 := GX.fr hF3868 w_0 hW_0 h_x (by decide +kernel)
            have hgx := hg3869
            have hhx := HX.of (i := i9) (j := i3498) (c := z3854) hgx (by omega) (by omega) (by omega) (by assumption) (by omega) (by omega) (raw_isAsking.1 (by omega))
            refine GO.useFR (fun hF3870 => ?_)
            have hg3871 := GX.fr hF3870 w_0 hW_0 h_x (by decide +kernel)
            refine GO.callV (ci := 11) (N := mX12_barOf) dX12_mayOn_90 (RX12, TX12, 151) rfl gV_RX12_602 h_x (t_X12_barOf h_x ⟨by omega, by omega⟩ r_p0 r_p1 r_p2 (by omega) (by omega) (by omega) (by omega) (by omega) (hg3871) (hhx)) rfl [] rfl rfl (Nat.le_of_ble_eq_true rfl) rfl (k_is fun X3872 V3876 r3873 h3874 hF3875 => ?_)
            refine GO.istore (ls1 := [some (.ref x), some (ti p0), some (ti p1), some (ti p2), some (ti i9), some (ti i3498), some (ti z3854), some (ti X3872)]) dX12_mayOn_93 rfl rfl ?_
            refine GO.iload dX12_mayOn_95 rfl ?_
            refine GO.if_ne (tgt := 103) dX12_mayOn_97 (by decide) r3873 (fun c3877 => ?_) (fun c3877 => ?_)
            ·
              refine GO.aload_n dX12_mayOn_103 rfl rfl ?_
              refine GO.iload dX12_mayOn_104 rfl ?_
              refine GO.putI h_x fp_RX12_605 rfl (by decide +kernel) ⟨by omega, by omega⟩ (by omega) (by omega) dX12_mayOn_106 (fun V3879 e3878 => ?_)
              refine GO.iload dX12_mayOn_109 rfl ?_
              have q3880 : -2147483648 ≤ X3872 ∧ X3872 ≤ 2147483647 := r3873
              exact GO.reti rfl rfl dX12_mayOn_111 ⟨rfl, _, rfl, r3873, trivial⟩
            ·
              refine GO.goto (tgt := 112) dX12_mayOn_100 (by decide) ?_
              refine GO.iinc (X := i3498) (n := 1) (Y := i3498 + 1) (ls1 := [some (.ref x), some (ti p0), some (ti p1), some (ti p2), some (ti i9), some (ti (i3498 + 1)), some (ti z3854), some (ti X3872)]) dX12_mayOn_112 rfl rfl rfl rfl ?_
              refine GO.goto (tgt := 26) dX12_mayOn_115 (by decide) ?_
              refine GO.drop [true, true, true, true, true, true, false, false] rfl ?_
              have e3881 : vi V3876 x 47 = vi Wi3498 x 47 := vi_fr hF3875 h_x h_x (by decide +kernel)
              exact ih3841 (i3498 + 1) V3876 ⟨by omega, by omega, by omega, trivial⟩ (by show (2147483647 - (i3498 + 1)).toNat < (2147483647 - i3498).toNat; omega)
          ·
            refine GO.goto (tgt := 112) dX12_mayOn_81 (by decide) ?_
            refine GO.iinc (X := i3498) (n := 1) (Y := i3498 + 1) (ls1 := [some (.ref x), some (ti p0), some (ti p1), some (ti p2), some (ti i9), some (ti (i3498 + 1)), some (ti z3854), none]) dX12_mayOn_112 rfl rfl rfl rfl ?_
            refine GO.goto (tgt := 26) dX12_mayOn_115 (by decide) ?_
            refine GO.drop [true, true, true, true, true, true, false, true] rfl ?_
            exact ih3841 (i3498 + 1) Wi3498 ⟨by omega, by omega, by omega, trivial⟩ (by show (2147483647 - (i3498 + 1)).toNat < (2147483647 - i3498).toNat; omega)
