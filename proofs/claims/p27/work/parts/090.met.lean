def mX12_declare : MRec := (RX12, cX12_declare, 4, (some .boolean), yX12_declare, 2, 43, 0, 0, 763888491125432282350667133153516810394300647624726093988552668507892987411251264818774016)
def mX12_visit : MRec := (RX12, cX12_visit, 3, (some .int), yX12_visit, 3, 64, 0, 0, 145609640131977660129147797000938895697292318038897850213136864403616836287335125514680281362389979041374404608)
def mX12_seen : MRec := (RX12, cX12_seen, 3, (some .int), yX12_seen, 0, 0, 0, 0, 0)
def mX12_sounds : MRec := (RX12, cX12_sounds, 3, (none : Option Jvm.ClassFile.FieldType), yX12_sounds, 2, 44, 0, 0, 1018517988167243043134222844204689080525734196832968125318070224677190649881668353091698688)
def mX12_sureOf : MRec := (RX12, cX12_sureOf, 8, (some .int), yX12_sureOf, 0, 0, 0, 0, 0)
def mX12_goesDown : MRec := (RX12, cX12_goesDown, 5, (none : Option Jvm.ClassFile.FieldType), yX12_goesDown, 1, 27, 0, 0, 9619630419041620901435312524449124464130795720328478190417063819395928166869436184427311097384012607618805661696)
def mX12_worksGo : MRec := (RX12, cX12_worksGo, 3, (none : Option Jvm.ClassFile.FieldType), yX12_worksGo, 9, 219, 0, 0, 9619630428210986049237613937390747714253578664873347594475224601237500707480860795895322753045859178208909328384)
set_option maxHeartbeats 1000000 in
theorem t_X12_declare {K : Kmap} {V : Vmap} {x : Nat} {p0 : Int} {p1 : Int} {p2 : Int} (h_x : K x = some (0, 11)) (r_p0 : ir p0) (r_p1 : ir p1) (r_p2 : ir p2) : MC mX12_declare K V [.ref x, ti p0, ti p1, ti p2] (IS K (fun X V1 => (X = 0 ∨ X = 1) ∧ (X ≠ 0 → True) ∧ (X = 0 → True))) := by
  refine MC.start 0 (by decide +kernel) rfl rfl rfl (ls0 := [some (.ref x), some (ti p0), some (ti p1), some (ti p2)]) rfl ?_
  refine GO.aload_n dX12_declare_0 rfl rfl ?_
  refine GO.iload_n dX12_declare_1 rfl rfl ?_
  refine GO.callV (ci := 11) (N := mX12_isStation) dX12_declare_2 (RX12, TX12, 151) rfl gV_RX12_403 h_x (t_X12_isStation h_x r_p0) rfl [] rfl rfl (Nat.le_of_ble_eq_true rfl) rfl (k_ip fun X1 r2 h3 => ?_)
  refine GO.if_eq (tgt := 30) dX12_declare_5 (by decide) r2 (fun c4 => ?_) (fun c4 => ?_)
  ·
    refine GO.iconst dX12_declare_30 ?_
    exact GO.retz rfl rfl dX12_declare_31 (by omega) ⟨rfl, _, rfl, (ir_c rfl), ⟨by omega, fun _ => trivial, fun _ => trivial⟩⟩
  ·
    have q5 := h3.2.1 (by omega)
    refine GO.iload_n dX12_declare_8 rfl rfl ?_
    refine GO.iconst dX12_declare_9 ?_
    refine GO.sipush dX12_declare_10 rfl ?_
    refine GO.callS (N := mX12_in) dX12_declare_13 gS_RX12_371 (t_X12_in r_p1 (ir_c rfl) (ir_c rfl)) rfl [] rfl rfl (Nat.le_of_ble_eq_true rfl) rfl (k_ip fun X6 r7 h8 => ?_)
    refine GO.if_eq (tgt := 30) dX12_declare_16 (by decide) r7 (fun c9 => ?_) (fun c9 => ?_)
    ·
      have q10 := h8.2.2 (by omega)
      refine GO.iconst dX12_declare_30 ?_
      exact GO.retz rfl rfl dX12_declare_31 (by omega) ⟨rfl, _, rfl, (ir_c rfl), ⟨by omega, fun _ => trivial, fun _ => trivial⟩⟩
    ·
      have q11 := h8.2.1 (by omega)
      refine GO.iload_n dX12_declare_19 rfl rfl ?_
      refine GO.iconst dX12_declare_20 ?_
      refine GO.ldcw (X := 1000000) dX12_declare_21 gw_2291 rfl ?_
      refine GO.callS (N := mX12_in) dX12_declare_24 gS_RX12_371 (t_X12_in r_p2 (ir_c rfl) (ir_c rfl)) rfl [] rfl rfl (Nat.le_of_ble_eq_true rfl) rfl (k_ip fun X12 r13 h14 => ?_)
      refine GO.if_ne (tgt := 32) dX12_declare_27 (by decide) r13 (fun c15 => ?_) (fun c15 => ?_)
      ·
        have q16 := h14.2.1 (by omega)
        refine GO.aload_n dX12_declare_32 rfl rfl ?_
        refine GO.getA (n := 60) h_x fl_RX12_68 rfl rfl rfl rfl dX12_declare_33 (fun hv18 h17 => ?_)
        refine GO.iload_n dX12_declare_36 rfl rfl ?_
        refine GO.iload_n dX12_declare_37 rfl rfl ?_
        have q19 : -2147483648 ≤ p0 ∧ p0 ≤ 2147483647 := r_p0
        refine GO.iast (t := 26) rfl rfl (by decide +kernel) h17 r_p0 (by omega) (by omega) r_p1 (r_p1).1 (r_p1).2 dX12_declare_38 (fun V21 e20 => ?_)
        refine GO.aload_n dX12_declare_39 rfl rfl ?_
        refine GO.getA (n := 60) h_x fl_RX12_71 rfl rfl rfl rfl dX12_declare_40 (fun hv23 h22 => ?_)
        refine GO.iload_n dX12_declare_43 rfl rfl ?_
        refine GO.iload_n dX12_declare_44 rfl rfl ?_
        refine GO.iast (t := 27) rfl rfl (by decide +kernel) h22 r_p0 (by omega) (by omega) r_p2 (r_p2).1 (r_p2).2 dX12_declare_45 (fun V25 e24 => ?_)
        refine GO.iconst dX12_declare_46 ?_
        exact GO.retz rfl rfl dX12_declare_47 (by omega) ⟨rfl, _, rfl, (ir_c rfl), ⟨by omega, fun _ => trivial, fun _ => trivial⟩⟩
      ·
        have q26 := h14.2.2 (by omega)
        refine GO.iconst dX12_declare_30 ?_
        exact GO.retz rfl rfl dX12_declare_31 (by omega) ⟨rfl, _, rfl, (ir_c rfl), ⟨by omega, fun _ => trivial, fun _ => trivial⟩⟩

set_option maxHeartbeats 1000000 in
theorem t_X12_visit {K : Kmap} {V : Vmap} {x : Nat} {p0 : Int} {p1 : Int} (h_x : K x = some (0, 11)) (r_p0 : ir p0) (r_p1 : ir p1) : MC mX12_visit K V [.ref x, ti p0, ti p1] (IS K (fun X V1 => True)) := by
  refine MC.start 0 (by decide +kernel) rfl rfl rfl (ls0 := [some (.ref x), some (ti p0), some (ti p1)]) rfl ?_
  refine GO.aload_n dX12_visit_0 rfl rfl ?_
  refine GO.iload_n dX12_visit_1 rfl rfl ?_
  refine GO.callV (ci := 11) (N := mX12_isParty) dX12_visit_2 (RX12, TX12, 151) rfl gV_RX12_406 h_x (t_X12_isParty h_x r_p0) rfl [] rfl rfl (Nat.le_of_ble_eq_true rfl) rfl (k_ip fun X1 r2 h3 => ?_)
  refine GO.if_eq (tgt := 47) dX12_visit_5 (by decide) r2 (fun c4 => ?_) (fun c4 => ?_)
  ·
    refine GO.iconst dX12_visit_47 ?_
    exact GO.reti rfl rfl dX12_visit_48 ⟨rfl, _, rfl, (ir_c rfl), trivial⟩
  ·
    have q5 := h3.2.1 (by omega)
    refine GO.aload_n dX12_visit_8 rfl rfl ?_
    refine GO.iload_n dX12_visit_9 rfl rfl ?_
    refine GO.callV (ci := 11) (N := mX12_stands) dX12_visit_10 (RX12, TX12, 151) rfl gV_RX12_433 h_x (t_X12_stands h_x r_p1) rfl [] rfl rfl (Nat.le_of_ble_eq_true rfl) rfl (k_ip fun X6 r7 h8 => ?_)
    refine GO.if_eq (tgt := 47) dX12_visit_13 (by decide) r7 (fun c9 => ?_) (fun c9 => ?_)
    ·
      refine GO.iconst dX12_visit_47 ?_
      exact GO.reti rfl rfl dX12_visit_48 ⟨rfl, _, rfl, (ir_c rfl), trivial⟩
    ·
      have q10 := h8.2.1 (by omega)
      refine GO.aload_n dX12_visit_16 rfl rfl ?_
      refine GO.getA (n := 60) h_x fl_RX12_38 rfl rfl rfl rfl dX12_visit_17 (fun hv12 h11 => ?_)
      refine GO.iload_n dX12_visit_20 rfl rfl ?_
      have q13 : -2147483648 ≤ p1 ∧ p1 ≤ 2147483647 := r_p1
      refine GO.iald (t := 16) rfl rfl h11 r_p1 (by omega) (by omega) dX12_visit_21 (fun l14 u15 => ?_)
      refine GO.iload_n dX12_visit_22 rfl rfl ?_
      refine GO.icmp_eq (tgt := 47) dX12_visit_23 (by decide) vi_ir r_p0 (fun c16 => ?_) (fun c16 => ?_)
      ·
        refine GO.iconst dX12_visit_47 ?_
        exact GO.reti rfl rfl dX12_visit_48 ⟨rfl, _, rfl, (ir_c rfl), trivial⟩
      ·
        refine GO.aload_n dX12_visit_26 rfl rfl ?_
        refine GO.iload_n dX12_visit_27 rfl rfl ?_
        refine GO.aload_n dX12_visit_28 rfl rfl ?_
        refine GO.getI h_x fl_RX12_396 rfl rfl dX12_visit_29 (fun l17 u18 => ?_)
        have q19 : -2147483648 ≤ p0 ∧ p0 ≤ 2147483647 := r_p0
        refine GO.callV (ci := 11) (N := mX12_decidesOn) dX12_visit_32 (RX12, TX12, 151) rfl gV_RX12_412 h_x (t_X12_decidesOn h_x r_p0 vi_ir (by omega) (by omega)) rfl [] rfl rfl (Nat.le_of_ble_eq_true rfl) rfl (k_ip fun X20 r21 h22 => ?_)
        refine GO.if_eq (tgt := 47) dX12_visit_35 (by decide) r21 (fun c23 => ?_) (fun c23 => ?_)
        ·
          refine GO.iconst dX12_visit_47 ?_
          exact GO.reti rfl rfl dX12_visit_48 ⟨rfl, _, rfl, (ir_c rfl), trivial⟩
        ·
          refine GO.aload_n dX12_visit_38 rfl rfl ?_
          refine GO.getI h_x fl_RX12_660 rfl rfl dX12_visit_39 (fun l24 u25 => ?_)
          refine GO.bipush dX12_visit_42 rfl ?_
          refine GO.icmp_ne (tgt := 49) dX12_visit_44 (by decide) vi_ir (ir_c rfl) (fun c26 => ?_) (fun c26 => ?_)
          ·
            refine GO.aload_n dX12_visit_49 rfl rfl ?_
            refine GO.getA (n := 60) h_x fl_RX12_262 rfl rfl rfl rfl dX12_visit_50 (fun hv28 h27 => ?_)
            refine GO.aload_n dX12_visit_53 rfl rfl ?_
            refine GO.getI h_x fl_RX12_660 rfl rfl dX12_visit_54 (fun l29 u30 => ?_)
            refine GO.iload_n dX12_visit_57 rfl rfl ?_
            refine GO.iast (t := 90) rfl rfl (by decide +kernel) h27 vi_ir (by omega) (by omega) r_p0 (r_p0).1 (r_p0).2 dX12_visit_58 (fun V32 e31 => ?_)
            refine GO.aload_n dX12_visit_59 rfl rfl ?_
            refine GO.getA (n := 60) h_x fl_RX12_265 rfl rfl rfl rfl dX12_visit_60 (fun hv34 h33 => ?_)
            refine GO.aload_n dX12_visit_63 rfl rfl ?_
            refine GO.getI h_x fl_RX12_660 rfl rfl dX12_visit_64 (fun l35 u36 => ?_)
            have e37 : vi V32 x 93 = vi V x 93 := vi_up e31 (Or.inl (K_ne h_x h27 (by decide)))
            refine GO.iload_n dX12_visit_67 rfl rfl ?_
            refine GO.iast (t := 91) rfl rfl (by decide +kernel) h33 vi_ir (by omega) (by omega) r_p1 (r_p1).1 (r_p1).2 dX12_visit_68 (fun V39 e38 => ?_)
            refine GO.aload_n dX12_visit_69 rfl rfl ?_
            refine GO.getA (n := 60) h_x fl_RX12_268 rfl rfl rfl rfl dX12_visit_70 (fun hv41 h40 => ?_)
            refine GO.aload_n dX12_visit_73 rfl rfl ?_
            refine GO.getI h_x fl_RX12_660 rfl rfl dX12_visit_74 (fun l42 u43 => ?_)
            have e44 : vi V39 x 93 = vi V32 x 93 := vi_up e38 (Or.inl (K_ne h_x h33 (by decide)))
            refine GO.aload_n dX12_visit_77 rfl rfl ?_
            refine GO.getI h_x fl_RX12_396 rfl rfl dX12_visit_78 (fun l45 u46 => ?_)
            have e48 : vi V32 x 2 = vi V x 2 := vi_up e31 (Or.inl (K_ne h_x h27 (by decide)))
            have e47 : vi V39 x 2 = vi V32 x 2 := vi_up e38 (Or.inl (K_ne h_x h33 (by decide)))
            refine GO.iast (t := 92) rfl rfl (by decide +kernel) h40 vi_ir (by omega) (by omega) vi_ir (vi_ir).1 (vi_ir).2 dX12_visit_81 (fun V50 e49 => ?_)
            refine GO.aload_n dX12_visit_82 rfl rfl ?_
            refine GO.getA (n := 60) h_x fl_RX12_271 rfl rfl rfl rfl dX12_visit_83 (fun hv52 h51 => ?_)
            refine GO.aload_n dX12_visit_86 rfl rfl ?_
            refine GO.getI h_x fl_RX12_660 rfl rfl dX12_visit_87 (fun l53 u54 => ?_)
            have e55 : vi V50 x 93 = vi V39 x 93 := vi_up e49 (Or.inl (K_ne h_x h40 (by decide)))
            refine GO.aload_n dX12_visit_90 rfl rfl ?_
            refine GO.getA (n := 60) h_x fl_RX12_53 rfl rfl rfl rfl dX12_visit_91 (fun hv57 h56 => ?_)
            refine GO.iload_n dX12_visit_94 rfl rfl ?_
            refine GO.iald (t := 21) rfl rfl h56 r_p1 (by omega) (by omega) dX12_visit_95 (fun l58 u59 => ?_)
            refine GO.aload_n dX12_visit_96 rfl rfl ?_
            refine GO.getA (n := 60) h_x fl_RX12_68 rfl rfl rfl rfl dX12_visit_97 (fun hv64 h63 => ?_)
            refine GO.iload_n dX12_visit_100 rfl rfl ?_
            refine GO.iald (t := 26) rfl rfl h63 r_p1 (by omega) (by omega) dX12_visit_101 (fun _ _ => ?_)
            refine GO.isub dX12_visit_102 ?_
            refine GO.norm (fun z68 r69 _ => ?_)
            refine GO.iast (t := 93) rfl rfl (by decide +kernel) h51 vi_ir (by omega) (by omega) r69 (r69).1 (r69).2 dX12_visit_103 (fun V71 e70 => ?_)
            refine GO.aload_n dX12_visit_104 rfl rfl ?_
            refine GO.getA (n := 60) h_x fl_RX12_274 rfl rfl rfl rfl dX12_visit_105 (fun hv73 h72 => ?_)
            refine GO.aload_n dX12_visit_108 rfl rfl ?_
            refine GO.getI h_x fl_RX12_660 rfl rfl dX12_visit_109 (fun l74 u75 => ?_)
            have e76 : vi V71 x 93 = vi V50 x 93 := vi_up e70 (Or.inl (K_ne h_x h51 (by decide)))
            refine GO.aload_n dX12_visit_112 rfl rfl ?_
            refine GO.getA (n := 60) h_x fl_RX12_56 rfl rfl rfl rfl dX12_visit_113 (fun hv78 h77 => ?_)
            refine GO.iload_n dX12_visit_116 rfl rfl ?_
            refine GO.iald (t := 22) rfl rfl h77 r_p1 (by omega) (by omega) dX12_visit_117 (fun _ _ => ?_)
            refine GO.aload_n dX12_visit_118 rfl rfl ?_
            refine GO.getA (n := 60) h_x fl_RX12_71 rfl rfl rfl rfl dX12_visit_119 (fun hv84 h83 => ?_)
            refine GO.iload_n dX12_visit_122 rfl rfl ?_
            refine GO.iald (t := 27) rfl rfl h83 r_p1 (by omega) (by omega) dX12_visit_123 (fun _ _ => ?_)
            refine GO.isub dX12_visit_124 ?_
            refine GO.norm (fun z89 r90 _ => ?_)
            refine GO.iast (t := 94) rfl rfl (by decide +kernel) h72 vi_ir (by omega) (by omega) r90 (r90).1 (r90).2 dX12_visit_125 (fun V92 e91 => ?_)
            refine GO.aload_n dX12_visit_126 rfl rfl ?_
            refine GO.aload_n dX12_visit_127 rfl rfl ?_
            refine GO.getI h_x fl_RX12_660 rfl rfl dX12_visit_128 (fun l93 u94 => ?_)
            have e95 : vi V92 x 93 = vi V71 x 93 := vi_up e91 (Or.inl (K_ne h_x h72 (by decide)))
            refine GO.iconst dX12_visit_131 ?_
            refine GO.iadd dX12_visit_132 ?_
            refine GO.putI h_x fp_RX12_660 rfl (by decide +kernel) ⟨by omega, by omega⟩ (by omega) (by omega) dX12_visit_133 (fun V97 e96 => ?_)
            refine GO.aload_n dX12_visit_136 rfl rfl ?_
            refine GO.getI h_x fl_RX12_660 rfl rfl dX12_visit_137 (fun l98 u99 => ?_)
            have e100 : vi V97 x 93 = (vi V92 x 93) + 1 := upd2_int e96 ⟨by omega, by omega⟩
            refine GO.iconst dX12_visit_140 ?_
            refine GO.isub dX12_visit_141 ?_
            exact GO.reti rfl rfl dX12_visit_142 ⟨rfl, _, rfl, ⟨by omega, by omega⟩, trivial⟩
          ·
            refine GO.iconst dX12_visit_47 ?_
            exact GO.reti rfl rfl dX12_visit_48 ⟨rfl, _, rfl, (ir_c rfl), trivial⟩

set_option maxHeartbeats 1000000 in
theorem t_X12_seen {K : Kmap} {V : Vmap} {x : Nat} {p0 : Int} {p1 : Int} (h_x : K x = some (0, 11)) (r_p0 : ir p0) (r_p1 : ir p1) : MC mX12_seen K V [.ref x, ti p0, ti p1] (IP K V (fun X => True)) := by
  refine MC.start 0 (by decide +kernel) rfl rfl rfl (ls0 := [some (.ref x), some (ti p0), some (ti p1)]) rfl ?_
  refine GO.iload_n dX12_seen_0 rfl rfl ?_
  refine GO.if_lt (tgt := 12) dX12_seen_1 (by decide) r_p0 (fun c1 => ?_) (fun c1 => ?_)
  ·
    refine GO.ldcw (X := (-1000000)) dX12_seen_12 gw_2322 rfl ?_
    exact GO.reti rfl rfl dX12_seen_15 ⟨rfl, rfl, _, rfl, (ir_c rfl), trivial⟩
  ·
    refine GO.iload_n dX12_seen_4 rfl rfl ?_
    refine GO.aload_n dX12_seen_5 rfl rfl ?_
    refine GO.getI h_x fl_RX12_660 rfl rfl dX12_seen_6 (fun l2 u3 => ?_)
    refine GO.icmp_lt (tgt := 16) dX12_seen_9 (by decide) r_p0 vi_ir (fun c4 => ?_) (fun c4 => ?_)
    ·
      refine GO.iload_n dX12_seen_16 rfl rfl ?_
      have q5 : -2147483648 ≤ p1 ∧ p1 ≤ 2147483647 := r_p1
      rcases (show (p1 < 0 ∨ 4 < p1) ∨ p1 = 0 ∨ p1 = 1 ∨ p1 = 2 ∨ p1 = 3 ∨ p1 = 4 by omega) with c6 | c6 | c6 | c6 | c6 | c6
      ·
        refine GO.tableOut (tgt := 87) dX12_seen_17 r_p1 c6 (by decide) ?_
        refine GO.ldcw (X := (-1000000)) dX12_seen_87 gw_2322 rfl ?_
        exact GO.reti rfl rfl dX12_seen_90 ⟨rfl, rfl, _, rfl, (ir_c rfl), trivial⟩
      ·
        refine GO.tableAt (n := 0) (tgt := 52) dX12_seen_17 (ir_c rfl) c6 (by decide) (by decide) rfl (by decide) ?_
        refine GO.aload_n dX12_seen_52 rfl rfl ?_
        refine GO.getA (n := 60) h_x fl_RX12_262 rfl rfl rfl rfl dX12_seen_53 (fun hv8 h7 => ?_)
        refine GO.iload_n dX12_seen_56 rfl rfl ?_
        have q9 : -2147483648 ≤ p0 ∧ p0 ≤ 2147483647 := r_p0
        refine GO.iald (t := 90) rfl rfl h7 r_p0 (by omega) (by omega) dX12_seen_57 (fun _ _ => ?_)
        have q10 : -2147483648 ≤ vi V (vq V x 112) (p0).toNat ∧ vi V (vq V x 112) (p0).toNat ≤ 2147483647 := vi_ir
        exact GO.reti rfl rfl dX12_seen_58 ⟨rfl, rfl, _, rfl, vi_ir, trivial⟩
      ·
        refine GO.tableAt (n := 1) (tgt := 59) dX12_seen_17 (ir_c rfl) c6 (by decide) (by decide) rfl (by decide) ?_
        refine GO.aload_n dX12_seen_59 rfl rfl ?_
        refine GO.getA (n := 60) h_x fl_RX12_265 rfl rfl rfl rfl dX12_seen_60 (fun hv12 h11 => ?_)
        refine GO.iload_n dX12_seen_63 rfl rfl ?_
        have q13 : -2147483648 ≤ p0 ∧ p0 ≤ 2147483647 := r_p0
        refine GO.iald (t := 91) rfl rfl h11 r_p0 (by omega) (by omega) dX12_seen_64 (fun _ _ => ?_)
        have q14 : -2147483648 ≤ vi V (vq V x 113) (p0).toNat ∧ vi V (vq V x 113) (p0).toNat ≤ 2147483647 := vi_ir
        exact GO.reti rfl rfl dX12_seen_65 ⟨rfl, rfl, _, rfl, vi_ir, trivial⟩
      ·
        refine GO.tableAt (n := 2) (tgt := 66) dX12_seen_17 (ir_c rfl) c6 (by decide) (by decide) rfl (by decide) ?_
        refine GO.aload_n dX12_seen_66 rfl rfl ?_
        refine GO.getA (n := 60) h_x fl_RX12_268 rfl rfl rfl rfl dX12_seen_67 (fun hv16 h15 => ?_)
        refine GO.iload_n dX12_seen_70 rfl rfl ?_
        have q17 : -2147483648 ≤ p0 ∧ p0 ≤ 2147483647 := r_p0
        refine GO.iald (t := 92) rfl rfl h15 r_p0 (by omega) (by omega) dX12_seen_71 (fun _ _ => ?_)
        have q18 : -2147483648 ≤ vi V (vq V x 114) (p0).toNat ∧ vi V (vq V x 114) (p0).toNat ≤ 2147483647 := vi_ir
        exact GO.reti rfl rfl dX12_seen_72 ⟨rfl, rfl, _, rfl, vi_ir, trivial⟩
      ·
        refine GO.tableAt (n := 3) (tgt := 73) dX12_seen_17 (ir_c rfl) c6 (by decide) (by decide) rfl (by decide) ?_
        refine GO.aload_n dX12_seen_73 rfl rfl ?_
        refine GO.getA (n := 60) h_x fl_RX12_271 rfl rfl rfl rfl dX12_seen_74 (fun hv20 h19 => ?_)
        refine GO.iload_n dX12_seen_77 rfl rfl ?_
        have q21 : -2147483648 ≤ p0 ∧ p0 ≤ 2147483647 := r_p0
        refine GO.iald (t := 93) rfl rfl h19 r_p0 (by omega) (by omega) dX12_seen_78 (fun _ _ => ?_)
        have q22 : -2147483648 ≤ vi V (vq V x 115) (p0).toNat ∧ vi V (vq V x 115) (p0).toNat ≤ 2147483647 := vi_ir
        exact GO.reti rfl rfl dX12_seen_79 ⟨rfl, rfl, _, rfl, vi_ir, trivial⟩
      ·
        refine GO.tableAt (n := 4) (tgt := 80) dX12_seen_17 (ir_c rfl) c6 (by decide) (by decide) rfl (by decide) ?_
        refine GO.aload_n dX12_seen_80 rfl rfl ?_
        refine GO.getA (n := 60) h_x fl_RX12_274 rfl rfl rfl rfl dX12_seen_81 (fun hv24 h23 => ?_)
        refine GO.iload_n dX12_seen_84 rfl rfl ?_
        have q25 : -2147483648 ≤ p0 ∧ p0 ≤ 2147483647 := r_p0
        refine GO.iald (t := 94) rfl rfl h23 r_p0 (by omega) (by omega) dX12_seen_85 (fun _ _ => ?_)
        have q26 : -2147483648 ≤ vi V (vq V x 116) (p0).toNat ∧ vi V (vq V x 116) (p0).toNat ≤ 2147483647 := vi_ir
        exact GO.reti rfl rfl dX12_seen_86 ⟨rfl, rfl, _, rfl, vi_ir, trivial⟩
    ·
      refine GO.ldcw (X := (-1000000)) dX12_seen_12 gw_2322 rfl ?_
      exact GO.reti rfl rfl dX12_seen_15 ⟨rfl, rfl, _, rfl, (ir_c rfl), trivial⟩

set_option maxHeartbeats 1000000 in
theorem t_X12_sounds {K : Kmap} {V : Vmap} {x : Nat} {p0 : Int} (h_x : K x = some (0, 11)) (r_p0 : ir p0) (q_0 : p0 ≥ 0) (q_1 : p0 ≤ 99) : MC mX12_sounds K V [.ref x, ti p0] (VS K (fun V1 => (True))) := by
  refine MC.start 1 (by decide +kernel) rfl rfl rfl (ls0 := [some (.ref x), some (ti p0), none]) rfl ?_
  refine GO.iconst dX12_sounds_0 ?_
  refine GO.istore_n (ls1 := [some (.ref x), some (ti p0), some (ti 0)]) dX12_sounds_1 rfl rfl rfl ?_
  refine GO.loop1 (fun i1 W => 0 ≤ i1 ∧ i1 ≤ 60 ∧ True) (fun i1 => [some (.ref x), some (ti p0), some (ti i1)]) (fun i1 W => (2147483647 - i1).toNat) 0 ⟨by omega, by omega, trivial⟩ rfl (fun i1 Wi1 hp417 ih416 => ?_)
  obtain ⟨l_i1, u_i1, -⟩ := hp417
  have r_i1 : ir i1 := ⟨by omega, by omega⟩
  show GO mX12_sounds K V (VS K (fun V1 => (True))) K Wi1 0 0 2 [some (.ref x), some (ti p0), some (ti i1)] []
  refine GO.iload_n dX12_sounds_2 rfl rfl ?_
  refine GO.aload_n dX12_sounds_3 rfl rfl ?_
  refine GO.getI h_x fl_RX12_375 rfl rfl dX12_sounds_4 (fun l418 u419 => ?_)
  refine GO.icmp_ge (tgt := 111) dX12_sounds_7 (by decide) r_i1 vi_ir (fun c420 => ?_) (fun c420 => ?_)
  ·
    exact GO.retv rfl rfl dX12_sounds_111 ⟨rfl, rfl, trivial⟩
  ·
    refine GO.aload_n dX12_sounds_10 rfl rfl ?_
    refine GO.getA (n := 60) h_x fl_RX12_35 rfl rfl rfl rfl dX12_sounds_11 (fun hv422 h421 => ?_)
    refine GO.iload_n dX12_sounds_14 rfl rfl ?_
    refine GO.iald (t := 15) rfl rfl h421 r_i1 (by omega) (by omega) dX12_sounds_15 (fun l423 u424 => ?_)
    refine GO.iconst dX12_sounds_16 ?_
    refine GO.icmp_ne (tgt := 105) dX12_sounds_17 (by decide) vi_ir (ir_c rfl) (fun c425 => ?_) (fun c425 => ?_)
    ·
      refine GO.iinc (X := i1) (n := 1) (Y := i1 + 1) (ls1 := [some (.ref x), some (ti p0), some (ti (i1 + 1))]) dX12_sounds_105 rfl rfl rfl rfl ?_
      refine GO.goto (tgt := 2) dX12_sounds_108 (by decide) ?_
      exact ih416 (i1 + 1) Wi1 ⟨by omega, by omega, trivial⟩ (by show (2147483647 - (i1 + 1)).toNat < (2147483647 - i1).toNat; omega)
    ·
      refine GO.aload_n dX12_sounds_20 rfl rfl ?_
      refine GO.aload_n dX12_sounds_21 rfl rfl ?_
      refine GO.getA (n := 60) h_x fl_RX12_41 rfl rfl rfl rfl dX12_sounds_22 (fun hv427 h426 => ?_)
      refine GO.iload_n dX12_sounds_25 rfl rfl ?_
      refine GO.iald (t := 17) rfl rfl h426 r_i1 (by omega) (by omega) dX12_sounds_26 (fun l428 u429 => ?_)
      refine GO.aload_n dX12_sounds_27 rfl rfl ?_
      refine GO.getA (n := 100) h_x fl_RX12_169 rfl rfl rfl rfl dX12_sounds_28 (fun hv431 h430 => ?_)
      refine GO.iload_n dX12_sounds_31 rfl rfl ?_
      have q432 : -2147483648 ≤ p0 ∧ p0 ≤ 2147483647 := r_p0
      refine GO.iald (t := 59) rfl rfl h430 r_p0 (by omega) (by omega) dX12_sounds_32 (fun l433 u434 => ?_)
      refine GO.callV (ci := 11) (N := mX12_far) dX12_sounds_33 (RX12, TX12, 151) rfl gV_RX12_389 h_x (t_X12_far h_x vi_ir vi_ir (by omega) (by omega) (by omega) (by omega)) rfl [] rfl rfl (Nat.le_of_ble_eq_true rfl) rfl (k_ip fun X435 r436 h437 => ?_)
      refine GO.iconst dX12_sounds_36 ?_
      refine GO.icmp_le (tgt := 43) dX12_sounds_37 (by decide) r436 (ir_c rfl) (fun c438 => ?_) (fun c438 => ?_)
      ·
        refine GO.aload_n dX12_sounds_43 rfl rfl ?_
        refine GO.getA (n := 600) h_x fl_RX12_74 rfl rfl rfl rfl dX12_sounds_44 (fun hv440 h439 => ?_)
        refine GO.bipush dX12_sounds_47 rfl ?_
        refine GO.iload_n dX12_sounds_49 rfl rfl ?_
        refine GO.imul dX12_sounds_50 ?_
        refine GO.aload_n dX12_sounds_51 rfl rfl ?_
        refine GO.getI h_x fl_RX12_396 rfl rfl dX12_sounds_52 (fun l441 u442 => ?_)
        refine GO.sipush dX12_sounds_55 rfl ?_
        refine GO.idivP dX12_sounds_58 vi_ir (ir_c rfl) (by omega) (by omega) ?_
        refine GO.iadd dX12_sounds_59 ?_
        refine GO.aload_n dX12_sounds_60 rfl rfl ?_
        refine GO.getRaw h_x fl_RX12_74 hv440 dX12_sounds_61 ?_
        refine GO.bipush dX12_sounds_64 rfl ?_
        refine GO.iload_n dX12_sounds_66 rfl rfl ?_
        refine GO.imul dX12_sounds_67 ?_
        refine GO.aload_n dX12_sounds_68 rfl rfl ?_
        refine GO.getI h_x fl_RX12_396 rfl rfl dX12_sounds_69 (fun l445 u446 => ?_)
        refine GO.sipush dX12_sounds_72 rfl ?_
        refine GO.idivP dX12_sounds_75 vi_ir (ir_c rfl) (by omega) (by omega) ?_
        refine GO.iadd dX12_sounds_76 ?_
        refine GO.iald (t := 28) rfl rfl h439 ⟨by omega, by omega⟩ (by omega) (by omega) dX12_sounds_77 (fun _ _ => ?_)
        refine GO.aload_n dX12_sounds_78 rfl rfl ?_
        refine GO.getA (n := 100) h_x fl_RX12_181 rfl rfl rfl rfl dX12_sounds_79 (fun hv448 h447 => ?_)
        refine GO.iload_n dX12_sounds_82 rfl rfl ?_
        refine GO.iald (t := 63) rfl rfl h447 r_p0 (by omega) (by omega) dX12_sounds_83 (fun _ _ => ?_)
        refine GO.aload_n dX12_sounds_84 rfl rfl ?_
        refine GO.aload_n dX12_sounds_85 rfl rfl ?_
        refine GO.getRaw h_x fl_RX12_41 hv427 dX12_sounds_86 ?_
        refine GO.iload_n dX12_sounds_89 rfl rfl ?_
        refine GO.iald (t := 17) rfl rfl h426 r_i1 (by omega) (by omega) dX12_sounds_90 (fun l451 u452 => ?_)
        refine GO.aload_n dX12_sounds_91 rfl rfl ?_
        refine GO.getRaw h_x fl_RX12_169 hv431 dX12_sounds_92 ?_
        refine GO.iload_n dX12_sounds_95 rfl rfl ?_
        refine GO.iald (t := 59) rfl rfl h430 r_p0 (by omega) (by omega) dX12_sounds_96 (fun l455 u456 => ?_)
        refine GO.callV (ci := 11) (N := mX12_far) dX12_sounds_97 (RX12, TX12, 151) rfl gV_RX12_389 h_x (t_X12_far h_x vi_ir vi_ir (by omega) (by omega) (by omega) (by omega)) rfl [ti (vi Wi1 (vq Wi1 x 73) (p0).toNat), ti (vi Wi1 (vq Wi1 x 26) ((10 * i1) + ((vi Wi1 x 2) / 360)).toNat), ti ((10 * i1) + ((vi Wi1 x 2) / 360)), .ref (vq Wi1 x 26)] rfl rfl (Nat.le_of_ble_eq_true rfl) rfl (k_ip fun X457 r458 h459 => ?_)
        refine GO.iconst dX12_sounds_100 ?_
        refine GO.iadd dX12_sounds_101 ?_
        refine GO.idiv dX12_sounds_102 ⟨by omega, by omega⟩ (by omega) ?_
        refine GO.iadd dX12_sounds_103 ?_
        refine GO.norm (fun z460 r461 _ => ?_)
        refine GO.iast (t := 28) rfl rfl (by decide +kernel) h439 ⟨by omega, by omega⟩ (by omega) (by omega) r461 (r461).1 (r461).2 dX12_sounds_104 (fun V463 e462 => ?_)
        refine GO.iinc (X := i1) (n := 1) (Y := i1 + 1) (ls1 := [some (.ref x), some (ti p0), some (ti (i1 + 1))]) dX12_sounds_105 rfl rfl rfl rfl ?_
        refine GO.goto (tgt := 2) dX12_sounds_108 (by decide) ?_
        exact ih416 (i1 + 1) V463 ⟨by omega, by omega, trivial⟩ (by show (2147483647 - (i1 + 1)).toNat < (2147483647 - i1).toNat; omega)
      ·
        refine GO.goto (tgt := 105) dX12_sounds_40 (by decide) ?_
        refine GO.iinc (X := i1) (n := 1) (Y := i1 + 1) (ls1 := [some (.ref x), some (ti p0), some (ti (i1 + 1))]) dX12_sounds_105 rfl rfl rfl rfl ?_
        refine GO.goto (tgt := 2) dX12_sounds_108 (by decide) ?_
        exact ih416 (i1 + 1) Wi1 ⟨by omega, by omega, trivial⟩ (by show (2147483647 - (i1 + 1)).toNat < (2147483647 - i1).toNat; omega)

set_option maxHeartbeats 1000000 in
theorem t_X12_sureOf {K : Kmap} {V : Vmap} {x : Nat} {p0 : Int} (h_x : K x = some (0, 11)) (r_p0 : ir p0) (q_0 : p0 ≥ 0) (q_1 : p0 ≤ 59) : MC mX12_sureOf K V [.ref x, ti p0] (IP K V (fun X => True)) := by
  refine MC.start 6 (by decide +kernel) rfl rfl rfl (ls0 := [some (.ref x), some (ti p0), none, none, none, none, none, none]) rfl ?_
  refine GO.aload_n dX12_sureOf_0 rfl rfl ?_
  refine GO.getA (n := 60) h_x fl_RX12_283 rfl rfl rfl rfl dX12_sureOf_1 (fun hv2 h1 => ?_)
  refine GO.iload_n dX12_sureOf_4 rfl rfl ?_
  have q3 : -2147483648 ≤ p0 ∧ p0 ≤ 2147483647 := r_p0
  refine GO.iald (t := 96) rfl rfl h1 r_p0 (by omega) (by omega) dX12_sureOf_5 (fun l4 u5 => ?_)
  refine GO.if_ne (tgt := 11) dX12_sureOf_6 (by decide) vi_ir (fun c6 => ?_) (fun c6 => ?_)
  ·
    refine GO.ldcw (X := (-1000000)) dX12_sureOf_11 gw_2322 rfl ?_
    refine GO.istore_n (ls1 := [some (.ref x), some (ti p0), some (ti (-1000000)), none, none, none, none, none]) dX12_sureOf_14 rfl rfl rfl ?_
    refine GO.ldcw (X := 1000000) dX12_sureOf_15 gw_2291 rfl ?_
    refine GO.istore_n (ls1 := [some (.ref x), some (ti p0), some (ti (-1000000)), some (ti 1000000), none, none, none, none]) dX12_sureOf_18 rfl rfl rfl ?_
    refine GO.ldcw (X := 1000000) dX12_sureOf_19 gw_2291 rfl ?_
    refine GO.istore (ls1 := [some (.ref x), some (ti p0), some (ti (-1000000)), some (ti 1000000), some (ti 1000000), none, none, none]) dX12_sureOf_22 rfl rfl ?_
    refine GO.bipush dX12_sureOf_24 rfl ?_
    refine GO.iload_n dX12_sureOf_26 rfl rfl ?_
    refine GO.imul dX12_sureOf_27 ?_
    refine GO.name (fun z7 hz8 => ?_)
    refine GO.istore (ls1 := [some (.ref x), some (ti p0), some (ti (-1000000)), some (ti 1000000), some (ti 1000000), some (ti z7), none, none]) dX12_sureOf_28 rfl rfl ?_
    refine GO.loop4 (fun i9 i10 i11 i12 W => (-1000000) ≤ i9 ∧ i9 ≤ 2147483647 ∧ (-2147483648) ≤ i10 ∧ i10 ≤ 1000000 ∧ (-2147483648) ≤ i11 ∧ i11 ≤ 1000000 ∧ 0 ≤ i12 ∧ i12 ≤ 480 ∧ V = W) (fun i9 i10 i11 i12 => [some (.ref x), some (ti p0), some (ti i9), some (ti i10), some (ti i11), some (ti i12), none, none]) (fun i9 i10 i11 i12 W => (2147483647 - i12).toNat) (-1000000) 1000000 1000000 z7 ⟨by omega, by omega, by omega, by omega, by omega, by omega, by omega, by omega, rfl⟩ rfl (fun i9 i10 i11 i12 V1004 hp1006 ih1005 => ?_)
    obtain ⟨l_i9, u_i9, l_i10, u_i10, l_i11, u_i11, l_i12, u_i12, rfl⟩ := hp1006
    have r_i9 : ir i9 := ⟨by omega, by omega⟩
    have r_i10 : ir i10 := ⟨by omega, by omega⟩
    have r_i11 : ir i11 := ⟨by omega, by omega⟩
    have r_i12 : ir i12 := ⟨by omega, by omega⟩
    show GO mX12_sureOf K V (IP K V (fun X => True)) K V 0 0 30 [some (.ref x), some (ti p0), some (ti i9), some (ti i10), some (ti i11), some (ti i12), none, none] []
    refine GO.iload dX12_sureOf_30 rfl ?_
    refine GO.bipush dX12_sureOf_32 rfl ?_
    refine GO.iload_n dX12_sureOf_34 rfl rfl ?_
    refine GO.imul dX12_sureOf_35 ?_
    refine GO.aload_n dX12_sureOf_36 rfl rfl ?_
    refine GO.getRaw h_x fl_RX12_283 hv2 dX12_sureOf_37 ?_
    refine GO.iload_n dX12_sureOf_40 rfl rfl ?_
    refine GO.iald (t := 96) rfl rfl h1 r_p0 (by omega) (by omega) dX12_sureOf_41 (fun l1009 u1010 => ?_)
    refine GO.iadd dX12_sureOf_42 ?_
    refine GO.icmp_ge (tgt := 128) dX12_sureOf_43 (by decide) r_i12 ⟨by omega, by omega⟩ (fun c1011 => ?_) (fun c1011 => ?_)
    ·
      refine GO.iload_n dX12_sureOf_128 rfl rfl ?_
      refine GO.iload dX12_sureOf_129 rfl ?_
      refine GO.icmp_gt (tgt := 138) dX12_sureOf_131 (by decide) r_i9 r_i11 (fun c1012 => ?_) (fun c1012 => ?_)
      ·
        refine GO.iload_n dX12_sureOf_138 rfl rfl ?_
        refine GO.istore (ls1 := [some (.ref x), some (ti p0), some (ti i9), some (ti i10), some (ti i11), some (ti i10), none, none]) dX12_sureOf_139 rfl rfl ?_
        refine GO.iload dX12_sureOf_141 rfl ?_
        refine GO.if_ge (tgt := 150) dX12_sureOf_143 (by decide) r_i10 (fun c1013 => ?_) (fun c1013 => ?_)
        ·
          refine GO.iload dX12_sureOf_150 rfl ?_
          exact GO.reti rfl rfl dX12_sureOf_152 ⟨rfl, rfl, _, rfl, r_i10, trivial⟩
        ·
          refine GO.iconst dX12_sureOf_146 ?_
          refine GO.goto (tgt := 152) dX12_sureOf_147 (by decide) ?_
          exact GO.reti rfl rfl dX12_sureOf_152 ⟨rfl, rfl, _, rfl, (ir_c rfl), trivial⟩
      ·
        refine GO.iload_n dX12_sureOf_134 rfl rfl ?_
        refine GO.goto (tgt := 139) dX12_sureOf_135 (by decide) ?_
        refine GO.istore (ls1 := [some (.ref x), some (ti p0), some (ti i9), some (ti i10), some (ti i11), some (ti i9), none, none]) dX12_sureOf_139 rfl rfl ?_
        refine GO.iload dX12_sureOf_141 rfl ?_
        refine GO.if_ge (tgt := 150) dX12_sureOf_143 (by decide) r_i9 (fun c1014 => ?_) (fun c1014 => ?_)
        ·
          refine GO.iload dX12_sureOf_150 rfl ?_
          exact GO.reti rfl rfl dX12_sureOf_152 ⟨rfl, rfl, _, rfl, r_i9, trivial⟩
        ·
          refine GO.iconst dX12_sureOf_146 ?_
          refine GO.goto (tgt := 152) dX12_sureOf_147 (by decide) ?_
          exact GO.reti rfl rfl dX12_sureOf_152 ⟨rfl, rfl, _, rfl, (ir_c rfl), trivial⟩
    ·
      refine GO.aload_n dX12_sureOf_46 rfl rfl ?_
      refine GO.getA (n := 480) h_x fl_RX12_286 rfl rfl rfl rfl dX12_sureOf_47 (fun hv1016 h1015 => ?_)
      refine GO.iload dX12_sureOf_50 rfl ?_
      refine GO.iald (t := 97) rfl rfl h1015 r_i12 (by omega) (by omega) dX12_sureOf_52 (fun _ _ => ?_)
      refine GO.aload_n dX12_sureOf_53 rfl rfl ?_
      refine GO.getA (n := 480) h_x fl_RX12_289 rfl rfl rfl rfl dX12_sureOf_54 (fun hv1018 h1017 => ?_)
      refine GO.iload dX12_sureOf_57 rfl ?_
      refine GO.iald (t := 98) rfl rfl h1017 r_i12 (by omega) (by omega) dX12_sureOf_59 (fun _ _ => ?_)
      refine GO.isub dX12_sureOf_60 ?_
      refine GO.norm (fun z1019 r1020 _ => ?_)
      refine GO.istore (ls1 := [some (.ref x), some (ti p0), some (ti i9), some (ti i10), some (ti i11), some (ti i12), some (ti z1019), none]) dX12_sureOf_61 rfl rfl ?_
      refine GO.aload_n dX12_sureOf_63 rfl rfl ?_
      refine GO.getRaw h_x fl_RX12_286 hv1016 dX12_sureOf_64 ?_
      refine GO.iload dX12_sureOf_67 rfl ?_
      refine GO.iald (t := 97) rfl rfl h1015 r_i12 (by omega) (by omega) dX12_sureOf_69 (fun _ _ => ?_)
      refine GO.aload_n dX12_sureOf_70 rfl rfl ?_
      refine GO.getRaw h_x fl_RX12_289 hv1018 dX12_sureOf_71 ?_
      refine GO.iload dX12_sureOf_74 rfl ?_
      refine GO.iald (t := 98) rfl rfl h1017 r_i12 (by omega) (by omega) dX12_sureOf_76 (fun _ _ => ?_)
      refine GO.iadd dX12_sureOf_77 ?_
      refine GO.norm (fun z1025 r1026 _ => ?_)
      refine GO.istore (ls1 := [some (.ref x), some (ti p0), some (ti i9), some (ti i10), some (ti i11), some (ti i12), some (ti z1019), some (ti z1025)]) dX12_sureOf_78 rfl rfl ?_
      refine GO.iload dX12_sureOf_80 rfl ?_
      refine GO.iload_n dX12_sureOf_82 rfl rfl ?_
      have hj1029 : ∀ (z1028 : Int), ∀ (l1030 : (-1000000) ≤ z1028), ∀ (u1031 : z1028 ≤ 2147483647), GO mX12_sureOf K V (IP K V (fun X => True)) K V 0 0 92 [some (.ref x), some (ti p0), some (ti i9), some (ti i10), some (ti i11), some (ti i12), some (ti z1019), some (ti z1025)] [ti z1028] := by
        intro z1028 l1030 u1031
        have r1032 : ir z1028 := ⟨by omega, by omega⟩
        refine GO.istore_n (ls1 := [some (.ref x), some (ti p0), some (ti z1028), some (ti i10), some (ti i11), some (ti i12), some (ti z1019), some (ti z1025)]) dX12_sureOf_92 rfl rfl rfl ?_
        refine GO.iload dX12_sureOf_93 rfl ?_
        refine GO.iload_n dX12_sureOf_95 rfl rfl ?_
        refine GO.icmp_ge (tgt := 104) dX12_sureOf_96 (by decide) r1020 r_i10 (fun c1033 => ?_) (fun c1033 => ?_)
        ·
          refine GO.iload_n dX12_sureOf_104 rfl rfl ?_
          refine GO.istore_n (ls1 := [some (.ref x), some (ti p0), some (ti z1028), some (ti i10), some (ti i11), some (ti i12), some (ti z1019), some (ti z1025)]) dX12_sureOf_105 rfl rfl rfl ?_
          refine GO.iload dX12_sureOf_106 rfl ?_
          refine GO.iload dX12_sureOf_108 rfl ?_
          refine GO.icmp_ge (tgt := 118) dX12_sureOf_110 (by decide) r1026 r_i11 (fun c1034 => ?_) (fun c1034 => ?_)
          ·
            refine GO.iload dX12_sureOf_118 rfl ?_
            refine GO.istore (ls1 := [some (.ref x), some (ti p0), some (ti z1028), some (ti i10), some (ti i11), some (ti i12), some (ti z1019), some (ti z1025)]) dX12_sureOf_120 rfl rfl ?_
            refine GO.iinc (X := i12) (n := 1) (Y := i12 + 1) (ls1 := [some (.ref x), some (ti p0), some (ti z1028), some (ti i10), some (ti i11), some (ti (i12 + 1)), some (ti z1019), some (ti z1025)]) dX12_sureOf_122 rfl rfl rfl rfl ?_
            refine GO.goto (tgt := 30) dX12_sureOf_125 (by decide) ?_
            refine GO.drop [true, true, true, true, true, true, false, false] rfl ?_
            have q1035 : -2147483648 ≤ z1025 ∧ z1025 ≤ 2147483647 := r1026
            have q1036 : -2147483648 ≤ z1019 ∧ z1019 ≤ 2147483647 := r1020
            exact ih1005 z1028 i10 i11 (i12 + 1) V ⟨by omega, by omega, by omega, by omega, by omega, by omega, by omega, by omega, rfl⟩ (by show (2147483647 - (i12 + 1)).toNat < (2147483647 - i12).toNat; omega)
          ·
            refine GO.iload dX12_sureOf_113 rfl ?_
            refine GO.goto (tgt := 120) dX12_sureOf_115 (by decide) ?_
            refine GO.istore (ls1 := [some (.ref x), some (ti p0), some (ti z1028), some (ti i10), some (ti z1025), some (ti i12), some (ti z1019), some (ti z1025)]) dX12_sureOf_120 rfl rfl ?_
            refine GO.iinc (X := i12) (n := 1) (Y := i12 + 1) (ls1 := [some (.ref x), some (ti p0), some (ti z1028), some (ti i10), some (ti z1025), some (ti (i12 + 1)), some (ti z1019), some (ti z1025)]) dX12_sureOf_122 rfl rfl rfl rfl ?_
            refine GO.goto (tgt := 30) dX12_sureOf_125 (by decide) ?_
            refine GO.drop [true, true, true, true, true, true, false, false] rfl ?_
            have q1037 : -2147483648 ≤ z1025 ∧ z1025 ≤ 2147483647 := r1026
            have q1038 : -2147483648 ≤ z1019 ∧ z1019 ≤ 2147483647 := r1020
            exact ih1005 z1028 i10 z1025 (i12 + 1) V ⟨by omega, by omega, by omega, by omega, by omega, by omega, by omega, by omega, rfl⟩ (by show (2147483647 - (i12 + 1)).toNat < (2147483647 - i12).toNat; omega)
        ·
          refine GO.iload dX12_sureOf_99 rfl ?_
          refine GO.goto (tgt := 105) dX12_sureOf_101 (by decide) ?_
          refine GO.istore_n (ls1 := [some (.ref x), some (ti p0), some (ti z1028), some (ti z1019), some (ti i11), some (ti i12), some (ti z1019), some (ti z1025)]) dX12_sureOf_105 rfl rfl rfl ?_
          refine GO.iload dX12_sureOf_106 rfl ?_
          refine GO.iload dX12_sureOf_108 rfl ?_
          refine GO.icmp_ge (tgt := 118) dX12_sureOf_110 (by decide) r1026 r_i11 (fun c1039 => ?_) (fun c1039 => ?_)
          ·
            refine GO.iload dX12_sureOf_118 rfl ?_
            refine GO.istore (ls1 := [some (.ref x), some (ti p0), some (ti z1028), some (ti z1019), some (ti i11), some (ti i12), some (ti z1019), some (ti z1025)]) dX12_sureOf_120 rfl rfl ?_
            refine GO.iinc (X := i12) (n := 1) (Y := i12 + 1) (ls1 := [some (.ref x), some (ti p0), some (ti z1028), some (ti z1019), some (ti i11), some (ti (i12 + 1)), some (ti z1019), some (ti z1025)]) dX12_sureOf_122 rfl rfl rfl rfl ?_
            refine GO.goto (tgt := 30) dX12_sureOf_125 (by decide) ?_
            refine GO.drop [true, true, true, true, true, true, false, false] rfl ?_
            have q1040 : -2147483648 ≤ z1025 ∧ z1025 ≤ 2147483647 := r1026
            have q1041 : -2147483648 ≤ z1019 ∧ z1019 ≤ 2147483647 := r1020
            exact ih1005 z1028 z1019 i11 (i12 + 1) V ⟨by omega, by omega, by omega, by omega, by omega, by omega, by omega, by omega, rfl⟩ (by show (2147483647 - (i12 + 1)).toNat < (2147483647 - i12).toNat; omega)
          ·
            refine GO.iload dX12_sureOf_113 rfl ?_
            refine GO.goto (tgt := 120) dX12_sureOf_115 (by decide) ?_
            refine GO.istore (ls1 := [some (.ref x), some (ti p0), some (ti z1028), some (ti z1019), some (ti z1025), some (ti i12), some (ti z1019), some (ti z1025)]) dX12_sureOf_120 rfl rfl ?_
            refine GO.iinc (X := i12) (n := 1) (Y := i12 + 1) (ls1 := [some (.ref x), some (ti p0), some (ti z1028), some (ti z1019), some (ti z1025), some (ti (i12 + 1)), some (ti z1019), some (ti z1025)]) dX12_sureOf_122 rfl rfl rfl rfl ?_
            refine GO.goto (tgt := 30) dX12_sureOf_125 (by decide) ?_
            refine GO.drop [true, true, true, true, true, true, false, false] rfl ?_
            have q1042 : -2147483648 ≤ z1025 ∧ z1025 ≤ 2147483647 := r1026
            have q1043 : -2147483648 ≤ z1019 ∧ z1019 ≤ 2147483647 := r1020
            exact ih1005 z1028 z1019 z1025 (i12 + 1) V ⟨by omega, by omega, by omega, by omega, by omega, by omega, by omega, by omega, rfl⟩ (by show (2147483647 - (i12 + 1)).toNat < (2147483647 - i12).toNat; omega)
      refine GO.icmp_le (tgt := 91) dX12_sureOf_83 (by decide) r1020 r_i9 (fun c1044 => ?_) (fun c1044 => ?_)
      ·
        refine GO.iload_n dX12_sureOf_91 rfl rfl ?_
        have q1045 : -2147483648 ≤ z1019 ∧ z1019 ≤ 2147483647 := r1020
        exact hj1029 i9 (by omega) (by omega)
      ·
        refine GO.iload dX12_sureOf_86 rfl ?_
        refine GO.goto (tgt := 92) dX12_sureOf_88 (by decide) ?_
        have q1046 : -2147483648 ≤ z1019 ∧ z1019 ≤ 2147483647 := r1020
        exact hj1029 z1019 (by omega) (by omega)
  ·
    refine GO.iconst dX12_sureOf_9 ?_
    exact GO.reti rfl rfl dX12_sureOf_10 ⟨rfl, rfl, _, rfl, (ir_c rfl), trivial⟩

set_option maxHeartbeats 1000000 in
theorem t_X12_goesDown {K : Kmap} {V : Vmap} {x : Nat} {p0 : Int} (h_x : K x = some (0, 11)) (r_p0 : ir p0) (q_0 : p0 ≥ 0) (q_1 : p0 ≤ 9) : MC mX12_goesDown K V [.ref x, ti p0] (VS K (fun V1 => (True))) := by
  refine MC.start 3 (by decide +kernel) rfl rfl rfl (ls0 := [some (.ref x), some (ti p0), none, none, none]) rfl ?_
  refine GO.aload_n dX12_goesDown_0 rfl rfl ?_
  refine GO.getA (n := 10) h_x fl_RX12_298 rfl rfl rfl rfl dX12_goesDown_1 (fun hv2 h1 => ?_)
  refine GO.iload_n dX12_goesDown_4 rfl rfl ?_
  have q3 : -2147483648 ≤ p0 ∧ p0 ≤ 2147483647 := r_p0
  refine GO.iald (t := 101) rfl rfl h1 r_p0 (by omega) (by omega) dX12_goesDown_5 (fun l4 u5 => ?_)
  refine GO.sipush dX12_goesDown_6 rfl ?_
  refine GO.idivP dX12_goesDown_9 vi_ir (ir_c rfl) (by omega) (by omega) ?_
  refine GO.bipush dX12_goesDown_10 rfl ?_
  have hj12 : ∀ (z11 : Int), ∀ (l13 : 0 ≤ z11), ∀ (u14 : z11 ≤ 9), GO mX12_goesDown K V (VS K (fun V1 => (True))) K V 0 0 30 [some (.ref x), some (ti p0), none, none, none] [ti z11] := by
    intro z11 l13 u14
    have r15 : ir z11 := ⟨by omega, by omega⟩
    refine GO.istore_n (ls1 := [some (.ref x), some (ti p0), some (ti z11), none, none]) dX12_goesDown_30 rfl rfl rfl ?_
    refine GO.aload_n dX12_goesDown_31 rfl rfl ?_
    refine GO.getRaw h_x fl_RX12_298 hv2 dX12_goesDown_32 ?_
    refine GO.iload_n dX12_goesDown_35 rfl rfl ?_
    refine GO.iald (t := 101) rfl rfl h1 r_p0 (by omega) (by omega) dX12_goesDown_36 (fun l18 u19 => ?_)
    refine GO.aload_n dX12_goesDown_37 rfl rfl ?_
    refine GO.getA (n := 10) h_x fl_RX12_301 rfl rfl rfl rfl dX12_goesDown_38 (fun hv21 h20 => ?_)
    refine GO.iload_n dX12_goesDown_41 rfl rfl ?_
    refine GO.iald (t := 102) rfl rfl h20 r15 (by omega) (by omega) dX12_goesDown_42 (fun _ _ => ?_)
    refine GO.iadd dX12_goesDown_43 ?_
    refine GO.norm (fun z22 r23 _ => ?_)
    refine GO.istore_n (ls1 := [some (.ref x), some (ti p0), some (ti z11), some (ti z22), none]) dX12_goesDown_44 rfl rfl rfl ?_
    refine GO.aload_n dX12_goesDown_45 rfl rfl ?_
    refine GO.aload_n dX12_goesDown_46 rfl rfl ?_
    refine GO.getA (n := 10) h_x fl_RX12_292 rfl rfl rfl rfl dX12_goesDown_47 (fun hv25 h24 => ?_)
    refine GO.iload_n dX12_goesDown_50 rfl rfl ?_
    refine GO.iald (t := 99) rfl rfl h24 r_p0 (by omega) (by omega) dX12_goesDown_51 (fun l26 u27 => ?_)
    refine GO.callV (ci := 11) (N := mX12_sureOf) dX12_goesDown_52 (RX12, TX12, 151) rfl gV_RX12_703 h_x (t_X12_sureOf h_x vi_ir (by omega) (by omega)) rfl [] rfl rfl (Nat.le_of_ble_eq_true rfl) rfl (k_ip fun X28 r29 h30 => ?_)
    refine GO.aload_n dX12_goesDown_55 rfl rfl ?_
    refine GO.getI h_x fl_RX12_280 rfl rfl dX12_goesDown_56 (fun _ _ => ?_)
    refine GO.isub dX12_goesDown_59 ?_
    refine GO.norm (fun z31 r32 _ => ?_)
    refine GO.istore (ls1 := [some (.ref x), some (ti p0), some (ti z11), some (ti z22), some (ti z31)]) dX12_goesDown_60 rfl rfl ?_
    refine GO.iload_n dX12_goesDown_62 rfl rfl ?_
    refine GO.iload dX12_goesDown_63 rfl ?_
    have hj35 : ∀ (z34 : Int), ∀ (l36 : (-2147483648) ≤ z34), ∀ (u37 : z34 ≤ 2147483647), GO mX12_goesDown K V (VS K (fun V1 => (True))) K V 0 0 74 [some (.ref x), some (ti p0), some (ti z11), some (ti z22), some (ti z31)] [ti z34] := by
      intro z34 l36 u37
      have r38 : ir z34 := ⟨by omega, by omega⟩
      refine GO.istore_n (ls1 := [some (.ref x), some (ti p0), some (ti z11), some (ti z34), some (ti z31)]) dX12_goesDown_74 rfl rfl rfl ?_
      refine GO.aload_n dX12_goesDown_75 rfl rfl ?_
      refine GO.getRaw h_x fl_RX12_298 hv2 dX12_goesDown_76 ?_
      refine GO.iload_n dX12_goesDown_79 rfl rfl ?_
      refine GO.iload_n dX12_goesDown_80 rfl rfl ?_
      refine GO.aload_n dX12_goesDown_81 rfl rfl ?_
      refine GO.getRaw h_x fl_RX12_298 hv2 dX12_goesDown_82 ?_
      refine GO.iload_n dX12_goesDown_85 rfl rfl ?_
      refine GO.iald (t := 101) rfl rfl h1 r_p0 (by omega) (by omega) dX12_goesDown_86 (fun l43 u44 => ?_)
      refine GO.icmp_le (tgt := 94) dX12_goesDown_87 (by decide) r38 vi_ir (fun c45 => ?_) (fun c45 => ?_)
      ·
        refine GO.aload_n dX12_goesDown_94 rfl rfl ?_
        refine GO.getRaw h_x fl_RX12_298 hv2 dX12_goesDown_95 ?_
        refine GO.iload_n dX12_goesDown_98 rfl rfl ?_
        refine GO.iald (t := 101) rfl rfl h1 r_p0 (by omega) (by omega) dX12_goesDown_99 (fun l48 u49 => ?_)
        refine GO.iast (t := 101) rfl rfl (by decide +kernel) h1 r_p0 (by omega) (by omega) vi_ir (by omega) (by omega) dX12_goesDown_100 (fun V51 e50 => ?_)
        exact GO.retv rfl rfl dX12_goesDown_101 ⟨rfl, rfl, trivial⟩
      ·
        refine GO.iload_n dX12_goesDown_90 rfl rfl ?_
        refine GO.goto (tgt := 100) dX12_goesDown_91 (by decide) ?_
        refine GO.iast (t := 101) rfl rfl (by decide +kernel) h1 r_p0 (by omega) (by omega) r38 (by omega) (by omega) dX12_goesDown_100 (fun V53 e52 => ?_)
        exact GO.retv rfl rfl dX12_goesDown_101 ⟨rfl, rfl, trivial⟩
    refine GO.icmp_ge (tgt := 72) dX12_goesDown_65 (by decide) r23 r32 (fun c54 => ?_) (fun c54 => ?_)
    ·
      refine GO.iload dX12_goesDown_72 rfl ?_
      have q55 : -2147483648 ≤ z31 ∧ z31 ≤ 2147483647 := r32
      have q56 : -2147483648 ≤ z22 ∧ z22 ≤ 2147483647 := r23
      exact hj35 z31 (by omega) (by omega)
    ·
      refine GO.iload_n dX12_goesDown_68 rfl rfl ?_
      refine GO.goto (tgt := 74) dX12_goesDown_69 (by decide) ?_
      have q57 : -2147483648 ≤ z22 ∧ z22 ≤ 2147483647 := r23
      have q58 : -2147483648 ≤ z31 ∧ z31 ≤ 2147483647 := r32
      exact hj35 z22 (by omega) (by omega)
  refine GO.icmp_le (tgt := 20) dX12_goesDown_12 (by decide) ⟨by omega, by omega⟩ (ir_c rfl) (fun c59 => ?_) (fun c59 => ?_)
  ·
    refine GO.aload_n dX12_goesDown_20 rfl rfl ?_
    refine GO.getRaw h_x fl_RX12_298 hv2 dX12_goesDown_21 ?_
    refine GO.iload_n dX12_goesDown_24 rfl rfl ?_
    refine GO.iald (t := 101) rfl rfl h1 r_p0 (by omega) (by omega) dX12_goesDown_25 (fun l62 u63 => ?_)
    refine GO.sipush dX12_goesDown_26 rfl ?_
    refine GO.idivP dX12_goesDown_29 vi_ir (ir_c rfl) (by omega) (by omega) ?_
    exact hj12 ((vi V (vq V x 126) (p0).toNat) / 500) (by omega) (by omega)
  ·
    refine GO.bipush dX12_goesDown_15 rfl ?_
    refine GO.goto (tgt := 30) dX12_goesDown_17 (by decide) ?_
    exact hj12 9 (by omega) (by omega)

set_option maxHeartbeats 1000000 in
theorem t_X12_worksGo {K : Kmap} {V : Vmap} {x : Nat} (h_x : K x = some (0, 11)) (w_0 : GX V x) : MC mX12_worksGo K V [.ref x] (VS K (fun V1 => (True))) := by
  refine MC.start 2 (by decide +kernel) rfl rfl rfl (ls0 := [some (.ref x), none, none]) rfl ?_
  refine GO.useWT (fun hW_0 => ?_)
  refine GO.iconst dX12_worksGo_0 ?_
  refine GO.istore_n (ls1 := [some (.ref x), some (ti 0), none]) dX12_worksGo_1 rfl rfl rfl ?_
  refine GO.loop1 (fun i1 W => 0 ≤ i1 ∧ i1 ≤ 100 ∧ True) (fun i1 => [some (.ref x), some (ti i1), none]) (fun i1 W => (2147483647 - i1).toNat) 0 ⟨by omega, by omega, trivial⟩ rfl (fun i1 Wi1 hp2973 ih2972 => ?_)
  obtain ⟨l_i1, u_i1, -⟩ := hp2973
  have r_i1 : ir i1 := ⟨by omega, by omega⟩
  show GO mX12_worksGo K V (VS K (fun V1 => (True))) K Wi1 0 0 2 [some (.ref x), some (ti i1), none] []
  refine GO.iload_n dX12_worksGo_2 rfl rfl ?_
  refine GO.aload_n dX12_worksGo_3 rfl rfl ?_
  refine GO.getI h_x fl_RX12_378 rfl rfl dX12_worksGo_4 (fun l2974 u2975 => ?_)
  refine GO.icmp_ge (tgt := 158) dX12_worksGo_7 (by decide) r_i1 vi_ir (fun c2976 => ?_) (fun c2976 => ?_)
  ·
    refine GO.iconst dX12_worksGo_158 ?_
    refine GO.istore_n (ls1 := [some (.ref x), some (ti 0), none]) dX12_worksGo_159 rfl rfl rfl ?_
    refine GO.loop1 (fun i2977 W => 0 ≤ i2977 ∧ i2977 ≤ 9 ∧ True) (fun i2977 => [some (.ref x), some (ti i2977), none]) (fun i2977 W => (2147483647 - i2977).toNat) 0 ⟨by omega, by omega, trivial⟩ rfl (fun i2977 Wi2977 hp3129 ih3128 => ?_)
    obtain ⟨l_i2977, u_i2977, -⟩ := hp3129
    have r_i2977 : ir i2977 := ⟨by omega, by omega⟩
    show GO mX12_worksGo K V (VS K (fun V1 => (True))) K Wi2977 0 0 160 [some (.ref x), some (ti i2977), none] []
    refine GO.iload_n dX12_worksGo_160 rfl rfl ?_
    refine GO.aload_n dX12_worksGo_161 rfl rfl ?_
    refine GO.getI h_x fl_RX12_393 rfl rfl dX12_worksGo_162 (fun l3130 u3131 => ?_)
    refine GO.icmp_ge (tgt := 225) dX12_worksGo_165 (by decide) r_i2977 vi_ir (fun c3132 => ?_) (fun c3132 => ?_)
    ·
      exact GO.retv rfl rfl dX12_worksGo_225 ⟨rfl, rfl, trivial⟩
    ·
      refine GO.aload_n dX12_worksGo_168 rfl rfl ?_
      refine GO.getA (n := 9) h_x fl_RX12_29 rfl rfl rfl rfl dX12_worksGo_169 (fun hv3134 h3133 => ?_)
      refine GO.iload_n dX12_worksGo_172 rfl rfl ?_
      refine GO.iald (t := 13) rfl rfl h3133 r_i2977 (by omega) (by omega) dX12_worksGo_173 (fun _ _ => ?_)
      refine GO.iconst dX12_worksGo_174 ?_
      refine GO.icmp_eq (tgt := 181) dX12_worksGo_175 (by decide) vi_ir (ir_c rfl) (fun c3135 => ?_) (fun c3135 => ?_)
      ·
        refine GO.aload_n dX12_worksGo_181 rfl rfl ?_
        refine GO.bipush dX12_worksGo_182 rfl ?_
        refine GO.iload_n dX12_worksGo_184 rfl rfl ?_
        refine GO.aload_n dX12_worksGo_185 rfl rfl ?_
        refine GO.getI h_x fl_RX12_396 rfl rfl dX12_worksGo_186 (fun l3136 u3137 => ?_)
        refine GO.iconst dX12_worksGo_189 ?_
        refine GO.callV (ci := 11) (N := mX12_asked) dX12_worksGo_190 (RX12, TX12, 151) rfl gV_RX12_563 h_x (t_X12_asked h_x (ir_c rfl) r_i2977 vi_ir (ir_c rfl) (by omega) (by omega)) rfl [] rfl rfl (Nat.le_of_ble_eq_true rfl) rfl (k_is fun X3138 V3142 r3139 h3140 hF3141 => ?_)
        refine GO.istore_n (ls1 := [some (.ref x), some (ti i2977), some (ti X3138)]) dX12_worksGo_193 rfl rfl rfl ?_
        refine GO.iload_n dX12_worksGo_194 rfl rfl ?_
        refine GO.iconst dX12_worksGo_195 ?_
        refine GO.icmp_eq (tgt := 219) dX12_worksGo_196 (by decide) r3139 (ir_c rfl) (fun c3143 => ?_) (fun c3143 => ?_)
        ·
          refine GO.iinc (X := i2977) (n := 1) (Y := i2977 + 1) (ls1 := [some (.ref x), some (ti (i2977 + 1)), some (ti X3138)]) dX12_worksGo_219 rfl rfl rfl rfl ?_
          refine GO.goto (tgt := 160) dX12_worksGo_222 (by decide) ?_
          refine GO.drop [true, true, false] rfl ?_
          exact ih3128 (i2977 + 1) V3142 ⟨by omega, by omega, trivial⟩ (by show (2147483647 - (i2977 + 1)).toNat < (2147483647 - i2977).toNat; omega)
        ·
          refine GO.aload_n dX12_worksGo_199 rfl rfl ?_
          refine GO.getA (n := 9) h_x fl_RX12_32 rfl rfl rfl rfl dX12_worksGo_200 (fun hv3145 h3144 => ?_)
          refine GO.iload_n dX12_worksGo_203 rfl rfl ?_
          refine GO.iald (t := 14) rfl rfl h3144 r_i2977 (by omega) (by omega) dX12_worksGo_204 (fun _ _ => ?_)
          refine GO.iload_n dX12_worksGo_205 rfl rfl ?_
          refine GO.icmp_lt (tgt := 219) dX12_worksGo_206 (by decide) vi_ir r3139 (fun c3147 => ?_) (fun c3147 => ?_)
          ·
            refine GO.iinc (X := i2977) (n := 1) (Y := i2977 + 1) (ls1 := [some (.ref x), some (ti (i2977 + 1)), some (ti X3138)]) dX12_worksGo_219 rfl rfl rfl rfl ?_
            refine GO.goto (tgt := 160) dX12_worksGo_222 (by decide) ?_
            refine GO.drop [true, true, false] rfl ?_
            exact ih3128 (i2977 + 1) V3142 ⟨by omega, by omega, trivial⟩ (by show (2147483647 - (i2977 + 1)).toNat < (2147483647 - i2977).toNat; omega)
          ·
            refine GO.aload_n dX12_worksGo_209 rfl rfl ?_
            refine GO.getRaw h_x fl_RX12_29 (Eq.trans (hF3141 _ _ _ h_x h_x (by decide +kernel)) hv3134) dX12_worksGo_210 ?_
            refine GO.iload_n dX12_worksGo_213 rfl rfl ?_
            refine GO.aload_n dX12_worksGo_214 rfl rfl ?_
            refine GO.getI h_x fl_RX12_396 rfl rfl dX12_worksGo_215 (fun l3150 u3151 => ?_)
            have e3152 : vi V3142 x 2 = vi Wi2977 x 2 := vi_fr hF3141 h_x h_x (by decide +kernel)
            refine GO.iast (t := 13) rfl rfl (by decide +kernel) h3133 r_i2977 (by omega) (by omega) vi_ir (vi_ir).1 (vi_ir).2 dX12_worksGo_218 (fun V3154 e3153 => ?_)
            refine GO.iinc (X := i2977) (n := 1) (Y := i2977 + 1) (ls1 := [some (.ref x), some (ti (i2977 + 1)), some (ti X3138)]) dX12_worksGo_219 rfl rfl rfl rfl ?_
            refine GO.goto (tgt := 160) dX12_worksGo_222 (by decide) ?_
            refine GO.drop [true, true, false] rfl ?_
            exact ih3128 (i2977 + 1) V3154 ⟨by omega, by omega, trivial⟩ (by show (2147483647 - (i2977 + 1)).toNat < (2147483647 - i2977).toNat; omega)
      ·
        refine GO.goto (tgt := 219) dX12_worksGo_178 (by decide) ?_
        refine GO.iinc (X := i2977) (n := 1) (Y := i2977 + 1) (ls1 := [some (.ref x), some (ti (i2977 + 1)), none]) dX12_worksGo_219 rfl rfl rfl rfl ?_
        refine GO.goto (tgt := 160) dX12_worksGo_222 (by decide) ?_
        exact ih3128 (i2977 + 1) Wi2977 ⟨by omega, by omega, trivial⟩ (by show (2147483647 - (i2977 + 1)).toNat < (2147483647 - i2977).toNat; omega)
  ·
    refine GO.aload_n dX12_worksGo_10 rfl rfl ?_
    refine GO.getI h_x fl_RX12_396 rfl rfl dX12_worksGo_11 (fun l3155 u3156 => ?_)
    refine GO.aload_n dX12_worksGo_14 rfl rfl ?_
    refine GO.getA (n := 100) h_x fl_RX12_172 rfl rfl rfl rfl dX12_worksGo_15 (fun hv3158 h3157 => ?_)
    refine GO.iload_n dX12_worksGo_18 rfl rfl ?_
    refine GO.iald (t := 60) rfl rfl h3157 r_i1 (by omega) (by omega) dX12_worksGo_19 (fun _ _ => ?_)
    refine GO.aload_n dX12_worksGo_20 rfl rfl ?_
    refine GO.getA (n := 100) h_x fl_RX12_175 rfl rfl rfl rfl dX12_worksGo_21 (fun hv3160 h3159 => ?_)
    refine GO.iload_n dX12_worksGo_24 rfl rfl ?_
    refine GO.iald (t := 61) rfl rfl h3159 r_i1 (by omega) (by omega) dX12_worksGo_25 (fun _ _ => ?_)
    refine GO.callS (N := mX12_in) dX12_worksGo_26 gS_RX12_371 (t_X12_in vi_ir vi_ir vi_ir) rfl [] rfl rfl (Nat.le_of_ble_eq_true rfl) rfl (k_ip fun X3161 r3162 h3163 => ?_)
    refine GO.if_ne (tgt := 35) dX12_worksGo_29 (by decide) r3162 (fun c3164 => ?_) (fun c3164 => ?_)
    ·
      have q3165 := h3163.2.1 (by omega)
      refine GO.aload_n dX12_worksGo_35 rfl rfl ?_
      refine GO.iload_n dX12_worksGo_36 rfl rfl ?_
      refine GO.aload_n dX12_worksGo_37 rfl rfl ?_
      refine GO.getI h_x fl_RX12_396 rfl rfl dX12_worksGo_38 (fun l3166 u3167 => ?_)
      refine GO.iconst dX12_worksGo_41 ?_
      refine GO.useFR (fun hF3168 => ?_)
      have hg3169 := GX.fr hF3168 w_0 hW_0 h_x (by decide +kernel)
      refine GO.callV (ci := 11) (N := mX12_mayOn) dX12_worksGo_42 (RX12, TX12, 151) rfl gV_RX12_608 h_x (t_X12_mayOn h_x r_i1 vi_ir (ir_c rfl) (by omega) (by omega) (by omega) (hg3169)) rfl [] rfl rfl (Nat.le_of_ble_eq_true rfl) rfl (k_is fun X3170 V3174 r3171 h3172 hF3173 => ?_)
      refine GO.if_eq (tgt := 65) dX12_worksGo_45 (by decide) r3171 (fun c3175 => ?_) (fun c3175 => ?_)
      ·
        refine GO.aload_n dX12_worksGo_65 rfl rfl ?_
        refine GO.getA (n := 100) h_x fl_RX12_184 rfl rfl rfl rfl dX12_worksGo_66 (fun hv3177 h3176 => ?_)
        refine GO.iload_n dX12_worksGo_69 rfl rfl ?_
        refine GO.aload_n dX12_worksGo_70 rfl rfl ?_
        refine GO.getRaw h_x fl_RX12_184 hv3177 dX12_worksGo_71 ?_
        refine GO.iload_n dX12_worksGo_74 rfl rfl ?_
        refine GO.iald (t := 64) rfl rfl h3176 r_i1 (by omega) (by omega) dX12_worksGo_75 (fun _ _ => ?_)
        refine GO.iconst dX12_worksGo_76 ?_
        refine GO.iadd dX12_worksGo_77 ?_
        refine GO.norm (fun z3181 r3182 _ => ?_)
        refine GO.iast (t := 64) rfl rfl (by decide +kernel) h3176 r_i1 (by omega) (by omega) r3182 (r3182).1 (r3182).2 dX12_worksGo_78 (fun V3184 e3183 => ?_)
        refine GO.aload_n dX12_worksGo_79 rfl rfl ?_
        refine GO.getA (n := 9) h_x fl_RX12_32 rfl rfl rfl rfl dX12_worksGo_80 (fun hv3186 h3185 => ?_)
        refine GO.aload_n dX12_worksGo_83 rfl rfl ?_
        refine GO.getA (n := 100) h_x fl_RX12_166 rfl rfl rfl rfl dX12_worksGo_84 (fun hv3188 h3187 => ?_)
        refine GO.iload_n dX12_worksGo_87 rfl rfl ?_
        refine GO.iald (t := 58) rfl rfl h3187 r_i1 (by omega) (by omega) dX12_worksGo_88 (fun l3189 u3190 => ?_)
        refine GO.aload_n dX12_worksGo_89 rfl rfl ?_
        refine GO.getRaw h_x fl_RX12_32 hv3186 dX12_worksGo_90 ?_
        refine GO.aload_n dX12_worksGo_93 rfl rfl ?_
        refine GO.getRaw h_x fl_RX12_166 hv3188 dX12_worksGo_94 ?_
        refine GO.iload_n dX12_worksGo_97 rfl rfl ?_
        refine GO.iald (t := 58) rfl rfl h3187 r_i1 (by omega) (by omega) dX12_worksGo_98 (fun l3197 u3198 => ?_)
        refine GO.iald (t := 14) rfl rfl h3185 vi_ir (by omega) (by omega) dX12_worksGo_99 (fun _ _ => ?_)
        refine GO.aload_n dX12_worksGo_100 rfl rfl ?_
        refine GO.getA (n := 100) h_x fl_RX12_163 rfl rfl rfl rfl dX12_worksGo_101 (fun hv3202 h3201 => ?_)
        refine GO.iload_n dX12_worksGo_104 rfl rfl ?_
        refine GO.iald (t := 57) rfl rfl h3201 r_i1 (by omega) (by omega) dX12_worksGo_105 (fun _ _ => ?_)
        have hj3207 : ∀ (z3206 : Int), ∀ (l3208 : 0 ≤ z3206), ∀ (u3209 : z3206 ≤ 1), GO mX12_worksGo K V (VS K (fun V1 => (True))) K V3184 0 0 114 [some (.ref x), some (ti i1), none] [ti z3206, ti (vi V3184 (vq V3184 x 12) (vi V3184 (vq V3184 x 68) (i1).toNat).toNat), ti (vi V3184 (vq V3184 x 68) (i1).toNat), .ref (vq V3184 x 12)] := by
          intro z3206 l3208 u3209
          have r3210 : ir z3206 := ⟨by omega, by omega⟩
          refine GO.iadd dX12_worksGo_114 ?_
          refine GO.norm (fun z3211 r3212 _ => ?_)
          refine GO.iast (t := 14) rfl rfl (by decide +kernel) h3185 vi_ir (by omega) (by omega) r3212 (r3212).1 (r3212).2 dX12_worksGo_115 (fun V3214 e3213 => ?_)
          refine GO.aload_n dX12_worksGo_116 rfl rfl ?_
          refine GO.iload_n dX12_worksGo_117 rfl rfl ?_
          refine GO.callV (ci := 11) (N := mX12_sounds) dX12_worksGo_118 (RX12, TX12, 151) rfl gV_RX12_664 h_x (t_X12_sounds h_x r_i1 (by omega) (by omega)) rfl [] rfl rfl (Nat.le_of_ble_eq_true rfl) rfl (k_vs fun V3217 h3216 hF3215 => ?_)
          refine GO.iconst dX12_worksGo_121 ?_
          refine GO.istore_n (ls1 := [some (.ref x), some (ti i1), some (ti 0)]) dX12_worksGo_122 rfl rfl rfl ?_
          refine GO.loop1 (fun i3218 W => 0 ≤ i3218 ∧ i3218 ≤ 10 ∧ True) (fun i3218 => [some (.ref x), some (ti i1), some (ti i3218)]) (fun i3218 W => (2147483647 - i3218).toNat) 0 ⟨by omega, by omega, trivial⟩ rfl (fun i3218 Wi3218 hp3283 ih3282 => ?_)
          obtain ⟨l_i3218, u_i3218, -⟩ := hp3283
          have r_i3218 : ir i3218 := ⟨by omega, by omega⟩
          show GO mX12_worksGo K V (VS K (fun V1 => (True))) K Wi3218 0 0 123 [some (.ref x), some (ti i1), some (ti i3218)] []
          refine GO.iload_n dX12_worksGo_123 rfl rfl ?_
          refine GO.aload_n dX12_worksGo_124 rfl rfl ?_
          refine GO.getI h_x fl_RX12_667 rfl rfl dX12_worksGo_125 (fun l3284 u3285 => ?_)
          refine GO.icmp_ge (tgt := 152) dX12_worksGo_128 (by decide) r_i3218 vi_ir (fun c3286 => ?_) (fun c3286 => ?_)
          ·
            refine GO.iinc (X := i1) (n := 1) (Y := i1 + 1) (ls1 := [some (.ref x), some (ti (i1 + 1)), some (ti i3218)]) dX12_worksGo_152 rfl rfl rfl rfl ?_
            refine GO.goto (tgt := 2) dX12_worksGo_155 (by decide) ?_
            refine GO.drop [true, true, false] rfl ?_
            exact ih2972 (i1 + 1) Wi3218 ⟨by omega, by omega, trivial⟩ (by show (2147483647 - (i1 + 1)).toNat < (2147483647 - i1).toNat; omega)
          ·
            refine GO.aload_n dX12_worksGo_131 rfl rfl ?_
            refine GO.getA (n := 10) h_x fl_RX12_295 rfl rfl rfl rfl dX12_worksGo_132 (fun hv3288 h3287 => ?_)
            refine GO.iload_n dX12_worksGo_135 rfl rfl ?_
            refine GO.iald (t := 100) rfl rfl h3287 r_i3218 (by omega) (by omega) dX12_worksGo_136 (fun _ _ => ?_)
            refine GO.iload_n dX12_worksGo_137 rfl rfl ?_
            refine GO.icmp_ne (tgt := 146) dX12_worksGo_138 (by decide) vi_ir r_i1 (fun c3289 => ?_) (fun c3289 => ?_)
            ·
              refine GO.iinc (X := i3218) (n := 1) (Y := i3218 + 1) (ls1 := [some (.ref x), some (ti i1), some (ti (i3218 + 1))]) dX12_worksGo_146 rfl rfl rfl rfl ?_
              refine GO.goto (tgt := 123) dX12_worksGo_149 (by decide) ?_
              exact ih3282 (i3218 + 1) Wi3218 ⟨by omega, by omega, trivial⟩ (by show (2147483647 - (i3218 + 1)).toNat < (2147483647 - i3218).toNat; omega)
            ·
              refine GO.aload_n dX12_worksGo_141 rfl rfl ?_
              refine GO.iload_n dX12_worksGo_142 rfl rfl ?_
              refine GO.callV (ci := 11) (N := mX12_goesDown) dX12_worksGo_143 (RX12, TX12, 151) rfl gV_RX12_670 h_x (t_X12_goesDown h_x r_i3218 (by omega) (by omega)) rfl [] rfl rfl (Nat.le_of_ble_eq_true rfl) rfl (k_vs fun V3292 h3291 hF3290 => ?_)
              refine GO.iinc (X := i3218) (n := 1) (Y := i3218 + 1) (ls1 := [some (.ref x), some (ti i1), some (ti (i3218 + 1))]) dX12_worksGo_146 rfl rfl rfl rfl ?_
              refine GO.goto (tgt := 123) dX12_worksGo_149 (by decide) ?_
              exact ih3282 (i3218 + 1) V3292 ⟨by omega, by omega, trivial⟩ (by show (2147483647 - (i3218 + 1)).toNat < (2147483647 - i3218).toNat; omega)
        refine GO.if_ne (tgt := 113) dX12_worksGo_106 (by decide) vi_ir (fun c3293 => ?_) (fun c3293 => ?_)
        ·
          refine GO.iconst dX12_worksGo_113 ?_
          exact hj3207 0 (by omega) (by omega)
        ·
          refine GO.iconst dX12_worksGo_109 ?_
          refine GO.goto (tgt := 114) dX12_worksGo_110 (by decide) ?_
          exact hj3207 1 (by omega) (by omega)
      ·
        refine GO.aload_n dX12_worksGo_48 rfl rfl ?_
        refine GO.getA (n := 100) h_x fl_RX12_187 rfl rfl rfl rfl dX12_worksGo_49 (fun hv3295 h3294 => ?_)
        refine GO.iload_n dX12_worksGo_52 rfl rfl ?_
        refine GO.aload_n dX12_worksGo_53 rfl rfl ?_
        refine GO.getRaw h_x fl_RX12_187 hv3295 dX12_worksGo_54 ?_
        refine GO.iload_n dX12_worksGo_57 rfl rfl ?_
        refine GO.iald (t := 65) rfl rfl h3294 r_i1 (by omega) (by omega) dX12_worksGo_58 (fun _ _ => ?_)
        refine GO.iconst dX12_worksGo_59 ?_
        refine GO.iadd dX12_worksGo_60 ?_
        refine GO.norm (fun z3299 r3300 _ => ?_)
        refine GO.iast (t := 65) rfl rfl (by decide +kernel) h3294 r_i1 (by omega) (by omega) r3300 (r3300).1 (r3300).2 dX12_worksGo_61 (fun V3302 e3301 => ?_)
        refine GO.goto (tgt := 152) dX12_worksGo_62 (by decide) ?_
        refine GO.iinc (X := i1) (n := 1) (Y := i1 + 1) (ls1 := [some (.ref x), some (ti (i1 + 1)), none]) dX12_worksGo_152 rfl rfl rfl rfl ?_
        refine GO.goto (tgt := 2) dX12_worksGo_155 (by decide) ?_
        exact ih2972 (i1 + 1) V3302 ⟨by omega, by omega, trivial⟩ (by show (2147483647 - (i1 + 1)).toNat < (2147483647 - i1).toNat; omega)
    ·
      have q3303 := h3163.2.2 (by omega)
      refine GO.goto (tgt := 152) dX12_worksGo_32 (by decide) ?_
      refine GO.iinc (X := i1) (n := 1) (Y := i1 + 1) (ls1 := [some (.ref x), some (ti (i1 + 1)), none]) dX12_worksGo_152 rfl rfl rfl rfl ?_
      refine GO.goto (tgt := 2) dX12_worksGo_155 (by decide) ?_
      exact ih2972 (i1 + 1) Wi1 ⟨by omega, by omega, trivial⟩ (by show (2147483647 - (i1 + 1)).toNat < (2147483647 - i1).toNat; omega)
