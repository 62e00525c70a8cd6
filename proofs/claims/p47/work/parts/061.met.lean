def mX12_top : MRec := (RX12, cX12_top, 1, (some .int), yX12_top, 0, 0, 0, 0, 0)
def mX12_letterNumber : MRec := (RX12, cX12_letterNumber, 1, (some .int), yX12_letterNumber, 0, 0, 0, 0, 0)
def mX12_sumSign : MRec := (RX12, cX12_sumSign, 1, (some .int), yX12_sumSign, 0, 0, 0, 0, 0)
def mX12_closesSums : MRec := (RX12, cX12_closesSums, 2, (none : Option Jvm.ClassFile.FieldType), yX12_closesSums, 1, 22, 0, 0, 16296287810675888690147565507275025288411747286343268504861272176430503465258226742210854912)
def mX12_readsFactor : MRec := (RX12, cX12_readsFactor, 2, (some .boolean), yX12_readsFactor, 3, 62, 0, 0, 48888863432027666070442696521825075865235241626388431603512355916790897375506972996244865024)
def mX12_hasOpenSum : MRec := (RX12, cX12_hasOpenSum, 3, (some .boolean), yX12_hasOpenSum, 0, 0, 0, 0, 0)
def mX12_readsSum : MRec := (RX12, cX12_readsSum, 3, (some .boolean), yX12_readsSum, 4, 83, 0, 0, 48888863432027666070442696521825075865235241626388431603512355916790897375506972996244865024)
set_option maxHeartbeats 1000000 in
theorem t_X12_top {K : Kmap} {V : Vmap} {x : Nat} (h_x : K x = some (0, 11)) : MC mX12_top K V [.ref x] (IP K V (fun X => X ≥ (-1) ∧ X ≤ 15 ∧ X = topf V x ∧ (X ≠ (-1) → vi V x 37 ≥ 1))) := by
  refine MC.start 0 (by decide +kernel) rfl rfl rfl (ls0 := [some (.ref x)]) rfl ?_
  refine GO.aload_n dX12_top_0 rfl rfl ?_
  refine GO.getI h_x fl_RX12_473 rfl rfl dX12_top_1 (fun l1 u2 => ?_)
  refine GO.if_ne (tgt := 11) dX12_top_4 (by decide) vi_ir (fun c3 => ?_) (fun c3 => ?_)
  ·
    refine GO.aload_n dX12_top_11 rfl rfl ?_
    refine GO.getA (n := 220) h_x fl_RX12_91 rfl rfl rfl rfl dX12_top_12 (fun hv5 h4 => ?_)
    refine GO.aload_n dX12_top_15 rfl rfl ?_
    refine GO.getI h_x fl_RX12_473 rfl rfl dX12_top_16 (fun l6 u7 => ?_)
    refine GO.iconst dX12_top_19 ?_
    refine GO.isub dX12_top_20 ?_
    have hs := top_yes (V := V) (x := x) rfl (by omega)
    refine GO.iald (t := 33) rfl rfl h4 ⟨by omega, by omega⟩ (by omega) (by omega) dX12_top_21 (fun l8 u9 => ?_)
    refine GO.ldcw (X := 1048576) dX12_top_22 gw_2078 rfl ?_
    refine GO.idivP dX12_top_25 vi_ir (ir_c rfl) (by omega) (by omega) ?_
    exact GO.reti rfl rfl dX12_top_26 ⟨rfl, rfl, _, rfl, ⟨by omega, by omega⟩, by omega⟩
  ·
    have hs := top_no (V := V) (x := x) (by omega)
    refine GO.iconst dX12_top_7 ?_
    refine GO.goto (tgt := 26) dX12_top_8 (by decide) ?_
    exact GO.reti rfl rfl dX12_top_26 ⟨rfl, rfl, _, rfl, (ir_c rfl), by omega⟩

set_option maxHeartbeats 1000000 in
theorem t_X12_letterNumber {K : Kmap} {V : Vmap} {p0 : Int} (r_p0 : ir p0) : MC mX12_letterNumber K V [ti p0] (IP K V (fun X => (-1) ≤ X ∧ X ≤ 13)) := by
  refine MC.start 0 (by decide +kernel) rfl rfl rfl (ls0 := [some (ti p0)]) rfl ?_
  refine GO.iload_n dX12_letterNumber_0 rfl rfl ?_
  have q1 : -2147483648 ≤ p0 ∧ p0 ≤ 2147483647 := r_p0
  rcases (show (p0 < 97 ∨ 121 < p0) ∨ p0 = 97 ∨ p0 = 98 ∨ p0 = 99 ∨ p0 = 100 ∨ p0 = 101 ∨ p0 = 102 ∨ p0 = 103 ∨ p0 = 104 ∨ p0 = 105 ∨ p0 = 106 ∨ p0 = 107 ∨ p0 = 108 ∨ p0 = 109 ∨ p0 = 110 ∨ p0 = 111 ∨ p0 = 112 ∨ p0 = 113 ∨ p0 = 114 ∨ p0 = 115 ∨ p0 = 116 ∨ p0 = 117 ∨ p0 = 118 ∨ p0 = 119 ∨ p0 = 120 ∨ p0 = 121 by omega) with c2 | c2 | c2 | c2 | c2 | c2 | c2 | c2 | c2 | c2 | c2 | c2 | c2 | c2 | c2 | c2 | c2 | c2 | c2 | c2 | c2 | c2 | c2 | c2 | c2 | c2
  ·
    refine GO.tableOut (tgt := 152) dX12_letterNumber_1 r_p0 c2 (by decide) ?_
    refine GO.iconst dX12_letterNumber_152 ?_
    exact GO.reti rfl rfl dX12_letterNumber_153 ⟨rfl, rfl, _, rfl, (ir_c rfl), ⟨by omega, by omega⟩⟩
  ·
    refine GO.tableAt (n := 97) (tgt := 116) dX12_letterNumber_1 (ir_c rfl) c2 (by decide) (by decide) rfl (by decide) ?_
    refine GO.iconst dX12_letterNumber_116 ?_
    exact GO.reti rfl rfl dX12_letterNumber_117 ⟨rfl, rfl, _, rfl, (ir_c rfl), ⟨by omega, by omega⟩⟩
  ·
    refine GO.tableAt (n := 98) (tgt := 120) dX12_letterNumber_1 (ir_c rfl) c2 (by decide) (by decide) rfl (by decide) ?_
    refine GO.iconst dX12_letterNumber_120 ?_
    exact GO.reti rfl rfl dX12_letterNumber_121 ⟨rfl, rfl, _, rfl, (ir_c rfl), ⟨by omega, by omega⟩⟩
  ·
    refine GO.tableAt (n := 99) (tgt := 152) dX12_letterNumber_1 (ir_c rfl) c2 (by decide) (by decide) rfl (by decide) ?_
    refine GO.iconst dX12_letterNumber_152 ?_
    exact GO.reti rfl rfl dX12_letterNumber_153 ⟨rfl, rfl, _, rfl, (ir_c rfl), ⟨by omega, by omega⟩⟩
  ·
    refine GO.tableAt (n := 100) (tgt := 143) dX12_letterNumber_1 (ir_c rfl) c2 (by decide) (by decide) rfl (by decide) ?_
    refine GO.bipush dX12_letterNumber_143 rfl ?_
    exact GO.reti rfl rfl dX12_letterNumber_145 ⟨rfl, rfl, _, rfl, (ir_c rfl), ⟨by omega, by omega⟩⟩
  ·
    refine GO.tableAt (n := 101) (tgt := 140) dX12_letterNumber_1 (ir_c rfl) c2 (by decide) (by decide) rfl (by decide) ?_
    refine GO.bipush dX12_letterNumber_140 rfl ?_
    exact GO.reti rfl rfl dX12_letterNumber_142 ⟨rfl, rfl, _, rfl, (ir_c rfl), ⟨by omega, by omega⟩⟩
  ·
    refine GO.tableAt (n := 102) (tgt := 152) dX12_letterNumber_1 (ir_c rfl) c2 (by decide) (by decide) rfl (by decide) ?_
    refine GO.iconst dX12_letterNumber_152 ?_
    exact GO.reti rfl rfl dX12_letterNumber_153 ⟨rfl, rfl, _, rfl, (ir_c rfl), ⟨by omega, by omega⟩⟩
  ·
    refine GO.tableAt (n := 103) (tgt := 152) dX12_letterNumber_1 (ir_c rfl) c2 (by decide) (by decide) rfl (by decide) ?_
    refine GO.iconst dX12_letterNumber_152 ?_
    exact GO.reti rfl rfl dX12_letterNumber_153 ⟨rfl, rfl, _, rfl, (ir_c rfl), ⟨by omega, by omega⟩⟩
  ·
    refine GO.tableAt (n := 104) (tgt := 122) dX12_letterNumber_1 (ir_c rfl) c2 (by decide) (by decide) rfl (by decide) ?_
    refine GO.iconst dX12_letterNumber_122 ?_
    exact GO.reti rfl rfl dX12_letterNumber_123 ⟨rfl, rfl, _, rfl, (ir_c rfl), ⟨by omega, by omega⟩⟩
  ·
    refine GO.tableAt (n := 105) (tgt := 124) dX12_letterNumber_1 (ir_c rfl) c2 (by decide) (by decide) rfl (by decide) ?_
    refine GO.iconst dX12_letterNumber_124 ?_
    exact GO.reti rfl rfl dX12_letterNumber_125 ⟨rfl, rfl, _, rfl, (ir_c rfl), ⟨by omega, by omega⟩⟩
  ·
    refine GO.tableAt (n := 106) (tgt := 152) dX12_letterNumber_1 (ir_c rfl) c2 (by decide) (by decide) rfl (by decide) ?_
    refine GO.iconst dX12_letterNumber_152 ?_
    exact GO.reti rfl rfl dX12_letterNumber_153 ⟨rfl, rfl, _, rfl, (ir_c rfl), ⟨by omega, by omega⟩⟩
  ·
    refine GO.tableAt (n := 107) (tgt := 152) dX12_letterNumber_1 (ir_c rfl) c2 (by decide) (by decide) rfl (by decide) ?_
    refine GO.iconst dX12_letterNumber_152 ?_
    exact GO.reti rfl rfl dX12_letterNumber_153 ⟨rfl, rfl, _, rfl, (ir_c rfl), ⟨by omega, by omega⟩⟩
  ·
    refine GO.tableAt (n := 108) (tgt := 152) dX12_letterNumber_1 (ir_c rfl) c2 (by decide) (by decide) rfl (by decide) ?_
    refine GO.iconst dX12_letterNumber_152 ?_
    exact GO.reti rfl rfl dX12_letterNumber_153 ⟨rfl, rfl, _, rfl, (ir_c rfl), ⟨by omega, by omega⟩⟩
  ·
    refine GO.tableAt (n := 109) (tgt := 149) dX12_letterNumber_1 (ir_c rfl) c2 (by decide) (by decide) rfl (by decide) ?_
    refine GO.bipush dX12_letterNumber_149 rfl ?_
    exact GO.reti rfl rfl dX12_letterNumber_151 ⟨rfl, rfl, _, rfl, (ir_c rfl), ⟨by omega, by omega⟩⟩
  ·
    refine GO.tableAt (n := 110) (tgt := 131) dX12_letterNumber_1 (ir_c rfl) c2 (by decide) (by decide) rfl (by decide) ?_
    refine GO.bipush dX12_letterNumber_131 rfl ?_
    exact GO.reti rfl rfl dX12_letterNumber_133 ⟨rfl, rfl, _, rfl, (ir_c rfl), ⟨by omega, by omega⟩⟩
  ·
    refine GO.tableAt (n := 111) (tgt := 134) dX12_letterNumber_1 (ir_c rfl) c2 (by decide) (by decide) rfl (by decide) ?_
    refine GO.bipush dX12_letterNumber_134 rfl ?_
    exact GO.reti rfl rfl dX12_letterNumber_136 ⟨rfl, rfl, _, rfl, (ir_c rfl), ⟨by omega, by omega⟩⟩
  ·
    refine GO.tableAt (n := 112) (tgt := 118) dX12_letterNumber_1 (ir_c rfl) c2 (by decide) (by decide) rfl (by decide) ?_
    refine GO.iconst dX12_letterNumber_118 ?_
    exact GO.reti rfl rfl dX12_letterNumber_119 ⟨rfl, rfl, _, rfl, (ir_c rfl), ⟨by omega, by omega⟩⟩
  ·
    refine GO.tableAt (n := 113) (tgt := 152) dX12_letterNumber_1 (ir_c rfl) c2 (by decide) (by decide) rfl (by decide) ?_
    refine GO.iconst dX12_letterNumber_152 ?_
    exact GO.reti rfl rfl dX12_letterNumber_153 ⟨rfl, rfl, _, rfl, (ir_c rfl), ⟨by omega, by omega⟩⟩
  ·
    refine GO.tableAt (n := 114) (tgt := 126) dX12_letterNumber_1 (ir_c rfl) c2 (by decide) (by decide) rfl (by decide) ?_
    refine GO.iconst dX12_letterNumber_126 ?_
    exact GO.reti rfl rfl dX12_letterNumber_127 ⟨rfl, rfl, _, rfl, (ir_c rfl), ⟨by omega, by omega⟩⟩
  ·
    refine GO.tableAt (n := 115) (tgt := 128) dX12_letterNumber_1 (ir_c rfl) c2 (by decide) (by decide) rfl (by decide) ?_
    refine GO.bipush dX12_letterNumber_128 rfl ?_
    exact GO.reti rfl rfl dX12_letterNumber_130 ⟨rfl, rfl, _, rfl, (ir_c rfl), ⟨by omega, by omega⟩⟩
  ·
    refine GO.tableAt (n := 116) (tgt := 137) dX12_letterNumber_1 (ir_c rfl) c2 (by decide) (by decide) rfl (by decide) ?_
    refine GO.bipush dX12_letterNumber_137 rfl ?_
    exact GO.reti rfl rfl dX12_letterNumber_139 ⟨rfl, rfl, _, rfl, (ir_c rfl), ⟨by omega, by omega⟩⟩
  ·
    refine GO.tableAt (n := 117) (tgt := 152) dX12_letterNumber_1 (ir_c rfl) c2 (by decide) (by decide) rfl (by decide) ?_
    refine GO.iconst dX12_letterNumber_152 ?_
    exact GO.reti rfl rfl dX12_letterNumber_153 ⟨rfl, rfl, _, rfl, (ir_c rfl), ⟨by omega, by omega⟩⟩
  ·
    refine GO.tableAt (n := 118) (tgt := 152) dX12_letterNumber_1 (ir_c rfl) c2 (by decide) (by decide) rfl (by decide) ?_
    refine GO.iconst dX12_letterNumber_152 ?_
    exact GO.reti rfl rfl dX12_letterNumber_153 ⟨rfl, rfl, _, rfl, (ir_c rfl), ⟨by omega, by omega⟩⟩
  ·
    refine GO.tableAt (n := 119) (tgt := 152) dX12_letterNumber_1 (ir_c rfl) c2 (by decide) (by decide) rfl (by decide) ?_
    refine GO.iconst dX12_letterNumber_152 ?_
    exact GO.reti rfl rfl dX12_letterNumber_153 ⟨rfl, rfl, _, rfl, (ir_c rfl), ⟨by omega, by omega⟩⟩
  ·
    refine GO.tableAt (n := 120) (tgt := 152) dX12_letterNumber_1 (ir_c rfl) c2 (by decide) (by decide) rfl (by decide) ?_
    refine GO.iconst dX12_letterNumber_152 ?_
    exact GO.reti rfl rfl dX12_letterNumber_153 ⟨rfl, rfl, _, rfl, (ir_c rfl), ⟨by omega, by omega⟩⟩
  ·
    refine GO.tableAt (n := 121) (tgt := 146) dX12_letterNumber_1 (ir_c rfl) c2 (by decide) (by decide) rfl (by decide) ?_
    refine GO.bipush dX12_letterNumber_146 rfl ?_
    exact GO.reti rfl rfl dX12_letterNumber_148 ⟨rfl, rfl, _, rfl, (ir_c rfl), ⟨by omega, by omega⟩⟩

set_option maxHeartbeats 1000000 in
theorem t_X12_sumSign {K : Kmap} {V : Vmap} {p0 : Int} (r_p0 : ir p0) : MC mX12_sumSign K V [ti p0] (IP K V (fun X => X ≥ (-1) ∧ X ≤ 6 ∧ (X ≠ (-1) → X ≥ 2))) := by
  refine MC.start 0 (by decide +kernel) rfl rfl rfl (ls0 := [some (ti p0)]) rfl ?_
  refine GO.iload_n dX12_sumSign_0 rfl rfl ?_
  refine GO.bipush dX12_sumSign_1 rfl ?_
  refine GO.icmp_ne (tgt := 10) dX12_sumSign_3 (by decide) r_p0 (ir_c rfl) (fun c1 => ?_) (fun c1 => ?_)
  ·
    refine GO.iload_n dX12_sumSign_10 rfl rfl ?_
    refine GO.bipush dX12_sumSign_11 rfl ?_
    refine GO.icmp_ne (tgt := 20) dX12_sumSign_13 (by decide) r_p0 (ir_c rfl) (fun c2 => ?_) (fun c2 => ?_)
    ·
      refine GO.iload_n dX12_sumSign_20 rfl rfl ?_
      refine GO.bipush dX12_sumSign_21 rfl ?_
      refine GO.icmp_ne (tgt := 30) dX12_sumSign_23 (by decide) r_p0 (ir_c rfl) (fun c3 => ?_) (fun c3 => ?_)
      ·
        refine GO.iload_n dX12_sumSign_30 rfl rfl ?_
        refine GO.bipush dX12_sumSign_31 rfl ?_
        refine GO.icmp_ne (tgt := 40) dX12_sumSign_33 (by decide) r_p0 (ir_c rfl) (fun c4 => ?_) (fun c4 => ?_)
        ·
          refine GO.iload_n dX12_sumSign_40 rfl rfl ?_
          refine GO.bipush dX12_sumSign_41 rfl ?_
          refine GO.icmp_ne (tgt := 51) dX12_sumSign_43 (by decide) r_p0 (ir_c rfl) (fun c5 => ?_) (fun c5 => ?_)
          ·
            refine GO.iconst dX12_sumSign_51 ?_
            exact GO.reti rfl rfl dX12_sumSign_52 ⟨rfl, rfl, _, rfl, (ir_c rfl), by omega⟩
          ·
            refine GO.bipush dX12_sumSign_46 rfl ?_
            refine GO.goto (tgt := 52) dX12_sumSign_48 (by decide) ?_
            exact GO.reti rfl rfl dX12_sumSign_52 ⟨rfl, rfl, _, rfl, (ir_c rfl), by omega⟩
        ·
          refine GO.iconst dX12_sumSign_36 ?_
          refine GO.goto (tgt := 52) dX12_sumSign_37 (by decide) ?_
          exact GO.reti rfl rfl dX12_sumSign_52 ⟨rfl, rfl, _, rfl, (ir_c rfl), by omega⟩
      ·
        refine GO.iconst dX12_sumSign_26 ?_
        refine GO.goto (tgt := 52) dX12_sumSign_27 (by decide) ?_
        exact GO.reti rfl rfl dX12_sumSign_52 ⟨rfl, rfl, _, rfl, (ir_c rfl), by omega⟩
    ·
      refine GO.iconst dX12_sumSign_16 ?_
      refine GO.goto (tgt := 52) dX12_sumSign_17 (by decide) ?_
      exact GO.reti rfl rfl dX12_sumSign_52 ⟨rfl, rfl, _, rfl, (ir_c rfl), by omega⟩
  ·
    refine GO.iconst dX12_sumSign_6 ?_
    refine GO.goto (tgt := 52) dX12_sumSign_7 (by decide) ?_
    exact GO.reti rfl rfl dX12_sumSign_52 ⟨rfl, rfl, _, rfl, (ir_c rfl), by omega⟩

set_option maxHeartbeats 1000000 in
theorem t_X12_closesSums {K : Kmap} {V : Vmap} {x : Nat} {p0 : Int} {fr : Nat} {S0 : Nat → Int} {s z : Int} (h_x : K x = some (0, 11)) (r_p0 : ir p0) (z_p0 : p0 = 0 ∨ p0 = 1) (w_0 : RJ V x fr S0 s z) (w_1 : 1 ≤ z) : MC mX12_closesSums K V [.ref x, ti p0] (VS K (fun V1 => (vi V1 x 31 = vi V x 31 ∧ vi V1 x 36 ≥ vi V x 36 ∧ vi V1 x 37 ≤ vi V x 37 ∧ vi V1 x 37 ≥ 0) ∧ (RJ V1 x fr S0 s z) ∧ (CS V V1 x p0))) := by
  refine MC.start 0 (by decide +kernel) rfl rfl rfl (ls0 := [some (.ref x), some (ti p0)]) rfl ?_
  refine GO.useWT (fun hW1 => ?_)
  have aq2 := hW1.aq h_x
  have hrd := (hW1).rd h_x
  have hle := RJ.le (V := V) (x := x) (fr := fr) (S0 := S0) (s := s) (z := z) (by assumption)
  have q3 : -2147483648 ≤ vi V x 31 ∧ vi V x 31 ≤ 2147483647 := vi_ir
  have q4 : -2147483648 ≤ vi V x 37 ∧ vi V x 37 ≤ 2147483647 := vi_ir
  have q5 : -2147483648 ≤ vi V x 36 ∧ vi V x 36 ≤ 2147483647 := vi_ir
  refine GO.loop0 (fun  W => (vi W x 31 = vi V x 31 ∧ vi W x 36 ≥ vi V x 36 ∧ vi W x 37 ≤ vi V x 37 ∧ vi W x 37 ≥ 0) ∧ (RJ W x fr S0 s z) ∧ (CL V W x) ∧ True) (fun  W => (vi W x 37).toNat)  ⟨by omega, (by first | assumption | exact RJ.clo (by assumption) (by omega) (by omega) (by omega) (((rfl : sd V x = sd V x)).trans raw_says.1) (((rfl : wt V x = wt V x)).trans raw_says.2) (by omega) (by omega) (by omega) (by omega)), (by first | exact CL.rf (by omega) | exact CL.step (by assumption) (by omega) (((rfl : wt V x = wt V x)).trans raw_says.2) (by omega) (by omega) trivial), trivial⟩ (fun W108 hp110 ih109 => ?_)
  obtain ⟨n_W108, w0_W108, w1_W108, -⟩ := hp110
  show GO mX12_closesSums K V (VS K (fun V1 => (vi V1 x 31 = vi V x 31 ∧ vi V1 x 36 ≥ vi V x 36 ∧ vi V1 x 37 ≤ vi V x 37 ∧ vi V1 x 37 ≥ 0) ∧ (RJ V1 x fr S0 s z) ∧ (CS V V1 x p0))) K W108 0 0 0 [some (.ref x), some (ti p0)] []
  refine GO.useWT (fun hW111 => ?_)
  have aq112 := hW111.aq h_x
  have hrd := (hW111).rd h_x
  have hle := RJ.le (V := W108) (x := x) (fr := fr) (S0 := S0) (s := s) (z := z) (by assumption)
  refine GO.aload_n dX12_closesSums_0 rfl rfl ?_
  refine GO.callV (ci := 11) (N := mX12_top) dX12_closesSums_1 (RX12, TX12, 151) rfl gV_RX12_476 h_x (t_X12_top h_x) rfl [] rfl rfl (Nat.le_of_ble_eq_true rfl) rfl (k_ip fun X113 r114 h115 => ?_)
  refine GO.iconst dX12_closesSums_4 ?_
  refine GO.icmp_lt (tgt := 17) dX12_closesSums_5 (by decide) r114 (ir_c rfl) (fun c116 => ?_) (fun c116 => ?_)
  ·
    refine GO.iload_n dX12_closesSums_17 rfl rfl ?_
    refine GO.if_eq (tgt := 59) dX12_closesSums_18 (by decide) r_p0 (fun c117 => ?_) (fun c117 => ?_)
    ·
      have q118 : -2147483648 ≤ vi W108 x 31 ∧ vi W108 x 31 ≤ 2147483647 := vi_ir
      have q119 : -2147483648 ≤ vi W108 x 37 ∧ vi W108 x 37 ≤ 2147483647 := vi_ir
      have q120 : -2147483648 ≤ vi W108 x 36 ∧ vi W108 x 36 ≤ 2147483647 := vi_ir
      exact GO.retv rfl rfl dX12_closesSums_59 ⟨rfl, rfl, ⟨by omega, (by first | assumption | exact RJ.clo (by assumption) (by omega) (by omega) (by omega) (((rfl : sd W108 x = sd W108 x)).trans raw_says.1) (((rfl : wt W108 x = wt W108 x)).trans raw_says.2) (by omega) (by omega) (by omega) (by omega)), (by first | exact CS.of (by assumption) (by omega))⟩⟩
    ·
      refine GO.aload_n dX12_closesSums_21 rfl rfl ?_
      refine GO.callV (ci := 11) (N := mX12_top) dX12_closesSums_22 (RX12, TX12, 151) rfl gV_RX12_476 h_x (t_X12_top h_x) rfl [] rfl rfl (Nat.le_of_ble_eq_true rfl) rfl (k_ip fun X121 r122 h123 => ?_)
      refine GO.iconst dX12_closesSums_25 ?_
      refine GO.icmp_eq (tgt := 37) dX12_closesSums_26 (by decide) r122 (ir_c rfl) (fun c124 => ?_) (fun c124 => ?_)
      ·
        refine GO.aload_n dX12_closesSums_37 rfl rfl ?_
        refine GO.aload_n dX12_closesSums_38 rfl rfl ?_
        refine GO.callV (ci := 11) (N := mX12_top) dX12_closesSums_39 (RX12, TX12, 151) rfl gV_RX12_476 h_x (t_X12_top h_x) rfl [.ref x] rfl rfl (Nat.le_of_ble_eq_true rfl) rfl (k_ip fun X125 r126 h127 => ?_)
        refine GO.iconst dX12_closesSums_42 ?_
        refine GO.callV (ci := 11) (N := mX12_says) dX12_closesSums_43 (RX12, TX12, 151) rfl gV_RX12_479 h_x (t_X12_says h_x r126 (ir_c rfl) (by omega) (by omega) (by omega) (by omega) ⟨by omega, by omega⟩) rfl [] rfl rfl (Nat.le_of_ble_eq_true rfl) rfl (k_vs fun V130 h129 hF128 => ?_)
        refine GO.useWT (fun hW131 => ?_)
        have aq132 := hW131.aq h_x
        have raw_says := h129.2
        refine GO.aload_n dX12_closesSums_46 rfl rfl ?_
        refine GO.aload_n dX12_closesSums_47 rfl rfl ?_
        refine GO.getI h_x fl_RX12_473 rfl rfl dX12_closesSums_48 (fun l134 u135 => ?_)
        have e136 : vi V130 x 37 = vi W108 x 37 := vi_fr hF128 h_x h_x (by decide +kernel)
        refine GO.iconst dX12_closesSums_51 ?_
        refine GO.isub dX12_closesSums_52 ?_
        have q138 : -2147483648 ≤ vi W108 x 37 ∧ vi W108 x 37 ≤ 2147483647 := vi_ir
        have q139 : -2147483648 ≤ vi W108 x 31 ∧ vi W108 x 31 ≤ 2147483647 := vi_ir
        have q140 : -2147483648 ≤ vi W108 x 36 ∧ vi W108 x 36 ≤ 2147483647 := vi_ir
        have q141 : -2147483648 ≤ vi V130 x 36 ∧ vi V130 x 36 ≤ 2147483647 := vi_ir
        refine GO.putI h_x fp_RX12_473 rfl (by decide +kernel) ⟨by omega, by omega⟩ (by omega) (by omega) dX12_closesSums_53 (fun V142 e137 => ?_)
        have k143 := st_fld e137 aq132 h_x (by decide) (by decide)
        have sS144 : sd V142 x = sd V130 x := k143.2.1.trans (rfl : sd V130 x = sd V130 x)
        have sQ145 : wt V142 x = wt V130 x := k143.2.2.trans (rfl : wt V130 x = wt V130 x)
        refine GO.goto (tgt := 0) dX12_closesSums_56 (by decide) ?_
        have e147 : vi V130 x 31 = vi W108 x 31 := vi_fr hF128 h_x h_x (by decide +kernel)
        have e146 : vi V142 x 31 = vi V130 x 31 := vi_up e137 (Or.inr (by decide))
        have e148 : vi V142 x 36 = vi V130 x 36 := vi_up e137 (Or.inr (by decide))
        have e149 : vi V142 x 37 = (vi V130 x 37) - 1 := upd2_int e137 ⟨by omega, by omega⟩
        exact ih109  V142 ⟨by omega, (by first | assumption | exact RJ.clo (by assumption) (by omega) (by omega) (by omega) ((sS144).trans raw_says.1) ((sQ145).trans raw_says.2) (by omega) (by omega) (by omega) (by omega)), (by first | exact CL.rf (by omega) | exact CL.step (by assumption) (by omega) ((sQ145).trans raw_says.2) (by omega) (by omega) trivial), trivial⟩ (by show (vi V142 x 37).toNat < (vi W108 x 37).toNat; omega)
      ·
        refine GO.aload_n dX12_closesSums_29 rfl rfl ?_
        refine GO.callV (ci := 11) (N := mX12_top) dX12_closesSums_30 (RX12, TX12, 151) rfl gV_RX12_476 h_x (t_X12_top h_x) rfl [] rfl rfl (Nat.le_of_ble_eq_true rfl) rfl (k_ip fun X150 r151 h152 => ?_)
        refine GO.iconst dX12_closesSums_33 ?_
        refine GO.icmp_ne (tgt := 59) dX12_closesSums_34 (by decide) r151 (ir_c rfl) (fun c153 => ?_) (fun c153 => ?_)
        ·
          have q154 : -2147483648 ≤ vi W108 x 31 ∧ vi W108 x 31 ≤ 2147483647 := vi_ir
          have q155 : -2147483648 ≤ vi W108 x 37 ∧ vi W108 x 37 ≤ 2147483647 := vi_ir
          have q156 : -2147483648 ≤ vi W108 x 36 ∧ vi W108 x 36 ≤ 2147483647 := vi_ir
          exact GO.retv rfl rfl dX12_closesSums_59 ⟨rfl, rfl, ⟨by omega, (by first | assumption | exact RJ.clo (by assumption) (by omega) (by omega) (by omega) (((rfl : sd W108 x = sd W108 x)).trans raw_says.1) (((rfl : wt W108 x = wt W108 x)).trans raw_says.2) (by omega) (by omega) (by omega) (by omega)), (by first | exact CS.of (by assumption) (by omega))⟩⟩
        ·
          refine GO.aload_n dX12_closesSums_37 rfl rfl ?_
          refine GO.aload_n dX12_closesSums_38 rfl rfl ?_
          refine GO.callV (ci := 11) (N := mX12_top) dX12_closesSums_39 (RX12, TX12, 151) rfl gV_RX12_476 h_x (t_X12_top h_x) rfl [.ref x] rfl rfl (Nat.le_of_ble_eq_true rfl) rfl (k_ip fun X157 r158 h159 => ?_)
          refine GO.iconst dX12_closesSums_42 ?_
          refine GO.callV (ci := 11) (N := mX12_says) dX12_closesSums_43 (RX12, TX12, 151) rfl gV_RX12_479 h_x (t_X12_says h_x r158 (ir_c rfl) (by omega) (by omega) (by omega) (by omega) ⟨by omega, by omega⟩) rfl [] rfl rfl (Nat.le_of_ble_eq_true rfl) rfl (k_vs fun V162 h161 hF160 => ?_)
          refine GO.useWT (fun hW163 => ?_)
          have aq164 := hW163.aq h_x
          have raw_says := h161.2
          refine GO.aload_n dX12_closesSums_46 rfl rfl ?_
          refine GO.aload_n dX12_closesSums_47 rfl rfl ?_
          refine GO.getI h_x fl_RX12_473 rfl rfl dX12_closesSums_48 (fun l166 u167 => ?_)
          have e168 : vi V162 x 37 = vi W108 x 37 := vi_fr hF160 h_x h_x (by decide +kernel)
          refine GO.iconst dX12_closesSums_51 ?_
          refine GO.isub dX12_closesSums_52 ?_
          have q170 : -2147483648 ≤ vi W108 x 37 ∧ vi W108 x 37 ≤ 2147483647 := vi_ir
          have q171 : -2147483648 ≤ vi W108 x 31 ∧ vi W108 x 31 ≤ 2147483647 := vi_ir
          have q172 : -2147483648 ≤ vi W108 x 36 ∧ vi W108 x 36 ≤ 2147483647 := vi_ir
          have q173 : -2147483648 ≤ vi V162 x 36 ∧ vi V162 x 36 ≤ 2147483647 := vi_ir
          refine GO.putI h_x fp_RX12_473 rfl (by decide +kernel) ⟨by omega, by omega⟩ (by omega) (by omega) dX12_closesSums_53 (fun V174 e169 => ?_)
          have k175 := st_fld e169 aq164 h_x (by decide) (by decide)
          have sS176 : sd V174 x = sd V162 x := k175.2.1.trans (rfl : sd V162 x = sd V162 x)
          have sQ177 : wt V174 x = wt V162 x := k175.2.2.trans (rfl : wt V162 x = wt V162 x)
          refine GO.goto (tgt := 0) dX12_closesSums_56 (by decide) ?_
          have e179 : vi V162 x 31 = vi W108 x 31 := vi_fr hF160 h_x h_x (by decide +kernel)
          have e178 : vi V174 x 31 = vi V162 x 31 := vi_up e169 (Or.inr (by decide))
          have e180 : vi V174 x 36 = vi V162 x 36 := vi_up e169 (Or.inr (by decide))
          have e181 : vi V174 x 37 = (vi V162 x 37) - 1 := upd2_int e169 ⟨by omega, by omega⟩
          exact ih109  V174 ⟨by omega, (by first | assumption | exact RJ.clo (by assumption) (by omega) (by omega) (by omega) ((sS176).trans raw_says.1) ((sQ177).trans raw_says.2) (by omega) (by omega) (by omega) (by omega)), (by first | exact CL.rf (by omega) | exact CL.step (by assumption) (by omega) ((sQ177).trans raw_says.2) (by omega) (by omega) trivial), trivial⟩ (by show (vi V174 x 37).toNat < (vi W108 x 37).toNat; omega)
  ·
    refine GO.aload_n dX12_closesSums_8 rfl rfl ?_
    refine GO.callV (ci := 11) (N := mX12_top) dX12_closesSums_9 (RX12, TX12, 151) rfl gV_RX12_476 h_x (t_X12_top h_x) rfl [] rfl rfl (Nat.le_of_ble_eq_true rfl) rfl (k_ip fun X182 r183 h184 => ?_)
    refine GO.bipush dX12_closesSums_12 rfl ?_
    refine GO.icmp_le (tgt := 37) dX12_closesSums_14 (by decide) r183 (ir_c rfl) (fun c185 => ?_) (fun c185 => ?_)
    ·
      refine GO.aload_n dX12_closesSums_37 rfl rfl ?_
      refine GO.aload_n dX12_closesSums_38 rfl rfl ?_
      refine GO.callV (ci := 11) (N := mX12_top) dX12_closesSums_39 (RX12, TX12, 151) rfl gV_RX12_476 h_x (t_X12_top h_x) rfl [.ref x] rfl rfl (Nat.le_of_ble_eq_true rfl) rfl (k_ip fun X186 r187 h188 => ?_)
      refine GO.iconst dX12_closesSums_42 ?_
      refine GO.callV (ci := 11) (N := mX12_says) dX12_closesSums_43 (RX12, TX12, 151) rfl gV_RX12_479 h_x (t_X12_says h_x r187 (ir_c rfl) (by omega) (by omega) (by omega) (by omega) ⟨by omega, by omega⟩) rfl [] rfl rfl (Nat.le_of_ble_eq_true rfl) rfl (k_vs fun V191 h190 hF189 => ?_)
      refine GO.useWT (fun hW192 => ?_)
      have aq193 := hW192.aq h_x
      have raw_says := h190.2
      refine GO.aload_n dX12_closesSums_46 rfl rfl ?_
      refine GO.aload_n dX12_closesSums_47 rfl rfl ?_
      refine GO.getI h_x fl_RX12_473 rfl rfl dX12_closesSums_48 (fun l195 u196 => ?_)
      have e197 : vi V191 x 37 = vi W108 x 37 := vi_fr hF189 h_x h_x (by decide +kernel)
      refine GO.iconst dX12_closesSums_51 ?_
      refine GO.isub dX12_closesSums_52 ?_
      have q199 : -2147483648 ≤ vi W108 x 37 ∧ vi W108 x 37 ≤ 2147483647 := vi_ir
      have q200 : -2147483648 ≤ vi W108 x 31 ∧ vi W108 x 31 ≤ 2147483647 := vi_ir
      have q201 : -2147483648 ≤ vi W108 x 36 ∧ vi W108 x 36 ≤ 2147483647 := vi_ir
      have q202 : -2147483648 ≤ vi V191 x 36 ∧ vi V191 x 36 ≤ 2147483647 := vi_ir
      refine GO.putI h_x fp_RX12_473 rfl (by decide +kernel) ⟨by omega, by omega⟩ (by omega) (by omega) dX12_closesSums_53 (fun V203 e198 => ?_)
      have k204 := st_fld e198 aq193 h_x (by decide) (by decide)
      have sS205 : sd V203 x = sd V191 x := k204.2.1.trans (rfl : sd V191 x = sd V191 x)
      have sQ206 : wt V203 x = wt V191 x := k204.2.2.trans (rfl : wt V191 x = wt V191 x)
      refine GO.goto (tgt := 0) dX12_closesSums_56 (by decide) ?_
      have e208 : vi V191 x 31 = vi W108 x 31 := vi_fr hF189 h_x h_x (by decide +kernel)
      have e207 : vi V203 x 31 = vi V191 x 31 := vi_up e198 (Or.inr (by decide))
      have e209 : vi V203 x 36 = vi V191 x 36 := vi_up e198 (Or.inr (by decide))
      have e210 : vi V203 x 37 = (vi V191 x 37) - 1 := upd2_int e198 ⟨by omega, by omega⟩
      exact ih109  V203 ⟨by omega, (by first | assumption | exact RJ.clo (by assumption) (by omega) (by omega) (by omega) ((sS205).trans raw_says.1) ((sQ206).trans raw_says.2) (by omega) (by omega) (by omega) (by omega)), (by first | exact CL.rf (by omega) | exact CL.step (by assumption) (by omega) ((sQ206).trans raw_says.2) (by omega) (by omega) trivial), trivial⟩ (by show (vi V203 x 37).toNat < (vi W108 x 37).toNat; omega)
    ·
      refine GO.iload_n dX12_closesSums_17 rfl rfl ?_
      refine GO.if_eq (tgt := 59) dX12_closesSums_18 (by decide) r_p0 (fun c211 => ?_) (fun c211 => ?_)
      ·
        have q212 : -2147483648 ≤ vi W108 x 31 ∧ vi W108 x 31 ≤ 2147483647 := vi_ir
        have q213 : -2147483648 ≤ vi W108 x 37 ∧ vi W108 x 37 ≤ 2147483647 := vi_ir
        have q214 : -2147483648 ≤ vi W108 x 36 ∧ vi W108 x 36 ≤ 2147483647 := vi_ir
        exact GO.retv rfl rfl dX12_closesSums_59 ⟨rfl, rfl, ⟨by omega, (by first | assumption | exact RJ.clo (by assumption) (by omega) (by omega) (by omega) (((rfl : sd W108 x = sd W108 x)).trans raw_says.1) (((rfl : wt W108 x = wt W108 x)).trans raw_says.2) (by omega) (by omega) (by omega) (by omega)), (by first | exact CS.of (by assumption) (by omega))⟩⟩
      ·
        refine GO.aload_n dX12_closesSums_21 rfl rfl ?_
        refine GO.callV (ci := 11) (N := mX12_top) dX12_closesSums_22 (RX12, TX12, 151) rfl gV_RX12_476 h_x (t_X12_top h_x) rfl [] rfl rfl (Nat.le_of_ble_eq_true rfl) rfl (k_ip fun X215 r216 h217 => ?_)
        refine GO.iconst dX12_closesSums_25 ?_
        refine GO.icmp_eq (tgt := 37) dX12_closesSums_26 (by decide) r216 (ir_c rfl) (fun h => by exfalso; omega) (fun c218 => ?_)
        refine GO.aload_n dX12_closesSums_29 rfl rfl ?_
        refine GO.callV (ci := 11) (N := mX12_top) dX12_closesSums_30 (RX12, TX12, 151) rfl gV_RX12_476 h_x (t_X12_top h_x) rfl [] rfl rfl (Nat.le_of_ble_eq_true rfl) rfl (k_ip fun X219 r220 h221 => ?_)
        refine GO.iconst dX12_closesSums_33 ?_
        refine GO.icmp_ne (tgt := 59) dX12_closesSums_34 (by decide) r220 (ir_c rfl) (fun c222 => ?_) (fun h => by exfalso; omega)
        have q223 : -2147483648 ≤ vi W108 x 31 ∧ vi W108 x 31 ≤ 2147483647 := vi_ir
        have q224 : -2147483648 ≤ vi W108 x 37 ∧ vi W108 x 37 ≤ 2147483647 := vi_ir
        have q225 : -2147483648 ≤ vi W108 x 36 ∧ vi W108 x 36 ≤ 2147483647 := vi_ir
        exact GO.retv rfl rfl dX12_closesSums_59 ⟨rfl, rfl, ⟨by omega, (by first | assumption | exact RJ.clo (by assumption) (by omega) (by omega) (by omega) (((rfl : sd W108 x = sd W108 x)).trans raw_says.1) (((rfl : wt W108 x = wt W108 x)).trans raw_says.2) (by omega) (by omega) (by omega) (by omega)), (by first | exact CS.of (by assumption) (by omega))⟩⟩

set_option maxHeartbeats 1000000 in
theorem t_X12_readsFactor {K : Kmap} {V : Vmap} {x : Nat} {fr : Nat} {S0 : Nat → Int} {s z : Int} (h_x : K x = some (0, 11)) (q_0 : vi V x 37 ≥ 1) (w_0 : RJ V x fr S0 s z) : MC mX12_readsFactor K V [.ref x] (IS K (fun X V1 => (X = 0 ∨ X = 1) ∧ (X ≠ 0 → vi V1 x 31 ≥ (vi V x 31 + 1) ∧ vi V1 x 37 ≥ vi V x 37) ∧ (X = 0 → True) ∧ (X ≠ 0 → RJ V1 x fr S0 s (z + 1)) ∧ (X ≠ 0 → GF V V1 x))) := by
  refine MC.start 1 (by decide +kernel) rfl rfl rfl (ls0 := [some (.ref x), none]) rfl ?_
  refine GO.useWT (fun hW1 => ?_)
  have aq2 := hW1.aq h_x
  have hrd := (hW1).rd h_x
  have hle := RJ.le (V := V) (x := x) (fr := fr) (S0 := S0) (s := s) (z := z) (by assumption)
  have q3 : -2147483648 ≤ vi V x 31 ∧ vi V x 31 ≤ 2147483647 := vi_ir
  have q4 : -2147483648 ≤ vi V x 37 ∧ vi V x 37 ≤ 2147483647 := vi_ir
  have q5 : -2147483648 ≤ vi V x 36 ∧ vi V x 36 ≤ 2147483647 := vi_ir
  refine GO.loop0 (fun  W => (vi W x 31 ≥ vi V x 31 ∧ vi W x 37 ≥ vi V x 37 ∧ vi W x 36 ≥ 0) ∧ (RJ W x fr S0 s z) ∧ (GF V W x) ∧ True) (fun  W => ((vi W x 32 - vi W x 31)).toNat)  ⟨by omega, (by first | assumption | exact RJ.pushO (by assumption) (Or.inr (Or.inr rfl)) (fun _ => by omega) (((rfl : sd V x = sd V x)).trans (raw_opens (by omega)).1) (((rfl : wt V x = wt V x)).trans (raw_opens (by omega)).2) (by omega) (by omega) (by omega)), (by first | exact GF.rf | exact GF.push (by assumption) (by omega) (((rfl : wt V x = wt V x)).trans (raw_opens (by omega)).2) (by omega)), trivial⟩ (fun W126 hp128 ih127 => ?_)
  obtain ⟨n_W126, w0_W126, w1_W126, -⟩ := hp128
  show GO mX12_readsFactor K V (IS K (fun X V1 => (X = 0 ∨ X = 1) ∧ (X ≠ 0 → vi V1 x 31 ≥ (vi V x 31 + 1) ∧ vi V1 x 37 ≥ vi V x 37) ∧ (X = 0 → True) ∧ (X ≠ 0 → RJ V1 x fr S0 s (z + 1)) ∧ (X ≠ 0 → GF V V1 x))) K W126 0 0 0 [some (.ref x), none] []
  refine GO.useWT (fun hW129 => ?_)
  have aq130 := hW129.aq h_x
  have hrd := (hW129).rd h_x
  have hle := RJ.le (V := W126) (x := x) (fr := fr) (S0 := S0) (s := s) (z := z) (by assumption)
  refine GO.aload_n dX12_readsFactor_0 rfl rfl ?_
  refine GO.callV (ci := 11) (N := mX12_sign) dX12_readsFactor_1 (RX12, TX12, 151) rfl gV_RX12_449 h_x (t_X12_sign h_x) rfl [] rfl rfl (Nat.le_of_ble_eq_true rfl) rfl (k_ip fun X131 r132 h133 => ?_)
  refine GO.bipush dX12_readsFactor_4 rfl ?_
  refine GO.icmp_ne (tgt := 20) dX12_readsFactor_6 (by decide) r132 (ir_c rfl) (fun c134 => ?_) (fun c134 => ?_)
  ·
    refine GO.aload_n dX12_readsFactor_20 rfl rfl ?_
    refine GO.callV (ci := 11) (N := mX12_isDigit) dX12_readsFactor_21 (RX12, TX12, 151) rfl gV_RX12_462 h_x (t_X12_isDigit h_x) rfl [] rfl rfl (Nat.le_of_ble_eq_true rfl) rfl (k_ip fun X135 r136 h137 => ?_)
    have raw_isDigit := h137.2.2.2
    refine GO.if_eq (tgt := 50) dX12_readsFactor_24 (by decide) r136 (fun c138 => ?_) (fun c138 => ?_)
    ·
      refine GO.aload_n dX12_readsFactor_50 rfl rfl ?_
      refine GO.callV (ci := 11) (N := mX12_sign) dX12_readsFactor_51 (RX12, TX12, 151) rfl gV_RX12_449 h_x (t_X12_sign h_x) rfl [] rfl rfl (Nat.le_of_ble_eq_true rfl) rfl (k_ip fun X139 r140 h141 => ?_)
      refine GO.iconst dX12_readsFactor_54 ?_
      refine GO.icmp_ne (tgt := 62) dX12_readsFactor_55 (by decide) r140 (ir_c rfl) (fun c142 => ?_) (fun c142 => ?_)
      ·
        refine GO.aload_n dX12_readsFactor_62 rfl rfl ?_
        refine GO.callV (ci := 11) (N := mX12_sign) dX12_readsFactor_63 (RX12, TX12, 151) rfl gV_RX12_449 h_x (t_X12_sign h_x) rfl [] rfl rfl (Nat.le_of_ble_eq_true rfl) rfl (k_ip fun X143 r144 h145 => ?_)
        refine GO.callS (N := mX12_letterNumber) dX12_readsFactor_66 gS_RX12_489 (t_X12_letterNumber r144) rfl [] rfl rfl (Nat.le_of_ble_eq_true rfl) rfl (k_ip fun X146 r147 h148 => ?_)
        refine GO.istore_n (ls1 := [some (.ref x), some (ti X146)]) dX12_readsFactor_69 rfl rfl rfl ?_
        refine GO.iload_n dX12_readsFactor_70 rfl rfl ?_
        refine GO.iconst dX12_readsFactor_71 ?_
        refine GO.icmp_ne (tgt := 85) dX12_readsFactor_72 (by decide) r147 (ir_c rfl) (fun c149 => ?_) (fun c149 => ?_)
        ·
          refine GO.aload_n dX12_readsFactor_85 rfl rfl ?_
          refine GO.iconst dX12_readsFactor_86 ?_
          refine GO.iload_n dX12_readsFactor_87 rfl rfl ?_
          refine GO.callV (ci := 11) (N := mX12_says) dX12_readsFactor_88 (RX12, TX12, 151) rfl gV_RX12_479 h_x (t_X12_says h_x (ir_c rfl) r147 (by omega) (by omega) (by omega) (by omega) ⟨by omega, by omega⟩) rfl [] rfl rfl (Nat.le_of_ble_eq_true rfl) rfl (k_vs fun V152 h151 hF150 => ?_)
          refine GO.useWT (fun hW153 => ?_)
          have aq154 := hW153.aq h_x
          have raw_says := h151.2
          refine GO.aload_n dX12_readsFactor_91 rfl rfl ?_
          refine GO.aload_n dX12_readsFactor_92 rfl rfl ?_
          refine GO.getI h_x fl_RX12_443 rfl rfl dX12_readsFactor_93 (fun l156 u157 => ?_)
          have e158 : vi V152 x 31 = vi W126 x 31 := vi_fr hF150 h_x h_x (by decide +kernel)
          refine GO.iconst dX12_readsFactor_96 ?_
          refine GO.iadd dX12_readsFactor_97 ?_
          have q160 : -2147483648 ≤ vi W126 x 31 ∧ vi W126 x 31 ≤ 2147483647 := vi_ir
          have q161 : -2147483648 ≤ vi W126 x 32 ∧ vi W126 x 32 ≤ 2147483647 := vi_ir
          have q162 : -2147483648 ≤ vi W126 x 37 ∧ vi W126 x 37 ≤ 2147483647 := vi_ir
          have q163 : -2147483648 ≤ vi W126 x 36 ∧ vi W126 x 36 ≤ 2147483647 := vi_ir
          have q164 : -2147483648 ≤ vi V152 x 36 ∧ vi V152 x 36 ≤ 2147483647 := vi_ir
          refine GO.putI h_x fp_RX12_443 rfl (by decide +kernel) ⟨by omega, by omega⟩ (by omega) (by omega) dX12_readsFactor_98 (fun V165 e159 => ?_)
          have k166 := st_fld e159 aq154 h_x (by decide) (by decide)
          have sS167 : sd V165 x = sd V152 x := k166.2.1.trans (rfl : sd V152 x = sd V152 x)
          have sQ168 : wt V165 x = wt V152 x := k166.2.2.trans (rfl : wt V152 x = wt V152 x)
          have e169 : vi V165 x 31 = (vi V152 x 31) + 1 := upd2_int e159 ⟨by omega, by omega⟩
          have e170 : vi V165 x 36 = vi V152 x 36 := vi_up e159 (Or.inr (by decide))
          have e172 : vi V152 x 37 = vi W126 x 37 := vi_fr hF150 h_x h_x (by decide +kernel)
          have e171 : vi V165 x 37 = vi V152 x 37 := vi_up e159 (Or.inr (by decide))
          refine GO.iconst dX12_readsFactor_101 ?_
          exact GO.retz rfl rfl dX12_readsFactor_102 (by omega) ⟨rfl, _, rfl, (ir_c rfl), ⟨by omega, fun h => by omega, fun _ => trivial, (by first | exact fun h => absurd h (by omega) | exact fun _ => RJ.num (by assumption) (upd_eq (sS167) raw_says.1 ((rfl : sd W126 x = sd W126 x)) (by omega)) ((sQ168).trans (raw_says.2.trans ((rfl : wt W126 x = wt W126 x)))) (by omega) (by omega) (by omega) (by omega) (by omega) (by omega)), (by first | exact fun h => absurd h (by omega) | exact fun _ => GF.same (by assumption) ((sQ168).trans (raw_says.2.trans ((rfl : wt W126 x = wt W126 x)))) (by omega))⟩⟩
        ·
          refine GO.aload_n dX12_readsFactor_75 rfl rfl ?_
          refine GO.iconst dX12_readsFactor_76 ?_
          refine GO.aload_n dX12_readsFactor_77 rfl rfl ?_
          refine GO.getI h_x fl_RX12_443 rfl rfl dX12_readsFactor_78 (fun l173 u174 => ?_)
          refine GO.callV (ci := 11) (N := mX12_wrong) dX12_readsFactor_81 (RX12, TX12, 151) rfl gV_RX12_456 h_x (t_X12_wrong h_x (ir_c rfl) vi_ir) rfl [] rfl rfl (Nat.le_of_ble_eq_true rfl) rfl (k_is fun X175 V179 r176 h177 hF178 => ?_)
          have k180 := st_fr hF178 aq130 h_x (by decide +kernel) (by decide +kernel) (by decide +kernel) (by decide +kernel)
          have sS181 : sd V179 x = sd W126 x := k180.2.1.trans (rfl : sd W126 x = sd W126 x)
          have sQ182 : wt V179 x = wt W126 x := k180.2.2.trans (rfl : wt W126 x = wt W126 x)
          have e183 : vi V179 x 31 = vi W126 x 31 := vi_fr hF178 h_x h_x (by decide +kernel)
          have q184 : -2147483648 ≤ vi W126 x 31 ∧ vi W126 x 31 ≤ 2147483647 := vi_ir
          have q185 : -2147483648 ≤ vi W126 x 32 ∧ vi W126 x 32 ≤ 2147483647 := vi_ir
          have q186 : -2147483648 ≤ vi W126 x 37 ∧ vi W126 x 37 ≤ 2147483647 := vi_ir
          have q187 : -2147483648 ≤ vi W126 x 36 ∧ vi W126 x 36 ≤ 2147483647 := vi_ir
          have e188 : vi V179 x 37 = vi W126 x 37 := vi_fr hF178 h_x h_x (by decide +kernel)
          exact GO.retz rfl rfl dX12_readsFactor_84 (by omega) ⟨rfl, _, rfl, r176, ⟨by omega, fun h => by omega, fun _ => trivial, (by first | exact fun h => absurd h (by omega) | exact fun _ => RJ.num (by assumption) (upd_eq (sS181) raw_says.1 (@TS) (by omega)) ((sQ182).trans (raw_says.2.trans (@TQ))) (by omega) (by omega) (by omega) (by omega) (by omega) (by omega)), (by first | exact fun h => absurd h (by omega) | exact fun _ => GF.same (by assumption) ((sQ182).trans (raw_says.2.trans (@TQ))) (by omega))⟩⟩
      ·
        refine GO.iconst dX12_readsFactor_58 ?_
        refine GO.goto (tgt := 69) dX12_readsFactor_59 (by decide) ?_
        refine GO.istore_n (ls1 := [some (.ref x), some (ti (-1))]) dX12_readsFactor_69 rfl rfl rfl ?_
        refine GO.iload_n dX12_readsFactor_70 rfl rfl ?_
        refine GO.iconst dX12_readsFactor_71 ?_
        refine GO.icmp_ne (tgt := 85) dX12_readsFactor_72 (by decide) (ir_c rfl) (ir_c rfl) (fun h => by exfalso; omega) (fun c189 => ?_)
        refine GO.aload_n dX12_readsFactor_75 rfl rfl ?_
        refine GO.iconst dX12_readsFactor_76 ?_
        refine GO.aload_n dX12_readsFactor_77 rfl rfl ?_
        refine GO.getI h_x fl_RX12_443 rfl rfl dX12_readsFactor_78 (fun l190 u191 => ?_)
        refine GO.callV (ci := 11) (N := mX12_wrong) dX12_readsFactor_81 (RX12, TX12, 151) rfl gV_RX12_456 h_x (t_X12_wrong h_x (ir_c rfl) vi_ir) rfl [] rfl rfl (Nat.le_of_ble_eq_true rfl) rfl (k_is fun X192 V196 r193 h194 hF195 => ?_)
        have k197 := st_fr hF195 aq130 h_x (by decide +kernel) (by decide +kernel) (by decide +kernel) (by decide +kernel)
        have sS198 : sd V196 x = sd W126 x := k197.2.1.trans (rfl : sd W126 x = sd W126 x)
        have sQ199 : wt V196 x = wt W126 x := k197.2.2.trans (rfl : wt W126 x = wt W126 x)
        have e200 : vi V196 x 31 = vi W126 x 31 := vi_fr hF195 h_x h_x (by decide +kernel)
        have q201 : -2147483648 ≤ vi W126 x 31 ∧ vi W126 x 31 ≤ 2147483647 := vi_ir
        have q202 : -2147483648 ≤ vi W126 x 37 ∧ vi W126 x 37 ≤ 2147483647 := vi_ir
        have q203 : -2147483648 ≤ vi W126 x 36 ∧ vi W126 x 36 ≤ 2147483647 := vi_ir
        have e204 : vi V196 x 37 = vi W126 x 37 := vi_fr hF195 h_x h_x (by decide +kernel)
        exact GO.retz rfl rfl dX12_readsFactor_84 (by omega) ⟨rfl, _, rfl, r193, ⟨by omega, fun h => by omega, fun _ => trivial, (by first | exact fun h => absurd h (by omega) | exact fun _ => RJ.num (by assumption) (upd_eq (sS198) raw_says.1 (@TS) (by omega)) ((sQ199).trans (raw_says.2.trans (@TQ))) (by omega) (by omega) (by omega) (by omega) (by omega) (by omega)), (by first | exact fun h => absurd h (by omega) | exact fun _ => GF.same (by assumption) ((sQ199).trans (raw_says.2.trans (@TQ))) (by omega))⟩⟩
    ·
      have q205 := h137.2.1 (by omega)
      refine GO.aload_n dX12_readsFactor_27 rfl rfl ?_
      refine GO.ldcw (X := 999999) dX12_readsFactor_28 gw_2095 rfl ?_
      refine GO.callV (ci := 11) (N := mX12_readsNumber) dX12_readsFactor_31 (RX12, TX12, 151) rfl gV_RX12_486 h_x (t_X12_readsNumber h_x (ir_c rfl)) rfl [] rfl rfl (Nat.le_of_ble_eq_true rfl) rfl (k_is fun X206 V210 r207 h208 hF209 => ?_)
      have k211 := st_fr hF209 aq130 h_x (by decide +kernel) (by decide +kernel) (by decide +kernel) (by decide +kernel)
      have sS212 : sd V210 x = sd W126 x := k211.2.1.trans (rfl : sd W126 x = sd W126 x)
      have sQ213 : wt V210 x = wt W126 x := k211.2.2.trans (rfl : wt W126 x = wt W126 x)
      refine GO.if_ne (tgt := 39) dX12_readsFactor_34 (by decide) r207 (fun c216 => ?_) (fun c216 => ?_)
      ·
        have q217 := h208.2.1 (by omega)
        refine GO.aload_n dX12_readsFactor_39 rfl rfl ?_
        refine GO.iconst dX12_readsFactor_40 ?_
        refine GO.aload_n dX12_readsFactor_41 rfl rfl ?_
        refine GO.getI h_x fl_RX12_459 rfl rfl dX12_readsFactor_42 (fun _ _ => ?_)
        have q218 : -2147483648 ≤ vi V210 x 34 ∧ vi V210 x 34 ≤ 2147483647 := vi_ir
        have e219 : vi V210 x 36 = vi W126 x 36 := vi_fr hF209 h_x h_x (by decide +kernel)
        refine GO.callV (ci := 11) (N := mX12_says) dX12_readsFactor_45 (RX12, TX12, 151) rfl gV_RX12_479 h_x (t_X12_says h_x (ir_c rfl) vi_ir (by omega) (by omega) (by omega) (by omega) ⟨by omega, by omega⟩) rfl [] rfl rfl (Nat.le_of_ble_eq_true rfl) rfl (k_vs fun V222 h221 hF220 => ?_)
        refine GO.useWT (fun hW223 => ?_)
        have aq224 := hW223.aq h_x
        have raw_says := h221.2
        have e226 : vi V222 x 31 = vi V210 x 31 := vi_fr hF220 h_x h_x (by decide +kernel)
        have e228 : vi V210 x 37 = vi W126 x 37 := vi_fr hF209 h_x h_x (by decide +kernel)
        have e227 : vi V222 x 37 = vi V210 x 37 := vi_fr hF220 h_x h_x (by decide +kernel)
        have hrd := (hW223).rd h_x
        refine GO.iconst dX12_readsFactor_48 ?_
        have q229 : -2147483648 ≤ vi V210 x 31 ∧ vi V210 x 31 ≤ 2147483647 := vi_ir
        have q230 : -2147483648 ≤ vi W126 x 31 ∧ vi W126 x 31 ≤ 2147483647 := vi_ir
        have q231 : -2147483648 ≤ vi W126 x 32 ∧ vi W126 x 32 ≤ 2147483647 := vi_ir
        have q232 : -2147483648 ≤ vi W126 x 37 ∧ vi W126 x 37 ≤ 2147483647 := vi_ir
        have q233 : -2147483648 ≤ vi W126 x 36 ∧ vi W126 x 36 ≤ 2147483647 := vi_ir
        have q234 : -2147483648 ≤ vi V222 x 36 ∧ vi V222 x 36 ≤ 2147483647 := vi_ir
        exact GO.retz rfl rfl dX12_readsFactor_49 (by omega) ⟨rfl, _, rfl, (ir_c rfl), ⟨by omega, fun h => by omega, fun _ => trivial, (by first | exact fun h => absurd h (by omega) | exact fun _ => RJ.num (by assumption) (upd_eq ((rfl : sd V222 x = sd V222 x)) raw_says.1 (sS212) (by omega)) (((rfl : wt V222 x = wt V222 x)).trans (raw_says.2.trans (sQ213))) (by omega) (by omega) (by omega) (by omega) (by omega) (by omega)), (by first | exact fun h => absurd h (by omega) | exact fun _ => GF.same (by assumption) (((rfl : wt V222 x = wt V222 x)).trans (raw_says.2.trans (sQ213))) (by omega))⟩⟩
      ·
        refine GO.iconst dX12_readsFactor_37 ?_
        have q235 : -2147483648 ≤ vi V210 x 31 ∧ vi V210 x 31 ≤ 2147483647 := vi_ir
        have q236 : -2147483648 ≤ vi W126 x 31 ∧ vi W126 x 31 ≤ 2147483647 := vi_ir
        have q237 : -2147483648 ≤ vi W126 x 32 ∧ vi W126 x 32 ≤ 2147483647 := vi_ir
        have q238 : -2147483648 ≤ vi W126 x 37 ∧ vi W126 x 37 ≤ 2147483647 := vi_ir
        have q239 : -2147483648 ≤ vi W126 x 36 ∧ vi W126 x 36 ≤ 2147483647 := vi_ir
        have e240 : vi V210 x 37 = vi W126 x 37 := vi_fr hF209 h_x h_x (by decide +kernel)
        exact GO.retz rfl rfl dX12_readsFactor_38 (by omega) ⟨rfl, _, rfl, (ir_c rfl), ⟨by omega, fun h => by omega, fun _ => trivial, (by first | exact fun h => absurd h (by omega) | exact fun _ => RJ.num (by assumption) (upd_eq (sS212) raw_says.1 (@TS) (by omega)) ((sQ213).trans (raw_says.2.trans (@TQ))) (by omega) (by omega) (by omega) (by omega) (by omega) (by omega)), (by first | exact fun h => absurd h (by omega) | exact fun _ => GF.same (by assumption) ((sQ213).trans (raw_says.2.trans (@TQ))) (by omega))⟩⟩
  ·
    refine GO.aload_n dX12_readsFactor_9 rfl rfl ?_
    refine GO.bipush dX12_readsFactor_10 rfl ?_
    have q241 : -2147483648 ≤ vi W126 x 32 ∧ vi W126 x 32 ≤ 2147483647 := vi_ir
    have q242 : -2147483648 ≤ vi W126 x 31 ∧ vi W126 x 31 ≤ 2147483647 := vi_ir
    have q243 : -2147483648 ≤ vi W126 x 37 ∧ vi W126 x 37 ≤ 2147483647 := vi_ir
    have q244 : -2147483648 ≤ vi W126 x 36 ∧ vi W126 x 36 ≤ 2147483647 := vi_ir
    refine GO.callV (ci := 11) (N := mX12_opens) dX12_readsFactor_12 (RX12, TX12, 151) rfl gV_RX12_482 h_x (t_X12_opens h_x (ir_c rfl) (by omega) (by omega) (by omega) ⟨by omega, by omega⟩) rfl [] rfl rfl (Nat.le_of_ble_eq_true rfl) rfl (k_is fun X245 V249 r246 h247 hF248 => ?_)
    refine GO.useWT (fun hW250 => ?_)
    have aq251 := hW250.aq h_x
    have raw_opens := h247.2.2.2
    refine GO.if_ne (tgt := 0) dX12_readsFactor_15 (by decide) r246 (fun c254 => ?_) (fun c254 => ?_)
    ·
      have q255 := h247.2.1 (by omega)
      have q256 : -2147483648 ≤ vi V249 x 31 ∧ vi V249 x 31 ≤ 2147483647 := vi_ir
      have q257 : -2147483648 ≤ vi V249 x 37 ∧ vi V249 x 37 ≤ 2147483647 := vi_ir
      have e258 : vi V249 x 36 = vi W126 x 36 := vi_fr hF248 h_x h_x (by decide +kernel)
      have e259 : vi V249 x 32 = vi W126 x 32 := vi_fr hF248 h_x h_x (by decide +kernel)
      exact ih127  V249 ⟨by omega, (by first | assumption | exact RJ.pushO (by assumption) (Or.inr (Or.inr rfl)) (fun _ => by omega) (((rfl : sd V249 x = sd V249 x)).trans (raw_opens (by omega)).1) (((rfl : wt V249 x = wt V249 x)).trans (raw_opens (by omega)).2) (by omega) (by omega) (by omega)), (by first | exact GF.rf | exact GF.push (by assumption) (by omega) (((rfl : wt V249 x = wt V249 x)).trans (raw_opens (by omega)).2) (by omega)), trivial⟩ (by show ((vi V249 x 32 - vi V249 x 31)).toNat < ((vi W126 x 32 - vi W126 x 31)).toNat; omega)
    ·
      refine GO.iconst dX12_readsFactor_18 ?_
      have q260 : -2147483648 ≤ vi V249 x 31 ∧ vi V249 x 31 ≤ 2147483647 := vi_ir
      have q261 : -2147483648 ≤ vi V249 x 37 ∧ vi V249 x 37 ≤ 2147483647 := vi_ir
      exact GO.retz rfl rfl dX12_readsFactor_19 (by omega) ⟨rfl, _, rfl, (ir_c rfl), ⟨by omega, fun h => by omega, fun _ => trivial, (by first | exact fun h => absurd h (by omega) | exact fun _ => RJ.num (by assumption) (upd_eq ((rfl : sd V249 x = sd V249 x)) raw_says.1 ((rfl : sd W126 x = sd W126 x)) (by omega)) (((rfl : wt V249 x = wt V249 x)).trans (raw_says.2.trans ((rfl : wt W126 x = wt W126 x)))) (by omega) (by omega) (by omega) (by omega) (by omega) (by omega)), (by first | exact fun h => absurd h (by omega) | exact fun _ => GF.same (by assumption) (((rfl : wt V249 x = wt V249 x)).trans (raw_says.2.trans ((rfl : wt W126 x = wt W126 x)))) (by omega))⟩⟩

set_option maxHeartbeats 1000000 in
theorem t_X12_hasOpenSum {K : Kmap} {V : Vmap} {x : Nat} {p0 : Int} (h_x : K x = some (0, 11)) (r_p0 : ir p0) (q_0 : p0 ≥ 0) : MC mX12_hasOpenSum K V [.ref x, ti p0] (IP K V (fun X => (X = 0 ∨ X = 1) ∧ (X ≠ 0 → True) ∧ (X = 0 → True) ∧ (HO V x p0 X))) := by
  refine MC.start 1 (by decide +kernel) rfl rfl rfl (ls0 := [some (.ref x), some (ti p0), none]) rfl ?_
  refine GO.useWT (fun hW1 => ?_)
  have aq2 := hW1.aq h_x
  refine GO.iload_n dX12_hasOpenSum_0 rfl rfl ?_
  refine GO.istore_n (ls1 := [some (.ref x), some (ti p0), some (ti p0)]) dX12_hasOpenSum_1 rfl rfl rfl ?_
  have q4 : -2147483648 ≤ p0 ∧ p0 ≤ 2147483647 := r_p0
  refine GO.loop1 (fun i3 W => 0 ≤ i3 ∧ i3 ≤ 2147483647 ∧ (i3 ≥ 0) ∧ (HOI W x p0 i3) ∧ V = W) (fun i3 => [some (.ref x), some (ti p0), some (ti i3)]) (fun i3 W => (2147483647 - i3).toNat) p0 ⟨by omega, by omega, by omega, (by first | exact HOI.rf | exact HOI.step (by assumption) (by omega) rfl (by omega) | (subst_vars; exact HOI.rf)), rfl⟩ rfl (fun i3 V13 hp15 ih14 => ?_)
  obtain ⟨l_i3, u_i3, n_i3, w0_i3, rfl⟩ := hp15
  have r_i3 : ir i3 := ⟨by omega, by omega⟩
  show GO mX12_hasOpenSum K V (IP K V (fun X => (X = 0 ∨ X = 1) ∧ (X ≠ 0 → True) ∧ (X = 0 → True) ∧ (HO V x p0 X))) K V 0 0 2 [some (.ref x), some (ti p0), some (ti i3)] []
  refine GO.iload_n dX12_hasOpenSum_2 rfl rfl ?_
  refine GO.aload_n dX12_hasOpenSum_3 rfl rfl ?_
  refine GO.getI h_x fl_RX12_473 rfl rfl dX12_hasOpenSum_4 (fun l16 u17 => ?_)
  refine GO.icmp_ge (tgt := 33) dX12_hasOpenSum_7 (by decide) r_i3 vi_ir (fun c18 => ?_) (fun c18 => ?_)
  ·
    refine GO.iconst dX12_hasOpenSum_33 ?_
    exact GO.retz rfl rfl dX12_hasOpenSum_34 (by omega) ⟨rfl, rfl, _, rfl, (ir_c rfl), ⟨by omega, fun _ => trivial, fun _ => trivial, (by first | exact HO.yes (by assumption) (by omega) (by omega) rfl (by omega) rfl | exact HO.no (by assumption) (by omega) rfl)⟩⟩
  ·
    refine GO.aload_n dX12_hasOpenSum_10 rfl rfl ?_
    refine GO.getA (n := 220) h_x fl_RX12_91 rfl rfl rfl rfl dX12_hasOpenSum_11 (fun hv20 h19 => ?_)
    refine GO.iload_n dX12_hasOpenSum_14 rfl rfl ?_
    refine GO.iald (t := 33) rfl rfl h19 r_i3 (by omega) (by omega) dX12_hasOpenSum_15 (fun l21 u22 => ?_)
    refine GO.ldcw (X := 1048576) dX12_hasOpenSum_16 gw_2078 rfl ?_
    refine GO.idivP dX12_hasOpenSum_19 vi_ir (ir_c rfl) (by omega) (by omega) ?_
    refine GO.bipush dX12_hasOpenSum_20 rfl ?_
    refine GO.icmp_ne (tgt := 27) dX12_hasOpenSum_22 (by decide) ⟨by omega, by omega⟩ (ir_c rfl) (fun c23 => ?_) (fun c23 => ?_)
    ·
      refine GO.iinc (X := i3) (n := 1) (Y := i3 + 1) (ls1 := [some (.ref x), some (ti p0), some (ti (i3 + 1))]) dX12_hasOpenSum_27 rfl rfl rfl rfl ?_
      refine GO.goto (tgt := 2) dX12_hasOpenSum_30 (by decide) ?_
      exact ih14 (i3 + 1) V ⟨by omega, by omega, by omega, (by first | exact HOI.rf | exact HOI.step (by assumption) (by omega) rfl (by omega) | (subst_vars; exact HOI.rf)), rfl⟩ (by show (2147483647 - (i3 + 1)).toNat < (2147483647 - i3).toNat; omega)
    ·
      refine GO.iconst dX12_hasOpenSum_25 ?_
      exact GO.retz rfl rfl dX12_hasOpenSum_26 (by omega) ⟨rfl, rfl, _, rfl, (ir_c rfl), ⟨by omega, fun _ => trivial, fun _ => trivial, (by first | exact HO.yes (by assumption) (by omega) (by omega) rfl (by omega) rfl | exact HO.no (by assumption) (by omega) rfl)⟩⟩

set_option maxHeartbeats 1000000 in
theorem t_X12_readsSum {K : Kmap} {V : Vmap} {x : Nat} {fr : Nat} {S0 : Nat → Int} {s z : Int} (h_x : K x = some (0, 11)) (q_0 : vi V x 37 ≥ 1) (w_0 : RJ V x fr S0 s z) (w_1 : 0 ≤ z) (w_2 : NS V x) : MC mX12_readsSum K V [.ref x] (IS K (fun X V1 => (X = 0 ∨ X = 1) ∧ (X ≠ 0 → vi V1 x 31 ≥ (vi V x 31 + 1) ∧ vi V1 x 37 = vi V x 37) ∧ (X = 0 → True) ∧ (X ≠ 0 → RJ V1 x fr S0 s (z + 1)) ∧ (X ≠ 0 → SQ V V1 x))) := by
  refine MC.start 2 (by decide +kernel) rfl rfl rfl (ls0 := [some (.ref x), none, none]) rfl ?_
  refine GO.useWT (fun hW1 => ?_)
  have aq2 := hW1.aq h_x
  have hrd := (hW1).rd h_x
  have hle := RJ.le (V := V) (x := x) (fr := fr) (S0 := S0) (s := s) (z := z) (by assumption)
  refine GO.aload_n dX12_readsSum_0 rfl rfl ?_
  refine GO.getI h_x fl_RX12_473 rfl rfl dX12_readsSum_1 (fun l3 u4 => ?_)
  refine GO.name (fun z5 hz6 => ?_)
  have r7 : ir z5 := hz6 ▸ vi_ir
  refine GO.istore_n (ls1 := [some (.ref x), some (ti z5), none]) dX12_readsSum_4 rfl rfl rfl ?_
  refine GO.aload_n dX12_readsSum_5 rfl rfl ?_
  have q8 : -2147483648 ≤ vi V x 37 ∧ vi V x 37 ≤ 2147483647 := vi_ir
  have q9 : -2147483648 ≤ z5 ∧ z5 ≤ 2147483647 := r7
  have q10 : -2147483648 ≤ vi V x 31 ∧ vi V x 31 ≤ 2147483647 := vi_ir
  have q11 : -2147483648 ≤ vi V x 36 ∧ vi V x 36 ≤ 2147483647 := vi_ir
  refine GO.callV (ci := 11) (N := mX12_readsFactor) dX12_readsSum_6 (RX12, TX12, 151) rfl gV_RX12_492 h_x (t_X12_readsFactor h_x (by omega) ((by first | assumption | exact RJ.pushS raw_closesSums.1 (by omega) (by omega) ((rfl : sd V x = sd V x)) ((rfl : wt V x = wt V x)) (by omega) (by omega) (by omega)))) rfl [] rfl rfl (Nat.le_of_ble_eq_true rfl) rfl (k_is fun X12 V16 r13 h14 hF15 => ?_)
  refine GO.useWT (fun hW17 => ?_)
  have aq18 := hW17.aq h_x
  have raw_readsFactor := h14.2.2.2
  refine GO.if_ne (tgt := 14) dX12_readsSum_9 (by decide) r13 (fun c21 => ?_) (fun c21 => ?_)
  ·
    have q22 := h14.2.1 (by omega)
    have q23 : -2147483648 ≤ vi V16 x 31 ∧ vi V16 x 31 ≤ 2147483647 := vi_ir
    have q24 : -2147483648 ≤ vi V16 x 37 ∧ vi V16 x 37 ≤ 2147483647 := vi_ir
    refine GO.loop0 (fun  W => (vi W x 31 ≥ (vi V x 31 + 1) ∧ vi W x 37 ≥ z5) ∧ (RJ W x fr S0 s (z + 1)) ∧ (GM V W x) ∧ True) (fun  W => ((vi W x 32 - vi W x 31)).toNat)  ⟨by omega, (by first | exact raw_readsFactor.1 (by omega) | exact RJ.zz (raw_readsFactor.1 (by omega)) (by omega) | exact RJ.pop raw_closesSums.1 (by omega) (by omega) ((rfl : sd V16 x = sd V16 x)) ((rfl : wt V16 x = wt V16 x)) (by omega) (by omega) (by omega)), (by first | exact GM.of (raw_readsFactor.2 (by omega)) | exact GM.fac (GM.push hgm (by omega) (by omega) ((rfl : wt V x = wt V x)) (by omega)) (raw_readsFactor.2 (by omega)) | exact GM.pop hgo.1 ((rfl : wt V16 x = wt V16 x)) (by omega) hgo1), trivial⟩ (fun W289 hp291 ih290 => ?_)
    obtain ⟨n_W289, w0_W289, w1_W289, -⟩ := hp291
    show GO mX12_readsSum K V (IS K (fun X V1 => (X = 0 ∨ X = 1) ∧ (X ≠ 0 → vi V1 x 31 ≥ (vi V x 31 + 1) ∧ vi V1 x 37 = vi V x 37) ∧ (X = 0 → True) ∧ (X ≠ 0 → RJ V1 x fr S0 s (z + 1)) ∧ (X ≠ 0 → SQ V V1 x))) K W289 0 0 14 [some (.ref x), some (ti z5), none] []
    refine GO.useWT (fun hW292 => ?_)
    have aq293 := hW292.aq h_x
    have hrd := (hW292).rd h_x
    have hle := RJ.le (V := W289) (x := x) (fr := fr) (S0 := S0) (s := s) (z := z + 1) (by assumption)
    refine GO.aload_n dX12_readsSum_14 rfl rfl ?_
    refine GO.callV (ci := 11) (N := mX12_sign) dX12_readsSum_15 (RX12, TX12, 151) rfl gV_RX12_449 h_x (t_X12_sign h_x) rfl [] rfl rfl (Nat.le_of_ble_eq_true rfl) rfl (k_ip fun X294 r295 h296 => ?_)
    refine GO.iconst dX12_readsSum_18 ?_
    refine GO.icmp_ne (tgt := 26) dX12_readsSum_19 (by decide) r295 (ir_c rfl) (fun c297 => ?_) (fun c297 => ?_)
    ·
      refine GO.aload_n dX12_readsSum_26 rfl rfl ?_
      refine GO.callV (ci := 11) (N := mX12_sign) dX12_readsSum_27 (RX12, TX12, 151) rfl gV_RX12_449 h_x (t_X12_sign h_x) rfl [] rfl rfl (Nat.le_of_ble_eq_true rfl) rfl (k_ip fun X298 r299 h300 => ?_)
      refine GO.callS (N := mX12_sumSign) dX12_readsSum_30 gS_RX12_495 (t_X12_sumSign r299) rfl [] rfl rfl (Nat.le_of_ble_eq_true rfl) rfl (k_ip fun X301 r302 h303 => ?_)
      refine GO.istore_n (ls1 := [some (.ref x), some (ti z5), some (ti X301)]) dX12_readsSum_33 rfl rfl rfl ?_
      refine GO.iload_n dX12_readsSum_34 rfl rfl ?_
      refine GO.iconst dX12_readsSum_35 ?_
      refine GO.icmp_eq (tgt := 96) dX12_readsSum_36 (by decide) r302 (ir_c rfl) (fun c304 => ?_) (fun c304 => ?_)
      ·
        refine GO.aload_n dX12_readsSum_96 rfl rfl ?_
        refine GO.callV (ci := 11) (N := mX12_sign) dX12_readsSum_97 (RX12, TX12, 151) rfl gV_RX12_449 h_x (t_X12_sign h_x) rfl [] rfl rfl (Nat.le_of_ble_eq_true rfl) rfl (k_ip fun X305 r306 h307 => ?_)
        refine GO.bipush dX12_readsSum_100 rfl ?_
        refine GO.icmp_ne (tgt := 151) dX12_readsSum_102 (by decide) r306 (ir_c rfl) (fun c308 => ?_) (fun c308 => ?_)
        ·
          refine GO.aload_n dX12_readsSum_151 rfl rfl ?_
          refine GO.iload_n dX12_readsSum_152 rfl rfl ?_
          have q309 : -2147483648 ≤ vi W289 x 37 ∧ vi W289 x 37 ≤ 2147483647 := vi_ir
          have q310 : -2147483648 ≤ vi W289 x 31 ∧ vi W289 x 31 ≤ 2147483647 := vi_ir
          have q311 : -2147483648 ≤ vi W289 x 32 ∧ vi W289 x 32 ≤ 2147483647 := vi_ir
          have q312 : -2147483648 ≤ vi W289 x 36 ∧ vi W289 x 36 ≤ 2147483647 := vi_ir
          refine GO.callV (ci := 11) (N := mX12_hasOpenSum) dX12_readsSum_153 (RX12, TX12, 151) rfl gV_RX12_502 h_x (t_X12_hasOpenSum h_x r7 (by omega)) rfl [] rfl rfl (Nat.le_of_ble_eq_true rfl) rfl (k_ip fun X313 r314 h315 => ?_)
          have raw_hasOpenSum := h315.2.2.2
          refine GO.if_eq (tgt := 169) dX12_readsSum_156 (by decide) r314 (fun c316 => ?_) (fun c316 => ?_)
          ·
            refine GO.aload_n dX12_readsSum_169 rfl rfl ?_
            refine GO.iconst dX12_readsSum_170 ?_
            refine GO.callV (ci := 11) (N := mX12_closesSums) dX12_readsSum_171 (RX12, TX12, 151) rfl gV_RX12_498 h_x (t_X12_closesSums h_x (ir_c rfl) (by omega) (by assumption) (by omega)) rfl [] rfl rfl (Nat.le_of_ble_eq_true rfl) rfl (k_vs fun V319 h318 hF317 => ?_)
            refine GO.useWT (fun hW320 => ?_)
            have aq321 := hW320.aq h_x
            have raw_closesSums := h318.2
            have e322 : vi V319 x 31 = vi W289 x 31 := vi_fr hF317 h_x h_x (by decide +kernel)
            have hsq := GM.fin (by assumption) (by assumption) raw_closesSums.2 (by omega) (by omega) raw_hasOpenSum (by omega)
            have hsq1 := hsq.1
            refine GO.iconst dX12_readsSum_174 ?_
            have q325 : -2147483648 ≤ vi V319 x 37 ∧ vi V319 x 37 ≤ 2147483647 := vi_ir
            have q326 : -2147483648 ≤ vi V319 x 36 ∧ vi V319 x 36 ≤ 2147483647 := vi_ir
            exact GO.retz rfl rfl dX12_readsSum_175 (by omega) ⟨rfl, _, rfl, (ir_c rfl), ⟨by omega, fun h => by omega, fun _ => trivial, (by first | exact fun h => absurd h (by omega) | exact fun _ => raw_closesSums.1), (by first | exact fun h => absurd h (by omega) | exact fun _ => hsq)⟩⟩
          ·
            refine GO.aload_n dX12_readsSum_159 rfl rfl ?_
            refine GO.iconst dX12_readsSum_160 ?_
            refine GO.aload_n dX12_readsSum_161 rfl rfl ?_
            refine GO.getI h_x fl_RX12_443 rfl rfl dX12_readsSum_162 (fun l327 u328 => ?_)
            refine GO.callV (ci := 11) (N := mX12_wrong) dX12_readsSum_165 (RX12, TX12, 151) rfl gV_RX12_456 h_x (t_X12_wrong h_x (ir_c rfl) vi_ir) rfl [] rfl rfl (Nat.le_of_ble_eq_true rfl) rfl (k_is fun X329 V333 r330 h331 hF332 => ?_)
            have k334 := st_fr hF332 aq293 h_x (by decide +kernel) (by decide +kernel) (by decide +kernel) (by decide +kernel)
            have sS335 : sd V333 x = sd W289 x := k334.2.1.trans (rfl : sd W289 x = sd W289 x)
            have sQ336 : wt V333 x = wt W289 x := k334.2.2.trans (rfl : wt W289 x = wt W289 x)
            have e337 : vi V333 x 31 = vi W289 x 31 := vi_fr hF332 h_x h_x (by decide +kernel)
            have e338 : vi V333 x 37 = vi W289 x 37 := vi_fr hF332 h_x h_x (by decide +kernel)
            exact GO.retz rfl rfl dX12_readsSum_168 (by omega) ⟨rfl, _, rfl, r330, ⟨by omega, fun h => by omega, fun _ => trivial, (by first | exact fun h => absurd h (by omega) | exact fun _ => raw_closesSums.1), (by first | exact fun h => absurd h (by omega) | exact fun _ => hsq)⟩⟩
        ·
          refine GO.aload_n dX12_readsSum_105 rfl rfl ?_
          refine GO.iload_n dX12_readsSum_106 rfl rfl ?_
          have q339 : -2147483648 ≤ vi W289 x 37 ∧ vi W289 x 37 ≤ 2147483647 := vi_ir
          have q340 : -2147483648 ≤ vi W289 x 31 ∧ vi W289 x 31 ≤ 2147483647 := vi_ir
          have q341 : -2147483648 ≤ vi W289 x 32 ∧ vi W289 x 32 ≤ 2147483647 := vi_ir
          have q342 : -2147483648 ≤ vi W289 x 36 ∧ vi W289 x 36 ≤ 2147483647 := vi_ir
          refine GO.callV (ci := 11) (N := mX12_hasOpenSum) dX12_readsSum_107 (RX12, TX12, 151) rfl gV_RX12_502 h_x (t_X12_hasOpenSum h_x r7 (by omega)) rfl [] rfl rfl (Nat.le_of_ble_eq_true rfl) rfl (k_ip fun X343 r344 h345 => ?_)
          have raw_hasOpenSum := h345.2.2.2
          refine GO.if_eq (tgt := 151) dX12_readsSum_110 (by decide) r344 (fun c346 => ?_) (fun c346 => ?_)
          ·
            refine GO.aload_n dX12_readsSum_151 rfl rfl ?_
            refine GO.iload_n dX12_readsSum_152 rfl rfl ?_
            refine GO.callV (ci := 11) (N := mX12_hasOpenSum) dX12_readsSum_153 (RX12, TX12, 151) rfl gV_RX12_502 h_x (t_X12_hasOpenSum h_x r7 (by omega)) rfl [] rfl rfl (Nat.le_of_ble_eq_true rfl) rfl (k_ip fun X347 r348 h349 => ?_)
            have raw_hasOpenSum := h349.2.2.2
            refine GO.if_eq (tgt := 169) dX12_readsSum_156 (by decide) r348 (fun c350 => ?_) (fun c350 => ?_)
            ·
              refine GO.aload_n dX12_readsSum_169 rfl rfl ?_
              refine GO.iconst dX12_readsSum_170 ?_
              refine GO.callV (ci := 11) (N := mX12_closesSums) dX12_readsSum_171 (RX12, TX12, 151) rfl gV_RX12_498 h_x (t_X12_closesSums h_x (ir_c rfl) (by omega) (by assumption) (by omega)) rfl [] rfl rfl (Nat.le_of_ble_eq_true rfl) rfl (k_vs fun V353 h352 hF351 => ?_)
              refine GO.useWT (fun hW354 => ?_)
              have aq355 := hW354.aq h_x
              have raw_closesSums := h352.2
              have e356 : vi V353 x 31 = vi W289 x 31 := vi_fr hF351 h_x h_x (by decide +kernel)
              have hsq := GM.fin (by assumption) (by assumption) raw_closesSums.2 (by omega) (by omega) raw_hasOpenSum (by omega)
              have hsq1 := hsq.1
              refine GO.iconst dX12_readsSum_174 ?_
              have q359 : -2147483648 ≤ vi V353 x 37 ∧ vi V353 x 37 ≤ 2147483647 := vi_ir
              have q360 : -2147483648 ≤ vi V353 x 36 ∧ vi V353 x 36 ≤ 2147483647 := vi_ir
              exact GO.retz rfl rfl dX12_readsSum_175 (by omega) ⟨rfl, _, rfl, (ir_c rfl), ⟨by omega, fun h => by omega, fun _ => trivial, (by first | exact fun h => absurd h (by omega) | exact fun _ => raw_closesSums.1), (by first | exact fun h => absurd h (by omega) | exact fun _ => hsq)⟩⟩
            ·
              refine GO.aload_n dX12_readsSum_159 rfl rfl ?_
              refine GO.iconst dX12_readsSum_160 ?_
              refine GO.aload_n dX12_readsSum_161 rfl rfl ?_
              refine GO.getI h_x fl_RX12_443 rfl rfl dX12_readsSum_162 (fun l361 u362 => ?_)
              refine GO.callV (ci := 11) (N := mX12_wrong) dX12_readsSum_165 (RX12, TX12, 151) rfl gV_RX12_456 h_x (t_X12_wrong h_x (ir_c rfl) vi_ir) rfl [] rfl rfl (Nat.le_of_ble_eq_true rfl) rfl (k_is fun X363 V367 r364 h365 hF366 => ?_)
              have k368 := st_fr hF366 aq293 h_x (by decide +kernel) (by decide +kernel) (by decide +kernel) (by decide +kernel)
              have sS369 : sd V367 x = sd W289 x := k368.2.1.trans (rfl : sd W289 x = sd W289 x)
              have sQ370 : wt V367 x = wt W289 x := k368.2.2.trans (rfl : wt W289 x = wt W289 x)
              have e371 : vi V367 x 31 = vi W289 x 31 := vi_fr hF366 h_x h_x (by decide +kernel)
              have e372 : vi V367 x 37 = vi W289 x 37 := vi_fr hF366 h_x h_x (by decide +kernel)
              exact GO.retz rfl rfl dX12_readsSum_168 (by omega) ⟨rfl, _, rfl, r364, ⟨by omega, fun h => by omega, fun _ => trivial, (by first | exact fun h => absurd h (by omega) | exact fun _ => raw_closesSums.1), (by first | exact fun h => absurd h (by omega) | exact fun _ => hsq)⟩⟩
          ·
            refine GO.aload_n dX12_readsSum_113 rfl rfl ?_
            refine GO.iconst dX12_readsSum_114 ?_
            refine GO.callV (ci := 11) (N := mX12_closesSums) dX12_readsSum_115 (RX12, TX12, 151) rfl gV_RX12_498 h_x (t_X12_closesSums h_x (ir_c rfl) (by omega) (by assumption) (by omega)) rfl [] rfl rfl (Nat.le_of_ble_eq_true rfl) rfl (k_vs fun V375 h374 hF373 => ?_)
            refine GO.useWT (fun hW376 => ?_)
            have aq377 := hW376.aq h_x
            have raw_closesSums := h374.2
            have e378 : vi V375 x 31 = vi W289 x 31 := vi_fr hF373 h_x h_x (by decide +kernel)
            have hgo := GM.opn (by assumption) (by assumption) raw_closesSums.2 (by omega) (by omega) raw_hasOpenSum (by omega)
            have hgo1 := hgo.2.1
            have hgo2 := hgo.2.2
            refine GO.aload_n dX12_readsSum_118 rfl rfl ?_
            refine GO.aload_n dX12_readsSum_119 rfl rfl ?_
            refine GO.getI h_x fl_RX12_473 rfl rfl dX12_readsSum_120 (fun l381 u382 => ?_)
            refine GO.iconst dX12_readsSum_123 ?_
            refine GO.isub dX12_readsSum_124 ?_
            have q384 : -2147483648 ≤ vi V375 x 37 ∧ vi V375 x 37 ≤ 2147483647 := vi_ir
            have q385 : -2147483648 ≤ vi V375 x 36 ∧ vi V375 x 36 ≤ 2147483647 := vi_ir
            refine GO.putI h_x fp_RX12_473 rfl (by decide +kernel) ⟨by omega, by omega⟩ (by omega) (by omega) dX12_readsSum_125 (fun V386 e383 => ?_)
            have k387 := st_fld e383 aq377 h_x (by decide) (by decide)
            have sS388 : sd V386 x = sd V375 x := k387.2.1.trans (rfl : sd V375 x = sd V375 x)
            have sQ389 : wt V386 x = wt V375 x := k387.2.2.trans (rfl : wt V375 x = wt V375 x)
            refine GO.aload_n dX12_readsSum_128 rfl rfl ?_
            refine GO.aload_n dX12_readsSum_129 rfl rfl ?_
            refine GO.getI h_x fl_RX12_470 rfl rfl dX12_readsSum_130 (fun _ _ => ?_)
            refine GO.iconst dX12_readsSum_133 ?_
            refine GO.isub dX12_readsSum_134 ?_
            refine GO.norm (fun z392 r393 _ => ?_)
            refine GO.putI h_x fp_RX12_470 rfl (by decide +kernel) r393 (r393).1 (r393).2 dX12_readsSum_135 (fun V395 e394 => ?_)
            have k396 := st_fld e394 k387.1 h_x (by decide) (by decide)
            have sS397 : sd V395 x = sd V375 x := k396.2.1.trans sS388
            have sQ398 : wt V395 x = wt V375 x := k396.2.2.trans sQ389
            refine GO.aload_n dX12_readsSum_138 rfl rfl ?_
            refine GO.aload_n dX12_readsSum_139 rfl rfl ?_
            refine GO.getI h_x fl_RX12_443 rfl rfl dX12_readsSum_140 (fun l399 u400 => ?_)
            have e402 : vi V386 x 31 = vi V375 x 31 := vi_up e383 (Or.inr (by decide))
            have e401 : vi V395 x 31 = vi V386 x 31 := vi_up e394 (Or.inr (by decide))
            refine GO.iconst dX12_readsSum_143 ?_
            refine GO.iadd dX12_readsSum_144 ?_
            refine GO.putI h_x fp_RX12_443 rfl (by decide +kernel) ⟨by omega, by omega⟩ (by omega) (by omega) dX12_readsSum_145 (fun V404 e403 => ?_)
            have k405 := st_fld e403 k396.1 h_x (by decide) (by decide)
            have sS406 : sd V404 x = sd V375 x := k405.2.1.trans sS397
            have sQ407 : wt V404 x = wt V375 x := k405.2.2.trans sQ398
            have e408 : vi V404 x 31 = (vi V395 x 31) + 1 := upd2_int e403 ⟨by omega, by omega⟩
            have e411 : vi V386 x 36 = vi V375 x 36 := vi_up e383 (Or.inr (by decide))
            have e410 : vi V395 x 36 = vi V386 x 36 := vi_up e394 (Or.inr (by decide))
            have e409 : vi V404 x 36 = vi V395 x 36 := vi_up e403 (Or.inr (by decide))
            have e414 : vi V386 x 37 = (vi V375 x 37) - 1 := upd2_int e383 ⟨by omega, by omega⟩
            have e413 : vi V395 x 37 = vi V386 x 37 := vi_up e394 (Or.inr (by decide))
            have e412 : vi V404 x 37 = vi V395 x 37 := vi_up e403 (Or.inr (by decide))
            refine GO.goto (tgt := 176) dX12_readsSum_148 (by decide) ?_
            refine GO.goto (tgt := 14) dX12_readsSum_176 (by decide) ?_
            refine GO.drop [true, true, false] rfl ?_
            have e418 : vi V375 x 32 = vi W289 x 32 := vi_fr hF373 h_x h_x (by decide +kernel)
            have e417 : vi V386 x 32 = vi V375 x 32 := vi_up e383 (Or.inr (by decide))
            have e416 : vi V395 x 32 = vi V386 x 32 := vi_up e394 (Or.inr (by decide))
            have e415 : vi V404 x 32 = vi V395 x 32 := vi_up e403 (Or.inr (by decide))
            exact ih290  V404 ⟨by omega, (by first | exact raw_readsFactor.1 (by omega) | exact RJ.zz (raw_readsFactor.1 (by omega)) (by omega) | exact RJ.pop raw_closesSums.1 (by omega) (by omega) (sS406) (sQ407) (by omega) (by omega) (by omega)), (by first | exact GM.of (raw_readsFactor.2 (by omega)) | exact GM.fac (GM.push hgm (by omega) (by omega) ((rfl : wt W289 x = wt W289 x)) (by omega)) (raw_readsFactor.2 (by omega)) | exact GM.pop hgo.1 (sQ407) (by omega) hgo1), trivial⟩ (by show ((vi V404 x 32 - vi V404 x 31)).toNat < ((vi W289 x 32 - vi W289 x 31)).toNat; omega)
      ·
        refine GO.aload_n dX12_readsSum_39 rfl rfl ?_
        refine GO.iload_n dX12_readsSum_40 rfl rfl ?_
        refine GO.iconst dX12_readsSum_41 ?_
        refine GO.icmp_ge (tgt := 49) dX12_readsSum_42 (by decide) r302 (ir_c rfl) (fun c419 => ?_) (fun c419 => ?_)
        ·
          refine GO.iconst dX12_readsSum_49 ?_
          refine GO.callV (ci := 11) (N := mX12_closesSums) dX12_readsSum_50 (RX12, TX12, 151) rfl gV_RX12_498 h_x (t_X12_closesSums h_x (ir_c rfl) (by omega) (by assumption) (by omega)) rfl [] rfl rfl (Nat.le_of_ble_eq_true rfl) rfl (k_vs fun V422 h421 hF420 => ?_)
          refine GO.useWT (fun hW423 => ?_)
          have aq424 := hW423.aq h_x
          have raw_closesSums := h421.2
          have e425 : vi V422 x 31 = vi W289 x 31 := vi_fr hF420 h_x h_x (by decide +kernel)
          have hgm := GM.clo (by assumption) (by assumption) raw_closesSums.2 (by omega)
          have hge := hgm.1.1
          refine GO.aload_n dX12_readsSum_53 rfl rfl ?_
          refine GO.getA (n := 220) h_x fl_RX12_91 rfl rfl rfl rfl dX12_readsSum_54 (fun hv429 h428 => ?_)
          refine GO.aload_n dX12_readsSum_57 rfl rfl ?_
          refine GO.getI h_x fl_RX12_473 rfl rfl dX12_readsSum_58 (fun l430 u431 => ?_)
          refine GO.ldcw (X := 1048576) dX12_readsSum_61 gw_2078 rfl ?_
          refine GO.iload_n dX12_readsSum_64 rfl rfl ?_
          refine GO.imul dX12_readsSum_65 ?_
          have q432 : -2147483648 ≤ vi V422 x 37 ∧ vi V422 x 37 ≤ 2147483647 := vi_ir
          have q433 : -2147483648 ≤ vi W289 x 37 ∧ vi W289 x 37 ≤ 2147483647 := vi_ir
          have q434 : -2147483648 ≤ vi W289 x 31 ∧ vi W289 x 31 ≤ 2147483647 := vi_ir
          have q435 : -2147483648 ≤ vi W289 x 32 ∧ vi W289 x 32 ≤ 2147483647 := vi_ir
          have q436 : -2147483648 ≤ vi W289 x 36 ∧ vi W289 x 36 ≤ 2147483647 := vi_ir
          have q437 : -2147483648 ≤ vi V422 x 36 ∧ vi V422 x 36 ≤ 2147483647 := vi_ir
          refine GO.iast (t := 33) rfl rfl (by decide +kernel) h428 vi_ir (by omega) (by omega) ⟨by omega, by omega⟩ (by omega) (by omega) dX12_readsSum_66 (fun V439 e438 => ?_)
          have k440 := st_wt e438 aq424 h_x (vq_of hv429) ⟨by omega, by omega⟩
          have sS441 : sd V439 x = sd V422 x := k440.2.1.trans (rfl : sd V422 x = sd V422 x)
          have sQ442 : wt V439 x = updf (wt V422 x) (vi V422 x 37).toNat (1048576 * X301) := k440.2.2.trans (congrArg (fun f => updf f (vi V422 x 37).toNat (1048576 * X301)) (rfl : wt V422 x = wt V422 x))
          refine GO.aload_n dX12_readsSum_67 rfl rfl ?_
          refine GO.aload_n dX12_readsSum_68 rfl rfl ?_
          refine GO.getI h_x fl_RX12_473 rfl rfl dX12_readsSum_69 (fun l443 u444 => ?_)
          have e445 : vi V439 x 37 = vi V422 x 37 := vi_up e438 (Or.inl (K_ne h_x h428 (by decide)))
          refine GO.iconst dX12_readsSum_72 ?_
          refine GO.iadd dX12_readsSum_73 ?_
          refine GO.putI h_x fp_RX12_473 rfl (by decide +kernel) ⟨by omega, by omega⟩ (by omega) (by omega) dX12_readsSum_74 (fun V447 e446 => ?_)
          have k448 := st_fld e446 k440.1 h_x (by decide) (by decide)
          have sS449 : sd V447 x = sd V422 x := k448.2.1.trans sS441
          have sQ450 : wt V447 x = updf (wt V422 x) (vi V422 x 37).toNat (1048576 * X301) := k448.2.2.trans sQ442
          refine GO.aload_n dX12_readsSum_77 rfl rfl ?_
          refine GO.aload_n dX12_readsSum_78 rfl rfl ?_
          refine GO.getI h_x fl_RX12_443 rfl rfl dX12_readsSum_79 (fun l451 u452 => ?_)
          have e454 : vi V439 x 31 = vi V422 x 31 := vi_up e438 (Or.inl (K_ne h_x h428 (by decide)))
          have e453 : vi V447 x 31 = vi V439 x 31 := vi_up e446 (Or.inr (by decide))
          refine GO.iconst dX12_readsSum_82 ?_
          refine GO.iadd dX12_readsSum_83 ?_
          have e456 : vi V439 x 36 = vi V422 x 36 := vi_up e438 (Or.inl (K_ne h_x h428 (by decide)))
          have e455 : vi V447 x 36 = vi V439 x 36 := vi_up e446 (Or.inr (by decide))
          have e457 : vi V447 x 37 = (vi V439 x 37) + 1 := upd2_int e446 ⟨by omega, by omega⟩
          refine GO.putI h_x fp_RX12_443 rfl (by decide +kernel) ⟨by omega, by omega⟩ (by omega) (by omega) dX12_readsSum_84 (fun V459 e458 => ?_)
          have k460 := st_fld e458 k448.1 h_x (by decide) (by decide)
          have sS461 : sd V459 x = sd V422 x := k460.2.1.trans sS449
          have sQ462 : wt V459 x = updf (wt V422 x) (vi V422 x 37).toNat (1048576 * X301) := k460.2.2.trans sQ450
          have e463 : vi V459 x 31 = (vi V447 x 31) + 1 := upd2_int e458 ⟨by omega, by omega⟩
          have e464 : vi V459 x 36 = vi V447 x 36 := vi_up e458 (Or.inr (by decide))
          have e465 : vi V459 x 37 = vi V447 x 37 := vi_up e458 (Or.inr (by decide))
          refine GO.aload_n dX12_readsSum_87 rfl rfl ?_
          refine GO.callV (ci := 11) (N := mX12_readsFactor) dX12_readsSum_88 (RX12, TX12, 151) rfl gV_RX12_492 h_x (t_X12_readsFactor h_x (by omega) ((by first | assumption | exact RJ.pushS raw_closesSums.1 (by omega) (by omega) (sS461) (sQ462) (by omega) (by omega) (by omega)))) rfl [] rfl rfl (Nat.le_of_ble_eq_true rfl) rfl (k_is fun X466 V470 r467 h468 hF469 => ?_)
          refine GO.useWT (fun hW471 => ?_)
          have aq472 := hW471.aq h_x
          have raw_readsFactor := h468.2.2.2
          refine GO.if_ne (tgt := 176) dX12_readsSum_91 (by decide) r467 (fun c475 => ?_) (fun c475 => ?_)
          ·
            have q476 := h468.2.1 (by omega)
            refine GO.goto (tgt := 14) dX12_readsSum_176 (by decide) ?_
            refine GO.drop [true, true, false] rfl ?_
            have q477 : -2147483648 ≤ vi V470 x 31 ∧ vi V470 x 31 ≤ 2147483647 := vi_ir
            have q478 : -2147483648 ≤ vi V470 x 37 ∧ vi V470 x 37 ≤ 2147483647 := vi_ir
            have e483 : vi V422 x 32 = vi W289 x 32 := vi_fr hF420 h_x h_x (by decide +kernel)
            have e482 : vi V439 x 32 = vi V422 x 32 := vi_up e438 (Or.inl (K_ne h_x h428 (by decide)))
            have e481 : vi V447 x 32 = vi V439 x 32 := vi_up e446 (Or.inr (by decide))
            have e480 : vi V459 x 32 = vi V447 x 32 := vi_up e458 (Or.inr (by decide))
            have e479 : vi V470 x 32 = vi V459 x 32 := vi_fr hF469 h_x h_x (by decide +kernel)
            exact ih290  V470 ⟨by omega, (by first | exact raw_readsFactor.1 (by omega) | exact RJ.zz (raw_readsFactor.1 (by omega)) (by omega) | exact RJ.pop raw_closesSums.1 (by omega) (by omega) ((rfl : sd V470 x = sd V470 x)) ((rfl : wt V470 x = wt V470 x)) (by omega) (by omega) (by omega)), (by first | exact GM.of (raw_readsFactor.2 (by omega)) | exact GM.fac (GM.push hgm (by omega) (by omega) (sQ462) (by omega)) (raw_readsFactor.2 (by omega)) | exact GM.pop hgo.1 ((rfl : wt V470 x = wt V470 x)) (by omega) hgo1), trivial⟩ (by show ((vi V470 x 32 - vi V470 x 31)).toNat < ((vi W289 x 32 - vi W289 x 31)).toNat; omega)
          ·
            refine GO.iconst dX12_readsSum_94 ?_
            have q484 : -2147483648 ≤ vi V470 x 31 ∧ vi V470 x 31 ≤ 2147483647 := vi_ir
            have q485 : -2147483648 ≤ vi V470 x 37 ∧ vi V470 x 37 ≤ 2147483647 := vi_ir
            exact GO.retz rfl rfl dX12_readsSum_95 (by omega) ⟨rfl, _, rfl, (ir_c rfl), ⟨by omega, fun h => by omega, fun _ => trivial, (by first | exact fun h => absurd h (by omega) | exact fun _ => raw_closesSums.1), (by first | exact fun h => absurd h (by omega) | exact fun _ => hsq)⟩⟩
        ·
          refine GO.iconst dX12_readsSum_45 ?_
          refine GO.goto (tgt := 50) dX12_readsSum_46 (by decide) ?_
          refine GO.callV (ci := 11) (N := mX12_closesSums) dX12_readsSum_50 (RX12, TX12, 151) rfl gV_RX12_498 h_x (t_X12_closesSums h_x (ir_c rfl) (by omega) (by assumption) (by omega)) rfl [] rfl rfl (Nat.le_of_ble_eq_true rfl) rfl (k_vs fun V488 h487 hF486 => ?_)
          refine GO.useWT (fun hW489 => ?_)
          have aq490 := hW489.aq h_x
          have raw_closesSums := h487.2
          have e491 : vi V488 x 31 = vi W289 x 31 := vi_fr hF486 h_x h_x (by decide +kernel)
          have hgm := GM.clo (by assumption) (by assumption) raw_closesSums.2 (by omega)
          have hge := hgm.1.1
          refine GO.aload_n dX12_readsSum_53 rfl rfl ?_
          refine GO.getA (n := 220) h_x fl_RX12_91 rfl rfl rfl rfl dX12_readsSum_54 (fun hv495 h494 => ?_)
          refine GO.aload_n dX12_readsSum_57 rfl rfl ?_
          refine GO.getI h_x fl_RX12_473 rfl rfl dX12_readsSum_58 (fun l496 u497 => ?_)
          refine GO.ldcw (X := 1048576) dX12_readsSum_61 gw_2078 rfl ?_
          refine GO.iload_n dX12_readsSum_64 rfl rfl ?_
          refine GO.imul dX12_readsSum_65 ?_
          have q498 : -2147483648 ≤ vi V488 x 37 ∧ vi V488 x 37 ≤ 2147483647 := vi_ir
          have q499 : -2147483648 ≤ vi W289 x 37 ∧ vi W289 x 37 ≤ 2147483647 := vi_ir
          have q500 : -2147483648 ≤ vi W289 x 31 ∧ vi W289 x 31 ≤ 2147483647 := vi_ir
          have q501 : -2147483648 ≤ vi W289 x 32 ∧ vi W289 x 32 ≤ 2147483647 := vi_ir
          have q502 : -2147483648 ≤ vi W289 x 36 ∧ vi W289 x 36 ≤ 2147483647 := vi_ir
          have q503 : -2147483648 ≤ vi V488 x 36 ∧ vi V488 x 36 ≤ 2147483647 := vi_ir
          refine GO.iast (t := 33) rfl rfl (by decide +kernel) h494 vi_ir (by omega) (by omega) ⟨by omega, by omega⟩ (by omega) (by omega) dX12_readsSum_66 (fun V505 e504 => ?_)
          have k506 := st_wt e504 aq490 h_x (vq_of hv495) ⟨by omega, by omega⟩
          have sS507 : sd V505 x = sd V488 x := k506.2.1.trans (rfl : sd V488 x = sd V488 x)
          have sQ508 : wt V505 x = updf (wt V488 x) (vi V488 x 37).toNat (1048576 * X301) := k506.2.2.trans (congrArg (fun f => updf f (vi V488 x 37).toNat (1048576 * X301)) (rfl : wt V488 x = wt V488 x))
          refine GO.aload_n dX12_readsSum_67 rfl rfl ?_
          refine GO.aload_n dX12_readsSum_68 rfl rfl ?_
          refine GO.getI h_x fl_RX12_473 rfl rfl dX12_readsSum_69 (fun l509 u510 => ?_)
          have e511 : vi V505 x 37 = vi V488 x 37 := vi_up e504 (Or.inl (K_ne h_x h494 (by decide)))
          refine GO.iconst dX12_readsSum_72 ?_
          refine GO.iadd dX12_readsSum_73 ?_
          refine GO.putI h_x fp_RX12_473 rfl (by decide +kernel) ⟨by omega, by omega⟩ (by omega) (by omega) dX12_readsSum_74 (fun V513 e512 => ?_)
          have k514 := st_fld e512 k506.1 h_x (by decide) (by decide)
          have sS515 : sd V513 x = sd V488 x := k514.2.1.trans sS507
          have sQ516 : wt V513 x = updf (wt V488 x) (vi V488 x 37).toNat (1048576 * X301) := k514.2.2.trans sQ508
          refine GO.aload_n dX12_readsSum_77 rfl rfl ?_
          refine GO.aload_n dX12_readsSum_78 rfl rfl ?_
          refine GO.getI h_x fl_RX12_443 rfl rfl dX12_readsSum_79 (fun l517 u518 => ?_)
          have e520 : vi V505 x 31 = vi V488 x 31 := vi_up e504 (Or.inl (K_ne h_x h494 (by decide)))
          have e519 : vi V513 x 31 = vi V505 x 31 := vi_up e512 (Or.inr (by decide))
          refine GO.iconst dX12_readsSum_82 ?_
          refine GO.iadd dX12_readsSum_83 ?_
          have e522 : vi V505 x 36 = vi V488 x 36 := vi_up e504 (Or.inl (K_ne h_x h494 (by decide)))
          have e521 : vi V513 x 36 = vi V505 x 36 := vi_up e512 (Or.inr (by decide))
          have e523 : vi V513 x 37 = (vi V505 x 37) + 1 := upd2_int e512 ⟨by omega, by omega⟩
          refine GO.putI h_x fp_RX12_443 rfl (by decide +kernel) ⟨by omega, by omega⟩ (by omega) (by omega) dX12_readsSum_84 (fun V525 e524 => ?_)
          have k526 := st_fld e524 k514.1 h_x (by decide) (by decide)
          have sS527 : sd V525 x = sd V488 x := k526.2.1.trans sS515
          have sQ528 : wt V525 x = updf (wt V488 x) (vi V488 x 37).toNat (1048576 * X301) := k526.2.2.trans sQ516
          have e529 : vi V525 x 31 = (vi V513 x 31) + 1 := upd2_int e524 ⟨by omega, by omega⟩
          have e530 : vi V525 x 36 = vi V513 x 36 := vi_up e524 (Or.inr (by decide))
          have e531 : vi V525 x 37 = vi V513 x 37 := vi_up e524 (Or.inr (by decide))
          refine GO.aload_n dX12_readsSum_87 rfl rfl ?_
          refine GO.callV (ci := 11) (N := mX12_readsFactor) dX12_readsSum_88 (RX12, TX12, 151) rfl gV_RX12_492 h_x (t_X12_readsFactor h_x (by omega) ((by first | assumption | exact RJ.pushS raw_closesSums.1 (by omega) (by omega) (sS527) (sQ528) (by omega) (by omega) (by omega)))) rfl [] rfl rfl (Nat.le_of_ble_eq_true rfl) rfl (k_is fun X532 V536 r533 h534 hF535 => ?_)
          refine GO.useWT (fun hW537 => ?_)
          have aq538 := hW537.aq h_x
          have raw_readsFactor := h534.2.2.2
          refine GO.if_ne (tgt := 176) dX12_readsSum_91 (by decide) r533 (fun c541 => ?_) (fun c541 => ?_)
          ·
            have q542 := h534.2.1 (by omega)
            refine GO.goto (tgt := 14) dX12_readsSum_176 (by decide) ?_
            refine GO.drop [true, true, false] rfl ?_
            have q543 : -2147483648 ≤ vi V536 x 31 ∧ vi V536 x 31 ≤ 2147483647 := vi_ir
            have q544 : -2147483648 ≤ vi V536 x 37 ∧ vi V536 x 37 ≤ 2147483647 := vi_ir
            have e549 : vi V488 x 32 = vi W289 x 32 := vi_fr hF486 h_x h_x (by decide +kernel)
            have e548 : vi V505 x 32 = vi V488 x 32 := vi_up e504 (Or.inl (K_ne h_x h494 (by decide)))
            have e547 : vi V513 x 32 = vi V505 x 32 := vi_up e512 (Or.inr (by decide))
            have e546 : vi V525 x 32 = vi V513 x 32 := vi_up e524 (Or.inr (by decide))
            have e545 : vi V536 x 32 = vi V525 x 32 := vi_fr hF535 h_x h_x (by decide +kernel)
            exact ih290  V536 ⟨by omega, (by first | exact raw_readsFactor.1 (by omega) | exact RJ.zz (raw_readsFactor.1 (by omega)) (by omega) | exact RJ.pop raw_closesSums.1 (by omega) (by omega) ((rfl : sd V536 x = sd V536 x)) ((rfl : wt V536 x = wt V536 x)) (by omega) (by omega) (by omega)), (by first | exact GM.of (raw_readsFactor.2 (by omega)) | exact GM.fac (GM.push hgm (by omega) (by omega) (sQ528) (by omega)) (raw_readsFactor.2 (by omega)) | exact GM.pop hgo.1 ((rfl : wt V536 x = wt V536 x)) (by omega) hgo1), trivial⟩ (by show ((vi V536 x 32 - vi V536 x 31)).toNat < ((vi W289 x 32 - vi W289 x 31)).toNat; omega)
          ·
            refine GO.iconst dX12_readsSum_94 ?_
            have q550 : -2147483648 ≤ vi V536 x 31 ∧ vi V536 x 31 ≤ 2147483647 := vi_ir
            have q551 : -2147483648 ≤ vi V536 x 37 ∧ vi V536 x 37 ≤ 2147483647 := vi_ir
            exact GO.retz rfl rfl dX12_readsSum_95 (by omega) ⟨rfl, _, rfl, (ir_c rfl), ⟨by omega, fun h => by omega, fun _ => trivial, (by first | exact fun h => absurd h (by omega) | exact fun _ => raw_closesSums.1), (by first | exact fun h => absurd h (by omega) | exact fun _ => hsq)⟩⟩
    ·
      refine GO.iconst dX12_readsSum_22 ?_
      refine GO.goto (tgt := 33) dX12_readsSum_23 (by decide) ?_
      refine GO.istore_n (ls1 := [some (.ref x), some (ti z5), some (ti (-1))]) dX12_readsSum_33 rfl rfl rfl ?_
      refine GO.iload_n dX12_readsSum_34 rfl rfl ?_
      refine GO.iconst dX12_readsSum_35 ?_
      refine GO.icmp_eq (tgt := 96) dX12_readsSum_36 (by decide) (ir_c rfl) (ir_c rfl) (fun c552 => ?_) (fun h => by exfalso; omega)
      refine GO.aload_n dX12_readsSum_96 rfl rfl ?_
      refine GO.callV (ci := 11) (N := mX12_sign) dX12_readsSum_97 (RX12, TX12, 151) rfl gV_RX12_449 h_x (t_X12_sign h_x) rfl [] rfl rfl (Nat.le_of_ble_eq_true rfl) rfl (k_ip fun X553 r554 h555 => ?_)
      refine GO.bipush dX12_readsSum_100 rfl ?_
      refine GO.icmp_ne (tgt := 151) dX12_readsSum_102 (by decide) r554 (ir_c rfl) (fun c556 => ?_) (fun h => by exfalso; omega)
      refine GO.aload_n dX12_readsSum_151 rfl rfl ?_
      refine GO.iload_n dX12_readsSum_152 rfl rfl ?_
      have q557 : -2147483648 ≤ vi W289 x 37 ∧ vi W289 x 37 ≤ 2147483647 := vi_ir
      have q558 : -2147483648 ≤ vi W289 x 31 ∧ vi W289 x 31 ≤ 2147483647 := vi_ir
      have q559 : -2147483648 ≤ vi W289 x 36 ∧ vi W289 x 36 ≤ 2147483647 := vi_ir
      refine GO.callV (ci := 11) (N := mX12_hasOpenSum) dX12_readsSum_153 (RX12, TX12, 151) rfl gV_RX12_502 h_x (t_X12_hasOpenSum h_x r7 (by omega)) rfl [] rfl rfl (Nat.le_of_ble_eq_true rfl) rfl (k_ip fun X560 r561 h562 => ?_)
      have raw_hasOpenSum := h562.2.2.2
      refine GO.if_eq (tgt := 169) dX12_readsSum_156 (by decide) r561 (fun c563 => ?_) (fun c563 => ?_)
      ·
        refine GO.aload_n dX12_readsSum_169 rfl rfl ?_
        refine GO.iconst dX12_readsSum_170 ?_
        refine GO.callV (ci := 11) (N := mX12_closesSums) dX12_readsSum_171 (RX12, TX12, 151) rfl gV_RX12_498 h_x (t_X12_closesSums h_x (ir_c rfl) (by omega) (by assumption) (by omega)) rfl [] rfl rfl (Nat.le_of_ble_eq_true rfl) rfl (k_vs fun V566 h565 hF564 => ?_)
        refine GO.useWT (fun hW567 => ?_)
        have aq568 := hW567.aq h_x
        have raw_closesSums := h565.2
        have e569 : vi V566 x 31 = vi W289 x 31 := vi_fr hF564 h_x h_x (by decide +kernel)
        have hsq := GM.fin (by assumption) (by assumption) raw_closesSums.2 (by omega) (by omega) raw_hasOpenSum (by omega)
        have hsq1 := hsq.1
        refine GO.iconst dX12_readsSum_174 ?_
        have q572 : -2147483648 ≤ vi V566 x 37 ∧ vi V566 x 37 ≤ 2147483647 := vi_ir
        have q573 : -2147483648 ≤ vi V566 x 36 ∧ vi V566 x 36 ≤ 2147483647 := vi_ir
        exact GO.retz rfl rfl dX12_readsSum_175 (by omega) ⟨rfl, _, rfl, (ir_c rfl), ⟨by omega, fun h => by omega, fun _ => trivial, (by first | exact fun h => absurd h (by omega) | exact fun _ => raw_closesSums.1), (by first | exact fun h => absurd h (by omega) | exact fun _ => hsq)⟩⟩
      ·
        refine GO.aload_n dX12_readsSum_159 rfl rfl ?_
        refine GO.iconst dX12_readsSum_160 ?_
        refine GO.aload_n dX12_readsSum_161 rfl rfl ?_
        refine GO.getI h_x fl_RX12_443 rfl rfl dX12_readsSum_162 (fun l574 u575 => ?_)
        refine GO.callV (ci := 11) (N := mX12_wrong) dX12_readsSum_165 (RX12, TX12, 151) rfl gV_RX12_456 h_x (t_X12_wrong h_x (ir_c rfl) vi_ir) rfl [] rfl rfl (Nat.le_of_ble_eq_true rfl) rfl (k_is fun X576 V580 r577 h578 hF579 => ?_)
        have k581 := st_fr hF579 aq293 h_x (by decide +kernel) (by decide +kernel) (by decide +kernel) (by decide +kernel)
        have sS582 : sd V580 x = sd W289 x := k581.2.1.trans (rfl : sd W289 x = sd W289 x)
        have sQ583 : wt V580 x = wt W289 x := k581.2.2.trans (rfl : wt W289 x = wt W289 x)
        have e584 : vi V580 x 31 = vi W289 x 31 := vi_fr hF579 h_x h_x (by decide +kernel)
        have e585 : vi V580 x 37 = vi W289 x 37 := vi_fr hF579 h_x h_x (by decide +kernel)
        exact GO.retz rfl rfl dX12_readsSum_168 (by omega) ⟨rfl, _, rfl, r577, ⟨by omega, fun h => by omega, fun _ => trivial, (by first | exact fun h => absurd h (by omega) | exact fun _ => raw_closesSums.1), (by first | exact fun h => absurd h (by omega) | exact fun _ => hsq)⟩⟩
  ·
    refine GO.iconst dX12_readsSum_12 ?_
    have q586 : -2147483648 ≤ vi V16 x 31 ∧ vi V16 x 31 ≤ 2147483647 := vi_ir
    have q587 : -2147483648 ≤ vi V16 x 37 ∧ vi V16 x 37 ≤ 2147483647 := vi_ir
    exact GO.retz rfl rfl dX12_readsSum_13 (by omega) ⟨rfl, _, rfl, (ir_c rfl), ⟨by omega, fun h => by omega, fun _ => trivial, (by first | exact fun h => absurd h (by omega) | exact fun _ => raw_closesSums.1), (by first | exact fun h => absurd h (by omega) | exact fun _ => hsq)⟩⟩
