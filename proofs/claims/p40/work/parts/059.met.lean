def mX12_wrong : MRec := (RX12, cX12_wrong, 3, (some .boolean), yX12_wrong, 0, 0, 0, 0, 5708990770823839524233143877797980545530986496)
def mX12_takes : MRec := (RX12, cX12_takes, 2, (some .boolean), yX12_takes, 1, 22, 0, 0, 7136238463529799405291429847247475681913733120)
def mX12_readsNumber : MRec := (RX12, cX12_readsNumber, 3, (some .boolean), yX12_readsNumber, 2, 40, 0, 0, 18554220005177478453757717602843436772975706112)
def mX12_says : MRec := (RX12, cX12_says, 3, (none : Option Jvm.ClassFile.FieldType), yX12_says, 0, 0, 0, 0, 16296287810675888690147565507275025288411747194999416171679839788700201420490538013715070976)
def mX12_opens : MRec := (RX12, cX12_opens, 2, (some .boolean), yX12_opens, 1, 22, 0, 0, 32592575621351777380295131014550050576823494419971033890184837079624408199420473891467821056)
def mX12_top : MRec := (RX12, cX12_top, 1, (some .int), yX12_top, 0, 0, 0, 0, 0)
def mX12_letterNumber : MRec := (RX12, cX12_letterNumber, 1, (some .int), yX12_letterNumber, 0, 0, 0, 0, 0)
def mX12_sumSign : MRec := (RX12, cX12_sumSign, 1, (some .int), yX12_sumSign, 0, 0, 0, 0, 0)
def mX12_closesSums : MRec := (RX12, cX12_closesSums, 2, (none : Option Jvm.ClassFile.FieldType), yX12_closesSums, 1, 22, 0, 0, 16296287810675888690147565507275025288411747286343268504861272176430503465258226742210854912)
def mX12_readsFactor : MRec := (RX12, cX12_readsFactor, 2, (some .boolean), yX12_readsFactor, 3, 62, 0, 0, 48888863432027666070442696521825075865235241626388431603512355916790897375506972996244865024)
set_option maxHeartbeats 1000000 in
theorem t_X12_wrong {K : Kmap} {V : Vmap} {x : Nat} {p0 : Int} {p1 : Int} (h_x : K x = some (0, 11)) (r_p0 : ir p0) (r_p1 : ir p1) : MC mX12_wrong K V [.ref x, ti p0, ti p1] (IS K (fun X V1 => (X = 0 ∨ X = 1) ∧ (X ≠ 0 → True) ∧ (X = 0 → True) ∧ (X = 0))) := by
  refine MC.start 0 (by decide +kernel) rfl rfl rfl (ls0 := [some (.ref x), some (ti p0), some (ti p1)]) rfl ?_
  refine GO.aload_n dX12_wrong_0 rfl rfl ?_
  refine GO.sipush dX12_wrong_1 rfl ?_
  refine GO.iload_n dX12_wrong_4 rfl rfl ?_
  refine GO.imul dX12_wrong_5 ?_
  refine GO.norm (fun z1 r2 _ => ?_)
  refine GO.iload_n dX12_wrong_6 rfl rfl ?_
  refine GO.isub dX12_wrong_7 ?_
  refine GO.norm (fun z3 r4 _ => ?_)
  refine GO.putI h_x fp_RX12_453 rfl (by decide +kernel) r4 (r4).1 (r4).2 dX12_wrong_8 (fun V6 e5 => ?_)
  refine GO.iconst dX12_wrong_11 ?_
  exact GO.retz rfl rfl dX12_wrong_12 (Or.inl rfl) ⟨rfl, _, rfl, (ir_c rfl), ⟨Or.inl rfl, fun _ => trivial, fun _ => trivial, by omega⟩⟩

set_option maxHeartbeats 1000000 in
theorem t_X12_takes {K : Kmap} {V : Vmap} {x : Nat} {p0 : Int} (h_x : K x = some (0, 11)) (r_p0 : ir p0) (q_0 : p0 ≥ 0) : MC mX12_takes K V [.ref x, ti p0] (IS K (fun X V1 => (X = 0 ∨ X = 1) ∧ (X ≠ 0 → vi V1 x 31 = (vi V x 31 + 1)) ∧ (X = 0 → True))) := by
  refine MC.start 0 (by decide +kernel) rfl rfl rfl (ls0 := [some (.ref x), some (ti p0)]) rfl ?_
  refine GO.useWT (fun hW1 => ?_)
  have aq2 := hW1.aq h_x
  have hrd := (hW1).rd h_x
  refine GO.aload_n dX12_takes_0 rfl rfl ?_
  refine GO.callV (ci := 11) (N := mX12_sign) dX12_takes_1 (RX12, TX12, 151) rfl gV_RX12_449 h_x (t_X12_sign h_x) rfl [] rfl rfl (Nat.le_of_ble_eq_true rfl) rfl (k_ip fun X3 r4 h5 => ?_)
  refine GO.iload_n dX12_takes_4 rfl rfl ?_
  refine GO.icmp_eq (tgt := 18) dX12_takes_5 (by decide) r4 r_p0 (fun c6 => ?_) (fun c6 => ?_)
  ·
    refine GO.aload_n dX12_takes_18 rfl rfl ?_
    refine GO.aload_n dX12_takes_19 rfl rfl ?_
    refine GO.getI h_x fl_RX12_443 rfl rfl dX12_takes_20 (fun l7 u8 => ?_)
    refine GO.iconst dX12_takes_23 ?_
    refine GO.iadd dX12_takes_24 ?_
    have q10 : -2147483648 ≤ vi V x 31 ∧ vi V x 31 ≤ 2147483647 := vi_ir
    have q11 : -2147483648 ≤ vi V x 32 ∧ vi V x 32 ≤ 2147483647 := vi_ir
    refine GO.putI h_x fp_RX12_443 rfl (by decide +kernel) ⟨by omega, by omega⟩ (by omega) (by omega) dX12_takes_25 (fun V12 e9 => ?_)
    have k13 := st_fld e9 aq2 h_x (by decide) (by decide)
    have sS14 : sd V12 x = sd V x := k13.2.1.trans (rfl : sd V x = sd V x)
    have sQ15 : wt V12 x = wt V x := k13.2.2.trans (rfl : wt V x = wt V x)
    refine GO.iconst dX12_takes_28 ?_
    have e16 : vi V12 x 31 = (vi V x 31) + 1 := upd2_int e9 ⟨by omega, by omega⟩
    exact GO.retz rfl rfl dX12_takes_29 (Or.inr rfl) ⟨rfl, _, rfl, (ir_c rfl), ⟨Or.inr rfl, fun h => by omega, fun _ => trivial⟩⟩
  ·
    refine GO.aload_n dX12_takes_8 rfl rfl ?_
    refine GO.iconst dX12_takes_9 ?_
    refine GO.aload_n dX12_takes_10 rfl rfl ?_
    refine GO.getI h_x fl_RX12_443 rfl rfl dX12_takes_11 (fun l17 u18 => ?_)
    refine GO.callV (ci := 11) (N := mX12_wrong) dX12_takes_14 (RX12, TX12, 151) rfl gV_RX12_456 h_x (t_X12_wrong h_x (ir_c rfl) vi_ir) rfl [] rfl rfl (Nat.le_of_ble_eq_true rfl) rfl (k_is fun X19 V23 r20 h21 hF22 => ?_)
    have k24 := st_fr hF22 aq2 h_x (by decide +kernel) (by decide +kernel) (by decide +kernel) (by decide +kernel)
    have sS25 : sd V23 x = sd V x := k24.2.1.trans (rfl : sd V x = sd V x)
    have sQ26 : wt V23 x = wt V x := k24.2.2.trans (rfl : wt V x = wt V x)
    have e27 : vi V23 x 31 = vi V x 31 := vi_fr hF22 h_x h_x (by decide +kernel)
    have q28 : -2147483648 ≤ vi V x 31 ∧ vi V x 31 ≤ 2147483647 := vi_ir
    exact GO.retz rfl rfl dX12_takes_17 (by omega) ⟨rfl, _, rfl, r20, ⟨by omega, fun h => by omega, fun _ => trivial⟩⟩

set_option maxHeartbeats 1000000 in
theorem t_X12_readsNumber {K : Kmap} {V : Vmap} {x : Nat} {p0 : Int} (h_x : K x = some (0, 11)) (r_p0 : ir p0) : MC mX12_readsNumber K V [.ref x, ti p0] (IS K (fun X V1 => (X = 0 ∨ X = 1) ∧ (X ≠ 0 → vi V1 x 31 ≥ (vi V x 31 + 1) ∧ vi V1 x 34 ≥ 0 ∧ vi V1 x 34 ≤ p0) ∧ (X = 0 → True))) := by
  refine MC.start 1 (by decide +kernel) rfl rfl rfl (ls0 := [some (.ref x), some (ti p0), none]) rfl ?_
  refine GO.useWT (fun hW1 => ?_)
  have aq2 := hW1.aq h_x
  refine GO.aload_n dX12_readsNumber_0 rfl rfl ?_
  refine GO.getI h_x fl_RX12_443 rfl rfl dX12_readsNumber_1 (fun l3 u4 => ?_)
  refine GO.name (fun z5 hz6 => ?_)
  have r7 : ir z5 := hz6 ▸ vi_ir
  refine GO.istore_n (ls1 := [some (.ref x), some (ti p0), some (ti z5)]) dX12_readsNumber_4 rfl rfl rfl ?_
  refine GO.aload_n dX12_readsNumber_5 rfl rfl ?_
  refine GO.iconst dX12_readsNumber_6 ?_
  refine GO.putI h_x fp_RX12_459 rfl (by decide +kernel) (ir_c rfl) (by decide) (by decide) dX12_readsNumber_7 (fun V9 e8 => ?_)
  have k10 := st_fld e8 aq2 h_x (by decide) (by decide)
  have sS11 : sd V9 x = sd V x := k10.2.1.trans (rfl : sd V x = sd V x)
  have sQ12 : wt V9 x = wt V x := k10.2.2.trans (rfl : wt V x = wt V x)
  refine GO.aload_n dX12_readsNumber_10 rfl rfl ?_
  refine GO.callV (ci := 11) (N := mX12_isDigit) dX12_readsNumber_11 (RX12, TX12, 151) rfl gV_RX12_462 h_x (t_X12_isDigit h_x) rfl [] rfl rfl (Nat.le_of_ble_eq_true rfl) rfl (k_ip fun X13 r14 h15 => ?_)
  have raw_isDigit := h15.2.2.2
  have e16 : vi V9 x 31 = vi V x 31 := vi_up e8 (Or.inr (by decide))
  refine GO.if_ne (tgt := 27) dX12_readsNumber_14 (by decide) r14 (fun c18 => ?_) (fun c18 => ?_)
  ·
    have q19 := h15.2.1 (by omega)
    have q20 : -2147483648 ≤ vi V9 x 32 ∧ vi V9 x 32 ≤ 2147483647 := vi_ir
    have e21 : vi V9 x 34 = 0 := upd2_int e8 (ir_c rfl)
    refine GO.loop0 (fun  W => (vi W x 31 ≥ z5 ∧ vi W x 31 ≤ (z5 + 6) ∧ vi W x 34 ≥ 0 ∧ vi W x 34 ≤ 999999 ∧ (vi W x 31 < (z5 + 6) → vi W x 34 ≤ 99999) ∧ z5 = vi V9 x 31 ∧ (sgn W x < 48 → vi W x 31 ≥ (z5 + 1)) ∧ (sgn W x > 57 → vi W x 31 ≥ (z5 + 1)) ∧ (vi W x 31 = (z5 + 0) → vi W x 34 ≤ 0) ∧ (vi W x 31 = (z5 + 1) → vi W x 34 ≤ 9) ∧ (vi W x 31 = (z5 + 2) → vi W x 34 ≤ 99) ∧ (vi W x 31 = (z5 + 3) → vi W x 34 ≤ 999) ∧ (vi W x 31 = (z5 + 4) → vi W x 34 ≤ 9999) ∧ (vi W x 31 = (z5 + 5) → vi W x 34 ≤ 99999) ∧ (vi W x 31 = (z5 + 6) → vi W x 34 ≤ 999999)) ∧ True) (fun  W => ((vi W x 32 - vi W x 31)).toNat)  ⟨by omega, trivial⟩ (fun W81 hp83 ih82 => ?_)
    obtain ⟨n_W81, -⟩ := hp83
    show GO mX12_readsNumber K V (IS K (fun X V1 => (X = 0 ∨ X = 1) ∧ (X ≠ 0 → vi V1 x 31 ≥ (vi V x 31 + 1) ∧ vi V1 x 34 ≥ 0 ∧ vi V1 x 34 ≤ p0) ∧ (X = 0 → True))) K W81 0 0 27 [some (.ref x), some (ti p0), some (ti z5)] []
    refine GO.useWT (fun hW84 => ?_)
    have aq85 := hW84.aq h_x
    have hrd := (hW84).rd h_x
    refine GO.aload_n dX12_readsNumber_27 rfl rfl ?_
    refine GO.callV (ci := 11) (N := mX12_isDigit) dX12_readsNumber_28 (RX12, TX12, 151) rfl gV_RX12_462 h_x (t_X12_isDigit h_x) rfl [] rfl rfl (Nat.le_of_ble_eq_true rfl) rfl (k_ip fun X86 r87 h88 => ?_)
    have raw_isDigit := h88.2.2.2
    refine GO.if_eq (tgt := 87) dX12_readsNumber_31 (by decide) r87 (fun c89 => ?_) (fun c89 => ?_)
    ·
      refine GO.aload_n dX12_readsNumber_87 rfl rfl ?_
      refine GO.getI h_x fl_RX12_459 rfl rfl dX12_readsNumber_88 (fun _ _ => ?_)
      refine GO.iload_n dX12_readsNumber_91 rfl rfl ?_
      refine GO.icmp_le (tgt := 104) dX12_readsNumber_92 (by decide) vi_ir r_p0 (fun c90 => ?_) (fun c90 => ?_)
      ·
        refine GO.iconst dX12_readsNumber_104 ?_
        refine GO.goto (tgt := 109) dX12_readsNumber_105 (by decide) ?_
        have q91 : -2147483648 ≤ vi W81 x 31 ∧ vi W81 x 31 ≤ 2147483647 := vi_ir
        have q92 : -2147483648 ≤ vi W81 x 34 ∧ vi W81 x 34 ≤ 2147483647 := vi_ir
        have q93 : -2147483648 ≤ p0 ∧ p0 ≤ 2147483647 := r_p0
        exact GO.retz rfl rfl dX12_readsNumber_109 (Or.inr rfl) ⟨rfl, _, rfl, (ir_c rfl), ⟨Or.inr rfl, fun h => by omega, fun _ => trivial⟩⟩
      ·
        refine GO.aload_n dX12_readsNumber_95 rfl rfl ?_
        refine GO.iconst dX12_readsNumber_96 ?_
        refine GO.iload_n dX12_readsNumber_97 rfl rfl ?_
        refine GO.callV (ci := 11) (N := mX12_wrong) dX12_readsNumber_98 (RX12, TX12, 151) rfl gV_RX12_456 h_x (t_X12_wrong h_x (ir_c rfl) r7) rfl [] rfl rfl (Nat.le_of_ble_eq_true rfl) rfl (k_is fun X94 V98 r95 h96 hF97 => ?_)
        have k99 := st_fr hF97 aq85 h_x (by decide +kernel) (by decide +kernel) (by decide +kernel) (by decide +kernel)
        have sS100 : sd V98 x = sd W81 x := k99.2.1.trans (rfl : sd W81 x = sd W81 x)
        have sQ101 : wt V98 x = wt W81 x := k99.2.2.trans (rfl : wt W81 x = wt W81 x)
        refine GO.if_eq (tgt := 108) dX12_readsNumber_101 (by decide) r95 (fun c102 => ?_) (fun h => by exfalso; omega)
        refine GO.iconst dX12_readsNumber_108 ?_
        have e103 : vi V98 x 31 = vi W81 x 31 := vi_fr hF97 h_x h_x (by decide +kernel)
        have q104 : -2147483648 ≤ vi W81 x 31 ∧ vi W81 x 31 ≤ 2147483647 := vi_ir
        have e105 : vi V98 x 34 = vi W81 x 34 := vi_fr hF97 h_x h_x (by decide +kernel)
        have q106 : -2147483648 ≤ vi W81 x 34 ∧ vi W81 x 34 ≤ 2147483647 := vi_ir
        have q107 : -2147483648 ≤ p0 ∧ p0 ≤ 2147483647 := r_p0
        exact GO.retz rfl rfl dX12_readsNumber_109 (Or.inl rfl) ⟨rfl, _, rfl, (ir_c rfl), ⟨Or.inl rfl, fun h => absurd rfl h, fun _ => trivial⟩⟩
    ·
      have q108 := h88.2.1 (by omega)
      refine GO.aload_n dX12_readsNumber_34 rfl rfl ?_
      refine GO.getI h_x fl_RX12_443 rfl rfl dX12_readsNumber_35 (fun l109 u110 => ?_)
      refine GO.iload_n dX12_readsNumber_38 rfl rfl ?_
      refine GO.bipush dX12_readsNumber_39 rfl ?_
      refine GO.iadd dX12_readsNumber_41 ?_
      have q111 : -2147483648 ≤ vi W81 x 31 ∧ vi W81 x 31 ≤ 2147483647 := vi_ir
      have q112 : -2147483648 ≤ vi W81 x 32 ∧ vi W81 x 32 ≤ 2147483647 := vi_ir
      refine GO.icmp_ne (tgt := 55) dX12_readsNumber_42 (by decide) vi_ir ⟨by omega, by omega⟩ (fun c113 => ?_) (fun c113 => ?_)
      ·
        refine GO.aload_n dX12_readsNumber_55 rfl rfl ?_
        refine GO.bipush dX12_readsNumber_56 rfl ?_
        refine GO.aload_n dX12_readsNumber_58 rfl rfl ?_
        refine GO.getI h_x fl_RX12_459 rfl rfl dX12_readsNumber_59 (fun _ _ => ?_)
        refine GO.imul dX12_readsNumber_62 ?_
        refine GO.aload_n dX12_readsNumber_63 rfl rfl ?_
        refine GO.callV (ci := 11) (N := mX12_sign) dX12_readsNumber_64 (RX12, TX12, 151) rfl gV_RX12_449 h_x (t_X12_sign h_x) rfl [ti (10 * (vi W81 x 34)), .ref x] rfl rfl (Nat.le_of_ble_eq_true rfl) rfl (k_ip fun X114 r115 h116 => ?_)
        refine GO.iadd dX12_readsNumber_67 ?_
        refine GO.bipush dX12_readsNumber_68 rfl ?_
        refine GO.isub dX12_readsNumber_70 ?_
        have q118 : -2147483648 ≤ vi W81 x 34 ∧ vi W81 x 34 ≤ 2147483647 := vi_ir
        refine GO.putI h_x fp_RX12_459 rfl (by decide +kernel) ⟨by omega, by omega⟩ (by omega) (by omega) dX12_readsNumber_71 (fun V119 e117 => ?_)
        have k120 := st_fld e117 aq85 h_x (by decide) (by decide)
        have sS121 : sd V119 x = sd W81 x := k120.2.1.trans (rfl : sd W81 x = sd W81 x)
        have sQ122 : wt V119 x = wt W81 x := k120.2.2.trans (rfl : wt W81 x = wt W81 x)
        refine GO.aload_n dX12_readsNumber_74 rfl rfl ?_
        refine GO.aload_n dX12_readsNumber_75 rfl rfl ?_
        refine GO.getI h_x fl_RX12_443 rfl rfl dX12_readsNumber_76 (fun l123 u124 => ?_)
        have e125 : vi V119 x 31 = vi W81 x 31 := vi_up e117 (Or.inr (by decide))
        refine GO.iconst dX12_readsNumber_79 ?_
        refine GO.iadd dX12_readsNumber_80 ?_
        refine GO.putI h_x fp_RX12_443 rfl (by decide +kernel) ⟨by omega, by omega⟩ (by omega) (by omega) dX12_readsNumber_81 (fun V127 e126 => ?_)
        have k128 := st_fld e126 k120.1 h_x (by decide) (by decide)
        have sS129 : sd V127 x = sd W81 x := k128.2.1.trans sS121
        have sQ130 : wt V127 x = wt W81 x := k128.2.2.trans sQ122
        refine GO.goto (tgt := 27) dX12_readsNumber_84 (by decide) ?_
        have e131 : vi V127 x 31 = (vi V119 x 31) + 1 := upd2_int e126 ⟨by omega, by omega⟩
        have e133 : vi V119 x 34 = ((10 * (vi W81 x 34)) + X114) - 48 := upd2_int e117 ⟨by omega, by omega⟩
        have e132 : vi V127 x 34 = vi V119 x 34 := vi_up e126 (Or.inr (by decide))
        have e135 : vi V119 x 32 = vi W81 x 32 := vi_up e117 (Or.inr (by decide))
        have e134 : vi V127 x 32 = vi V119 x 32 := vi_up e126 (Or.inr (by decide))
        exact ih82  V127 ⟨by omega, trivial⟩ (by show ((vi V127 x 32 - vi V127 x 31)).toNat < ((vi W81 x 32 - vi W81 x 31)).toNat; omega)
      ·
        refine GO.aload_n dX12_readsNumber_45 rfl rfl ?_
        refine GO.iconst dX12_readsNumber_46 ?_
        refine GO.aload_n dX12_readsNumber_47 rfl rfl ?_
        refine GO.getI h_x fl_RX12_443 rfl rfl dX12_readsNumber_48 (fun l136 u137 => ?_)
        refine GO.callV (ci := 11) (N := mX12_wrong) dX12_readsNumber_51 (RX12, TX12, 151) rfl gV_RX12_456 h_x (t_X12_wrong h_x (ir_c rfl) vi_ir) rfl [] rfl rfl (Nat.le_of_ble_eq_true rfl) rfl (k_is fun X138 V142 r139 h140 hF141 => ?_)
        have k143 := st_fr hF141 aq85 h_x (by decide +kernel) (by decide +kernel) (by decide +kernel) (by decide +kernel)
        have sS144 : sd V142 x = sd W81 x := k143.2.1.trans (rfl : sd W81 x = sd W81 x)
        have sQ145 : wt V142 x = wt W81 x := k143.2.2.trans (rfl : wt W81 x = wt W81 x)
        have e146 : vi V142 x 31 = vi W81 x 31 := vi_fr hF141 h_x h_x (by decide +kernel)
        have e147 : vi V142 x 34 = vi W81 x 34 := vi_fr hF141 h_x h_x (by decide +kernel)
        have q148 : -2147483648 ≤ vi W81 x 34 ∧ vi W81 x 34 ≤ 2147483647 := vi_ir
        exact GO.retz rfl rfl dX12_readsNumber_54 (by omega) ⟨rfl, _, rfl, r139, ⟨by omega, fun h => by omega, fun _ => trivial⟩⟩
  ·
    refine GO.aload_n dX12_readsNumber_17 rfl rfl ?_
    refine GO.iconst dX12_readsNumber_18 ?_
    refine GO.aload_n dX12_readsNumber_19 rfl rfl ?_
    refine GO.getI h_x fl_RX12_443 rfl rfl dX12_readsNumber_20 (fun l149 u150 => ?_)
    refine GO.callV (ci := 11) (N := mX12_wrong) dX12_readsNumber_23 (RX12, TX12, 151) rfl gV_RX12_456 h_x (t_X12_wrong h_x (ir_c rfl) vi_ir) rfl [] rfl rfl (Nat.le_of_ble_eq_true rfl) rfl (k_is fun X151 V155 r152 h153 hF154 => ?_)
    have k156 := st_fr hF154 k10.1 h_x (by decide +kernel) (by decide +kernel) (by decide +kernel) (by decide +kernel)
    have sS157 : sd V155 x = sd V x := k156.2.1.trans sS11
    have sQ158 : wt V155 x = wt V x := k156.2.2.trans sQ12
    have e159 : vi V155 x 31 = vi V9 x 31 := vi_fr hF154 h_x h_x (by decide +kernel)
    have e161 : vi V9 x 34 = 0 := upd2_int e8 (ir_c rfl)
    have e160 : vi V155 x 34 = vi V9 x 34 := vi_fr hF154 h_x h_x (by decide +kernel)
    exact GO.retz rfl rfl dX12_readsNumber_26 (by omega) ⟨rfl, _, rfl, r152, ⟨by omega, fun h => by omega, fun _ => trivial⟩⟩

set_option maxHeartbeats 1000000 in
theorem t_X12_says {K : Kmap} {V : Vmap} {x : Nat} {p0 : Int} {p1 : Int} (h_x : K x = some (0, 11)) (r_p0 : ir p0) (r_p1 : ir p1) (q_0 : p0 ≥ 0) (q_1 : p0 ≤ 12) (q_2 : p1 ≥ 0) (q_3 : p1 ≤ 1048575) (v_36 : 0 ≤ vi V x 36 ∧ vi V x 36 ≤ 219) : MC mX12_says K V [.ref x, ti p0, ti p1] (VS K (fun V1 => (vi V1 x 36 = (vi V x 36 + 1)) ∧ (sd V1 x = updf (sd V x) (vi V x 36).toNat (1048576 * p0 + p1)) ∧ (wt V1 x = wt V x))) := by
  refine MC.start 0 (by decide +kernel) rfl rfl rfl (ls0 := [some (.ref x), some (ti p0), some (ti p1)]) rfl ?_
  refine GO.useWT (fun hW1 => ?_)
  have aq2 := hW1.aq h_x
  refine GO.aload_n dX12_says_0 rfl rfl ?_
  refine GO.getA (n := 220) h_x fl_RX12_88 rfl rfl rfl rfl dX12_says_1 (fun hv4 h3 => ?_)
  refine GO.aload_n dX12_says_4 rfl rfl ?_
  refine GO.getI h_x fl_RX12_466 rfl rfl dX12_says_5 (fun l5 u6 => ?_)
  refine GO.ldcw (X := 1048576) dX12_says_8 gw_2078 rfl ?_
  refine GO.iload_n dX12_says_11 rfl rfl ?_
  refine GO.imul dX12_says_12 ?_
  refine GO.iload_n dX12_says_13 rfl rfl ?_
  refine GO.iadd dX12_says_14 ?_
  have q8 : -2147483648 ≤ p1 ∧ p1 ≤ 2147483647 := r_p1
  have q9 : -2147483648 ≤ p0 ∧ p0 ≤ 2147483647 := r_p0
  refine GO.iast (t := 32) rfl rfl (by decide +kernel) h3 vi_ir (by omega) (by omega) ⟨by omega, by omega⟩ (by omega) (by omega) dX12_says_15 (fun V10 e7 => ?_)
  have k11 := st_sd e7 aq2 h_x (vq_of hv4) ⟨by omega, by omega⟩
  have sS12 : sd V10 x = updf (sd V x) (vi V x 36).toNat ((1048576 * p0) + p1) := k11.2.1.trans (congrArg (fun f => updf f (vi V x 36).toNat ((1048576 * p0) + p1)) (rfl : sd V x = sd V x))
  have sQ13 : wt V10 x = wt V x := k11.2.2.trans (rfl : wt V x = wt V x)
  refine GO.aload_n dX12_says_16 rfl rfl ?_
  refine GO.aload_n dX12_says_17 rfl rfl ?_
  refine GO.getI h_x fl_RX12_466 rfl rfl dX12_says_18 (fun l14 u15 => ?_)
  have e16 : vi V10 x 36 = vi V x 36 := vi_up e7 (Or.inl (K_ne h_x h3 (by decide)))
  refine GO.iconst dX12_says_21 ?_
  refine GO.iadd dX12_says_22 ?_
  refine GO.putI h_x fp_RX12_466 rfl (by decide +kernel) ⟨by omega, by omega⟩ (by omega) (by omega) dX12_says_23 (fun V18 e17 => ?_)
  have k19 := st_fld e17 k11.1 h_x (by decide) (by decide)
  have sS20 : sd V18 x = updf (sd V x) (vi V x 36).toNat ((1048576 * p0) + p1) := k19.2.1.trans sS12
  have sQ21 : wt V18 x = wt V x := k19.2.2.trans sQ13
  have e22 : vi V18 x 36 = (vi V10 x 36) + 1 := upd2_int e17 ⟨by omega, by omega⟩
  exact GO.retv rfl rfl dX12_says_26 ⟨rfl, rfl, ⟨by omega, sS20, sQ21⟩⟩

set_option maxHeartbeats 1000000 in
theorem t_X12_opens {K : Kmap} {V : Vmap} {x : Nat} {p0 : Int} (h_x : K x = some (0, 11)) (r_p0 : ir p0) (q_0 : p0 ≥ 10) (q_1 : p0 ≤ 14) (q_2 : vi V x 31 < vi V x 32) (v_37 : 0 ≤ vi V x 37 ∧ vi V x 37 ≤ 219) : MC mX12_opens K V [.ref x, ti p0] (IS K (fun X V1 => (X = 0 ∨ X = 1) ∧ (X ≠ 0 → vi V1 x 37 = (vi V x 37 + 1) ∧ vi V1 x 31 = (vi V x 31 + 1)) ∧ (X = 0 → True) ∧ (X ≠ 0 → sd V1 x = sd V x ∧ wt V1 x = updf (wt V x) (vi V x 37).toNat (1048576 * p0)))) := by
  refine MC.start 0 (by decide +kernel) rfl rfl rfl (ls0 := [some (.ref x), some (ti p0)]) rfl ?_
  refine GO.useWT (fun hW1 => ?_)
  have aq2 := hW1.aq h_x
  have hrd := (hW1).rd h_x
  refine GO.aload_n dX12_opens_0 rfl rfl ?_
  refine GO.getI h_x fl_RX12_470 rfl rfl dX12_opens_1 (fun _ _ => ?_)
  refine GO.bipush dX12_opens_4 rfl ?_
  refine GO.icmp_ne (tgt := 19) dX12_opens_6 (by decide) vi_ir (ir_c rfl) (fun c3 => ?_) (fun c3 => ?_)
  ·
    refine GO.aload_n dX12_opens_19 rfl rfl ?_
    refine GO.aload_n dX12_opens_20 rfl rfl ?_
    refine GO.getI h_x fl_RX12_470 rfl rfl dX12_opens_21 (fun _ _ => ?_)
    refine GO.iconst dX12_opens_24 ?_
    refine GO.iadd dX12_opens_25 ?_
    refine GO.norm (fun z4 r5 _ => ?_)
    refine GO.putI h_x fp_RX12_470 rfl (by decide +kernel) r5 (r5).1 (r5).2 dX12_opens_26 (fun V7 e6 => ?_)
    have k8 := st_fld e6 aq2 h_x (by decide) (by decide)
    have sS9 : sd V7 x = sd V x := k8.2.1.trans (rfl : sd V x = sd V x)
    have sQ10 : wt V7 x = wt V x := k8.2.2.trans (rfl : wt V x = wt V x)
    refine GO.aload_n dX12_opens_29 rfl rfl ?_
    refine GO.getA (n := 220) h_x fl_RX12_91 rfl rfl rfl rfl dX12_opens_30 (fun hv12 h11 => ?_)
    refine GO.aload_n dX12_opens_33 rfl rfl ?_
    refine GO.getI h_x fl_RX12_473 rfl rfl dX12_opens_34 (fun l13 u14 => ?_)
    have e15 : vi V7 x 37 = vi V x 37 := vi_up e6 (Or.inr (by decide))
    refine GO.ldcw (X := 1048576) dX12_opens_37 gw_2078 rfl ?_
    refine GO.iload_n dX12_opens_40 rfl rfl ?_
    refine GO.imul dX12_opens_41 ?_
    have q17 : -2147483648 ≤ p0 ∧ p0 ≤ 2147483647 := r_p0
    refine GO.iast (t := 33) rfl rfl (by decide +kernel) h11 vi_ir (by omega) (by omega) ⟨by omega, by omega⟩ (by omega) (by omega) dX12_opens_42 (fun V18 e16 => ?_)
    have k19 := st_wt e16 k8.1 h_x (vq_of hv12) ⟨by omega, by omega⟩
    have sS20 : sd V18 x = sd V x := k19.2.1.trans sS9
    have sQ21 : wt V18 x = updf (wt V x) (vi V7 x 37).toNat (1048576 * p0) := k19.2.2.trans (congrArg (fun f => updf f (vi V7 x 37).toNat (1048576 * p0)) sQ10)
    refine GO.aload_n dX12_opens_43 rfl rfl ?_
    refine GO.aload_n dX12_opens_44 rfl rfl ?_
    refine GO.getI h_x fl_RX12_473 rfl rfl dX12_opens_45 (fun l22 u23 => ?_)
    have e24 : vi V18 x 37 = vi V7 x 37 := vi_up e16 (Or.inl (K_ne h_x h11 (by decide)))
    refine GO.iconst dX12_opens_48 ?_
    refine GO.iadd dX12_opens_49 ?_
    refine GO.putI h_x fp_RX12_473 rfl (by decide +kernel) ⟨by omega, by omega⟩ (by omega) (by omega) dX12_opens_50 (fun V26 e25 => ?_)
    have k27 := st_fld e25 k19.1 h_x (by decide) (by decide)
    have sS28 : sd V26 x = sd V x := k27.2.1.trans sS20
    have sQ29 : wt V26 x = updf (wt V x) (vi V7 x 37).toNat (1048576 * p0) := k27.2.2.trans sQ21
    refine GO.aload_n dX12_opens_53 rfl rfl ?_
    refine GO.aload_n dX12_opens_54 rfl rfl ?_
    refine GO.getI h_x fl_RX12_443 rfl rfl dX12_opens_55 (fun l30 u31 => ?_)
    have e34 : vi V7 x 31 = vi V x 31 := vi_up e6 (Or.inr (by decide))
    have e33 : vi V18 x 31 = vi V7 x 31 := vi_up e16 (Or.inl (K_ne h_x h11 (by decide)))
    have e32 : vi V26 x 31 = vi V18 x 31 := vi_up e25 (Or.inr (by decide))
    refine GO.iconst dX12_opens_58 ?_
    refine GO.iadd dX12_opens_59 ?_
    have q36 : -2147483648 ≤ vi V x 31 ∧ vi V x 31 ≤ 2147483647 := vi_ir
    have q37 : -2147483648 ≤ vi V x 32 ∧ vi V x 32 ≤ 2147483647 := vi_ir
    refine GO.putI h_x fp_RX12_443 rfl (by decide +kernel) ⟨by omega, by omega⟩ (by omega) (by omega) dX12_opens_60 (fun V38 e35 => ?_)
    have k39 := st_fld e35 k27.1 h_x (by decide) (by decide)
    have sS40 : sd V38 x = sd V x := k39.2.1.trans sS28
    have sQ41 : wt V38 x = updf (wt V x) (vi V7 x 37).toNat (1048576 * p0) := k39.2.2.trans sQ29
    refine GO.iconst dX12_opens_63 ?_
    have e43 : vi V26 x 37 = (vi V18 x 37) + 1 := upd2_int e25 ⟨by omega, by omega⟩
    have e42 : vi V38 x 37 = vi V26 x 37 := vi_up e35 (Or.inr (by decide))
    have e44 : vi V38 x 31 = (vi V26 x 31) + 1 := upd2_int e35 ⟨by omega, by omega⟩
    exact GO.retz rfl rfl dX12_opens_64 (Or.inr rfl) ⟨rfl, _, rfl, (ir_c rfl), ⟨Or.inr rfl, fun h => by omega, fun _ => trivial, (by first | exact fun h => absurd h (by decide) | exact fun _ => ⟨sS40, (sQ41).trans (upd_ix (by omega))⟩)⟩⟩
  ·
    refine GO.aload_n dX12_opens_9 rfl rfl ?_
    refine GO.iconst dX12_opens_10 ?_
    refine GO.aload_n dX12_opens_11 rfl rfl ?_
    refine GO.getI h_x fl_RX12_443 rfl rfl dX12_opens_12 (fun l45 u46 => ?_)
    refine GO.callV (ci := 11) (N := mX12_wrong) dX12_opens_15 (RX12, TX12, 151) rfl gV_RX12_456 h_x (t_X12_wrong h_x (ir_c rfl) vi_ir) rfl [] rfl rfl (Nat.le_of_ble_eq_true rfl) rfl (k_is fun X47 V51 r48 h49 hF50 => ?_)
    have k52 := st_fr hF50 aq2 h_x (by decide +kernel) (by decide +kernel) (by decide +kernel) (by decide +kernel)
    have sS53 : sd V51 x = sd V x := k52.2.1.trans (rfl : sd V x = sd V x)
    have sQ54 : wt V51 x = wt V x := k52.2.2.trans (rfl : wt V x = wt V x)
    have e55 : vi V51 x 37 = vi V x 37 := vi_fr hF50 h_x h_x (by decide +kernel)
    have e56 : vi V51 x 31 = vi V x 31 := vi_fr hF50 h_x h_x (by decide +kernel)
    have q57 : -2147483648 ≤ vi V x 31 ∧ vi V x 31 ≤ 2147483647 := vi_ir
    have q58 : -2147483648 ≤ vi V x 32 ∧ vi V x 32 ≤ 2147483647 := vi_ir
    exact GO.retz rfl rfl dX12_opens_18 (by omega) ⟨rfl, _, rfl, r48, ⟨by omega, fun h => by omega, fun _ => trivial, (by first | exact fun h => absurd h (by omega) | exact fun _ => ⟨sS53, (sQ54).trans (upd_ix (by omega))⟩)⟩⟩

set_option maxHeartbeats 1000000 in
theorem t_X12_top {K : Kmap} {V : Vmap} {x : Nat} (h_x : K x = some (0, 11)) : MC mX12_top K V [.ref x] (IP K V (fun X => X ≥ (-1) ∧ X ≤ 15 ∧ X = topf V x ∧ (X ≠ (-1) → vi V x 37 ≥ 1))) := by
  refine MC.start 0 (by decide +kernel) rfl rfl rfl (ls0 := [some (.ref x)]) rfl ?_
  refine GO.aload_n dX12_top_0 rfl rfl ?_
  refine GO.getI h_x fl_RX12_473 rfl rfl dX12_top_1 (fun l1 u2 => ?_)
  refine GO.if_ne (tgt := 11) dX12_top_4 (by decide) vi_ir (fun c3 => ?_) (fun c3 => ?_)
  ·
    refine GO.aload_n dX12_top_11 rfl rfl ?_
    refine GO.getA (n := 220) h_x fl_RX12_91 rfl rfl rfl rfl dX12_top_12 (fun hv5 h4 => ?_)
    refine GO.aload_n dX12_top_15 rfl rfl ?_
    refine GO.getI h_x fl_RX12_473 rfl rfl dX12_top_16 (fun l6 u7 => ?_)
    refine GO.iconst dX12_top_19 ?_
    refine GO.isub dX12_top_20 ?_
    have hs := top_yes (V := V) (x := x) rfl (by omega)
    refine GO.iald (t := 33) rfl rfl h4 ⟨by omega, by omega⟩ (by omega) (by omega) dX12_top_21 (fun l8 u9 => ?_)
    refine GO.ldcw (X := 1048576) dX12_top_22 gw_2078 rfl ?_
    refine GO.idivP dX12_top_25 vi_ir (ir_c rfl) (by omega) (by omega) ?_
    exact GO.reti rfl rfl dX12_top_26 ⟨rfl, rfl, _, rfl, ⟨by omega, by omega⟩, by omega⟩
  ·
    have hs := top_no (V := V) (x := x) (by omega)
    refine GO.iconst dX12_top_7 ?_
    refine GO.goto (tgt := 26) dX12_top_8 (by decide) ?_
    exact GO.reti rfl rfl dX12_top_26 ⟨rfl, rfl, _, rfl, (ir_c rfl), by omega⟩

set_option maxHeartbeats 1000000 in
theorem t_X12_letterNumber {K : Kmap} {V : Vmap} {p0 : Int} (r_p0 : ir p0) : MC mX12_letterNumber K V [ti p0] (IP K V (fun X => (-1) ≤ X ∧ X ≤ 13)) := by
  refine MC.start 0 (by decide +kernel) rfl rfl rfl (ls0 := [some (ti p0)]) rfl ?_
  refine GO.iload_n dX12_letterNumber_0 rfl rfl ?_
  have q1 : -2147483648 ≤ p0 ∧ p0 ≤ 2147483647 := r_p0
  rcases (show (p0 < 97 ∨ 121 < p0) ∨ p0 = 97 ∨ p0 = 98 ∨ p0 = 99 ∨ p0 = 100 ∨ p0 = 101 ∨ p0 = 102 ∨ p0 = 103 ∨ p0 = 104 ∨ p0 = 105 ∨ p0 = 106 ∨ p0 = 107 ∨ p0 = 108 ∨ p0 = 109 ∨ p0 = 110 ∨ p0 = 111 ∨ p0 = 112 ∨ p0 = 113 ∨ p0 = 114 ∨ p0 = 115 ∨ p0 = 116 ∨ p0 = 117 ∨ p0 = 118 ∨ p0 = 119 ∨ p0 = 120 ∨ p0 = 121 by omega) with c2 | c2 | c2 | c2 | c2 | c2 | c2 | c2 | c2 | c2 | c2 | c2 | c2 | c2 | c2 | c2 | c2 | c2 | c2 | c2 | c2 | c2 | c2 | c2 | c2 | c2
  ·
    refine GO.tableOut (tgt := 152) dX12_letterNumber_1 r_p0 c2 (by decide) ?_
    refine GO.iconst dX12_letterNumber_152 ?_
    exact GO.reti rfl rfl dX12_letterNumber_153 ⟨rfl, rfl, _, rfl, (ir_c rfl), ⟨by omega, by omega⟩⟩
  ·
    refine GO.tableAt (n := 97) (tgt := 116) dX12_letterNumber_1 (ir_c rfl) c2 (by decide) (by decide) rfl (by decide) ?_
    refine GO.iconst dX12_letterNumber_116 ?_
    exact GO.reti rfl rfl dX12_letterNumber_117 ⟨rfl, rfl, _, rfl, (ir_c rfl), ⟨by omega, by omega⟩⟩
  ·
    refine GO.tableAt (n := 98) (tgt := 120) dX12_letterNumber_1 (ir_c rfl) c2 (by decide) (by decide) rfl (by decide) ?_
    refine GO.iconst dX12_letterNumber_120 ?_
    exact GO.reti rfl rfl dX12_letterNumber_121 ⟨rfl, rfl, _, rfl, (ir_c rfl), ⟨by omega, by omega⟩⟩
  ·
    refine GO.tableAt (n := 99) (tgt := 152) dX12_letterNumber_1 (ir_c rfl) c2 (by decide) (by decide) rfl (by decide) ?_
    refine GO.iconst dX12_letterNumber_152 ?_
    exact GO.reti rfl rfl dX12_letterNumber_153 ⟨rfl, rfl, _, rfl, (ir_c rfl), ⟨by omega, by omega⟩⟩
  ·
    refine GO.tableAt (n := 100) (tgt := 143) dX12_letterNumber_1 (ir_c rfl) c2 (by decide) (by decide) rfl (by decide) ?_
    refine GO.bipush dX12_letterNumber_143 rfl ?_
    exact GO.reti rfl rfl dX12_letterNumber_145 ⟨rfl, rfl, _, rfl, (ir_c rfl), ⟨by omega, by omega⟩⟩
  ·
    refine GO.tableAt (n := 101) (tgt := 140) dX12_letterNumber_1 (ir_c rfl) c2 (by decide) (by decide) rfl (by decide) ?_
    refine GO.bipush dX12_letterNumber_140 rfl ?_
    exact GO.reti rfl rfl dX12_letterNumber_142 ⟨rfl, rfl, _, rfl, (ir_c rfl), ⟨by omega, by omega⟩⟩
  ·
    refine GO.tableAt (n := 102) (tgt := 152) dX12_letterNumber_1 (ir_c rfl) c2 (by decide) (by decide) rfl (by decide) ?_
    refine GO.iconst dX12_letterNumber_152 ?_
    exact GO.reti rfl rfl dX12_letterNumber_153 ⟨rfl, rfl, _, rfl, (ir_c rfl), ⟨by omega, by omega⟩⟩
  ·
    refine GO.tableAt (n := 103) (tgt := 152) dX12_letterNumber_1 (ir_c rfl) c2 (by decide) (by decide) rfl (by decide) ?_
    refine GO.iconst dX12_letterNumber_152 ?_
    exact GO.reti rfl rfl dX12_letterNumber_153 ⟨rfl, rfl, _, rfl, (ir_c rfl), ⟨by omega, by omega⟩⟩
  ·
    refine GO.tableAt (n := 104) (tgt := 122) dX12_letterNumber_1 (ir_c rfl) c2 (by decide) (by decide) rfl (by decide) ?_
    refine GO.iconst dX12_letterNumber_122 ?_
    exact GO.reti rfl rfl dX12_letterNumber_123 ⟨rfl, rfl, _, rfl, (ir_c rfl), ⟨by omega, by omega⟩⟩
  ·
    refine GO.tableAt (n := 105) (tgt := 124) dX12_letterNumber_1 (ir_c rfl) c2 (by decide) (by decide) rfl (by decide) ?_
    refine GO.iconst dX12_letterNumber_124 ?_
    exact GO.reti rfl rfl dX12_letterNumber_125 ⟨rfl, rfl, _, rfl, (ir_c rfl), ⟨by omega, by omega⟩⟩
  ·
    refine GO.tableAt (n := 106) (tgt := 152) dX12_letterNumber_1 (ir_c rfl) c2 (by decide) (by decide) rfl (by decide) ?_
    refine GO.iconst dX12_letterNumber_152 ?_
    exact GO.reti rfl rfl dX12_letterNumber_153 ⟨rfl, rfl, _, rfl, (ir_c rfl), ⟨by omega, by omega⟩⟩
  ·
    refine GO.tableAt (n := 107) (tgt := 152) dX12_letterNumber_1 (ir_c rfl) c2 (by decide) (by decide) rfl (by decide) ?_
    refine GO.iconst dX12_letterNumber_152 ?_
    exact GO.reti rfl rfl dX12_letterNumber_153 ⟨rfl, rfl, _, rfl, (ir_c rfl), ⟨by omega, by omega⟩⟩
  ·
    refine GO.tableAt (n := 108) (tgt := 152) dX12_letterNumber_1 (ir_c rfl) c2 (by decide) (by decide) rfl (by decide) ?_
    refine GO.iconst dX12_letterNumber_152 ?_
    exact GO.reti rfl rfl dX12_letterNumber_153 ⟨rfl, rfl, _, rfl, (ir_c rfl), ⟨by omega, by omega⟩⟩
  ·
    refine GO.tableAt (n := 109) (tgt := 149) dX12_letterNumber_1 (ir_c rfl) c2 (by decide) (by decide) rfl (by decide) ?_
    refine GO.bipush dX12_letterNumber_149 rfl ?_
    exact GO.reti rfl rfl dX12_letterNumber_151 ⟨rfl, rfl, _, rfl, (ir_c rfl), ⟨by omega, by omega⟩⟩
  ·
    refine GO.tableAt (n := 110) (tgt := 131) dX12_letterNumber_1 (ir_c rfl) c2 (by decide) (by decide) rfl (by decide) ?_
    refine GO.bipush dX12_letterNumber_131 rfl ?_
    exact GO.reti rfl rfl dX12_letterNumber_133 ⟨rfl, rfl, _, rfl, (ir_c rfl), ⟨by omega, by omega⟩⟩
  ·
    refine GO.tableAt (n := 111) (tgt := 134) dX12_letterNumber_1 (ir_c rfl) c2 (by decide) (by decide) rfl (by decide) ?_
    refine GO.bipush dX12_letterNumber_134 rfl ?_
    exact GO.reti rfl rfl dX12_letterNumber_136 ⟨rfl, rfl, _, rfl, (ir_c rfl), ⟨by omega, by omega⟩⟩
  ·
    refine GO.tableAt (n := 112) (tgt := 118) dX12_letterNumber_1 (ir_c rfl) c2 (by decide) (by decide) rfl (by decide) ?_
    refine GO.iconst dX12_letterNumber_118 ?_
    exact GO.reti rfl rfl dX12_letterNumber_119 ⟨rfl, rfl, _, rfl, (ir_c rfl), ⟨by omega, by omega⟩⟩
  ·
    refine GO.tableAt (n := 113) (tgt := 152) dX12_letterNumber_1 (ir_c rfl) c2 (by decide) (by decide) rfl (by decide) ?_
    refine GO.iconst dX12_letterNumber_152 ?_
    exact GO.reti rfl rfl dX12_letterNumber_153 ⟨rfl, rfl, _, rfl, (ir_c rfl), ⟨by omega, by omega⟩⟩
  ·
    refine GO.tableAt (n := 114) (tgt := 126) dX12_letterNumber_1 (ir_c rfl) c2 (by decide) (by decide) rfl (by decide) ?_
    refine GO.iconst dX12_letterNumber_126 ?_
    exact GO.reti rfl rfl dX12_letterNumber_127 ⟨rfl, rfl, _, rfl, (ir_c rfl), ⟨by omega, by omega⟩⟩
  ·
    refine GO.tableAt (n := 115) (tgt := 128) dX12_letterNumber_1 (ir_c rfl) c2 (by decide) (by decide) rfl (by decide) ?_
    refine GO.bipush dX12_letterNumber_128 rfl ?_
    exact GO.reti rfl rfl dX12_letterNumber_130 ⟨rfl, rfl, _, rfl, (ir_c rfl), ⟨by omega, by omega⟩⟩
  ·
    refine GO.tableAt (n := 116) (tgt := 137) dX12_letterNumber_1 (ir_c rfl) c2 (by decide) (by decide) rfl (by decide) ?_
    refine GO.bipush dX12_letterNumber_137 rfl ?_
    exact GO.reti rfl rfl dX12_letterNumber_139 ⟨rfl, rfl, _, rfl, (ir_c rfl), ⟨by omega, by omega⟩⟩
  ·
    refine GO.tableAt (n := 117) (tgt := 152) dX12_letterNumber_1 (ir_c rfl) c2 (by decide) (by decide) rfl (by decide) ?_
    refine GO.iconst dX12_letterNumber_152 ?_
    exact GO.reti rfl rfl dX12_letterNumber_153 ⟨rfl, rfl, _, rfl, (ir_c rfl), ⟨by omega, by omega⟩⟩
  ·
    refine GO.tableAt (n := 118) (tgt := 152) dX12_letterNumber_1 (ir_c rfl) c2 (by decide) (by decide) rfl (by decide) ?_
    refine GO.iconst dX12_letterNumber_152 ?_
    exact GO.reti rfl rfl dX12_letterNumber_153 ⟨rfl, rfl, _, rfl, (ir_c rfl), ⟨by omega, by omega⟩⟩
  ·
    refine GO.tableAt (n := 119) (tgt := 152) dX12_letterNumber_1 (ir_c rfl) c2 (by decide) (by decide) rfl (by decide) ?_
    refine GO.iconst dX12_letterNumber_152 ?_
    exact GO.reti rfl rfl dX12_letterNumber_153 ⟨rfl, rfl, _, rfl, (ir_c rfl), ⟨by omega, by omega⟩⟩
  ·
    refine GO.tableAt (n := 120) (tgt := 152) dX12_letterNumber_1 (ir_c rfl) c2 (by decide) (by decide) rfl (by decide) ?_
    refine GO.iconst dX12_letterNumber_152 ?_
    exact GO.reti rfl rfl dX12_letterNumber_153 ⟨rfl, rfl, _, rfl, (ir_c rfl), ⟨by omega, by omega⟩⟩
  ·
    refine GO.tableAt (n := 121) (tgt := 146) dX12_letterNumber_1 (ir_c rfl) c2 (by decide) (by decide) rfl (by decide) ?_
    refine GO.bipush dX12_letterNumber_146 rfl ?_
    exact GO.reti rfl rfl dX12_letterNumber_148 ⟨rfl, rfl, _, rfl, (ir_c rfl), ⟨by omega, by omega⟩⟩

set_option maxHeartbeats 1000000 in
theorem t_X12_sumSign {K : Kmap} {V : Vmap} {p0 : Int} (r_p0 : ir p0) : MC mX12_sumSign K V [ti p0] (IP K V (fun X => X ≥ (-1) ∧ X ≤ 6 ∧ (X ≠ (-1) → X ≥ 2))) := by
  refine MC.start 0 (by decide +kernel) rfl rfl rfl (ls0 := [some (ti p0)]) rfl ?_
  refine GO.iload_n dX12_sumSign_0 rfl rfl ?_
  refine GO.bipush dX12_sumSign_1 rfl ?_
  refine GO.icmp_ne (tgt := 10) dX12_sumSign_3 (by decide) r_p0 (ir_c rfl) (fun c1 => ?_) (fun c1 => ?_)
  ·
    refine GO.iload_n dX12_sumSign_10 rfl rfl ?_
    refine GO.bipush dX12_sumSign_11 rfl ?_
    refine GO.icmp_ne (tgt := 20) dX12_sumSign_13 (by decide) r_p0 (ir_c rfl) (fun c2 => ?_) (fun c2 => ?_)
    ·
      refine GO.iload_n dX12_sumSign_20 rfl rfl ?_
      refine GO.bipush dX12_sumSign_21 rfl ?_
      refine GO.icmp_ne (tgt := 30) dX12_sumSign_23 (by decide) r_p0 (ir_c rfl) (fun c3 => ?_) (fun c3 => ?_)
      ·
        refine GO.iload_n dX12_sumSign_30 rfl rfl ?_
        refine GO.bipush dX12_sumSign_31 rfl ?_
        refine GO.icmp_ne (tgt := 40) dX12_sumSign_33 (by decide) r_p0 (ir_c rfl) (fun c4 => ?_) (fun c4 => ?_)
        ·
          refine GO.iload_n dX12_sumSign_40 rfl rfl ?_
          refine GO.bipush dX12_sumSign_41 rfl ?_
          refine GO.icmp_ne (tgt := 51) dX12_sumSign_43 (by decide) r_p0 (ir_c rfl) (fun c5 => ?_) (fun c5 => ?_)
          ·
            refine GO.iconst dX12_sumSign_51 ?_
            exact GO.reti rfl rfl dX12_sumSign_52 ⟨rfl, rfl, _, rfl, (ir_c rfl), by omega⟩
          ·
            refine GO.bipush dX12_sumSign_46 rfl ?_
            refine GO.goto (tgt := 52) dX12_sumSign_48 (by decide) ?_
            exact GO.reti rfl rfl dX12_sumSign_52 ⟨rfl, rfl, _, rfl, (ir_c rfl), by omega⟩
        ·
          refine GO.iconst dX12_sumSign_36 ?_
          refine GO.goto (tgt := 52) dX12_sumSign_37 (by decide) ?_
          exact GO.reti rfl rfl dX12_sumSign_52 ⟨rfl, rfl, _, rfl, (ir_c rfl), by omega⟩
      ·
        refine GO.iconst dX12_sumSign_26 ?_
        refine GO.goto (tgt := 52) dX12_sumSign_27 (by decide) ?_
        exact GO.reti rfl rfl dX12_sumSign_52 ⟨rfl, rfl, _, rfl, (ir_c rfl), by omega⟩
    ·
      refine GO.iconst dX12_sumSign_16 ?_
      refine GO.goto (tgt := 52) dX12_sumSign_17 (by decide) ?_
      exact GO.reti rfl rfl dX12_sumSign_52 ⟨rfl, rfl, _, rfl, (ir_c rfl), by omega⟩
  ·
    refine GO.iconst dX12_sumSign_6 ?_
    refine GO.goto (tgt := 52) dX12_sumSign_7 (by decide) ?_
    exact GO.reti rfl rfl dX12_sumSign_52 ⟨rfl, rfl, _, rfl, (ir_c rfl), by omega⟩

set_option maxHeartbeats 1000000 in
theorem t_X12_closesSums {K : Kmap} {V : Vmap} {x : Nat} {p0 : Int} {fr : Nat} {S0 : Nat → Int} {s z : Int} (h_x : K x = some (0, 11)) (r_p0 : ir p0) (z_p0 : p0 = 0 ∨ p0 = 1) (w_0 : RJ V x fr S0 s z) (w_1 : 1 ≤ z) : MC mX12_closesSums K V [.ref x, ti p0] (VS K (fun V1 => (vi V1 x 31 = vi V x 31 ∧ vi V1 x 36 ≥ vi V x 36 ∧ vi V1 x 37 ≤ vi V x 37 ∧ vi V1 x 37 ≥ 0) ∧ (RJ V1 x fr S0 s z) ∧ (CS V V1 x p0))) := by
  refine MC.start 0 (by decide +kernel) rfl rfl rfl (ls0 := [some (.ref x), some (ti p0)]) rfl ?_
  refine GO.useWT (fun hW1 => ?_)
  have aq2 := hW1.aq h_x
  have hrd := (hW1).rd h_x
  have hle := RJ.le (V := V) (x := x) (fr := fr) (S0 := S0) (s := s) (z := z) (by assumption)
  have q3 : -2147483648 ≤ vi V x 31 ∧ vi V x 31 ≤ 2147483647 := vi_ir
  have q4 : -2147483648 ≤ vi V x 37 ∧ vi V x 37 ≤ 2147483647 := vi_ir
  have q5 : -2147483648 ≤ vi V x 36 ∧ vi V x 36 ≤ 2147483647 := vi_ir
  refine GO.loop0 (fun  W => (vi W x 31 = vi V x 31 ∧ vi W x 36 ≥ vi V x 36 ∧ vi W x 37 ≤ vi V x 37 ∧ vi W x 37 ≥ 0) ∧ (RJ W x fr S0 s z) ∧ (CL V W x) ∧ True) (fun  W => (vi W x 37).toNat)  ⟨by omega, (by first | assumption), (by first | exact CL.rf (by omega)), trivial⟩ (fun W108 hp110 ih109 => ?_)
  obtain ⟨n_W108, w0_W108, w1_W108, -⟩ := hp110
  show GO mX12_closesSums K V (VS K (fun V1 => (vi V1 x 31 = vi V x 31 ∧ vi V1 x 36 ≥ vi V x 36 ∧ vi V1 x 37 ≤ vi V x 37 ∧ vi V1 x 37 ≥ 0) ∧ (RJ V1 x fr S0 s z) ∧ (CS V V1 x p0))) K W108 0 0 0 [some (.ref x), some (ti p0)] []
  refine GO.useWT (fun hW111 => ?_)
  have aq112 := hW111.aq h_x
  have hrd := (hW111).rd h_x
  have hle := RJ.le (V := W108) (x := x) (fr := fr) (S0 := S0) (s := s) (z := z) (by assumption)
  refine GO.aload_n dX12_closesSums_0 rfl rfl ?_
  refine GO.callV (ci := 11) (N := mX12_top) dX12_closesSums_1 (RX12, TX12, 151) rfl gV_RX12_476 h_x (t_X12_top h_x) rfl [] rfl rfl (Nat.le_of_ble_eq_true rfl) rfl (k_ip fun X113 r114 h115 => ?_)
  refine GO.iconst dX12_closesSums_4 ?_
  refine GO.icmp_lt (tgt := 17) dX12_closesSums_5 (by decide) r114 (ir_c rfl) (fun c116 => ?_) (fun c116 => ?_)
  ·
    refine GO.iload_n dX12_closesSums_17 rfl rfl ?_
    refine GO.if_eq (tgt := 59) dX12_closesSums_18 (by decide) r_p0 (fun c117 => ?_) (fun c117 => ?_)
    ·
      have q118 : -2147483648 ≤ vi W108 x 31 ∧ vi W108 x 31 ≤ 2147483647 := vi_ir
      have q119 : -2147483648 ≤ vi W108 x 37 ∧ vi W108 x 37 ≤ 2147483647 := vi_ir
      have q120 : -2147483648 ≤ vi W108 x 36 ∧ vi W108 x 36 ≤ 2147483647 := vi_ir
      exact GO.retv rfl rfl dX12_closesSums_59 ⟨rfl, rfl, ⟨by omega, (by first | assumption), (by first | exact CS.of (by assumption) (by omega))⟩⟩
    ·
      refine GO.aload_n dX12_closesSums_21 rfl rfl ?_
      refine GO.callV (ci := 11) (N := mX12_top) dX12_closesSums_22 (RX12, TX12, 151) rfl gV_RX12_476 h_x (t_X12_top h_x) rfl [] rfl rfl (Nat.le_of_ble_eq_true rfl) rfl (k_ip fun X121 r122 h123 => ?_)
      refine GO.iconst dX12_closesSums_25 ?_
      refine GO.icmp_eq (tgt := 37) dX12_closesSums_26 (by decide) r122 (ir_c rfl) (fun c124 => ?_) (fun c124 => ?_)
      ·
        refine GO.aload_n dX12_closesSums_37 rfl rfl ?_
        refine GO.aload_n dX12_closesSums_38 rfl rfl ?_
        refine GO.callV (ci := 11) (N := mX12_top) dX12_closesSums_39 (RX12, TX12, 151) rfl gV_RX12_476 h_x (t_X12_top h_x) rfl [.ref x] rfl rfl (Nat.le_of_ble_eq_true rfl) rfl (k_ip fun X125 r126 h127 => ?_)
        refine GO.iconst dX12_closesSums_42 ?_
        refine GO.callV (ci := 11) (N := mX12_says) dX12_closesSums_43 (RX12, TX12, 151) rfl gV_RX12_479 h_x (t_X12_says h_x r126 (ir_c rfl) (by omega) (by omega) (by omega) (by omega) ⟨by omega, by omega⟩) rfl [] rfl rfl (Nat.le_of_ble_eq_true rfl) rfl (k_vs fun V130 h129 hF128 => ?_)
        refine GO.useWT (fun hW131 => ?_)
        have aq132 := hW131.aq h_x
        have raw_says := h129.2
        refine GO.aload_n dX12_closesSums_46 rfl rfl ?_
        refine GO.aload_n dX12_closesSums_47 rfl rfl ?_
        refine GO.getI h_x fl_RX12_473 rfl rfl dX12_closesSums_48 (fun l134 u135 => ?_)
        have e136 : vi V130 x 37 = vi W108 x 37 := vi_fr hF128 h_x h_x (by decide +kernel)
        refine GO.iconst dX12_closesSums_51 ?_
        refine GO.isub dX12_closesSums_52 ?_
        have q138 : -2147483648 ≤ vi W108 x 37 ∧ vi W108 x 37 ≤ 2147483647 := vi_ir
        have q139 : -2147483648 ≤ vi W108 x 31 ∧ vi W108 x 31 ≤ 2147483647 := vi_ir
        have q140 : -2147483648 ≤ vi W108 x 36 ∧ vi W108 x 36 ≤ 2147483647 := vi_ir
        have q141 : -2147483648 ≤ vi V130 x 36 ∧ vi V130 x 36 ≤ 2147483647 := vi_ir
        refine GO.putI h_x fp_RX12_473 rfl (by decide +kernel) ⟨by omega, by omega⟩ (by omega) (by omega) dX12_closesSums_53 (fun V142 e137 => ?_)
        have k143 := st_fld e137 aq132 h_x (by decide) (by decide)
        have sS144 : sd V142 x = sd V130 x := k143.2.1.trans (rfl : sd V130 x = sd V130 x)
        have sQ145 : wt V142 x = wt V130 x := k143.2.2.trans (rfl : wt V130 x = wt V130 x)
        refine GO.goto (tgt := 0) dX12_closesSums_56 (by decide) ?_
        have e147 : vi V130 x 31 = vi W108 x 31 := vi_fr hF128 h_x h_x (by decide +kernel)
        have e146 : vi V142 x 31 = vi V130 x 31 := vi_up e137 (Or.inr (by decide))
        have e148 : vi V142 x 36 = vi V130 x 36 := vi_up e137 (Or.inr (by decide))
        have e149 : vi V142 x 37 = (vi V130 x 37) - 1 := upd2_int e137 ⟨by omega, by omega⟩
        exact ih109  V142 ⟨by omega, (by first | assumption | exact RJ.clo (by assumption) (by omega) (by omega) (by omega) ((sS144).trans raw_says.1) ((sQ145).trans raw_says.2) (by omega) (by omega) (by omega) (by omega)), (by first | exact CL.rf (by omega) | exact CL.step (by assumption) (by omega) ((sQ145).trans raw_says.2) (by omega) (by omega) trivial), trivial⟩ (by show (vi V142 x 37).toNat < (vi W108 x 37).toNat; omega)
      ·
        refine GO.aload_n dX12_closesSums_29 rfl rfl ?_
        refine GO.callV (ci := 11) (N := mX12_top) dX12_closesSums_30 (RX12, TX12, 151) rfl gV_RX12_476 h_x (t_X12_top h_x) rfl [] rfl rfl (Nat.le_of_ble_eq_true rfl) rfl (k_ip fun X150 r151 h152 => ?_)
        refine GO.iconst dX12_closesSums_33 ?_
        refine GO.icmp_ne (tgt := 59) dX12_closesSums_34 (by decide) r151 (ir_c rfl) (fun c153 => ?_) (fun c153 => ?_)
        ·
          have q154 : -2147483648 ≤ vi W108 x 31 ∧ vi W108 x 31 ≤ 2147483647 := vi_ir
          have q155 : -2147483648 ≤ vi W108 x 37 ∧ vi W108 x 37 ≤ 2147483647 := vi_ir
          have q156 : -2147483648 ≤ vi W108 x 36 ∧ vi W108 x 36 ≤ 2147483647 := vi_ir
          exact GO.retv rfl rfl dX12_closesSums_59 ⟨rfl, rfl, ⟨by omega, (by first | assumption), (by first | exact CS.of (by assumption) (by omega))⟩⟩
        ·
          refine GO.aload_n dX12_closesSums_37 rfl rfl ?_
          refine GO.aload_n dX12_closesSums_38 rfl rfl ?_
          refine GO.callV (ci := 11) (N := mX12_top) dX12_closesSums_39 (RX12, TX12, 151) rfl gV_RX12_476 h_x (t_X12_top h_x) rfl [.ref x] rfl rfl (Nat.le_of_ble_eq_true rfl) rfl (k_ip fun X157 r158 h159 => ?_)
          refine GO.iconst dX12_closesSums_42 ?_
          refine GO.callV (ci := 11) (N := mX12_says) dX12_closesSums_43 (RX12, TX12, 151) rfl gV_RX12_479 h_x (t_X12_says h_x r158 (ir_c rfl) (by omega) (by omega) (by omega) (by omega) ⟨by omega, by omega⟩) rfl [] rfl rfl (Nat.le_of_ble_eq_true rfl) rfl (k_vs fun V162 h161 hF160 => ?_)
          refine GO.useWT (fun hW163 => ?_)
          have aq164 := hW163.aq h_x
          have raw_says := h161.2
          refine GO.aload_n dX12_closesSums_46 rfl rfl ?_
          refine GO.aload_n dX12_closesSums_47 rfl rfl ?_
          refine GO.getI h_x fl_RX12_473 rfl rfl dX12_closesSums_48 (fun l166 u167 => ?_)
          have e168 : vi V162 x 37 = vi W108 x 37 := vi_fr hF160 h_x h_x (by decide +kernel)
          refine GO.iconst dX12_closesSums_51 ?_
          refine GO.isub dX12_closesSums_52 ?_
          have q170 : -2147483648 ≤ vi W108 x 37 ∧ vi W108 x 37 ≤ 2147483647 := vi_ir
          have q171 : -2147483648 ≤ vi W108 x 31 ∧ vi W108 x 31 ≤ 2147483647 := vi_ir
          have q172 : -2147483648 ≤ vi W108 x 36 ∧ vi W108 x 36 ≤ 2147483647 := vi_ir
          have q173 : -2147483648 ≤ vi V162 x 36 ∧ vi V162 x 36 ≤ 2147483647 := vi_ir
          refine GO.putI h_x fp_RX12_473 rfl (by decide +kernel) ⟨by omega, by omega⟩ (by omega) (by omega) dX12_closesSums_53 (fun V174 e169 => ?_)
          have k175 := st_fld e169 aq164 h_x (by decide) (by decide)
          have sS176 : sd V174 x = sd V162 x := k175.2.1.trans (rfl : sd V162 x = sd V162 x)
          have sQ177 : wt V174 x = wt V162 x := k175.2.2.trans (rfl : wt V162 x = wt V162 x)
          refine GO.goto (tgt := 0) dX12_closesSums_56 (by decide) ?_
          have e179 : vi V162 x 31 = vi W108 x 31 := vi_fr hF160 h_x h_x (by decide +kernel)
          have e178 : vi V174 x 31 = vi V162 x 31 := vi_up e169 (Or.inr (by decide))
          have e180 : vi V174 x 36 = vi V162 x 36 := vi_up e169 (Or.inr (by decide))
          have e181 : vi V174 x 37 = (vi V162 x 37) - 1 := upd2_int e169 ⟨by omega, by omega⟩
          exact ih109  V174 ⟨by omega, (by first | assumption | exact RJ.clo (by assumption) (by omega) (by omega) (by omega) ((sS176).trans raw_says.1) ((sQ177).trans raw_says.2) (by omega) (by omega) (by omega) (by omega)), (by first | exact CL.rf (by omega) | exact CL.step (by assumption) (by omega) ((sQ177).trans raw_says.2) (by omega) (by omega) trivial), trivial⟩ (by show (vi V174 x 37).toNat < (vi W108 x 37).toNat; omega)
  ·
    refine GO.aload_n dX12_closesSums_8 rfl rfl ?_
    refine GO.callV (ci := 11) (N := mX12_top) dX12_closesSums_9 (RX12, TX12, 151) rfl gV_RX12_476 h_x (t_X12_top h_x) rfl [] rfl rfl (Nat.le_of_ble_eq_true rfl) rfl (k_ip fun X182 r183 h184 => ?_)
    refine GO.bipush dX12_closesSums_12 rfl ?_
    refine GO.icmp_le (tgt := 37) dX12_closesSums_14 (by decide) r183 (ir_c rfl) (fun c185 => ?_) (fun c185 => ?_)
    ·
      refine GO.aload_n dX12_closesSums_37 rfl rfl ?_
      refine GO.aload_n dX12_closesSums_38 rfl rfl ?_
      refine GO.callV (ci := 11) (N := mX12_top) dX12_closesSums_39 (RX12, TX12, 151) rfl gV_RX12_476 h_x (t_X12_top h_x) rfl [.ref x] rfl rfl (Nat.le_of_ble_eq_true rfl) rfl (k_ip fun X186 r187 h188 => ?_)
      refine GO.iconst dX12_closesSums_42 ?_
      refine GO.callV (ci := 11) (N := mX12_says) dX12_closesSums_43 (RX12, TX12, 151) rfl gV_RX12_479 h_x (t_X12_says h_x r187 (ir_c rfl) (by omega) (by omega) (by omega) (by omega) ⟨by omega, by omega⟩) rfl [] rfl rfl (Nat.le_of_ble_eq_true rfl) rfl (k_vs fun V191 h190 hF189 => ?_)
      refine GO.useWT (fun hW192 => ?_)
      have aq193 := hW192.aq h_x
      have raw_says := h190.2
      refine GO.aload_n dX12_closesSums_46 rfl rfl ?_
      refine GO.aload_n dX12_closesSums_47 rfl rfl ?_
      refine GO.getI h_x fl_RX12_473 rfl rfl dX12_closesSums_48 (fun l195 u196 => ?_)
      have e197 : vi V191 x 37 = vi W108 x 37 := vi_fr hF189 h_x h_x (by decide +kernel)
      refine GO.iconst dX12_closesSums_51 ?_
      refine GO.isub dX12_closesSums_52 ?_
      have q199 : -2147483648 ≤ vi W108 x 37 ∧ vi W108 x 37 ≤ 2147483647 := vi_ir
      have q200 : -2147483648 ≤ vi W108 x 31 ∧ vi W108 x 31 ≤ 2147483647 := vi_ir
      have q201 : -2147483648 ≤ vi W108 x 36 ∧ vi W108 x 36 ≤ 2147483647 := vi_ir
      have q202 : -2147483648 ≤ vi V191 x 36 ∧ vi V191 x 36 ≤ 2147483647 := vi_ir
      refine GO.putI h_x fp_RX12_473 rfl (by decide +kernel) ⟨by omega, by omega⟩ (by omega) (by omega) dX12_closesSums_53 (fun V203 e198 => ?_)
      have k204 := st_fld e198 aq193 h_x (by decide) (by decide)
      have sS205 : sd V203 x = sd V191 x := k204.2.1.trans (rfl : sd V191 x = sd V191 x)
      have sQ206 : wt V203 x = wt V191 x := k204.2.2.trans (rfl : wt V191 x = wt V191 x)
      refine GO.goto (tgt := 0) dX12_closesSums_56 (by decide) ?_
      have e208 : vi V191 x 31 = vi W108 x 31 := vi_fr hF189 h_x h_x (by decide +kernel)
      have e207 : vi V203 x 31 = vi V191 x 31 := vi_up e198 (Or.inr (by decide))
      have e209 : vi V203 x 36 = vi V191 x 36 := vi_up e198 (Or.inr (by decide))
      have e210 : vi V203 x 37 = (vi V191 x 37) - 1 := upd2_int e198 ⟨by omega, by omega⟩
      exact ih109  V203 ⟨by omega, (by first | assumption | exact RJ.clo (by assumption) (by omega) (by omega) (by omega) ((sS205).trans raw_says.1) ((sQ206).trans raw_says.2) (by omega) (by omega) (by omega) (by omega)), (by first | exact CL.rf (by omega) | exact CL.step (by assumption) (by omega) ((sQ206).trans raw_says.2) (by omega) (by omega) trivial), trivial⟩ (by show (vi V203 x 37).toNat < (vi W108 x 37).toNat; omega)
    ·
      refine GO.iload_n dX12_closesSums_17 rfl rfl ?_
      refine GO.if_eq (tgt := 59) dX12_closesSums_18 (by decide) r_p0 (fun c211 => ?_) (fun c211 => ?_)
      ·
        have q212 : -2147483648 ≤ vi W108 x 31 ∧ vi W108 x 31 ≤ 2147483647 := vi_ir
        have q213 : -2147483648 ≤ vi W108 x 37 ∧ vi W108 x 37 ≤ 2147483647 := vi_ir
        have q214 : -2147483648 ≤ vi W108 x 36 ∧ vi W108 x 36 ≤ 2147483647 := vi_ir
        exact GO.retv rfl rfl dX12_closesSums_59 ⟨rfl, rfl, ⟨by omega, (by first | assumption), (by first | exact CS.of (by assumption) (by omega))⟩⟩
      ·
        refine GO.aload_n dX12_closesSums_21 rfl rfl ?_
        refine GO.callV (ci := 11) (N := mX12_top) dX12_closesSums_22 (RX12, TX12, 151) rfl gV_RX12_476 h_x (t_X12_top h_x) rfl [] rfl rfl (Nat.le_of_ble_eq_true rfl) rfl (k_ip fun X215 r216 h217 => ?_)
        refine GO.iconst dX12_closesSums_25 ?_
        refine GO.icmp_eq (tgt := 37) dX12_closesSums_26 (by decide) r216 (ir_c rfl) (fun h => by exfalso; omega) (fun c218 => ?_)
        refine GO.aload_n dX12_closesSums_29 rfl rfl ?_
        refine GO.callV (ci := 11) (N := mX12_top) dX12_closesSums_30 (RX12, TX12, 151) rfl gV_RX12_476 h_x (t_X12_top h_x) rfl [] rfl rfl (Nat.le_of_ble_eq_true rfl) rfl (k_ip fun X219 r220 h221 => ?_)
        refine GO.iconst dX12_closesSums_33 ?_
        refine GO.icmp_ne (tgt := 59) dX12_closesSums_34 (by decide) r220 (ir_c rfl) (fun c222 => ?_) (fun h => by exfalso; omega)
        have q223 : -2147483648 ≤ vi W108 x 31 ∧ vi W108 x 31 ≤ 2147483647 := vi_ir
        have q224 : -2147483648 ≤ vi W108 x 37 ∧ vi W108 x 37 ≤ 2147483647 := vi_ir
        have q225 : -2147483648 ≤ vi W108 x 36 ∧ vi W108 x 36 ≤ 2147483647 := vi_ir
        exact GO.retv rfl rfl dX12_closesSums_59 ⟨rfl, rfl, ⟨by omega, (by first | assumption), (by first | exact CS.of (by assumption) (by omega))⟩⟩

set_option maxHeartbeats 1000000 in
theorem t_X12_readsFactor {K : Kmap} {V : Vmap} {x : Nat} {fr : Nat} {S0 : Nat → Int} {s z : Int} (h_x : K x = some (0, 11)) (q_0 : vi V x 37 ≥ 1) (w_0 : RJ V x fr S0 s z) : MC mX12_readsFactor K V [.ref x] (IS K (fun X V1 => (X = 0 ∨ X = 1) ∧ (X ≠ 0 → vi V1 x 31 ≥ (vi V x 31 + 1) ∧ vi V1 x 37 ≥ vi V x 37) ∧ (X = 0 → True) ∧ (X ≠ 0 → RJ V1 x fr S0 s (z + 1)) ∧ (X ≠ 0 → GF V V1 x))) := by
  refine MC.start 1 (by decide +kernel) rfl rfl rfl (ls0 := [some (.ref x), none]) rfl ?_
  refine GO.useWT (fun hW1 => ?_)
  have aq2 := hW1.aq h_x
  have hrd := (hW1).rd h_x
  have hle := RJ.le (V := V) (x := x) (fr := fr) (S0 := S0) (s := s) (z := z) (by assumption)
  have q3 : -2147483648 ≤ vi V x 31 ∧ vi V x 31 ≤ 2147483647 := vi_ir
  have q4 : -2147483648 ≤ vi V x 37 ∧ vi V x 37 ≤ 2147483647 := vi_ir
  have q5 : -2147483648 ≤ vi V x 36 ∧ vi V x 36 ≤ 2147483647 := vi_ir
  refine GO.loop0 (fun  W => (vi W x 31 ≥ vi V x 31 ∧ vi W x 37 ≥ vi V x 37 ∧ vi W x 36 ≥ 0) ∧ (RJ W x fr S0 s z) ∧ (GF V W x) ∧ True) (fun  W => ((vi W x 32 - vi W x 31)).toNat)  ⟨by omega, (by first | assumption), (by first | exact GF.rf), trivial⟩ (fun W126 hp128 ih127 => ?_)
  obtain ⟨n_W126, w0_W126, w1_W126, -⟩ := hp128
  show GO mX12_readsFactor K V (IS K (fun X V1 => (X = 0 ∨ X = 1) ∧ (X ≠ 0 → vi V1 x 31 ≥ (vi V x 31 + 1) ∧ vi V1 x 37 ≥ vi V x 37) ∧ (X = 0 → True) ∧ (X ≠ 0 → RJ V1 x fr S0 s (z + 1)) ∧ (X ≠ 0 → GF V V1 x))) K W126 0 0 0 [some (.ref x), none] []
  refine GO.useWT (fun hW129 => ?_)
  have aq130 := hW129.aq h_x
  have hrd := (hW129).rd h_x
  have hle := RJ.le (V := W126) (x := x) (fr := fr) (S0 := S0) (s := s) (z := z) (by assumption)
  refine GO.aload_n dX12_readsFactor_0 rfl rfl ?_
  refine GO.callV (ci := 11) (N := mX12_sign) dX12_readsFactor_1 (RX12, TX12, 151) rfl gV_RX12_449 h_x (t_X12_sign h_x) rfl [] rfl rfl (Nat.le_of_ble_eq_true rfl) rfl (k_ip fun X131 r132 h133 => ?_)
  refine GO.bipush dX12_readsFactor_4 rfl ?_
  refine GO.icmp_ne (tgt := 20) dX12_readsFactor_6 (by decide) r132 (ir_c rfl) (fun c134 => ?_) (fun c134 => ?_)
  ·
    refine GO.aload_n dX12_readsFactor_20 rfl rfl ?_
    refine GO.callV (ci := 11) (N := mX12_isDigit) dX12_readsFactor_21 (RX12, TX12, 151) rfl gV_RX12_462 h_x (t_X12_isDigit h_x) rfl [] rfl rfl (Nat.le_of_ble_eq_true rfl) rfl (k_ip fun X135 r136 h137 => ?_)
    have raw_isDigit := h137.2.2.2
    refine GO.if_eq (tgt := 50) dX12_readsFactor_24 (by decide) r136 (fun c138 => ?_) (fun c138 => ?_)
    ·
      refine GO.aload_n dX12_readsFactor_50 rfl rfl ?_
      refine GO.callV (ci := 11) (N := mX12_sign) dX12_readsFactor_51 (RX12, TX12, 151) rfl gV_RX12_449 h_x (t_X12_sign h_x) rfl [] rfl rfl (Nat.le_of_ble_eq_true rfl) rfl (k_ip fun X139 r140 h141 => ?_)
      refine GO.iconst dX12_readsFactor_54 ?_
      refine GO.icmp_ne (tgt := 62) dX12_readsFactor_55 (by decide) r140 (ir_c rfl) (fun c142 => ?_) (fun c142 => ?_)
      ·
        refine GO.aload_n dX12_readsFactor_62 rfl rfl ?_
        refine GO.callV (ci := 11) (N := mX12_sign) dX12_readsFactor_63 (RX12, TX12, 151) rfl gV_RX12_449 h_x (t_X12_sign h_x) rfl [] rfl rfl (Nat.le_of_ble_eq_true rfl) rfl (k_ip fun X143 r144 h145 => ?_)
        refine GO.callS (N := mX12_letterNumber) dX12_readsFactor_66 gS_RX12_489 (t_X12_letterNumber r144) rfl [] rfl rfl (Nat.le_of_ble_eq_true rfl) rfl (k_ip fun X146 r147 h148 => ?_)
        refine GO.istore_n (ls1 := [some (.ref x), some (ti X146)]) dX12_readsFactor_69 rfl rfl rfl ?_
        refine GO.iload_n dX12_readsFactor_70 rfl rfl ?_
        refine GO.iconst dX12_readsFactor_71 ?_
        refine GO.icmp_ne (tgt := 85) dX12_readsFactor_72 (by decide) r147 (ir_c rfl) (fun c149 => ?_) (fun c149 => ?_)
        ·
          refine GO.aload_n dX12_readsFactor_85 rfl rfl ?_
          refine GO.iconst dX12_readsFactor_86 ?_
          refine GO.iload_n dX12_readsFactor_87 rfl rfl ?_
          refine GO.callV (ci := 11) (N := mX12_says) dX12_readsFactor_88 (RX12, TX12, 151) rfl gV_RX12_479 h_x (t_X12_says h_x (ir_c rfl) r147 (by omega) (by omega) (by omega) (by omega) ⟨by omega, by omega⟩) rfl [] rfl rfl (Nat.le_of_ble_eq_true rfl) rfl (k_vs fun V152 h151 hF150 => ?_)
          refine GO.useWT (fun hW153 => ?_)
          have aq154 := hW153.aq h_x
          have raw_says := h151.2
          refine GO.aload_n dX12_readsFactor_91 rfl rfl ?_
          refine GO.aload_n dX12_readsFactor_92 rfl rfl ?_
          refine GO.getI h_x fl_RX12_443 rfl rfl dX12_readsFactor_93 (fun l156 u157 => ?_)
          have e158 : vi V152 x 31 = vi W126 x 31 := vi_fr hF150 h_x h_x (by decide +kernel)
          refine GO.iconst dX12_readsFactor_96 ?_
          refine GO.iadd dX12_readsFactor_97 ?_
          have q160 : -2147483648 ≤ vi W126 x 31 ∧ vi W126 x 31 ≤ 2147483647 := vi_ir
          have q161 : -2147483648 ≤ vi W126 x 32 ∧ vi W126 x 32 ≤ 2147483647 := vi_ir
          have q162 : -2147483648 ≤ vi W126 x 37 ∧ vi W126 x 37 ≤ 2147483647 := vi_ir
          have q163 : -2147483648 ≤ vi W126 x 36 ∧ vi W126 x 36 ≤ 2147483647 := vi_ir
          have q164 : -2147483648 ≤ vi V152 x 36 ∧ vi V152 x 36 ≤ 2147483647 := vi_ir
          refine GO.putI h_x fp_RX12_443 rfl (by decide +kernel) ⟨by omega, by omega⟩ (by omega) (by omega) dX12_readsFactor_98 (fun V165 e159 => ?_)
          have k166 := st_fld e159 aq154 h_x (by decide) (by decide)
          have sS167 : sd V165 x = sd V152 x := k166.2.1.trans (rfl : sd V152 x = sd V152 x)
          have sQ168 : wt V165 x = wt V152 x := k166.2.2.trans (rfl : wt V152 x = wt V152 x)
          have e169 : vi V165 x 31 = (vi V152 x 31) + 1 := upd2_int e159 ⟨by omega, by omega⟩
          have e170 : vi V165 x 36 = vi V152 x 36 := vi_up e159 (Or.inr (by decide))
          have e172 : vi V152 x 37 = vi W126 x 37 := vi_fr hF150 h_x h_x (by decide +kernel)
          have e171 : vi V165 x 37 = vi V152 x 37 := vi_up e159 (Or.inr (by decide))
          refine GO.iconst dX12_readsFactor_101 ?_
          exact GO.retz rfl rfl dX12_readsFactor_102 (Or.inr rfl) ⟨rfl, _, rfl, (ir_c rfl), ⟨Or.inr rfl, fun h => by omega, fun _ => trivial, (by first | exact fun h => absurd h (by decide) | exact fun _ => RJ.num (by assumption) (upd_eq (sS167) raw_says.1 ((rfl : sd W126 x = sd W126 x)) (by omega)) ((sQ168).trans (raw_says.2.trans ((rfl : wt W126 x = wt W126 x)))) (by omega) (by omega) (by omega) (by omega) (by omega) (by omega)), (by first | exact fun h => absurd h (by decide) | exact fun _ => GF.same (by assumption) ((sQ168).trans (raw_says.2.trans ((rfl : wt W126 x = wt W126 x)))) (by omega))⟩⟩
        ·
          refine GO.aload_n dX12_readsFactor_75 rfl rfl ?_
          refine GO.iconst dX12_readsFactor_76 ?_
          refine GO.aload_n dX12_readsFactor_77 rfl rfl ?_
          refine GO.getI h_x fl_RX12_443 rfl rfl dX12_readsFactor_78 (fun l173 u174 => ?_)
          refine GO.callV (ci := 11) (N := mX12_wrong) dX12_readsFactor_81 (RX12, TX12, 151) rfl gV_RX12_456 h_x (t_X12_wrong h_x (ir_c rfl) vi_ir) rfl [] rfl rfl (Nat.le_of_ble_eq_true rfl) rfl (k_is fun X175 V179 r176 h177 hF178 => ?_)
          have k180 := st_fr hF178 aq130 h_x (by decide +kernel) (by decide +kernel) (by decide +kernel) (by decide +kernel)
          have sS181 : sd V179 x = sd W126 x := k180.2.1.trans (rfl : sd W126 x = sd W126 x)
          have sQ182 : wt V179 x = wt W126 x := k180.2.2.trans (rfl : wt W126 x = wt W126 x)
          have e183 : vi V179 x 31 = vi W126 x 31 := vi_fr hF178 h_x h_x (by decide +kernel)
          have q184 : -2147483648 ≤ vi W126 x 31 ∧ vi W126 x 31 ≤ 2147483647 := vi_ir
          have q185 : -2147483648 ≤ vi W126 x 32 ∧ vi W126 x 32 ≤ 2147483647 := vi_ir
          have q186 : -2147483648 ≤ vi W126 x 37 ∧ vi W126 x 37 ≤ 2147483647 := vi_ir
          have q187 : -2147483648 ≤ vi W126 x 36 ∧ vi W126 x 36 ≤ 2147483647 := vi_ir
          have e188 : vi V179 x 37 = vi W126 x 37 := vi_fr hF178 h_x h_x (by decide +kernel)
          exact GO.retz rfl rfl dX12_readsFactor_84 (by omega) ⟨rfl, _, rfl, r176, ⟨by omega, fun h => by omega, fun _ => trivial, (by first | exact fun h => absurd h (by omega)), (by first | exact fun h => absurd h (by omega))⟩⟩
      ·
        refine GO.iconst dX12_readsFactor_58 ?_
        refine GO.goto (tgt := 69) dX12_readsFactor_59 (by decide) ?_
        refine GO.istore_n (ls1 := [some (.ref x), some (ti (-1))]) dX12_readsFactor_69 rfl rfl rfl ?_
        refine GO.iload_n dX12_readsFactor_70 rfl rfl ?_
        refine GO.iconst dX12_readsFactor_71 ?_
        refine GO.icmp_ne (tgt := 85) dX12_readsFactor_72 (by decide) (ir_c rfl) (ir_c rfl) (fun h => by exfalso; omega) (fun c189 => ?_)
        refine GO.aload_n dX12_readsFactor_75 rfl rfl ?_
        refine GO.iconst dX12_readsFactor_76 ?_
        refine GO.aload_n dX12_readsFactor_77 rfl rfl ?_
        refine GO.getI h_x fl_RX12_443 rfl rfl dX12_readsFactor_78 (fun l190 u191 => ?_)
        refine GO.callV (ci := 11) (N := mX12_wrong) dX12_readsFactor_81 (RX12, TX12, 151) rfl gV_RX12_456 h_x (t_X12_wrong h_x (ir_c rfl) vi_ir) rfl [] rfl rfl (Nat.le_of_ble_eq_true rfl) rfl (k_is fun X192 V196 r193 h194 hF195 => ?_)
        have k197 := st_fr hF195 aq130 h_x (by decide +kernel) (by decide +kernel) (by decide +kernel) (by decide +kernel)
        have sS198 : sd V196 x = sd W126 x := k197.2.1.trans (rfl : sd W126 x = sd W126 x)
        have sQ199 : wt V196 x = wt W126 x := k197.2.2.trans (rfl : wt W126 x = wt W126 x)
        have e200 : vi V196 x 31 = vi W126 x 31 := vi_fr hF195 h_x h_x (by decide +kernel)
        have q201 : -2147483648 ≤ vi W126 x 31 ∧ vi W126 x 31 ≤ 2147483647 := vi_ir
        have q202 : -2147483648 ≤ vi W126 x 37 ∧ vi W126 x 37 ≤ 2147483647 := vi_ir
        have q203 : -2147483648 ≤ vi W126 x 36 ∧ vi W126 x 36 ≤ 2147483647 := vi_ir
        have e204 : vi V196 x 37 = vi W126 x 37 := vi_fr hF195 h_x h_x (by decide +kernel)
        exact GO.retz rfl rfl dX12_readsFactor_84 (by omega) ⟨rfl, _, rfl, r193, ⟨by omega, fun h => by omega, fun _ => trivial, (by first | exact fun h => absurd h (by omega)), (by first | exact fun h => absurd h (by omega))⟩⟩
    ·
      have q205 := h137.2.1 (by omega)
      refine GO.aload_n dX12_readsFactor_27 rfl rfl ?_
      refine GO.ldcw (X := 999999) dX12_readsFactor_28 gw_2095 rfl ?_
      refine GO.callV (ci := 11) (N := mX12_readsNumber) dX12_readsFactor_31 (RX12, TX12, 151) rfl gV_RX12_486 h_x (t_X12_readsNumber h_x (ir_c rfl)) rfl [] rfl rfl (Nat.le_of_ble_eq_true rfl) rfl (k_is fun X206 V210 r207 h208 hF209 => ?_)
      have k211 := st_fr hF209 aq130 h_x (by decide +kernel) (by decide +kernel) (by decide +kernel) (by decide +kernel)
      have sS212 : sd V210 x = sd W126 x := k211.2.1.trans (rfl : sd W126 x = sd W126 x)
      have sQ213 : wt V210 x = wt W126 x := k211.2.2.trans (rfl : wt W126 x = wt W126 x)
      refine GO.if_ne (tgt := 39) dX12_readsFactor_34 (by decide) r207 (fun c216 => ?_) (fun c216 => ?_)
      ·
        have q217 := h208.2.1 (by omega)
        refine GO.aload_n dX12_readsFactor_39 rfl rfl ?_
        refine GO.iconst dX12_readsFactor_40 ?_
        refine GO.aload_n dX12_readsFactor_41 rfl rfl ?_
        refine GO.getI h_x fl_RX12_459 rfl rfl dX12_readsFactor_42 (fun _ _ => ?_)
        have q218 : -2147483648 ≤ vi V210 x 34 ∧ vi V210 x 34 ≤ 2147483647 := vi_ir
        have e219 : vi V210 x 36 = vi W126 x 36 := vi_fr hF209 h_x h_x (by decide +kernel)
        refine GO.callV (ci := 11) (N := mX12_says) dX12_readsFactor_45 (RX12, TX12, 151) rfl gV_RX12_479 h_x (t_X12_says h_x (ir_c rfl) vi_ir (by omega) (by omega) (by omega) (by omega) ⟨by omega, by omega⟩) rfl [] rfl rfl (Nat.le_of_ble_eq_true rfl) rfl (k_vs fun V222 h221 hF220 => ?_)
        refine GO.useWT (fun hW223 => ?_)
        have aq224 := hW223.aq h_x
        have raw_says := h221.2
        have e226 : vi V222 x 31 = vi V210 x 31 := vi_fr hF220 h_x h_x (by decide +kernel)
        have e228 : vi V210 x 37 = vi W126 x 37 := vi_fr hF209 h_x h_x (by decide +kernel)
        have e227 : vi V222 x 37 = vi V210 x 37 := vi_fr hF220 h_x h_x (by decide +kernel)
        have hrd := (hW223).rd h_x
        refine GO.iconst dX12_readsFactor_48 ?_
        have q229 : -2147483648 ≤ vi V210 x 31 ∧ vi V210 x 31 ≤ 2147483647 := vi_ir
        have q230 : -2147483648 ≤ vi W126 x 31 ∧ vi W126 x 31 ≤ 2147483647 := vi_ir
        have q231 : -2147483648 ≤ vi W126 x 32 ∧ vi W126 x 32 ≤ 2147483647 := vi_ir
        have q232 : -2147483648 ≤ vi W126 x 37 ∧ vi W126 x 37 ≤ 2147483647 := vi_ir
        have q233 : -2147483648 ≤ vi W126 x 36 ∧ vi W126 x 36 ≤ 2147483647 := vi_ir
        have q234 : -2147483648 ≤ vi V222 x 36 ∧ vi V222 x 36 ≤ 2147483647 := vi_ir
        exact GO.retz rfl rfl dX12_readsFactor_49 (Or.inr rfl) ⟨rfl, _, rfl, (ir_c rfl), ⟨Or.inr rfl, fun h => by omega, fun _ => trivial, (by first | exact fun h => absurd h (by decide) | exact fun _ => RJ.num (by assumption) (upd_eq ((rfl : sd V222 x = sd V222 x)) raw_says.1 (sS212) (by omega)) (((rfl : wt V222 x = wt V222 x)).trans (raw_says.2.trans (sQ213))) (by omega) (by omega) (by omega) (by omega) (by omega) (by omega)), (by first | exact fun h => absurd h (by decide) | exact fun _ => GF.same (by assumption) (((rfl : wt V222 x = wt V222 x)).trans (raw_says.2.trans (sQ213))) (by omega))⟩⟩
      ·
        refine GO.iconst dX12_readsFactor_37 ?_
        have q235 : -2147483648 ≤ vi V210 x 31 ∧ vi V210 x 31 ≤ 2147483647 := vi_ir
        have q236 : -2147483648 ≤ vi W126 x 31 ∧ vi W126 x 31 ≤ 2147483647 := vi_ir
        have q237 : -2147483648 ≤ vi W126 x 32 ∧ vi W126 x 32 ≤ 2147483647 := vi_ir
        have q238 : -2147483648 ≤ vi W126 x 37 ∧ vi W126 x 37 ≤ 2147483647 := vi_ir
        have q239 : -2147483648 ≤ vi W126 x 36 ∧ vi W126 x 36 ≤ 2147483647 := vi_ir
        have e240 : vi V210 x 37 = vi W126 x 37 := vi_fr hF209 h_x h_x (by decide +kernel)
        exact GO.retz rfl rfl dX12_readsFactor_38 (Or.inl rfl) ⟨rfl, _, rfl, (ir_c rfl), ⟨Or.inl rfl, fun h => absurd rfl h, fun _ => trivial, (by first | exact fun h => absurd rfl h), (by first | exact fun h => absurd rfl h)⟩⟩
  ·
    refine GO.aload_n dX12_readsFactor_9 rfl rfl ?_
    refine GO.bipush dX12_readsFactor_10 rfl ?_
    have q241 : -2147483648 ≤ vi W126 x 32 ∧ vi W126 x 32 ≤ 2147483647 := vi_ir
    have q242 : -2147483648 ≤ vi W126 x 31 ∧ vi W126 x 31 ≤ 2147483647 := vi_ir
    have q243 : -2147483648 ≤ vi W126 x 37 ∧ vi W126 x 37 ≤ 2147483647 := vi_ir
    have q244 : -2147483648 ≤ vi W126 x 36 ∧ vi W126 x 36 ≤ 2147483647 := vi_ir
    refine GO.callV (ci := 11) (N := mX12_opens) dX12_readsFactor_12 (RX12, TX12, 151) rfl gV_RX12_482 h_x (t_X12_opens h_x (ir_c rfl) (by omega) (by omega) (by omega) ⟨by omega, by omega⟩) rfl [] rfl rfl (Nat.le_of_ble_eq_true rfl) rfl (k_is fun X245 V249 r246 h247 hF248 => ?_)
    refine GO.useWT (fun hW250 => ?_)
    have aq251 := hW250.aq h_x
    have raw_opens := h247.2.2.2
    refine GO.if_ne (tgt := 0) dX12_readsFactor_15 (by decide) r246 (fun c254 => ?_) (fun c254 => ?_)
    ·
      have q255 := h247.2.1 (by omega)
      have q256 : -2147483648 ≤ vi V249 x 31 ∧ vi V249 x 31 ≤ 2147483647 := vi_ir
      have q257 : -2147483648 ≤ vi V249 x 37 ∧ vi V249 x 37 ≤ 2147483647 := vi_ir
      have e258 : vi V249 x 36 = vi W126 x 36 := vi_fr hF248 h_x h_x (by decide +kernel)
      have e259 : vi V249 x 32 = vi W126 x 32 := vi_fr hF248 h_x h_x (by decide +kernel)
      exact ih127  V249 ⟨by omega, (by first | assumption | exact RJ.pushO (by assumption) (Or.inr (Or.inr rfl)) (fun _ => by omega) (((rfl : sd V249 x = sd V249 x)).trans (raw_opens (by omega)).1) (((rfl : wt V249 x = wt V249 x)).trans (raw_opens (by omega)).2) (by omega) (by omega) (by omega)), (by first | exact GF.rf | exact GF.push (by assumption) (by omega) (((rfl : wt V249 x = wt V249 x)).trans (raw_opens (by omega)).2) (by omega)), trivial⟩ (by show ((vi V249 x 32 - vi V249 x 31)).toNat < ((vi W126 x 32 - vi W126 x 31)).toNat; omega)
    ·
      refine GO.iconst dX12_readsFactor_18 ?_
      have q260 : -2147483648 ≤ vi V249 x 31 ∧ vi V249 x 31 ≤ 2147483647 := vi_ir
      have q261 : -2147483648 ≤ vi V249 x 37 ∧ vi V249 x 37 ≤ 2147483647 := vi_ir
      exact GO.retz rfl rfl dX12_readsFactor_19 (Or.inl rfl) ⟨rfl, _, rfl, (ir_c rfl), ⟨Or.inl rfl, fun h => absurd rfl h, fun _ => trivial, (by first | exact fun h => absurd rfl h), (by first | exact fun h => absurd rfl h)⟩⟩
