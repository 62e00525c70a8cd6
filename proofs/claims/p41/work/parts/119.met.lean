def mX12_sumSign : MRec := (RX12, cX12_sumSign, 1, (some .int), yX12_sumSign, 0, 0, 0, 0, 0)
def mX12_closesSums : MRec := (RX12, cX12_closesSums, 2, (none : Option Jvm.ClassFile.FieldType), yX12_closesSums, 1, 22, 0, 0, 16296287810675888690147565507275025288411747286343268504861272176430503465258226742210854912)
def mX12_readsFactor : MRec := (RX12, cX12_readsFactor, 2, (some .boolean), yX12_readsFactor, 3, 62, 0, 0, 48888863432027666070442696521825075865235241626388431603512355916790897375506972996244865024)
def mX12_hasOpenSum : MRec := (RX12, cX12_hasOpenSum, 3, (some .boolean), yX12_hasOpenSum, 0, 0, 0, 0, 0)
def mX12_readsSum : MRec := (RX12, cX12_readsSum, 3, (some .boolean), yX12_readsSum, 4, 83, 0, 0, 48888863432027666070442696521825075865235241626388431603512355916790897375506972996244865024)
set_option maxHeartbeats 1000000 in
theorem t_X12_sumSign {K : Kmap} {V : Vmap} {p0 : Int} (r_p0 : ir p0) : MC mX12_sumSign K V [ti p0] (IP K V (fun X => (X ≥ (-1) ∧ X ≤ 6 ∧ (X ≠ (-1) → X ≥ 2)) ∧ (X = sumN p0))) := by
  refine MC.start 0 (by decide +kernel) rfl rfl rfl (ls0 := [some (ti p0)]) rfl ?_
  refine GO.iload_n dX12_sumSign_0 rfl rfl ?_
  refine GO.bipush dX12_sumSign_1 rfl ?_
  refine GO.icmp_ne (tgt := 10) dX12_sumSign_3 (by decide) r_p0 (ir_c rfl) (fun c1 => ?_) (fun c1 => ?_)
  ·
    refine GO.iload_n dX12_sumSign_10 rfl rfl ?_
    refine GO.bipush dX12_sumSign_11 rfl ?_
    refine GO.icmp_ne (tgt := 20) dX12_sumSign_13 (by decide) r_p0 (ir_c rfl) (fun c2 => ?_) (fun c2 => ?_)
    ·
      refine GO.iload_n dX12_sumSign_20 rfl rfl ?_
      refine GO.bipush dX12_sumSign_21 rfl ?_
      refine GO.icmp_ne (tgt := 30) dX12_sumSign_23 (by decide) r_p0 (ir_c rfl) (fun c3 => ?_) (fun c3 => ?_)
      ·
        refine GO.iload_n dX12_sumSign_30 rfl rfl ?_
        refine GO.bipush dX12_sumSign_31 rfl ?_
        refine GO.icmp_ne (tgt := 40) dX12_sumSign_33 (by decide) r_p0 (ir_c rfl) (fun c4 => ?_) (fun c4 => ?_)
        ·
          refine GO.iload_n dX12_sumSign_40 rfl rfl ?_
          refine GO.bipush dX12_sumSign_41 rfl ?_
          refine GO.icmp_ne (tgt := 51) dX12_sumSign_43 (by decide) r_p0 (ir_c rfl) (fun c5 => ?_) (fun c5 => ?_)
          ·
            refine GO.iconst dX12_sumSign_51 ?_
            exact GO.reti rfl rfl dX12_sumSign_52 ⟨rfl, rfl, _, rfl, (ir_c rfl), ⟨(by first | exact trivial | omega), (by first | (rw [show p0 = 43 by omega]; decide) | (rw [show p0 = 45 by omega]; decide) | (rw [show p0 = 42 by omega]; decide) | (rw [show p0 = 47 by omega]; decide) | (rw [show p0 = 37 by omega]; decide) | exact (sumN_none (by omega)).symm)⟩⟩
          ·
            refine GO.bipush dX12_sumSign_46 rfl ?_
            refine GO.goto (tgt := 52) dX12_sumSign_48 (by decide) ?_
            exact GO.reti rfl rfl dX12_sumSign_52 ⟨rfl, rfl, _, rfl, (ir_c rfl), ⟨(by first | exact trivial | omega), (by first | (rw [show p0 = 43 by omega]; decide) | (rw [show p0 = 45 by omega]; decide) | (rw [show p0 = 42 by omega]; decide) | (rw [show p0 = 47 by omega]; decide) | (rw [show p0 = 37 by omega]; decide) | exact (sumN_none (by omega)).symm)⟩⟩
        ·
          refine GO.iconst dX12_sumSign_36 ?_
          refine GO.goto (tgt := 52) dX12_sumSign_37 (by decide) ?_
          exact GO.reti rfl rfl dX12_sumSign_52 ⟨rfl, rfl, _, rfl, (ir_c rfl), ⟨(by first | exact trivial | omega), (by first | (rw [show p0 = 43 by omega]; decide) | (rw [show p0 = 45 by omega]; decide) | (rw [show p0 = 42 by omega]; decide) | (rw [show p0 = 47 by omega]; decide) | (rw [show p0 = 37 by omega]; decide) | exact (sumN_none (by omega)).symm)⟩⟩
      ·
        refine GO.iconst dX12_sumSign_26 ?_
        refine GO.goto (tgt := 52) dX12_sumSign_27 (by decide) ?_
        exact GO.reti rfl rfl dX12_sumSign_52 ⟨rfl, rfl, _, rfl, (ir_c rfl), ⟨(by first | exact trivial | omega), (by first | (rw [show p0 = 43 by omega]; decide) | (rw [show p0 = 45 by omega]; decide) | (rw [show p0 = 42 by omega]; decide) | (rw [show p0 = 47 by omega]; decide) | (rw [show p0 = 37 by omega]; decide) | exact (sumN_none (by omega)).symm)⟩⟩
    ·
      refine GO.iconst dX12_sumSign_16 ?_
      refine GO.goto (tgt := 52) dX12_sumSign_17 (by decide) ?_
      exact GO.reti rfl rfl dX12_sumSign_52 ⟨rfl, rfl, _, rfl, (ir_c rfl), ⟨(by first | exact trivial | omega), (by first | (rw [show p0 = 43 by omega]; decide) | (rw [show p0 = 45 by omega]; decide) | (rw [show p0 = 42 by omega]; decide) | (rw [show p0 = 47 by omega]; decide) | (rw [show p0 = 37 by omega]; decide) | exact (sumN_none (by omega)).symm)⟩⟩
  ·
    refine GO.iconst dX12_sumSign_6 ?_
    refine GO.goto (tgt := 52) dX12_sumSign_7 (by decide) ?_
    exact GO.reti rfl rfl dX12_sumSign_52 ⟨rfl, rfl, _, rfl, (ir_c rfl), ⟨(by first | exact trivial | omega), (by first | (rw [show p0 = 43 by omega]; decide) | (rw [show p0 = 45 by omega]; decide) | (rw [show p0 = 42 by omega]; decide) | (rw [show p0 = 47 by omega]; decide) | (rw [show p0 = 37 by omega]; decide) | exact (sumN_none (by omega)).symm)⟩⟩

set_option maxHeartbeats 1000000 in
theorem t_X12_closesSums {K : Kmap} {V : Vmap} {x : Nat} {p0 : Int} {fr : Nat} {S0 : Nat → Int} {s z : Int} (h_x : K x = some (0, 11)) (r_p0 : ir p0) (z_p0 : p0 = 0 ∨ p0 = 1) (w_0 : RJ V x fr S0 s z) (w_1 : 1 ≤ z) : MC mX12_closesSums K V [.ref x, ti p0] (VS K (fun V1 => (vi V1 x 31 = vi V x 31 ∧ vi V1 x 36 ≥ vi V x 36 ∧ vi V1 x 37 ≤ vi V x 37 ∧ vi V1 x 37 ≥ 0) ∧ ((RJ V1 x fr S0 s z) ∧ (CS V V1 x p0)) ∧ (CK V V1 x p0) ∧ ((¬ (4 ≤ topf V1 x ∧ topf V1 x ≤ 6)) ∧ (p0 ≠ 0 → ¬ (2 ≤ topf V1 x ∧ topf V1 x ≤ 3))))) := by
  refine MC.start 0 (by decide +kernel) rfl rfl rfl (ls0 := [some (.ref x), some (ti p0)]) rfl ?_
  refine GO.useWT (fun hW1 => ?_)
  have aq2 := hW1.aq h_x
  have hrd := (hW1).rd h_x
  have hle := RJ.le (V := V) (x := x) (fr := fr) (S0 := S0) (s := s) (z := z) (by assumption)
  have q3 : -2147483648 ≤ vi V x 31 ∧ vi V x 31 ≤ 2147483647 := vi_ir
  have q4 : -2147483648 ≤ vi V x 37 ∧ vi V x 37 ≤ 2147483647 := vi_ir
  have q5 : -2147483648 ≤ vi V x 36 ∧ vi V x 36 ≤ 2147483647 := vi_ir
  refine GO.loop0 (fun  W => (vi W x 31 = vi V x 31 ∧ vi W x 36 ≥ vi V x 36 ∧ vi W x 37 ≤ vi V x 37 ∧ vi W x 37 ≥ 0) ∧ (RJ W x fr S0 s z) ∧ (CL V W x) ∧ (CK V W x p0) ∧ True) (fun  W => (vi W x 37).toNat)  ⟨by omega, (by first | assumption), (by first | exact CL.rf (by omega)), (by first | exact CK.rf), trivial⟩ (fun W108 hp110 ih109 => ?_)
  obtain ⟨n_W108, w0_W108, w1_W108, hck, -⟩ := hp110
  show GO mX12_closesSums K V (VS K (fun V1 => (vi V1 x 31 = vi V x 31 ∧ vi V1 x 36 ≥ vi V x 36 ∧ vi V1 x 37 ≤ vi V x 37 ∧ vi V1 x 37 ≥ 0) ∧ ((RJ V1 x fr S0 s z) ∧ (CS V V1 x p0)) ∧ (CK V V1 x p0) ∧ ((¬ (4 ≤ topf V1 x ∧ topf V1 x ≤ 6)) ∧ (p0 ≠ 0 → ¬ (2 ≤ topf V1 x ∧ topf V1 x ≤ 3))))) K W108 0 0 0 [some (.ref x), some (ti p0)] []
  refine GO.useWT (fun hW111 => ?_)
  have aq112 := hW111.aq h_x
  have hrd := (hW111).rd h_x
  have hle := RJ.le (V := W108) (x := x) (fr := fr) (S0 := S0) (s := s) (z := z) (by assumption)
  refine GO.aload_n dX12_closesSums_0 rfl rfl ?_
  refine GO.callV (ci := 11) (N := mX12_top) dX12_closesSums_1 (RX12, TX12, 151) rfl gV_RX12_476 h_x (t_X12_top h_x) rfl [] rfl rfl (Nat.le_of_ble_eq_true rfl) rfl (k_ip fun X113 r114 h115 => ?_)
  refine GO.iconst dX12_closesSums_4 ?_
  refine GO.icmp_lt (tgt := 17) dX12_closesSums_5 (by decide) r114 (ir_c rfl) (fun c116 => ?_) (fun c116 => ?_)
  ·
    refine GO.iload_n dX12_closesSums_17 rfl rfl ?_
    refine GO.if_eq (tgt := 59) dX12_closesSums_18 (by decide) r_p0 (fun c117 => ?_) (fun c117 => ?_)
    ·
      have q118 : -2147483648 ≤ vi W108 x 31 ∧ vi W108 x 31 ≤ 2147483647 := vi_ir
      have q119 : -2147483648 ≤ vi W108 x 37 ∧ vi W108 x 37 ≤ 2147483647 := vi_ir
      have q120 : -2147483648 ≤ vi W108 x 36 ∧ vi W108 x 36 ≤ 2147483647 := vi_ir
      exact GO.retv rfl rfl dX12_closesSums_59 ⟨rfl, rfl, ⟨by omega, ⟨(by first | assumption), (by first | exact CS.of (by assumption) (by omega))⟩, (by first | exact CK.rf | exact hck), ⟨by omega, fun hq => by omega⟩⟩⟩
    ·
      refine GO.aload_n dX12_closesSums_21 rfl rfl ?_
      refine GO.callV (ci := 11) (N := mX12_top) dX12_closesSums_22 (RX12, TX12, 151) rfl gV_RX12_476 h_x (t_X12_top h_x) rfl [] rfl rfl (Nat.le_of_ble_eq_true rfl) rfl (k_ip fun X121 r122 h123 => ?_)
      refine GO.iconst dX12_closesSums_25 ?_
      refine GO.icmp_eq (tgt := 37) dX12_closesSums_26 (by decide) r122 (ir_c rfl) (fun c124 => ?_) (fun c124 => ?_)
      ·
        refine GO.aload_n dX12_closesSums_37 rfl rfl ?_
        refine GO.aload_n dX12_closesSums_38 rfl rfl ?_
        refine GO.callV (ci := 11) (N := mX12_top) dX12_closesSums_39 (RX12, TX12, 151) rfl gV_RX12_476 h_x (t_X12_top h_x) rfl [.ref x] rfl rfl (Nat.le_of_ble_eq_true rfl) rfl (k_ip fun X125 r126 h127 => ?_)
        refine GO.iconst dX12_closesSums_42 ?_
        refine GO.callV (ci := 11) (N := mX12_says) dX12_closesSums_43 (RX12, TX12, 151) rfl gV_RX12_479 h_x (t_X12_says h_x r126 (ir_c rfl) (by omega) (by omega) (by omega) (by omega) ⟨by omega, by omega⟩) rfl [] rfl rfl (Nat.le_of_ble_eq_true rfl) rfl (k_vs fun V130 h129 hF128 => ?_)
        refine GO.useWT (fun hW131 => ?_)
        have aq132 := hW131.aq h_x
        have raw_says := h129.2
        have rw43 := h129.2
        refine GO.aload_n dX12_closesSums_46 rfl rfl ?_
        refine GO.aload_n dX12_closesSums_47 rfl rfl ?_
        refine GO.getI h_x fl_RX12_473 rfl rfl dX12_closesSums_48 (fun l134 u135 => ?_)
        have e136 : vi V130 x 37 = vi W108 x 37 := vi_fr hF128 h_x h_x (by decide +kernel)
        refine GO.iconst dX12_closesSums_51 ?_
        refine GO.isub dX12_closesSums_52 ?_
        have q138 : -2147483648 ≤ vi W108 x 37 ∧ vi W108 x 37 ≤ 2147483647 := vi_ir
        have q139 : -2147483648 ≤ vi W108 x 31 ∧ vi W108 x 31 ≤ 2147483647 := vi_ir
        have q140 : -2147483648 ≤ vi W108 x 36 ∧ vi W108 x 36 ≤ 2147483647 := vi_ir
        have q141 : -2147483648 ≤ vi V130 x 36 ∧ vi V130 x 36 ≤ 2147483647 := vi_ir
        refine GO.putI h_x fp_RX12_473 rfl (by decide +kernel) ⟨by omega, by omega⟩ (by omega) (by omega) dX12_closesSums_53 (fun V142 e137 => ?_)
        have k143 := st_fld e137 aq132 h_x (by decide) (by decide)
        have sS144 : sd V142 x = sd V130 x := k143.2.1.trans (rfl : sd V130 x = sd V130 x)
        have sQ145 : wt V142 x = wt V130 x := k143.2.2.trans (rfl : wt V130 x = wt V130 x)
        refine GO.goto (tgt := 0) dX12_closesSums_56 (by decide) ?_
        have e147 : vi V130 x 31 = vi W108 x 31 := vi_fr hF128 h_x h_x (by decide +kernel)
        have e146 : vi V142 x 31 = vi V130 x 31 := vi_up e137 (Or.inr (by decide))
        have e148 : vi V142 x 36 = vi V130 x 36 := vi_up e137 (Or.inr (by decide))
        have e149 : vi V142 x 37 = (vi V130 x 37) - 1 := upd2_int e137 ⟨by omega, by omega⟩
        exact ih109  V142 ⟨by omega, (by first | assumption | exact RJ.clo (by assumption) (by omega) (by omega) (by omega) ((sS144).trans raw_says.1) ((sQ145).trans raw_says.2) (by omega) (by omega) (by omega) (by omega)), (by first | exact CL.rf (by omega) | exact CL.step (by assumption) (by omega) ((sQ145).trans raw_says.2) (by omega) (by omega) trivial), (by first | exact CK.rf | exact hck | exact CK.step hck (by assumption) (by omega) (by omega) (by omega) ((sS144).trans raw_says.1) ((sQ145).trans raw_says.2) (by omega) (by omega) (by omega) (by omega) (by omega)), trivial⟩ (by show (vi V142 x 37).toNat < (vi W108 x 37).toNat; omega)
      ·
        refine GO.aload_n dX12_closesSums_29 rfl rfl ?_
        refine GO.callV (ci := 11) (N := mX12_top) dX12_closesSums_30 (RX12, TX12, 151) rfl gV_RX12_476 h_x (t_X12_top h_x) rfl [] rfl rfl (Nat.le_of_ble_eq_true rfl) rfl (k_ip fun X150 r151 h152 => ?_)
        refine GO.iconst dX12_closesSums_33 ?_
        refine GO.icmp_ne (tgt := 59) dX12_closesSums_34 (by decide) r151 (ir_c rfl) (fun c153 => ?_) (fun c153 => ?_)
        ·
          have q154 : -2147483648 ≤ vi W108 x 31 ∧ vi W108 x 31 ≤ 2147483647 := vi_ir
          have q155 : -2147483648 ≤ vi W108 x 37 ∧ vi W108 x 37 ≤ 2147483647 := vi_ir
          have q156 : -2147483648 ≤ vi W108 x 36 ∧ vi W108 x 36 ≤ 2147483647 := vi_ir
          exact GO.retv rfl rfl dX12_closesSums_59 ⟨rfl, rfl, ⟨by omega, ⟨(by first | assumption), (by first | exact CS.of (by assumption) (by omega))⟩, (by first | exact CK.rf | exact hck), ⟨by omega, fun hq => by omega⟩⟩⟩
        ·
          refine GO.aload_n dX12_closesSums_37 rfl rfl ?_
          refine GO.aload_n dX12_closesSums_38 rfl rfl ?_
          refine GO.callV (ci := 11) (N := mX12_top) dX12_closesSums_39 (RX12, TX12, 151) rfl gV_RX12_476 h_x (t_X12_top h_x) rfl [.ref x] rfl rfl (Nat.le_of_ble_eq_true rfl) rfl (k_ip fun X157 r158 h159 => ?_)
          refine GO.iconst dX12_closesSums_42 ?_
          refine GO.callV (ci := 11) (N := mX12_says) dX12_closesSums_43 (RX12, TX12, 151) rfl gV_RX12_479 h_x (t_X12_says h_x r158 (ir_c rfl) (by omega) (by omega) (by omega) (by omega) ⟨by omega, by omega⟩) rfl [] rfl rfl (Nat.le_of_ble_eq_true rfl) rfl (k_vs fun V162 h161 hF160 => ?_)
          refine GO.useWT (fun hW163 => ?_)
          have aq164 := hW163.aq h_x
          have raw_says := h161.2
          have rw43 := h161.2
          refine GO.aload_n dX12_closesSums_46 rfl rfl ?_
          refine GO.aload_n dX12_closesSums_47 rfl rfl ?_
          refine GO.getI h_x fl_RX12_473 rfl rfl dX12_closesSums_48 (fun l166 u167 => ?_)
          have e168 : vi V162 x 37 = vi W108 x 37 := vi_fr hF160 h_x h_x (by decide +kernel)
          refine GO.iconst dX12_closesSums_51 ?_
          refine GO.isub dX12_closesSums_52 ?_
          have q170 : -2147483648 ≤ vi W108 x 37 ∧ vi W108 x 37 ≤ 2147483647 := vi_ir
          have q171 : -2147483648 ≤ vi W108 x 31 ∧ vi W108 x 31 ≤ 2147483647 := vi_ir
          have q172 : -2147483648 ≤ vi W108 x 36 ∧ vi W108 x 36 ≤ 2147483647 := vi_ir
          have q173 : -2147483648 ≤ vi V162 x 36 ∧ vi V162 x 36 ≤ 2147483647 := vi_ir
          refine GO.putI h_x fp_RX12_473 rfl (by decide +kernel) ⟨by omega, by omega⟩ (by omega) (by omega) dX12_closesSums_53 (fun V174 e169 => ?_)
          have k175 := st_fld e169 aq164 h_x (by decide) (by decide)
          have sS176 : sd V174 x = sd V162 x := k175.2.1.trans (rfl : sd V162 x = sd V162 x)
          have sQ177 : wt V174 x = wt V162 x := k175.2.2.trans (rfl : wt V162 x = wt V162 x)
          refine GO.goto (tgt := 0) dX12_closesSums_56 (by decide) ?_
          have e179 : vi V162 x 31 = vi W108 x 31 := vi_fr hF160 h_x h_x (by decide +kernel)
          have e178 : vi V174 x 31 = vi V162 x 31 := vi_up e169 (Or.inr (by decide))
          have e180 : vi V174 x 36 = vi V162 x 36 := vi_up e169 (Or.inr (by decide))
          have e181 : vi V174 x 37 = (vi V162 x 37) - 1 := upd2_int e169 ⟨by omega, by omega⟩
          exact ih109  V174 ⟨by omega, (by first | assumption | exact RJ.clo (by assumption) (by omega) (by omega) (by omega) ((sS176).trans raw_says.1) ((sQ177).trans raw_says.2) (by omega) (by omega) (by omega) (by omega)), (by first | exact CL.rf (by omega) | exact CL.step (by assumption) (by omega) ((sQ177).trans raw_says.2) (by omega) (by omega) trivial), (by first | exact CK.rf | exact hck | exact CK.step hck (by assumption) (by omega) (by omega) (by omega) ((sS176).trans raw_says.1) ((sQ177).trans raw_says.2) (by omega) (by omega) (by omega) (by omega) (by omega)), trivial⟩ (by show (vi V174 x 37).toNat < (vi W108 x 37).toNat; omega)
  ·
    refine GO.aload_n dX12_closesSums_8 rfl rfl ?_
    refine GO.callV (ci := 11) (N := mX12_top) dX12_closesSums_9 (RX12, TX12, 151) rfl gV_RX12_476 h_x (t_X12_top h_x) rfl [] rfl rfl (Nat.le_of_ble_eq_true rfl) rfl (k_ip fun X182 r183 h184 => ?_)
    refine GO.bipush dX12_closesSums_12 rfl ?_
    refine GO.icmp_le (tgt := 37) dX12_closesSums_14 (by decide) r183 (ir_c rfl) (fun c185 => ?_) (fun c185 => ?_)
    ·
      refine GO.aload_n dX12_closesSums_37 rfl rfl ?_
      refine GO.aload_n dX12_closesSums_38 rfl rfl ?_
      refine GO.callV (ci := 11) (N := mX12_top) dX12_closesSums_39 (RX12, TX12, 151) rfl gV_RX12_476 h_x (t_X12_top h_x) rfl [.ref x] rfl rfl (Nat.le_of_ble_eq_true rfl) rfl (k_ip fun X186 r187 h188 => ?_)
      refine GO.iconst dX12_closesSums_42 ?_
      refine GO.callV (ci := 11) (N := mX12_says) dX12_closesSums_43 (RX12, TX12, 151) rfl gV_RX12_479 h_x (t_X12_says h_x r187 (ir_c rfl) (by omega) (by omega) (by omega) (by omega) ⟨by omega, by omega⟩) rfl [] rfl rfl (Nat.le_of_ble_eq_true rfl) rfl (k_vs fun V191 h190 hF189 => ?_)
      refine GO.useWT (fun hW192 => ?_)
      have aq193 := hW192.aq h_x
      have raw_says := h190.2
      have rw43 := h190.2
      refine GO.aload_n dX12_closesSums_46 rfl rfl ?_
      refine GO.aload_n dX12_closesSums_47 rfl rfl ?_
      refine GO.getI h_x fl_RX12_473 rfl rfl dX12_closesSums_48 (fun l195 u196 => ?_)
      have e197 : vi V191 x 37 = vi W108 x 37 := vi_fr hF189 h_x h_x (by decide +kernel)
      refine GO.iconst dX12_closesSums_51 ?_
      refine GO.isub dX12_closesSums_52 ?_
      have q199 : -2147483648 ≤ vi W108 x 37 ∧ vi W108 x 37 ≤ 2147483647 := vi_ir
      have q200 : -2147483648 ≤ vi W108 x 31 ∧ vi W108 x 31 ≤ 2147483647 := vi_ir
      have q201 : -2147483648 ≤ vi W108 x 36 ∧ vi W108 x 36 ≤ 2147483647 := vi_ir
      have q202 : -2147483648 ≤ vi V191 x 36 ∧ vi V191 x 36 ≤ 2147483647 := vi_ir
      refine GO.putI h_x fp_RX12_473 rfl (by decide +kernel) ⟨by omega, by omega⟩ (by omega) (by omega) dX12_closesSums_53 (fun V203 e198 => ?_)
      have k204 := st_fld e198 aq193 h_x (by decide) (by decide)
      have sS205 : sd V203 x = sd V191 x := k204.2.1.trans (rfl : sd V191 x = sd V191 x)
      have sQ206 : wt V203 x = wt V191 x := k204.2.2.trans (rfl : wt V191 x = wt V191 x)
      refine GO.goto (tgt := 0) dX12_closesSums_56 (by decide) ?_
      have e208 : vi V191 x 31 = vi W108 x 31 := vi_fr hF189 h_x h_x (by decide +kernel)
      have e207 : vi V203 x 31 = vi V191 x 31 := vi_up e198 (Or.inr (by decide))
      have e209 : vi V203 x 36 = vi V191 x 36 := vi_up e198 (Or.inr (by decide))
      have e210 : vi V203 x 37 = (vi V191 x 37) - 1 := upd2_int e198 ⟨by omega, by omega⟩
      exact ih109  V203 ⟨by omega, (by first | assumption | exact RJ.clo (by assumption) (by omega) (by omega) (by omega) ((sS205).trans raw_says.1) ((sQ206).trans raw_says.2) (by omega) (by omega) (by omega) (by omega)), (by first | exact CL.rf (by omega) | exact CL.step (by assumption) (by omega) ((sQ206).trans raw_says.2) (by omega) (by omega) trivial), (by first | exact CK.rf | exact hck | exact CK.step hck (by assumption) (by omega) (by omega) (by omega) ((sS205).trans raw_says.1) ((sQ206).trans raw_says.2) (by omega) (by omega) (by omega) (by omega) (by omega)), trivial⟩ (by show (vi V203 x 37).toNat < (vi W108 x 37).toNat; omega)
    ·
      refine GO.iload_n dX12_closesSums_17 rfl rfl ?_
      refine GO.if_eq (tgt := 59) dX12_closesSums_18 (by decide) r_p0 (fun c211 => ?_) (fun c211 => ?_)
      ·
        have q212 : -2147483648 ≤ vi W108 x 31 ∧ vi W108 x 31 ≤ 2147483647 := vi_ir
        have q213 : -2147483648 ≤ vi W108 x 37 ∧ vi W108 x 37 ≤ 2147483647 := vi_ir
        have q214 : -2147483648 ≤ vi W108 x 36 ∧ vi W108 x 36 ≤ 2147483647 := vi_ir
        exact GO.retv rfl rfl dX12_closesSums_59 ⟨rfl, rfl, ⟨by omega, ⟨(by first | assumption), (by first | exact CS.of (by assumption) (by omega))⟩, (by first | exact CK.rf | exact hck), ⟨by omega, fun hq => by omega⟩⟩⟩
      ·
        refine GO.aload_n dX12_closesSums_21 rfl rfl ?_
        refine GO.callV (ci := 11) (N := mX12_top) dX12_closesSums_22 (RX12, TX12, 151) rfl gV_RX12_476 h_x (t_X12_top h_x) rfl [] rfl rfl (Nat.le_of_ble_eq_true rfl) rfl (k_ip fun X215 r216 h217 => ?_)
        refine GO.iconst dX12_closesSums_25 ?_
        refine GO.icmp_eq (tgt := 37) dX12_closesSums_26 (by decide) r216 (ir_c rfl) (fun h => by exfalso; omega) (fun c218 => ?_)
        refine GO.aload_n dX12_closesSums_29 rfl rfl ?_
        refine GO.callV (ci := 11) (N := mX12_top) dX12_closesSums_30 (RX12, TX12, 151) rfl gV_RX12_476 h_x (t_X12_top h_x) rfl [] rfl rfl (Nat.le_of_ble_eq_true rfl) rfl (k_ip fun X219 r220 h221 => ?_)
        refine GO.iconst dX12_closesSums_33 ?_
        refine GO.icmp_ne (tgt := 59) dX12_closesSums_34 (by decide) r220 (ir_c rfl) (fun c222 => ?_) (fun h => by exfalso; omega)
        have q223 : -2147483648 ≤ vi W108 x 31 ∧ vi W108 x 31 ≤ 2147483647 := vi_ir
        have q224 : -2147483648 ≤ vi W108 x 37 ∧ vi W108 x 37 ≤ 2147483647 := vi_ir
        have q225 : -2147483648 ≤ vi W108 x 36 ∧ vi W108 x 36 ≤ 2147483647 := vi_ir
        exact GO.retv rfl rfl dX12_closesSums_59 ⟨rfl, rfl, ⟨by omega, ⟨(by first | assumption), (by first | exact CS.of (by assumption) (by omega))⟩, (by first | exact CK.rf | exact hck), ⟨by omega, fun hq => by omega⟩⟩⟩

set_option maxHeartbeats 1000000 in
theorem t_X12_readsFactor {K : Kmap} {V : Vmap} {x : Nat} {fr : Nat} {S0 : Nat → Int} {s z : Int} (h_x : K x = some (0, 11)) (q_0 : vi V x 37 ≥ 1) (w_0 : RJ V x fr S0 s z) : MC mX12_readsFactor K V [.ref x] (IS K (fun X V1 => (X = 0 ∨ X = 1) ∧ (X ≠ 0 → vi V1 x 31 ≥ (vi V x 31 + 1) ∧ vi V1 x 37 ≥ vi V x 37) ∧ (X = 0 → True) ∧ ((X ≠ 0 → RJ V1 x fr S0 s (z + 1)) ∧ (X ≠ 0 → GF V V1 x)) ∧ (FK V V1 x X))) := by
  refine MC.start 1 (by decide +kernel) rfl rfl rfl (ls0 := [some (.ref x), none]) rfl ?_
  refine GO.useWT (fun hW1 => ?_)
  have aq2 := hW1.aq h_x
  refine GO.useWT (fun hW_0 => ?_)
  have hrd := (hW1).rd h_x
  have hle := RJ.le (V := V) (x := x) (fr := fr) (S0 := S0) (s := s) (z := z) (by assumption)
  have q3 : -2147483648 ≤ vi V x 31 ∧ vi V x 31 ≤ 2147483647 := vi_ir
  have q4 : -2147483648 ≤ vi V x 37 ∧ vi V x 37 ≤ 2147483647 := vi_ir
  have q5 : -2147483648 ≤ vi V x 36 ∧ vi V x 36 ≤ 2147483647 := vi_ir
  refine GO.loop0 (fun  W => (vi W x 31 ≥ vi V x 31 ∧ vi W x 37 ≥ vi V x 37 ∧ vi W x 36 ≥ 0) ∧ (RJ W x fr S0 s z) ∧ (GF V W x) ∧ (FKi V W x) ∧ True) (fun  W => ((vi W x 32 - vi W x 31)).toNat)  ⟨by omega, (by first | assumption), (by first | exact GF.rf), (by first | exact FKi.rf), trivial⟩ (fun W148 hp150 ih149 => ?_)
  obtain ⟨n_W148, w0_W148, w1_W148, hfk, -⟩ := hp150
  show GO mX12_readsFactor K V (IS K (fun X V1 => (X = 0 ∨ X = 1) ∧ (X ≠ 0 → vi V1 x 31 ≥ (vi V x 31 + 1) ∧ vi V1 x 37 ≥ vi V x 37) ∧ (X = 0 → True) ∧ ((X ≠ 0 → RJ V1 x fr S0 s (z + 1)) ∧ (X ≠ 0 → GF V V1 x)) ∧ (FK V V1 x X))) K W148 0 0 0 [some (.ref x), none] []
  refine GO.useWT (fun hW151 => ?_)
  have aq152 := hW151.aq h_x
  have hrd := (hW151).rd h_x
  have hle := RJ.le (V := W148) (x := x) (fr := fr) (S0 := S0) (s := s) (z := z) (by assumption)
  refine GO.useFR (fun hFs => ?_)
  have hTp : ∀ src e, TP V x src e → TP W148 x src e := fun src e h => TP.fr h hFs hW_0 h_x (by decide +kernel) (by decide +kernel) (by decide +kernel)
  refine GO.aload_n dX12_readsFactor_0 rfl rfl ?_
  refine GO.callV (ci := 11) (N := mX12_sign) dX12_readsFactor_1 (RX12, TX12, 151) rfl gV_RX12_449 h_x (t_X12_sign h_x) rfl [] rfl rfl (Nat.le_of_ble_eq_true rfl) rfl (k_ip fun X153 r154 h155 => ?_)
  refine GO.bipush dX12_readsFactor_4 rfl ?_
  refine GO.icmp_ne (tgt := 20) dX12_readsFactor_6 (by decide) r154 (ir_c rfl) (fun c156 => ?_) (fun c156 => ?_)
  ·
    refine GO.aload_n dX12_readsFactor_20 rfl rfl ?_
    refine GO.callV (ci := 11) (N := mX12_isDigit) dX12_readsFactor_21 (RX12, TX12, 151) rfl gV_RX12_462 h_x (t_X12_isDigit h_x) rfl [] rfl rfl (Nat.le_of_ble_eq_true rfl) rfl (k_ip fun X157 r158 h159 => ?_)
    have raw_isDigit := h159.2.2.2
    have rw21 := h159.2.2.2
    refine GO.if_eq (tgt := 50) dX12_readsFactor_24 (by decide) r158 (fun c160 => ?_) (fun c160 => ?_)
    ·
      refine GO.aload_n dX12_readsFactor_50 rfl rfl ?_
      refine GO.callV (ci := 11) (N := mX12_sign) dX12_readsFactor_51 (RX12, TX12, 151) rfl gV_RX12_449 h_x (t_X12_sign h_x) rfl [] rfl rfl (Nat.le_of_ble_eq_true rfl) rfl (k_ip fun X161 r162 h163 => ?_)
      refine GO.iconst dX12_readsFactor_54 ?_
      refine GO.icmp_ne (tgt := 62) dX12_readsFactor_55 (by decide) r162 (ir_c rfl) (fun c164 => ?_) (fun c164 => ?_)
      ·
        refine GO.aload_n dX12_readsFactor_62 rfl rfl ?_
        refine GO.callV (ci := 11) (N := mX12_sign) dX12_readsFactor_63 (RX12, TX12, 151) rfl gV_RX12_449 h_x (t_X12_sign h_x) rfl [] rfl rfl (Nat.le_of_ble_eq_true rfl) rfl (k_ip fun X165 r166 h167 => ?_)
        refine GO.callS (N := mX12_letterNumber) dX12_readsFactor_66 gS_RX12_489 (t_X12_letterNumber r166) rfl [] rfl rfl (Nat.le_of_ble_eq_true rfl) rfl (k_ip fun X168 r169 h170 => ?_)
        have rq0_66 := h170.2
        refine GO.istore_n (ls1 := [some (.ref x), some (ti X168)]) dX12_readsFactor_69 rfl rfl rfl ?_
        refine GO.iload_n dX12_readsFactor_70 rfl rfl ?_
        refine GO.iconst dX12_readsFactor_71 ?_
        refine GO.icmp_ne (tgt := 85) dX12_readsFactor_72 (by decide) r169 (ir_c rfl) (fun c171 => ?_) (fun c171 => ?_)
        ·
          have hle : X168 = letN (sgn W148 x) := rq0_66.trans (congrArg letN (by omega))
          refine GO.aload_n dX12_readsFactor_85 rfl rfl ?_
          refine GO.iconst dX12_readsFactor_86 ?_
          refine GO.iload_n dX12_readsFactor_87 rfl rfl ?_
          refine GO.callV (ci := 11) (N := mX12_says) dX12_readsFactor_88 (RX12, TX12, 151) rfl gV_RX12_479 h_x (t_X12_says h_x (ir_c rfl) r169 (by omega) (by omega) (by omega) (by omega) ⟨by omega, by omega⟩) rfl [] rfl rfl (Nat.le_of_ble_eq_true rfl) rfl (k_vs fun V174 h173 hF172 => ?_)
          refine GO.useWT (fun hW175 => ?_)
          have aq176 := hW175.aq h_x
          have raw_says := h173.2
          have rw88 := h173.2
          refine GO.aload_n dX12_readsFactor_91 rfl rfl ?_
          refine GO.aload_n dX12_readsFactor_92 rfl rfl ?_
          refine GO.getI h_x fl_RX12_443 rfl rfl dX12_readsFactor_93 (fun l178 u179 => ?_)
          have e180 : vi V174 x 31 = vi W148 x 31 := vi_fr hF172 h_x h_x (by decide +kernel)
          refine GO.iconst dX12_readsFactor_96 ?_
          refine GO.iadd dX12_readsFactor_97 ?_
          have q182 : -2147483648 ≤ vi W148 x 31 ∧ vi W148 x 31 ≤ 2147483647 := vi_ir
          have q183 : -2147483648 ≤ vi W148 x 32 ∧ vi W148 x 32 ≤ 2147483647 := vi_ir
          have q184 : -2147483648 ≤ vi W148 x 37 ∧ vi W148 x 37 ≤ 2147483647 := vi_ir
          have q185 : -2147483648 ≤ vi W148 x 36 ∧ vi W148 x 36 ≤ 2147483647 := vi_ir
          have q186 : -2147483648 ≤ vi V174 x 36 ∧ vi V174 x 36 ≤ 2147483647 := vi_ir
          refine GO.putI h_x fp_RX12_443 rfl (by decide +kernel) ⟨by omega, by omega⟩ (by omega) (by omega) dX12_readsFactor_98 (fun V187 e181 => ?_)
          have k188 := st_fld e181 aq176 h_x (by decide) (by decide)
          have sS189 : sd V187 x = sd V174 x := k188.2.1.trans (rfl : sd V174 x = sd V174 x)
          have sQ190 : wt V187 x = wt V174 x := k188.2.2.trans (rfl : wt V174 x = wt V174 x)
          have e191 : vi V187 x 31 = (vi V174 x 31) + 1 := upd2_int e181 ⟨by omega, by omega⟩
          have e192 : vi V187 x 36 = vi V174 x 36 := vi_up e181 (Or.inr (by decide))
          have e194 : vi V174 x 37 = vi W148 x 37 := vi_fr hF172 h_x h_x (by decide +kernel)
          have e193 : vi V187 x 37 = vi V174 x 37 := vi_up e181 (Or.inr (by decide))
          refine GO.iconst dX12_readsFactor_101 ?_
          have e198 : vi V174 x 35 = vi W148 x 35 := vi_fr hF172 h_x h_x (by decide +kernel)
          have e197 : vi V187 x 35 = vi V174 x 35 := vi_up e181 (Or.inr (by decide))
          exact GO.retz rfl rfl dX12_readsFactor_102 (Or.inr rfl) ⟨rfl, _, rfl, (ir_c rfl), ⟨Or.inr rfl, fun h => by omega, fun _ => trivial, ⟨(by first | exact fun h => absurd h (by decide) | exact fun _ => RJ.num (by assumption) (upd_eq (sS189) raw_says.1 ((rfl : sd W148 x = sd W148 x)) (by omega)) ((sQ190).trans (raw_says.2.trans ((rfl : wt W148 x = wt W148 x)))) (by omega) (by omega) (by omega) (by omega) (by omega) (by omega)), (by first | exact fun h => absurd h (by decide) | exact fun _ => GF.same (by assumption) ((sQ190).trans (raw_says.2.trans ((rfl : wt W148 x = wt W148 x)))) (by omega))⟩, (by first | exact FK.let hfk hTp (by omega) hle (by omega) (by omega) (upd_eq (sS189) raw_says.1 ((rfl : sd W148 x = sd W148 x)) (by omega)) ((sQ190).trans (raw_says.2.trans ((rfl : wt W148 x = wt W148 x)))) (by omega) (by omega) (by omega) (by omega) (by omega))⟩⟩
        ·
          have hno : ¬ 0 ≤ letN (sgn W148 x) := by first | (rw [show sgn W148 x = -1 by omega]; decide) | (have h9 : X168 = letN (sgn W148 x) := rq0_66.trans (congrArg letN (by omega)); omega)
          refine GO.aload_n dX12_readsFactor_75 rfl rfl ?_
          refine GO.iconst dX12_readsFactor_76 ?_
          refine GO.aload_n dX12_readsFactor_77 rfl rfl ?_
          refine GO.getI h_x fl_RX12_443 rfl rfl dX12_readsFactor_78 (fun l199 u200 => ?_)
          have q201 : -2147483648 ≤ vi W148 x 31 ∧ vi W148 x 31 ≤ 2147483647 := vi_ir
          have q202 : -2147483648 ≤ vi W148 x 32 ∧ vi W148 x 32 ≤ 2147483647 := vi_ir
          have q203 : -2147483648 ≤ vi W148 x 37 ∧ vi W148 x 37 ≤ 2147483647 := vi_ir
          have q204 : -2147483648 ≤ vi W148 x 36 ∧ vi W148 x 36 ≤ 2147483647 := vi_ir
          refine GO.callV (ci := 11) (N := mX12_wrong) dX12_readsFactor_81 (RX12, TX12, 151) rfl gV_RX12_456 h_x (t_X12_wrong h_x (ir_c rfl) vi_ir (by omega) (by omega) (by omega) (by omega)) rfl [] rfl rfl (Nat.le_of_ble_eq_true rfl) rfl (k_is fun X205 V209 r206 h207 hF208 => ?_)
          have k210 := st_fr hF208 aq152 h_x (by decide +kernel) (by decide +kernel) (by decide +kernel) (by decide +kernel)
          have sS211 : sd V209 x = sd W148 x := k210.2.1.trans (rfl : sd W148 x = sd W148 x)
          have sQ212 : wt V209 x = wt W148 x := k210.2.2.trans (rfl : wt W148 x = wt W148 x)
          have e214 : vi V209 x 31 = vi W148 x 31 := vi_fr hF208 h_x h_x (by decide +kernel)
          have q215 : -2147483648 ≤ vi V209 x 33 ∧ vi V209 x 33 ≤ 2147483647 := vi_ir
          have e216 : vi V209 x 37 = vi W148 x 37 := vi_fr hF208 h_x h_x (by decide +kernel)
          have e217 : vi V209 x 35 = vi W148 x 35 := vi_fr hF208 h_x h_x (by decide +kernel)
          have e218 : vi V209 x 36 = vi W148 x 36 := vi_fr hF208 h_x h_x (by decide +kernel)
          exact GO.retz rfl rfl dX12_readsFactor_84 (by omega) ⟨rfl, _, rfl, r206, ⟨by omega, fun h => by omega, fun _ => trivial, ⟨(by first | exact fun h => absurd h (by omega)), (by first | exact fun h => absurd h (by omega))⟩, (by first | exact FK.none hfk hTp (by omega) (by unfold dgB; exact decide_eq_false (by omega)) hno (by omega) (by omega) (by omega))⟩⟩
      ·
        refine GO.iconst dX12_readsFactor_58 ?_
        refine GO.goto (tgt := 69) dX12_readsFactor_59 (by decide) ?_
        refine GO.istore_n (ls1 := [some (.ref x), some (ti (-1))]) dX12_readsFactor_69 rfl rfl rfl ?_
        refine GO.iload_n dX12_readsFactor_70 rfl rfl ?_
        refine GO.iconst dX12_readsFactor_71 ?_
        refine GO.icmp_ne (tgt := 85) dX12_readsFactor_72 (by decide) (ir_c rfl) (ir_c rfl) (fun h => by exfalso; omega) (fun c219 => ?_)
        have hno : ¬ 0 ≤ letN (sgn W148 x) := by first | (rw [show sgn W148 x = -1 by omega]; decide) | (have h9 : (-1) = letN (sgn W148 x) := rq0_66.trans (congrArg letN (by omega)); omega)
        refine GO.aload_n dX12_readsFactor_75 rfl rfl ?_
        refine GO.iconst dX12_readsFactor_76 ?_
        refine GO.aload_n dX12_readsFactor_77 rfl rfl ?_
        refine GO.getI h_x fl_RX12_443 rfl rfl dX12_readsFactor_78 (fun l220 u221 => ?_)
        have q222 : -2147483648 ≤ vi W148 x 31 ∧ vi W148 x 31 ≤ 2147483647 := vi_ir
        have q223 : -2147483648 ≤ vi W148 x 37 ∧ vi W148 x 37 ≤ 2147483647 := vi_ir
        have q224 : -2147483648 ≤ vi W148 x 36 ∧ vi W148 x 36 ≤ 2147483647 := vi_ir
        refine GO.callV (ci := 11) (N := mX12_wrong) dX12_readsFactor_81 (RX12, TX12, 151) rfl gV_RX12_456 h_x (t_X12_wrong h_x (ir_c rfl) vi_ir (by omega) (by omega) (by omega) (by omega)) rfl [] rfl rfl (Nat.le_of_ble_eq_true rfl) rfl (k_is fun X225 V229 r226 h227 hF228 => ?_)
        have k230 := st_fr hF228 aq152 h_x (by decide +kernel) (by decide +kernel) (by decide +kernel) (by decide +kernel)
        have sS231 : sd V229 x = sd W148 x := k230.2.1.trans (rfl : sd W148 x = sd W148 x)
        have sQ232 : wt V229 x = wt W148 x := k230.2.2.trans (rfl : wt W148 x = wt W148 x)
        have e234 : vi V229 x 31 = vi W148 x 31 := vi_fr hF228 h_x h_x (by decide +kernel)
        have q235 : -2147483648 ≤ vi V229 x 33 ∧ vi V229 x 33 ≤ 2147483647 := vi_ir
        have e236 : vi V229 x 37 = vi W148 x 37 := vi_fr hF228 h_x h_x (by decide +kernel)
        have e237 : vi V229 x 35 = vi W148 x 35 := vi_fr hF228 h_x h_x (by decide +kernel)
        have e238 : vi V229 x 36 = vi W148 x 36 := vi_fr hF228 h_x h_x (by decide +kernel)
        exact GO.retz rfl rfl dX12_readsFactor_84 (by omega) ⟨rfl, _, rfl, r226, ⟨by omega, fun h => by omega, fun _ => trivial, ⟨(by first | exact fun h => absurd h (by omega)), (by first | exact fun h => absurd h (by omega))⟩, (by first | exact FK.none hfk hTp (by omega) (by unfold dgB; exact decide_eq_false (by omega)) hno (by omega) (by omega) (by omega))⟩⟩
    ·
      have q239 := h159.2.1 (by omega)
      refine GO.aload_n dX12_readsFactor_27 rfl rfl ?_
      refine GO.ldcw (X := 999999) dX12_readsFactor_28 gw_2095 rfl ?_
      refine GO.callV (ci := 11) (N := mX12_readsNumber) dX12_readsFactor_31 (RX12, TX12, 151) rfl gV_RX12_486 h_x (t_X12_readsNumber h_x (ir_c rfl)) rfl [] rfl rfl (Nat.le_of_ble_eq_true rfl) rfl (k_is fun X240 V244 r241 h242 hF243 => ?_)
      have k245 := st_fr hF243 aq152 h_x (by decide +kernel) (by decide +kernel) (by decide +kernel) (by decide +kernel)
      have sS246 : sd V244 x = sd W148 x := k245.2.1.trans (rfl : sd W148 x = sd W148 x)
      have sQ247 : wt V244 x = wt W148 x := k245.2.2.trans (rfl : wt W148 x = wt W148 x)
      have rq0_31 := h242.2.2.2
      refine GO.if_ne (tgt := 39) dX12_readsFactor_34 (by decide) r241 (fun c250 => ?_) (fun c250 => ?_)
      ·
        have q251 := h242.2.1 (by omega)
        have e252 : vi V244 x 35 = vi W148 x 35 := vi_fr hF243 h_x h_x (by decide +kernel)
        have e253 : vi V244 x 36 = vi W148 x 36 := vi_fr hF243 h_x h_x (by decide +kernel)
        have e254 : vi V244 x 37 = vi W148 x 37 := vi_fr hF243 h_x h_x (by decide +kernel)
        refine GO.aload_n dX12_readsFactor_39 rfl rfl ?_
        refine GO.iconst dX12_readsFactor_40 ?_
        refine GO.aload_n dX12_readsFactor_41 rfl rfl ?_
        refine GO.getI h_x fl_RX12_459 rfl rfl dX12_readsFactor_42 (fun _ _ => ?_)
        have q255 : -2147483648 ≤ vi V244 x 34 ∧ vi V244 x 34 ≤ 2147483647 := vi_ir
        refine GO.callV (ci := 11) (N := mX12_says) dX12_readsFactor_45 (RX12, TX12, 151) rfl gV_RX12_479 h_x (t_X12_says h_x (ir_c rfl) vi_ir (by omega) (by omega) (by omega) (by omega) ⟨by omega, by omega⟩) rfl [] rfl rfl (Nat.le_of_ble_eq_true rfl) rfl (k_vs fun V258 h257 hF256 => ?_)
        refine GO.useWT (fun hW259 => ?_)
        have aq260 := hW259.aq h_x
        have raw_says := h257.2
        have rw45 := h257.2
        have e262 : vi V258 x 31 = vi V244 x 31 := vi_fr hF256 h_x h_x (by decide +kernel)
        have e263 : vi V258 x 37 = vi V244 x 37 := vi_fr hF256 h_x h_x (by decide +kernel)
        have hrd := (hW259).rd h_x
        refine GO.iconst dX12_readsFactor_48 ?_
        have q264 : -2147483648 ≤ vi V244 x 31 ∧ vi V244 x 31 ≤ 2147483647 := vi_ir
        have q265 : -2147483648 ≤ vi W148 x 31 ∧ vi W148 x 31 ≤ 2147483647 := vi_ir
        have q266 : -2147483648 ≤ vi W148 x 32 ∧ vi W148 x 32 ≤ 2147483647 := vi_ir
        have q267 : -2147483648 ≤ vi W148 x 37 ∧ vi W148 x 37 ≤ 2147483647 := vi_ir
        have q268 : -2147483648 ≤ vi W148 x 36 ∧ vi W148 x 36 ≤ 2147483647 := vi_ir
        have q269 : -2147483648 ≤ vi V258 x 36 ∧ vi V258 x 36 ≤ 2147483647 := vi_ir
        have e272 : vi V258 x 35 = vi V244 x 35 := vi_fr hF256 h_x h_x (by decide +kernel)
        exact GO.retz rfl rfl dX12_readsFactor_49 (Or.inr rfl) ⟨rfl, _, rfl, (ir_c rfl), ⟨Or.inr rfl, fun h => by omega, fun _ => trivial, ⟨(by first | exact fun h => absurd h (by decide) | exact fun _ => RJ.num (by assumption) (upd_eq ((rfl : sd V258 x = sd V258 x)) raw_says.1 (sS246) (by omega)) (((rfl : wt V258 x = wt V258 x)).trans (raw_says.2.trans (sQ247))) (by omega) (by omega) (by omega) (by omega) (by omega) (by omega)), (by first | exact fun h => absurd h (by decide) | exact fun _ => GF.same (by assumption) (((rfl : wt V258 x = wt V258 x)).trans (raw_says.2.trans (sQ247))) (by omega))⟩, (by first | exact FK.num hfk hTp (by omega) (by unfold dgB; exact decide_eq_true (by omega)) rq0_31 (Or.inl ⟨rfl, by omega, rfl⟩) (by omega) | exact FK.num hfk hTp (by omega) (by unfold dgB; exact decide_eq_true (by omega)) rq0_31 (Or.inr ⟨by omega, by omega, (upd_eq ((rfl : sd V258 x = sd V258 x)) raw_says.1 (sS246) (by omega)), (((rfl : wt V258 x = wt V258 x)).trans (raw_says.2.trans (sQ247))), by omega, by omega, by omega, by omega⟩) (by omega) | exact FK.let hfk hTp (by omega) hle (by omega) (by omega) (upd_eq ((rfl : sd V258 x = sd V258 x)) raw_says.1 (sS246) (by omega)) (((rfl : wt V258 x = wt V258 x)).trans (raw_says.2.trans (sQ247))) (by omega) (by omega) (by omega) (by omega) (by omega))⟩⟩
      ·
        refine GO.iconst dX12_readsFactor_37 ?_
        have q273 : -2147483648 ≤ vi V244 x 31 ∧ vi V244 x 31 ≤ 2147483647 := vi_ir
        have q274 : -2147483648 ≤ vi W148 x 31 ∧ vi W148 x 31 ≤ 2147483647 := vi_ir
        have q275 : -2147483648 ≤ vi W148 x 32 ∧ vi W148 x 32 ≤ 2147483647 := vi_ir
        have q276 : -2147483648 ≤ vi W148 x 37 ∧ vi W148 x 37 ≤ 2147483647 := vi_ir
        have q277 : -2147483648 ≤ vi W148 x 36 ∧ vi W148 x 36 ≤ 2147483647 := vi_ir
        have e278 : vi V244 x 37 = vi W148 x 37 := vi_fr hF243 h_x h_x (by decide +kernel)
        have e280 : vi V244 x 35 = vi W148 x 35 := vi_fr hF243 h_x h_x (by decide +kernel)
        have e281 : vi V244 x 36 = vi W148 x 36 := vi_fr hF243 h_x h_x (by decide +kernel)
        exact GO.retz rfl rfl dX12_readsFactor_38 (Or.inl rfl) ⟨rfl, _, rfl, (ir_c rfl), ⟨Or.inl rfl, fun h => absurd rfl h, fun _ => trivial, ⟨(by first | exact fun h => absurd rfl h), (by first | exact fun h => absurd rfl h)⟩, (by first | exact FK.num hfk hTp (by omega) (by unfold dgB; exact decide_eq_true (by omega)) rq0_31 (Or.inl ⟨rfl, by omega, rfl⟩) (by omega))⟩⟩
  ·
    refine GO.aload_n dX12_readsFactor_9 rfl rfl ?_
    refine GO.bipush dX12_readsFactor_10 rfl ?_
    have q282 : -2147483648 ≤ vi W148 x 32 ∧ vi W148 x 32 ≤ 2147483647 := vi_ir
    have q283 : -2147483648 ≤ vi W148 x 31 ∧ vi W148 x 31 ≤ 2147483647 := vi_ir
    have q284 : -2147483648 ≤ vi W148 x 37 ∧ vi W148 x 37 ≤ 2147483647 := vi_ir
    have q285 : -2147483648 ≤ vi W148 x 36 ∧ vi W148 x 36 ≤ 2147483647 := vi_ir
    refine GO.callV (ci := 11) (N := mX12_opens) dX12_readsFactor_12 (RX12, TX12, 151) rfl gV_RX12_482 h_x (t_X12_opens h_x (ir_c rfl) (by omega) (by omega) (by omega) ⟨by omega, by omega⟩) rfl [] rfl rfl (Nat.le_of_ble_eq_true rfl) rfl (k_is fun X286 V290 r287 h288 hF289 => ?_)
    refine GO.useWT (fun hW291 => ?_)
    have aq292 := hW291.aq h_x
    have raw_opens := h288.2.2.2.1
    have rq0_12 := h288.2.2.2.2
    have rw12 := h288.2.2.2.1
    refine GO.if_ne (tgt := 0) dX12_readsFactor_15 (by decide) r287 (fun c295 => ?_) (fun c295 => ?_)
    ·
      have q296 := h288.2.1 (by omega)
      have q297 : -2147483648 ≤ vi V290 x 31 ∧ vi V290 x 31 ≤ 2147483647 := vi_ir
      have q298 : -2147483648 ≤ vi V290 x 37 ∧ vi V290 x 37 ≤ 2147483647 := vi_ir
      have e299 : vi V290 x 36 = vi W148 x 36 := vi_fr hF289 h_x h_x (by decide +kernel)
      have e300 : vi V290 x 32 = vi W148 x 32 := vi_fr hF289 h_x h_x (by decide +kernel)
      exact ih149  V290 ⟨by omega, (by first | assumption | exact RJ.pushO (by assumption) (Or.inr (Or.inr rfl)) (fun _ => by omega) (((rfl : sd V290 x = sd V290 x)).trans (raw_opens (by omega)).1) (((rfl : wt V290 x = wt V290 x)).trans (raw_opens (by omega)).2) (by omega) (by omega) (by omega)), (by first | exact GF.rf | exact GF.push (by assumption) (by omega) (((rfl : wt V290 x = wt V290 x)).trans (raw_opens (by omega)).2) (by omega)), (by first | exact FKi.rf | exact FKi.opn hfk (by omega) hTp (by omega) (by omega) (rq0_12.1 (by omega)).2 (((rfl : sd V290 x = sd V290 x)).trans (raw_opens (by omega)).1) (((rfl : wt V290 x = wt V290 x)).trans (raw_opens (by omega)).2) (by omega) (by omega) (by omega) (rq0_12.1 (by omega)).1), trivial⟩ (by show ((vi V290 x 32 - vi V290 x 31)).toNat < ((vi W148 x 32 - vi W148 x 31)).toNat; omega)
    ·
      refine GO.iconst dX12_readsFactor_18 ?_
      have q301 : -2147483648 ≤ vi V290 x 31 ∧ vi V290 x 31 ≤ 2147483647 := vi_ir
      have q302 : -2147483648 ≤ vi V290 x 37 ∧ vi V290 x 37 ≤ 2147483647 := vi_ir
      have e305 : vi V290 x 36 = vi W148 x 36 := vi_fr hF289 h_x h_x (by decide +kernel)
      exact GO.retz rfl rfl dX12_readsFactor_19 (Or.inl rfl) ⟨rfl, _, rfl, (ir_c rfl), ⟨Or.inl rfl, fun h => absurd rfl h, fun _ => trivial, ⟨(by first | exact fun h => absurd rfl h), (by first | exact fun h => absurd rfl h)⟩, (by first | exact FK.deep hfk (by omega) hTp (by omega) (rq0_12.2 (by omega)).1 rfl (rq0_12.2 (by omega)).2)⟩⟩

set_option maxHeartbeats 1000000 in
theorem t_X12_hasOpenSum {K : Kmap} {V : Vmap} {x : Nat} {p0 : Int} (h_x : K x = some (0, 11)) (r_p0 : ir p0) (q_0 : p0 ≥ 0) : MC mX12_hasOpenSum K V [.ref x, ti p0] (IP K V (fun X => (X = 0 ∨ X = 1) ∧ (X ≠ 0 → True) ∧ (X = 0 → True) ∧ (HO V x p0 X))) := by
  refine MC.start 1 (by decide +kernel) rfl rfl rfl (ls0 := [some (.ref x), some (ti p0), none]) rfl ?_
  refine GO.useWT (fun hW1 => ?_)
  have aq2 := hW1.aq h_x
  refine GO.iload_n dX12_hasOpenSum_0 rfl rfl ?_
  refine GO.istore_n (ls1 := [some (.ref x), some (ti p0), some (ti p0)]) dX12_hasOpenSum_1 rfl rfl rfl ?_
  have q4 : -2147483648 ≤ p0 ∧ p0 ≤ 2147483647 := r_p0
  refine GO.loop1 (fun i3 W => 0 ≤ i3 ∧ i3 ≤ 2147483647 ∧ (i3 ≥ 0) ∧ (HOI W x p0 i3) ∧ V = W) (fun i3 => [some (.ref x), some (ti p0), some (ti i3)]) (fun i3 W => (2147483647 - i3).toNat) p0 ⟨by omega, by omega, by omega, (by first | exact HOI.rf | exact HOI.step (by assumption) (by omega) rfl (by omega) | (subst_vars; exact HOI.rf)), rfl⟩ rfl (fun i3 V13 hp15 ih14 => ?_)
  obtain ⟨l_i3, u_i3, n_i3, w0_i3, rfl⟩ := hp15
  have r_i3 : ir i3 := ⟨by omega, by omega⟩
  show GO mX12_hasOpenSum K V (IP K V (fun X => (X = 0 ∨ X = 1) ∧ (X ≠ 0 → True) ∧ (X = 0 → True) ∧ (HO V x p0 X))) K V 0 0 2 [some (.ref x), some (ti p0), some (ti i3)] []
  refine GO.iload_n dX12_hasOpenSum_2 rfl rfl ?_
  refine GO.aload_n dX12_hasOpenSum_3 rfl rfl ?_
  refine GO.getI h_x fl_RX12_473 rfl rfl dX12_hasOpenSum_4 (fun l16 u17 => ?_)
  refine GO.icmp_ge (tgt := 33) dX12_hasOpenSum_7 (by decide) r_i3 vi_ir (fun c18 => ?_) (fun c18 => ?_)
  ·
    refine GO.iconst dX12_hasOpenSum_33 ?_
    exact GO.retz rfl rfl dX12_hasOpenSum_34 (Or.inl rfl) ⟨rfl, rfl, _, rfl, (ir_c rfl), ⟨Or.inl rfl, fun _ => trivial, fun _ => trivial, (by first | exact HO.yes (by assumption) (by omega) (by omega) rfl (by omega) rfl | exact HO.no (by assumption) (by omega) rfl)⟩⟩
  ·
    refine GO.aload_n dX12_hasOpenSum_10 rfl rfl ?_
    refine GO.getA (n := 220) h_x fl_RX12_91 rfl rfl rfl rfl dX12_hasOpenSum_11 (fun hv20 h19 => ?_)
    refine GO.iload_n dX12_hasOpenSum_14 rfl rfl ?_
    refine GO.iald (t := 33) rfl rfl h19 r_i3 (by omega) (by omega) dX12_hasOpenSum_15 (fun l21 u22 => ?_)
    refine GO.ldcw (X := 1048576) dX12_hasOpenSum_16 gw_2078 rfl ?_
    refine GO.idivP dX12_hasOpenSum_19 vi_ir (ir_c rfl) (by omega) (by omega) ?_
    refine GO.bipush dX12_hasOpenSum_20 rfl ?_
    refine GO.icmp_ne (tgt := 27) dX12_hasOpenSum_22 (by decide) ⟨by omega, by omega⟩ (ir_c rfl) (fun c23 => ?_) (fun c23 => ?_)
    ·
      refine GO.iinc (X := i3) (n := 1) (Y := i3 + 1) (ls1 := [some (.ref x), some (ti p0), some (ti (i3 + 1))]) dX12_hasOpenSum_27 rfl rfl rfl rfl ?_
      refine GO.goto (tgt := 2) dX12_hasOpenSum_30 (by decide) ?_
      exact ih14 (i3 + 1) V ⟨by omega, by omega, by omega, (by first | exact HOI.rf | exact HOI.step (by assumption) (by omega) rfl (by omega) | (subst_vars; exact HOI.rf)), rfl⟩ (by show (2147483647 - (i3 + 1)).toNat < (2147483647 - i3).toNat; omega)
    ·
      refine GO.iconst dX12_hasOpenSum_25 ?_
      exact GO.retz rfl rfl dX12_hasOpenSum_26 (Or.inr rfl) ⟨rfl, rfl, _, rfl, (ir_c rfl), ⟨Or.inr rfl, fun _ => trivial, fun _ => trivial, (by first | exact HO.yes (by assumption) (by omega) (by omega) rfl (by omega) rfl | exact HO.no (by assumption) (by omega) rfl)⟩⟩

set_option maxHeartbeats 1000000 in
theorem t_X12_readsSum {K : Kmap} {V : Vmap} {x : Nat} {fr : Nat} {S0 : Nat → Int} {s z : Int} (h_x : K x = some (0, 11)) (q_0 : vi V x 37 ≥ 1) (w_0 : RJ V x fr S0 s z) (w_1 : 0 ≤ z) (w_2 : NS V x) : MC mX12_readsSum K V [.ref x] (IS K (fun X V1 => (X = 0 ∨ X = 1) ∧ (X ≠ 0 → vi V1 x 31 ≥ (vi V x 31 + 1) ∧ vi V1 x 37 = vi V x 37) ∧ (X = 0 → True) ∧ ((X ≠ 0 → RJ V1 x fr S0 s (z + 1)) ∧ (X ≠ 0 → SQ V V1 x)) ∧ (SK V V1 x X))) := by
  refine MC.start 2 (by decide +kernel) rfl rfl rfl (ls0 := [some (.ref x), none, none]) rfl ?_
  refine GO.useWT (fun hW1 => ?_)
  have aq2 := hW1.aq h_x
  refine GO.useWT (fun hW_0 => ?_)
  have hrd := (hW1).rd h_x
  have hle := RJ.le (V := V) (x := x) (fr := fr) (S0 := S0) (s := s) (z := z) (by assumption)
  refine GO.aload_n dX12_readsSum_0 rfl rfl ?_
  refine GO.getI h_x fl_RX12_473 rfl rfl dX12_readsSum_1 (fun l3 u4 => ?_)
  refine GO.name (fun z5 hz6 => ?_)
  have r7 : ir z5 := hz6 ▸ vi_ir
  refine GO.istore_n (ls1 := [some (.ref x), some (ti z5), none]) dX12_readsSum_4 rfl rfl rfl ?_
  refine GO.aload_n dX12_readsSum_5 rfl rfl ?_
  have q8 : -2147483648 ≤ vi V x 37 ∧ vi V x 37 ≤ 2147483647 := vi_ir
  have q9 : -2147483648 ≤ z5 ∧ z5 ≤ 2147483647 := r7
  have q10 : -2147483648 ≤ vi V x 31 ∧ vi V x 31 ≤ 2147483647 := vi_ir
  have q11 : -2147483648 ≤ vi V x 36 ∧ vi V x 36 ≤ 2147483647 := vi_ir
  refine GO.callV (ci := 11) (N := mX12_readsFactor) dX12_readsSum_6 (RX12, TX12, 151) rfl gV_RX12_492 h_x (t_X12_readsFactor h_x (by omega) ((by first | assumption))) rfl [] rfl rfl (Nat.le_of_ble_eq_true rfl) rfl (k_is fun X12 V16 r13 h14 hF15 => ?_)
  refine GO.useWT (fun hW17 => ?_)
  have aq18 := hW17.aq h_x
  have raw_readsFactor := h14.2.2.2.1
  have rq0_6 := h14.2.2.2.2
  have rw6 := h14.2.2.2.1
  refine GO.if_ne (tgt := 14) dX12_readsSum_9 (by decide) r13 (fun c21 => ?_) (fun c21 => ?_)
  ·
    have q22 := h14.2.1 (by omega)
    have q23 : -2147483648 ≤ vi V16 x 31 ∧ vi V16 x 31 ≤ 2147483647 := vi_ir
    have q24 : -2147483648 ≤ vi V16 x 37 ∧ vi V16 x 37 ≤ 2147483647 := vi_ir
    have q26 : -2147483648 ≤ vi V16 x 35 ∧ vi V16 x 35 ≤ 2147483647 := vi_ir
    refine GO.loop0 (fun  W => (vi W x 31 ≥ (vi V x 31 + 1) ∧ vi W x 37 ≥ z5 ∧ vi W x 35 ≥ (-2147483648)) ∧ (RJ W x fr S0 s (z + 1)) ∧ (GM V W x) ∧ (SKi V W x) ∧ True) (fun  W => ((vi W x 32 - vi W x 31)).toNat)  ⟨by omega, (by first | exact raw_readsFactor.1 (by omega) | exact RJ.zz (raw_readsFactor.1 (by omega)) (by omega)), (by first | exact GM.of (raw_readsFactor.2 (by omega))), (by first | exact SKi.beg rq0_6 (by omega)), trivial⟩ (fun W320 hp322 ih321 => ?_)
    obtain ⟨n_W320, w0_W320, w1_W320, hsk, -⟩ := hp322
    show GO mX12_readsSum K V (IS K (fun X V1 => (X = 0 ∨ X = 1) ∧ (X ≠ 0 → vi V1 x 31 ≥ (vi V x 31 + 1) ∧ vi V1 x 37 = vi V x 37) ∧ (X = 0 → True) ∧ ((X ≠ 0 → RJ V1 x fr S0 s (z + 1)) ∧ (X ≠ 0 → SQ V V1 x)) ∧ (SK V V1 x X))) K W320 0 0 14 [some (.ref x), some (ti z5), none] []
    refine GO.useWT (fun hW323 => ?_)
    have aq324 := hW323.aq h_x
    have hrd := (hW323).rd h_x
    have hle := RJ.le (V := W320) (x := x) (fr := fr) (S0 := S0) (s := s) (z := z + 1) (by assumption)
    refine GO.useFR (fun hFs => ?_)
    have hTp : ∀ src e, TP V x src e → TP W320 x src e := fun src e h => TP.fr h hFs hW_0 h_x (by decide +kernel) (by decide +kernel) (by decide +kernel)
    have hgw : GM V W320 x := by assumption
    refine GO.aload_n dX12_readsSum_14 rfl rfl ?_
    refine GO.callV (ci := 11) (N := mX12_sign) dX12_readsSum_15 (RX12, TX12, 151) rfl gV_RX12_449 h_x (t_X12_sign h_x) rfl [] rfl rfl (Nat.le_of_ble_eq_true rfl) rfl (k_ip fun X325 r326 h327 => ?_)
    refine GO.iconst dX12_readsSum_18 ?_
    refine GO.icmp_ne (tgt := 26) dX12_readsSum_19 (by decide) r326 (ir_c rfl) (fun c328 => ?_) (fun c328 => ?_)
    ·
      refine GO.aload_n dX12_readsSum_26 rfl rfl ?_
      refine GO.callV (ci := 11) (N := mX12_sign) dX12_readsSum_27 (RX12, TX12, 151) rfl gV_RX12_449 h_x (t_X12_sign h_x) rfl [] rfl rfl (Nat.le_of_ble_eq_true rfl) rfl (k_ip fun X329 r330 h331 => ?_)
      refine GO.callS (N := mX12_sumSign) dX12_readsSum_30 gS_RX12_495 (t_X12_sumSign r330) rfl [] rfl rfl (Nat.le_of_ble_eq_true rfl) rfl (k_ip fun X332 r333 h334 => ?_)
      have rq0_30 := h334.2
      refine GO.istore_n (ls1 := [some (.ref x), some (ti z5), some (ti X332)]) dX12_readsSum_33 rfl rfl rfl ?_
      refine GO.iload_n dX12_readsSum_34 rfl rfl ?_
      refine GO.iconst dX12_readsSum_35 ?_
      refine GO.icmp_eq (tgt := 96) dX12_readsSum_36 (by decide) r333 (ir_c rfl) (fun c335 => ?_) (fun c335 => ?_)
      ·
        have hsn : ¬ 0 ≤ sumN (sgn W320 x) := by first | (rw [show sgn W320 x = -1 by omega]; decide) | (have h9 : X332 = sumN (sgn W320 x) := rq0_30.trans (congrArg sumN (by omega)); omega)
        refine GO.aload_n dX12_readsSum_96 rfl rfl ?_
        refine GO.callV (ci := 11) (N := mX12_sign) dX12_readsSum_97 (RX12, TX12, 151) rfl gV_RX12_449 h_x (t_X12_sign h_x) rfl [] rfl rfl (Nat.le_of_ble_eq_true rfl) rfl (k_ip fun X336 r337 h338 => ?_)
        refine GO.bipush dX12_readsSum_100 rfl ?_
        refine GO.icmp_ne (tgt := 151) dX12_readsSum_102 (by decide) r337 (ir_c rfl) (fun c339 => ?_) (fun c339 => ?_)
        ·
          refine GO.aload_n dX12_readsSum_151 rfl rfl ?_
          refine GO.iload_n dX12_readsSum_152 rfl rfl ?_
          have q340 : -2147483648 ≤ vi W320 x 37 ∧ vi W320 x 37 ≤ 2147483647 := vi_ir
          have q341 : -2147483648 ≤ vi W320 x 31 ∧ vi W320 x 31 ≤ 2147483647 := vi_ir
          have q342 : -2147483648 ≤ vi W320 x 32 ∧ vi W320 x 32 ≤ 2147483647 := vi_ir
          have q343 : -2147483648 ≤ vi W320 x 36 ∧ vi W320 x 36 ≤ 2147483647 := vi_ir
          refine GO.callV (ci := 11) (N := mX12_hasOpenSum) dX12_readsSum_153 (RX12, TX12, 151) rfl gV_RX12_502 h_x (t_X12_hasOpenSum h_x r7 (by omega)) rfl [] rfl rfl (Nat.le_of_ble_eq_true rfl) rfl (k_ip fun X344 r345 h346 => ?_)
          have raw_hasOpenSum := h346.2.2.2
          have rw153 := h346.2.2.2
          refine GO.if_eq (tgt := 169) dX12_readsSum_156 (by decide) r345 (fun c347 => ?_) (fun c347 => ?_)
          ·
            refine GO.aload_n dX12_readsSum_169 rfl rfl ?_
            refine GO.iconst dX12_readsSum_170 ?_
            refine GO.callV (ci := 11) (N := mX12_closesSums) dX12_readsSum_171 (RX12, TX12, 151) rfl gV_RX12_498 h_x (t_X12_closesSums h_x (ir_c rfl) (by omega) (by assumption) (by omega)) rfl [] rfl rfl (Nat.le_of_ble_eq_true rfl) rfl (k_vs fun V350 h349 hF348 => ?_)
            refine GO.useWT (fun hW351 => ?_)
            have aq352 := hW351.aq h_x
            have raw_closesSums := h349.2.1
            have rq0_171 := h349.2.2.1
            have rq1_171 := h349.2.2.2
            have rw171 := h349.2.1
            have e353 : vi V350 x 31 = vi W320 x 31 := vi_fr hF348 h_x h_x (by decide +kernel)
            have e356 : vi V350 x 35 = vi W320 x 35 := vi_fr hF348 h_x h_x (by decide +kernel)
            have hsq := GM.fin (by assumption) (by assumption) raw_closesSums.2 (by omega) (by omega) raw_hasOpenSum (by omega)
            have hsq1 := hsq.1
            refine GO.iconst dX12_readsSum_174 ?_
            have q357 : -2147483648 ≤ vi V350 x 37 ∧ vi V350 x 37 ≤ 2147483647 := vi_ir
            have q358 : -2147483648 ≤ vi V350 x 36 ∧ vi V350 x 36 ≤ 2147483647 := vi_ir
            exact GO.retz rfl rfl dX12_readsSum_175 (Or.inr rfl) ⟨rfl, _, rfl, (ir_c rfl), ⟨Or.inr rfl, fun h => by omega, fun _ => trivial, ⟨(by first | exact fun h => absurd h (by decide) | exact fun _ => raw_closesSums.1), (by first | exact fun h => absurd h (by decide) | exact fun _ => hsq)⟩, (by first | exact SK.fin hsk hTp hgw.1.2 rq0_171 hsn hsq1 (by omega) (by omega) (by omega) (by omega) | exact Eq.mp (congrArg (SK V _ x) (by omega)) (SK.beg0 rq0_6 (by omega) rfl))⟩⟩
          ·
            have hin : ∃ j, (vi V x 37).toNat ≤ j ∧ j < (vi W320 x 37).toNat ∧ wt W320 x j / UU = 14 := by have h9 := rw153.1 (by omega); rw [show z5 = vi V x 37 by omega] at h9; exact h9
            refine GO.aload_n dX12_readsSum_159 rfl rfl ?_
            refine GO.iconst dX12_readsSum_160 ?_
            refine GO.aload_n dX12_readsSum_161 rfl rfl ?_
            refine GO.getI h_x fl_RX12_443 rfl rfl dX12_readsSum_162 (fun l360 u361 => ?_)
            refine GO.callV (ci := 11) (N := mX12_wrong) dX12_readsSum_165 (RX12, TX12, 151) rfl gV_RX12_456 h_x (t_X12_wrong h_x (ir_c rfl) vi_ir (by omega) (by omega) (by omega) (by omega)) rfl [] rfl rfl (Nat.le_of_ble_eq_true rfl) rfl (k_is fun X362 V366 r363 h364 hF365 => ?_)
            have k367 := st_fr hF365 aq324 h_x (by decide +kernel) (by decide +kernel) (by decide +kernel) (by decide +kernel)
            have sS368 : sd V366 x = sd W320 x := k367.2.1.trans (rfl : sd W320 x = sd W320 x)
            have sQ369 : wt V366 x = wt W320 x := k367.2.2.trans (rfl : wt W320 x = wt W320 x)
            have e371 : vi V366 x 31 = vi W320 x 31 := vi_fr hF365 h_x h_x (by decide +kernel)
            have q372 : -2147483648 ≤ vi V366 x 33 ∧ vi V366 x 33 ≤ 2147483647 := vi_ir
            have e373 : vi V366 x 37 = vi W320 x 37 := vi_fr hF365 h_x h_x (by decide +kernel)
            have e374 : vi V366 x 35 = vi W320 x 35 := vi_fr hF365 h_x h_x (by decide +kernel)
            exact GO.retz rfl rfl dX12_readsSum_168 (by omega) ⟨rfl, _, rfl, r363, ⟨by omega, fun h => by omega, fun _ => trivial, ⟨(by first | exact fun h => absurd h (by omega)), (by first | exact fun h => absurd h (by omega))⟩, (by first | exact Eq.mp (congrArg (SK V _ x) (by omega)) (SK.err hsk hTp hsn (by omega) hin (by omega) (by omega)) | exact Eq.mp (congrArg (SK V _ x) (by omega)) (SK.beg0 rq0_6 (by omega) rfl))⟩⟩
        ·
          refine GO.aload_n dX12_readsSum_105 rfl rfl ?_
          refine GO.iload_n dX12_readsSum_106 rfl rfl ?_
          have q375 : -2147483648 ≤ vi W320 x 37 ∧ vi W320 x 37 ≤ 2147483647 := vi_ir
          have q376 : -2147483648 ≤ vi W320 x 31 ∧ vi W320 x 31 ≤ 2147483647 := vi_ir
          have q377 : -2147483648 ≤ vi W320 x 32 ∧ vi W320 x 32 ≤ 2147483647 := vi_ir
          have q378 : -2147483648 ≤ vi W320 x 36 ∧ vi W320 x 36 ≤ 2147483647 := vi_ir
          refine GO.callV (ci := 11) (N := mX12_hasOpenSum) dX12_readsSum_107 (RX12, TX12, 151) rfl gV_RX12_502 h_x (t_X12_hasOpenSum h_x r7 (by omega)) rfl [] rfl rfl (Nat.le_of_ble_eq_true rfl) rfl (k_ip fun X379 r380 h381 => ?_)
          have raw_hasOpenSum := h381.2.2.2
          have rw107 := h381.2.2.2
          refine GO.if_eq (tgt := 151) dX12_readsSum_110 (by decide) r380 (fun c382 => ?_) (fun c382 => ?_)
          ·
            refine GO.aload_n dX12_readsSum_151 rfl rfl ?_
            refine GO.iload_n dX12_readsSum_152 rfl rfl ?_
            refine GO.callV (ci := 11) (N := mX12_hasOpenSum) dX12_readsSum_153 (RX12, TX12, 151) rfl gV_RX12_502 h_x (t_X12_hasOpenSum h_x r7 (by omega)) rfl [] rfl rfl (Nat.le_of_ble_eq_true rfl) rfl (k_ip fun X383 r384 h385 => ?_)
            have raw_hasOpenSum := h385.2.2.2
            have rw153 := h385.2.2.2
            refine GO.if_eq (tgt := 169) dX12_readsSum_156 (by decide) r384 (fun c386 => ?_) (fun c386 => ?_)
            ·
              refine GO.aload_n dX12_readsSum_169 rfl rfl ?_
              refine GO.iconst dX12_readsSum_170 ?_
              refine GO.callV (ci := 11) (N := mX12_closesSums) dX12_readsSum_171 (RX12, TX12, 151) rfl gV_RX12_498 h_x (t_X12_closesSums h_x (ir_c rfl) (by omega) (by assumption) (by omega)) rfl [] rfl rfl (Nat.le_of_ble_eq_true rfl) rfl (k_vs fun V389 h388 hF387 => ?_)
              refine GO.useWT (fun hW390 => ?_)
              have aq391 := hW390.aq h_x
              have raw_closesSums := h388.2.1
              have rq0_171 := h388.2.2.1
              have rq1_171 := h388.2.2.2
              have rw171 := h388.2.1
              have e392 : vi V389 x 31 = vi W320 x 31 := vi_fr hF387 h_x h_x (by decide +kernel)
              have e395 : vi V389 x 35 = vi W320 x 35 := vi_fr hF387 h_x h_x (by decide +kernel)
              have hsq := GM.fin (by assumption) (by assumption) raw_closesSums.2 (by omega) (by omega) raw_hasOpenSum (by omega)
              have hsq1 := hsq.1
              refine GO.iconst dX12_readsSum_174 ?_
              have q396 : -2147483648 ≤ vi V389 x 37 ∧ vi V389 x 37 ≤ 2147483647 := vi_ir
              have q397 : -2147483648 ≤ vi V389 x 36 ∧ vi V389 x 36 ≤ 2147483647 := vi_ir
              exact GO.retz rfl rfl dX12_readsSum_175 (Or.inr rfl) ⟨rfl, _, rfl, (ir_c rfl), ⟨Or.inr rfl, fun h => by omega, fun _ => trivial, ⟨(by first | exact fun h => absurd h (by decide) | exact fun _ => raw_closesSums.1), (by first | exact fun h => absurd h (by decide) | exact fun _ => hsq)⟩, (by first | exact SK.fin hsk hTp hgw.1.2 rq0_171 hsn hsq1 (by omega) (by omega) (by omega) (by omega) | exact absurd (rw153.1 (by omega)) (fun ⟨k, a1, a2, a3⟩ => rw107.2 (by omega) k a1 a2 a3) | exact Eq.mp (congrArg (SK V _ x) (by omega)) (SK.beg0 rq0_6 (by omega) rfl))⟩⟩
            ·
              have hin : ∃ j, (vi V x 37).toNat ≤ j ∧ j < (vi W320 x 37).toNat ∧ wt W320 x j / UU = 14 := by have h9 := rw153.1 (by omega); rw [show z5 = vi V x 37 by omega] at h9; exact h9
              refine GO.aload_n dX12_readsSum_159 rfl rfl ?_
              refine GO.iconst dX12_readsSum_160 ?_
              refine GO.aload_n dX12_readsSum_161 rfl rfl ?_
              refine GO.getI h_x fl_RX12_443 rfl rfl dX12_readsSum_162 (fun l399 u400 => ?_)
              refine GO.callV (ci := 11) (N := mX12_wrong) dX12_readsSum_165 (RX12, TX12, 151) rfl gV_RX12_456 h_x (t_X12_wrong h_x (ir_c rfl) vi_ir (by omega) (by omega) (by omega) (by omega)) rfl [] rfl rfl (Nat.le_of_ble_eq_true rfl) rfl (k_is fun X401 V405 r402 h403 hF404 => ?_)
              have k406 := st_fr hF404 aq324 h_x (by decide +kernel) (by decide +kernel) (by decide +kernel) (by decide +kernel)
              have sS407 : sd V405 x = sd W320 x := k406.2.1.trans (rfl : sd W320 x = sd W320 x)
              have sQ408 : wt V405 x = wt W320 x := k406.2.2.trans (rfl : wt W320 x = wt W320 x)
              have e410 : vi V405 x 31 = vi W320 x 31 := vi_fr hF404 h_x h_x (by decide +kernel)
              have q411 : -2147483648 ≤ vi V405 x 33 ∧ vi V405 x 33 ≤ 2147483647 := vi_ir
              have e412 : vi V405 x 37 = vi W320 x 37 := vi_fr hF404 h_x h_x (by decide +kernel)
              have e413 : vi V405 x 35 = vi W320 x 35 := vi_fr hF404 h_x h_x (by decide +kernel)
              exact GO.retz rfl rfl dX12_readsSum_168 (by omega) ⟨rfl, _, rfl, r402, ⟨by omega, fun h => by omega, fun _ => trivial, ⟨(by first | exact fun h => absurd h (by omega)), (by first | exact fun h => absurd h (by omega))⟩, (by first | exact absurd (rw153.1 (by omega)) (fun ⟨k, a1, a2, a3⟩ => rw107.2 (by omega) k a1 a2 a3) | exact Eq.mp (congrArg (SK V _ x) (by omega)) (SK.err hsk hTp hsn (by omega) hin (by omega) (by omega)) | exact Eq.mp (congrArg (SK V _ x) (by omega)) (SK.beg0 rq0_6 (by omega) rfl))⟩⟩
          ·
            refine GO.aload_n dX12_readsSum_113 rfl rfl ?_
            refine GO.iconst dX12_readsSum_114 ?_
            refine GO.callV (ci := 11) (N := mX12_closesSums) dX12_readsSum_115 (RX12, TX12, 151) rfl gV_RX12_498 h_x (t_X12_closesSums h_x (ir_c rfl) (by omega) (by assumption) (by omega)) rfl [] rfl rfl (Nat.le_of_ble_eq_true rfl) rfl (k_vs fun V416 h415 hF414 => ?_)
            refine GO.useWT (fun hW417 => ?_)
            have aq418 := hW417.aq h_x
            have raw_closesSums := h415.2.1
            have rq0_115 := h415.2.2.1
            have rq1_115 := h415.2.2.2
            have rw115 := h415.2.1
            have e419 : vi V416 x 31 = vi W320 x 31 := vi_fr hF414 h_x h_x (by decide +kernel)
            have e422 : vi V416 x 35 = vi W320 x 35 := vi_fr hF414 h_x h_x (by decide +kernel)
            have hgo := GM.opn (by assumption) (by assumption) raw_closesSums.2 (by omega) (by omega) raw_hasOpenSum (by omega)
            have hgo1 := hgo.2.1
            have hgo2 := hgo.2.2
            refine GO.aload_n dX12_readsSum_118 rfl rfl ?_
            refine GO.aload_n dX12_readsSum_119 rfl rfl ?_
            refine GO.getI h_x fl_RX12_473 rfl rfl dX12_readsSum_120 (fun l423 u424 => ?_)
            refine GO.iconst dX12_readsSum_123 ?_
            refine GO.isub dX12_readsSum_124 ?_
            have q426 : -2147483648 ≤ vi V416 x 37 ∧ vi V416 x 37 ≤ 2147483647 := vi_ir
            have q427 : -2147483648 ≤ vi V416 x 36 ∧ vi V416 x 36 ≤ 2147483647 := vi_ir
            refine GO.putI h_x fp_RX12_473 rfl (by decide +kernel) ⟨by omega, by omega⟩ (by omega) (by omega) dX12_readsSum_125 (fun V428 e425 => ?_)
            have k429 := st_fld e425 aq418 h_x (by decide) (by decide)
            have sS430 : sd V428 x = sd V416 x := k429.2.1.trans (rfl : sd V416 x = sd V416 x)
            have sQ431 : wt V428 x = wt V416 x := k429.2.2.trans (rfl : wt V416 x = wt V416 x)
            refine GO.aload_n dX12_readsSum_128 rfl rfl ?_
            refine GO.aload_n dX12_readsSum_129 rfl rfl ?_
            refine GO.getI h_x fl_RX12_470 rfl rfl dX12_readsSum_130 (fun _ _ => ?_)
            have e432 : vi V428 x 35 = vi V416 x 35 := vi_up e425 (Or.inr (by decide))
            refine GO.iconst dX12_readsSum_133 ?_
            refine GO.isub dX12_readsSum_134 ?_
            refine GO.norm (fun z433 r434 hn435 => ?_)
            refine GO.putI h_x fp_RX12_470 rfl (by decide +kernel) r434 (r434).1 (r434).2 dX12_readsSum_135 (fun V437 e436 => ?_)
            have k438 := st_fld e436 k429.1 h_x (by decide) (by decide)
            have sS439 : sd V437 x = sd V416 x := k438.2.1.trans sS430
            have sQ440 : wt V437 x = wt V416 x := k438.2.2.trans sQ431
            have e441 : vi V437 x 35 = z433 := upd2_int e436 r434
            have hod := dec_at (V1 := V437) (x := x) (k := 35) (by assumption) (by assumption) (by assumption)
            refine GO.aload_n dX12_readsSum_138 rfl rfl ?_
            refine GO.aload_n dX12_readsSum_139 rfl rfl ?_
            refine GO.getI h_x fl_RX12_443 rfl rfl dX12_readsSum_140 (fun l442 u443 => ?_)
            have e445 : vi V428 x 31 = vi V416 x 31 := vi_up e425 (Or.inr (by decide))
            have e444 : vi V437 x 31 = vi V428 x 31 := vi_up e436 (Or.inr (by decide))
            refine GO.iconst dX12_readsSum_143 ?_
            refine GO.iadd dX12_readsSum_144 ?_
            refine GO.putI h_x fp_RX12_443 rfl (by decide +kernel) ⟨by omega, by omega⟩ (by omega) (by omega) dX12_readsSum_145 (fun V447 e446 => ?_)
            have k448 := st_fld e446 k438.1 h_x (by decide) (by decide)
            have sS449 : sd V447 x = sd V416 x := k448.2.1.trans sS439
            have sQ450 : wt V447 x = wt V416 x := k448.2.2.trans sQ440
            have e451 : vi V447 x 31 = (vi V437 x 31) + 1 := upd2_int e446 ⟨by omega, by omega⟩
            have e454 : vi V428 x 36 = vi V416 x 36 := vi_up e425 (Or.inr (by decide))
            have e453 : vi V437 x 36 = vi V428 x 36 := vi_up e436 (Or.inr (by decide))
            have e452 : vi V447 x 36 = vi V437 x 36 := vi_up e446 (Or.inr (by decide))
            have e457 : vi V428 x 37 = (vi V416 x 37) - 1 := upd2_int e425 ⟨by omega, by omega⟩
            have e456 : vi V437 x 37 = vi V428 x 37 := vi_up e436 (Or.inr (by decide))
            have e455 : vi V447 x 37 = vi V437 x 37 := vi_up e446 (Or.inr (by decide))
            refine GO.goto (tgt := 176) dX12_readsSum_148 (by decide) ?_
            refine GO.goto (tgt := 14) dX12_readsSum_176 (by decide) ?_
            refine GO.drop [true, true, false] rfl ?_
            have e458 : vi V447 x 35 = vi V437 x 35 := vi_up e446 (Or.inr (by decide))
            have q459 : -2147483648 ≤ z433 ∧ z433 ≤ 2147483647 := r434
            have e463 : vi V416 x 32 = vi W320 x 32 := vi_fr hF414 h_x h_x (by decide +kernel)
            have e462 : vi V428 x 32 = vi V416 x 32 := vi_up e425 (Or.inr (by decide))
            have e461 : vi V437 x 32 = vi V428 x 32 := vi_up e436 (Or.inr (by decide))
            have e460 : vi V447 x 32 = vi V437 x 32 := vi_up e446 (Or.inr (by decide))
            exact ih321  V447 ⟨by omega, (by first | exact raw_readsFactor.1 (by omega) | exact RJ.zz (raw_readsFactor.1 (by omega)) (by omega) | exact RJ.pop raw_closesSums.1 (by omega) (by omega) (sS449) (sQ450) (by omega) (by omega) (by omega)), (by first | exact GM.of (raw_readsFactor.2 (by omega)) | exact GM.pop hgo.1 (sQ450) (by omega) hgo1), (by first | exact SKi.beg rq0_6 (by omega) | exact SKi.clo hsk hTp hgw.1.2 rq0_115 (by omega) hgo2 (by omega) (by omega) (by omega) (by omega) (sS449) (sQ450) (by omega) (by omega) (by omega) (fun ga => by have h9 := hod (by omega); omega)), trivial⟩ (by show ((vi V447 x 32 - vi V447 x 31)).toNat < ((vi W320 x 32 - vi W320 x 31)).toNat; omega)
      ·
        have hop : X332 = sumN (sgn W320 x) := rq0_30.trans (congrArg sumN (by omega))
        refine GO.aload_n dX12_readsSum_39 rfl rfl ?_
        refine GO.iload_n dX12_readsSum_40 rfl rfl ?_
        refine GO.iconst dX12_readsSum_41 ?_
        refine GO.icmp_ge (tgt := 49) dX12_readsSum_42 (by decide) r333 (ir_c rfl) (fun c464 => ?_) (fun c464 => ?_)
        ·
          refine GO.iconst dX12_readsSum_49 ?_
          refine GO.callV (ci := 11) (N := mX12_closesSums) dX12_readsSum_50 (RX12, TX12, 151) rfl gV_RX12_498 h_x (t_X12_closesSums h_x (ir_c rfl) (by omega) (by assumption) (by omega)) rfl [] rfl rfl (Nat.le_of_ble_eq_true rfl) rfl (k_vs fun V467 h466 hF465 => ?_)
          refine GO.useWT (fun hW468 => ?_)
          have aq469 := hW468.aq h_x
          have raw_closesSums := h466.2.1
          have rq0_50 := h466.2.2.1
          have rq1_50 := h466.2.2.2
          have rw50 := h466.2.1
          have e470 : vi V467 x 31 = vi W320 x 31 := vi_fr hF465 h_x h_x (by decide +kernel)
          have e473 : vi V467 x 35 = vi W320 x 35 := vi_fr hF465 h_x h_x (by decide +kernel)
          have hgm := GM.clo (by assumption) (by assumption) raw_closesSums.2 (by omega)
          have hge := hgm.1.1
          have hcl2 := raw_closesSums.2.1.1
          refine GO.aload_n dX12_readsSum_53 rfl rfl ?_
          refine GO.getA (n := 220) h_x fl_RX12_91 rfl rfl rfl rfl dX12_readsSum_54 (fun hv475 h474 => ?_)
          refine GO.aload_n dX12_readsSum_57 rfl rfl ?_
          refine GO.getI h_x fl_RX12_473 rfl rfl dX12_readsSum_58 (fun l476 u477 => ?_)
          refine GO.ldcw (X := 1048576) dX12_readsSum_61 gw_2078 rfl ?_
          refine GO.iload_n dX12_readsSum_64 rfl rfl ?_
          refine GO.imul dX12_readsSum_65 ?_
          have q478 : -2147483648 ≤ vi V467 x 37 ∧ vi V467 x 37 ≤ 2147483647 := vi_ir
          have q479 : -2147483648 ≤ vi W320 x 37 ∧ vi W320 x 37 ≤ 2147483647 := vi_ir
          have q480 : -2147483648 ≤ vi W320 x 31 ∧ vi W320 x 31 ≤ 2147483647 := vi_ir
          have q481 : -2147483648 ≤ vi W320 x 32 ∧ vi W320 x 32 ≤ 2147483647 := vi_ir
          have q482 : -2147483648 ≤ vi W320 x 36 ∧ vi W320 x 36 ≤ 2147483647 := vi_ir
          have q483 : -2147483648 ≤ vi V467 x 36 ∧ vi V467 x 36 ≤ 2147483647 := vi_ir
          refine GO.iast (t := 33) rfl rfl (by decide +kernel) h474 vi_ir (by omega) (by omega) ⟨by omega, by omega⟩ (by omega) (by omega) dX12_readsSum_66 (fun V485 e484 => ?_)
          have k486 := st_wt e484 aq469 h_x (vq_of hv475) ⟨by omega, by omega⟩
          have sS487 : sd V485 x = sd V467 x := k486.2.1.trans (rfl : sd V467 x = sd V467 x)
          have sQ488 : wt V485 x = updf (wt V467 x) (vi V467 x 37).toNat (1048576 * X332) := k486.2.2.trans (congrArg (fun f => updf f (vi V467 x 37).toNat (1048576 * X332)) (rfl : wt V467 x = wt V467 x))
          refine GO.aload_n dX12_readsSum_67 rfl rfl ?_
          refine GO.aload_n dX12_readsSum_68 rfl rfl ?_
          refine GO.getI h_x fl_RX12_473 rfl rfl dX12_readsSum_69 (fun l489 u490 => ?_)
          have e491 : vi V485 x 37 = vi V467 x 37 := vi_up e484 (Or.inl (K_ne h_x h474 (by decide)))
          refine GO.iconst dX12_readsSum_72 ?_
          refine GO.iadd dX12_readsSum_73 ?_
          refine GO.putI h_x fp_RX12_473 rfl (by decide +kernel) ⟨by omega, by omega⟩ (by omega) (by omega) dX12_readsSum_74 (fun V493 e492 => ?_)
          have k494 := st_fld e492 k486.1 h_x (by decide) (by decide)
          have sS495 : sd V493 x = sd V467 x := k494.2.1.trans sS487
          have sQ496 : wt V493 x = updf (wt V467 x) (vi V467 x 37).toNat (1048576 * X332) := k494.2.2.trans sQ488
          refine GO.aload_n dX12_readsSum_77 rfl rfl ?_
          refine GO.aload_n dX12_readsSum_78 rfl rfl ?_
          refine GO.getI h_x fl_RX12_443 rfl rfl dX12_readsSum_79 (fun l497 u498 => ?_)
          have e500 : vi V485 x 31 = vi V467 x 31 := vi_up e484 (Or.inl (K_ne h_x h474 (by decide)))
          have e499 : vi V493 x 31 = vi V485 x 31 := vi_up e492 (Or.inr (by decide))
          refine GO.iconst dX12_readsSum_82 ?_
          refine GO.iadd dX12_readsSum_83 ?_
          have e502 : vi V485 x 36 = vi V467 x 36 := vi_up e484 (Or.inl (K_ne h_x h474 (by decide)))
          have e501 : vi V493 x 36 = vi V485 x 36 := vi_up e492 (Or.inr (by decide))
          have e503 : vi V493 x 37 = (vi V485 x 37) + 1 := upd2_int e492 ⟨by omega, by omega⟩
          refine GO.putI h_x fp_RX12_443 rfl (by decide +kernel) ⟨by omega, by omega⟩ (by omega) (by omega) dX12_readsSum_84 (fun V505 e504 => ?_)
          have k506 := st_fld e504 k494.1 h_x (by decide) (by decide)
          have sS507 : sd V505 x = sd V467 x := k506.2.1.trans sS495
          have sQ508 : wt V505 x = updf (wt V467 x) (vi V467 x 37).toNat (1048576 * X332) := k506.2.2.trans sQ496
          have e509 : vi V505 x 31 = (vi V493 x 31) + 1 := upd2_int e504 ⟨by omega, by omega⟩
          have e510 : vi V505 x 36 = vi V493 x 36 := vi_up e504 (Or.inr (by decide))
          have e511 : vi V505 x 37 = vi V493 x 37 := vi_up e504 (Or.inr (by decide))
          have e514 : vi V485 x 35 = vi V467 x 35 := vi_up e484 (Or.inl (K_ne h_x h474 (by decide)))
          have e513 : vi V493 x 35 = vi V485 x 35 := vi_up e492 (Or.inr (by decide))
          have e512 : vi V505 x 35 = vi V493 x 35 := vi_up e504 (Or.inr (by decide))
          have hs3 := sS507
          have hq3 := sQ508
          refine GO.useFR (fun hFs => ?_)
          have hTp3 : ∀ src e, TP V x src e → TP V505 x src e := fun src e h => TP.fr h hFs hW_0 h_x (by decide +kernel) (by decide +kernel) (by decide +kernel)
          refine GO.aload_n dX12_readsSum_87 rfl rfl ?_
          refine GO.callV (ci := 11) (N := mX12_readsFactor) dX12_readsSum_88 (RX12, TX12, 151) rfl gV_RX12_492 h_x (t_X12_readsFactor h_x (by omega) ((by first | assumption | exact RJ.pushS raw_closesSums.1 (by omega) (by omega) (sS507) (sQ508) (by omega) (by omega) (by omega)))) rfl [] rfl rfl (Nat.le_of_ble_eq_true rfl) rfl (k_is fun X515 V519 r516 h517 hF518 => ?_)
          refine GO.useWT (fun hW520 => ?_)
          have aq521 := hW520.aq h_x
          have raw_readsFactor := h517.2.2.2.1
          have rq0_88 := h517.2.2.2.2
          have rw88 := h517.2.2.2.1
          refine GO.if_ne (tgt := 176) dX12_readsSum_91 (by decide) r516 (fun c524 => ?_) (fun c524 => ?_)
          ·
            have q525 := h517.2.1 (by omega)
            refine GO.goto (tgt := 14) dX12_readsSum_176 (by decide) ?_
            refine GO.drop [true, true, false] rfl ?_
            have q526 : -2147483648 ≤ vi V519 x 31 ∧ vi V519 x 31 ≤ 2147483647 := vi_ir
            have q527 : -2147483648 ≤ vi V519 x 37 ∧ vi V519 x 37 ≤ 2147483647 := vi_ir
            have q529 : -2147483648 ≤ vi V519 x 35 ∧ vi V519 x 35 ≤ 2147483647 := vi_ir
            have e534 : vi V467 x 32 = vi W320 x 32 := vi_fr hF465 h_x h_x (by decide +kernel)
            have e533 : vi V485 x 32 = vi V467 x 32 := vi_up e484 (Or.inl (K_ne h_x h474 (by decide)))
            have e532 : vi V493 x 32 = vi V485 x 32 := vi_up e492 (Or.inr (by decide))
            have e531 : vi V505 x 32 = vi V493 x 32 := vi_up e504 (Or.inr (by decide))
            have e530 : vi V519 x 32 = vi V505 x 32 := vi_fr hF518 h_x h_x (by decide +kernel)
            exact ih321  V519 ⟨by omega, (by first | exact raw_readsFactor.1 (by omega) | exact RJ.zz (raw_readsFactor.1 (by omega)) (by omega) | exact RJ.pop raw_closesSums.1 (by omega) (by omega) ((rfl : sd V519 x = sd V519 x)) ((rfl : wt V519 x = wt V519 x)) (by omega) (by omega) (by omega)), (by first | exact GM.of (raw_readsFactor.2 (by omega)) | exact GM.fac (GM.push hgm (by omega) (by omega) (sQ508) (by omega)) (raw_readsFactor.2 (by omega))), (by first | exact SKi.beg rq0_6 (by omega) | exact (SKi.op hsk hTp hTp3 hgw.1.2 rq0_50 hcl2 rq1_50.1 rq1_50.2 hop (by omega) (by omega) (by omega) (by omega) (by omega) (by omega) hs3 hq3 (by omega) (by omega) (by omega) (by omega) rq0_88).1 (by omega)), trivial⟩ (by show ((vi V519 x 32 - vi V519 x 31)).toNat < ((vi W320 x 32 - vi W320 x 31)).toNat; omega)
          ·
            refine GO.iconst dX12_readsSum_94 ?_
            have q535 : -2147483648 ≤ vi V519 x 31 ∧ vi V519 x 31 ≤ 2147483647 := vi_ir
            have q536 : -2147483648 ≤ vi V519 x 37 ∧ vi V519 x 37 ≤ 2147483647 := vi_ir
            exact GO.retz rfl rfl dX12_readsSum_95 (Or.inl rfl) ⟨rfl, _, rfl, (ir_c rfl), ⟨Or.inl rfl, fun h => absurd rfl h, fun _ => trivial, ⟨(by first | exact fun h => absurd rfl h | exact fun _ => raw_closesSums.1), (by first | exact fun h => absurd rfl h)⟩, (by first | exact (SKi.op hsk hTp hTp3 hgw.1.2 rq0_50 hcl2 rq1_50.1 rq1_50.2 hop (by omega) (by omega) (by omega) (by omega) (by omega) (by omega) hs3 hq3 (by omega) (by omega) (by omega) (by omega) rq0_88).2 (by omega) | exact Eq.mp (congrArg (SK V _ x) (by omega)) (SK.beg0 rq0_6 (by omega) rfl))⟩⟩
        ·
          refine GO.iconst dX12_readsSum_45 ?_
          refine GO.goto (tgt := 50) dX12_readsSum_46 (by decide) ?_
          refine GO.callV (ci := 11) (N := mX12_closesSums) dX12_readsSum_50 (RX12, TX12, 151) rfl gV_RX12_498 h_x (t_X12_closesSums h_x (ir_c rfl) (by omega) (by assumption) (by omega)) rfl [] rfl rfl (Nat.le_of_ble_eq_true rfl) rfl (k_vs fun V541 h540 hF539 => ?_)
          refine GO.useWT (fun hW542 => ?_)
          have aq543 := hW542.aq h_x
          have raw_closesSums := h540.2.1
          have rq0_50 := h540.2.2.1
          have rq1_50 := h540.2.2.2
          have rw50 := h540.2.1
          have e544 : vi V541 x 31 = vi W320 x 31 := vi_fr hF539 h_x h_x (by decide +kernel)
          have e547 : vi V541 x 35 = vi W320 x 35 := vi_fr hF539 h_x h_x (by decide +kernel)
          have hgm := GM.clo (by assumption) (by assumption) raw_closesSums.2 (by omega)
          have hge := hgm.1.1
          have hcl2 := raw_closesSums.2.1.1
          refine GO.aload_n dX12_readsSum_53 rfl rfl ?_
          refine GO.getA (n := 220) h_x fl_RX12_91 rfl rfl rfl rfl dX12_readsSum_54 (fun hv549 h548 => ?_)
          refine GO.aload_n dX12_readsSum_57 rfl rfl ?_
          refine GO.getI h_x fl_RX12_473 rfl rfl dX12_readsSum_58 (fun l550 u551 => ?_)
          refine GO.ldcw (X := 1048576) dX12_readsSum_61 gw_2078 rfl ?_
          refine GO.iload_n dX12_readsSum_64 rfl rfl ?_
          refine GO.imul dX12_readsSum_65 ?_
          have q552 : -2147483648 ≤ vi V541 x 37 ∧ vi V541 x 37 ≤ 2147483647 := vi_ir
          have q553 : -2147483648 ≤ vi W320 x 37 ∧ vi W320 x 37 ≤ 2147483647 := vi_ir
          have q554 : -2147483648 ≤ vi W320 x 31 ∧ vi W320 x 31 ≤ 2147483647 := vi_ir
          have q555 : -2147483648 ≤ vi W320 x 32 ∧ vi W320 x 32 ≤ 2147483647 := vi_ir
          have q556 : -2147483648 ≤ vi W320 x 36 ∧ vi W320 x 36 ≤ 2147483647 := vi_ir
          have q557 : -2147483648 ≤ vi V541 x 36 ∧ vi V541 x 36 ≤ 2147483647 := vi_ir
          refine GO.iast (t := 33) rfl rfl (by decide +kernel) h548 vi_ir (by omega) (by omega) ⟨by omega, by omega⟩ (by omega) (by omega) dX12_readsSum_66 (fun V559 e558 => ?_)
          have k560 := st_wt e558 aq543 h_x (vq_of hv549) ⟨by omega, by omega⟩
          have sS561 : sd V559 x = sd V541 x := k560.2.1.trans (rfl : sd V541 x = sd V541 x)
          have sQ562 : wt V559 x = updf (wt V541 x) (vi V541 x 37).toNat (1048576 * X332) := k560.2.2.trans (congrArg (fun f => updf f (vi V541 x 37).toNat (1048576 * X332)) (rfl : wt V541 x = wt V541 x))
          refine GO.aload_n dX12_readsSum_67 rfl rfl ?_
          refine GO.aload_n dX12_readsSum_68 rfl rfl ?_
          refine GO.getI h_x fl_RX12_473 rfl rfl dX12_readsSum_69 (fun l563 u564 => ?_)
          have e565 : vi V559 x 37 = vi V541 x 37 := vi_up e558 (Or.inl (K_ne h_x h548 (by decide)))
          refine GO.iconst dX12_readsSum_72 ?_
          refine GO.iadd dX12_readsSum_73 ?_
          refine GO.putI h_x fp_RX12_473 rfl (by decide +kernel) ⟨by omega, by omega⟩ (by omega) (by omega) dX12_readsSum_74 (fun V567 e566 => ?_)
          have k568 := st_fld e566 k560.1 h_x (by decide) (by decide)
          have sS569 : sd V567 x = sd V541 x := k568.2.1.trans sS561
          have sQ570 : wt V567 x = updf (wt V541 x) (vi V541 x 37).toNat (1048576 * X332) := k568.2.2.trans sQ562
          refine GO.aload_n dX12_readsSum_77 rfl rfl ?_
          refine GO.aload_n dX12_readsSum_78 rfl rfl ?_
          refine GO.getI h_x fl_RX12_443 rfl rfl dX12_readsSum_79 (fun l571 u572 => ?_)
          have e574 : vi V559 x 31 = vi V541 x 31 := vi_up e558 (Or.inl (K_ne h_x h548 (by decide)))
          have e573 : vi V567 x 31 = vi V559 x 31 := vi_up e566 (Or.inr (by decide))
          refine GO.iconst dX12_readsSum_82 ?_
          refine GO.iadd dX12_readsSum_83 ?_
          have e576 : vi V559 x 36 = vi V541 x 36 := vi_up e558 (Or.inl (K_ne h_x h548 (by decide)))
          have e575 : vi V567 x 36 = vi V559 x 36 := vi_up e566 (Or.inr (by decide))
          have e577 : vi V567 x 37 = (vi V559 x 37) + 1 := upd2_int e566 ⟨by omega, by omega⟩
          refine GO.putI h_x fp_RX12_443 rfl (by decide +kernel) ⟨by omega, by omega⟩ (by omega) (by omega) dX12_readsSum_84 (fun V579 e578 => ?_)
          have k580 := st_fld e578 k568.1 h_x (by decide) (by decide)
          have sS581 : sd V579 x = sd V541 x := k580.2.1.trans sS569
          have sQ582 : wt V579 x = updf (wt V541 x) (vi V541 x 37).toNat (1048576 * X332) := k580.2.2.trans sQ570
          have e583 : vi V579 x 31 = (vi V567 x 31) + 1 := upd2_int e578 ⟨by omega, by omega⟩
          have e584 : vi V579 x 36 = vi V567 x 36 := vi_up e578 (Or.inr (by decide))
          have e585 : vi V579 x 37 = vi V567 x 37 := vi_up e578 (Or.inr (by decide))
          have e588 : vi V559 x 35 = vi V541 x 35 := vi_up e558 (Or.inl (K_ne h_x h548 (by decide)))
          have e587 : vi V567 x 35 = vi V559 x 35 := vi_up e566 (Or.inr (by decide))
          have e586 : vi V579 x 35 = vi V567 x 35 := vi_up e578 (Or.inr (by decide))
          have hs3 := sS581
          have hq3 := sQ582
          refine GO.useFR (fun hFs => ?_)
          have hTp3 : ∀ src e, TP V x src e → TP V579 x src e := fun src e h => TP.fr h hFs hW_0 h_x (by decide +kernel) (by decide +kernel) (by decide +kernel)
          refine GO.aload_n dX12_readsSum_87 rfl rfl ?_
          refine GO.callV (ci := 11) (N := mX12_readsFactor) dX12_readsSum_88 (RX12, TX12, 151) rfl gV_RX12_492 h_x (t_X12_readsFactor h_x (by omega) ((by first | assumption | exact RJ.pushS raw_closesSums.1 (by omega) (by omega) (sS581) (sQ582) (by omega) (by omega) (by omega)))) rfl [] rfl rfl (Nat.le_of_ble_eq_true rfl) rfl (k_is fun X589 V593 r590 h591 hF592 => ?_)
          refine GO.useWT (fun hW594 => ?_)
          have aq595 := hW594.aq h_x
          have raw_readsFactor := h591.2.2.2.1
          have rq0_88 := h591.2.2.2.2
          have rw88 := h591.2.2.2.1
          refine GO.if_ne (tgt := 176) dX12_readsSum_91 (by decide) r590 (fun c598 => ?_) (fun c598 => ?_)
          ·
            have q599 := h591.2.1 (by omega)
            refine GO.goto (tgt := 14) dX12_readsSum_176 (by decide) ?_
            refine GO.drop [true, true, false] rfl ?_
            have q600 : -2147483648 ≤ vi V593 x 31 ∧ vi V593 x 31 ≤ 2147483647 := vi_ir
            have q601 : -2147483648 ≤ vi V593 x 37 ∧ vi V593 x 37 ≤ 2147483647 := vi_ir
            have q603 : -2147483648 ≤ vi V593 x 35 ∧ vi V593 x 35 ≤ 2147483647 := vi_ir
            have e608 : vi V541 x 32 = vi W320 x 32 := vi_fr hF539 h_x h_x (by decide +kernel)
            have e607 : vi V559 x 32 = vi V541 x 32 := vi_up e558 (Or.inl (K_ne h_x h548 (by decide)))
            have e606 : vi V567 x 32 = vi V559 x 32 := vi_up e566 (Or.inr (by decide))
            have e605 : vi V579 x 32 = vi V567 x 32 := vi_up e578 (Or.inr (by decide))
            have e604 : vi V593 x 32 = vi V579 x 32 := vi_fr hF592 h_x h_x (by decide +kernel)
            exact ih321  V593 ⟨by omega, (by first | exact raw_readsFactor.1 (by omega) | exact RJ.zz (raw_readsFactor.1 (by omega)) (by omega) | exact RJ.pop raw_closesSums.1 (by omega) (by omega) ((rfl : sd V593 x = sd V593 x)) ((rfl : wt V593 x = wt V593 x)) (by omega) (by omega) (by omega)), (by first | exact GM.of (raw_readsFactor.2 (by omega)) | exact GM.fac (GM.push hgm (by omega) (by omega) (sQ582) (by omega)) (raw_readsFactor.2 (by omega))), (by first | exact SKi.beg rq0_6 (by omega) | exact (SKi.op hsk hTp hTp3 hgw.1.2 rq0_50 hcl2 rq1_50.1 rq1_50.2 hop (by omega) (by omega) (by omega) (by omega) (by omega) (by omega) hs3 hq3 (by omega) (by omega) (by omega) (by omega) rq0_88).1 (by omega)), trivial⟩ (by show ((vi V593 x 32 - vi V593 x 31)).toNat < ((vi W320 x 32 - vi W320 x 31)).toNat; omega)
          ·
            refine GO.iconst dX12_readsSum_94 ?_
            have q609 : -2147483648 ≤ vi V593 x 31 ∧ vi V593 x 31 ≤ 2147483647 := vi_ir
            have q610 : -2147483648 ≤ vi V593 x 37 ∧ vi V593 x 37 ≤ 2147483647 := vi_ir
            exact GO.retz rfl rfl dX12_readsSum_95 (Or.inl rfl) ⟨rfl, _, rfl, (ir_c rfl), ⟨Or.inl rfl, fun h => absurd rfl h, fun _ => trivial, ⟨(by first | exact fun h => absurd rfl h | exact fun _ => raw_closesSums.1), (by first | exact fun h => absurd rfl h)⟩, (by first | exact (SKi.op hsk hTp hTp3 hgw.1.2 rq0_50 hcl2 rq1_50.1 rq1_50.2 hop (by omega) (by omega) (by omega) (by omega) (by omega) (by omega) hs3 hq3 (by omega) (by omega) (by omega) (by omega) rq0_88).2 (by omega) | exact Eq.mp (congrArg (SK V _ x) (by omega)) (SK.beg0 rq0_6 (by omega) rfl))⟩⟩
    ·
      refine GO.iconst dX12_readsSum_22 ?_
      refine GO.goto (tgt := 33) dX12_readsSum_23 (by decide) ?_
      refine GO.istore_n (ls1 := [some (.ref x), some (ti z5), some (ti (-1))]) dX12_readsSum_33 rfl rfl rfl ?_
      refine GO.iload_n dX12_readsSum_34 rfl rfl ?_
      refine GO.iconst dX12_readsSum_35 ?_
      refine GO.icmp_eq (tgt := 96) dX12_readsSum_36 (by decide) (ir_c rfl) (ir_c rfl) (fun c613 => ?_) (fun h => by exfalso; omega)
      have hsn : ¬ 0 ≤ sumN (sgn W320 x) := by first | (rw [show sgn W320 x = -1 by omega]; decide) | (have h9 : (-1) = sumN (sgn W320 x) := rq0_30.trans (congrArg sumN (by omega)); omega)
      refine GO.aload_n dX12_readsSum_96 rfl rfl ?_
      refine GO.callV (ci := 11) (N := mX12_sign) dX12_readsSum_97 (RX12, TX12, 151) rfl gV_RX12_449 h_x (t_X12_sign h_x) rfl [] rfl rfl (Nat.le_of_ble_eq_true rfl) rfl (k_ip fun X614 r615 h616 => ?_)
      refine GO.bipush dX12_readsSum_100 rfl ?_
      refine GO.icmp_ne (tgt := 151) dX12_readsSum_102 (by decide) r615 (ir_c rfl) (fun c617 => ?_) (fun h => by exfalso; omega)
      refine GO.aload_n dX12_readsSum_151 rfl rfl ?_
      refine GO.iload_n dX12_readsSum_152 rfl rfl ?_
      have q618 : -2147483648 ≤ vi W320 x 37 ∧ vi W320 x 37 ≤ 2147483647 := vi_ir
      have q619 : -2147483648 ≤ vi W320 x 31 ∧ vi W320 x 31 ≤ 2147483647 := vi_ir
      have q620 : -2147483648 ≤ vi W320 x 36 ∧ vi W320 x 36 ≤ 2147483647 := vi_ir
      refine GO.callV (ci := 11) (N := mX12_hasOpenSum) dX12_readsSum_153 (RX12, TX12, 151) rfl gV_RX12_502 h_x (t_X12_hasOpenSum h_x r7 (by omega)) rfl [] rfl rfl (Nat.le_of_ble_eq_true rfl) rfl (k_ip fun X621 r622 h623 => ?_)
      have raw_hasOpenSum := h623.2.2.2
      have rw153 := h623.2.2.2
      refine GO.if_eq (tgt := 169) dX12_readsSum_156 (by decide) r622 (fun c624 => ?_) (fun c624 => ?_)
      ·
        refine GO.aload_n dX12_readsSum_169 rfl rfl ?_
        refine GO.iconst dX12_readsSum_170 ?_
        refine GO.callV (ci := 11) (N := mX12_closesSums) dX12_readsSum_171 (RX12, TX12, 151) rfl gV_RX12_498 h_x (t_X12_closesSums h_x (ir_c rfl) (by omega) (by assumption) (by omega)) rfl [] rfl rfl (Nat.le_of_ble_eq_true rfl) rfl (k_vs fun V627 h626 hF625 => ?_)
        refine GO.useWT (fun hW628 => ?_)
        have aq629 := hW628.aq h_x
        have raw_closesSums := h626.2.1
        have rq0_171 := h626.2.2.1
        have rq1_171 := h626.2.2.2
        have rw171 := h626.2.1
        have e630 : vi V627 x 31 = vi W320 x 31 := vi_fr hF625 h_x h_x (by decide +kernel)
        have e633 : vi V627 x 35 = vi W320 x 35 := vi_fr hF625 h_x h_x (by decide +kernel)
        have hsq := GM.fin (by assumption) (by assumption) raw_closesSums.2 (by omega) (by omega) raw_hasOpenSum (by omega)
        have hsq1 := hsq.1
        refine GO.iconst dX12_readsSum_174 ?_
        have q634 : -2147483648 ≤ vi V627 x 37 ∧ vi V627 x 37 ≤ 2147483647 := vi_ir
        have q635 : -2147483648 ≤ vi V627 x 36 ∧ vi V627 x 36 ≤ 2147483647 := vi_ir
        exact GO.retz rfl rfl dX12_readsSum_175 (Or.inr rfl) ⟨rfl, _, rfl, (ir_c rfl), ⟨Or.inr rfl, fun h => by omega, fun _ => trivial, ⟨(by first | exact fun h => absurd h (by decide) | exact fun _ => raw_closesSums.1), (by first | exact fun h => absurd h (by decide) | exact fun _ => hsq)⟩, (by first | exact SK.fin hsk hTp hgw.1.2 rq0_171 hsn hsq1 (by omega) (by omega) (by omega) (by omega) | exact Eq.mp (congrArg (SK V _ x) (by omega)) (SK.beg0 rq0_6 (by omega) rfl))⟩⟩
      ·
        have hin : ∃ j, (vi V x 37).toNat ≤ j ∧ j < (vi W320 x 37).toNat ∧ wt W320 x j / UU = 14 := by have h9 := rw153.1 (by omega); rw [show z5 = vi V x 37 by omega] at h9; exact h9
        refine GO.aload_n dX12_readsSum_159 rfl rfl ?_
        refine GO.iconst dX12_readsSum_160 ?_
        refine GO.aload_n dX12_readsSum_161 rfl rfl ?_
        refine GO.getI h_x fl_RX12_443 rfl rfl dX12_readsSum_162 (fun l637 u638 => ?_)
        refine GO.callV (ci := 11) (N := mX12_wrong) dX12_readsSum_165 (RX12, TX12, 151) rfl gV_RX12_456 h_x (t_X12_wrong h_x (ir_c rfl) vi_ir (by omega) (by omega) (by omega) (by omega)) rfl [] rfl rfl (Nat.le_of_ble_eq_true rfl) rfl (k_is fun X639 V643 r640 h641 hF642 => ?_)
        have k644 := st_fr hF642 aq324 h_x (by decide +kernel) (by decide +kernel) (by decide +kernel) (by decide +kernel)
        have sS645 : sd V643 x = sd W320 x := k644.2.1.trans (rfl : sd W320 x = sd W320 x)
        have sQ646 : wt V643 x = wt W320 x := k644.2.2.trans (rfl : wt W320 x = wt W320 x)
        have e648 : vi V643 x 31 = vi W320 x 31 := vi_fr hF642 h_x h_x (by decide +kernel)
        have q649 : -2147483648 ≤ vi V643 x 33 ∧ vi V643 x 33 ≤ 2147483647 := vi_ir
        have e650 : vi V643 x 37 = vi W320 x 37 := vi_fr hF642 h_x h_x (by decide +kernel)
        have e651 : vi V643 x 35 = vi W320 x 35 := vi_fr hF642 h_x h_x (by decide +kernel)
        exact GO.retz rfl rfl dX12_readsSum_168 (by omega) ⟨rfl, _, rfl, r640, ⟨by omega, fun h => by omega, fun _ => trivial, ⟨(by first | exact fun h => absurd h (by omega)), (by first | exact fun h => absurd h (by omega))⟩, (by first | exact Eq.mp (congrArg (SK V _ x) (by omega)) (SK.err hsk hTp hsn (by omega) hin (by omega) (by omega)) | exact Eq.mp (congrArg (SK V _ x) (by omega)) (SK.beg0 rq0_6 (by omega) rfl))⟩⟩
  ·
    refine GO.iconst dX12_readsSum_12 ?_
    have q652 : -2147483648 ≤ vi V16 x 31 ∧ vi V16 x 31 ≤ 2147483647 := vi_ir
    have q653 : -2147483648 ≤ vi V16 x 37 ∧ vi V16 x 37 ≤ 2147483647 := vi_ir
    exact GO.retz rfl rfl dX12_readsSum_13 (Or.inl rfl) ⟨rfl, _, rfl, (ir_c rfl), ⟨Or.inl rfl, fun h => absurd rfl h, fun _ => trivial, ⟨(by first | exact fun h => absurd rfl h), (by first | exact fun h => absurd rfl h)⟩, (by first | exact Eq.mp (congrArg (SK V _ x) (by omega)) (SK.beg0 rq0_6 (by omega) rfl))⟩⟩
