def mX12_readsCompared : MRec := (RX12, cX12_readsCompared, 2, (some .boolean), yX12_readsCompared, 5, 105, 0, 0, 48888863432027666070442696521825075865235241626388431603512355916790897375506972996244865024)
def mX12_readsCondition : MRec := (RX12, cX12_readsCondition, 1, (some .boolean), yX12_readsCondition, 6, 126, 0, 0, 48888863432027666070442696521825075865235241626388431603512355916790897375506972996244865024)
def mX12_isAsking : MRec := (RX12, cX12_isAsking, 1, (some .boolean), yX12_isAsking, 0, 0, 0, 0, 0)
def mX12_isLetter : MRec := (RX12, cX12_isLetter, 1, (some .boolean), yX12_isLetter, 1, 20, 0, 0, 0)
set_option maxHeartbeats 1000000 in
theorem t_X12_readsCompared {K : Kmap} {V : Vmap} {x : Nat} {fr : Nat} {S0 : Nat → Int} (h_x : K x = some (0, 11)) (q_0 : vi V x 37 ≥ 1) (w_0 : RJ V x fr S0 0 0) (w_1 : NS V x) : MC mX12_readsCompared K V [.ref x] (IS K (fun X V1 => (X = 0 ∨ X = 1) ∧ (X ≠ 0 → vi V1 x 31 ≥ (vi V x 31 + 1) ∧ vi V1 x 36 ≥ 0 ∧ vi V1 x 37 ≥ 1) ∧ (X = 0 → True) ∧ (X ≠ 0 → RJ V1 x fr S0 0 1) ∧ (X ≠ 0 → NS V1 x))) := by
  refine MC.start 1 (by decide +kernel) rfl rfl rfl (ls0 := [some (.ref x), none]) rfl ?_
  refine GO.useWT (fun hW1 => ?_)
  have aq2 := hW1.aq h_x
  have hrd := (hW1).rd h_x
  have hle := RJ.le (V := V) (x := x) (fr := fr) (S0 := S0) (s := 0) (z := 0) (by assumption)
  refine GO.aload_n dX12_readsCompared_0 rfl rfl ?_
  have q3 : -2147483648 ≤ vi V x 37 ∧ vi V x 37 ≤ 2147483647 := vi_ir
  have q4 : -2147483648 ≤ vi V x 31 ∧ vi V x 31 ≤ 2147483647 := vi_ir
  have q5 : -2147483648 ≤ vi V x 36 ∧ vi V x 36 ≤ 2147483647 := vi_ir
  refine GO.callV (ci := 11) (N := mX12_readsSum) dX12_readsCompared_1 (RX12, TX12, 151) rfl gV_RX12_505 h_x (t_X12_readsSum h_x (by omega) ((by first | assumption)) (by omega) ((by first | assumption))) rfl [] rfl rfl (Nat.le_of_ble_eq_true rfl) rfl (k_is fun X6 V10 r7 h8 hF9 => ?_)
  refine GO.useWT (fun hW11 => ?_)
  have aq12 := hW11.aq h_x
  have raw_readsSum := h8.2.2.2
  refine GO.if_ne (tgt := 9) dX12_readsCompared_4 (by decide) r7 (fun c15 => ?_) (fun c15 => ?_)
  ·
    have q16 := h8.2.1 (by omega)
    have e17 : vi V10 x 32 = vi V x 32 := vi_fr hF9 h_x h_x (by decide +kernel)
    have rs1 := raw_readsSum.1 (by omega)
    have rs2 := raw_readsSum.2 (by omega)
    have hrd1 := (hW11).rd h_x
    refine GO.aload_n dX12_readsCompared_9 rfl rfl ?_
    refine GO.callV (ci := 11) (N := mX12_sign) dX12_readsCompared_10 (RX12, TX12, 151) rfl gV_RX12_449 h_x (t_X12_sign h_x) rfl [] rfl rfl (Nat.le_of_ble_eq_true rfl) rfl (k_ip fun X19 r20 h21 => ?_)
    refine GO.bipush dX12_readsCompared_13 rfl ?_
    refine GO.icmp_ne (tgt := 23) dX12_readsCompared_15 (by decide) r20 (ir_c rfl) (fun c22 => ?_) (fun c22 => ?_)
    ·
      refine GO.aload_n dX12_readsCompared_23 rfl rfl ?_
      refine GO.callV (ci := 11) (N := mX12_sign) dX12_readsCompared_24 (RX12, TX12, 151) rfl gV_RX12_449 h_x (t_X12_sign h_x) rfl [] rfl rfl (Nat.le_of_ble_eq_true rfl) rfl (k_ip fun X23 r24 h25 => ?_)
      refine GO.bipush dX12_readsCompared_27 rfl ?_
      refine GO.icmp_ne (tgt := 37) dX12_readsCompared_29 (by decide) r24 (ir_c rfl) (fun c26 => ?_) (fun c26 => ?_)
      ·
        refine GO.aload_n dX12_readsCompared_37 rfl rfl ?_
        refine GO.callV (ci := 11) (N := mX12_sign) dX12_readsCompared_38 (RX12, TX12, 151) rfl gV_RX12_449 h_x (t_X12_sign h_x) rfl [] rfl rfl (Nat.le_of_ble_eq_true rfl) rfl (k_ip fun X27 r28 h29 => ?_)
        refine GO.bipush dX12_readsCompared_41 rfl ?_
        refine GO.icmp_ne (tgt := 51) dX12_readsCompared_43 (by decide) r28 (ir_c rfl) (fun c30 => ?_) (fun c30 => ?_)
        ·
          refine GO.iconst dX12_readsCompared_51 ?_
          refine GO.istore_n (ls1 := [some (.ref x), some (ti (-1))]) dX12_readsCompared_52 rfl rfl rfl ?_
          refine GO.iload_n dX12_readsCompared_53 rfl rfl ?_
          refine GO.iconst dX12_readsCompared_54 ?_
          refine GO.icmp_ne (tgt := 68) dX12_readsCompared_55 (by decide) (ir_c rfl) (ir_c rfl) (fun h => by exfalso; omega) (fun c31 => ?_)
          refine GO.aload_n dX12_readsCompared_58 rfl rfl ?_
          refine GO.iconst dX12_readsCompared_59 ?_
          refine GO.aload_n dX12_readsCompared_60 rfl rfl ?_
          refine GO.getI h_x fl_RX12_443 rfl rfl dX12_readsCompared_61 (fun l32 u33 => ?_)
          refine GO.callV (ci := 11) (N := mX12_wrong) dX12_readsCompared_64 (RX12, TX12, 151) rfl gV_RX12_456 h_x (t_X12_wrong h_x (ir_c rfl) vi_ir) rfl [] rfl rfl (Nat.le_of_ble_eq_true rfl) rfl (k_is fun X34 V38 r35 h36 hF37 => ?_)
          have k39 := st_fr hF37 aq12 h_x (by decide +kernel) (by decide +kernel) (by decide +kernel) (by decide +kernel)
          have sS40 : sd V38 x = sd V10 x := k39.2.1.trans (rfl : sd V10 x = sd V10 x)
          have sQ41 : wt V38 x = wt V10 x := k39.2.2.trans (rfl : wt V10 x = wt V10 x)
          have e42 : vi V38 x 31 = vi V10 x 31 := vi_fr hF37 h_x h_x (by decide +kernel)
          have q43 : -2147483648 ≤ vi V10 x 31 ∧ vi V10 x 31 ≤ 2147483647 := vi_ir
          have q44 : -2147483648 ≤ vi V10 x 37 ∧ vi V10 x 37 ≤ 2147483647 := vi_ir
          have e45 : vi V38 x 36 = vi V10 x 36 := vi_fr hF37 h_x h_x (by decide +kernel)
          have q46 : -2147483648 ≤ vi V10 x 36 ∧ vi V10 x 36 ≤ 2147483647 := vi_ir
          have e47 : vi V38 x 37 = vi V10 x 37 := vi_fr hF37 h_x h_x (by decide +kernel)
          exact GO.retz rfl rfl dX12_readsCompared_67 (by omega) ⟨rfl, _, rfl, r35, ⟨by omega, fun h => by omega, fun _ => trivial, (by first | exact fun h => absurd h (by omega)), (by first | exact fun h => absurd h (by omega))⟩⟩
        ·
          refine GO.bipush dX12_readsCompared_46 rfl ?_
          refine GO.goto (tgt := 52) dX12_readsCompared_48 (by decide) ?_
          refine GO.istore_n (ls1 := [some (.ref x), some (ti 9)]) dX12_readsCompared_52 rfl rfl rfl ?_
          refine GO.iload_n dX12_readsCompared_53 rfl rfl ?_
          refine GO.iconst dX12_readsCompared_54 ?_
          refine GO.icmp_ne (tgt := 68) dX12_readsCompared_55 (by decide) (ir_c rfl) (ir_c rfl) (fun c48 => ?_) (fun h => by exfalso; omega)
          refine GO.aload_n dX12_readsCompared_68 rfl rfl ?_
          refine GO.aload_n dX12_readsCompared_69 rfl rfl ?_
          refine GO.getI h_x fl_RX12_443 rfl rfl dX12_readsCompared_70 (fun l49 u50 => ?_)
          refine GO.iconst dX12_readsCompared_73 ?_
          refine GO.iadd dX12_readsCompared_74 ?_
          have q52 : -2147483648 ≤ vi V10 x 31 ∧ vi V10 x 31 ≤ 2147483647 := vi_ir
          have q53 : -2147483648 ≤ vi V x 32 ∧ vi V x 32 ≤ 2147483647 := vi_ir
          have q54 : -2147483648 ≤ vi V10 x 37 ∧ vi V10 x 37 ≤ 2147483647 := vi_ir
          refine GO.putI h_x fp_RX12_443 rfl (by decide +kernel) ⟨by omega, by omega⟩ (by omega) (by omega) dX12_readsCompared_75 (fun V55 e51 => ?_)
          have k56 := st_fld e51 aq12 h_x (by decide) (by decide)
          have sS57 : sd V55 x = sd V10 x := k56.2.1.trans (rfl : sd V10 x = sd V10 x)
          have sQ58 : wt V55 x = wt V10 x := k56.2.2.trans (rfl : wt V10 x = wt V10 x)
          have e59 : vi V55 x 31 = (vi V10 x 31) + 1 := upd2_int e51 ⟨by omega, by omega⟩
          have e60 : vi V55 x 36 = vi V10 x 36 := vi_up e51 (Or.inr (by decide))
          have e61 : vi V55 x 37 = vi V10 x 37 := vi_up e51 (Or.inr (by decide))
          have hns2 := NS.sq (by assumption) rs2 (sQ58) (by omega)
          refine GO.aload_n dX12_readsCompared_78 rfl rfl ?_
          refine GO.callV (ci := 11) (N := mX12_readsSum) dX12_readsCompared_79 (RX12, TX12, 151) rfl gV_RX12_505 h_x (t_X12_readsSum h_x (by omega) ((by first | assumption | exact RJ.on (s1 := 1) rs1 (sS57) (sQ58) (by omega) (by omega) (by omega) (by omega))) (by omega) ((by first | assumption | exact NS.sq (by assumption) rs2 (sQ58) (by omega)))) rfl [] rfl rfl (Nat.le_of_ble_eq_true rfl) rfl (k_is fun X62 V66 r63 h64 hF65 => ?_)
          refine GO.useWT (fun hW67 => ?_)
          have aq68 := hW67.aq h_x
          have raw_readsSum := h64.2.2.2
          refine GO.if_ne (tgt := 87) dX12_readsCompared_82 (by decide) r63 (fun c71 => ?_) (fun c71 => ?_)
          ·
            have q72 := h64.2.1 (by omega)
            have ts1 := raw_readsSum.1 (by omega)
            have ts2 := raw_readsSum.2 (by omega)
            have hrd2 := (hW67).rd h_x
            have ht2 := ts1.le
            refine GO.aload_n dX12_readsCompared_87 rfl rfl ?_
            refine GO.iload_n dX12_readsCompared_88 rfl rfl ?_
            refine GO.iconst dX12_readsCompared_89 ?_
            refine GO.callV (ci := 11) (N := mX12_says) dX12_readsCompared_90 (RX12, TX12, 151) rfl gV_RX12_479 h_x (t_X12_says h_x (ir_c rfl) (ir_c rfl) (by omega) (by omega) (by omega) (by omega) ⟨by omega, by omega⟩) rfl [] rfl rfl (Nat.le_of_ble_eq_true rfl) rfl (k_vs fun V76 h75 hF74 => ?_)
            refine GO.useWT (fun hW77 => ?_)
            have aq78 := hW77.aq h_x
            have raw_says := h75.2
            have e80 : vi V76 x 31 = vi V66 x 31 := vi_fr hF74 h_x h_x (by decide +kernel)
            have e81 : vi V76 x 37 = vi V66 x 37 := vi_fr hF74 h_x h_x (by decide +kernel)
            refine GO.aload_n dX12_readsCompared_93 rfl rfl ?_
            refine GO.callV (ci := 11) (N := mX12_endsPiece) dX12_readsCompared_94 (RX12, TX12, 151) rfl gV_RX12_508 h_x (t_X12_endsPiece h_x (RJ.zz (RJ.cmp ts1 (by omega) (by omega) (upd_eq ((rfl : sd V76 x = sd V76 x)) raw_says.1 ((rfl : sd V66 x = sd V66 x)) (by omega)) (((rfl : wt V76 x = wt V76 x)).trans (raw_says.2.trans ((rfl : wt V66 x = wt V66 x)))) (by omega) (by omega) (by omega) (by omega) (by omega) rfl) rfl) (by omega) (NS.sq hns2 ts2 (((rfl : wt V76 x = wt V76 x)).trans (raw_says.2.trans ((rfl : wt V66 x = wt V66 x)))) (by omega)) (by omega)) rfl [] rfl rfl (Nat.le_of_ble_eq_true rfl) rfl (k_vs fun V84 h83 hF82 => ?_)
            refine GO.useWT (fun hW85 => ?_)
            have aq86 := hW85.aq h_x
            have raw_endsPiece := h83.2
            have e87 : vi V84 x 31 = vi V76 x 31 := vi_fr hF82 h_x h_x (by decide +kernel)
            refine GO.iconst dX12_readsCompared_97 ?_
            have q90 : -2147483648 ≤ vi V66 x 31 ∧ vi V66 x 31 ≤ 2147483647 := vi_ir
            have q91 : -2147483648 ≤ vi V66 x 37 ∧ vi V66 x 37 ≤ 2147483647 := vi_ir
            have q92 : -2147483648 ≤ vi V84 x 37 ∧ vi V84 x 37 ≤ 2147483647 := vi_ir
            have q93 : -2147483648 ≤ vi V84 x 36 ∧ vi V84 x 36 ≤ 2147483647 := vi_ir
            exact GO.retz rfl rfl dX12_readsCompared_98 (Or.inr rfl) ⟨rfl, _, rfl, (ir_c rfl), ⟨Or.inr rfl, fun h => by omega, fun _ => trivial, (by first | exact fun h => absurd h (by decide) | exact fun _ => raw_endsPiece.1), (by first | exact fun h => absurd h (by decide) | exact fun _ => raw_endsPiece.2)⟩⟩
          ·
            refine GO.iconst dX12_readsCompared_85 ?_
            have q94 : -2147483648 ≤ vi V66 x 31 ∧ vi V66 x 31 ≤ 2147483647 := vi_ir
            have q96 : -2147483648 ≤ vi V66 x 36 ∧ vi V66 x 36 ≤ 2147483647 := vi_ir
            have q97 : -2147483648 ≤ vi V66 x 37 ∧ vi V66 x 37 ≤ 2147483647 := vi_ir
            exact GO.retz rfl rfl dX12_readsCompared_86 (Or.inl rfl) ⟨rfl, _, rfl, (ir_c rfl), ⟨Or.inl rfl, fun h => absurd rfl h, fun _ => trivial, (by first | exact fun h => absurd rfl h), (by first | exact fun h => absurd rfl h)⟩⟩
      ·
        refine GO.bipush dX12_readsCompared_32 rfl ?_
        refine GO.goto (tgt := 52) dX12_readsCompared_34 (by decide) ?_
        refine GO.istore_n (ls1 := [some (.ref x), some (ti 8)]) dX12_readsCompared_52 rfl rfl rfl ?_
        refine GO.iload_n dX12_readsCompared_53 rfl rfl ?_
        refine GO.iconst dX12_readsCompared_54 ?_
        refine GO.icmp_ne (tgt := 68) dX12_readsCompared_55 (by decide) (ir_c rfl) (ir_c rfl) (fun c98 => ?_) (fun h => by exfalso; omega)
        refine GO.aload_n dX12_readsCompared_68 rfl rfl ?_
        refine GO.aload_n dX12_readsCompared_69 rfl rfl ?_
        refine GO.getI h_x fl_RX12_443 rfl rfl dX12_readsCompared_70 (fun l99 u100 => ?_)
        refine GO.iconst dX12_readsCompared_73 ?_
        refine GO.iadd dX12_readsCompared_74 ?_
        have q102 : -2147483648 ≤ vi V10 x 31 ∧ vi V10 x 31 ≤ 2147483647 := vi_ir
        have q103 : -2147483648 ≤ vi V x 32 ∧ vi V x 32 ≤ 2147483647 := vi_ir
        have q104 : -2147483648 ≤ vi V10 x 37 ∧ vi V10 x 37 ≤ 2147483647 := vi_ir
        refine GO.putI h_x fp_RX12_443 rfl (by decide +kernel) ⟨by omega, by omega⟩ (by omega) (by omega) dX12_readsCompared_75 (fun V105 e101 => ?_)
        have k106 := st_fld e101 aq12 h_x (by decide) (by decide)
        have sS107 : sd V105 x = sd V10 x := k106.2.1.trans (rfl : sd V10 x = sd V10 x)
        have sQ108 : wt V105 x = wt V10 x := k106.2.2.trans (rfl : wt V10 x = wt V10 x)
        have e109 : vi V105 x 31 = (vi V10 x 31) + 1 := upd2_int e101 ⟨by omega, by omega⟩
        have e110 : vi V105 x 36 = vi V10 x 36 := vi_up e101 (Or.inr (by decide))
        have e111 : vi V105 x 37 = vi V10 x 37 := vi_up e101 (Or.inr (by decide))
        have hns2 := NS.sq (by assumption) rs2 (sQ108) (by omega)
        refine GO.aload_n dX12_readsCompared_78 rfl rfl ?_
        refine GO.callV (ci := 11) (N := mX12_readsSum) dX12_readsCompared_79 (RX12, TX12, 151) rfl gV_RX12_505 h_x (t_X12_readsSum h_x (by omega) ((by first | assumption | exact RJ.on (s1 := 1) rs1 (sS107) (sQ108) (by omega) (by omega) (by omega) (by omega))) (by omega) ((by first | assumption | exact NS.sq (by assumption) rs2 (sQ108) (by omega)))) rfl [] rfl rfl (Nat.le_of_ble_eq_true rfl) rfl (k_is fun X112 V116 r113 h114 hF115 => ?_)
        refine GO.useWT (fun hW117 => ?_)
        have aq118 := hW117.aq h_x
        have raw_readsSum := h114.2.2.2
        refine GO.if_ne (tgt := 87) dX12_readsCompared_82 (by decide) r113 (fun c121 => ?_) (fun c121 => ?_)
        ·
          have q122 := h114.2.1 (by omega)
          have ts1 := raw_readsSum.1 (by omega)
          have ts2 := raw_readsSum.2 (by omega)
          have hrd2 := (hW117).rd h_x
          have ht2 := ts1.le
          refine GO.aload_n dX12_readsCompared_87 rfl rfl ?_
          refine GO.iload_n dX12_readsCompared_88 rfl rfl ?_
          refine GO.iconst dX12_readsCompared_89 ?_
          refine GO.callV (ci := 11) (N := mX12_says) dX12_readsCompared_90 (RX12, TX12, 151) rfl gV_RX12_479 h_x (t_X12_says h_x (ir_c rfl) (ir_c rfl) (by omega) (by omega) (by omega) (by omega) ⟨by omega, by omega⟩) rfl [] rfl rfl (Nat.le_of_ble_eq_true rfl) rfl (k_vs fun V126 h125 hF124 => ?_)
          refine GO.useWT (fun hW127 => ?_)
          have aq128 := hW127.aq h_x
          have raw_says := h125.2
          have e130 : vi V126 x 31 = vi V116 x 31 := vi_fr hF124 h_x h_x (by decide +kernel)
          have e131 : vi V126 x 37 = vi V116 x 37 := vi_fr hF124 h_x h_x (by decide +kernel)
          refine GO.aload_n dX12_readsCompared_93 rfl rfl ?_
          refine GO.callV (ci := 11) (N := mX12_endsPiece) dX12_readsCompared_94 (RX12, TX12, 151) rfl gV_RX12_508 h_x (t_X12_endsPiece h_x (RJ.zz (RJ.cmp ts1 (by omega) (by omega) (upd_eq ((rfl : sd V126 x = sd V126 x)) raw_says.1 ((rfl : sd V116 x = sd V116 x)) (by omega)) (((rfl : wt V126 x = wt V126 x)).trans (raw_says.2.trans ((rfl : wt V116 x = wt V116 x)))) (by omega) (by omega) (by omega) (by omega) (by omega) rfl) rfl) (by omega) (NS.sq hns2 ts2 (((rfl : wt V126 x = wt V126 x)).trans (raw_says.2.trans ((rfl : wt V116 x = wt V116 x)))) (by omega)) (by omega)) rfl [] rfl rfl (Nat.le_of_ble_eq_true rfl) rfl (k_vs fun V134 h133 hF132 => ?_)
          refine GO.useWT (fun hW135 => ?_)
          have aq136 := hW135.aq h_x
          have raw_endsPiece := h133.2
          have e137 : vi V134 x 31 = vi V126 x 31 := vi_fr hF132 h_x h_x (by decide +kernel)
          refine GO.iconst dX12_readsCompared_97 ?_
          have q140 : -2147483648 ≤ vi V116 x 31 ∧ vi V116 x 31 ≤ 2147483647 := vi_ir
          have q141 : -2147483648 ≤ vi V116 x 37 ∧ vi V116 x 37 ≤ 2147483647 := vi_ir
          have q142 : -2147483648 ≤ vi V134 x 37 ∧ vi V134 x 37 ≤ 2147483647 := vi_ir
          have q143 : -2147483648 ≤ vi V134 x 36 ∧ vi V134 x 36 ≤ 2147483647 := vi_ir
          exact GO.retz rfl rfl dX12_readsCompared_98 (Or.inr rfl) ⟨rfl, _, rfl, (ir_c rfl), ⟨Or.inr rfl, fun h => by omega, fun _ => trivial, (by first | exact fun h => absurd h (by decide) | exact fun _ => raw_endsPiece.1), (by first | exact fun h => absurd h (by decide) | exact fun _ => raw_endsPiece.2)⟩⟩
        ·
          refine GO.iconst dX12_readsCompared_85 ?_
          have q144 : -2147483648 ≤ vi V116 x 31 ∧ vi V116 x 31 ≤ 2147483647 := vi_ir
          have q146 : -2147483648 ≤ vi V116 x 36 ∧ vi V116 x 36 ≤ 2147483647 := vi_ir
          have q147 : -2147483648 ≤ vi V116 x 37 ∧ vi V116 x 37 ≤ 2147483647 := vi_ir
          exact GO.retz rfl rfl dX12_readsCompared_86 (Or.inl rfl) ⟨rfl, _, rfl, (ir_c rfl), ⟨Or.inl rfl, fun h => absurd rfl h, fun _ => trivial, (by first | exact fun h => absurd rfl h), (by first | exact fun h => absurd rfl h)⟩⟩
    ·
      refine GO.bipush dX12_readsCompared_18 rfl ?_
      refine GO.goto (tgt := 52) dX12_readsCompared_20 (by decide) ?_
      refine GO.istore_n (ls1 := [some (.ref x), some (ti 7)]) dX12_readsCompared_52 rfl rfl rfl ?_
      refine GO.iload_n dX12_readsCompared_53 rfl rfl ?_
      refine GO.iconst dX12_readsCompared_54 ?_
      refine GO.icmp_ne (tgt := 68) dX12_readsCompared_55 (by decide) (ir_c rfl) (ir_c rfl) (fun c148 => ?_) (fun h => by exfalso; omega)
      refine GO.aload_n dX12_readsCompared_68 rfl rfl ?_
      refine GO.aload_n dX12_readsCompared_69 rfl rfl ?_
      refine GO.getI h_x fl_RX12_443 rfl rfl dX12_readsCompared_70 (fun l149 u150 => ?_)
      refine GO.iconst dX12_readsCompared_73 ?_
      refine GO.iadd dX12_readsCompared_74 ?_
      have q152 : -2147483648 ≤ vi V10 x 31 ∧ vi V10 x 31 ≤ 2147483647 := vi_ir
      have q153 : -2147483648 ≤ vi V x 32 ∧ vi V x 32 ≤ 2147483647 := vi_ir
      have q154 : -2147483648 ≤ vi V10 x 37 ∧ vi V10 x 37 ≤ 2147483647 := vi_ir
      refine GO.putI h_x fp_RX12_443 rfl (by decide +kernel) ⟨by omega, by omega⟩ (by omega) (by omega) dX12_readsCompared_75 (fun V155 e151 => ?_)
      have k156 := st_fld e151 aq12 h_x (by decide) (by decide)
      have sS157 : sd V155 x = sd V10 x := k156.2.1.trans (rfl : sd V10 x = sd V10 x)
      have sQ158 : wt V155 x = wt V10 x := k156.2.2.trans (rfl : wt V10 x = wt V10 x)
      have e159 : vi V155 x 31 = (vi V10 x 31) + 1 := upd2_int e151 ⟨by omega, by omega⟩
      have e160 : vi V155 x 36 = vi V10 x 36 := vi_up e151 (Or.inr (by decide))
      have e161 : vi V155 x 37 = vi V10 x 37 := vi_up e151 (Or.inr (by decide))
      have hns2 := NS.sq (by assumption) rs2 (sQ158) (by omega)
      refine GO.aload_n dX12_readsCompared_78 rfl rfl ?_
      refine GO.callV (ci := 11) (N := mX12_readsSum) dX12_readsCompared_79 (RX12, TX12, 151) rfl gV_RX12_505 h_x (t_X12_readsSum h_x (by omega) ((by first | assumption | exact RJ.on (s1 := 1) rs1 (sS157) (sQ158) (by omega) (by omega) (by omega) (by omega))) (by omega) ((by first | assumption | exact NS.sq (by assumption) rs2 (sQ158) (by omega)))) rfl [] rfl rfl (Nat.le_of_ble_eq_true rfl) rfl (k_is fun X162 V166 r163 h164 hF165 => ?_)
      refine GO.useWT (fun hW167 => ?_)
      have aq168 := hW167.aq h_x
      have raw_readsSum := h164.2.2.2
      refine GO.if_ne (tgt := 87) dX12_readsCompared_82 (by decide) r163 (fun c171 => ?_) (fun c171 => ?_)
      ·
        have q172 := h164.2.1 (by omega)
        have ts1 := raw_readsSum.1 (by omega)
        have ts2 := raw_readsSum.2 (by omega)
        have hrd2 := (hW167).rd h_x
        have ht2 := ts1.le
        refine GO.aload_n dX12_readsCompared_87 rfl rfl ?_
        refine GO.iload_n dX12_readsCompared_88 rfl rfl ?_
        refine GO.iconst dX12_readsCompared_89 ?_
        refine GO.callV (ci := 11) (N := mX12_says) dX12_readsCompared_90 (RX12, TX12, 151) rfl gV_RX12_479 h_x (t_X12_says h_x (ir_c rfl) (ir_c rfl) (by omega) (by omega) (by omega) (by omega) ⟨by omega, by omega⟩) rfl [] rfl rfl (Nat.le_of_ble_eq_true rfl) rfl (k_vs fun V176 h175 hF174 => ?_)
        refine GO.useWT (fun hW177 => ?_)
        have aq178 := hW177.aq h_x
        have raw_says := h175.2
        have e180 : vi V176 x 31 = vi V166 x 31 := vi_fr hF174 h_x h_x (by decide +kernel)
        have e181 : vi V176 x 37 = vi V166 x 37 := vi_fr hF174 h_x h_x (by decide +kernel)
        refine GO.aload_n dX12_readsCompared_93 rfl rfl ?_
        refine GO.callV (ci := 11) (N := mX12_endsPiece) dX12_readsCompared_94 (RX12, TX12, 151) rfl gV_RX12_508 h_x (t_X12_endsPiece h_x (RJ.zz (RJ.cmp ts1 (by omega) (by omega) (upd_eq ((rfl : sd V176 x = sd V176 x)) raw_says.1 ((rfl : sd V166 x = sd V166 x)) (by omega)) (((rfl : wt V176 x = wt V176 x)).trans (raw_says.2.trans ((rfl : wt V166 x = wt V166 x)))) (by omega) (by omega) (by omega) (by omega) (by omega) rfl) rfl) (by omega) (NS.sq hns2 ts2 (((rfl : wt V176 x = wt V176 x)).trans (raw_says.2.trans ((rfl : wt V166 x = wt V166 x)))) (by omega)) (by omega)) rfl [] rfl rfl (Nat.le_of_ble_eq_true rfl) rfl (k_vs fun V184 h183 hF182 => ?_)
        refine GO.useWT (fun hW185 => ?_)
        have aq186 := hW185.aq h_x
        have raw_endsPiece := h183.2
        have e187 : vi V184 x 31 = vi V176 x 31 := vi_fr hF182 h_x h_x (by decide +kernel)
        refine GO.iconst dX12_readsCompared_97 ?_
        have q190 : -2147483648 ≤ vi V166 x 31 ∧ vi V166 x 31 ≤ 2147483647 := vi_ir
        have q191 : -2147483648 ≤ vi V166 x 37 ∧ vi V166 x 37 ≤ 2147483647 := vi_ir
        have q192 : -2147483648 ≤ vi V184 x 37 ∧ vi V184 x 37 ≤ 2147483647 := vi_ir
        have q193 : -2147483648 ≤ vi V184 x 36 ∧ vi V184 x 36 ≤ 2147483647 := vi_ir
        exact GO.retz rfl rfl dX12_readsCompared_98 (Or.inr rfl) ⟨rfl, _, rfl, (ir_c rfl), ⟨Or.inr rfl, fun h => by omega, fun _ => trivial, (by first | exact fun h => absurd h (by decide) | exact fun _ => raw_endsPiece.1), (by first | exact fun h => absurd h (by decide) | exact fun _ => raw_endsPiece.2)⟩⟩
      ·
        refine GO.iconst dX12_readsCompared_85 ?_
        have q194 : -2147483648 ≤ vi V166 x 31 ∧ vi V166 x 31 ≤ 2147483647 := vi_ir
        have q196 : -2147483648 ≤ vi V166 x 36 ∧ vi V166 x 36 ≤ 2147483647 := vi_ir
        have q197 : -2147483648 ≤ vi V166 x 37 ∧ vi V166 x 37 ≤ 2147483647 := vi_ir
        exact GO.retz rfl rfl dX12_readsCompared_86 (Or.inl rfl) ⟨rfl, _, rfl, (ir_c rfl), ⟨Or.inl rfl, fun h => absurd rfl h, fun _ => trivial, (by first | exact fun h => absurd rfl h), (by first | exact fun h => absurd rfl h)⟩⟩
  ·
    refine GO.iconst dX12_readsCompared_7 ?_
    have q198 : -2147483648 ≤ vi V10 x 31 ∧ vi V10 x 31 ≤ 2147483647 := vi_ir
    have q200 : -2147483648 ≤ vi V10 x 36 ∧ vi V10 x 36 ≤ 2147483647 := vi_ir
    have q201 : -2147483648 ≤ vi V10 x 37 ∧ vi V10 x 37 ≤ 2147483647 := vi_ir
    exact GO.retz rfl rfl dX12_readsCompared_8 (Or.inl rfl) ⟨rfl, _, rfl, (ir_c rfl), ⟨Or.inl rfl, fun h => absurd rfl h, fun _ => trivial, (by first | exact fun h => absurd rfl h), (by first | exact fun h => absurd rfl h)⟩⟩

set_option maxHeartbeats 1000000 in
theorem t_X12_readsCondition {K : Kmap} {V : Vmap} {x : Nat} {fr : Nat} {S0 : Nat → Int} (h_x : K x = some (0, 11)) (q_0 : vi V x 36 ≤ vi V x 31) (w_0 : SB V x fr S0) : MC mX12_readsCondition K V [.ref x] (IS K (fun X V1 => (X = 0 ∨ X = 1) ∧ (X ≠ 0 → vi V1 x 31 ≥ (vi V x 31 + 1)) ∧ (X = 0 → True) ∧ (X ≠ 0 → RF V1 x fr S0))) := by
  refine MC.start 0 (by decide +kernel) rfl rfl rfl (ls0 := [some (.ref x)]) rfl ?_
  refine GO.useWT (fun hW1 => ?_)
  have aq2 := hW1.aq h_x
  have hrd := (hW1).rd h_x
  refine GO.aload_n dX12_readsCondition_0 rfl rfl ?_
  refine GO.iconst dX12_readsCondition_1 ?_
  refine GO.putI h_x fp_RX12_470 rfl (by decide +kernel) (ir_c rfl) (by decide) (by decide) dX12_readsCondition_2 (fun V4 e3 => ?_)
  have k5 := st_fld e3 aq2 h_x (by decide) (by decide)
  have sS6 : sd V4 x = sd V x := k5.2.1.trans (rfl : sd V x = sd V x)
  have sQ7 : wt V4 x = wt V x := k5.2.2.trans (rfl : wt V x = wt V x)
  refine GO.aload_n dX12_readsCondition_5 rfl rfl ?_
  refine GO.iconst dX12_readsCondition_6 ?_
  refine GO.putI h_x fp_RX12_473 rfl (by decide +kernel) (ir_c rfl) (by decide) (by decide) dX12_readsCondition_7 (fun V9 e8 => ?_)
  have k10 := st_fld e8 k5.1 h_x (by decide) (by decide)
  have sS11 : sd V9 x = sd V x := k10.2.1.trans sS6
  have sQ12 : wt V9 x = wt V x := k10.2.2.trans sQ7
  have e14 : vi V4 x 31 = vi V x 31 := vi_up e3 (Or.inr (by decide))
  have e13 : vi V9 x 31 = vi V4 x 31 := vi_up e8 (Or.inr (by decide))
  have e16 : vi V4 x 36 = vi V x 36 := vi_up e3 (Or.inr (by decide))
  have e15 : vi V9 x 36 = vi V4 x 36 := vi_up e8 (Or.inr (by decide))
  have e17 : vi V9 x 37 = 0 := upd2_int e8 (ir_c rfl)
  have hb := RJ.beg (by assumption) (sS11) (by omega) (by omega) (by omega) (by omega) (by omega)
  refine GO.aload_n dX12_readsCondition_10 rfl rfl ?_
  refine GO.callV (ci := 11) (N := mX12_sign) dX12_readsCondition_11 (RX12, TX12, 151) rfl gV_RX12_449 h_x (t_X12_sign h_x) rfl [] rfl rfl (Nat.le_of_ble_eq_true rfl) rfl (k_ip fun X18 r19 h20 => ?_)
  have e22 : vi V4 x 32 = vi V x 32 := vi_up e3 (Or.inr (by decide))
  have e21 : vi V9 x 32 = vi V4 x 32 := vi_up e8 (Or.inr (by decide))
  refine GO.bipush dX12_readsCondition_14 rfl ?_
  refine GO.icmp_eq (tgt := 29) dX12_readsCondition_16 (by decide) r19 (ir_c rfl) (fun c23 => ?_) (fun c23 => ?_)
  ·
    refine GO.aload_n dX12_readsCondition_29 rfl rfl ?_
    refine GO.bipush dX12_readsCondition_30 rfl ?_
    have q24 : -2147483648 ≤ vi V x 31 ∧ vi V x 31 ≤ 2147483647 := vi_ir
    have q25 : -2147483648 ≤ vi V x 36 ∧ vi V x 36 ≤ 2147483647 := vi_ir
    have q26 : -2147483648 ≤ vi V x 32 ∧ vi V x 32 ≤ 2147483647 := vi_ir
    refine GO.callV (ci := 11) (N := mX12_opens) dX12_readsCondition_32 (RX12, TX12, 151) rfl gV_RX12_482 h_x (t_X12_opens h_x (ir_c rfl) (by omega) (by omega) (by omega) ⟨by omega, by omega⟩) rfl [] rfl rfl (Nat.le_of_ble_eq_true rfl) rfl (k_is fun X27 V31 r28 h29 hF30 => ?_)
    refine GO.useWT (fun hW32 => ?_)
    have aq33 := hW32.aq h_x
    have raw_opens := h29.2.2.2
    refine GO.if_ne (tgt := 40) dX12_readsCondition_35 (by decide) r28 (fun c36 => ?_) (fun c36 => ?_)
    ·
      have q37 := h29.2.1 (by omega)
      have q38 : -2147483648 ≤ vi V31 x 31 ∧ vi V31 x 31 ≤ 2147483647 := vi_ir
      have q39 : -2147483648 ≤ vi V31 x 37 ∧ vi V31 x 37 ≤ 2147483647 := vi_ir
      have e40 : vi V31 x 36 = vi V9 x 36 := vi_fr hF30 h_x h_x (by decide +kernel)
      have e41 : vi V31 x 32 = vi V9 x 32 := vi_fr hF30 h_x h_x (by decide +kernel)
      refine GO.loop0 (fun  W => (vi W x 31 ≥ (vi V x 31 + 1) ∧ vi W x 37 ≥ 1 ∧ vi W x 36 ≥ 0 ∧ vi W x 32 = vi V x 32) ∧ (RJ W x fr S0 0 0) ∧ (NS W x) ∧ True) (fun  W => ((vi W x 32 - vi W x 31)).toNat)  ⟨by omega, (by first | exact RJ.pushO hb.1 (Or.inr (Or.inl rfl)) (fun _ => rfl) (((rfl : sd V31 x = sd V31 x)).trans (raw_opens (by omega)).1) (((rfl : wt V31 x = wt V31 x)).trans (raw_opens (by omega)).2) (by omega) (by omega) (by omega) | exact RJ.pushO (by assumption) (by omega) (fun _ => by omega) (((rfl : sd V31 x = sd V31 x)).trans (raw_opens (by omega)).1) (((rfl : wt V31 x = wt V31 x)).trans (raw_opens (by omega)).2) (by omega) (by omega) (by omega)), (by first | exact NS.push0 hb.2 (by omega) (((rfl : wt V31 x = wt V31 x)).trans (raw_opens (by omega)).2) (by omega) (by omega) | exact NS.push0 (by assumption) (by omega) (((rfl : wt V31 x = wt V31 x)).trans (raw_opens (by omega)).2) (by omega) (by omega)), trivial⟩ (fun W451 hp453 ih452 => ?_)
      obtain ⟨n_W451, w0_W451, w1_W451, -⟩ := hp453
      show GO mX12_readsCondition K V (IS K (fun X V1 => (X = 0 ∨ X = 1) ∧ (X ≠ 0 → vi V1 x 31 ≥ (vi V x 31 + 1)) ∧ (X = 0 → True) ∧ (X ≠ 0 → RF V1 x fr S0))) K W451 0 0 40 [some (.ref x)] []
      refine GO.useWT (fun hW454 => ?_)
      have aq455 := hW454.aq h_x
      have hrd := (hW454).rd h_x
      have hle := RJ.le (V := W451) (x := x) (fr := fr) (S0 := S0) (s := 0) (z := 0) (by assumption)
      refine GO.aload_n dX12_readsCondition_40 rfl rfl ?_
      refine GO.callV (ci := 11) (N := mX12_sign) dX12_readsCondition_41 (RX12, TX12, 151) rfl gV_RX12_449 h_x (t_X12_sign h_x) rfl [] rfl rfl (Nat.le_of_ble_eq_true rfl) rfl (k_ip fun X456 r457 h458 => ?_)
      refine GO.bipush dX12_readsCondition_44 rfl ?_
      refine GO.icmp_eq (tgt := 58) dX12_readsCondition_46 (by decide) r457 (ir_c rfl) (fun c459 => ?_) (fun c459 => ?_)
      ·
        refine GO.aload_n dX12_readsCondition_58 rfl rfl ?_
        refine GO.aload_n dX12_readsCondition_59 rfl rfl ?_
        refine GO.callV (ci := 11) (N := mX12_sign) dX12_readsCondition_60 (RX12, TX12, 151) rfl gV_RX12_449 h_x (t_X12_sign h_x) rfl [.ref x] rfl rfl (Nat.le_of_ble_eq_true rfl) rfl (k_ip fun X460 r461 h462 => ?_)
        refine GO.bipush dX12_readsCondition_63 rfl ?_
        refine GO.icmp_ne (tgt := 73) dX12_readsCondition_65 (by decide) r461 (ir_c rfl) (fun h => by exfalso; omega) (fun c463 => ?_)
        refine GO.bipush dX12_readsCondition_68 rfl ?_
        refine GO.goto (tgt := 75) dX12_readsCondition_70 (by decide) ?_
        have q464 : -2147483648 ≤ vi W451 x 32 ∧ vi W451 x 32 ≤ 2147483647 := vi_ir
        have q465 : -2147483648 ≤ vi W451 x 31 ∧ vi W451 x 31 ≤ 2147483647 := vi_ir
        have q466 : -2147483648 ≤ vi W451 x 37 ∧ vi W451 x 37 ≤ 2147483647 := vi_ir
        have q467 : -2147483648 ≤ vi W451 x 36 ∧ vi W451 x 36 ≤ 2147483647 := vi_ir
        refine GO.callV (ci := 11) (N := mX12_opens) dX12_readsCondition_75 (RX12, TX12, 151) rfl gV_RX12_482 h_x (t_X12_opens h_x (ir_c rfl) (by omega) (by omega) (by omega) ⟨by omega, by omega⟩) rfl [] rfl rfl (Nat.le_of_ble_eq_true rfl) rfl (k_is fun X468 V472 r469 h470 hF471 => ?_)
        refine GO.useWT (fun hW473 => ?_)
        have aq474 := hW473.aq h_x
        have raw_opens := h470.2.2.2
        refine GO.if_ne (tgt := 40) dX12_readsCondition_78 (by decide) r469 (fun c477 => ?_) (fun c477 => ?_)
        ·
          have q478 := h470.2.1 (by omega)
          have q479 : -2147483648 ≤ vi V472 x 31 ∧ vi V472 x 31 ≤ 2147483647 := vi_ir
          have q480 : -2147483648 ≤ vi V472 x 37 ∧ vi V472 x 37 ≤ 2147483647 := vi_ir
          have e481 : vi V472 x 36 = vi W451 x 36 := vi_fr hF471 h_x h_x (by decide +kernel)
          have e482 : vi V472 x 32 = vi W451 x 32 := vi_fr hF471 h_x h_x (by decide +kernel)
          exact ih452  V472 ⟨by omega, (by first | exact RJ.pushO hb.1 (Or.inr (Or.inl rfl)) (fun _ => rfl) (((rfl : sd V472 x = sd V472 x)).trans (raw_opens (by omega)).1) (((rfl : wt V472 x = wt V472 x)).trans (raw_opens (by omega)).2) (by omega) (by omega) (by omega) | exact RJ.pushO (by assumption) (by omega) (fun _ => by omega) (((rfl : sd V472 x = sd V472 x)).trans (raw_opens (by omega)).1) (((rfl : wt V472 x = wt V472 x)).trans (raw_opens (by omega)).2) (by omega) (by omega) (by omega)), (by first | exact NS.push0 hb.2 (by omega) (((rfl : wt V472 x = wt V472 x)).trans (raw_opens (by omega)).2) (by omega) (by omega) | exact NS.push0 (by assumption) (by omega) (((rfl : wt V472 x = wt V472 x)).trans (raw_opens (by omega)).2) (by omega) (by omega)), trivial⟩ (by show ((vi V472 x 32 - vi V472 x 31)).toNat < ((vi W451 x 32 - vi W451 x 31)).toNat; omega)
        ·
          refine GO.iconst dX12_readsCondition_81 ?_
          have q483 : -2147483648 ≤ vi V472 x 31 ∧ vi V472 x 31 ≤ 2147483647 := vi_ir
          exact GO.retz rfl rfl dX12_readsCondition_82 (Or.inl rfl) ⟨rfl, _, rfl, (ir_c rfl), ⟨Or.inl rfl, fun h => absurd rfl h, fun _ => trivial, (by first | exact fun h => absurd rfl h)⟩⟩
      ·
        refine GO.aload_n dX12_readsCondition_49 rfl rfl ?_
        refine GO.callV (ci := 11) (N := mX12_sign) dX12_readsCondition_50 (RX12, TX12, 151) rfl gV_RX12_449 h_x (t_X12_sign h_x) rfl [] rfl rfl (Nat.le_of_ble_eq_true rfl) rfl (k_ip fun X484 r485 h486 => ?_)
        refine GO.bipush dX12_readsCondition_53 rfl ?_
        refine GO.icmp_ne (tgt := 83) dX12_readsCondition_55 (by decide) r485 (ir_c rfl) (fun c487 => ?_) (fun c487 => ?_)
        ·
          refine GO.aload_n dX12_readsCondition_83 rfl rfl ?_
          have q488 : -2147483648 ≤ vi W451 x 37 ∧ vi W451 x 37 ≤ 2147483647 := vi_ir
          have q489 : -2147483648 ≤ vi W451 x 31 ∧ vi W451 x 31 ≤ 2147483647 := vi_ir
          have q490 : -2147483648 ≤ vi W451 x 36 ∧ vi W451 x 36 ≤ 2147483647 := vi_ir
          have q491 : -2147483648 ≤ vi W451 x 32 ∧ vi W451 x 32 ≤ 2147483647 := vi_ir
          refine GO.callV (ci := 11) (N := mX12_readsCompared) dX12_readsCondition_84 (RX12, TX12, 151) rfl gV_RX12_511 h_x (t_X12_readsCompared h_x (by omega) (by assumption) (by assumption)) rfl [] rfl rfl (Nat.le_of_ble_eq_true rfl) rfl (k_is fun X492 V496 r493 h494 hF495 => ?_)
          refine GO.useWT (fun hW497 => ?_)
          have aq498 := hW497.aq h_x
          have raw_readsCompared := h494.2.2.2
          refine GO.if_ne (tgt := 92) dX12_readsCondition_87 (by decide) r493 (fun c502 => ?_) (fun c502 => ?_)
          ·
            have q503 := h494.2.1 (by omega)
            have q504 : -2147483648 ≤ vi V496 x 31 ∧ vi V496 x 31 ≤ 2147483647 := vi_ir
            have q505 : -2147483648 ≤ vi V496 x 37 ∧ vi V496 x 37 ≤ 2147483647 := vi_ir
            have q506 : -2147483648 ≤ vi V496 x 36 ∧ vi V496 x 36 ≤ 2147483647 := vi_ir
            have e507 : vi V496 x 32 = vi W451 x 32 := vi_fr hF495 h_x h_x (by decide +kernel)
            refine GO.loop0 (fun  W => (vi W x 31 ≥ (vi V x 31 + 1) ∧ vi W x 37 ≥ 1 ∧ vi W x 36 ≥ 0 ∧ vi W x 31 ≥ (vi W451 x 31 + 1) ∧ vi W x 32 = vi V x 32) ∧ (RJ W x fr S0 0 1) ∧ (NS W x) ∧ True) (fun  W => ((vi W x 32 - vi W x 31)).toNat)  ⟨by omega, (by first | exact raw_readsCompared.1 (by omega)), (by first | exact NS.push0 hb.2 (by omega) (((rfl : wt V496 x = wt V496 x)).trans (raw_opens (by omega)).2) (by omega) (by omega) | exact NS.push0 (by assumption) (by omega) (((rfl : wt V496 x = wt V496 x)).trans (raw_opens (by omega)).2) (by omega) (by omega) | exact raw_readsCompared.2 (by omega)), trivial⟩ (fun W666 hp668 ih667 => ?_)
            obtain ⟨n_W666, w0_W666, w1_W666, -⟩ := hp668
            show GO mX12_readsCondition K V (IS K (fun X V1 => (X = 0 ∨ X = 1) ∧ (X ≠ 0 → vi V1 x 31 ≥ (vi V x 31 + 1)) ∧ (X = 0 → True) ∧ (X ≠ 0 → RF V1 x fr S0))) K W666 0 0 92 [some (.ref x)] []
            refine GO.useWT (fun hW669 => ?_)
            have aq670 := hW669.aq h_x
            have hrd := (hW669).rd h_x
            have hle := RJ.le (V := W666) (x := x) (fr := fr) (S0 := S0) (s := 0) (z := 1) (by assumption)
            refine GO.aload_n dX12_readsCondition_92 rfl rfl ?_
            refine GO.callV (ci := 11) (N := mX12_sign) dX12_readsCondition_93 (RX12, TX12, 151) rfl gV_RX12_449 h_x (t_X12_sign h_x) rfl [] rfl rfl (Nat.le_of_ble_eq_true rfl) rfl (k_ip fun X671 r672 h673 => ?_)
            refine GO.bipush dX12_readsCondition_96 rfl ?_
            refine GO.icmp_ne (tgt := 152) dX12_readsCondition_98 (by decide) r672 (ir_c rfl) (fun c674 => ?_) (fun c674 => ?_)
            ·
              refine GO.aload_n dX12_readsCondition_152 rfl rfl ?_
              refine GO.callV (ci := 11) (N := mX12_sign) dX12_readsCondition_153 (RX12, TX12, 151) rfl gV_RX12_449 h_x (t_X12_sign h_x) rfl [] rfl rfl (Nat.le_of_ble_eq_true rfl) rfl (k_ip fun X675 r676 h677 => ?_)
              refine GO.bipush dX12_readsCondition_156 rfl ?_
              refine GO.icmp_eq (tgt := 180) dX12_readsCondition_158 (by decide) r676 (ir_c rfl) (fun c678 => ?_) (fun c678 => ?_)
              ·
                refine GO.aload_n dX12_readsCondition_180 rfl rfl ?_
                refine GO.aload_n dX12_readsCondition_181 rfl rfl ?_
                refine GO.callV (ci := 11) (N := mX12_sign) dX12_readsCondition_182 (RX12, TX12, 151) rfl gV_RX12_449 h_x (t_X12_sign h_x) rfl [.ref x] rfl rfl (Nat.le_of_ble_eq_true rfl) rfl (k_ip fun X679 r680 h681 => ?_)
                refine GO.bipush dX12_readsCondition_185 rfl ?_
                refine GO.icmp_ne (tgt := 194) dX12_readsCondition_187 (by decide) r680 (ir_c rfl) (fun c682 => ?_) (fun h => by exfalso; omega)
                refine GO.iconst dX12_readsCondition_194 ?_
                refine GO.callV (ci := 11) (N := mX12_lands) dX12_readsCondition_195 (RX12, TX12, 151) rfl gV_RX12_514 h_x (t_X12_lands h_x (ir_c rfl) (by omega) (by assumption) (rfl) (by assumption) (by omega)) rfl [] rfl rfl (Nat.le_of_ble_eq_true rfl) rfl (k_vs fun V685 h684 hF683 => ?_)
                refine GO.useWT (fun hW686 => ?_)
                have aq687 := hW686.aq h_x
                have raw_lands := h684.2
                have e688 : vi V685 x 31 = vi W666 x 31 := vi_fr hF683 h_x h_x (by decide +kernel)
                refine GO.aload_n dX12_readsCondition_198 rfl rfl ?_
                refine GO.aload_n dX12_readsCondition_199 rfl rfl ?_
                refine GO.callV (ci := 11) (N := mX12_sign) dX12_readsCondition_200 (RX12, TX12, 151) rfl gV_RX12_449 h_x (t_X12_sign h_x) rfl [.ref x] rfl rfl (Nat.le_of_ble_eq_true rfl) rfl (k_ip fun X690 r691 h692 => ?_)
                have e693 : vi V685 x 32 = vi W666 x 32 := vi_fr hF683 h_x h_x (by decide +kernel)
                refine GO.bipush dX12_readsCondition_203 rfl ?_
                refine GO.icmp_ne (tgt := 213) dX12_readsCondition_205 (by decide) r691 (ir_c rfl) (fun c694 => ?_) (fun c694 => ?_)
                ·
                  refine GO.bipush dX12_readsCondition_213 rfl ?_
                  have q695 : -2147483648 ≤ vi W666 x 32 ∧ vi W666 x 32 ≤ 2147483647 := vi_ir
                  have q696 : -2147483648 ≤ vi W666 x 31 ∧ vi W666 x 31 ≤ 2147483647 := vi_ir
                  have q697 : -2147483648 ≤ vi W666 x 37 ∧ vi W666 x 37 ≤ 2147483647 := vi_ir
                  have q698 : -2147483648 ≤ vi V685 x 37 ∧ vi V685 x 37 ≤ 2147483647 := vi_ir
                  have q699 : -2147483648 ≤ vi W666 x 36 ∧ vi W666 x 36 ≤ 2147483647 := vi_ir
                  refine GO.callV (ci := 11) (N := mX12_jumps) dX12_readsCondition_215 (RX12, TX12, 151) rfl gV_RX12_517 h_x (t_X12_jumps h_x (ir_c rfl) (by omega) (by omega) (by omega) (raw_lands.1) (rfl) (raw_lands.2.1) (by omega)) rfl [] rfl rfl (Nat.le_of_ble_eq_true rfl) rfl (k_vs fun V702 h701 hF700 => ?_)
                  refine GO.useWT (fun hW703 => ?_)
                  have aq704 := hW703.aq h_x
                  have raw_jumps := h701.2
                  refine GO.goto (tgt := 40) dX12_readsCondition_218 (by decide) ?_
                  have q708 : -2147483648 ≤ vi V702 x 31 ∧ vi V702 x 31 ≤ 2147483647 := vi_ir
                  have q709 : -2147483648 ≤ vi V702 x 37 ∧ vi V702 x 37 ≤ 2147483647 := vi_ir
                  have q710 : -2147483648 ≤ vi V702 x 36 ∧ vi V702 x 36 ≤ 2147483647 := vi_ir
                  have e711 : vi V702 x 32 = vi V685 x 32 := vi_fr hF700 h_x h_x (by decide +kernel)
                  exact ih452  V702 ⟨by omega, (by first | exact RJ.pushO hb.1 (Or.inr (Or.inl rfl)) (fun _ => rfl) (((rfl : sd V702 x = sd V702 x)).trans (raw_opens (by omega)).1) (((rfl : wt V702 x = wt V702 x)).trans (raw_opens (by omega)).2) (by omega) (by omega) (by omega) | exact RJ.zz raw_jumps.1 (by omega) | exact RJ.pushO (by assumption) (by omega) (fun _ => by omega) (((rfl : sd V702 x = sd V702 x)).trans (raw_opens (by omega)).1) (((rfl : wt V702 x = wt V702 x)).trans (raw_opens (by omega)).2) (by omega) (by omega) (by omega)), (by first | exact NS.push0 hb.2 (by omega) (((rfl : wt V702 x = wt V702 x)).trans (raw_opens (by omega)).2) (by omega) (by omega) | exact raw_jumps.2 | exact NS.push0 (by assumption) (by omega) (((rfl : wt V702 x = wt V702 x)).trans (raw_opens (by omega)).2) (by omega) (by omega) | exact raw_readsCompared.2 (by omega)), trivial⟩ (by show ((vi V702 x 32 - vi V702 x 31)).toNat < ((vi W451 x 32 - vi W451 x 31)).toNat; omega)
                ·
                  refine GO.bipush dX12_readsCondition_208 rfl ?_
                  refine GO.goto (tgt := 215) dX12_readsCondition_210 (by decide) ?_
                  have q712 : -2147483648 ≤ vi W666 x 31 ∧ vi W666 x 31 ≤ 2147483647 := vi_ir
                  have q713 : -2147483648 ≤ vi W666 x 32 ∧ vi W666 x 32 ≤ 2147483647 := vi_ir
                  have q714 : -2147483648 ≤ vi W666 x 37 ∧ vi W666 x 37 ≤ 2147483647 := vi_ir
                  have q715 : -2147483648 ≤ vi V685 x 37 ∧ vi V685 x 37 ≤ 2147483647 := vi_ir
                  have q716 : -2147483648 ≤ vi W666 x 36 ∧ vi W666 x 36 ≤ 2147483647 := vi_ir
                  refine GO.callV (ci := 11) (N := mX12_jumps) dX12_readsCondition_215 (RX12, TX12, 151) rfl gV_RX12_517 h_x (t_X12_jumps h_x (ir_c rfl) (by omega) (by omega) (by omega) (raw_lands.1) (rfl) (raw_lands.2.1) (by omega)) rfl [] rfl rfl (Nat.le_of_ble_eq_true rfl) rfl (k_vs fun V719 h718 hF717 => ?_)
                  refine GO.useWT (fun hW720 => ?_)
                  have aq721 := hW720.aq h_x
                  have raw_jumps := h718.2
                  refine GO.goto (tgt := 40) dX12_readsCondition_218 (by decide) ?_
                  have q725 : -2147483648 ≤ vi V719 x 31 ∧ vi V719 x 31 ≤ 2147483647 := vi_ir
                  have q726 : -2147483648 ≤ vi V719 x 37 ∧ vi V719 x 37 ≤ 2147483647 := vi_ir
                  have q727 : -2147483648 ≤ vi V719 x 36 ∧ vi V719 x 36 ≤ 2147483647 := vi_ir
                  have e728 : vi V719 x 32 = vi V685 x 32 := vi_fr hF717 h_x h_x (by decide +kernel)
                  exact ih452  V719 ⟨by omega, (by first | exact RJ.pushO hb.1 (Or.inr (Or.inl rfl)) (fun _ => rfl) (((rfl : sd V719 x = sd V719 x)).trans (raw_opens (by omega)).1) (((rfl : wt V719 x = wt V719 x)).trans (raw_opens (by omega)).2) (by omega) (by omega) (by omega) | exact RJ.zz raw_jumps.1 (by omega) | exact RJ.pushO (by assumption) (by omega) (fun _ => by omega) (((rfl : sd V719 x = sd V719 x)).trans (raw_opens (by omega)).1) (((rfl : wt V719 x = wt V719 x)).trans (raw_opens (by omega)).2) (by omega) (by omega) (by omega)), (by first | exact NS.push0 hb.2 (by omega) (((rfl : wt V719 x = wt V719 x)).trans (raw_opens (by omega)).2) (by omega) (by omega) | exact raw_jumps.2 | exact NS.push0 (by assumption) (by omega) (((rfl : wt V719 x = wt V719 x)).trans (raw_opens (by omega)).2) (by omega) (by omega) | exact raw_readsCompared.2 (by omega)), trivial⟩ (by show ((vi V719 x 32 - vi V719 x 31)).toNat < ((vi W451 x 32 - vi W451 x 31)).toNat; omega)
              ·
                refine GO.aload_n dX12_readsCondition_161 rfl rfl ?_
                refine GO.callV (ci := 11) (N := mX12_sign) dX12_readsCondition_162 (RX12, TX12, 151) rfl gV_RX12_449 h_x (t_X12_sign h_x) rfl [] rfl rfl (Nat.le_of_ble_eq_true rfl) rfl (k_ip fun X729 r730 h731 => ?_)
                refine GO.bipush dX12_readsCondition_165 rfl ?_
                refine GO.icmp_eq (tgt := 180) dX12_readsCondition_167 (by decide) r730 (ir_c rfl) (fun c732 => ?_) (fun c732 => ?_)
                ·
                  refine GO.aload_n dX12_readsCondition_180 rfl rfl ?_
                  refine GO.aload_n dX12_readsCondition_181 rfl rfl ?_
                  refine GO.callV (ci := 11) (N := mX12_sign) dX12_readsCondition_182 (RX12, TX12, 151) rfl gV_RX12_449 h_x (t_X12_sign h_x) rfl [.ref x] rfl rfl (Nat.le_of_ble_eq_true rfl) rfl (k_ip fun X733 r734 h735 => ?_)
                  refine GO.bipush dX12_readsCondition_185 rfl ?_
                  refine GO.icmp_ne (tgt := 194) dX12_readsCondition_187 (by decide) r734 (ir_c rfl) (fun h => by exfalso; omega) (fun c736 => ?_)
                  refine GO.iconst dX12_readsCondition_190 ?_
                  refine GO.goto (tgt := 195) dX12_readsCondition_191 (by decide) ?_
                  refine GO.callV (ci := 11) (N := mX12_lands) dX12_readsCondition_195 (RX12, TX12, 151) rfl gV_RX12_514 h_x (t_X12_lands h_x (ir_c rfl) (by omega) (by assumption) (rfl) (by assumption) (by omega)) rfl [] rfl rfl (Nat.le_of_ble_eq_true rfl) rfl (k_vs fun V739 h738 hF737 => ?_)
                  refine GO.useWT (fun hW740 => ?_)
                  have aq741 := hW740.aq h_x
                  have raw_lands := h738.2
                  have e742 : vi V739 x 31 = vi W666 x 31 := vi_fr hF737 h_x h_x (by decide +kernel)
                  refine GO.aload_n dX12_readsCondition_198 rfl rfl ?_
                  refine GO.aload_n dX12_readsCondition_199 rfl rfl ?_
                  refine GO.callV (ci := 11) (N := mX12_sign) dX12_readsCondition_200 (RX12, TX12, 151) rfl gV_RX12_449 h_x (t_X12_sign h_x) rfl [.ref x] rfl rfl (Nat.le_of_ble_eq_true rfl) rfl (k_ip fun X744 r745 h746 => ?_)
                  have e747 : vi V739 x 32 = vi W666 x 32 := vi_fr hF737 h_x h_x (by decide +kernel)
                  refine GO.bipush dX12_readsCondition_203 rfl ?_
                  refine GO.icmp_ne (tgt := 213) dX12_readsCondition_205 (by decide) r745 (ir_c rfl) (fun c748 => ?_) (fun c748 => ?_)
                  ·
                    refine GO.bipush dX12_readsCondition_213 rfl ?_
                    have q749 : -2147483648 ≤ vi W666 x 32 ∧ vi W666 x 32 ≤ 2147483647 := vi_ir
                    have q750 : -2147483648 ≤ vi W666 x 31 ∧ vi W666 x 31 ≤ 2147483647 := vi_ir
                    have q751 : -2147483648 ≤ vi W666 x 37 ∧ vi W666 x 37 ≤ 2147483647 := vi_ir
                    have q752 : -2147483648 ≤ vi V739 x 37 ∧ vi V739 x 37 ≤ 2147483647 := vi_ir
                    have q753 : -2147483648 ≤ vi W666 x 36 ∧ vi W666 x 36 ≤ 2147483647 := vi_ir
                    refine GO.callV (ci := 11) (N := mX12_jumps) dX12_readsCondition_215 (RX12, TX12, 151) rfl gV_RX12_517 h_x (t_X12_jumps h_x (ir_c rfl) (by omega) (by omega) (by omega) (raw_lands.1) (rfl) (raw_lands.2.1) (by omega)) rfl [] rfl rfl (Nat.le_of_ble_eq_true rfl) rfl (k_vs fun V756 h755 hF754 => ?_)
                    refine GO.useWT (fun hW757 => ?_)
                    have aq758 := hW757.aq h_x
                    have raw_jumps := h755.2
                    refine GO.goto (tgt := 40) dX12_readsCondition_218 (by decide) ?_
                    have q762 : -2147483648 ≤ vi V756 x 31 ∧ vi V756 x 31 ≤ 2147483647 := vi_ir
                    have q763 : -2147483648 ≤ vi V756 x 37 ∧ vi V756 x 37 ≤ 2147483647 := vi_ir
                    have q764 : -2147483648 ≤ vi V756 x 36 ∧ vi V756 x 36 ≤ 2147483647 := vi_ir
                    have e765 : vi V756 x 32 = vi V739 x 32 := vi_fr hF754 h_x h_x (by decide +kernel)
                    exact ih452  V756 ⟨by omega, (by first | exact RJ.pushO hb.1 (Or.inr (Or.inl rfl)) (fun _ => rfl) (((rfl : sd V756 x = sd V756 x)).trans (raw_opens (by omega)).1) (((rfl : wt V756 x = wt V756 x)).trans (raw_opens (by omega)).2) (by omega) (by omega) (by omega) | exact RJ.zz raw_jumps.1 (by omega) | exact RJ.pushO (by assumption) (by omega) (fun _ => by omega) (((rfl : sd V756 x = sd V756 x)).trans (raw_opens (by omega)).1) (((rfl : wt V756 x = wt V756 x)).trans (raw_opens (by omega)).2) (by omega) (by omega) (by omega)), (by first | exact NS.push0 hb.2 (by omega) (((rfl : wt V756 x = wt V756 x)).trans (raw_opens (by omega)).2) (by omega) (by omega) | exact raw_jumps.2 | exact NS.push0 (by assumption) (by omega) (((rfl : wt V756 x = wt V756 x)).trans (raw_opens (by omega)).2) (by omega) (by omega) | exact raw_readsCompared.2 (by omega)), trivial⟩ (by show ((vi V756 x 32 - vi V756 x 31)).toNat < ((vi W451 x 32 - vi W451 x 31)).toNat; omega)
                  ·
                    refine GO.bipush dX12_readsCondition_208 rfl ?_
                    refine GO.goto (tgt := 215) dX12_readsCondition_210 (by decide) ?_
                    have q766 : -2147483648 ≤ vi W666 x 31 ∧ vi W666 x 31 ≤ 2147483647 := vi_ir
                    have q767 : -2147483648 ≤ vi W666 x 32 ∧ vi W666 x 32 ≤ 2147483647 := vi_ir
                    have q768 : -2147483648 ≤ vi W666 x 37 ∧ vi W666 x 37 ≤ 2147483647 := vi_ir
                    have q769 : -2147483648 ≤ vi V739 x 37 ∧ vi V739 x 37 ≤ 2147483647 := vi_ir
                    have q770 : -2147483648 ≤ vi W666 x 36 ∧ vi W666 x 36 ≤ 2147483647 := vi_ir
                    refine GO.callV (ci := 11) (N := mX12_jumps) dX12_readsCondition_215 (RX12, TX12, 151) rfl gV_RX12_517 h_x (t_X12_jumps h_x (ir_c rfl) (by omega) (by omega) (by omega) (raw_lands.1) (rfl) (raw_lands.2.1) (by omega)) rfl [] rfl rfl (Nat.le_of_ble_eq_true rfl) rfl (k_vs fun V773 h772 hF771 => ?_)
                    refine GO.useWT (fun hW774 => ?_)
                    have aq775 := hW774.aq h_x
                    have raw_jumps := h772.2
                    refine GO.goto (tgt := 40) dX12_readsCondition_218 (by decide) ?_
                    have q779 : -2147483648 ≤ vi V773 x 31 ∧ vi V773 x 31 ≤ 2147483647 := vi_ir
                    have q780 : -2147483648 ≤ vi V773 x 37 ∧ vi V773 x 37 ≤ 2147483647 := vi_ir
                    have q781 : -2147483648 ≤ vi V773 x 36 ∧ vi V773 x 36 ≤ 2147483647 := vi_ir
                    have e782 : vi V773 x 32 = vi V739 x 32 := vi_fr hF771 h_x h_x (by decide +kernel)
                    exact ih452  V773 ⟨by omega, (by first | exact RJ.pushO hb.1 (Or.inr (Or.inl rfl)) (fun _ => rfl) (((rfl : sd V773 x = sd V773 x)).trans (raw_opens (by omega)).1) (((rfl : wt V773 x = wt V773 x)).trans (raw_opens (by omega)).2) (by omega) (by omega) (by omega) | exact RJ.zz raw_jumps.1 (by omega) | exact RJ.pushO (by assumption) (by omega) (fun _ => by omega) (((rfl : sd V773 x = sd V773 x)).trans (raw_opens (by omega)).1) (((rfl : wt V773 x = wt V773 x)).trans (raw_opens (by omega)).2) (by omega) (by omega) (by omega)), (by first | exact NS.push0 hb.2 (by omega) (((rfl : wt V773 x = wt V773 x)).trans (raw_opens (by omega)).2) (by omega) (by omega) | exact raw_jumps.2 | exact NS.push0 (by assumption) (by omega) (((rfl : wt V773 x = wt V773 x)).trans (raw_opens (by omega)).2) (by omega) (by omega) | exact raw_readsCompared.2 (by omega)), trivial⟩ (by show ((vi V773 x 32 - vi V773 x 31)).toNat < ((vi W451 x 32 - vi W451 x 31)).toNat; omega)
                ·
                  refine GO.aload_n dX12_readsCondition_170 rfl rfl ?_
                  refine GO.iconst dX12_readsCondition_171 ?_
                  refine GO.aload_n dX12_readsCondition_172 rfl rfl ?_
                  refine GO.getI h_x fl_RX12_443 rfl rfl dX12_readsCondition_173 (fun l783 u784 => ?_)
                  refine GO.callV (ci := 11) (N := mX12_wrong) dX12_readsCondition_176 (RX12, TX12, 151) rfl gV_RX12_456 h_x (t_X12_wrong h_x (ir_c rfl) vi_ir) rfl [] rfl rfl (Nat.le_of_ble_eq_true rfl) rfl (k_is fun X785 V789 r786 h787 hF788 => ?_)
                  have k790 := st_fr hF788 aq670 h_x (by decide +kernel) (by decide +kernel) (by decide +kernel) (by decide +kernel)
                  have sS791 : sd V789 x = sd W666 x := k790.2.1.trans (rfl : sd W666 x = sd W666 x)
                  have sQ792 : wt V789 x = wt W666 x := k790.2.2.trans (rfl : wt W666 x = wt W666 x)
                  have e793 : vi V789 x 31 = vi W666 x 31 := vi_fr hF788 h_x h_x (by decide +kernel)
                  have q794 : -2147483648 ≤ vi W666 x 31 ∧ vi W666 x 31 ≤ 2147483647 := vi_ir
                  have q795 : -2147483648 ≤ vi W666 x 37 ∧ vi W666 x 37 ≤ 2147483647 := vi_ir
                  have q796 : -2147483648 ≤ vi W666 x 36 ∧ vi W666 x 36 ≤ 2147483647 := vi_ir
                  have q797 : -2147483648 ≤ vi W666 x 32 ∧ vi W666 x 32 ≤ 2147483647 := vi_ir
                  exact GO.retz rfl rfl dX12_readsCondition_179 (by omega) ⟨rfl, _, rfl, r786, ⟨by omega, fun h => by omega, fun _ => trivial, (by first | exact fun h => absurd h (by omega))⟩⟩
            ·
              refine GO.aload_n dX12_readsCondition_101 rfl rfl ?_
              refine GO.iconst dX12_readsCondition_102 ?_
              refine GO.callV (ci := 11) (N := mX12_lands) dX12_readsCondition_103 (RX12, TX12, 151) rfl gV_RX12_514 h_x (t_X12_lands h_x (ir_c rfl) (by omega) (by assumption) (rfl) (by assumption) (by omega)) rfl [] rfl rfl (Nat.le_of_ble_eq_true rfl) rfl (k_vs fun V800 h799 hF798 => ?_)
              refine GO.useWT (fun hW801 => ?_)
              have aq802 := hW801.aq h_x
              have raw_lands := h799.2
              have e803 : vi V800 x 31 = vi W666 x 31 := vi_fr hF798 h_x h_x (by decide +kernel)
              have hnt := NS.top raw_lands.2.1 (by omega)
              have hlt := raw_lands.2.2 (by decide)
              refine GO.aload_n dX12_readsCondition_106 rfl rfl ?_
              refine GO.aload_n dX12_readsCondition_107 rfl rfl ?_
              refine GO.getI h_x fl_RX12_473 rfl rfl dX12_readsCondition_108 (fun l805 u806 => ?_)
              refine GO.iconst dX12_readsCondition_111 ?_
              refine GO.isub dX12_readsCondition_112 ?_
              have q808 : -2147483648 ≤ vi V800 x 37 ∧ vi V800 x 37 ≤ 2147483647 := vi_ir
              have q809 : -2147483648 ≤ vi W666 x 37 ∧ vi W666 x 37 ≤ 2147483647 := vi_ir
              have q810 : -2147483648 ≤ vi W666 x 31 ∧ vi W666 x 31 ≤ 2147483647 := vi_ir
              have q811 : -2147483648 ≤ vi W666 x 32 ∧ vi W666 x 32 ≤ 2147483647 := vi_ir
              have q812 : -2147483648 ≤ vi W666 x 36 ∧ vi W666 x 36 ≤ 2147483647 := vi_ir
              refine GO.putI h_x fp_RX12_473 rfl (by decide +kernel) ⟨by omega, by omega⟩ (by omega) (by omega) dX12_readsCondition_113 (fun V813 e807 => ?_)
              have k814 := st_fld e807 aq802 h_x (by decide) (by decide)
              have sS815 : sd V813 x = sd V800 x := k814.2.1.trans (rfl : sd V800 x = sd V800 x)
              have sQ816 : wt V813 x = wt V800 x := k814.2.2.trans (rfl : wt V800 x = wt V800 x)
              refine GO.aload_n dX12_readsCondition_116 rfl rfl ?_
              refine GO.aload_n dX12_readsCondition_117 rfl rfl ?_
              refine GO.getI h_x fl_RX12_470 rfl rfl dX12_readsCondition_118 (fun _ _ => ?_)
              refine GO.iconst dX12_readsCondition_121 ?_
              refine GO.isub dX12_readsCondition_122 ?_
              refine GO.norm (fun z819 r820 _ => ?_)
              refine GO.putI h_x fp_RX12_470 rfl (by decide +kernel) r820 (r820).1 (r820).2 dX12_readsCondition_123 (fun V822 e821 => ?_)
              have k823 := st_fld e821 k814.1 h_x (by decide) (by decide)
              have sS824 : sd V822 x = sd V800 x := k823.2.1.trans sS815
              have sQ825 : wt V822 x = wt V800 x := k823.2.2.trans sQ816
              refine GO.aload_n dX12_readsCondition_126 rfl rfl ?_
              refine GO.aload_n dX12_readsCondition_127 rfl rfl ?_
              refine GO.getI h_x fl_RX12_443 rfl rfl dX12_readsCondition_128 (fun l826 u827 => ?_)
              have e829 : vi V813 x 31 = vi V800 x 31 := vi_up e807 (Or.inr (by decide))
              have e828 : vi V822 x 31 = vi V813 x 31 := vi_up e821 (Or.inr (by decide))
              refine GO.iconst dX12_readsCondition_131 ?_
              refine GO.iadd dX12_readsCondition_132 ?_
              refine GO.putI h_x fp_RX12_443 rfl (by decide +kernel) ⟨by omega, by omega⟩ (by omega) (by omega) dX12_readsCondition_133 (fun V831 e830 => ?_)
              have k832 := st_fld e830 k823.1 h_x (by decide) (by decide)
              have sS833 : sd V831 x = sd V800 x := k832.2.1.trans sS824
              have sQ834 : wt V831 x = wt V800 x := k832.2.2.trans sQ825
              refine GO.aload_n dX12_readsCondition_136 rfl rfl ?_
              refine GO.getI h_x fl_RX12_473 rfl rfl dX12_readsCondition_137 (fun l835 u836 => ?_)
              have e839 : vi V813 x 37 = (vi V800 x 37) - 1 := upd2_int e807 ⟨by omega, by omega⟩
              have e838 : vi V822 x 37 = vi V813 x 37 := vi_up e821 (Or.inr (by decide))
              have e837 : vi V831 x 37 = vi V822 x 37 := vi_up e830 (Or.inr (by decide))
              refine GO.if_ne (tgt := 145) dX12_readsCondition_140 (by decide) vi_ir (fun c840 => ?_) (fun c840 => ?_)
              ·
                have e841 : vi V831 x 31 = (vi V822 x 31) + 1 := upd2_int e830 ⟨by omega, by omega⟩
                have e845 : vi V800 x 36 = vi W666 x 36 := vi_fr hF798 h_x h_x (by decide +kernel)
                have e844 : vi V813 x 36 = vi V800 x 36 := vi_up e807 (Or.inr (by decide))
                have e843 : vi V822 x 36 = vi V813 x 36 := vi_up e821 (Or.inr (by decide))
                have e842 : vi V831 x 36 = vi V822 x 36 := vi_up e830 (Or.inr (by decide))
                refine GO.aload_n dX12_readsCondition_145 rfl rfl ?_
                refine GO.callV (ci := 11) (N := mX12_endsPiece) dX12_readsCondition_146 (RX12, TX12, 151) rfl gV_RX12_508 h_x (t_X12_endsPiece h_x (RJ.pop raw_lands.1 (by omega) (by omega) (sS833) (sQ834) (by omega) (by omega) (by omega)) (by omega) (NS.less raw_lands.2.1 (sQ834) (by omega)) (by omega)) rfl [] rfl rfl (Nat.le_of_ble_eq_true rfl) rfl (k_vs fun V848 h847 hF846 => ?_)
                refine GO.useWT (fun hW849 => ?_)
                have aq850 := hW849.aq h_x
                have raw_endsPiece := h847.2
                have e851 : vi V848 x 31 = vi V831 x 31 := vi_fr hF846 h_x h_x (by decide +kernel)
                refine GO.goto (tgt := 92) dX12_readsCondition_149 (by decide) ?_
                have q854 : -2147483648 ≤ vi V848 x 37 ∧ vi V848 x 37 ≤ 2147483647 := vi_ir
                have q855 : -2147483648 ≤ vi V848 x 36 ∧ vi V848 x 36 ≤ 2147483647 := vi_ir
                have e860 : vi V800 x 32 = vi W666 x 32 := vi_fr hF798 h_x h_x (by decide +kernel)
                have e859 : vi V813 x 32 = vi V800 x 32 := vi_up e807 (Or.inr (by decide))
                have e858 : vi V822 x 32 = vi V813 x 32 := vi_up e821 (Or.inr (by decide))
                have e857 : vi V831 x 32 = vi V822 x 32 := vi_up e830 (Or.inr (by decide))
                have e856 : vi V848 x 32 = vi V831 x 32 := vi_fr hF846 h_x h_x (by decide +kernel)
                exact ih667  V848 ⟨by omega, (by first | exact raw_endsPiece.1 | exact raw_readsCompared.1 (by omega)), (by first | exact NS.push0 hb.2 (by omega) (((rfl : wt V848 x = wt V848 x)).trans (raw_opens (by omega)).2) (by omega) (by omega) | exact NS.push0 (by assumption) (by omega) (((rfl : wt V848 x = wt V848 x)).trans (raw_opens (by omega)).2) (by omega) (by omega) | exact raw_endsPiece.2 | exact raw_readsCompared.2 (by omega)), trivial⟩ (by show ((vi V848 x 32 - vi V848 x 31)).toNat < ((vi W666 x 32 - vi W666 x 31)).toNat; omega)
              ·
                have e861 : vi V831 x 31 = (vi V822 x 31) + 1 := upd2_int e830 ⟨by omega, by omega⟩
                have e865 : vi V800 x 36 = vi W666 x 36 := vi_fr hF798 h_x h_x (by decide +kernel)
                have e864 : vi V813 x 36 = vi V800 x 36 := vi_up e807 (Or.inr (by decide))
                have e863 : vi V822 x 36 = vi V813 x 36 := vi_up e821 (Or.inr (by decide))
                have e862 : vi V831 x 36 = vi V822 x 36 := vi_up e830 (Or.inr (by decide))
                refine GO.iconst dX12_readsCondition_143 ?_
                exact GO.retz rfl rfl dX12_readsCondition_144 (Or.inr rfl) ⟨rfl, _, rfl, (ir_c rfl), ⟨Or.inr rfl, fun h => by omega, fun _ => trivial, (by first | exact fun h => absurd h (by decide) | exact fun _ => ⟨RJ.pop raw_lands.1 (by omega) (by omega) (sS833) (sQ834) (by omega) (by omega) (by omega), by omega⟩)⟩⟩
          ·
            refine GO.iconst dX12_readsCondition_90 ?_
            have q866 : -2147483648 ≤ vi V496 x 31 ∧ vi V496 x 31 ≤ 2147483647 := vi_ir
            exact GO.retz rfl rfl dX12_readsCondition_91 (Or.inl rfl) ⟨rfl, _, rfl, (ir_c rfl), ⟨Or.inl rfl, fun h => absurd rfl h, fun _ => trivial, (by first | exact fun h => absurd rfl h)⟩⟩
        ·
          refine GO.aload_n dX12_readsCondition_58 rfl rfl ?_
          refine GO.aload_n dX12_readsCondition_59 rfl rfl ?_
          refine GO.callV (ci := 11) (N := mX12_sign) dX12_readsCondition_60 (RX12, TX12, 151) rfl gV_RX12_449 h_x (t_X12_sign h_x) rfl [.ref x] rfl rfl (Nat.le_of_ble_eq_true rfl) rfl (k_ip fun X867 r868 h869 => ?_)
          refine GO.bipush dX12_readsCondition_63 rfl ?_
          refine GO.icmp_ne (tgt := 73) dX12_readsCondition_65 (by decide) r868 (ir_c rfl) (fun c870 => ?_) (fun h => by exfalso; omega)
          refine GO.bipush dX12_readsCondition_73 rfl ?_
          have q871 : -2147483648 ≤ vi W451 x 32 ∧ vi W451 x 32 ≤ 2147483647 := vi_ir
          have q872 : -2147483648 ≤ vi W451 x 31 ∧ vi W451 x 31 ≤ 2147483647 := vi_ir
          have q873 : -2147483648 ≤ vi W451 x 37 ∧ vi W451 x 37 ≤ 2147483647 := vi_ir
          have q874 : -2147483648 ≤ vi W451 x 36 ∧ vi W451 x 36 ≤ 2147483647 := vi_ir
          refine GO.callV (ci := 11) (N := mX12_opens) dX12_readsCondition_75 (RX12, TX12, 151) rfl gV_RX12_482 h_x (t_X12_opens h_x (ir_c rfl) (by omega) (by omega) (by omega) ⟨by omega, by omega⟩) rfl [] rfl rfl (Nat.le_of_ble_eq_true rfl) rfl (k_is fun X875 V879 r876 h877 hF878 => ?_)
          refine GO.useWT (fun hW880 => ?_)
          have aq881 := hW880.aq h_x
          have raw_opens := h877.2.2.2
          refine GO.if_ne (tgt := 40) dX12_readsCondition_78 (by decide) r876 (fun c884 => ?_) (fun c884 => ?_)
          ·
            have q885 := h877.2.1 (by omega)
            have q886 : -2147483648 ≤ vi V879 x 31 ∧ vi V879 x 31 ≤ 2147483647 := vi_ir
            have q887 : -2147483648 ≤ vi V879 x 37 ∧ vi V879 x 37 ≤ 2147483647 := vi_ir
            have e888 : vi V879 x 36 = vi W451 x 36 := vi_fr hF878 h_x h_x (by decide +kernel)
            have e889 : vi V879 x 32 = vi W451 x 32 := vi_fr hF878 h_x h_x (by decide +kernel)
            exact ih452  V879 ⟨by omega, (by first | exact RJ.pushO hb.1 (Or.inr (Or.inl rfl)) (fun _ => rfl) (((rfl : sd V879 x = sd V879 x)).trans (raw_opens (by omega)).1) (((rfl : wt V879 x = wt V879 x)).trans (raw_opens (by omega)).2) (by omega) (by omega) (by omega) | exact RJ.pushO (by assumption) (by omega) (fun _ => by omega) (((rfl : sd V879 x = sd V879 x)).trans (raw_opens (by omega)).1) (((rfl : wt V879 x = wt V879 x)).trans (raw_opens (by omega)).2) (by omega) (by omega) (by omega)), (by first | exact NS.push0 hb.2 (by omega) (((rfl : wt V879 x = wt V879 x)).trans (raw_opens (by omega)).2) (by omega) (by omega) | exact NS.push0 (by assumption) (by omega) (((rfl : wt V879 x = wt V879 x)).trans (raw_opens (by omega)).2) (by omega) (by omega)), trivial⟩ (by show ((vi V879 x 32 - vi V879 x 31)).toNat < ((vi W451 x 32 - vi W451 x 31)).toNat; omega)
          ·
            refine GO.iconst dX12_readsCondition_81 ?_
            have q890 : -2147483648 ≤ vi V879 x 31 ∧ vi V879 x 31 ≤ 2147483647 := vi_ir
            exact GO.retz rfl rfl dX12_readsCondition_82 (Or.inl rfl) ⟨rfl, _, rfl, (ir_c rfl), ⟨Or.inl rfl, fun h => absurd rfl h, fun _ => trivial, (by first | exact fun h => absurd rfl h)⟩⟩
    ·
      refine GO.iconst dX12_readsCondition_38 ?_
      have q891 : -2147483648 ≤ vi V31 x 31 ∧ vi V31 x 31 ≤ 2147483647 := vi_ir
      exact GO.retz rfl rfl dX12_readsCondition_39 (Or.inl rfl) ⟨rfl, _, rfl, (ir_c rfl), ⟨Or.inl rfl, fun h => absurd rfl h, fun _ => trivial, (by first | exact fun h => absurd rfl h)⟩⟩
  ·
    refine GO.aload_n dX12_readsCondition_19 rfl rfl ?_
    refine GO.iconst dX12_readsCondition_20 ?_
    refine GO.aload_n dX12_readsCondition_21 rfl rfl ?_
    refine GO.getI h_x fl_RX12_443 rfl rfl dX12_readsCondition_22 (fun l892 u893 => ?_)
    refine GO.callV (ci := 11) (N := mX12_wrong) dX12_readsCondition_25 (RX12, TX12, 151) rfl gV_RX12_456 h_x (t_X12_wrong h_x (ir_c rfl) vi_ir) rfl [] rfl rfl (Nat.le_of_ble_eq_true rfl) rfl (k_is fun X894 V898 r895 h896 hF897 => ?_)
    have k899 := st_fr hF897 k10.1 h_x (by decide +kernel) (by decide +kernel) (by decide +kernel) (by decide +kernel)
    have sS900 : sd V898 x = sd V x := k899.2.1.trans sS11
    have sQ901 : wt V898 x = wt V x := k899.2.2.trans sQ12
    have e902 : vi V898 x 31 = vi V9 x 31 := vi_fr hF897 h_x h_x (by decide +kernel)
    have q903 : -2147483648 ≤ vi V x 31 ∧ vi V x 31 ≤ 2147483647 := vi_ir
    have q904 : -2147483648 ≤ vi V x 36 ∧ vi V x 36 ≤ 2147483647 := vi_ir
    exact GO.retz rfl rfl dX12_readsCondition_28 (by omega) ⟨rfl, _, rfl, r895, ⟨by omega, fun h => by omega, fun _ => trivial, (by first | exact fun h => absurd h (by omega))⟩⟩

set_option maxHeartbeats 1000000 in
theorem t_X12_isAsking {K : Kmap} {V : Vmap} {p0 : Int} (r_p0 : ir p0) : MC mX12_isAsking K V [ti p0] (IP K V (fun X => (X = 0 ∨ X = 1) ∧ (X ≠ 0 → p0 ≥ 99) ∧ (X = 0 → True) ∧ (X ≠ 0 ↔ ASK p0))) := by
  refine MC.start 0 (by decide +kernel) rfl rfl rfl (ls0 := [some (ti p0)]) rfl ?_
  refine GO.iload_n dX12_isAsking_0 rfl rfl ?_
  refine GO.bipush dX12_isAsking_1 rfl ?_
  refine GO.icmp_eq (tgt := 30) dX12_isAsking_3 (by decide) r_p0 (ir_c rfl) (fun c1 => ?_) (fun c1 => ?_)
  ·
    refine GO.iconst dX12_isAsking_30 ?_
    refine GO.goto (tgt := 35) dX12_isAsking_31 (by decide) ?_
    exact GO.retz rfl rfl dX12_isAsking_35 (Or.inr rfl) ⟨rfl, rfl, _, rfl, (ir_c rfl), ⟨Or.inr rfl, fun h => by omega, fun _ => trivial, by unfold ASK; omega⟩⟩
  ·
    refine GO.iload_n dX12_isAsking_6 rfl rfl ?_
    refine GO.bipush dX12_isAsking_7 rfl ?_
    refine GO.icmp_eq (tgt := 30) dX12_isAsking_9 (by decide) r_p0 (ir_c rfl) (fun c2 => ?_) (fun c2 => ?_)
    ·
      refine GO.iconst dX12_isAsking_30 ?_
      refine GO.goto (tgt := 35) dX12_isAsking_31 (by decide) ?_
      exact GO.retz rfl rfl dX12_isAsking_35 (Or.inr rfl) ⟨rfl, rfl, _, rfl, (ir_c rfl), ⟨Or.inr rfl, fun h => by omega, fun _ => trivial, by unfold ASK; omega⟩⟩
    ·
      refine GO.iload_n dX12_isAsking_12 rfl rfl ?_
      refine GO.bipush dX12_isAsking_13 rfl ?_
      refine GO.icmp_eq (tgt := 30) dX12_isAsking_15 (by decide) r_p0 (ir_c rfl) (fun c3 => ?_) (fun c3 => ?_)
      ·
        refine GO.iconst dX12_isAsking_30 ?_
        refine GO.goto (tgt := 35) dX12_isAsking_31 (by decide) ?_
        exact GO.retz rfl rfl dX12_isAsking_35 (Or.inr rfl) ⟨rfl, rfl, _, rfl, (ir_c rfl), ⟨Or.inr rfl, fun h => by omega, fun _ => trivial, by unfold ASK; omega⟩⟩
      ·
        refine GO.iload_n dX12_isAsking_18 rfl rfl ?_
        refine GO.bipush dX12_isAsking_19 rfl ?_
        refine GO.icmp_eq (tgt := 30) dX12_isAsking_21 (by decide) r_p0 (ir_c rfl) (fun c4 => ?_) (fun c4 => ?_)
        ·
          refine GO.iconst dX12_isAsking_30 ?_
          refine GO.goto (tgt := 35) dX12_isAsking_31 (by decide) ?_
          exact GO.retz rfl rfl dX12_isAsking_35 (Or.inr rfl) ⟨rfl, rfl, _, rfl, (ir_c rfl), ⟨Or.inr rfl, fun h => by omega, fun _ => trivial, by unfold ASK; omega⟩⟩
        ·
          refine GO.iload_n dX12_isAsking_24 rfl rfl ?_
          refine GO.bipush dX12_isAsking_25 rfl ?_
          refine GO.icmp_ne (tgt := 34) dX12_isAsking_27 (by decide) r_p0 (ir_c rfl) (fun c5 => ?_) (fun c5 => ?_)
          ·
            refine GO.iconst dX12_isAsking_34 ?_
            exact GO.retz rfl rfl dX12_isAsking_35 (Or.inl rfl) ⟨rfl, rfl, _, rfl, (ir_c rfl), ⟨Or.inl rfl, fun h => absurd rfl h, fun _ => trivial, by unfold ASK; omega⟩⟩
          ·
            refine GO.iconst dX12_isAsking_30 ?_
            refine GO.goto (tgt := 35) dX12_isAsking_31 (by decide) ?_
            exact GO.retz rfl rfl dX12_isAsking_35 (Or.inr rfl) ⟨rfl, rfl, _, rfl, (ir_c rfl), ⟨Or.inr rfl, fun h => by omega, fun _ => trivial, by unfold ASK; omega⟩⟩

set_option maxHeartbeats 1000000 in
theorem t_X12_isLetter {K : Kmap} {V : Vmap} {p0 : Int} (r_p0 : ir p0) : MC mX12_isLetter K V [ti p0] (IP K V (fun X => (X = 0 ∨ X = 1) ∧ (X ≠ 0 → p0 ≥ 97) ∧ (X = 0 → True))) := by
  refine MC.start 0 (by decide +kernel) rfl rfl rfl (ls0 := [some (ti p0)]) rfl ?_
  refine GO.iload_n dX12_isLetter_0 rfl rfl ?_
  refine GO.callS (N := mX12_isAsking) dX12_isLetter_1 gS_RX12_520 (t_X12_isAsking r_p0) rfl [] rfl rfl (Nat.le_of_ble_eq_true rfl) rfl (k_ip fun X1 r2 h3 => ?_)
  have raw_isAsking := h3.2.2.2
  refine GO.if_ne (tgt := 43) dX12_isLetter_4 (by decide) r2 (fun c4 => ?_) (fun c4 => ?_)
  ·
    have q5 := h3.2.1 (by omega)
    refine GO.iconst dX12_isLetter_43 ?_
    refine GO.goto (tgt := 48) dX12_isLetter_44 (by decide) ?_
    exact GO.retz rfl rfl dX12_isLetter_48 (Or.inr rfl) ⟨rfl, rfl, _, rfl, (ir_c rfl), ⟨Or.inr rfl, fun h => by omega, fun _ => trivial⟩⟩
  ·
    refine GO.iload_n dX12_isLetter_7 rfl rfl ?_
    refine GO.bipush dX12_isLetter_8 rfl ?_
    refine GO.icmp_eq (tgt := 43) dX12_isLetter_10 (by decide) r_p0 (ir_c rfl) (fun c6 => ?_) (fun c6 => ?_)
    ·
      refine GO.iconst dX12_isLetter_43 ?_
      refine GO.goto (tgt := 48) dX12_isLetter_44 (by decide) ?_
      exact GO.retz rfl rfl dX12_isLetter_48 (Or.inr rfl) ⟨rfl, rfl, _, rfl, (ir_c rfl), ⟨Or.inr rfl, fun h => by omega, fun _ => trivial⟩⟩
    ·
      refine GO.iload_n dX12_isLetter_13 rfl rfl ?_
      refine GO.bipush dX12_isLetter_14 rfl ?_
      refine GO.icmp_eq (tgt := 43) dX12_isLetter_16 (by decide) r_p0 (ir_c rfl) (fun c7 => ?_) (fun c7 => ?_)
      ·
        refine GO.iconst dX12_isLetter_43 ?_
        refine GO.goto (tgt := 48) dX12_isLetter_44 (by decide) ?_
        exact GO.retz rfl rfl dX12_isLetter_48 (Or.inr rfl) ⟨rfl, rfl, _, rfl, (ir_c rfl), ⟨Or.inr rfl, fun h => by omega, fun _ => trivial⟩⟩
      ·
        refine GO.iload_n dX12_isLetter_19 rfl rfl ?_
        refine GO.bipush dX12_isLetter_20 rfl ?_
        refine GO.icmp_eq (tgt := 43) dX12_isLetter_22 (by decide) r_p0 (ir_c rfl) (fun c8 => ?_) (fun c8 => ?_)
        ·
          refine GO.iconst dX12_isLetter_43 ?_
          refine GO.goto (tgt := 48) dX12_isLetter_44 (by decide) ?_
          exact GO.retz rfl rfl dX12_isLetter_48 (Or.inr rfl) ⟨rfl, rfl, _, rfl, (ir_c rfl), ⟨Or.inr rfl, fun h => by omega, fun _ => trivial⟩⟩
        ·
          refine GO.iload_n dX12_isLetter_25 rfl rfl ?_
          refine GO.bipush dX12_isLetter_26 rfl ?_
          refine GO.icmp_eq (tgt := 43) dX12_isLetter_28 (by decide) r_p0 (ir_c rfl) (fun c9 => ?_) (fun c9 => ?_)
          ·
            refine GO.iconst dX12_isLetter_43 ?_
            refine GO.goto (tgt := 48) dX12_isLetter_44 (by decide) ?_
            exact GO.retz rfl rfl dX12_isLetter_48 (Or.inr rfl) ⟨rfl, rfl, _, rfl, (ir_c rfl), ⟨Or.inr rfl, fun h => by omega, fun _ => trivial⟩⟩
          ·
            refine GO.iload_n dX12_isLetter_31 rfl rfl ?_
            refine GO.bipush dX12_isLetter_32 rfl ?_
            refine GO.icmp_eq (tgt := 43) dX12_isLetter_34 (by decide) r_p0 (ir_c rfl) (fun c10 => ?_) (fun c10 => ?_)
            ·
              refine GO.iconst dX12_isLetter_43 ?_
              refine GO.goto (tgt := 48) dX12_isLetter_44 (by decide) ?_
              exact GO.retz rfl rfl dX12_isLetter_48 (Or.inr rfl) ⟨rfl, rfl, _, rfl, (ir_c rfl), ⟨Or.inr rfl, fun h => by omega, fun _ => trivial⟩⟩
            ·
              refine GO.iload_n dX12_isLetter_37 rfl rfl ?_
              refine GO.bipush dX12_isLetter_38 rfl ?_
              refine GO.icmp_ne (tgt := 47) dX12_isLetter_40 (by decide) r_p0 (ir_c rfl) (fun c11 => ?_) (fun c11 => ?_)
              ·
                refine GO.iconst dX12_isLetter_47 ?_
                exact GO.retz rfl rfl dX12_isLetter_48 (Or.inl rfl) ⟨rfl, rfl, _, rfl, (ir_c rfl), ⟨Or.inl rfl, fun h => absurd rfl h, fun _ => trivial⟩⟩
              ·
                refine GO.iconst dX12_isLetter_43 ?_
                refine GO.goto (tgt := 48) dX12_isLetter_44 (by decide) ?_
                exact GO.retz rfl rfl dX12_isLetter_48 (Or.inr rfl) ⟨rfl, rfl, _, rfl, (ir_c rfl), ⟨Or.inr rfl, fun h => by omega, fun _ => trivial⟩⟩
