def mX12_endsPiece : MRec := (RX12, cX12_endsPiece, 1, (none : Option Jvm.ClassFile.FieldType), yX12_endsPiece, 1, 22, 0, 0, 16296287810675888690147565507275025288411747309179231588156630273363078976450148924334800896)
def mX12_lands : MRec := (RX12, cX12_lands, 3, (none : Option Jvm.ClassFile.FieldType), yX12_lands, 1, 20, 0, 0, 16296287810675888690147565507275025288411747240671342338270555982565352442874382377962962944)
def mX12_jumps : MRec := (RX12, cX12_jumps, 2, (none : Option Jvm.ClassFile.FieldType), yX12_jumps, 1, 22, 0, 0, 48888863432027666070442696521825075865235241586425496207745479247158890230921109177527959552)
def mX12_readsCompared : MRec := (RX12, cX12_readsCompared, 2, (some .boolean), yX12_readsCompared, 5, 105, 0, 0, 48888863432027666070442696521825075865235241626388431603512355916790897375506972996244865024)
def mX12_readsCondition : MRec := (RX12, cX12_readsCondition, 1, (some .boolean), yX12_readsCondition, 6, 126, 0, 0, 48888863432027666070442696521825075865235241626388431603512355916790897375506972996244865024)
set_option maxHeartbeats 1000000 in
theorem t_X12_endsPiece {K : Kmap} {V : Vmap} {x : Nat} {fr : Nat} {S0 : Nat → Int} {s z : Int} (h_x : K x = some (0, 11)) (w_0 : RJ V x fr S0 s z) (w_1 : 1 ≤ z) (w_2 : NS V x) (w_3 : 1 ≤ vi V x 37) : MC mX12_endsPiece K V [.ref x] (VS K (fun V1 => (vi V1 x 31 = vi V x 31 ∧ vi V1 x 36 ≥ 0 ∧ vi V1 x 37 ≤ vi V x 37 ∧ vi V1 x 37 ≥ 1) ∧ ((RJ V1 x fr S0 s z) ∧ (NS V1 x)) ∧ (EPi V V1 x) ∧ (topf V1 x ≠ 10))) := by
  refine MC.start 0 (by decide +kernel) rfl rfl rfl (ls0 := [some (.ref x)]) rfl ?_
  refine GO.useWT (fun hW1 => ?_)
  have aq2 := hW1.aq h_x
  have hrd := (hW1).rd h_x
  have hle := RJ.le (V := V) (x := x) (fr := fr) (S0 := S0) (s := s) (z := z) (by assumption)
  have q3 : -2147483648 ≤ vi V x 31 ∧ vi V x 31 ≤ 2147483647 := vi_ir
  have q4 : -2147483648 ≤ vi V x 37 ∧ vi V x 37 ≤ 2147483647 := vi_ir
  have q5 : -2147483648 ≤ vi V x 36 ∧ vi V x 36 ≤ 2147483647 := vi_ir
  have q6 : -2147483648 ≤ vi V x 35 ∧ vi V x 35 ≤ 2147483647 := vi_ir
  refine GO.loop0 (fun  W => (vi W x 31 = vi V x 31 ∧ vi W x 36 ≥ vi V x 36 ∧ vi W x 37 ≤ vi V x 37 ∧ vi W x 37 ≥ 1 ∧ vi W x 35 ≥ (-2147483648)) ∧ (RJ W x fr S0 s z) ∧ (NS W x) ∧ (EPi V W x) ∧ True) (fun  W => (vi W x 37).toNat)  ⟨by omega, (by first | assumption), (by first | assumption), (by first | exact EPi.rf), trivial⟩ (fun W44 hp46 ih45 => ?_)
  obtain ⟨n_W44, w0_W44, w1_W44, hep, -⟩ := hp46
  show GO mX12_endsPiece K V (VS K (fun V1 => (vi V1 x 31 = vi V x 31 ∧ vi V1 x 36 ≥ 0 ∧ vi V1 x 37 ≤ vi V x 37 ∧ vi V1 x 37 ≥ 1) ∧ ((RJ V1 x fr S0 s z) ∧ (NS V1 x)) ∧ (EPi V V1 x) ∧ (topf V1 x ≠ 10))) K W44 0 0 0 [some (.ref x)] []
  refine GO.useWT (fun hW47 => ?_)
  have aq48 := hW47.aq h_x
  have hrd := (hW47).rd h_x
  have hle := RJ.le (V := W44) (x := x) (fr := fr) (S0 := S0) (s := s) (z := z) (by assumption)
  refine GO.aload_n dX12_endsPiece_0 rfl rfl ?_
  refine GO.callV (ci := 11) (N := mX12_top) dX12_endsPiece_1 (RX12, TX12, 151) rfl gV_RX12_476 h_x (t_X12_top h_x) rfl [] rfl rfl (Nat.le_of_ble_eq_true rfl) rfl (k_ip fun X49 r50 h51 => ?_)
  refine GO.bipush dX12_endsPiece_4 rfl ?_
  refine GO.icmp_ne (tgt := 39) dX12_endsPiece_6 (by decide) r50 (ir_c rfl) (fun c52 => ?_) (fun c52 => ?_)
  ·
    have q53 : -2147483648 ≤ vi W44 x 31 ∧ vi W44 x 31 ≤ 2147483647 := vi_ir
    have q54 : -2147483648 ≤ vi W44 x 37 ∧ vi W44 x 37 ≤ 2147483647 := vi_ir
    have q55 : -2147483648 ≤ vi W44 x 36 ∧ vi W44 x 36 ≤ 2147483647 := vi_ir
    exact GO.retv rfl rfl dX12_endsPiece_39 ⟨rfl, rfl, ⟨by omega, ⟨(by first | assumption), (by first | assumption)⟩, (by first | exact EPi.rf | exact hep), by omega⟩⟩
  ·
    have htw := RJ.two (V := W44) (by assumption) (by omega)
    refine GO.aload_n dX12_endsPiece_9 rfl rfl ?_
    refine GO.bipush dX12_endsPiece_10 rfl ?_
    refine GO.iconst dX12_endsPiece_12 ?_
    refine GO.callV (ci := 11) (N := mX12_says) dX12_endsPiece_13 (RX12, TX12, 151) rfl gV_RX12_479 h_x (t_X12_says h_x (ir_c rfl) (ir_c rfl) (by omega) (by omega) (by omega) (by omega) ⟨by omega, by omega⟩) rfl [] rfl rfl (Nat.le_of_ble_eq_true rfl) rfl (k_vs fun V58 h57 hF56 => ?_)
    refine GO.useWT (fun hW59 => ?_)
    have aq60 := hW59.aq h_x
    have raw_says := h57.2
    have rw13 := h57.2
    refine GO.aload_n dX12_endsPiece_16 rfl rfl ?_
    refine GO.aload_n dX12_endsPiece_17 rfl rfl ?_
    refine GO.getI h_x fl_RX12_473 rfl rfl dX12_endsPiece_18 (fun l62 u63 => ?_)
    have e64 : vi V58 x 37 = vi W44 x 37 := vi_fr hF56 h_x h_x (by decide +kernel)
    refine GO.iconst dX12_endsPiece_21 ?_
    refine GO.isub dX12_endsPiece_22 ?_
    have q66 : -2147483648 ≤ vi W44 x 37 ∧ vi W44 x 37 ≤ 2147483647 := vi_ir
    have q67 : -2147483648 ≤ vi W44 x 31 ∧ vi W44 x 31 ≤ 2147483647 := vi_ir
    have q68 : -2147483648 ≤ vi W44 x 36 ∧ vi W44 x 36 ≤ 2147483647 := vi_ir
    have q69 : -2147483648 ≤ vi V58 x 36 ∧ vi V58 x 36 ≤ 2147483647 := vi_ir
    refine GO.putI h_x fp_RX12_473 rfl (by decide +kernel) ⟨by omega, by omega⟩ (by omega) (by omega) dX12_endsPiece_23 (fun V70 e65 => ?_)
    have k71 := st_fld e65 aq60 h_x (by decide) (by decide)
    have sS72 : sd V70 x = sd V58 x := k71.2.1.trans (rfl : sd V58 x = sd V58 x)
    have sQ73 : wt V70 x = wt V58 x := k71.2.2.trans (rfl : wt V58 x = wt V58 x)
    refine GO.aload_n dX12_endsPiece_26 rfl rfl ?_
    refine GO.aload_n dX12_endsPiece_27 rfl rfl ?_
    refine GO.getI h_x fl_RX12_470 rfl rfl dX12_endsPiece_28 (fun _ _ => ?_)
    have e75 : vi V58 x 35 = vi W44 x 35 := vi_fr hF56 h_x h_x (by decide +kernel)
    have e74 : vi V70 x 35 = vi V58 x 35 := vi_up e65 (Or.inr (by decide))
    refine GO.iconst dX12_endsPiece_31 ?_
    refine GO.isub dX12_endsPiece_32 ?_
    refine GO.norm (fun z76 r77 hn78 => ?_)
    refine GO.putI h_x fp_RX12_470 rfl (by decide +kernel) r77 (r77).1 (r77).2 dX12_endsPiece_33 (fun V80 e79 => ?_)
    have k81 := st_fld e79 k71.1 h_x (by decide) (by decide)
    have sS82 : sd V80 x = sd V58 x := k81.2.1.trans sS72
    have sQ83 : wt V80 x = wt V58 x := k81.2.2.trans sQ73
    have e84 : vi V80 x 35 = z76 := upd2_int e79 r77
    have hod := dec_at (V1 := V80) (x := x) (k := 35) (by assumption) (by assumption) (by assumption)
    refine GO.goto (tgt := 0) dX12_endsPiece_36 (by decide) ?_
    have e87 : vi V58 x 31 = vi W44 x 31 := vi_fr hF56 h_x h_x (by decide +kernel)
    have e86 : vi V70 x 31 = vi V58 x 31 := vi_up e65 (Or.inr (by decide))
    have e85 : vi V80 x 31 = vi V70 x 31 := vi_up e79 (Or.inr (by decide))
    have e89 : vi V70 x 36 = vi V58 x 36 := vi_up e65 (Or.inr (by decide))
    have e88 : vi V80 x 36 = vi V70 x 36 := vi_up e79 (Or.inr (by decide))
    have e91 : vi V70 x 37 = (vi V58 x 37) - 1 := upd2_int e65 ⟨by omega, by omega⟩
    have e90 : vi V80 x 37 = vi V70 x 37 := vi_up e79 (Or.inr (by decide))
    have q92 : -2147483648 ≤ z76 ∧ z76 ≤ 2147483647 := r77
    exact ih45  V80 ⟨by omega, (by first | assumption | exact RJ.clo (by assumption) (by omega) (by omega) (by omega) ((sS82).trans raw_says.1) ((sQ83).trans raw_says.2) (by omega) (by omega) (by omega) (by omega)), (by first | assumption | exact NS.less (by assumption) ((sQ83).trans raw_says.2) (by omega)), (by first | exact EPi.rf | exact hep | exact EPi.step hep (by omega) (by omega) ((sS82).trans raw_says.1) ((sQ83).trans raw_says.2) (by omega) (by omega) (by omega) (fun ga => by have h9 := hod (by omega); omega) (by omega) (by omega)), trivial⟩ (by show (vi V80 x 37).toNat < (vi W44 x 37).toNat; omega)

set_option maxHeartbeats 1000000 in
theorem t_X12_lands {K : Kmap} {V : Vmap} {x : Nat} {p0 : Int} {fr : Nat} {S0 : Nat → Int} {s z : Int} (h_x : K x = some (0, 11)) (r_p0 : ir p0) (z_p0 : p0 = 0 ∨ p0 = 1) (w_0 : RJ V x fr S0 s z) (w_1 : z = 1) (w_2 : NS V x) (w_3 : 1 ≤ vi V x 37) : MC mX12_lands K V [.ref x, ti p0] (VS K (fun V1 => (vi V1 x 31 = vi V x 31 ∧ vi V1 x 37 ≤ vi V x 37 ∧ vi V1 x 37 ≥ 1) ∧ ((RJ V1 x fr S0 s z) ∧ (NS V1 x) ∧ (p0 ≠ 0 → ¬ (11 ≤ topf V1 x ∧ topf V1 x ≤ 12))) ∧ (LDi V V1 x p0) ∧ (topf V1 x ≠ 11))) := by
  refine MC.start 1 (by decide +kernel) rfl rfl rfl (ls0 := [some (.ref x), some (ti p0), none]) rfl ?_
  refine GO.useWT (fun hW1 => ?_)
  have aq2 := hW1.aq h_x
  have hrd := (hW1).rd h_x
  have hle := RJ.le (V := V) (x := x) (fr := fr) (S0 := S0) (s := s) (z := z) (by assumption)
  have q3 : -2147483648 ≤ vi V x 31 ∧ vi V x 31 ≤ 2147483647 := vi_ir
  have q4 : -2147483648 ≤ vi V x 37 ∧ vi V x 37 ≤ 2147483647 := vi_ir
  have q5 : -2147483648 ≤ vi V x 36 ∧ vi V x 36 ≤ 2147483647 := vi_ir
  refine GO.loop0 (fun  W => (vi W x 31 = vi V x 31 ∧ vi W x 36 = vi V x 36 ∧ vi W x 37 ≤ vi V x 37 ∧ vi W x 37 ≥ 1) ∧ (RJ W x fr S0 s z) ∧ (NS W x) ∧ (LDi V W x p0) ∧ True) (fun  W => (vi W x 37).toNat)  ⟨by omega, (by first | assumption), (by first | assumption | exact NS.less (by assumption) ((rfl : wt V x = wt V x)) (by omega)), (by first | exact LDi.rf), trivial⟩ (fun W86 hp88 ih87 => ?_)
  obtain ⟨n_W86, w0_W86, w1_W86, hld, -⟩ := hp88
  show GO mX12_lands K V (VS K (fun V1 => (vi V1 x 31 = vi V x 31 ∧ vi V1 x 37 ≤ vi V x 37 ∧ vi V1 x 37 ≥ 1) ∧ ((RJ V1 x fr S0 s z) ∧ (NS V1 x) ∧ (p0 ≠ 0 → ¬ (11 ≤ topf V1 x ∧ topf V1 x ≤ 12))) ∧ (LDi V V1 x p0) ∧ (topf V1 x ≠ 11))) K W86 0 0 0 [some (.ref x), some (ti p0), none] []
  refine GO.useWT (fun hW89 => ?_)
  have aq90 := hW89.aq h_x
  have hrd := (hW89).rd h_x
  have hle := RJ.le (V := W86) (x := x) (fr := fr) (S0 := S0) (s := s) (z := z) (by assumption)
  refine GO.aload_n dX12_lands_0 rfl rfl ?_
  refine GO.callV (ci := 11) (N := mX12_top) dX12_lands_1 (RX12, TX12, 151) rfl gV_RX12_476 h_x (t_X12_top h_x) rfl [] rfl rfl (Nat.le_of_ble_eq_true rfl) rfl (k_ip fun X91 r92 h93 => ?_)
  refine GO.bipush dX12_lands_4 rfl ?_
  refine GO.icmp_eq (tgt := 22) dX12_lands_6 (by decide) r92 (ir_c rfl) (fun c94 => ?_) (fun c94 => ?_)
  ·
    have htw := RJ.two (V := W86) (by assumption) (by omega)
    refine GO.aload_n dX12_lands_22 rfl rfl ?_
    refine GO.getA (n := 220) h_x fl_RX12_91 rfl rfl rfl rfl dX12_lands_23 (fun hv96 h95 => ?_)
    refine GO.aload_n dX12_lands_26 rfl rfl ?_
    refine GO.getI h_x fl_RX12_473 rfl rfl dX12_lands_27 (fun l97 u98 => ?_)
    refine GO.iconst dX12_lands_30 ?_
    refine GO.isub dX12_lands_31 ?_
    have q99 : -2147483648 ≤ vi W86 x 37 ∧ vi W86 x 37 ≤ 2147483647 := vi_ir
    have q100 : -2147483648 ≤ vi W86 x 31 ∧ vi W86 x 31 ≤ 2147483647 := vi_ir
    have q101 : -2147483648 ≤ vi W86 x 36 ∧ vi W86 x 36 ≤ 2147483647 := vi_ir
    refine GO.iald (t := 33) rfl rfl h95 ⟨by omega, by omega⟩ (by omega) (by omega) dX12_lands_32 (fun l102 u103 => ?_)
    refine GO.ldcw (X := 1048576) dX12_lands_33 gw_2078 rfl ?_
    refine GO.iremP dX12_lands_36 vi_ir (ir_c rfl) (by omega) (by omega) ?_
    refine GO.name (fun z104 hz105 => ?_)
    refine GO.istore_n (ls1 := [some (.ref x), some (ti p0), some (ti z104)]) dX12_lands_37 rfl rfl rfl ?_
    have hfr := RJ.frm (V := W86) (by assumption) (by omega) rfl (by assumption)
    have hfr1 := hfr.1
    have hfr2 := hfr.2.1
    refine GO.aload_n dX12_lands_38 rfl rfl ?_
    refine GO.getA (n := 220) h_x fl_RX12_88 rfl rfl rfl rfl dX12_lands_39 (fun hv107 h106 => ?_)
    refine GO.iload_n dX12_lands_42 rfl rfl ?_
    refine GO.ldcw (X := 1048576) dX12_lands_43 gw_2078 rfl ?_
    refine GO.aload_n dX12_lands_46 rfl rfl ?_
    refine GO.getRaw h_x fl_RX12_88 hv107 dX12_lands_47 ?_
    refine GO.iload_n dX12_lands_50 rfl rfl ?_
    refine GO.iald (t := 32) rfl rfl h106 ⟨by omega, by omega⟩ (by omega) (by omega) dX12_lands_51 (fun l110 u111 => ?_)
    refine GO.ldcw (X := 1048576) dX12_lands_52 gw_2078 rfl ?_
    refine GO.idivP dX12_lands_55 vi_ir (ir_c rfl) (by omega) (by omega) ?_
    refine GO.imul dX12_lands_56 ?_
    refine GO.aload_n dX12_lands_57 rfl rfl ?_
    refine GO.getI h_x fl_RX12_466 rfl rfl dX12_lands_58 (fun l112 u113 => ?_)
    refine GO.iadd dX12_lands_61 ?_
    refine GO.iast (t := 32) rfl rfl (by decide +kernel) h106 ⟨by omega, by omega⟩ (by omega) (by omega) ⟨by omega, by omega⟩ (by omega) (by omega) dX12_lands_62 (fun V115 e114 => ?_)
    have k116 := st_sd e114 aq90 h_x (vq_of hv107) ⟨by omega, by omega⟩
    have sS117 : sd V115 x = updf (sd W86 x) (z104).toNat ((1048576 * ((vi W86 (vq W86 x 39) (z104).toNat) / 1048576)) + (vi W86 x 36)) := k116.2.1.trans (congrArg (fun f => updf f (z104).toNat ((1048576 * ((vi W86 (vq W86 x 39) (z104).toNat) / 1048576)) + (vi W86 x 36))) (rfl : sd W86 x = sd W86 x))
    have sQ118 : wt V115 x = wt W86 x := k116.2.2.trans (rfl : wt W86 x = wt W86 x)
    refine GO.aload_n dX12_lands_63 rfl rfl ?_
    refine GO.aload_n dX12_lands_64 rfl rfl ?_
    refine GO.getI h_x fl_RX12_473 rfl rfl dX12_lands_65 (fun l119 u120 => ?_)
    have e121 : vi V115 x 37 = vi W86 x 37 := vi_up e114 (Or.inl (K_ne h_x h106 (by decide)))
    refine GO.iconst dX12_lands_68 ?_
    refine GO.isub dX12_lands_69 ?_
    refine GO.putI h_x fp_RX12_473 rfl (by decide +kernel) ⟨by omega, by omega⟩ (by omega) (by omega) dX12_lands_70 (fun V123 e122 => ?_)
    have k124 := st_fld e122 k116.1 h_x (by decide) (by decide)
    have sS125 : sd V123 x = updf (sd W86 x) (z104).toNat ((1048576 * ((vi W86 (vq W86 x 39) (z104).toNat) / 1048576)) + (vi W86 x 36)) := k124.2.1.trans sS117
    have sQ126 : wt V123 x = wt W86 x := k124.2.2.trans sQ118
    refine GO.goto (tgt := 0) dX12_lands_73 (by decide) ?_
    refine GO.drop [true, true, false] rfl ?_
    have e128 : vi V115 x 31 = vi W86 x 31 := vi_up e114 (Or.inl (K_ne h_x h106 (by decide)))
    have e127 : vi V123 x 31 = vi V115 x 31 := vi_up e122 (Or.inr (by decide))
    have e130 : vi V115 x 36 = vi W86 x 36 := vi_up e114 (Or.inl (K_ne h_x h106 (by decide)))
    have e129 : vi V123 x 36 = vi V115 x 36 := vi_up e122 (Or.inr (by decide))
    have e131 : vi V123 x 37 = (vi V115 x 37) - 1 := upd2_int e122 ⟨by omega, by omega⟩
    exact ih87  V123 ⟨by omega, (by first | assumption | exact RJ.land (by assumption) (by assumption) (by omega) (by omega) (by omega) hfr.2.2 (sS125) (sQ126) (by omega) (by omega) (by omega)), (by first | assumption | exact NS.less (by assumption) (sQ126) (by omega)), (by first | exact LDi.rf | exact hld | exact LDi.step hld (by omega) rfl (by omega) (by omega) hfr.2.2 (sS125) (sQ126) (by omega) (by omega) (by omega) (by omega) (by omega)), trivial⟩ (by show (vi V123 x 37).toNat < (vi W86 x 37).toNat; omega)
  ·
    refine GO.iload_n dX12_lands_9 rfl rfl ?_
    refine GO.if_eq (tgt := 76) dX12_lands_10 (by decide) r_p0 (fun c132 => ?_) (fun c132 => ?_)
    ·
      have q133 : -2147483648 ≤ vi W86 x 31 ∧ vi W86 x 31 ≤ 2147483647 := vi_ir
      have q134 : -2147483648 ≤ vi W86 x 37 ∧ vi W86 x 37 ≤ 2147483647 := vi_ir
      have q135 : -2147483648 ≤ vi W86 x 36 ∧ vi W86 x 36 ≤ 2147483647 := vi_ir
      exact GO.retv rfl rfl dX12_lands_76 ⟨rfl, rfl, ⟨by omega, ⟨(by first | assumption), (by first | assumption | exact NS.less (by assumption) ((rfl : wt W86 x = wt W86 x)) (by omega)), by omega⟩, (by first | exact LDi.rf | exact hld), by omega⟩⟩
    ·
      refine GO.aload_n dX12_lands_13 rfl rfl ?_
      refine GO.callV (ci := 11) (N := mX12_top) dX12_lands_14 (RX12, TX12, 151) rfl gV_RX12_476 h_x (t_X12_top h_x) rfl [] rfl rfl (Nat.le_of_ble_eq_true rfl) rfl (k_ip fun X136 r137 h138 => ?_)
      refine GO.bipush dX12_lands_17 rfl ?_
      refine GO.icmp_ne (tgt := 76) dX12_lands_19 (by decide) r137 (ir_c rfl) (fun c139 => ?_) (fun c139 => ?_)
      ·
        have q140 : -2147483648 ≤ vi W86 x 31 ∧ vi W86 x 31 ≤ 2147483647 := vi_ir
        have q141 : -2147483648 ≤ vi W86 x 37 ∧ vi W86 x 37 ≤ 2147483647 := vi_ir
        have q142 : -2147483648 ≤ vi W86 x 36 ∧ vi W86 x 36 ≤ 2147483647 := vi_ir
        exact GO.retv rfl rfl dX12_lands_76 ⟨rfl, rfl, ⟨by omega, ⟨(by first | assumption), (by first | assumption | exact NS.less (by assumption) ((rfl : wt W86 x = wt W86 x)) (by omega)), by omega⟩, (by first | exact LDi.rf | exact hld), by omega⟩⟩
      ·
        have htw := RJ.two (V := W86) (by assumption) (by omega)
        refine GO.aload_n dX12_lands_22 rfl rfl ?_
        refine GO.getA (n := 220) h_x fl_RX12_91 rfl rfl rfl rfl dX12_lands_23 (fun hv144 h143 => ?_)
        refine GO.aload_n dX12_lands_26 rfl rfl ?_
        refine GO.getI h_x fl_RX12_473 rfl rfl dX12_lands_27 (fun l145 u146 => ?_)
        refine GO.iconst dX12_lands_30 ?_
        refine GO.isub dX12_lands_31 ?_
        have q147 : -2147483648 ≤ vi W86 x 37 ∧ vi W86 x 37 ≤ 2147483647 := vi_ir
        have q148 : -2147483648 ≤ vi W86 x 31 ∧ vi W86 x 31 ≤ 2147483647 := vi_ir
        have q149 : -2147483648 ≤ vi W86 x 36 ∧ vi W86 x 36 ≤ 2147483647 := vi_ir
        refine GO.iald (t := 33) rfl rfl h143 ⟨by omega, by omega⟩ (by omega) (by omega) dX12_lands_32 (fun l150 u151 => ?_)
        refine GO.ldcw (X := 1048576) dX12_lands_33 gw_2078 rfl ?_
        refine GO.iremP dX12_lands_36 vi_ir (ir_c rfl) (by omega) (by omega) ?_
        refine GO.name (fun z152 hz153 => ?_)
        refine GO.istore_n (ls1 := [some (.ref x), some (ti p0), some (ti z152)]) dX12_lands_37 rfl rfl rfl ?_
        have hfr := RJ.frm (V := W86) (by assumption) (by omega) rfl (by assumption)
        have hfr1 := hfr.1
        have hfr2 := hfr.2.1
        refine GO.aload_n dX12_lands_38 rfl rfl ?_
        refine GO.getA (n := 220) h_x fl_RX12_88 rfl rfl rfl rfl dX12_lands_39 (fun hv155 h154 => ?_)
        refine GO.iload_n dX12_lands_42 rfl rfl ?_
        refine GO.ldcw (X := 1048576) dX12_lands_43 gw_2078 rfl ?_
        refine GO.aload_n dX12_lands_46 rfl rfl ?_
        refine GO.getRaw h_x fl_RX12_88 hv155 dX12_lands_47 ?_
        refine GO.iload_n dX12_lands_50 rfl rfl ?_
        refine GO.iald (t := 32) rfl rfl h154 ⟨by omega, by omega⟩ (by omega) (by omega) dX12_lands_51 (fun l158 u159 => ?_)
        refine GO.ldcw (X := 1048576) dX12_lands_52 gw_2078 rfl ?_
        refine GO.idivP dX12_lands_55 vi_ir (ir_c rfl) (by omega) (by omega) ?_
        refine GO.imul dX12_lands_56 ?_
        refine GO.aload_n dX12_lands_57 rfl rfl ?_
        refine GO.getI h_x fl_RX12_466 rfl rfl dX12_lands_58 (fun l160 u161 => ?_)
        refine GO.iadd dX12_lands_61 ?_
        refine GO.iast (t := 32) rfl rfl (by decide +kernel) h154 ⟨by omega, by omega⟩ (by omega) (by omega) ⟨by omega, by omega⟩ (by omega) (by omega) dX12_lands_62 (fun V163 e162 => ?_)
        have k164 := st_sd e162 aq90 h_x (vq_of hv155) ⟨by omega, by omega⟩
        have sS165 : sd V163 x = updf (sd W86 x) (z152).toNat ((1048576 * ((vi W86 (vq W86 x 39) (z152).toNat) / 1048576)) + (vi W86 x 36)) := k164.2.1.trans (congrArg (fun f => updf f (z152).toNat ((1048576 * ((vi W86 (vq W86 x 39) (z152).toNat) / 1048576)) + (vi W86 x 36))) (rfl : sd W86 x = sd W86 x))
        have sQ166 : wt V163 x = wt W86 x := k164.2.2.trans (rfl : wt W86 x = wt W86 x)
        refine GO.aload_n dX12_lands_63 rfl rfl ?_
        refine GO.aload_n dX12_lands_64 rfl rfl ?_
        refine GO.getI h_x fl_RX12_473 rfl rfl dX12_lands_65 (fun l167 u168 => ?_)
        have e169 : vi V163 x 37 = vi W86 x 37 := vi_up e162 (Or.inl (K_ne h_x h154 (by decide)))
        refine GO.iconst dX12_lands_68 ?_
        refine GO.isub dX12_lands_69 ?_
        refine GO.putI h_x fp_RX12_473 rfl (by decide +kernel) ⟨by omega, by omega⟩ (by omega) (by omega) dX12_lands_70 (fun V171 e170 => ?_)
        have k172 := st_fld e170 k164.1 h_x (by decide) (by decide)
        have sS173 : sd V171 x = updf (sd W86 x) (z152).toNat ((1048576 * ((vi W86 (vq W86 x 39) (z152).toNat) / 1048576)) + (vi W86 x 36)) := k172.2.1.trans sS165
        have sQ174 : wt V171 x = wt W86 x := k172.2.2.trans sQ166
        refine GO.goto (tgt := 0) dX12_lands_73 (by decide) ?_
        refine GO.drop [true, true, false] rfl ?_
        have e176 : vi V163 x 31 = vi W86 x 31 := vi_up e162 (Or.inl (K_ne h_x h154 (by decide)))
        have e175 : vi V171 x 31 = vi V163 x 31 := vi_up e170 (Or.inr (by decide))
        have e178 : vi V163 x 36 = vi W86 x 36 := vi_up e162 (Or.inl (K_ne h_x h154 (by decide)))
        have e177 : vi V171 x 36 = vi V163 x 36 := vi_up e170 (Or.inr (by decide))
        have e179 : vi V171 x 37 = (vi V163 x 37) - 1 := upd2_int e170 ⟨by omega, by omega⟩
        exact ih87  V171 ⟨by omega, (by first | assumption | exact RJ.land (by assumption) (by assumption) (by omega) (by omega) (by omega) hfr.2.2 (sS173) (sQ174) (by omega) (by omega) (by omega)), (by first | assumption | exact NS.less (by assumption) (sQ174) (by omega)), (by first | exact LDi.rf | exact hld | exact LDi.step hld (by omega) rfl (by omega) (by omega) hfr.2.2 (sS173) (sQ174) (by omega) (by omega) (by omega) (by omega) (by omega)), trivial⟩ (by show (vi V171 x 37).toNat < (vi W86 x 37).toNat; omega)

set_option maxHeartbeats 1000000 in
theorem t_X12_jumps {K : Kmap} {V : Vmap} {x : Nat} {p0 : Int} {fr : Nat} {S0 : Nat → Int} {s z : Int} (h_x : K x = some (0, 11)) (r_p0 : ir p0) (q_0 : p0 ≥ 11) (q_1 : p0 ≤ 12) (q_2 : vi V x 31 < vi V x 32) (w_0 : RJ V x fr S0 s z) (w_1 : z = 1) (w_2 : NS V x) (w_3 : 1 ≤ vi V x 37) : MC mX12_jumps K V [.ref x, ti p0] (VS K (fun V1 => (vi V1 x 31 = (vi V x 31 + 1) ∧ vi V1 x 36 ≥ 0 ∧ vi V1 x 37 = (vi V x 37 + 1) ∧ vi V1 x 36 = (vi V x 36 + 1)) ∧ ((RJ V1 x fr S0 s (z - 1)) ∧ (NS V1 x)) ∧ (sd V1 x = updf (sd V x) (vi V x 36).toNat (1048576 * p0 + 0)) ∧ (wt V1 x = updf (wt V x) (vi V x 37).toNat (1048576 * p0 + vi V x 36)))) := by
  refine MC.start 0 (by decide +kernel) rfl rfl rfl (ls0 := [some (.ref x), some (ti p0)]) rfl ?_
  refine GO.useWT (fun hW1 => ?_)
  have aq2 := hW1.aq h_x
  have hrd := (hW1).rd h_x
  have hle := RJ.le (V := V) (x := x) (fr := fr) (S0 := S0) (s := s) (z := z) (by assumption)
  refine GO.aload_n dX12_jumps_0 rfl rfl ?_
  refine GO.getA (n := 220) h_x fl_RX12_91 rfl rfl rfl rfl dX12_jumps_1 (fun hv4 h3 => ?_)
  refine GO.aload_n dX12_jumps_4 rfl rfl ?_
  refine GO.getI h_x fl_RX12_473 rfl rfl dX12_jumps_5 (fun l5 u6 => ?_)
  refine GO.ldcw (X := 1048576) dX12_jumps_8 gw_2078 rfl ?_
  refine GO.iload_n dX12_jumps_11 rfl rfl ?_
  refine GO.imul dX12_jumps_12 ?_
  refine GO.aload_n dX12_jumps_13 rfl rfl ?_
  refine GO.getI h_x fl_RX12_466 rfl rfl dX12_jumps_14 (fun l7 u8 => ?_)
  refine GO.iadd dX12_jumps_17 ?_
  have q9 : -2147483648 ≤ vi V x 37 ∧ vi V x 37 ≤ 2147483647 := vi_ir
  have q10 : -2147483648 ≤ vi V x 31 ∧ vi V x 31 ≤ 2147483647 := vi_ir
  have q11 : -2147483648 ≤ vi V x 36 ∧ vi V x 36 ≤ 2147483647 := vi_ir
  have q12 : -2147483648 ≤ vi V x 32 ∧ vi V x 32 ≤ 2147483647 := vi_ir
  have q14 : -2147483648 ≤ p0 ∧ p0 ≤ 2147483647 := r_p0
  refine GO.iast (t := 33) rfl rfl (by decide +kernel) h3 vi_ir (by omega) (by omega) ⟨by omega, by omega⟩ (by omega) (by omega) dX12_jumps_18 (fun V15 e13 => ?_)
  have k16 := st_wt e13 aq2 h_x (vq_of hv4) ⟨by omega, by omega⟩
  have sS17 : sd V15 x = sd V x := k16.2.1.trans (rfl : sd V x = sd V x)
  have sQ18 : wt V15 x = updf (wt V x) (vi V x 37).toNat ((1048576 * p0) + (vi V x 36)) := k16.2.2.trans (congrArg (fun f => updf f (vi V x 37).toNat ((1048576 * p0) + (vi V x 36))) (rfl : wt V x = wt V x))
  refine GO.aload_n dX12_jumps_19 rfl rfl ?_
  refine GO.aload_n dX12_jumps_20 rfl rfl ?_
  refine GO.getI h_x fl_RX12_473 rfl rfl dX12_jumps_21 (fun l19 u20 => ?_)
  have e21 : vi V15 x 37 = vi V x 37 := vi_up e13 (Or.inl (K_ne h_x h3 (by decide)))
  refine GO.iconst dX12_jumps_24 ?_
  refine GO.iadd dX12_jumps_25 ?_
  refine GO.putI h_x fp_RX12_473 rfl (by decide +kernel) ⟨by omega, by omega⟩ (by omega) (by omega) dX12_jumps_26 (fun V23 e22 => ?_)
  have k24 := st_fld e22 k16.1 h_x (by decide) (by decide)
  have sS25 : sd V23 x = sd V x := k24.2.1.trans sS17
  have sQ26 : wt V23 x = updf (wt V x) (vi V x 37).toNat ((1048576 * p0) + (vi V x 36)) := k24.2.2.trans sQ18
  refine GO.aload_n dX12_jumps_29 rfl rfl ?_
  refine GO.iload_n dX12_jumps_30 rfl rfl ?_
  refine GO.iconst dX12_jumps_31 ?_
  have e28 : vi V15 x 36 = vi V x 36 := vi_up e13 (Or.inl (K_ne h_x h3 (by decide)))
  have e27 : vi V23 x 36 = vi V15 x 36 := vi_up e22 (Or.inr (by decide))
  refine GO.callV (ci := 11) (N := mX12_says) dX12_jumps_32 (RX12, TX12, 151) rfl gV_RX12_479 h_x (t_X12_says h_x r_p0 (ir_c rfl) (by omega) (by omega) (by omega) (by omega) ⟨by omega, by omega⟩) rfl [] rfl rfl (Nat.le_of_ble_eq_true rfl) rfl (k_vs fun V31 h30 hF29 => ?_)
  refine GO.useWT (fun hW32 => ?_)
  have aq33 := hW32.aq h_x
  have raw_says := h30.2
  have rw32 := h30.2
  refine GO.aload_n dX12_jumps_35 rfl rfl ?_
  refine GO.aload_n dX12_jumps_36 rfl rfl ?_
  refine GO.getI h_x fl_RX12_443 rfl rfl dX12_jumps_37 (fun l35 u36 => ?_)
  have e39 : vi V15 x 31 = vi V x 31 := vi_up e13 (Or.inl (K_ne h_x h3 (by decide)))
  have e38 : vi V23 x 31 = vi V15 x 31 := vi_up e22 (Or.inr (by decide))
  have e37 : vi V31 x 31 = vi V23 x 31 := vi_fr hF29 h_x h_x (by decide +kernel)
  refine GO.iconst dX12_jumps_40 ?_
  refine GO.iadd dX12_jumps_41 ?_
  have q41 : -2147483648 ≤ vi V31 x 36 ∧ vi V31 x 36 ≤ 2147483647 := vi_ir
  refine GO.putI h_x fp_RX12_443 rfl (by decide +kernel) ⟨by omega, by omega⟩ (by omega) (by omega) dX12_jumps_42 (fun V42 e40 => ?_)
  have k43 := st_fld e40 aq33 h_x (by decide) (by decide)
  have sS44 : sd V42 x = sd V31 x := k43.2.1.trans (rfl : sd V31 x = sd V31 x)
  have sQ45 : wt V42 x = wt V31 x := k43.2.2.trans (rfl : wt V31 x = wt V31 x)
  have e46 : vi V42 x 31 = (vi V31 x 31) + 1 := upd2_int e40 ⟨by omega, by omega⟩
  have e47 : vi V42 x 36 = vi V31 x 36 := vi_up e40 (Or.inr (by decide))
  have e50 : vi V23 x 37 = (vi V15 x 37) + 1 := upd2_int e22 ⟨by omega, by omega⟩
  have e49 : vi V31 x 37 = vi V23 x 37 := vi_fr hF29 h_x h_x (by decide +kernel)
  have e48 : vi V42 x 37 = vi V31 x 37 := vi_up e40 (Or.inr (by decide))
  exact GO.retv rfl rfl dX12_jumps_45 ⟨rfl, rfl, ⟨by omega, ⟨RJ.jump (by assumption) (by assumption) (by omega) (by omega) (by omega) (upd_eq (sS44) raw_says.1 (sS25) (by omega)) ((sQ45).trans (raw_says.2.trans (sQ26))) (by omega) (by omega) (by omega) (by omega), NS.push (by assumption) (by omega) (by omega) ((sQ45).trans (raw_says.2.trans (sQ26))) (by omega) (by omega)⟩, upd_eq (sS44) raw_says.1 (sS25) (by omega), (sQ45).trans (raw_says.2.trans (sQ26))⟩⟩

set_option maxHeartbeats 1000000 in
theorem t_X12_readsCompared {K : Kmap} {V : Vmap} {x : Nat} {fr : Nat} {S0 : Nat → Int} (h_x : K x = some (0, 11)) (q_0 : vi V x 37 ≥ 1) (w_0 : RJ V x fr S0 0 0) (w_1 : NS V x) : MC mX12_readsCompared K V [.ref x] (IS K (fun X V1 => (X = 0 ∨ X = 1) ∧ (X ≠ 0 → vi V1 x 31 ≥ (vi V x 31 + 1) ∧ vi V1 x 36 ≥ 0 ∧ vi V1 x 37 ≥ 1) ∧ (X = 0 → True) ∧ ((X ≠ 0 → RJ V1 x fr S0 0 1) ∧ (X ≠ 0 → NS V1 x)) ∧ (CMK V V1 x X))) := by
  refine MC.start 1 (by decide +kernel) rfl rfl rfl (ls0 := [some (.ref x), none]) rfl ?_
  refine GO.useWT (fun hW1 => ?_)
  have aq2 := hW1.aq h_x
  refine GO.useWT (fun hW_0 => ?_)
  have hrd := (hW1).rd h_x
  have hle := RJ.le (V := V) (x := x) (fr := fr) (S0 := S0) (s := 0) (z := 0) (by assumption)
  refine GO.aload_n dX12_readsCompared_0 rfl rfl ?_
  have q3 : -2147483648 ≤ vi V x 37 ∧ vi V x 37 ≤ 2147483647 := vi_ir
  have q4 : -2147483648 ≤ vi V x 31 ∧ vi V x 31 ≤ 2147483647 := vi_ir
  have q5 : -2147483648 ≤ vi V x 36 ∧ vi V x 36 ≤ 2147483647 := vi_ir
  refine GO.callV (ci := 11) (N := mX12_readsSum) dX12_readsCompared_1 (RX12, TX12, 151) rfl gV_RX12_505 h_x (t_X12_readsSum h_x (by omega) ((by first | assumption)) (by omega) ((by first | assumption))) rfl [] rfl rfl (Nat.le_of_ble_eq_true rfl) rfl (k_is fun X6 V10 r7 h8 hF9 => ?_)
  refine GO.useWT (fun hW11 => ?_)
  have aq12 := hW11.aq h_x
  have raw_readsSum := h8.2.2.2.1
  have rq0_1 := h8.2.2.2.2
  have rw1 := h8.2.2.2.1
  refine GO.if_ne (tgt := 9) dX12_readsCompared_4 (by decide) r7 (fun c15 => ?_) (fun c15 => ?_)
  ·
    have q16 := h8.2.1 (by omega)
    have e17 : vi V10 x 32 = vi V x 32 := vi_fr hF9 h_x h_x (by decide +kernel)
    have rs1 := raw_readsSum.1 (by omega)
    have rs2 := raw_readsSum.2 (by omega)
    have hrd1 := (hW11).rd h_x
    have hc1 := CM1.of rq0_1 (by omega)
    refine GO.useFR (fun hFs => ?_)
    have hTp1 : ∀ src e, TP V x src e → TP V10 x src e := fun src e h => TP.fr h hFs hW_0 h_x (by decide +kernel) (by decide +kernel) (by decide +kernel)
    refine GO.aload_n dX12_readsCompared_9 rfl rfl ?_
    refine GO.callV (ci := 11) (N := mX12_sign) dX12_readsCompared_10 (RX12, TX12, 151) rfl gV_RX12_449 h_x (t_X12_sign h_x) rfl [] rfl rfl (Nat.le_of_ble_eq_true rfl) rfl (k_ip fun X20 r21 h22 => ?_)
    refine GO.bipush dX12_readsCompared_13 rfl ?_
    refine GO.icmp_ne (tgt := 23) dX12_readsCompared_15 (by decide) r21 (ir_c rfl) (fun c23 => ?_) (fun c23 => ?_)
    ·
      refine GO.aload_n dX12_readsCompared_23 rfl rfl ?_
      refine GO.callV (ci := 11) (N := mX12_sign) dX12_readsCompared_24 (RX12, TX12, 151) rfl gV_RX12_449 h_x (t_X12_sign h_x) rfl [] rfl rfl (Nat.le_of_ble_eq_true rfl) rfl (k_ip fun X24 r25 h26 => ?_)
      refine GO.bipush dX12_readsCompared_27 rfl ?_
      refine GO.icmp_ne (tgt := 37) dX12_readsCompared_29 (by decide) r25 (ir_c rfl) (fun c27 => ?_) (fun c27 => ?_)
      ·
        refine GO.aload_n dX12_readsCompared_37 rfl rfl ?_
        refine GO.callV (ci := 11) (N := mX12_sign) dX12_readsCompared_38 (RX12, TX12, 151) rfl gV_RX12_449 h_x (t_X12_sign h_x) rfl [] rfl rfl (Nat.le_of_ble_eq_true rfl) rfl (k_ip fun X28 r29 h30 => ?_)
        refine GO.bipush dX12_readsCompared_41 rfl ?_
        refine GO.icmp_ne (tgt := 51) dX12_readsCompared_43 (by decide) r29 (ir_c rfl) (fun c31 => ?_) (fun c31 => ?_)
        ·
          refine GO.iconst dX12_readsCompared_51 ?_
          refine GO.istore_n (ls1 := [some (.ref x), some (ti (-1))]) dX12_readsCompared_52 rfl rfl rfl ?_
          refine GO.iload_n dX12_readsCompared_53 rfl rfl ?_
          refine GO.iconst dX12_readsCompared_54 ?_
          refine GO.icmp_ne (tgt := 68) dX12_readsCompared_55 (by decide) (ir_c rfl) (ir_c rfl) (fun h => by exfalso; omega) (fun c32 => ?_)
          refine GO.aload_n dX12_readsCompared_58 rfl rfl ?_
          refine GO.iconst dX12_readsCompared_59 ?_
          refine GO.aload_n dX12_readsCompared_60 rfl rfl ?_
          refine GO.getI h_x fl_RX12_443 rfl rfl dX12_readsCompared_61 (fun l33 u34 => ?_)
          have q35 : -2147483648 ≤ vi V10 x 31 ∧ vi V10 x 31 ≤ 2147483647 := vi_ir
          have q36 : -2147483648 ≤ vi V10 x 37 ∧ vi V10 x 37 ≤ 2147483647 := vi_ir
          refine GO.callV (ci := 11) (N := mX12_wrong) dX12_readsCompared_64 (RX12, TX12, 151) rfl gV_RX12_456 h_x (t_X12_wrong h_x (ir_c rfl) vi_ir (by omega) (by omega) (by omega) (by omega)) rfl [] rfl rfl (Nat.le_of_ble_eq_true rfl) rfl (k_is fun X37 V41 r38 h39 hF40 => ?_)
          have k42 := st_fr hF40 aq12 h_x (by decide +kernel) (by decide +kernel) (by decide +kernel) (by decide +kernel)
          have sS43 : sd V41 x = sd V10 x := k42.2.1.trans (rfl : sd V10 x = sd V10 x)
          have sQ44 : wt V41 x = wt V10 x := k42.2.2.trans (rfl : wt V10 x = wt V10 x)
          have e46 : vi V41 x 31 = vi V10 x 31 := vi_fr hF40 h_x h_x (by decide +kernel)
          have q47 : -2147483648 ≤ vi V41 x 33 ∧ vi V41 x 33 ≤ 2147483647 := vi_ir
          have e48 : vi V41 x 36 = vi V10 x 36 := vi_fr hF40 h_x h_x (by decide +kernel)
          have q49 : -2147483648 ≤ vi V10 x 36 ∧ vi V10 x 36 ≤ 2147483647 := vi_ir
          have e50 : vi V41 x 37 = vi V10 x 37 := vi_fr hF40 h_x h_x (by decide +kernel)
          have e51 : vi V41 x 35 = vi V10 x 35 := vi_fr hF40 h_x h_x (by decide +kernel)
          exact GO.retz rfl rfl dX12_readsCompared_67 (by omega) ⟨rfl, _, rfl, r38, ⟨by omega, fun h => by omega, fun _ => trivial, ⟨(by first | exact fun h => absurd h (by omega)), (by first | exact fun h => absurd h (by omega))⟩, (by first | exact CMK.e2 hc1 hTp1 (by omega) (by omega) (by omega) (by omega) | exact CMK.e1 rq0_1 (by omega) rfl rfl)⟩⟩
        ·
          refine GO.bipush dX12_readsCompared_46 rfl ?_
          refine GO.goto (tgt := 52) dX12_readsCompared_48 (by decide) ?_
          refine GO.istore_n (ls1 := [some (.ref x), some (ti 9)]) dX12_readsCompared_52 rfl rfl rfl ?_
          refine GO.iload_n dX12_readsCompared_53 rfl rfl ?_
          refine GO.iconst dX12_readsCompared_54 ?_
          refine GO.icmp_ne (tgt := 68) dX12_readsCompared_55 (by decide) (ir_c rfl) (ir_c rfl) (fun c52 => ?_) (fun h => by exfalso; omega)
          refine GO.aload_n dX12_readsCompared_68 rfl rfl ?_
          refine GO.aload_n dX12_readsCompared_69 rfl rfl ?_
          refine GO.getI h_x fl_RX12_443 rfl rfl dX12_readsCompared_70 (fun l53 u54 => ?_)
          refine GO.iconst dX12_readsCompared_73 ?_
          refine GO.iadd dX12_readsCompared_74 ?_
          have q56 : -2147483648 ≤ vi V10 x 31 ∧ vi V10 x 31 ≤ 2147483647 := vi_ir
          have q57 : -2147483648 ≤ vi V x 32 ∧ vi V x 32 ≤ 2147483647 := vi_ir
          have q58 : -2147483648 ≤ vi V10 x 37 ∧ vi V10 x 37 ≤ 2147483647 := vi_ir
          refine GO.putI h_x fp_RX12_443 rfl (by decide +kernel) ⟨by omega, by omega⟩ (by omega) (by omega) dX12_readsCompared_75 (fun V59 e55 => ?_)
          have k60 := st_fld e55 aq12 h_x (by decide) (by decide)
          have sS61 : sd V59 x = sd V10 x := k60.2.1.trans (rfl : sd V10 x = sd V10 x)
          have sQ62 : wt V59 x = wt V10 x := k60.2.2.trans (rfl : wt V10 x = wt V10 x)
          have e63 : vi V59 x 31 = (vi V10 x 31) + 1 := upd2_int e55 ⟨by omega, by omega⟩
          have e64 : vi V59 x 36 = vi V10 x 36 := vi_up e55 (Or.inr (by decide))
          have e65 : vi V59 x 37 = vi V10 x 37 := vi_up e55 (Or.inr (by decide))
          have e66 : vi V59 x 35 = vi V10 x 35 := vi_up e55 (Or.inr (by decide))
          have hns2 := NS.sq (by assumption) rs2 (sQ62) (by omega)
          have hq2 := sQ62
          have hc2 := CM2.of (k := 9) hc1 hTp1 (by omega) (by omega) (by omega) (by omega) (sS61) (by omega)
          refine GO.useFR (fun hFs => ?_)
          have hTp2 : ∀ src e, TP V x src e → TP V59 x src e := fun src e h => TP.fr h hFs hW_0 h_x (by decide +kernel) (by decide +kernel) (by decide +kernel)
          refine GO.aload_n dX12_readsCompared_78 rfl rfl ?_
          refine GO.callV (ci := 11) (N := mX12_readsSum) dX12_readsCompared_79 (RX12, TX12, 151) rfl gV_RX12_505 h_x (t_X12_readsSum h_x (by omega) ((by first | assumption | exact RJ.on (s1 := 1) rs1 (sS61) (sQ62) (by omega) (by omega) (by omega) (by omega))) (by omega) ((by first | assumption | exact NS.sq (by assumption) rs2 (sQ62) (by omega)))) rfl [] rfl rfl (Nat.le_of_ble_eq_true rfl) rfl (k_is fun X67 V71 r68 h69 hF70 => ?_)
          refine GO.useWT (fun hW72 => ?_)
          have aq73 := hW72.aq h_x
          have raw_readsSum := h69.2.2.2.1
          have rq0_79 := h69.2.2.2.2
          have rw79 := h69.2.2.2.1
          refine GO.if_ne (tgt := 87) dX12_readsCompared_82 (by decide) r68 (fun c76 => ?_) (fun c76 => ?_)
          ·
            have q77 := h69.2.1 (by omega)
            have ts1 := raw_readsSum.1 (by omega)
            have ts2 := raw_readsSum.2 (by omega)
            have hrd2 := (hW72).rd h_x
            have ht2 := ts1.le
            have hlw : vi V71 x 37 = vi V x 37 ∧ ∀ j, j < (vi V x 37).toNat → wt V71 x j = wt V x j := ⟨by omega, fun j hj => (ts2.2 j (by omega)).trans ((congrFun hq2 j).trans (rs2.2 j hj))⟩
            refine GO.aload_n dX12_readsCompared_87 rfl rfl ?_
            refine GO.iload_n dX12_readsCompared_88 rfl rfl ?_
            refine GO.iconst dX12_readsCompared_89 ?_
            refine GO.callV (ci := 11) (N := mX12_says) dX12_readsCompared_90 (RX12, TX12, 151) rfl gV_RX12_479 h_x (t_X12_says h_x (ir_c rfl) (ir_c rfl) (by omega) (by omega) (by omega) (by omega) ⟨by omega, by omega⟩) rfl [] rfl rfl (Nat.le_of_ble_eq_true rfl) rfl (k_vs fun V82 h81 hF80 => ?_)
            refine GO.useWT (fun hW83 => ?_)
            have aq84 := hW83.aq h_x
            have raw_says := h81.2
            have rw90 := h81.2
            have e86 : vi V82 x 31 = vi V71 x 31 := vi_fr hF80 h_x h_x (by decide +kernel)
            have e87 : vi V82 x 37 = vi V71 x 37 := vi_fr hF80 h_x h_x (by decide +kernel)
            have e88 : vi V82 x 35 = vi V71 x 35 := vi_fr hF80 h_x h_x (by decide +kernel)
            refine GO.aload_n dX12_readsCompared_93 rfl rfl ?_
            refine GO.callV (ci := 11) (N := mX12_endsPiece) dX12_readsCompared_94 (RX12, TX12, 151) rfl gV_RX12_508 h_x (t_X12_endsPiece h_x (RJ.zz (RJ.cmp ts1 (by omega) (by omega) (upd_eq ((rfl : sd V82 x = sd V82 x)) raw_says.1 ((rfl : sd V71 x = sd V71 x)) (by omega)) (((rfl : wt V82 x = wt V82 x)).trans (raw_says.2.trans ((rfl : wt V71 x = wt V71 x)))) (by omega) (by omega) (by omega) (by omega) (by omega) rfl) rfl) (by omega) (NS.sq hns2 ts2 (((rfl : wt V82 x = wt V82 x)).trans (raw_says.2.trans ((rfl : wt V71 x = wt V71 x)))) (by omega)) (by omega)) rfl [] rfl rfl (Nat.le_of_ble_eq_true rfl) rfl (k_vs fun V91 h90 hF89 => ?_)
            refine GO.useWT (fun hW92 => ?_)
            have aq93 := hW92.aq h_x
            have raw_endsPiece := h90.2.1
            have rq0_94 := h90.2.2.1
            have rq1_94 := h90.2.2.2
            have rw94 := h90.2.1
            have e94 : vi V91 x 31 = vi V82 x 31 := vi_fr hF89 h_x h_x (by decide +kernel)
            refine GO.iconst dX12_readsCompared_97 ?_
            have q97 : -2147483648 ≤ vi V71 x 31 ∧ vi V71 x 31 ≤ 2147483647 := vi_ir
            have q98 : -2147483648 ≤ vi V71 x 37 ∧ vi V71 x 37 ≤ 2147483647 := vi_ir
            have q99 : -2147483648 ≤ vi V91 x 37 ∧ vi V91 x 37 ≤ 2147483647 := vi_ir
            have q100 : -2147483648 ≤ vi V91 x 36 ∧ vi V91 x 36 ≤ 2147483647 := vi_ir
            exact GO.retz rfl rfl dX12_readsCompared_98 (Or.inr rfl) ⟨rfl, _, rfl, (ir_c rfl), ⟨Or.inr rfl, fun h => by omega, fun _ => trivial, ⟨(by first | exact fun h => absurd h (by decide) | exact fun _ => raw_endsPiece.1), (by first | exact fun h => absurd h (by decide) | exact fun _ => raw_endsPiece.2)⟩, (by first | exact CMK.ok hc2 hTp2 (fun _ => ⟨hns2, by omega⟩) rq0_79 (by omega) (by omega) raw_says.1 raw_says.2 (by omega) (by omega) (by omega) (by omega) (by omega) hlw rq0_94 raw_endsPiece.2 (by omega) rq1_94 | exact CMK.e3 hc2 hTp2 (fun _ => ⟨hns2, by omega⟩) rq0_79 (by omega) rfl | exact CMK.e2 hc1 hTp1 (by omega) (by omega) (by omega) (by omega) | exact CMK.e1 rq0_1 (by omega) rfl rfl)⟩⟩
          ·
            refine GO.iconst dX12_readsCompared_85 ?_
            have q105 : -2147483648 ≤ vi V71 x 31 ∧ vi V71 x 31 ≤ 2147483647 := vi_ir
            have q107 : -2147483648 ≤ vi V71 x 36 ∧ vi V71 x 36 ≤ 2147483647 := vi_ir
            have q108 : -2147483648 ≤ vi V71 x 37 ∧ vi V71 x 37 ≤ 2147483647 := vi_ir
            exact GO.retz rfl rfl dX12_readsCompared_86 (Or.inl rfl) ⟨rfl, _, rfl, (ir_c rfl), ⟨Or.inl rfl, fun h => absurd rfl h, fun _ => trivial, ⟨(by first | exact fun h => absurd rfl h), (by first | exact fun h => absurd rfl h)⟩, (by first | exact CMK.e3 hc2 hTp2 (fun _ => ⟨hns2, by omega⟩) rq0_79 (by omega) rfl | exact CMK.e2 hc1 hTp1 (by omega) (by omega) (by omega) (by omega) | exact CMK.e1 rq0_1 (by omega) rfl rfl)⟩⟩
      ·
        refine GO.bipush dX12_readsCompared_32 rfl ?_
        refine GO.goto (tgt := 52) dX12_readsCompared_34 (by decide) ?_
        refine GO.istore_n (ls1 := [some (.ref x), some (ti 8)]) dX12_readsCompared_52 rfl rfl rfl ?_
        refine GO.iload_n dX12_readsCompared_53 rfl rfl ?_
        refine GO.iconst dX12_readsCompared_54 ?_
        refine GO.icmp_ne (tgt := 68) dX12_readsCompared_55 (by decide) (ir_c rfl) (ir_c rfl) (fun c111 => ?_) (fun h => by exfalso; omega)
        refine GO.aload_n dX12_readsCompared_68 rfl rfl ?_
        refine GO.aload_n dX12_readsCompared_69 rfl rfl ?_
        refine GO.getI h_x fl_RX12_443 rfl rfl dX12_readsCompared_70 (fun l112 u113 => ?_)
        refine GO.iconst dX12_readsCompared_73 ?_
        refine GO.iadd dX12_readsCompared_74 ?_
        have q115 : -2147483648 ≤ vi V10 x 31 ∧ vi V10 x 31 ≤ 2147483647 := vi_ir
        have q116 : -2147483648 ≤ vi V x 32 ∧ vi V x 32 ≤ 2147483647 := vi_ir
        have q117 : -2147483648 ≤ vi V10 x 37 ∧ vi V10 x 37 ≤ 2147483647 := vi_ir
        refine GO.putI h_x fp_RX12_443 rfl (by decide +kernel) ⟨by omega, by omega⟩ (by omega) (by omega) dX12_readsCompared_75 (fun V118 e114 => ?_)
        have k119 := st_fld e114 aq12 h_x (by decide) (by decide)
        have sS120 : sd V118 x = sd V10 x := k119.2.1.trans (rfl : sd V10 x = sd V10 x)
        have sQ121 : wt V118 x = wt V10 x := k119.2.2.trans (rfl : wt V10 x = wt V10 x)
        have e122 : vi V118 x 31 = (vi V10 x 31) + 1 := upd2_int e114 ⟨by omega, by omega⟩
        have e123 : vi V118 x 36 = vi V10 x 36 := vi_up e114 (Or.inr (by decide))
        have e124 : vi V118 x 37 = vi V10 x 37 := vi_up e114 (Or.inr (by decide))
        have e125 : vi V118 x 35 = vi V10 x 35 := vi_up e114 (Or.inr (by decide))
        have hns2 := NS.sq (by assumption) rs2 (sQ121) (by omega)
        have hq2 := sQ121
        have hc2 := CM2.of (k := 8) hc1 hTp1 (by omega) (by omega) (by omega) (by omega) (sS120) (by omega)
        refine GO.useFR (fun hFs => ?_)
        have hTp2 : ∀ src e, TP V x src e → TP V118 x src e := fun src e h => TP.fr h hFs hW_0 h_x (by decide +kernel) (by decide +kernel) (by decide +kernel)
        refine GO.aload_n dX12_readsCompared_78 rfl rfl ?_
        refine GO.callV (ci := 11) (N := mX12_readsSum) dX12_readsCompared_79 (RX12, TX12, 151) rfl gV_RX12_505 h_x (t_X12_readsSum h_x (by omega) ((by first | assumption | exact RJ.on (s1 := 1) rs1 (sS120) (sQ121) (by omega) (by omega) (by omega) (by omega))) (by omega) ((by first | assumption | exact NS.sq (by assumption) rs2 (sQ121) (by omega)))) rfl [] rfl rfl (Nat.le_of_ble_eq_true rfl) rfl (k_is fun X126 V130 r127 h128 hF129 => ?_)
        refine GO.useWT (fun hW131 => ?_)
        have aq132 := hW131.aq h_x
        have raw_readsSum := h128.2.2.2.1
        have rq0_79 := h128.2.2.2.2
        have rw79 := h128.2.2.2.1
        refine GO.if_ne (tgt := 87) dX12_readsCompared_82 (by decide) r127 (fun c135 => ?_) (fun c135 => ?_)
        ·
          have q136 := h128.2.1 (by omega)
          have ts1 := raw_readsSum.1 (by omega)
          have ts2 := raw_readsSum.2 (by omega)
          have hrd2 := (hW131).rd h_x
          have ht2 := ts1.le
          have hlw : vi V130 x 37 = vi V x 37 ∧ ∀ j, j < (vi V x 37).toNat → wt V130 x j = wt V x j := ⟨by omega, fun j hj => (ts2.2 j (by omega)).trans ((congrFun hq2 j).trans (rs2.2 j hj))⟩
          refine GO.aload_n dX12_readsCompared_87 rfl rfl ?_
          refine GO.iload_n dX12_readsCompared_88 rfl rfl ?_
          refine GO.iconst dX12_readsCompared_89 ?_
          refine GO.callV (ci := 11) (N := mX12_says) dX12_readsCompared_90 (RX12, TX12, 151) rfl gV_RX12_479 h_x (t_X12_says h_x (ir_c rfl) (ir_c rfl) (by omega) (by omega) (by omega) (by omega) ⟨by omega, by omega⟩) rfl [] rfl rfl (Nat.le_of_ble_eq_true rfl) rfl (k_vs fun V141 h140 hF139 => ?_)
          refine GO.useWT (fun hW142 => ?_)
          have aq143 := hW142.aq h_x
          have raw_says := h140.2
          have rw90 := h140.2
          have e145 : vi V141 x 31 = vi V130 x 31 := vi_fr hF139 h_x h_x (by decide +kernel)
          have e146 : vi V141 x 37 = vi V130 x 37 := vi_fr hF139 h_x h_x (by decide +kernel)
          have e147 : vi V141 x 35 = vi V130 x 35 := vi_fr hF139 h_x h_x (by decide +kernel)
          refine GO.aload_n dX12_readsCompared_93 rfl rfl ?_
          refine GO.callV (ci := 11) (N := mX12_endsPiece) dX12_readsCompared_94 (RX12, TX12, 151) rfl gV_RX12_508 h_x (t_X12_endsPiece h_x (RJ.zz (RJ.cmp ts1 (by omega) (by omega) (upd_eq ((rfl : sd V141 x = sd V141 x)) raw_says.1 ((rfl : sd V130 x = sd V130 x)) (by omega)) (((rfl : wt V141 x = wt V141 x)).trans (raw_says.2.trans ((rfl : wt V130 x = wt V130 x)))) (by omega) (by omega) (by omega) (by omega) (by omega) rfl) rfl) (by omega) (NS.sq hns2 ts2 (((rfl : wt V141 x = wt V141 x)).trans (raw_says.2.trans ((rfl : wt V130 x = wt V130 x)))) (by omega)) (by omega)) rfl [] rfl rfl (Nat.le_of_ble_eq_true rfl) rfl (k_vs fun V150 h149 hF148 => ?_)
          refine GO.useWT (fun hW151 => ?_)
          have aq152 := hW151.aq h_x
          have raw_endsPiece := h149.2.1
          have rq0_94 := h149.2.2.1
          have rq1_94 := h149.2.2.2
          have rw94 := h149.2.1
          have e153 : vi V150 x 31 = vi V141 x 31 := vi_fr hF148 h_x h_x (by decide +kernel)
          refine GO.iconst dX12_readsCompared_97 ?_
          have q156 : -2147483648 ≤ vi V130 x 31 ∧ vi V130 x 31 ≤ 2147483647 := vi_ir
          have q157 : -2147483648 ≤ vi V130 x 37 ∧ vi V130 x 37 ≤ 2147483647 := vi_ir
          have q158 : -2147483648 ≤ vi V150 x 37 ∧ vi V150 x 37 ≤ 2147483647 := vi_ir
          have q159 : -2147483648 ≤ vi V150 x 36 ∧ vi V150 x 36 ≤ 2147483647 := vi_ir
          exact GO.retz rfl rfl dX12_readsCompared_98 (Or.inr rfl) ⟨rfl, _, rfl, (ir_c rfl), ⟨Or.inr rfl, fun h => by omega, fun _ => trivial, ⟨(by first | exact fun h => absurd h (by decide) | exact fun _ => raw_endsPiece.1), (by first | exact fun h => absurd h (by decide) | exact fun _ => raw_endsPiece.2)⟩, (by first | exact CMK.ok hc2 hTp2 (fun _ => ⟨hns2, by omega⟩) rq0_79 (by omega) (by omega) raw_says.1 raw_says.2 (by omega) (by omega) (by omega) (by omega) (by omega) hlw rq0_94 raw_endsPiece.2 (by omega) rq1_94 | exact CMK.e3 hc2 hTp2 (fun _ => ⟨hns2, by omega⟩) rq0_79 (by omega) rfl | exact CMK.e2 hc1 hTp1 (by omega) (by omega) (by omega) (by omega) | exact CMK.e1 rq0_1 (by omega) rfl rfl)⟩⟩
        ·
          refine GO.iconst dX12_readsCompared_85 ?_
          have q164 : -2147483648 ≤ vi V130 x 31 ∧ vi V130 x 31 ≤ 2147483647 := vi_ir
          have q166 : -2147483648 ≤ vi V130 x 36 ∧ vi V130 x 36 ≤ 2147483647 := vi_ir
          have q167 : -2147483648 ≤ vi V130 x 37 ∧ vi V130 x 37 ≤ 2147483647 := vi_ir
          exact GO.retz rfl rfl dX12_readsCompared_86 (Or.inl rfl) ⟨rfl, _, rfl, (ir_c rfl), ⟨Or.inl rfl, fun h => absurd rfl h, fun _ => trivial, ⟨(by first | exact fun h => absurd rfl h), (by first | exact fun h => absurd rfl h)⟩, (by first | exact CMK.e3 hc2 hTp2 (fun _ => ⟨hns2, by omega⟩) rq0_79 (by omega) rfl | exact CMK.e2 hc1 hTp1 (by omega) (by omega) (by omega) (by omega) | exact CMK.e1 rq0_1 (by omega) rfl rfl)⟩⟩
    ·
      refine GO.bipush dX12_readsCompared_18 rfl ?_
      refine GO.goto (tgt := 52) dX12_readsCompared_20 (by decide) ?_
      refine GO.istore_n (ls1 := [some (.ref x), some (ti 7)]) dX12_readsCompared_52 rfl rfl rfl ?_
      refine GO.iload_n dX12_readsCompared_53 rfl rfl ?_
      refine GO.iconst dX12_readsCompared_54 ?_
      refine GO.icmp_ne (tgt := 68) dX12_readsCompared_55 (by decide) (ir_c rfl) (ir_c rfl) (fun c170 => ?_) (fun h => by exfalso; omega)
      refine GO.aload_n dX12_readsCompared_68 rfl rfl ?_
      refine GO.aload_n dX12_readsCompared_69 rfl rfl ?_
      refine GO.getI h_x fl_RX12_443 rfl rfl dX12_readsCompared_70 (fun l171 u172 => ?_)
      refine GO.iconst dX12_readsCompared_73 ?_
      refine GO.iadd dX12_readsCompared_74 ?_
      have q174 : -2147483648 ≤ vi V10 x 31 ∧ vi V10 x 31 ≤ 2147483647 := vi_ir
      have q175 : -2147483648 ≤ vi V x 32 ∧ vi V x 32 ≤ 2147483647 := vi_ir
      have q176 : -2147483648 ≤ vi V10 x 37 ∧ vi V10 x 37 ≤ 2147483647 := vi_ir
      refine GO.putI h_x fp_RX12_443 rfl (by decide +kernel) ⟨by omega, by omega⟩ (by omega) (by omega) dX12_readsCompared_75 (fun V177 e173 => ?_)
      have k178 := st_fld e173 aq12 h_x (by decide) (by decide)
      have sS179 : sd V177 x = sd V10 x := k178.2.1.trans (rfl : sd V10 x = sd V10 x)
      have sQ180 : wt V177 x = wt V10 x := k178.2.2.trans (rfl : wt V10 x = wt V10 x)
      have e181 : vi V177 x 31 = (vi V10 x 31) + 1 := upd2_int e173 ⟨by omega, by omega⟩
      have e182 : vi V177 x 36 = vi V10 x 36 := vi_up e173 (Or.inr (by decide))
      have e183 : vi V177 x 37 = vi V10 x 37 := vi_up e173 (Or.inr (by decide))
      have e184 : vi V177 x 35 = vi V10 x 35 := vi_up e173 (Or.inr (by decide))
      have hns2 := NS.sq (by assumption) rs2 (sQ180) (by omega)
      have hq2 := sQ180
      have hc2 := CM2.of (k := 7) hc1 hTp1 (by omega) (by omega) (by omega) (by omega) (sS179) (by omega)
      refine GO.useFR (fun hFs => ?_)
      have hTp2 : ∀ src e, TP V x src e → TP V177 x src e := fun src e h => TP.fr h hFs hW_0 h_x (by decide +kernel) (by decide +kernel) (by decide +kernel)
      refine GO.aload_n dX12_readsCompared_78 rfl rfl ?_
      refine GO.callV (ci := 11) (N := mX12_readsSum) dX12_readsCompared_79 (RX12, TX12, 151) rfl gV_RX12_505 h_x (t_X12_readsSum h_x (by omega) ((by first | assumption | exact RJ.on (s1 := 1) rs1 (sS179) (sQ180) (by omega) (by omega) (by omega) (by omega))) (by omega) ((by first | assumption | exact NS.sq (by assumption) rs2 (sQ180) (by omega)))) rfl [] rfl rfl (Nat.le_of_ble_eq_true rfl) rfl (k_is fun X185 V189 r186 h187 hF188 => ?_)
      refine GO.useWT (fun hW190 => ?_)
      have aq191 := hW190.aq h_x
      have raw_readsSum := h187.2.2.2.1
      have rq0_79 := h187.2.2.2.2
      have rw79 := h187.2.2.2.1
      refine GO.if_ne (tgt := 87) dX12_readsCompared_82 (by decide) r186 (fun c194 => ?_) (fun c194 => ?_)
      ·
        have q195 := h187.2.1 (by omega)
        have ts1 := raw_readsSum.1 (by omega)
        have ts2 := raw_readsSum.2 (by omega)
        have hrd2 := (hW190).rd h_x
        have ht2 := ts1.le
        have hlw : vi V189 x 37 = vi V x 37 ∧ ∀ j, j < (vi V x 37).toNat → wt V189 x j = wt V x j := ⟨by omega, fun j hj => (ts2.2 j (by omega)).trans ((congrFun hq2 j).trans (rs2.2 j hj))⟩
        refine GO.aload_n dX12_readsCompared_87 rfl rfl ?_
        refine GO.iload_n dX12_readsCompared_88 rfl rfl ?_
        refine GO.iconst dX12_readsCompared_89 ?_
        refine GO.callV (ci := 11) (N := mX12_says) dX12_readsCompared_90 (RX12, TX12, 151) rfl gV_RX12_479 h_x (t_X12_says h_x (ir_c rfl) (ir_c rfl) (by omega) (by omega) (by omega) (by omega) ⟨by omega, by omega⟩) rfl [] rfl rfl (Nat.le_of_ble_eq_true rfl) rfl (k_vs fun V200 h199 hF198 => ?_)
        refine GO.useWT (fun hW201 => ?_)
        have aq202 := hW201.aq h_x
        have raw_says := h199.2
        have rw90 := h199.2
        have e204 : vi V200 x 31 = vi V189 x 31 := vi_fr hF198 h_x h_x (by decide +kernel)
        have e205 : vi V200 x 37 = vi V189 x 37 := vi_fr hF198 h_x h_x (by decide +kernel)
        have e206 : vi V200 x 35 = vi V189 x 35 := vi_fr hF198 h_x h_x (by decide +kernel)
        refine GO.aload_n dX12_readsCompared_93 rfl rfl ?_
        refine GO.callV (ci := 11) (N := mX12_endsPiece) dX12_readsCompared_94 (RX12, TX12, 151) rfl gV_RX12_508 h_x (t_X12_endsPiece h_x (RJ.zz (RJ.cmp ts1 (by omega) (by omega) (upd_eq ((rfl : sd V200 x = sd V200 x)) raw_says.1 ((rfl : sd V189 x = sd V189 x)) (by omega)) (((rfl : wt V200 x = wt V200 x)).trans (raw_says.2.trans ((rfl : wt V189 x = wt V189 x)))) (by omega) (by omega) (by omega) (by omega) (by omega) rfl) rfl) (by omega) (NS.sq hns2 ts2 (((rfl : wt V200 x = wt V200 x)).trans (raw_says.2.trans ((rfl : wt V189 x = wt V189 x)))) (by omega)) (by omega)) rfl [] rfl rfl (Nat.le_of_ble_eq_true rfl) rfl (k_vs fun V209 h208 hF207 => ?_)
        refine GO.useWT (fun hW210 => ?_)
        have aq211 := hW210.aq h_x
        have raw_endsPiece := h208.2.1
        have rq0_94 := h208.2.2.1
        have rq1_94 := h208.2.2.2
        have rw94 := h208.2.1
        have e212 : vi V209 x 31 = vi V200 x 31 := vi_fr hF207 h_x h_x (by decide +kernel)
        refine GO.iconst dX12_readsCompared_97 ?_
        have q215 : -2147483648 ≤ vi V189 x 31 ∧ vi V189 x 31 ≤ 2147483647 := vi_ir
        have q216 : -2147483648 ≤ vi V189 x 37 ∧ vi V189 x 37 ≤ 2147483647 := vi_ir
        have q217 : -2147483648 ≤ vi V209 x 37 ∧ vi V209 x 37 ≤ 2147483647 := vi_ir
        have q218 : -2147483648 ≤ vi V209 x 36 ∧ vi V209 x 36 ≤ 2147483647 := vi_ir
        exact GO.retz rfl rfl dX12_readsCompared_98 (Or.inr rfl) ⟨rfl, _, rfl, (ir_c rfl), ⟨Or.inr rfl, fun h => by omega, fun _ => trivial, ⟨(by first | exact fun h => absurd h (by decide) | exact fun _ => raw_endsPiece.1), (by first | exact fun h => absurd h (by decide) | exact fun _ => raw_endsPiece.2)⟩, (by first | exact CMK.ok hc2 hTp2 (fun _ => ⟨hns2, by omega⟩) rq0_79 (by omega) (by omega) raw_says.1 raw_says.2 (by omega) (by omega) (by omega) (by omega) (by omega) hlw rq0_94 raw_endsPiece.2 (by omega) rq1_94 | exact CMK.e3 hc2 hTp2 (fun _ => ⟨hns2, by omega⟩) rq0_79 (by omega) rfl | exact CMK.e2 hc1 hTp1 (by omega) (by omega) (by omega) (by omega) | exact CMK.e1 rq0_1 (by omega) rfl rfl)⟩⟩
      ·
        refine GO.iconst dX12_readsCompared_85 ?_
        have q223 : -2147483648 ≤ vi V189 x 31 ∧ vi V189 x 31 ≤ 2147483647 := vi_ir
        have q225 : -2147483648 ≤ vi V189 x 36 ∧ vi V189 x 36 ≤ 2147483647 := vi_ir
        have q226 : -2147483648 ≤ vi V189 x 37 ∧ vi V189 x 37 ≤ 2147483647 := vi_ir
        exact GO.retz rfl rfl dX12_readsCompared_86 (Or.inl rfl) ⟨rfl, _, rfl, (ir_c rfl), ⟨Or.inl rfl, fun h => absurd rfl h, fun _ => trivial, ⟨(by first | exact fun h => absurd rfl h), (by first | exact fun h => absurd rfl h)⟩, (by first | exact CMK.e3 hc2 hTp2 (fun _ => ⟨hns2, by omega⟩) rq0_79 (by omega) rfl | exact CMK.e2 hc1 hTp1 (by omega) (by omega) (by omega) (by omega) | exact CMK.e1 rq0_1 (by omega) rfl rfl)⟩⟩
  ·
    refine GO.iconst dX12_readsCompared_7 ?_
    have q229 : -2147483648 ≤ vi V10 x 31 ∧ vi V10 x 31 ≤ 2147483647 := vi_ir
    have q231 : -2147483648 ≤ vi V10 x 36 ∧ vi V10 x 36 ≤ 2147483647 := vi_ir
    have q232 : -2147483648 ≤ vi V10 x 37 ∧ vi V10 x 37 ≤ 2147483647 := vi_ir
    exact GO.retz rfl rfl dX12_readsCompared_8 (Or.inl rfl) ⟨rfl, _, rfl, (ir_c rfl), ⟨Or.inl rfl, fun h => absurd rfl h, fun _ => trivial, ⟨(by first | exact fun h => absurd rfl h), (by first | exact fun h => absurd rfl h)⟩, (by first | exact CMK.e1 rq0_1 (by omega) rfl rfl)⟩⟩

set_option maxHeartbeats 1000000 in
theorem t_X12_readsCondition {K : Kmap} {V : Vmap} {x : Nat} {fr : Nat} {S0 : Nat → Int} (h_x : K x = some (0, 11)) (q_0 : vi V x 36 ≤ vi V x 31) (w_0 : SB V x fr S0) : MC mX12_readsCondition K V [.ref x] (IS K (fun X V1 => (X = 0 ∨ X = 1) ∧ (X ≠ 0 → vi V1 x 31 ≥ (vi V x 31 + 1)) ∧ (X = 0 → True) ∧ ((X ≠ 0 → RF V1 x fr S0)) ∧ (CND V V1 x X))) := by
  refine MC.start 0 (by decide +kernel) rfl rfl rfl (ls0 := [some (.ref x)]) rfl ?_
  refine GO.useWT (fun hW1 => ?_)
  have aq2 := hW1.aq h_x
  refine GO.useWT (fun hW_0 => ?_)
  have hrd := (hW1).rd h_x
  refine GO.aload_n dX12_readsCondition_0 rfl rfl ?_
  refine GO.iconst dX12_readsCondition_1 ?_
  refine GO.putI h_x fp_RX12_470 rfl (by decide +kernel) (ir_c rfl) (by decide) (by decide) dX12_readsCondition_2 (fun V4 e3 => ?_)
  have k5 := st_fld e3 aq2 h_x (by decide) (by decide)
  have sS6 : sd V4 x = sd V x := k5.2.1.trans (rfl : sd V x = sd V x)
  have sQ7 : wt V4 x = wt V x := k5.2.2.trans (rfl : wt V x = wt V x)
  refine GO.aload_n dX12_readsCondition_5 rfl rfl ?_
  refine GO.iconst dX12_readsCondition_6 ?_
  refine GO.putI h_x fp_RX12_473 rfl (by decide +kernel) (ir_c rfl) (by decide) (by decide) dX12_readsCondition_7 (fun V9 e8 => ?_)
  have k10 := st_fld e8 k5.1 h_x (by decide) (by decide)
  have sS11 : sd V9 x = sd V x := k10.2.1.trans sS6
  have sQ12 : wt V9 x = wt V x := k10.2.2.trans sQ7
  have e14 : vi V4 x 31 = vi V x 31 := vi_up e3 (Or.inr (by decide))
  have e13 : vi V9 x 31 = vi V4 x 31 := vi_up e8 (Or.inr (by decide))
  have e16 : vi V4 x 36 = vi V x 36 := vi_up e3 (Or.inr (by decide))
  have e15 : vi V9 x 36 = vi V4 x 36 := vi_up e8 (Or.inr (by decide))
  have e17 : vi V9 x 37 = 0 := upd2_int e8 (ir_c rfl)
  have e19 : vi V4 x 35 = 0 := upd2_int e3 (ir_c rfl)
  have e18 : vi V9 x 35 = vi V4 x 35 := vi_up e8 (Or.inr (by decide))
  have hb := RJ.beg (by assumption) (sS11) (by omega) (by omega) (by omega) (by omega) (by omega)
  refine GO.useFR (fun hFs => ?_)
  have hTa : ∀ src e, TP V x src e → TP V9 x src e := fun src e h => TP.fr h hFs hW_0 h_x (by decide +kernel) (by decide +kernel) (by decide +kernel)
  have hs0 := sS11
  refine GO.aload_n dX12_readsCondition_10 rfl rfl ?_
  refine GO.callV (ci := 11) (N := mX12_sign) dX12_readsCondition_11 (RX12, TX12, 151) rfl gV_RX12_449 h_x (t_X12_sign h_x) rfl [] rfl rfl (Nat.le_of_ble_eq_true rfl) rfl (k_ip fun X20 r21 h22 => ?_)
  have e24 : vi V4 x 32 = vi V x 32 := vi_up e3 (Or.inr (by decide))
  have e23 : vi V9 x 32 = vi V4 x 32 := vi_up e8 (Or.inr (by decide))
  refine GO.bipush dX12_readsCondition_14 rfl ?_
  refine GO.icmp_eq (tgt := 29) dX12_readsCondition_16 (by decide) r21 (ir_c rfl) (fun c25 => ?_) (fun c25 => ?_)
  ·
    refine GO.aload_n dX12_readsCondition_29 rfl rfl ?_
    refine GO.bipush dX12_readsCondition_30 rfl ?_
    have q26 : -2147483648 ≤ vi V x 31 ∧ vi V x 31 ≤ 2147483647 := vi_ir
    have q27 : -2147483648 ≤ vi V x 36 ∧ vi V x 36 ≤ 2147483647 := vi_ir
    have q28 : -2147483648 ≤ vi V x 32 ∧ vi V x 32 ≤ 2147483647 := vi_ir
    refine GO.callV (ci := 11) (N := mX12_opens) dX12_readsCondition_32 (RX12, TX12, 151) rfl gV_RX12_482 h_x (t_X12_opens h_x (ir_c rfl) (by omega) (by omega) (by omega) ⟨by omega, by omega⟩) rfl [] rfl rfl (Nat.le_of_ble_eq_true rfl) rfl (k_is fun X29 V33 r30 h31 hF32 => ?_)
    refine GO.useWT (fun hW34 => ?_)
    have aq35 := hW34.aq h_x
    have raw_opens := h31.2.2.2.1
    have rq0_32 := h31.2.2.2.2
    have rw32 := h31.2.2.2.1
    refine GO.if_ne (tgt := 40) dX12_readsCondition_35 (by decide) r30 (fun c38 => ?_) (fun c38 => ?_)
    ·
      have q39 := h31.2.1 (by omega)
      have q40 : -2147483648 ≤ vi V33 x 31 ∧ vi V33 x 31 ≤ 2147483647 := vi_ir
      have q41 : -2147483648 ≤ vi V33 x 37 ∧ vi V33 x 37 ≤ 2147483647 := vi_ir
      have e42 : vi V33 x 36 = vi V9 x 36 := vi_fr hF32 h_x h_x (by decide +kernel)
      have e43 : vi V33 x 32 = vi V9 x 32 := vi_fr hF32 h_x h_x (by decide +kernel)
      have q45 : -2147483648 ≤ vi V33 x 35 ∧ vi V33 x 35 ≤ 2147483647 := vi_ir
      refine GO.loop0 (fun  W => (vi W x 31 ≥ (vi V x 31 + 1) ∧ vi W x 37 ≥ 1 ∧ vi W x 36 ≥ 0 ∧ vi W x 32 = vi V x 32 ∧ vi W x 35 ≥ (-2147483648)) ∧ (RJ W x fr S0 0 0) ∧ (NS W x) ∧ (CDI V W x) ∧ True) (fun  W => ((vi W x 32 - vi W x 31)).toNat)  ⟨by omega, (by first | exact RJ.pushO hb.1 (Or.inr (Or.inl rfl)) (fun _ => rfl) (((rfl : sd V33 x = sd V33 x)).trans (raw_opens (by omega)).1) (((rfl : wt V33 x = wt V33 x)).trans (raw_opens (by omega)).2) (by omega) (by omega) (by omega) | exact RJ.pushO (by assumption) (by omega) (fun _ => by omega) (((rfl : sd V33 x = sd V33 x)).trans (raw_opens (by omega)).1) (((rfl : wt V33 x = wt V33 x)).trans (raw_opens (by omega)).2) (by omega) (by omega) (by omega)), (by first | exact NS.push0 hb.2 (by omega) (((rfl : wt V33 x = wt V33 x)).trans (raw_opens (by omega)).2) (by omega) (by omega) | exact NS.push0 (by assumption) (by omega) (((rfl : wt V33 x = wt V33 x)).trans (raw_opens (by omega)).2) (by omega) (by omega)), (by first | exact CDI.beg hTa (by omega) (by omega) (by omega) (by omega) hs0 (by omega) (by omega) (((rfl : sd V33 x = sd V33 x)).trans (raw_opens (by omega)).1) (((rfl : wt V33 x = wt V33 x)).trans (raw_opens (by omega)).2) (by omega) (by omega) (by omega) (rq0_32.1 (by omega)).1), trivial⟩ (fun W478 hp480 ih479 => ?_)
      obtain ⟨n_W478, w0_W478, w1_W478, hcd, -⟩ := hp480
      show GO mX12_readsCondition K V (IS K (fun X V1 => (X = 0 ∨ X = 1) ∧ (X ≠ 0 → vi V1 x 31 ≥ (vi V x 31 + 1)) ∧ (X = 0 → True) ∧ ((X ≠ 0 → RF V1 x fr S0)) ∧ (CND V V1 x X))) K W478 0 0 40 [some (.ref x)] []
      refine GO.useWT (fun hW481 => ?_)
      have aq482 := hW481.aq h_x
      have hrd := (hW481).rd h_x
      have hle := RJ.le (V := W478) (x := x) (fr := fr) (S0 := S0) (s := 0) (z := 0) (by assumption)
      refine GO.useFR (fun hFs => ?_)
      have hTp : ∀ src e, TP V x src e → TP W478 x src e := fun src e h => TP.fr h hFs hW_0 h_x (by decide +kernel) (by decide +kernel) (by decide +kernel)
      refine GO.aload_n dX12_readsCondition_40 rfl rfl ?_
      refine GO.callV (ci := 11) (N := mX12_sign) dX12_readsCondition_41 (RX12, TX12, 151) rfl gV_RX12_449 h_x (t_X12_sign h_x) rfl [] rfl rfl (Nat.le_of_ble_eq_true rfl) rfl (k_ip fun X483 r484 h485 => ?_)
      refine GO.bipush dX12_readsCondition_44 rfl ?_
      refine GO.icmp_eq (tgt := 58) dX12_readsCondition_46 (by decide) r484 (ir_c rfl) (fun c486 => ?_) (fun c486 => ?_)
      ·
        refine GO.aload_n dX12_readsCondition_58 rfl rfl ?_
        refine GO.aload_n dX12_readsCondition_59 rfl rfl ?_
        refine GO.callV (ci := 11) (N := mX12_sign) dX12_readsCondition_60 (RX12, TX12, 151) rfl gV_RX12_449 h_x (t_X12_sign h_x) rfl [.ref x] rfl rfl (Nat.le_of_ble_eq_true rfl) rfl (k_ip fun X487 r488 h489 => ?_)
        refine GO.bipush dX12_readsCondition_63 rfl ?_
        refine GO.icmp_ne (tgt := 73) dX12_readsCondition_65 (by decide) r488 (ir_c rfl) (fun h => by exfalso; omega) (fun c490 => ?_)
        refine GO.bipush dX12_readsCondition_68 rfl ?_
        refine GO.goto (tgt := 75) dX12_readsCondition_70 (by decide) ?_
        have q491 : -2147483648 ≤ vi W478 x 32 ∧ vi W478 x 32 ≤ 2147483647 := vi_ir
        have q492 : -2147483648 ≤ vi W478 x 31 ∧ vi W478 x 31 ≤ 2147483647 := vi_ir
        have q493 : -2147483648 ≤ vi W478 x 37 ∧ vi W478 x 37 ≤ 2147483647 := vi_ir
        have q494 : -2147483648 ≤ vi W478 x 36 ∧ vi W478 x 36 ≤ 2147483647 := vi_ir
        refine GO.callV (ci := 11) (N := mX12_opens) dX12_readsCondition_75 (RX12, TX12, 151) rfl gV_RX12_482 h_x (t_X12_opens h_x (ir_c rfl) (by omega) (by omega) (by omega) ⟨by omega, by omega⟩) rfl [] rfl rfl (Nat.le_of_ble_eq_true rfl) rfl (k_is fun X495 V499 r496 h497 hF498 => ?_)
        refine GO.useWT (fun hW500 => ?_)
        have aq501 := hW500.aq h_x
        have raw_opens := h497.2.2.2.1
        have rq0_75 := h497.2.2.2.2
        have rw75 := h497.2.2.2.1
        refine GO.if_ne (tgt := 40) dX12_readsCondition_78 (by decide) r496 (fun c504 => ?_) (fun c504 => ?_)
        ·
          have q505 := h497.2.1 (by omega)
          have q506 : -2147483648 ≤ vi V499 x 31 ∧ vi V499 x 31 ≤ 2147483647 := vi_ir
          have q507 : -2147483648 ≤ vi V499 x 37 ∧ vi V499 x 37 ≤ 2147483647 := vi_ir
          have e508 : vi V499 x 36 = vi W478 x 36 := vi_fr hF498 h_x h_x (by decide +kernel)
          have e509 : vi V499 x 32 = vi W478 x 32 := vi_fr hF498 h_x h_x (by decide +kernel)
          have q511 : -2147483648 ≤ vi V499 x 35 ∧ vi V499 x 35 ≤ 2147483647 := vi_ir
          exact ih479  V499 ⟨by omega, (by first | exact RJ.pushO hb.1 (Or.inr (Or.inl rfl)) (fun _ => rfl) (((rfl : sd V499 x = sd V499 x)).trans (raw_opens (by omega)).1) (((rfl : wt V499 x = wt V499 x)).trans (raw_opens (by omega)).2) (by omega) (by omega) (by omega) | exact RJ.pushO (by assumption) (by omega) (fun _ => by omega) (((rfl : sd V499 x = sd V499 x)).trans (raw_opens (by omega)).1) (((rfl : wt V499 x = wt V499 x)).trans (raw_opens (by omega)).2) (by omega) (by omega) (by omega)), (by first | exact NS.push0 hb.2 (by omega) (((rfl : wt V499 x = wt V499 x)).trans (raw_opens (by omega)).2) (by omega) (by omega) | exact NS.push0 (by assumption) (by omega) (((rfl : wt V499 x = wt V499 x)).trans (raw_opens (by omega)).2) (by omega) (by omega)), (by first | exact CDI.opn hcd hTp (by omega) (by omega) (by omega) (((rfl : sd V499 x = sd V499 x)).trans (raw_opens (by omega)).1) (((rfl : wt V499 x = wt V499 x)).trans (raw_opens (by omega)).2) (by omega) (by omega) (by omega) (rq0_75.1 (by omega)).1 (rq0_75.1 (by omega)).2 | exact CDI.beg hTa (by omega) (by omega) (by omega) (by omega) hs0 (by omega) (by omega) (((rfl : sd V499 x = sd V499 x)).trans (raw_opens (by omega)).1) (((rfl : wt V499 x = wt V499 x)).trans (raw_opens (by omega)).2) (by omega) (by omega) (by omega) (rq0_32.1 (by omega)).1), trivial⟩ (by show ((vi V499 x 32 - vi V499 x 31)).toNat < ((vi W478 x 32 - vi W478 x 31)).toNat; omega)
        ·
          refine GO.iconst dX12_readsCondition_81 ?_
          have q512 : -2147483648 ≤ vi V499 x 31 ∧ vi V499 x 31 ≤ 2147483647 := vi_ir
          exact GO.retz rfl rfl dX12_readsCondition_82 (Or.inl rfl) ⟨rfl, _, rfl, (ir_c rfl), ⟨Or.inl rfl, fun h => absurd rfl h, fun _ => trivial, (by first | exact fun h => absurd rfl h), (by first | exact CND.e5 hcd hTp (by omega) (by omega) (rq0_75.2 (by omega)).1 rfl (rq0_75.2 (by omega)).2 | (exfalso; have h9 := (rq0_32.2 (by omega)).1; omega) | exact CND.e1 hTa (by omega) (by omega) (by omega) (by omega) (by omega))⟩⟩
      ·
        refine GO.aload_n dX12_readsCondition_49 rfl rfl ?_
        refine GO.callV (ci := 11) (N := mX12_sign) dX12_readsCondition_50 (RX12, TX12, 151) rfl gV_RX12_449 h_x (t_X12_sign h_x) rfl [] rfl rfl (Nat.le_of_ble_eq_true rfl) rfl (k_ip fun X514 r515 h516 => ?_)
        refine GO.bipush dX12_readsCondition_53 rfl ?_
        refine GO.icmp_ne (tgt := 83) dX12_readsCondition_55 (by decide) r515 (ir_c rfl) (fun c517 => ?_) (fun c517 => ?_)
        ·
          refine GO.aload_n dX12_readsCondition_83 rfl rfl ?_
          have q518 : -2147483648 ≤ vi W478 x 37 ∧ vi W478 x 37 ≤ 2147483647 := vi_ir
          have q519 : -2147483648 ≤ vi W478 x 31 ∧ vi W478 x 31 ≤ 2147483647 := vi_ir
          have q520 : -2147483648 ≤ vi W478 x 36 ∧ vi W478 x 36 ≤ 2147483647 := vi_ir
          have q521 : -2147483648 ≤ vi W478 x 32 ∧ vi W478 x 32 ≤ 2147483647 := vi_ir
          refine GO.callV (ci := 11) (N := mX12_readsCompared) dX12_readsCondition_84 (RX12, TX12, 151) rfl gV_RX12_511 h_x (t_X12_readsCompared h_x (by omega) (by assumption) (by assumption)) rfl [] rfl rfl (Nat.le_of_ble_eq_true rfl) rfl (k_is fun X522 V526 r523 h524 hF525 => ?_)
          refine GO.useWT (fun hW527 => ?_)
          have aq528 := hW527.aq h_x
          have raw_readsCompared := h524.2.2.2.1
          have rq0_84 := h524.2.2.2.2
          have rw84 := h524.2.2.2.1
          refine GO.if_ne (tgt := 92) dX12_readsCondition_87 (by decide) r523 (fun c532 => ?_) (fun c532 => ?_)
          ·
            have q533 := h524.2.1 (by omega)
            have q534 : -2147483648 ≤ vi V526 x 31 ∧ vi V526 x 31 ≤ 2147483647 := vi_ir
            have q535 : -2147483648 ≤ vi V526 x 37 ∧ vi V526 x 37 ≤ 2147483647 := vi_ir
            have q536 : -2147483648 ≤ vi V526 x 36 ∧ vi V526 x 36 ≤ 2147483647 := vi_ir
            have e537 : vi V526 x 32 = vi W478 x 32 := vi_fr hF525 h_x h_x (by decide +kernel)
            have q539 : -2147483648 ≤ vi V526 x 35 ∧ vi V526 x 35 ≤ 2147483647 := vi_ir
            refine GO.loop0 (fun  W => (vi W x 31 ≥ (vi V x 31 + 1) ∧ vi W x 37 ≥ 1 ∧ vi W x 36 ≥ 0 ∧ vi W x 31 ≥ (vi W478 x 31 + 1) ∧ vi W x 32 = vi V x 32 ∧ vi W x 35 ≥ (-2147483648)) ∧ (RJ W x fr S0 0 1) ∧ (NS W x) ∧ (CEI V W x) ∧ True) (fun  W => ((vi W x 32 - vi W x 31)).toNat)  ⟨by omega, (by first | exact raw_readsCompared.1 (by omega)), (by first | exact NS.push0 hb.2 (by omega) (((rfl : wt V526 x = wt V526 x)).trans (raw_opens (by omega)).2) (by omega) (by omega) | exact NS.push0 (by assumption) (by omega) (((rfl : wt V526 x = wt V526 x)).trans (raw_opens (by omega)).2) (by omega) (by omega) | exact raw_readsCompared.2 (by omega)), (by first | exact CEI.cmp hcd hTp (by omega) (by omega) rq0_84 (by omega)), trivial⟩ (fun W706 hp708 ih707 => ?_)
            obtain ⟨n_W706, w0_W706, w1_W706, hce, -⟩ := hp708
            show GO mX12_readsCondition K V (IS K (fun X V1 => (X = 0 ∨ X = 1) ∧ (X ≠ 0 → vi V1 x 31 ≥ (vi V x 31 + 1)) ∧ (X = 0 → True) ∧ ((X ≠ 0 → RF V1 x fr S0)) ∧ (CND V V1 x X))) K W706 0 0 92 [some (.ref x)] []
            refine GO.useWT (fun hW709 => ?_)
            have aq710 := hW709.aq h_x
            have hrd := (hW709).rd h_x
            have hle := RJ.le (V := W706) (x := x) (fr := fr) (S0 := S0) (s := 0) (z := 1) (by assumption)
            refine GO.useFR (fun hFs => ?_)
            have hTq : ∀ src e, TP V x src e → TP W706 x src e := fun src e h => TP.fr h hFs hW_0 h_x (by decide +kernel) (by decide +kernel) (by decide +kernel)
            refine GO.useWT (fun hWq => ?_)
            refine GO.aload_n dX12_readsCondition_92 rfl rfl ?_
            refine GO.callV (ci := 11) (N := mX12_sign) dX12_readsCondition_93 (RX12, TX12, 151) rfl gV_RX12_449 h_x (t_X12_sign h_x) rfl [] rfl rfl (Nat.le_of_ble_eq_true rfl) rfl (k_ip fun X711 r712 h713 => ?_)
            refine GO.bipush dX12_readsCondition_96 rfl ?_
            refine GO.icmp_ne (tgt := 152) dX12_readsCondition_98 (by decide) r712 (ir_c rfl) (fun c714 => ?_) (fun c714 => ?_)
            ·
              refine GO.aload_n dX12_readsCondition_152 rfl rfl ?_
              refine GO.callV (ci := 11) (N := mX12_sign) dX12_readsCondition_153 (RX12, TX12, 151) rfl gV_RX12_449 h_x (t_X12_sign h_x) rfl [] rfl rfl (Nat.le_of_ble_eq_true rfl) rfl (k_ip fun X715 r716 h717 => ?_)
              refine GO.bipush dX12_readsCondition_156 rfl ?_
              refine GO.icmp_eq (tgt := 180) dX12_readsCondition_158 (by decide) r716 (ir_c rfl) (fun c718 => ?_) (fun c718 => ?_)
              ·
                refine GO.aload_n dX12_readsCondition_180 rfl rfl ?_
                refine GO.aload_n dX12_readsCondition_181 rfl rfl ?_
                refine GO.callV (ci := 11) (N := mX12_sign) dX12_readsCondition_182 (RX12, TX12, 151) rfl gV_RX12_449 h_x (t_X12_sign h_x) rfl [.ref x] rfl rfl (Nat.le_of_ble_eq_true rfl) rfl (k_ip fun X719 r720 h721 => ?_)
                refine GO.bipush dX12_readsCondition_185 rfl ?_
                refine GO.icmp_ne (tgt := 194) dX12_readsCondition_187 (by decide) r720 (ir_c rfl) (fun c722 => ?_) (fun h => by exfalso; omega)
                refine GO.iconst dX12_readsCondition_194 ?_
                refine GO.callV (ci := 11) (N := mX12_lands) dX12_readsCondition_195 (RX12, TX12, 151) rfl gV_RX12_514 h_x (t_X12_lands h_x (ir_c rfl) (by omega) (by assumption) (rfl) (by assumption) (by omega)) rfl [] rfl rfl (Nat.le_of_ble_eq_true rfl) rfl (k_vs fun V725 h724 hF723 => ?_)
                refine GO.useWT (fun hW726 => ?_)
                have aq727 := hW726.aq h_x
                have raw_lands := h724.2.1
                have rq0_195 := h724.2.2.1
                have rq1_195 := h724.2.2.2
                have rw195 := h724.2.1
                have e728 : vi V725 x 31 = vi W706 x 31 := vi_fr hF723 h_x h_x (by decide +kernel)
                have e730 : vi V725 x 35 = vi W706 x 35 := vi_fr hF723 h_x h_x (by decide +kernel)
                have e731 : vi V725 x 36 = vi W706 x 36 := vi_fr hF723 h_x h_x (by decide +kernel)
                have hsv := sgn_fr (V1 := V725) (by assumption) hWq h_x (by decide +kernel) (by decide +kernel) (by decide +kernel) (by decide +kernel)
                refine GO.aload_n dX12_readsCondition_198 rfl rfl ?_
                refine GO.aload_n dX12_readsCondition_199 rfl rfl ?_
                refine GO.callV (ci := 11) (N := mX12_sign) dX12_readsCondition_200 (RX12, TX12, 151) rfl gV_RX12_449 h_x (t_X12_sign h_x) rfl [.ref x] rfl rfl (Nat.le_of_ble_eq_true rfl) rfl (k_ip fun X732 r733 h734 => ?_)
                have e735 : vi V725 x 32 = vi W706 x 32 := vi_fr hF723 h_x h_x (by decide +kernel)
                refine GO.bipush dX12_readsCondition_203 rfl ?_
                refine GO.icmp_ne (tgt := 213) dX12_readsCondition_205 (by decide) r733 (ir_c rfl) (fun c736 => ?_) (fun c736 => ?_)
                ·
                  refine GO.bipush dX12_readsCondition_213 rfl ?_
                  have q737 : -2147483648 ≤ vi W706 x 32 ∧ vi W706 x 32 ≤ 2147483647 := vi_ir
                  have q738 : -2147483648 ≤ vi W706 x 31 ∧ vi W706 x 31 ≤ 2147483647 := vi_ir
                  have q739 : -2147483648 ≤ vi W706 x 37 ∧ vi W706 x 37 ≤ 2147483647 := vi_ir
                  have q740 : -2147483648 ≤ vi V725 x 37 ∧ vi V725 x 37 ≤ 2147483647 := vi_ir
                  have q741 : -2147483648 ≤ vi W706 x 36 ∧ vi W706 x 36 ≤ 2147483647 := vi_ir
                  refine GO.callV (ci := 11) (N := mX12_jumps) dX12_readsCondition_215 (RX12, TX12, 151) rfl gV_RX12_517 h_x (t_X12_jumps h_x (ir_c rfl) (by omega) (by omega) (by omega) (raw_lands.1) (rfl) (raw_lands.2.1) (by omega)) rfl [] rfl rfl (Nat.le_of_ble_eq_true rfl) rfl (k_vs fun V744 h743 hF742 => ?_)
                  refine GO.useWT (fun hW745 => ?_)
                  have aq746 := hW745.aq h_x
                  have raw_jumps := h743.2.1
                  have rq0_215 := h743.2.2.1
                  have rq1_215 := h743.2.2.2
                  have rw215 := h743.2.1
                  refine GO.goto (tgt := 40) dX12_readsCondition_218 (by decide) ?_
                  have q750 : -2147483648 ≤ vi V744 x 31 ∧ vi V744 x 31 ≤ 2147483647 := vi_ir
                  have q751 : -2147483648 ≤ vi V744 x 37 ∧ vi V744 x 37 ≤ 2147483647 := vi_ir
                  have q752 : -2147483648 ≤ vi V744 x 36 ∧ vi V744 x 36 ≤ 2147483647 := vi_ir
                  have e753 : vi V744 x 32 = vi V725 x 32 := vi_fr hF742 h_x h_x (by decide +kernel)
                  have e754 : vi V744 x 35 = vi V725 x 35 := vi_fr hF742 h_x h_x (by decide +kernel)
                  have q755 : -2147483648 ≤ vi W706 x 35 ∧ vi W706 x 35 ≤ 2147483647 := vi_ir
                  exact ih479  V744 ⟨by omega, (by first | exact RJ.pushO hb.1 (Or.inr (Or.inl rfl)) (fun _ => rfl) (((rfl : sd V744 x = sd V744 x)).trans (raw_opens (by omega)).1) (((rfl : wt V744 x = wt V744 x)).trans (raw_opens (by omega)).2) (by omega) (by omega) (by omega) | exact RJ.zz raw_jumps.1 (by omega) | exact RJ.pushO (by assumption) (by omega) (fun _ => by omega) (((rfl : sd V744 x = sd V744 x)).trans (raw_opens (by omega)).1) (((rfl : wt V744 x = wt V744 x)).trans (raw_opens (by omega)).2) (by omega) (by omega) (by omega)), (by first | exact NS.push0 hb.2 (by omega) (((rfl : wt V744 x = wt V744 x)).trans (raw_opens (by omega)).2) (by omega) (by omega) | exact raw_jumps.2 | exact NS.push0 (by assumption) (by omega) (((rfl : wt V744 x = wt V744 x)).trans (raw_opens (by omega)).2) (by omega) (by omega) | exact raw_readsCompared.2 (by omega)), (by first | exact CDI.jmp hce hTq (by omega) (by omega) rq0_195 (by omega) (by omega) rq1_195 raw_lands.2.2 (by omega) raw_jumps.2 (by omega) rq0_215 rq1_215 (by omega) (by omega) (by omega) (by omega) | exact CDI.beg hTa (by omega) (by omega) (by omega) (by omega) hs0 (by omega) (by omega) (((rfl : sd V744 x = sd V744 x)).trans (raw_opens (by omega)).1) (((rfl : wt V744 x = wt V744 x)).trans (raw_opens (by omega)).2) (by omega) (by omega) (by omega) (rq0_32.1 (by omega)).1), trivial⟩ (by show ((vi V744 x 32 - vi V744 x 31)).toNat < ((vi W478 x 32 - vi W478 x 31)).toNat; omega)
                ·
                  refine GO.bipush dX12_readsCondition_208 rfl ?_
                  refine GO.goto (tgt := 215) dX12_readsCondition_210 (by decide) ?_
                  have q756 : -2147483648 ≤ vi W706 x 31 ∧ vi W706 x 31 ≤ 2147483647 := vi_ir
                  have q757 : -2147483648 ≤ vi W706 x 32 ∧ vi W706 x 32 ≤ 2147483647 := vi_ir
                  have q758 : -2147483648 ≤ vi W706 x 37 ∧ vi W706 x 37 ≤ 2147483647 := vi_ir
                  have q759 : -2147483648 ≤ vi V725 x 37 ∧ vi V725 x 37 ≤ 2147483647 := vi_ir
                  have q760 : -2147483648 ≤ vi W706 x 36 ∧ vi W706 x 36 ≤ 2147483647 := vi_ir
                  refine GO.callV (ci := 11) (N := mX12_jumps) dX12_readsCondition_215 (RX12, TX12, 151) rfl gV_RX12_517 h_x (t_X12_jumps h_x (ir_c rfl) (by omega) (by omega) (by omega) (raw_lands.1) (rfl) (raw_lands.2.1) (by omega)) rfl [] rfl rfl (Nat.le_of_ble_eq_true rfl) rfl (k_vs fun V763 h762 hF761 => ?_)
                  refine GO.useWT (fun hW764 => ?_)
                  have aq765 := hW764.aq h_x
                  have raw_jumps := h762.2.1
                  have rq0_215 := h762.2.2.1
                  have rq1_215 := h762.2.2.2
                  have rw215 := h762.2.1
                  refine GO.goto (tgt := 40) dX12_readsCondition_218 (by decide) ?_
                  have q769 : -2147483648 ≤ vi V763 x 31 ∧ vi V763 x 31 ≤ 2147483647 := vi_ir
                  have q770 : -2147483648 ≤ vi V763 x 37 ∧ vi V763 x 37 ≤ 2147483647 := vi_ir
                  have q771 : -2147483648 ≤ vi V763 x 36 ∧ vi V763 x 36 ≤ 2147483647 := vi_ir
                  have e772 : vi V763 x 32 = vi V725 x 32 := vi_fr hF761 h_x h_x (by decide +kernel)
                  have e773 : vi V763 x 35 = vi V725 x 35 := vi_fr hF761 h_x h_x (by decide +kernel)
                  have q774 : -2147483648 ≤ vi W706 x 35 ∧ vi W706 x 35 ≤ 2147483647 := vi_ir
                  exact ih479  V763 ⟨by omega, (by first | exact RJ.pushO hb.1 (Or.inr (Or.inl rfl)) (fun _ => rfl) (((rfl : sd V763 x = sd V763 x)).trans (raw_opens (by omega)).1) (((rfl : wt V763 x = wt V763 x)).trans (raw_opens (by omega)).2) (by omega) (by omega) (by omega) | exact RJ.zz raw_jumps.1 (by omega) | exact RJ.pushO (by assumption) (by omega) (fun _ => by omega) (((rfl : sd V763 x = sd V763 x)).trans (raw_opens (by omega)).1) (((rfl : wt V763 x = wt V763 x)).trans (raw_opens (by omega)).2) (by omega) (by omega) (by omega)), (by first | exact NS.push0 hb.2 (by omega) (((rfl : wt V763 x = wt V763 x)).trans (raw_opens (by omega)).2) (by omega) (by omega) | exact raw_jumps.2 | exact NS.push0 (by assumption) (by omega) (((rfl : wt V763 x = wt V763 x)).trans (raw_opens (by omega)).2) (by omega) (by omega) | exact raw_readsCompared.2 (by omega)), (by first | exact CDI.jmp hce hTq (by omega) (by omega) rq0_195 (by omega) (by omega) rq1_195 raw_lands.2.2 (by omega) raw_jumps.2 (by omega) rq0_215 rq1_215 (by omega) (by omega) (by omega) (by omega) | exact CDI.beg hTa (by omega) (by omega) (by omega) (by omega) hs0 (by omega) (by omega) (((rfl : sd V763 x = sd V763 x)).trans (raw_opens (by omega)).1) (((rfl : wt V763 x = wt V763 x)).trans (raw_opens (by omega)).2) (by omega) (by omega) (by omega) (rq0_32.1 (by omega)).1), trivial⟩ (by show ((vi V763 x 32 - vi V763 x 31)).toNat < ((vi W478 x 32 - vi W478 x 31)).toNat; omega)
              ·
                refine GO.aload_n dX12_readsCondition_161 rfl rfl ?_
                refine GO.callV (ci := 11) (N := mX12_sign) dX12_readsCondition_162 (RX12, TX12, 151) rfl gV_RX12_449 h_x (t_X12_sign h_x) rfl [] rfl rfl (Nat.le_of_ble_eq_true rfl) rfl (k_ip fun X775 r776 h777 => ?_)
                refine GO.bipush dX12_readsCondition_165 rfl ?_
                refine GO.icmp_eq (tgt := 180) dX12_readsCondition_167 (by decide) r776 (ir_c rfl) (fun c778 => ?_) (fun c778 => ?_)
                ·
                  refine GO.aload_n dX12_readsCondition_180 rfl rfl ?_
                  refine GO.aload_n dX12_readsCondition_181 rfl rfl ?_
                  refine GO.callV (ci := 11) (N := mX12_sign) dX12_readsCondition_182 (RX12, TX12, 151) rfl gV_RX12_449 h_x (t_X12_sign h_x) rfl [.ref x] rfl rfl (Nat.le_of_ble_eq_true rfl) rfl (k_ip fun X779 r780 h781 => ?_)
                  refine GO.bipush dX12_readsCondition_185 rfl ?_
                  refine GO.icmp_ne (tgt := 194) dX12_readsCondition_187 (by decide) r780 (ir_c rfl) (fun h => by exfalso; omega) (fun c782 => ?_)
                  refine GO.iconst dX12_readsCondition_190 ?_
                  refine GO.goto (tgt := 195) dX12_readsCondition_191 (by decide) ?_
                  refine GO.callV (ci := 11) (N := mX12_lands) dX12_readsCondition_195 (RX12, TX12, 151) rfl gV_RX12_514 h_x (t_X12_lands h_x (ir_c rfl) (by omega) (by assumption) (rfl) (by assumption) (by omega)) rfl [] rfl rfl (Nat.le_of_ble_eq_true rfl) rfl (k_vs fun V785 h784 hF783 => ?_)
                  refine GO.useWT (fun hW786 => ?_)
                  have aq787 := hW786.aq h_x
                  have raw_lands := h784.2.1
                  have rq0_195 := h784.2.2.1
                  have rq1_195 := h784.2.2.2
                  have rw195 := h784.2.1
                  have e788 : vi V785 x 31 = vi W706 x 31 := vi_fr hF783 h_x h_x (by decide +kernel)
                  have e790 : vi V785 x 35 = vi W706 x 35 := vi_fr hF783 h_x h_x (by decide +kernel)
                  have e791 : vi V785 x 36 = vi W706 x 36 := vi_fr hF783 h_x h_x (by decide +kernel)
                  have hsv := sgn_fr (V1 := V785) (by assumption) hWq h_x (by decide +kernel) (by decide +kernel) (by decide +kernel) (by decide +kernel)
                  refine GO.aload_n dX12_readsCondition_198 rfl rfl ?_
                  refine GO.aload_n dX12_readsCondition_199 rfl rfl ?_
                  refine GO.callV (ci := 11) (N := mX12_sign) dX12_readsCondition_200 (RX12, TX12, 151) rfl gV_RX12_449 h_x (t_X12_sign h_x) rfl [.ref x] rfl rfl (Nat.le_of_ble_eq_true rfl) rfl (k_ip fun X792 r793 h794 => ?_)
                  have e795 : vi V785 x 32 = vi W706 x 32 := vi_fr hF783 h_x h_x (by decide +kernel)
                  refine GO.bipush dX12_readsCondition_203 rfl ?_
                  refine GO.icmp_ne (tgt := 213) dX12_readsCondition_205 (by decide) r793 (ir_c rfl) (fun c796 => ?_) (fun c796 => ?_)
                  ·
                    refine GO.bipush dX12_readsCondition_213 rfl ?_
                    have q797 : -2147483648 ≤ vi W706 x 32 ∧ vi W706 x 32 ≤ 2147483647 := vi_ir
                    have q798 : -2147483648 ≤ vi W706 x 31 ∧ vi W706 x 31 ≤ 2147483647 := vi_ir
                    have q799 : -2147483648 ≤ vi W706 x 37 ∧ vi W706 x 37 ≤ 2147483647 := vi_ir
                    have q800 : -2147483648 ≤ vi V785 x 37 ∧ vi V785 x 37 ≤ 2147483647 := vi_ir
                    have q801 : -2147483648 ≤ vi W706 x 36 ∧ vi W706 x 36 ≤ 2147483647 := vi_ir
                    refine GO.callV (ci := 11) (N := mX12_jumps) dX12_readsCondition_215 (RX12, TX12, 151) rfl gV_RX12_517 h_x (t_X12_jumps h_x (ir_c rfl) (by omega) (by omega) (by omega) (raw_lands.1) (rfl) (raw_lands.2.1) (by omega)) rfl [] rfl rfl (Nat.le_of_ble_eq_true rfl) rfl (k_vs fun V804 h803 hF802 => ?_)
                    refine GO.useWT (fun hW805 => ?_)
                    have aq806 := hW805.aq h_x
                    have raw_jumps := h803.2.1
                    have rq0_215 := h803.2.2.1
                    have rq1_215 := h803.2.2.2
                    have rw215 := h803.2.1
                    refine GO.goto (tgt := 40) dX12_readsCondition_218 (by decide) ?_
                    have q810 : -2147483648 ≤ vi V804 x 31 ∧ vi V804 x 31 ≤ 2147483647 := vi_ir
                    have q811 : -2147483648 ≤ vi V804 x 37 ∧ vi V804 x 37 ≤ 2147483647 := vi_ir
                    have q812 : -2147483648 ≤ vi V804 x 36 ∧ vi V804 x 36 ≤ 2147483647 := vi_ir
                    have e813 : vi V804 x 32 = vi V785 x 32 := vi_fr hF802 h_x h_x (by decide +kernel)
                    have e814 : vi V804 x 35 = vi V785 x 35 := vi_fr hF802 h_x h_x (by decide +kernel)
                    have q815 : -2147483648 ≤ vi W706 x 35 ∧ vi W706 x 35 ≤ 2147483647 := vi_ir
                    exact ih479  V804 ⟨by omega, (by first | exact RJ.pushO hb.1 (Or.inr (Or.inl rfl)) (fun _ => rfl) (((rfl : sd V804 x = sd V804 x)).trans (raw_opens (by omega)).1) (((rfl : wt V804 x = wt V804 x)).trans (raw_opens (by omega)).2) (by omega) (by omega) (by omega) | exact RJ.zz raw_jumps.1 (by omega) | exact RJ.pushO (by assumption) (by omega) (fun _ => by omega) (((rfl : sd V804 x = sd V804 x)).trans (raw_opens (by omega)).1) (((rfl : wt V804 x = wt V804 x)).trans (raw_opens (by omega)).2) (by omega) (by omega) (by omega)), (by first | exact NS.push0 hb.2 (by omega) (((rfl : wt V804 x = wt V804 x)).trans (raw_opens (by omega)).2) (by omega) (by omega) | exact raw_jumps.2 | exact NS.push0 (by assumption) (by omega) (((rfl : wt V804 x = wt V804 x)).trans (raw_opens (by omega)).2) (by omega) (by omega) | exact raw_readsCompared.2 (by omega)), (by first | exact CDI.jmp hce hTq (by omega) (by omega) rq0_195 (by omega) (by omega) rq1_195 raw_lands.2.2 (by omega) raw_jumps.2 (by omega) rq0_215 rq1_215 (by omega) (by omega) (by omega) (by omega) | exact CDI.beg hTa (by omega) (by omega) (by omega) (by omega) hs0 (by omega) (by omega) (((rfl : sd V804 x = sd V804 x)).trans (raw_opens (by omega)).1) (((rfl : wt V804 x = wt V804 x)).trans (raw_opens (by omega)).2) (by omega) (by omega) (by omega) (rq0_32.1 (by omega)).1), trivial⟩ (by show ((vi V804 x 32 - vi V804 x 31)).toNat < ((vi W478 x 32 - vi W478 x 31)).toNat; omega)
                  ·
                    refine GO.bipush dX12_readsCondition_208 rfl ?_
                    refine GO.goto (tgt := 215) dX12_readsCondition_210 (by decide) ?_
                    have q816 : -2147483648 ≤ vi W706 x 31 ∧ vi W706 x 31 ≤ 2147483647 := vi_ir
                    have q817 : -2147483648 ≤ vi W706 x 32 ∧ vi W706 x 32 ≤ 2147483647 := vi_ir
                    have q818 : -2147483648 ≤ vi W706 x 37 ∧ vi W706 x 37 ≤ 2147483647 := vi_ir
                    have q819 : -2147483648 ≤ vi V785 x 37 ∧ vi V785 x 37 ≤ 2147483647 := vi_ir
                    have q820 : -2147483648 ≤ vi W706 x 36 ∧ vi W706 x 36 ≤ 2147483647 := vi_ir
                    refine GO.callV (ci := 11) (N := mX12_jumps) dX12_readsCondition_215 (RX12, TX12, 151) rfl gV_RX12_517 h_x (t_X12_jumps h_x (ir_c rfl) (by omega) (by omega) (by omega) (raw_lands.1) (rfl) (raw_lands.2.1) (by omega)) rfl [] rfl rfl (Nat.le_of_ble_eq_true rfl) rfl (k_vs fun V823 h822 hF821 => ?_)
                    refine GO.useWT (fun hW824 => ?_)
                    have aq825 := hW824.aq h_x
                    have raw_jumps := h822.2.1
                    have rq0_215 := h822.2.2.1
                    have rq1_215 := h822.2.2.2
                    have rw215 := h822.2.1
                    refine GO.goto (tgt := 40) dX12_readsCondition_218 (by decide) ?_
                    have q829 : -2147483648 ≤ vi V823 x 31 ∧ vi V823 x 31 ≤ 2147483647 := vi_ir
                    have q830 : -2147483648 ≤ vi V823 x 37 ∧ vi V823 x 37 ≤ 2147483647 := vi_ir
                    have q831 : -2147483648 ≤ vi V823 x 36 ∧ vi V823 x 36 ≤ 2147483647 := vi_ir
                    have e832 : vi V823 x 32 = vi V785 x 32 := vi_fr hF821 h_x h_x (by decide +kernel)
                    have e833 : vi V823 x 35 = vi V785 x 35 := vi_fr hF821 h_x h_x (by decide +kernel)
                    have q834 : -2147483648 ≤ vi W706 x 35 ∧ vi W706 x 35 ≤ 2147483647 := vi_ir
                    exact ih479  V823 ⟨by omega, (by first | exact RJ.pushO hb.1 (Or.inr (Or.inl rfl)) (fun _ => rfl) (((rfl : sd V823 x = sd V823 x)).trans (raw_opens (by omega)).1) (((rfl : wt V823 x = wt V823 x)).trans (raw_opens (by omega)).2) (by omega) (by omega) (by omega) | exact RJ.zz raw_jumps.1 (by omega) | exact RJ.pushO (by assumption) (by omega) (fun _ => by omega) (((rfl : sd V823 x = sd V823 x)).trans (raw_opens (by omega)).1) (((rfl : wt V823 x = wt V823 x)).trans (raw_opens (by omega)).2) (by omega) (by omega) (by omega)), (by first | exact NS.push0 hb.2 (by omega) (((rfl : wt V823 x = wt V823 x)).trans (raw_opens (by omega)).2) (by omega) (by omega) | exact raw_jumps.2 | exact NS.push0 (by assumption) (by omega) (((rfl : wt V823 x = wt V823 x)).trans (raw_opens (by omega)).2) (by omega) (by omega) | exact raw_readsCompared.2 (by omega)), (by first | exact CDI.jmp hce hTq (by omega) (by omega) rq0_195 (by omega) (by omega) rq1_195 raw_lands.2.2 (by omega) raw_jumps.2 (by omega) rq0_215 rq1_215 (by omega) (by omega) (by omega) (by omega) | exact CDI.beg hTa (by omega) (by omega) (by omega) (by omega) hs0 (by omega) (by omega) (((rfl : sd V823 x = sd V823 x)).trans (raw_opens (by omega)).1) (((rfl : wt V823 x = wt V823 x)).trans (raw_opens (by omega)).2) (by omega) (by omega) (by omega) (rq0_32.1 (by omega)).1), trivial⟩ (by show ((vi V823 x 32 - vi V823 x 31)).toNat < ((vi W478 x 32 - vi W478 x 31)).toNat; omega)
                ·
                  refine GO.aload_n dX12_readsCondition_170 rfl rfl ?_
                  refine GO.iconst dX12_readsCondition_171 ?_
                  refine GO.aload_n dX12_readsCondition_172 rfl rfl ?_
                  refine GO.getI h_x fl_RX12_443 rfl rfl dX12_readsCondition_173 (fun l835 u836 => ?_)
                  have q837 : -2147483648 ≤ vi W706 x 31 ∧ vi W706 x 31 ≤ 2147483647 := vi_ir
                  have q838 : -2147483648 ≤ vi W706 x 37 ∧ vi W706 x 37 ≤ 2147483647 := vi_ir
                  have q839 : -2147483648 ≤ vi W706 x 36 ∧ vi W706 x 36 ≤ 2147483647 := vi_ir
                  have q840 : -2147483648 ≤ vi W706 x 32 ∧ vi W706 x 32 ≤ 2147483647 := vi_ir
                  refine GO.callV (ci := 11) (N := mX12_wrong) dX12_readsCondition_176 (RX12, TX12, 151) rfl gV_RX12_456 h_x (t_X12_wrong h_x (ir_c rfl) vi_ir (by omega) (by omega) (by omega) (by omega)) rfl [] rfl rfl (Nat.le_of_ble_eq_true rfl) rfl (k_is fun X841 V845 r842 h843 hF844 => ?_)
                  have k846 := st_fr hF844 aq710 h_x (by decide +kernel) (by decide +kernel) (by decide +kernel) (by decide +kernel)
                  have sS847 : sd V845 x = sd W706 x := k846.2.1.trans (rfl : sd W706 x = sd W706 x)
                  have sQ848 : wt V845 x = wt W706 x := k846.2.2.trans (rfl : wt W706 x = wt W706 x)
                  have e850 : vi V845 x 31 = vi W706 x 31 := vi_fr hF844 h_x h_x (by decide +kernel)
                  have q851 : -2147483648 ≤ vi V845 x 33 ∧ vi V845 x 33 ≤ 2147483647 := vi_ir
                  exact GO.retz rfl rfl dX12_readsCondition_179 (by omega) ⟨rfl, _, rfl, r842, ⟨by omega, fun h => by omega, fun _ => trivial, (by first | exact fun h => absurd h (by omega)), (by first | exact CND.e9 hce hTq (by omega) (by omega) (by omega) (by omega) (by omega) | exact CND.ec hcd hTp (by omega) (by omega) rq0_84 (by omega) rfl | (exfalso; have h9 := (rq0_32.2 (by omega)).1; omega) | exact CND.e1 hTa (by omega) (by omega) (by omega) (by omega) (by omega))⟩⟩
            ·
              refine GO.aload_n dX12_readsCondition_101 rfl rfl ?_
              refine GO.iconst dX12_readsCondition_102 ?_
              refine GO.callV (ci := 11) (N := mX12_lands) dX12_readsCondition_103 (RX12, TX12, 151) rfl gV_RX12_514 h_x (t_X12_lands h_x (ir_c rfl) (by omega) (by assumption) (rfl) (by assumption) (by omega)) rfl [] rfl rfl (Nat.le_of_ble_eq_true rfl) rfl (k_vs fun V854 h853 hF852 => ?_)
              refine GO.useWT (fun hW855 => ?_)
              have aq856 := hW855.aq h_x
              have raw_lands := h853.2.1
              have rq0_103 := h853.2.2.1
              have rq1_103 := h853.2.2.2
              have rw103 := h853.2.1
              have e857 : vi V854 x 31 = vi W706 x 31 := vi_fr hF852 h_x h_x (by decide +kernel)
              have e859 : vi V854 x 35 = vi W706 x 35 := vi_fr hF852 h_x h_x (by decide +kernel)
              have e860 : vi V854 x 36 = vi W706 x 36 := vi_fr hF852 h_x h_x (by decide +kernel)
              have hnt := NS.top raw_lands.2.1 (by omega)
              have hlt := raw_lands.2.2 (by decide)
              refine GO.aload_n dX12_readsCondition_106 rfl rfl ?_
              refine GO.aload_n dX12_readsCondition_107 rfl rfl ?_
              refine GO.getI h_x fl_RX12_473 rfl rfl dX12_readsCondition_108 (fun l861 u862 => ?_)
              refine GO.iconst dX12_readsCondition_111 ?_
              refine GO.isub dX12_readsCondition_112 ?_
              have q864 : -2147483648 ≤ vi V854 x 37 ∧ vi V854 x 37 ≤ 2147483647 := vi_ir
              have q865 : -2147483648 ≤ vi W706 x 37 ∧ vi W706 x 37 ≤ 2147483647 := vi_ir
              have q866 : -2147483648 ≤ vi W706 x 31 ∧ vi W706 x 31 ≤ 2147483647 := vi_ir
              have q867 : -2147483648 ≤ vi W706 x 32 ∧ vi W706 x 32 ≤ 2147483647 := vi_ir
              have q868 : -2147483648 ≤ vi W706 x 36 ∧ vi W706 x 36 ≤ 2147483647 := vi_ir
              refine GO.putI h_x fp_RX12_473 rfl (by decide +kernel) ⟨by omega, by omega⟩ (by omega) (by omega) dX12_readsCondition_113 (fun V869 e863 => ?_)
              have k870 := st_fld e863 aq856 h_x (by decide) (by decide)
              have sS871 : sd V869 x = sd V854 x := k870.2.1.trans (rfl : sd V854 x = sd V854 x)
              have sQ872 : wt V869 x = wt V854 x := k870.2.2.trans (rfl : wt V854 x = wt V854 x)
              refine GO.aload_n dX12_readsCondition_116 rfl rfl ?_
              refine GO.aload_n dX12_readsCondition_117 rfl rfl ?_
              refine GO.getI h_x fl_RX12_470 rfl rfl dX12_readsCondition_118 (fun _ _ => ?_)
              have e873 : vi V869 x 35 = vi V854 x 35 := vi_up e863 (Or.inr (by decide))
              refine GO.iconst dX12_readsCondition_121 ?_
              refine GO.isub dX12_readsCondition_122 ?_
              refine GO.norm (fun z874 r875 hn876 => ?_)
              refine GO.putI h_x fp_RX12_470 rfl (by decide +kernel) r875 (r875).1 (r875).2 dX12_readsCondition_123 (fun V878 e877 => ?_)
              have k879 := st_fld e877 k870.1 h_x (by decide) (by decide)
              have sS880 : sd V878 x = sd V854 x := k879.2.1.trans sS871
              have sQ881 : wt V878 x = wt V854 x := k879.2.2.trans sQ872
              have e882 : vi V878 x 35 = z874 := upd2_int e877 r875
              have hod := dec_at (V1 := V878) (x := x) (k := 35) (by assumption) (by assumption) (by assumption)
              refine GO.aload_n dX12_readsCondition_126 rfl rfl ?_
              refine GO.aload_n dX12_readsCondition_127 rfl rfl ?_
              refine GO.getI h_x fl_RX12_443 rfl rfl dX12_readsCondition_128 (fun l883 u884 => ?_)
              have e886 : vi V869 x 31 = vi V854 x 31 := vi_up e863 (Or.inr (by decide))
              have e885 : vi V878 x 31 = vi V869 x 31 := vi_up e877 (Or.inr (by decide))
              refine GO.iconst dX12_readsCondition_131 ?_
              refine GO.iadd dX12_readsCondition_132 ?_
              refine GO.putI h_x fp_RX12_443 rfl (by decide +kernel) ⟨by omega, by omega⟩ (by omega) (by omega) dX12_readsCondition_133 (fun V888 e887 => ?_)
              have k889 := st_fld e887 k879.1 h_x (by decide) (by decide)
              have sS890 : sd V888 x = sd V854 x := k889.2.1.trans sS880
              have sQ891 : wt V888 x = wt V854 x := k889.2.2.trans sQ881
              have e892 : vi V888 x 31 = (vi V878 x 31) + 1 := upd2_int e887 ⟨by omega, by omega⟩
              have e893 : vi V888 x 35 = vi V878 x 35 := vi_up e887 (Or.inr (by decide))
              have e896 : vi V869 x 36 = vi V854 x 36 := vi_up e863 (Or.inr (by decide))
              have e895 : vi V878 x 36 = vi V869 x 36 := vi_up e877 (Or.inr (by decide))
              have e894 : vi V888 x 36 = vi V878 x 36 := vi_up e887 (Or.inr (by decide))
              have e899 : vi V869 x 37 = (vi V854 x 37) - 1 := upd2_int e863 ⟨by omega, by omega⟩
              have e898 : vi V878 x 37 = vi V869 x 37 := vi_up e877 (Or.inr (by decide))
              have e897 : vi V888 x 37 = vi V878 x 37 := vi_up e887 (Or.inr (by decide))
              have hcc : CCI V V888 x := CCI.clo hce hTq (by omega) (by omega) rq0_103 (by omega) (by omega) hlt (by omega) (NS.less raw_lands.2.1 (sQ891) (by omega)) (sS890) (sQ891) (by omega) (by omega) (by omega) (fun ga => by have h9 := hod (by omega); omega)
              refine GO.aload_n dX12_readsCondition_136 rfl rfl ?_
              refine GO.getI h_x fl_RX12_473 rfl rfl dX12_readsCondition_137 (fun l900 u901 => ?_)
              refine GO.if_ne (tgt := 145) dX12_readsCondition_140 (by decide) vi_ir (fun c902 => ?_) (fun c902 => ?_)
              ·
                refine GO.aload_n dX12_readsCondition_145 rfl rfl ?_
                refine GO.callV (ci := 11) (N := mX12_endsPiece) dX12_readsCondition_146 (RX12, TX12, 151) rfl gV_RX12_508 h_x (t_X12_endsPiece h_x (RJ.pop raw_lands.1 (by omega) (by omega) (sS890) (sQ891) (by omega) (by omega) (by omega)) (by omega) (NS.less raw_lands.2.1 (sQ891) (by omega)) (by omega)) rfl [] rfl rfl (Nat.le_of_ble_eq_true rfl) rfl (k_vs fun V905 h904 hF903 => ?_)
                refine GO.useWT (fun hW906 => ?_)
                have aq907 := hW906.aq h_x
                have raw_endsPiece := h904.2.1
                have rq0_146 := h904.2.2.1
                have rq1_146 := h904.2.2.2
                have rw146 := h904.2.1
                have e908 : vi V905 x 31 = vi V888 x 31 := vi_fr hF903 h_x h_x (by decide +kernel)
                refine GO.goto (tgt := 92) dX12_readsCondition_149 (by decide) ?_
                have q911 : -2147483648 ≤ vi V905 x 37 ∧ vi V905 x 37 ≤ 2147483647 := vi_ir
                have q912 : -2147483648 ≤ vi V905 x 36 ∧ vi V905 x 36 ≤ 2147483647 := vi_ir
                have e917 : vi V854 x 32 = vi W706 x 32 := vi_fr hF852 h_x h_x (by decide +kernel)
                have e916 : vi V869 x 32 = vi V854 x 32 := vi_up e863 (Or.inr (by decide))
                have e915 : vi V878 x 32 = vi V869 x 32 := vi_up e877 (Or.inr (by decide))
                have e914 : vi V888 x 32 = vi V878 x 32 := vi_up e887 (Or.inr (by decide))
                have e913 : vi V905 x 32 = vi V888 x 32 := vi_fr hF903 h_x h_x (by decide +kernel)
                have q919 : -2147483648 ≤ vi V905 x 35 ∧ vi V905 x 35 ≤ 2147483647 := vi_ir
                exact ih707  V905 ⟨by omega, (by first | exact raw_endsPiece.1 | exact raw_readsCompared.1 (by omega)), (by first | exact NS.push0 hb.2 (by omega) (((rfl : wt V905 x = wt V905 x)).trans (raw_opens (by omega)).2) (by omega) (by omega) | exact NS.push0 (by assumption) (by omega) (((rfl : wt V905 x = wt V905 x)).trans (raw_opens (by omega)).2) (by omega) (by omega) | exact raw_endsPiece.2 | exact raw_readsCompared.2 (by omega)), (by first | exact CEI.ep hcc rq0_146 raw_endsPiece.2 (by omega) rq1_146 | exact CEI.cmp hcd hTp (by omega) (by omega) rq0_84 (by omega)), trivial⟩ (by show ((vi V905 x 32 - vi V905 x 31)).toNat < ((vi W706 x 32 - vi W706 x 31)).toNat; omega)
              ·
                refine GO.iconst dX12_readsCondition_143 ?_
                exact GO.retz rfl rfl dX12_readsCondition_144 (Or.inr rfl) ⟨rfl, _, rfl, (ir_c rfl), ⟨Or.inr rfl, fun h => by omega, fun _ => trivial, (by first | exact fun h => absurd h (by decide) | exact fun _ => ⟨RJ.pop raw_lands.1 (by omega) (by omega) (sS890) (sQ891) (by omega) (by omega) (by omega), by omega⟩), (by first | exact CND.ok hcc (by omega) (by omega) rfl | exact CND.e9 hce hTq (by omega) (by omega) (by omega) (by omega) (by omega) | exact CND.ec hcd hTp (by omega) (by omega) rq0_84 (by omega) rfl | (exfalso; have h9 := (rq0_32.2 (by omega)).1; omega) | exact CND.e1 hTa (by omega) (by omega) (by omega) (by omega) (by omega))⟩⟩
          ·
            refine GO.iconst dX12_readsCondition_90 ?_
            have q924 : -2147483648 ≤ vi V526 x 31 ∧ vi V526 x 31 ≤ 2147483647 := vi_ir
            exact GO.retz rfl rfl dX12_readsCondition_91 (Or.inl rfl) ⟨rfl, _, rfl, (ir_c rfl), ⟨Or.inl rfl, fun h => absurd rfl h, fun _ => trivial, (by first | exact fun h => absurd rfl h), (by first | exact CND.ec hcd hTp (by omega) (by omega) rq0_84 (by omega) rfl | (exfalso; have h9 := (rq0_32.2 (by omega)).1; omega) | exact CND.e1 hTa (by omega) (by omega) (by omega) (by omega) (by omega))⟩⟩
        ·
          refine GO.aload_n dX12_readsCondition_58 rfl rfl ?_
          refine GO.aload_n dX12_readsCondition_59 rfl rfl ?_
          refine GO.callV (ci := 11) (N := mX12_sign) dX12_readsCondition_60 (RX12, TX12, 151) rfl gV_RX12_449 h_x (t_X12_sign h_x) rfl [.ref x] rfl rfl (Nat.le_of_ble_eq_true rfl) rfl (k_ip fun X926 r927 h928 => ?_)
          refine GO.bipush dX12_readsCondition_63 rfl ?_
          refine GO.icmp_ne (tgt := 73) dX12_readsCondition_65 (by decide) r927 (ir_c rfl) (fun c929 => ?_) (fun h => by exfalso; omega)
          refine GO.bipush dX12_readsCondition_73 rfl ?_
          have q930 : -2147483648 ≤ vi W478 x 32 ∧ vi W478 x 32 ≤ 2147483647 := vi_ir
          have q931 : -2147483648 ≤ vi W478 x 31 ∧ vi W478 x 31 ≤ 2147483647 := vi_ir
          have q932 : -2147483648 ≤ vi W478 x 37 ∧ vi W478 x 37 ≤ 2147483647 := vi_ir
          have q933 : -2147483648 ≤ vi W478 x 36 ∧ vi W478 x 36 ≤ 2147483647 := vi_ir
          refine GO.callV (ci := 11) (N := mX12_opens) dX12_readsCondition_75 (RX12, TX12, 151) rfl gV_RX12_482 h_x (t_X12_opens h_x (ir_c rfl) (by omega) (by omega) (by omega) ⟨by omega, by omega⟩) rfl [] rfl rfl (Nat.le_of_ble_eq_true rfl) rfl (k_is fun X934 V938 r935 h936 hF937 => ?_)
          refine GO.useWT (fun hW939 => ?_)
          have aq940 := hW939.aq h_x
          have raw_opens := h936.2.2.2.1
          have rq0_75 := h936.2.2.2.2
          have rw75 := h936.2.2.2.1
          refine GO.if_ne (tgt := 40) dX12_readsCondition_78 (by decide) r935 (fun c943 => ?_) (fun c943 => ?_)
          ·
            have q944 := h936.2.1 (by omega)
            have q945 : -2147483648 ≤ vi V938 x 31 ∧ vi V938 x 31 ≤ 2147483647 := vi_ir
            have q946 : -2147483648 ≤ vi V938 x 37 ∧ vi V938 x 37 ≤ 2147483647 := vi_ir
            have e947 : vi V938 x 36 = vi W478 x 36 := vi_fr hF937 h_x h_x (by decide +kernel)
            have e948 : vi V938 x 32 = vi W478 x 32 := vi_fr hF937 h_x h_x (by decide +kernel)
            have q950 : -2147483648 ≤ vi V938 x 35 ∧ vi V938 x 35 ≤ 2147483647 := vi_ir
            exact ih479  V938 ⟨by omega, (by first | exact RJ.pushO hb.1 (Or.inr (Or.inl rfl)) (fun _ => rfl) (((rfl : sd V938 x = sd V938 x)).trans (raw_opens (by omega)).1) (((rfl : wt V938 x = wt V938 x)).trans (raw_opens (by omega)).2) (by omega) (by omega) (by omega) | exact RJ.pushO (by assumption) (by omega) (fun _ => by omega) (((rfl : sd V938 x = sd V938 x)).trans (raw_opens (by omega)).1) (((rfl : wt V938 x = wt V938 x)).trans (raw_opens (by omega)).2) (by omega) (by omega) (by omega)), (by first | exact NS.push0 hb.2 (by omega) (((rfl : wt V938 x = wt V938 x)).trans (raw_opens (by omega)).2) (by omega) (by omega) | exact NS.push0 (by assumption) (by omega) (((rfl : wt V938 x = wt V938 x)).trans (raw_opens (by omega)).2) (by omega) (by omega)), (by first | exact CDI.opn hcd hTp (by omega) (by omega) (by omega) (((rfl : sd V938 x = sd V938 x)).trans (raw_opens (by omega)).1) (((rfl : wt V938 x = wt V938 x)).trans (raw_opens (by omega)).2) (by omega) (by omega) (by omega) (rq0_75.1 (by omega)).1 (rq0_75.1 (by omega)).2 | exact CDI.beg hTa (by omega) (by omega) (by omega) (by omega) hs0 (by omega) (by omega) (((rfl : sd V938 x = sd V938 x)).trans (raw_opens (by omega)).1) (((rfl : wt V938 x = wt V938 x)).trans (raw_opens (by omega)).2) (by omega) (by omega) (by omega) (rq0_32.1 (by omega)).1), trivial⟩ (by show ((vi V938 x 32 - vi V938 x 31)).toNat < ((vi W478 x 32 - vi W478 x 31)).toNat; omega)
          ·
            refine GO.iconst dX12_readsCondition_81 ?_
            have q951 : -2147483648 ≤ vi V938 x 31 ∧ vi V938 x 31 ≤ 2147483647 := vi_ir
            exact GO.retz rfl rfl dX12_readsCondition_82 (Or.inl rfl) ⟨rfl, _, rfl, (ir_c rfl), ⟨Or.inl rfl, fun h => absurd rfl h, fun _ => trivial, (by first | exact fun h => absurd rfl h), (by first | exact CND.e5 hcd hTp (by omega) (by omega) (rq0_75.2 (by omega)).1 rfl (rq0_75.2 (by omega)).2 | (exfalso; have h9 := (rq0_32.2 (by omega)).1; omega) | exact CND.e1 hTa (by omega) (by omega) (by omega) (by omega) (by omega))⟩⟩
    ·
      refine GO.iconst dX12_readsCondition_38 ?_
      have q953 : -2147483648 ≤ vi V33 x 31 ∧ vi V33 x 31 ≤ 2147483647 := vi_ir
      exact GO.retz rfl rfl dX12_readsCondition_39 (Or.inl rfl) ⟨rfl, _, rfl, (ir_c rfl), ⟨Or.inl rfl, fun h => absurd rfl h, fun _ => trivial, (by first | exact fun h => absurd rfl h), (by first | (exfalso; have h9 := (rq0_32.2 (by omega)).1; omega) | exact CND.e1 hTa (by omega) (by omega) (by omega) (by omega) (by omega))⟩⟩
  ·
    refine GO.aload_n dX12_readsCondition_19 rfl rfl ?_
    refine GO.iconst dX12_readsCondition_20 ?_
    refine GO.aload_n dX12_readsCondition_21 rfl rfl ?_
    refine GO.getI h_x fl_RX12_443 rfl rfl dX12_readsCondition_22 (fun l955 u956 => ?_)
    have q957 : -2147483648 ≤ vi V x 31 ∧ vi V x 31 ≤ 2147483647 := vi_ir
    have q958 : -2147483648 ≤ vi V x 36 ∧ vi V x 36 ≤ 2147483647 := vi_ir
    refine GO.callV (ci := 11) (N := mX12_wrong) dX12_readsCondition_25 (RX12, TX12, 151) rfl gV_RX12_456 h_x (t_X12_wrong h_x (ir_c rfl) vi_ir (by omega) (by omega) (by omega) (by omega)) rfl [] rfl rfl (Nat.le_of_ble_eq_true rfl) rfl (k_is fun X959 V963 r960 h961 hF962 => ?_)
    have k964 := st_fr hF962 k10.1 h_x (by decide +kernel) (by decide +kernel) (by decide +kernel) (by decide +kernel)
    have sS965 : sd V963 x = sd V x := k964.2.1.trans sS11
    have sQ966 : wt V963 x = wt V x := k964.2.2.trans sQ12
    have e968 : vi V963 x 31 = vi V9 x 31 := vi_fr hF962 h_x h_x (by decide +kernel)
    have q969 : -2147483648 ≤ vi V963 x 33 ∧ vi V963 x 33 ≤ 2147483647 := vi_ir
    exact GO.retz rfl rfl dX12_readsCondition_28 (by omega) ⟨rfl, _, rfl, r960, ⟨by omega, fun h => by omega, fun _ => trivial, (by first | exact fun h => absurd h (by omega)), (by first | exact CND.e1 hTa (by omega) (by omega) (by omega) (by omega) (by omega))⟩⟩
