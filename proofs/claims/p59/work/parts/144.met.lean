def mX12_endsPiece : MRec := (RX12, cX12_endsPiece, 1, (none : Option Jvm.ClassFile.FieldType), yX12_endsPiece, 1, 22, 0, 0, 16296287810675888690147565507275025288411747309179231588156630273363078976450148924334800896)
def mX12_lands : MRec := (RX12, cX12_lands, 3, (none : Option Jvm.ClassFile.FieldType), yX12_lands, 1, 20, 0, 0, 16296287810675888690147565507275025288411747240671342338270555982565352442874382377962962944)
def mX12_jumps : MRec := (RX12, cX12_jumps, 2, (none : Option Jvm.ClassFile.FieldType), yX12_jumps, 1, 22, 0, 0, 48888863432027666070442696521825075865235241586425496207745479247158890230921109177527959552)
def mX12_readsCompared : MRec := (RX12, cX12_readsCompared, 2, (some .boolean), yX12_readsCompared, 5, 105, 0, 0, 48888863432027666070442696521825075865235241626388431603512355916790897375506972996244865024)
def mX12_readsCondition : MRec := (RX12, cX12_readsCondition, 1, (some .boolean), yX12_readsCondition, 6, 126, 0, 0, 48888863432027666070442696521825075865235241626388431603512355916790897375506972996244865024)
set_option maxHeartbeats 1000000 in
theorem t_X12_endsPiece {K : Kmap} {V : Vmap} {x : Nat} {fr : Nat} {S0 : Nat → Int} {s z : Int} (h_x : K x = some (0, 11)) (w_0 : RJ V x fr S0 s z) (w_1 : 1 ≤ z) (w_2 : NS V x) (w_3 : 1 ≤ vi V x 37) : MC mX12_endsPiece K V [.ref x] (VS K (fun V1 => (vi V1 x 31 = vi V x 31 ∧ vi V1 x 36 ≥ 0 ∧ vi V1 x 37 ≤ vi V x 37 ∧ vi V1 x 37 ≥ 1) ∧ ((RJ V1 x fr S0 s z) ∧ (NS V1 x)) ∧ (EPi V V1 x) ∧ (topf V1 x ≠ 10))) := by
  refine MC.start 0 (by decide +kernel) rfl rfl rfl (ls0 := [some (.ref x)]) rfl ?_
  refine GO.useWT (fun hW1 => ?_)
  have aq2 := hW1.aq h_x
  have hrd := (hW1).rd h_x
  have hle := RJ.le (V := V) (x := x) (fr := fr) (S0 := S0) (s := s) (z := z) (by assumption)
  have q3 : -2147483648 ≤ vi V x 31 ∧ vi V x 31 ≤ 2147483647 := vi_ir
  have q4 : -2147483648 ≤ vi V x 37 ∧ vi V x 37 ≤ 2147483647 := vi_ir
  have q5 : -2147483648 ≤ vi V x 36 ∧ vi V x 36 ≤ 2147483647 := vi_ir
  have q6 : -2147483648 ≤ vi V x 35 ∧ vi V x 35 ≤ 2147483647 := vi_ir
  refine GO.loop0 (fun  W => (vi W x 31 = vi V x 31 ∧ vi W x 36 ≥ vi V x 36 ∧ vi W x 37 ≤ vi V x 37 ∧ vi W x 37 ≥ 1 ∧ vi W x 35 ≥ (-2147483648)) ∧ (RJ W x fr S0 s z) ∧ (NS W x) ∧ (EPi V W x) ∧ True) (fun  W => (vi W x 37).toNat)  ⟨by omega, (by first | assumption), (by first | assumption), (by first | exact EPi.rf), trivial⟩ (fun W45 hp47 ih46 => ?_)
  obtain ⟨n_W45, w0_W45, w1_W45, hep, -⟩ := hp47
  show GO mX12_endsPiece K V (VS K (fun V1 => (vi V1 x 31 = vi V x 31 ∧ vi V1 x 36 ≥ 0 ∧ vi V1 x 37 ≤ vi V x 37 ∧ vi V1 x 37 ≥ 1) ∧ ((RJ V1 x fr S0 s z) ∧ (NS V1 x)) ∧ (EPi V V1 x) ∧ (topf V1 x ≠ 10))) K W45 0 0 0 [some (.ref x)] []
  refine GO.useWT (fun hW48 => ?_)
  have aq49 := hW48.aq h_x
  have hrd := (hW48).rd h_x
  have hle := RJ.le (V := W45) (x := x) (fr := fr) (S0 := S0) (s := s) (z := z) (by assumption)
  refine GO.aload_n dX12_endsPiece_0 rfl rfl ?_
  refine GO.callV (ci := 11) (N := mX12_top) dX12_endsPiece_1 (RX12, TX12, 151) rfl gV_RX12_476 h_x (t_X12_top h_x) rfl [] rfl rfl (Nat.le_of_ble_eq_true rfl) rfl (k_ip fun X50 r51 h52 => ?_)
  refine GO.bipush dX12_endsPiece_4 rfl ?_
  refine GO.icmp_ne (tgt := 39) dX12_endsPiece_6 (by decide) r51 (ir_c rfl) (fun c53 => ?_) (fun c53 => ?_)
  ·
    have q54 : -2147483648 ≤ vi W45 x 31 ∧ vi W45 x 31 ≤ 2147483647 := vi_ir
    have q55 : -2147483648 ≤ vi W45 x 37 ∧ vi W45 x 37 ≤ 2147483647 := vi_ir
    have q56 : -2147483648 ≤ vi W45 x 36 ∧ vi W45 x 36 ≤ 2147483647 := vi_ir
    exact GO.retv rfl rfl dX12_endsPiece_39 ⟨rfl, rfl, ⟨by omega, ⟨(by first | assumption), (by first | assumption)⟩, (by first | exact EPi.rf | exact hep), by omega⟩⟩
  ·
    have htw := RJ.two (V := W45) (by assumption) (by omega)
    refine GO.aload_n dX12_endsPiece_9 rfl rfl ?_
    refine GO.bipush dX12_endsPiece_10 rfl ?_
    refine GO.iconst dX12_endsPiece_12 ?_
    refine GO.callV (ci := 11) (N := mX12_says) dX12_endsPiece_13 (RX12, TX12, 151) rfl gV_RX12_479 h_x (t_X12_says h_x (ir_c rfl) (ir_c rfl) (by omega) (by omega) (by omega) (by omega) ⟨by omega, by omega⟩) rfl [] rfl rfl (Nat.le_of_ble_eq_true rfl) rfl (k_vs fun V59 h58 hF57 => ?_)
    refine GO.useWT (fun hW60 => ?_)
    have aq61 := hW60.aq h_x
    have raw_says := h58.2
    have rw13 := h58.2
    refine GO.aload_n dX12_endsPiece_16 rfl rfl ?_
    refine GO.aload_n dX12_endsPiece_17 rfl rfl ?_
    refine GO.getI h_x fl_RX12_473 rfl rfl dX12_endsPiece_18 (fun l63 u64 => ?_)
    have e65 : vi V59 x 37 = vi W45 x 37 := vi_fr hF57 h_x h_x (by decide +kernel)
    refine GO.iconst dX12_endsPiece_21 ?_
    refine GO.isub dX12_endsPiece_22 ?_
    have q67 : -2147483648 ≤ vi W45 x 37 ∧ vi W45 x 37 ≤ 2147483647 := vi_ir
    have q68 : -2147483648 ≤ vi W45 x 31 ∧ vi W45 x 31 ≤ 2147483647 := vi_ir
    have q69 : -2147483648 ≤ vi W45 x 36 ∧ vi W45 x 36 ≤ 2147483647 := vi_ir
    have q70 : -2147483648 ≤ vi V59 x 36 ∧ vi V59 x 36 ≤ 2147483647 := vi_ir
    refine GO.putI h_x fp_RX12_473 rfl (by decide +kernel) ⟨by omega, by omega⟩ (by omega) (by omega) dX12_endsPiece_23 (fun V71 e66 => ?_)
    have k72 := st_fld e66 aq61 h_x (by decide) (by decide)
    have sS73 : sd V71 x = sd V59 x := k72.2.1.trans (rfl : sd V59 x = sd V59 x)
    have sQ74 : wt V71 x = wt V59 x := k72.2.2.trans (rfl : wt V59 x = wt V59 x)
    refine GO.aload_n dX12_endsPiece_26 rfl rfl ?_
    refine GO.aload_n dX12_endsPiece_27 rfl rfl ?_
    refine GO.getI h_x fl_RX12_470 rfl rfl dX12_endsPiece_28 (fun _ _ => ?_)
    have e76 : vi V59 x 35 = vi W45 x 35 := vi_fr hF57 h_x h_x (by decide +kernel)
    have e75 : vi V71 x 35 = vi V59 x 35 := vi_up e66 (Or.inr (by decide))
    refine GO.iconst dX12_endsPiece_31 ?_
    refine GO.isub dX12_endsPiece_32 ?_
    refine GO.norm2 (fun z77 r78 hn79 hw80 => ?_)
    refine GO.putI h_x fp_RX12_470 rfl (by decide +kernel) r78 (r78).1 (r78).2 dX12_endsPiece_33 (fun V82 e81 => ?_)
    have k83 := st_fld e81 k72.1 h_x (by decide) (by decide)
    have sS84 : sd V82 x = sd V59 x := k83.2.1.trans sS73
    have sQ85 : wt V82 x = wt V59 x := k83.2.2.trans sQ74
    have e86 : vi V82 x 35 = z77 := upd2_int e81 r78
    have hod := dec_at (V1 := V82) (x := x) (k := 35) (by assumption) (by assumption) (by assumption)
    refine GO.goto (tgt := 0) dX12_endsPiece_36 (by decide) ?_
    have e89 : vi V59 x 31 = vi W45 x 31 := vi_fr hF57 h_x h_x (by decide +kernel)
    have e88 : vi V71 x 31 = vi V59 x 31 := vi_up e66 (Or.inr (by decide))
    have e87 : vi V82 x 31 = vi V71 x 31 := vi_up e81 (Or.inr (by decide))
    have e91 : vi V71 x 36 = vi V59 x 36 := vi_up e66 (Or.inr (by decide))
    have e90 : vi V82 x 36 = vi V71 x 36 := vi_up e81 (Or.inr (by decide))
    have e93 : vi V71 x 37 = (vi V59 x 37) - 1 := upd2_int e66 ⟨by omega, by omega⟩
    have e92 : vi V82 x 37 = vi V71 x 37 := vi_up e81 (Or.inr (by decide))
    have q94 : -2147483648 ≤ z77 ∧ z77 ≤ 2147483647 := r78
    exact ih46  V82 ⟨by omega, (by first | assumption | exact RJ.clo (by assumption) (by omega) (by omega) (by omega) ((sS84).trans raw_says.1) ((sQ85).trans raw_says.2) (by omega) (by omega) (by omega) (by omega)), (by first | assumption | exact NS.less (by assumption) ((sQ85).trans raw_says.2) (by omega)), (by first | exact EPi.rf | exact hep | exact EPi.step hep (by omega) (by omega) ((sS84).trans raw_says.1) ((sQ85).trans raw_says.2) (by omega) (by omega) (by omega) (fun ga => by have h9 := hod (by omega); omega) (by omega) (by omega)), trivial⟩ (by show (vi V82 x 37).toNat < (vi W45 x 37).toNat; omega)

set_option maxHeartbeats 1000000 in
theorem t_X12_lands {K : Kmap} {V : Vmap} {x : Nat} {p0 : Int} {fr : Nat} {S0 : Nat → Int} {s z : Int} (h_x : K x = some (0, 11)) (r_p0 : ir p0) (z_p0 : p0 = 0 ∨ p0 = 1) (w_0 : RJ V x fr S0 s z) (w_1 : z = 1) (w_2 : NS V x) (w_3 : 1 ≤ vi V x 37) : MC mX12_lands K V [.ref x, ti p0] (VS K (fun V1 => (vi V1 x 31 = vi V x 31 ∧ vi V1 x 37 ≤ vi V x 37 ∧ vi V1 x 37 ≥ 1) ∧ ((RJ V1 x fr S0 s z) ∧ (NS V1 x) ∧ (p0 ≠ 0 → ¬ (11 ≤ topf V1 x ∧ topf V1 x ≤ 12))) ∧ (LDi V V1 x p0) ∧ (topf V1 x ≠ 11))) := by
  refine MC.start 1 (by decide +kernel) rfl rfl rfl (ls0 := [some (.ref x), some (ti p0), none]) rfl ?_
  refine GO.useWT (fun hW1 => ?_)
  have aq2 := hW1.aq h_x
  have hrd := (hW1).rd h_x
  have hle := RJ.le (V := V) (x := x) (fr := fr) (S0 := S0) (s := s) (z := z) (by assumption)
  have q3 : -2147483648 ≤ vi V x 31 ∧ vi V x 31 ≤ 2147483647 := vi_ir
  have q4 : -2147483648 ≤ vi V x 37 ∧ vi V x 37 ≤ 2147483647 := vi_ir
  have q5 : -2147483648 ≤ vi V x 36 ∧ vi V x 36 ≤ 2147483647 := vi_ir
  refine GO.loop0 (fun  W => (vi W x 31 = vi V x 31 ∧ vi W x 36 = vi V x 36 ∧ vi W x 37 ≤ vi V x 37 ∧ vi W x 37 ≥ 1) ∧ (RJ W x fr S0 s z) ∧ (NS W x) ∧ (LDi V W x p0) ∧ True) (fun  W => (vi W x 37).toNat)  ⟨by omega, (by first | assumption), (by first | assumption | exact NS.less (by assumption) ((rfl : wt V x = wt V x)) (by omega)), (by first | exact LDi.rf), trivial⟩ (fun W86 hp88 ih87 => ?_)
  obtain ⟨n_W86, w0_W86, w1_W86, hld, -⟩ := hp88
  show GO mX12_lands K V (VS K (fun V1 => (vi V1 x 31 = vi V x 31 ∧ vi V1 x 37 ≤ vi V x 37 ∧ vi V1 x 37 ≥ 1) ∧ ((RJ V1 x fr S0 s z) ∧ (NS V1 x) ∧ (p0 ≠ 0 → ¬ (11 ≤ topf V1 x ∧ topf V1 x ≤ 12))) ∧ (LDi V V1 x p0) ∧ (topf V1 x ≠ 11))) K W86 0 0 0 [some (.ref x), some (ti p0), none] []
  refine GO.useWT (fun hW89 => ?_)
  have aq90 := hW89.aq h_x
  have hrd := (hW89).rd h_x
  have hle := RJ.le (V := W86) (x := x) (fr := fr) (S0 := S0) (s := s) (z := z) (by assumption)
  refine GO.aload_n dX12_lands_0 rfl rfl ?_
  refine GO.callV (ci := 11) (N := mX12_top) dX12_lands_1 (RX12, TX12, 151) rfl gV_RX12_476 h_x (t_X12_top h_x) rfl [] rfl rfl (Nat.le_of_ble_eq_true rfl) rfl (k_ip fun X91 r92 h93 => ?_)
  refine GO.bipush dX12_lands_4 rfl ?_
  refine GO.icmp_eq (tgt := 22) dX12_lands_6 (by decide) r92 (ir_c rfl) (fun c94 => ?_) (fun c94 => ?_)
  ·
    have htw := RJ.two (V := W86) (by assumption) (by omega)
    refine GO.aload_n dX12_lands_22 rfl rfl ?_
    refine GO.getA (n := 220) h_x fl_RX12_91 rfl rfl rfl rfl dX12_lands_23 (fun hv96 h95 => ?_)
    refine GO.aload_n dX12_lands_26 rfl rfl ?_
    refine GO.getI h_x fl_RX12_473 rfl rfl dX12_lands_27 (fun l97 u98 => ?_)
    refine GO.iconst dX12_lands_30 ?_
    refine GO.isub dX12_lands_31 ?_
    have q99 : -2147483648 ≤ vi W86 x 37 ∧ vi W86 x 37 ≤ 2147483647 := vi_ir
    have q100 : -2147483648 ≤ vi W86 x 31 ∧ vi W86 x 31 ≤ 2147483647 := vi_ir
    have q101 : -2147483648 ≤ vi W86 x 36 ∧ vi W86 x 36 ≤ 2147483647 := vi_ir
    refine GO.iald (t := 33) rfl rfl h95 ⟨by omega, by omega⟩ (by omega) (by omega) dX12_lands_32 (fun l102 u103 => ?_)
    refine GO.ldcw (X := 1048576) dX12_lands_33 gw_2078 rfl ?_
    refine GO.iremP dX12_lands_36 vi_ir (ir_c rfl) (by omega) (by omega) ?_
    refine GO.name (fun z104 hz105 => ?_)
    refine GO.istore_n (ls1 := [some (.ref x), some (ti p0), some (ti z104)]) dX12_lands_37 rfl rfl rfl ?_
    have hfr := RJ.frm (V := W86) (by assumption) (by omega) rfl (by assumption)
    have hfr1 := hfr.1
    have hfr2 := hfr.2.1
    refine GO.aload_n dX12_lands_38 rfl rfl ?_
    refine GO.getA (n := 220) h_x fl_RX12_88 rfl rfl rfl rfl dX12_lands_39 (fun hv107 h106 => ?_)
    refine GO.iload_n dX12_lands_42 rfl rfl ?_
    refine GO.ldcw (X := 1048576) dX12_lands_43 gw_2078 rfl ?_
    refine GO.aload_n dX12_lands_46 rfl rfl ?_
    refine GO.getRaw h_x fl_RX12_88 hv107 dX12_lands_47 ?_
    refine GO.iload_n dX12_lands_50 rfl rfl ?_
    refine GO.iald (t := 32) rfl rfl h106 ⟨by omega, by omega⟩ (by omega) (by omega) dX12_lands_51 (fun l110 u111 => ?_)
    refine GO.ldcw (X := 1048576) dX12_lands_52 gw_2078 rfl ?_
    refine GO.idivP dX12_lands_55 vi_ir (ir_c rfl) (by omega) (by omega) ?_
    refine GO.imul dX12_lands_56 ?_
    refine GO.aload_n dX12_lands_57 rfl rfl ?_
    refine GO.getI h_x fl_RX12_466 rfl rfl dX12_lands_58 (fun l112 u113 => ?_)
    refine GO.iadd dX12_lands_61 ?_
    refine GO.iast (t := 32) rfl rfl (by decide +kernel) h106 ⟨by omega, by omega⟩ (by omega) (by omega) ⟨by omega, by omega⟩ (by omega) (by omega) dX12_lands_62 (fun V115 e114 => ?_)
    have k116 := st_sd e114 aq90 h_x (vq_of hv107) ⟨by omega, by omega⟩
    have sS117 : sd V115 x = updf (sd W86 x) (z104).toNat ((1048576 * ((vi W86 (vq W86 x 39) (z104).toNat) / 1048576)) + (vi W86 x 36)) := k116.2.1.trans (congrArg (fun f => updf f (z104).toNat ((1048576 * ((vi W86 (vq W86 x 39) (z104).toNat) / 1048576)) + (vi W86 x 36))) (rfl : sd W86 x = sd W86 x))
    have sQ118 : wt V115 x = wt W86 x := k116.2.2.trans (rfl : wt W86 x = wt W86 x)
    refine GO.aload_n dX12_lands_63 rfl rfl ?_
    refine GO.aload_n dX12_lands_64 rfl rfl ?_
    refine GO.getI h_x fl_RX12_473 rfl rfl dX12_lands_65 (fun l119 u120 => ?_)
    have e121 : vi V115 x 37 = vi W86 x 37 := vi_up e114 (Or.inl (K_ne h_x h106 (by decide)))
    refine GO.iconst dX12_lands_68 ?_
    refine GO.isub dX12_lands_69 ?_
    refine GO.putI h_x fp_RX12_473 rfl (by decide +kernel) ⟨by omega, by omega⟩ (by omega) (by omega) dX12_lands_70 (fun V123 e122 => ?_)
    have k124 := st_fld e122 k116.1 h_x (by decide) (by decide)
    have sS125 : sd V123 x = updf (sd W86 x) (z104).toNat ((1048576 * ((vi W86 (vq W86 x 39) (z104).toNat) / 1048576)) + (vi W86 x 36)) := k124.2.1.trans sS117
    have sQ126 : wt V123 x = wt W86 x := k124.2.2.trans sQ118
    refine GO.goto (tgt := 0) dX12_lands_73 (by decide) ?_
    refine GO.drop [true, true, false] rfl ?_
    have e128 : vi V115 x 31 = vi W86 x 31 := vi_up e114 (Or.inl (K_ne h_x h106 (by decide)))
    have e127 : vi V123 x 31 = vi V115 x 31 := vi_up e122 (Or.inr (by decide))
    have e130 : vi V115 x 36 = vi W86 x 36 := vi_up e114 (Or.inl (K_ne h_x h106 (by decide)))
    have e129 : vi V123 x 36 = vi V115 x 36 := vi_up e122 (Or.inr (by decide))
    have e131 : vi V123 x 37 = (vi V115 x 37) - 1 := upd2_int e122 ⟨by omega, by omega⟩
    exact ih87  V123 ⟨by omega, (by first | assumption | exact RJ.land (by assumption) (by assumption) (by omega) (by omega) (by omega) hfr.2.2 (sS125) (sQ126) (by omega) (by omega) (by omega)), (by first | assumption | exact NS.less (by assumption) (sQ126) (by omega)), (by first | exact LDi.rf | exact hld | exact LDi.step hld (by omega) rfl (by omega) (by omega) hfr.2.2 (sS125) (sQ126) (by omega) (by omega) (by omega) (by omega) (by omega)), trivial⟩ (by show (vi V123 x 37).toNat < (vi W86 x 37).toNat; omega)
  ·
    refine GO.iload_n dX12_lands_9 rfl rfl ?_
    refine GO.if_eq (tgt := 76) dX12_lands_10 (by decide) r_p0 (fun c132 => ?_) (fun c132 => ?_)
    ·
      have q133 : -2147483648 ≤ vi W86 x 31 ∧ vi W86 x 31 ≤ 2147483647 := vi_ir
      have q134 : -2147483648 ≤ vi W86 x 37 ∧ vi W86 x 37 ≤ 2147483647 := vi_ir
      have q135 : -2147483648 ≤ vi W86 x 36 ∧ vi W86 x 36 ≤ 2147483647 := vi_ir
      exact GO.retv rfl rfl dX12_lands_76 ⟨rfl, rfl, ⟨by omega, ⟨(by first | assumption), (by first | assumption | exact NS.less (by assumption) ((rfl : wt W86 x = wt W86 x)) (by omega)), by omega⟩, (by first | exact LDi.rf | exact hld), by omega⟩⟩
    ·
      refine GO.aload_n dX12_lands_13 rfl rfl ?_
      refine GO.callV (ci := 11) (N := mX12_top) dX12_lands_14 (RX12, TX12, 151) rfl gV_RX12_476 h_x (t_X12_top h_x) rfl [] rfl rfl (Nat.le_of_ble_eq_true rfl) rfl (k_ip fun X136 r137 h138 => ?_)
      refine GO.bipush dX12_lands_17 rfl ?_
      refine GO.icmp_ne (tgt := 76) dX12_lands_19 (by decide) r137 (ir_c rfl) (fun c139 => ?_) (fun c139 => ?_)
      ·
        have q140 : -2147483648 ≤ vi W86 x 31 ∧ vi W86 x 31 ≤ 2147483647 := vi_ir
        have q141 : -2147483648 ≤ vi W86 x 37 ∧ vi W86 x 37 ≤ 2147483647 := vi_ir
        have q142 : -2147483648 ≤ vi W86 x 36 ∧ vi W86 x 36 ≤ 2147483647 := vi_ir
        exact GO.retv rfl rfl dX12_lands_76 ⟨rfl, rfl, ⟨by omega, ⟨(by first | assumption), (by first | assumption | exact NS.less (by assumption) ((rfl : wt W86 x = wt W86 x)) (by omega)), by omega⟩, (by first | exact LDi.rf | exact hld), by omega⟩⟩
      ·
        have htw := RJ.two (V := W86) (by assumption) (by omega)
        refine GO.aload_n dX12_lands_22 rfl rfl ?_
        refine GO.getA (n := 220) h_x fl_RX12_91 rfl rfl rfl rfl dX12_lands_23 (fun hv144 h143 => ?_)
        refine GO.aload_n dX12_lands_26 rfl rfl ?_
        refine GO.getI h_x fl_RX12_473 rfl rfl dX12_lands_27 (fun l145 u146 => ?_)
        refine GO.iconst dX12_lands_30 ?_
        refine GO.isub dX12_lands_31 ?_
        have q147 : -2147483648 ≤ vi W86 x 37 ∧ vi W86 x 37 ≤ 2147483647 := vi_ir
        have q148 : -2147483648 ≤ vi W86 x 31 ∧ vi W86 x 31 ≤ 2147483647 := vi_ir
        have q149 : -2147483648 ≤ vi W86 x 36 ∧ vi W86 x 36 ≤ 2147483647 := vi_ir
        refine GO.iald (t := 33) rfl rfl h143 ⟨by omega, by omega⟩ (by omega) (by omega) dX12_lands_32 (fun l150 u151 => ?_)
        refine GO.ldcw (X := 1048576) dX12_lands_33 gw_2078 rfl ?_
        refine GO.iremP dX12_lands_36 vi_ir (ir_c rfl) (by omega) (by omega) ?_
        refine GO.name (fun z152 hz153 => ?_)
        refine GO.istore_n (ls1 := [some (.ref x), some (ti p0), some (ti z152)]) dX12_lands_37 rfl rfl rfl ?_
        have hfr := RJ.frm (V := W86) (by assumption) (by omega) rfl (by assumption)
        have hfr1 := hfr.1
        have hfr2 := hfr.2.1
        refine GO.aload_n dX12_lands_38 rfl rfl ?_
        refine GO.getA (n := 220) h_x fl_RX12_88 rfl rfl rfl rfl dX12_lands_39 (fun hv155 h154 => ?_)
        refine GO.iload_n dX12_lands_42 rfl rfl ?_
        refine GO.ldcw (X := 1048576) dX12_lands_43 gw_2078 rfl ?_
        refine GO.aload_n dX12_lands_46 rfl rfl ?_
        refine GO.getRaw h_x fl_RX12_88 hv155 dX12_lands_47 ?_
        refine GO.iload_n dX12_lands_50 rfl rfl ?_
        refine GO.iald (t := 32) rfl rfl h154 ⟨by omega, by omega⟩ (by omega) (by omega) dX12_lands_51 (fun l158 u159 => ?_)
        refine GO.ldcw (X := 1048576) dX12_lands_52 gw_2078 rfl ?_
        refine GO.idivP dX12_lands_55 vi_ir (ir_c rfl) (by omega) (by omega) ?_
        refine GO.imul dX12_lands_56 ?_
        refine GO.aload_n dX12_lands_57 rfl rfl ?_
        refine GO.getI h_x fl_RX12_466 rfl rfl dX12_lands_58 (fun l160 u161 => ?_)
        refine GO.iadd dX12_lands_61 ?_
        refine GO.iast (t := 32) rfl rfl (by decide +kernel) h154 ⟨by omega, by omega⟩ (by omega) (by omega) ⟨by omega, by omega⟩ (by omega) (by omega) dX12_lands_62 (fun V163 e162 => ?_)
        have k164 := st_sd e162 aq90 h_x (vq_of hv155) ⟨by omega, by omega⟩
        have sS165 : sd V163 x = updf (sd W86 x) (z152).toNat ((1048576 * ((vi W86 (vq W86 x 39) (z152).toNat) / 1048576)) + (vi W86 x 36)) := k164.2.1.trans (congrArg (fun f => updf f (z152).toNat ((1048576 * ((vi W86 (vq W86 x 39) (z152).toNat) / 1048576)) + (vi W86 x 36))) (rfl : sd W86 x = sd W86 x))
        have sQ166 : wt V163 x = wt W86 x := k164.2.2.trans (rfl : wt W86 x = wt W86 x)
        refine GO.aload_n dX12_lands_63 rfl rfl ?_
        refine GO.aload_n dX12_lands_64 rfl rfl ?_
        refine GO.getI h_x fl_RX12_473 rfl rfl dX12_lands_65 (fun l167 u168 => ?_)
        have e169 : vi V163 x 37 = vi W86 x 37 := vi_up e162 (Or.inl (K_ne h_x h154 (by decide)))
        refine GO.iconst dX12_lands_68 ?_
        refine GO.isub dX12_lands_69 ?_
        refine GO.putI h_x fp_RX12_473 rfl (by decide +kernel) ⟨by omega, by omega⟩ (by omega) (by omega) dX12_lands_70 (fun V171 e170 => ?_)
        have k172 := st_fld e170 k164.1 h_x (by decide) (by decide)
        have sS173 : sd V171 x = updf (sd W86 x) (z152).toNat ((1048576 * ((vi W86 (vq W86 x 39) (z152).toNat) / 1048576)) + (vi W86 x 36)) := k172.2.1.trans sS165
        have sQ174 : wt V171 x = wt W86 x := k172.2.2.trans sQ166
        refine GO.goto (tgt := 0) dX12_lands_73 (by decide) ?_
        refine GO.drop [true, true, false] rfl ?_
        have e176 : vi V163 x 31 = vi W86 x 31 := vi_up e162 (Or.inl (K_ne h_x h154 (by decide)))
        have e175 : vi V171 x 31 = vi V163 x 31 := vi_up e170 (Or.inr (by decide))
        have e178 : vi V163 x 36 = vi W86 x 36 := vi_up e162 (Or.inl (K_ne h_x h154 (by decide)))
        have e177 : vi V171 x 36 = vi V163 x 36 := vi_up e170 (Or.inr (by decide))
        have e179 : vi V171 x 37 = (vi V163 x 37) - 1 := upd2_int e170 ⟨by omega, by omega⟩
        exact ih87  V171 ⟨by omega, (by first | assumption | exact RJ.land (by assumption) (by assumption) (by omega) (by omega) (by omega) hfr.2.2 (sS173) (sQ174) (by omega) (by omega) (by omega)), (by first | assumption | exact NS.less (by assumption) (sQ174) (by omega)), (by first | exact LDi.rf | exact hld | exact LDi.step hld (by omega) rfl (by omega) (by omega) hfr.2.2 (sS173) (sQ174) (by omega) (by omega) (by omega) (by omega) (by omega)), trivial⟩ (by show (vi V171 x 37).toNat < (vi W86 x 37).toNat; omega)

set_option maxHeartbeats 1000000 in
theorem t_X12_jumps {K : Kmap} {V : Vmap} {x : Nat} {p0 : Int} {fr : Nat} {S0 : Nat → Int} {s z : Int} (h_x : K x = some (0, 11)) (r_p0 : ir p0) (q_0 : p0 ≥ 11) (q_1 : p0 ≤ 12) (q_2 : vi V x 31 < vi V x 32) (w_0 : RJ V x fr S0 s z) (w_1 : z = 1) (w_2 : NS V x) (w_3 : 1 ≤ vi V x 37) : MC mX12_jumps K V [.ref x, ti p0] (VS K (fun V1 => (vi V1 x 31 = (vi V x 31 + 1) ∧ vi V1 x 36 ≥ 0 ∧ vi V1 x 37 = (vi V x 37 + 1) ∧ vi V1 x 36 = (vi V x 36 + 1)) ∧ ((RJ V1 x fr S0 s (z - 1)) ∧ (NS V1 x)) ∧ (sd V1 x = updf (sd V x) (vi V x 36).toNat (1048576 * p0 + 0)) ∧ (wt V1 x = updf (wt V x) (vi V x 37).toNat (1048576 * p0 + vi V x 36)))) := by
  refine MC.start 0 (by decide +kernel) rfl rfl rfl (ls0 := [some (.ref x), some (ti p0)]) rfl ?_
  refine GO.useWT (fun hW1 => ?_)
  have aq2 := hW1.aq h_x
  have hrd := (hW1).rd h_x
  have hle := RJ.le (V := V) (x := x) (fr := fr) (S0 := S0) (s := s) (z := z) (by assumption)
  refine GO.aload_n dX12_jumps_0 rfl rfl ?_
  refine GO.getA (n := 220) h_x fl_RX12_91 rfl rfl rfl rfl dX12_jumps_1 (fun hv4 h3 => ?_)
  refine GO.aload_n dX12_jumps_4 rfl rfl ?_
  refine GO.getI h_x fl_RX12_473 rfl rfl dX12_jumps_5 (fun l5 u6 => ?_)
  refine GO.ldcw (X := 1048576) dX12_jumps_8 gw_2078 rfl ?_
  refine GO.iload_n dX12_jumps_11 rfl rfl ?_
  refine GO.imul dX12_jumps_12 ?_
  refine GO.aload_n dX12_jumps_13 rfl rfl ?_
  refine GO.getI h_x fl_RX12_466 rfl rfl dX12_jumps_14 (fun l7 u8 => ?_)
  refine GO.iadd dX12_jumps_17 ?_
  have q9 : -2147483648 ≤ vi V x 37 ∧ vi V x 37 ≤ 2147483647 := vi_ir
  have q10 : -2147483648 ≤ vi V x 31 ∧ vi V x 31 ≤ 2147483647 := vi_ir
  have q11 : -2147483648 ≤ vi V x 36 ∧ vi V x 36 ≤ 2147483647 := vi_ir
  have q12 : -2147483648 ≤ vi V x 32 ∧ vi V x 32 ≤ 2147483647 := vi_ir
  have q14 : -2147483648 ≤ p0 ∧ p0 ≤ 2147483647 := r_p0
  refine GO.iast (t := 33) rfl rfl (by decide +kernel) h3 vi_ir (by omega) (by omega) ⟨by omega, by omega⟩ (by omega) (by omega) dX12_jumps_18 (fun V15 e13 => ?_)
  have k16 := st_wt e13 aq2 h_x (vq_of hv4) ⟨by omega, by omega⟩
  have sS17 : sd V15 x = sd V x := k16.2.1.trans (rfl : sd V x = sd V x)
  have sQ18 : wt V15 x = updf (wt V x) (vi V x 37).toNat ((1048576 * p0) + (vi V x 36)) := k16.2.2.trans (congrArg (fun f => updf f (vi V x 37).toNat ((1048576 * p0) + (vi V x 36))) (rfl : wt V x = wt V x))
  refine GO.aload_n dX12_jumps_19 rfl rfl ?_
  refine GO.aload_n dX12_jumps_20 rfl rfl ?_
  refine GO.getI h_x fl_RX12_473 rfl rfl dX12_jumps_21 (fun l19 u20 => ?_)
  have e21 : vi V15 x 37 = vi V x 37 := vi_up e13 (Or.inl (K_ne h_x h3 (by decide)))
  refine GO.iconst dX12_jumps_24 ?_
  refine GO.iadd dX12_jumps_25 ?_
  refine GO.putI h_x fp_RX12_473 rfl (by decide +kernel) ⟨by omega, by omega⟩ (by omega) (by omega) dX12_jumps_26 (fun V23 e22 => ?_)
  have k24 := st_fld e22 k16.1 h_x (by decide) (by decide)
  have sS25 : sd V23 x = sd V x := k24.2.1.trans sS17
  have sQ26 : wt V23 x = updf (wt V x) (vi V x 37).toNat ((1048576 * p0) + (vi V x 36)) := k24.2.2.trans sQ18
  refine GO.aload_n dX12_jumps_29 rfl rfl ?_
  refine GO.iload_n dX12_jumps_30 rfl rfl ?_
  refine GO.iconst dX12_jumps_31 ?_
  have e28 : vi V15 x 36 = vi V x 36 := vi_up e13 (Or.inl (K_ne h_x h3 (by decide)))
  have e27 : vi V23 x 36 = vi V15 x 36 := vi_up e22 (Or.inr (by decide))
  refine GO.callV (ci := 11) (N := mX12_says) dX12_jumps_32 (RX12, TX12, 151) rfl gV_RX12_479 h_x (t_X12_says h_x r_p0 (ir_c rfl) (by omega) (by omega) (by omega) (by omega) ⟨by omega, by omega⟩) rfl [] rfl rfl (Nat.le_of_ble_eq_true rfl) rfl (k_vs fun V31 h30 hF29 => ?_)
  refine GO.useWT (fun hW32 => ?_)
  have aq33 := hW32.aq h_x
  have raw_says := h30.2
  have rw32 := h30.2
  refine GO.aload_n dX12_jumps_35 rfl rfl ?_
  refine GO.aload_n dX12_jumps_36 rfl rfl ?_
  refine GO.getI h_x fl_RX12_443 rfl rfl dX12_jumps_37 (fun l35 u36 => ?_)
  have e39 : vi V15 x 31 = vi V x 31 := vi_up e13 (Or.inl (K_ne h_x h3 (by decide)))
  have e38 : vi V23 x 31 = vi V15 x 31 := vi_up e22 (Or.inr (by decide))
  have e37 : vi V31 x 31 = vi V23 x 31 := vi_fr hF29 h_x h_x (by decide +kernel)
  refine GO.iconst dX12_jumps_40 ?_
  refine GO.iadd dX12_jumps_41 ?_
  have q41 : -2147483648 ≤ vi V31 x 36 ∧ vi V31 x 36 ≤ 2147483647 := vi_ir
  refine GO.putI h_x fp_RX12_443 rfl (by decide +kernel) ⟨by omega, by omega⟩ (by omega) (by omega) dX12_jumps_42 (fun V42 e40 => ?_)
  have k43 := st_fld e40 aq33 h_x (by decide) (by decide)
  have sS44 : sd V42 x = sd V31 x := k43.2.1.trans (rfl : sd V31 x = sd V31 x)
  have sQ45 : wt V42 x = wt V31 x := k43.2.2.trans (rfl : wt V31 x = wt V31 x)
  have e46 : vi V42 x 31 = (vi V31 x 31) + 1 := upd2_int e40 ⟨by omega, by omega⟩
  have e47 : vi V42 x 36 = vi V31 x 36 := vi_up e40 (Or.inr (by decide))
  have e50 : vi V23 x 37 = (vi V15 x 37) + 1 := upd2_int e22 ⟨by omega, by omega⟩
  have e49 : vi V31 x 37 = vi V23 x 37 := vi_fr hF29 h_x h_x (by decide +kernel)
  have e48 : vi V42 x 37 = vi V31 x 37 := vi_up e40 (Or.inr (by decide))
  exact GO.retv rfl rfl dX12_jumps_45 ⟨rfl, rfl, ⟨by omega, ⟨RJ.jump (by assumption) (by assumption) (by omega) (by omega) (by omega) (upd_eq (sS44) raw_says.1 (sS25) (by omega)) ((sQ45).trans (raw_says.2.trans (sQ26))) (by omega) (by omega) (by omega) (by omega), NS.push (by assumption) (by omega) (by omega) ((sQ45).trans (raw_says.2.trans (sQ26))) (by omega) (by omega)⟩, upd_eq (sS44) raw_says.1 (sS25) (by omega), (sQ45).trans (raw_says.2.trans (sQ26))⟩⟩

set_option maxHeartbeats 1000000 in
theorem t_X12_readsCompared {K : Kmap} {V : Vmap} {x : Nat} {fr : Nat} {S0 : Nat → Int} (h_x : K x = some (0, 11)) (q_0 : vi V x 37 ≥ 1) (w_0 : RJ V x fr S0 0 0) (w_1 : NS V x) : MC mX12_readsCompared K V [.ref x] (IS K (fun X V1 => (X = 0 ∨ X = 1) ∧ (X ≠ 0 → vi V1 x 31 ≥ (vi V x 31 + 1) ∧ vi V1 x 36 ≥ 0 ∧ vi V1 x 37 ≥ 1) ∧ (X = 0 → True) ∧ ((X ≠ 0 → RJ V1 x fr S0 0 1) ∧ (X ≠ 0 → NS V1 x)) ∧ (CMK V V1 x X))) := by
  refine MC.start 1 (by decide +kernel) rfl rfl rfl (ls0 := [some (.ref x), none]) rfl ?_
  refine GO.useWT (fun hW1 => ?_)
  have aq2 := hW1.aq h_x
  refine GO.useWT (fun hW_0 => ?_)
  have hrd := (hW1).rd h_x
  have hle := RJ.le (V := V) (x := x) (fr := fr) (S0 := S0) (s := 0) (z := 0) (by assumption)
  refine GO.aload_n dX12_readsCompared_0 rfl rfl ?_
  have q3 : -2147483648 ≤ vi V x 37 ∧ vi V x 37 ≤ 2147483647 := vi_ir
  have q4 : -2147483648 ≤ vi V x 31 ∧ vi V x 31 ≤ 2147483647 := vi_ir
  have q5 : -2147483648 ≤ vi V x 36 ∧ vi V x 36 ≤ 2147483647 := vi_ir
  refine GO.callV (ci := 11) (N := mX12_readsSum) dX12_readsCompared_1 (RX12, TX12, 151) rfl gV_RX12_505 h_x (t_X12_readsSum h_x (by omega) ((by first | assumption)) (by omega) ((by first | assumption))) rfl [] rfl rfl (Nat.le_of_ble_eq_true rfl) rfl (k_is fun X6 V10 r7 h8 hF9 => ?_)
  refine GO.useWT (fun hW11 => ?_)
  have aq12 := hW11.aq h_x
  have raw_readsSum := h8.2.2.2.1
  have rq0_1 := h8.2.2.2.2
  have rw1 := h8.2.2.2.1
  refine GO.if_ne (tgt := 9) dX12_readsCompared_4 (by decide) r7 (fun c15 => ?_) (fun c15 => ?_)
  ·
    have q16 := h8.2.1 (by omega)
    have e17 : vi V10 x 32 = vi V x 32 := vi_fr hF9 h_x h_x (by decide +kernel)
    have rs1 := raw_readsSum.1 (by omega)
    have rs2 := raw_readsSum.2 (by omega)
    have hrd1 := (hW11).rd h_x
    have hc1 := CM1.of rq0_1 (by omega)
    refine GO.useFR (fun hFs => ?_)
    have hTp1 : ∀ src e, TP V x src e → TP V10 x src e := fun src e h => TP.fr h hFs hW_0 h_x (by decide +kernel) (by decide +kernel) (by decide +kernel)
    refine GO.aload_n dX12_readsCompared_9 rfl rfl ?_
    refine GO.callV (ci := 11) (N := mX12_sign) dX12_readsCompared_10 (RX12, TX12, 151) rfl gV_RX12_449 h_x (t_X12_sign h_x) rfl [] rfl rfl (Nat.le_of_ble_eq_true rfl) rfl (k_ip fun X20 r21 h22 => ?_)
    refine GO.bipush dX12_readsCompared_13 rfl ?_
    refine GO.icmp_ne (tgt := 23) dX12_readsCompared_15 (by decide) r21 (ir_c rfl) (fun c23 => ?_) (fun c23 => ?_)
    ·
      refine GO.aload_n dX12_readsCompared_23 rfl rfl ?_
      refine GO.callV (ci := 11) (N := mX12_sign) dX12_readsCompared_24 (RX12, TX12, 151) rfl gV_RX12_449 h_x (t_X12_sign h_x) rfl [] rfl rfl (Nat.le_of_ble_eq_true rfl) rfl (k_ip fun X24 r25 h26 => ?_)
      refine GO.bipush dX12_readsCompared_27 rfl ?_
      refine GO.icmp_ne (tgt := 37) dX12_readsCompared_29 (by decide) r25 (ir_c rfl) (fun c27 => ?_) (fun c27 => ?_)
      ·
        refine GO.aload_n dX12_readsCompared_37 rfl rfl ?_
        refine GO.callV (ci := 11) (N := mX12_sign) dX12_readsCompared_38 (RX12, TX12, 151) rfl gV_RX12_449 h_x (t_X12_sign h_x) rfl [] rfl rfl (Nat.le_of_ble_eq_true rfl) rfl (k_ip fun X28 r29 h30 => ?_)
        refine GO.bipush dX12_readsCompared_41 rfl ?_
        refine GO.icmp_ne (tgt := 51) dX12_readsCompared_43 (by decide) r29 (ir_c rfl) (fun c31 => ?_) (fun c31 => ?_)
        ·
          refine GO.iconst dX12_readsCompared_51 ?_
          refine GO.istore_n (ls1 := [some (.ref x), some (ti (-1))]) dX12_readsCompared_52 rfl rfl rfl ?_
          refine GO.iload_n dX12_readsCompared_53 rfl rfl ?_
          refine GO.iconst dX12_readsCompared_54 ?_
          refine GO.icmp_ne (tgt := 68) dX12_readsCompared_55 (by decide) (ir_c rfl) (ir_c rfl) (fun h => by exfalso; omega) (fun c32 => ?_)
          refine GO.aload_n dX12_readsCompared_58 rfl rfl ?_
          refine GO.iconst dX12_readsCompared_59 ?_
          refine GO.aload_n dX12_readsCompared_60 rfl rfl ?_
          refine GO.getI h_x fl_RX12_443 rfl rfl dX12_readsCompared_61 (fun l33 u34 => ?_)
          have q35 : -2147483648 ≤ vi V10 x 31 ∧ vi V10 x 31 ≤ 2147483647 := vi_ir
          have q36 : -2147483648 ≤ vi V10 x 37 ∧ vi V10 x 37 ≤ 2147483647 := vi_ir
          refine GO.callV (ci := 11) (N := mX12_wrong) dX12_readsCompared_64 (RX12, TX12, 151) rfl gV_RX12_456 h_x (t_X12_wrong h_x (ir_c rfl) vi_ir (by omega) (by omega) (by omega) (by omega)) rfl [] rfl rfl (Nat.le_of_ble_eq_true rfl) rfl (k_is fun X37 V41 r38 h39 hF40 => ?_)
          have k42 := st_fr hF40 aq12 h_x (by decide +kernel) (by decide +kernel) (by decide +kernel) (by decide +kernel)
          have sS43 : sd V41 x = sd V10 x := k42.2.1.trans (rfl : sd V10 x = sd V10 x)
          have sQ44 : wt V41 x = wt V10 x := k42.2.2.trans (rfl : wt V10 x = wt V10 x)
          have e46 : vi V41 x 31 = vi V10 x 31 := vi_fr hF40 h_x h_x (by decide +kernel)
          have q47 : -2147483648 ≤ vi V41 x 33 ∧ vi V41 x 33 ≤ 2147483647 := vi_ir
          have e48 : vi V41 x 36 = vi V10 x 36 := vi_fr hF40 h_x h_x (by decide +kernel)
          have q49 : -2147483648 ≤ vi V10 x 36 ∧ vi V10 x 36 ≤ 2147483647 := vi_ir
          have e50 : vi V41 x 37 = vi V10 x 37 := vi_fr hF40 h_x h_x (by decide +kernel)
          have e51 : vi V41 x 35 = vi V10 x 35 := vi_fr hF40 h_x h_x (by decide +kernel)
          exact GO.retz rfl rfl dX12_readsCompared_67 (by omega) ⟨rfl, _, rfl, r38, ⟨by omega, fun h => by omega, fun _ => trivial, ⟨(by first | exact fun h => absurd h (by omega)), (by first | exact fun h => absurd h (by omega))⟩, (by first | exact CMK.e2 hc1 hTp1 (by omega) (by omega) (by omega) (by omega) | exact CMK.e1 rq0_1 (by omega) rfl rfl)⟩⟩
        ·
          refine GO.bipush dX12_readsCompared_46 rfl ?_
          refine GO.goto (tgt := 52) dX12_readsCompared_48 (by decide) ?_
          refine GO.istore_n (ls1 := [some (.ref x), some (ti 9)]) dX12_readsCompared_52 rfl rfl rfl ?_
          refine GO.iload_n dX12_readsCompared_53 rfl rfl ?_
          refine GO.iconst dX12_readsCompared_54 ?_
          refine GO.icmp_ne (tgt := 68) dX12_readsCompared_55 (by decide) (ir_c rfl) (ir_c rfl) (fun c52 => ?_) (fun h => by exfalso; omega)
          refine GO.aload_n dX12_readsCompared_68 rfl rfl ?_
          refine GO.aload_n dX12_readsCompared_69 rfl rfl ?_
          refine GO.getI h_x fl_RX12_443 rfl rfl dX12_readsCompared_70 (fun l53 u54 => ?_)
          refine GO.iconst dX12_readsCompared_73 ?_
          refine GO.iadd dX12_readsCompared_74 ?_
          have q56 : -2147483648 ≤ vi V10 x 31 ∧ vi V10 x 31 ≤ 2147483647 := vi_ir
          have q57 : -2147483648 ≤ vi V x 32 ∧ vi V x 32 ≤ 2147483647 := vi_ir
          have q58 : -2147483648 ≤ vi V10 x 37 ∧ vi V10 x 37 ≤ 2147483647 := vi_ir
          refine GO.putI h_x fp_RX12_443 rfl (by decide +kernel) ⟨by omega, by omega⟩ (by omega) (by omega) dX12_readsCompared_75 (fun V59 e55 => ?_)
          have k60 := st_fld e55 aq12 h_x (by decide) (by decide)
          have sS61 : sd V59 x = sd V10 x := k60.2.1.trans (rfl : sd V10 x = sd V10 x)
          have sQ62 : wt V59 x = wt V10 x := k60.2.2.trans (rfl : wt V10 x = wt V10 x)
          have e63 : vi V59 x 31 = (vi V10 x 31) + 1 := upd2_int e55 ⟨by omega, by omega⟩
          have e64 : vi V59 x 36 = vi V10 x 36 := vi_up e55 (Or.inr (by decide))
          have e65 : vi V59 x 37 = vi V10 x 37 := vi_up e55 (Or.inr (by decide))
          have e66 : vi V59 x 35 = vi V10 x 35 := vi_up e55 (Or.inr (by decide))
          have hns2 := NS.sq (by assumption) rs2 (sQ62) (by omega)
          have hq2 := sQ62
          have hc2 := CM2.of (k := 9) hc1 hTp1 (by omega) (by omega) (by omega) (by omega) (sS61) (by omega)
          refine GO.useFR (fun hFs => ?_)
          have hTp2 : ∀ src e, TP V x src e → TP V59 x src e := fun src e h => TP.fr h hFs hW_0 h_x (by decide +kernel) (by decide +kernel) (by decide +kernel)
          refine GO.aload_n dX12_readsCompared_78 rfl rfl ?_
          refine GO.callV (ci := 11) (N := mX12_readsSum) dX12_readsCompared_79 (RX12, TX12, 151) rfl gV_RX12_505 h_x (t_X12_readsSum h_x (by omega) ((by first | assumption | exact RJ.on (s1 := 1) rs1 (sS61) (sQ62) (by omega) (by omega) (by omega) (by omega))) (by omega) ((by first | assumption | exact NS.sq (by assumption) rs2 (sQ62) (by omega)))) rfl [] rfl rfl (Nat.le_of_ble_eq_true rfl) rfl (k_is fun X67 V71 r68 h69 hF70 => ?_)
          refine GO.useWT (fun hW72 => ?_)
          have aq73 := hW72.aq h_x
          have raw_readsSum := h69.2.2.2.1
          have rq0_79 := h69.2.2.2.2
          have rw79 := h69.2.2.2.1
          refine GO.if_ne (tgt := 87) dX12_readsCompared_82 (by decide) r68 (fun c76 => ?_) (fun c76 => ?_)
          ·
            have q77 := h69.2.1 (by omega)
            have ts1 := raw_readsSum.1 (by omega)
            have ts2 := raw_readsSum.2 (by omega)
            have hrd2 := (hW72).rd h_x
            have ht2 := ts1.le
            have hlw : vi V71 x 37 = vi V x 37 ∧ ∀ j, j < (vi V x 37).toNat → wt V71 x j = wt V x j := ⟨by omega, fun j hj => (ts2.2 j (by omega)).trans ((congrFun hq2 j).trans (rs2.2 j hj))⟩
            refine GO.aload_n dX12_readsCompared_87 rfl rfl ?_
            refine GO.iload_n dX12_readsCompared_88 rfl rfl ?_
            refine GO.iconst dX12_readsCompared_89 ?_
            refine GO.callV (ci := 11) (N := mX12_says) dX12_readsCompared_90 (RX12, TX12, 151) rfl gV_RX12_479 h_x (t_X12_says h_x (ir_c rfl) (ir_c rfl) (by omega) (by omega) (by omega) (by omega) ⟨by omega, by omega⟩) rfl [] rfl rfl (Nat.le_of_ble_eq_true rfl) rfl (k_vs fun V82 h81 hF80 => ?_)
            refine GO.useWT (fun hW83 => ?_)
            have aq84 := hW83.aq h_x
            have raw_says := h81.2
            have rw90 := h81.2
            have e86 : vi V82 x 31 = vi V71 x 31 := vi_fr hF80 h_x h_x (by decide +kernel)
            have e87 : vi V82 x 37 = vi V71 x 37 := vi_fr hF80 h_x h_x (by decide +kernel)
            have e88 : vi V82 x 35 = vi V71 x 35 := vi_fr hF80 h_x h_x (by decide +kernel)
            refine GO.aload_n dX12_readsCompared_93 rfl rfl ?_
            refine GO.callV (ci := 11) (N := mX12_endsPiece) dX12_readsCompared_94 (RX12, TX12, 151) rfl gV_RX12_508 h_x (t_X12_endsPiece h_x (RJ.zz (RJ.cmp ts1 (by omega) (by omega) (upd_eq ((rfl : sd V82 x = sd V82 x)) raw_says.1 ((rfl : sd V71 x = sd V71 x)) (by omega)) (((rfl : wt V82 x = wt V82 x)).trans (raw_says.2.trans ((rfl : wt V71 x = wt V71 x)))) (by omega) (by omega) (by omega) (by omega) (by omega) rfl) rfl) (by omega) (NS.sq hns2 ts2 (((rfl : wt V82 x = wt V82 x)).trans (raw_says.2.trans ((rfl : wt V71 x = wt V71 x)))) (by omega)) (by omega)) rfl [] rfl rfl (Nat.le_of_ble_eq_true rfl) rfl (k_vs fun V91 h90 hF89 => ?_)
            refine GO.useWT (fun hW92 => ?_)
            have aq93 := hW92.aq h_x
            have raw_endsPiece := h90.2.1
            have rq0_94 := h90.2.2.1
            have rq1_94 := h90.2.2.2
            have rw94 := h90.2.1
            have e94 : vi V91 x 31 = vi V82 x 31 := vi_fr hF89 h_x h_x (by decide +kernel)
            refine GO.iconst dX12_readsCompared_97 ?_
            have q97 : -2147483648 ≤ vi V71 x 31 ∧ vi V71 x 31 ≤ 2147483647 := vi_ir
            have q98 : -2147483648 ≤ vi V71 x 37 ∧ vi V71 x 37 ≤ 2147483647 := vi_ir
            have q99 : -2147483648 ≤ vi V91 x 37 ∧ vi V91 x 37 ≤ 2147483647 := vi_ir
            have q100 : -2147483648 ≤ vi V91 x 36 ∧ vi V91 x 36 ≤ 2147483647 := vi_ir
            exact GO.retz rfl rfl dX12_readsCompared_98 (Or.inr rfl) ⟨rfl, _, rfl, (ir_c rfl), ⟨Or.inr rfl, fun h => by omega, fun _ => trivial, ⟨(by first | exact fun h => absurd h (by decide) | exact fun _ => raw_endsPiece.1), (by first | exact fun h => absurd h (by decide) | exact fun _ => raw_endsPiece.2)⟩, (by first | exact CMK.ok hc2 hTp2 (fun _ => ⟨hns2, by omega⟩) rq0_79 (by omega) (by omega) raw_says.1 raw_says.2 (by omega) (by omega) (by omega) (by omega) (by omega) hlw rq0_94 raw_endsPiece.2 (by omega) rq1_94 | exact CMK.e3 hc2 hTp2 (fun _ => ⟨hns2, by omega⟩) rq0_79 (by omega) rfl | exact CMK.e2 hc1 hTp1 (by omega) (by omega) (by omega) (by omega) | exact CMK.e1 rq0_1 (by omega) rfl rfl)⟩⟩
          ·
            refine GO.iconst dX12_readsCompared_85 ?_
            have q105 : -2147483648 ≤ vi V71 x 31 ∧ vi V71 x 31 ≤ 2147483647 := vi_ir
            have q107 : -2147483648 ≤ vi V71 x 36 ∧ vi V71 x 36 ≤ 2147483647 := vi_ir
            have q108 : -2147483648 ≤ vi V71 x 37 ∧ vi V71 x 37 ≤ 2147483647 := vi_ir
            exact GO.retz rfl rfl dX12_readsCompared_86 (Or.inl rfl) ⟨rfl, _, rfl, (ir_c rfl), ⟨Or.inl rfl, fun h => absurd rfl h, fun _ => trivial, ⟨(by first | exact fun h => absurd rfl h), (by first | exact fun h => absurd rfl h)⟩, (by first | exact CMK.e3 hc2 hTp2 (fun _ => ⟨hns2, by omega⟩) rq0_79 (by omega) rfl | exact CMK.e2 hc1 hTp1 (by omega) (by omega) (by omega) (by omega) | exact CMK.e1 rq0_1 (by omega) rfl rfl)⟩⟩
      ·
        refine GO.bipush dX12_readsCompared_32 rfl ?_
        refine GO.goto (tgt := 52) dX12_readsCompared_34 (by decide) ?_
        refine GO.istore_n (ls1 := [some (.ref x), some (ti 8)]) dX12_readsCompared_52 rfl rfl rfl ?_
        refine GO.iload_n dX12_readsCompared_53 rfl rfl ?_
        refine GO.iconst dX12_readsCompared_54 ?_
        refine GO.icmp_ne (tgt := 68) dX12_readsCompared_55 (by decide) (ir_c rfl) (ir_c rfl) (fun c111 => ?_) (fun h => by exfalso; omega)
        refine GO.aload_n dX12_readsCompared_68 rfl rfl ?_
        refine GO.aload_n dX12_readsCompared_69 rfl rfl ?_
        refine GO.getI h_x fl_RX12_443 rfl rfl dX12_readsCompared_70 (fun l112 u113 => ?_)
        refine GO.iconst dX12_readsCompared_73 ?_
        refine GO.iadd dX12_readsCompared_74 ?_
        have q115 : -2147483648 ≤ vi V10 x 31 ∧ vi V10 x 31 ≤ 2147483647 := vi_ir
        have q116 : -2147483648 ≤ vi V x 32 ∧ vi V x 32 ≤ 2147483647 := vi_ir
        have q117 : -2147483648 ≤ vi V10 x 37 ∧ vi V10 x 37 ≤ 2147483647 := vi_ir
        refine GO.putI h_x fp_RX12_443 rfl (by decide +kernel) ⟨by omega, by omega⟩ (by omega) (by omega) dX12_readsCompared_75 (fun V118 e114 => ?_)
        have k119 := st_fld e114 aq12 h_x (by decide) (by decide)
        have sS120 : sd V118 x = sd V10 x := k119.2.1.trans (rfl : sd V10 x = sd V10 x)
        have sQ121 : wt V118 x = wt V10 x := k119.2.2.trans (rfl : wt V10 x = wt V10 x)
        have e122 : vi V118 x 31 = (vi V10 x 31) + 1 := upd2_int e114 ⟨by omega, by omega⟩
        have e123 : vi V118 x 36 = vi V10 x 36 := vi_up e114 (Or.inr (by decide))
        have e124 : vi V118 x 37 = vi V10 x 37 := vi_up e114 (Or.inr (by decide))
        have e125 : vi V118 x 35 = vi V10 x 35 := vi_up e114 (Or.inr (by decide))
        have hns2 := NS.sq (by assumption) rs2 (sQ121) (by omega)
        have hq2 := sQ121
        have hc2 := CM2.of (k := 8) hc1 hTp1 (by omega) (by omega) (by omega) (by omega) (sS120) (by omega)
        refine GO.useFR (fun hFs => ?_)
        have hTp2 : ∀ src e, TP V x src e → TP V118 x src e := fun src e h => TP.fr h hFs hW_0 h_x (by decide +kernel) (by decide +kernel) (by decide +kernel)
        refine GO.aload_n dX12_readsCompared_78 rfl rfl ?_
        refine GO.callV (ci := 11) (N := mX12_readsSum) dX12_readsCompared_79 (RX12, TX12, 151) rfl gV_RX12_505 h_x (t_X12_readsSum h_x (by omega) ((by first | assumption | exact RJ.on (s1 := 1) rs1 (sS120) (sQ121) (by omega) (by omega) (by omega) (by omega))) (by omega) ((by first | assumption | exact NS.sq (by assumption) rs2 (sQ121) (by omega)))) rfl [] rfl rfl (Nat.le_of_ble_eq_true rfl) rfl (k_is fun X126 V130 r127 h128 hF129 => ?_)
        refine GO.useWT (fun hW131 => ?_)
        have aq132 := hW131.aq h_x
        have raw_readsSum := h128.2.2.2.1
        have rq0_79 := h128.2.2.2.2
        have rw79 := h128.2.2.2.1
        refine GO.if_ne (tgt := 87) dX12_readsCompared_82 (by decide) r127 (fun c135 => ?_) (fun c135 => ?_)
        ·
          have q136 := h128.2.1 (by omega)
          have ts1 := raw_readsSum.1 (by omega)
          have ts2 := raw_readsSum.2 (by omega)
          have hrd2 := (hW131).rd h_x
          have ht2 := ts1.le
          have hlw : vi V130 x 37 = vi V x 37 ∧ ∀ j, j < (vi V x 37).toNat → wt V130 x j = wt V x j := ⟨by omega, fun j hj => (ts2.2 j (by omega)).trans ((congrFun hq2 j).trans (rs2.2 j hj))⟩
          refine GO.aload_n dX12_readsCompared_87 rfl rfl ?_
          refine GO.iload_n dX12_readsCompared_88 rfl rfl ?_
          refine GO.iconst dX12_readsCompared_89 ?_
          refine GO.callV (ci := 11) (N := mX12_says) dX12_readsCompared_90 (RX12, TX12, 151) rfl gV_RX12_479 h_x (t_X12_says h_x (ir_c rfl) (ir_c rfl) (by omega) (by omega) (by omega) (by omega) ⟨by omega, by omega⟩) rfl [] rfl rfl (Nat.le_of_ble_eq_true rfl) rfl (k_vs fun V141 h140 hF139 => ?_)
          refine GO.useWT (fun hW142 => ?_)
          have aq143 := hW142.aq h_x
          have raw_says := h140.2
          have rw90 := h140.2
          have e145 : vi V141 x 31 = vi V130 x 31 := vi_fr hF139 h_x h_x (by decide +kernel)
          have e146 : vi V141 x 37 = vi V130 x 37 := vi_fr hF139 h_x h_x (by decide +kernel)
          have e147 : vi V141 x 35 = vi V130 x 35 := vi_fr hF139 h_x h_x (by decide +kernel)
          refine GO.aload_n dX12_readsCompared_93 rfl rfl ?_
          refine GO.callV (ci := 11) (N := mX12_endsPiece) dX12_readsCompared_94 (RX12, TX12, 151) rfl gV_RX12_508 h_x (t_X12_endsPiece h_x (RJ.zz (RJ.cmp ts1 (by omega) (by omega) (upd_eq ((rfl : sd V141 x = sd V141 x)) raw_says.1 ((rfl : sd V130 x = sd V130 x)) (by omega)) (((rfl : wt V141 x = wt V141 x)).trans (raw_says.2.trans ((rfl : wt V130 x = wt V130 x)))) (by omega) (by omega) (by omega) (by omega) (by omega) rfl) rfl) (by omega) (NS.sq hns2 ts2 (((rfl : wt V141 x = wt V141 x)).trans (raw_says.2.trans ((rfl : wt V130 x = wt V130 x)))) (by omega)) (by omega)) rfl [] rfl rfl (Nat.le_of_ble_eq_true rfl) rfl (k_vs fun V150 h149 hF148 => ?_)
          refine GO.useWT (fun hW151 => ?_)
          have aq152 := hW151.aq h_x
          have raw_endsPiece := h149.2.1
          have rq0_94 := h149.2.2.1
          have rq1_94 := h149.2.2.2
          have rw94 := h149.2.1
          have e153 : vi V150 x 31 = vi V141 x 31 := vi_fr hF148 h_x h_x (by decide +kernel)
          refine GO.iconst dX12_readsCompared_97 ?_
          have q156 : -2147483648 ≤ vi V130 x 31 ∧ vi V130 x 31 ≤ 2147483647 := vi_ir
          have q157 : -2147483648 ≤ vi V130 x 37 ∧ vi V130 x 37 ≤ 2147483647 := vi_ir
          have q158 : -2147483648 ≤ vi V150 x 37 ∧ vi V150 x 37 ≤ 2147483647 := vi_ir
          have q159 : -2147483648 ≤ vi V150 x 36 ∧ vi V150 x 36 ≤ 2147483647 := vi_ir
          exact GO.retz rfl rfl dX12_readsCompared_98 (Or.inr rfl) ⟨rfl, _, rfl, (ir_c rfl), ⟨Or.inr rfl, fun h => by omega, fun _ => trivial, ⟨(by first | exact fun h => absurd h (by decide) | exact fun _ => raw_endsPiece.1), (by first | exact fun h => absurd h (by decide) | exact fun _ => raw_endsPiece.2)⟩, (by first | exact CMK.ok hc2 hTp2 (fun _ => ⟨hns2, by omega⟩) rq0_79 (by omega) (by omega) raw_says.1 raw_says.2 (by omega) (by omega) (by omega) (by omega) (by omega) hlw rq0_94 raw_endsPiece.2 (by omega) rq1_94 | exact CMK.e3 hc2 hTp2 (fun _ => ⟨hns2, by omega⟩) rq0_79 (by omega) rfl | exact CMK.e2 hc1 hTp1 (by omega) (by omega) (by omega) (by omega) | exact CMK.e1 rq0_1 (by omega) rfl rfl)⟩⟩
        ·
          refine GO.iconst dX12_readsCompared_85 ?_
          have q164 : -2147483648 ≤ vi V130 x 31 ∧ vi V130 x 31 ≤ 2147483647 := vi_ir
          have q166 : -2147483648 ≤ vi V130 x 36 ∧ vi V130 x 36 ≤ 2147483647 := vi_ir
          have q167 : -2147483648 ≤ vi V130 x 37 ∧ vi V130 x 37 ≤ 2147483647 := vi_ir
          exact GO.retz rfl rfl dX12_readsCompared_86 (Or.inl rfl) ⟨rfl, _, rfl, (ir_c rfl), ⟨Or.inl rfl, fun h => absurd rfl h, fun _ => trivial, ⟨(by first | exact fun h => absurd rfl h), (by first | exact fun h => absurd rfl h)⟩, (by first | exact CMK.e3 hc2 hTp2 (fun _ => ⟨hns2, by omega⟩) rq0_79 (by omega) rfl | exact CMK.e2 hc1 hTp1 (by omega) (by omega) (by omega) (by omega) | exact CMK.e1 rq0_1 (by omega) rfl rfl)⟩⟩
    ·
      refine GO.bipush dX12_readsCompared_18 rfl ?_
      refine GO.goto (tgt := 52) dX12_readsCompared_20 (by decide) ?_
      refine GO.istore_n (ls1 := [some (.ref x), some (ti 7)]) dX12_readsCompared_52 rfl rfl rfl ?_
      refine GO.iload_n dX12_readsCompared_53 rfl rfl ?_
      refine GO.iconst dX12_readsCompared_54 ?_
      refine GO.icmp_ne (tgt := 68) dX12_readsCompared_55 (by decide) (ir_c rfl) (ir_c rfl) (fun c170 => ?_) (fun h => by exfalso; omega)
      refine GO.aload_n dX12_readsCompared_68 rfl rfl ?_
      refine GO.aload_n dX12_readsCompared_69 rfl rfl ?_
      refine GO.getI h_x fl_RX12_443 rfl rfl dX12_readsCompared_70 (fun l171 u172 => ?_)
      refine GO.iconst dX12_readsCompared_73 ?_
      refine GO.iadd dX12_readsCompared_74 ?_
      have q174 : -2147483648 ≤ vi V10 x 31 ∧ vi V10 x 31 ≤ 2147483647 := vi_ir
      have q175 : -2147483648 ≤ vi V x 32 ∧ vi V x 32 ≤ 2147483647 := vi_ir
      have q176 : -2147483648 ≤ vi V10 x 37 ∧ vi V10 x 37 ≤ 2147483647 := vi_ir
      refine GO.putI h_x fp_RX12_443 rfl (by decide +kernel) ⟨by omega, by omega⟩ (by omega) (by omega) dX12_readsCompared_75 (fun V177 e173 => ?_)
      have k178 := st_fld e173 aq12 h_x (by decide) (by decide)
      have sS179 : sd V177 x = sd V10 x := k178.2.1.trans (rfl : sd V10 x = sd V10 x)
      have sQ180 : wt V177 x = wt V10 x := k178.2.2.trans (rfl : wt V10 x = wt V10 x)
      have e181 : vi V177 x 31 = (vi V10 x 31) + 1 := upd2_int e173 ⟨by omega, by omega⟩
      have e182 : vi V177 x 36 = vi V10 x 36 := vi_up e173 (Or.inr (by decide))
      have e183 : vi V177 x 37 = vi V10 x 37 := vi_up e173 (Or.inr (by decide))
      have e184 : vi V177 x 35 = vi V10 x 35 := vi_up e173 (Or.inr (by decide))
      have hns2 := NS.sq (by assumption) rs2 (sQ180) (by omega)
      have hq2 := sQ180
      have hc2 := CM2.of (k := 7) hc1 hTp1 (by omega) (by omega) (by omega) (by omega) (sS179) (by omega)
      refine GO.useFR (fun hFs => ?_)
      have hTp2 : ∀ src e, TP V x src e → TP V177 x src e := fun src e h => TP.fr h hFs hW_0 h_x (by decide +kernel) (by decide +kernel) (by decide +kernel)
      refine GO.aload_n dX12_readsCompared_78 rfl rfl ?_
      refine GO.callV (ci := 11) (N := mX12_readsSum) dX12_readsCompared_79 (RX12, TX12, 151) rfl gV_RX12_505 h_x (t_X12_readsSum h_x (by omega) ((by first | assumption | exact RJ.on (s1 := 1) rs1 (sS179) (sQ180) (by omega) (by omega) (by omega) (by omega))) (by omega) ((by first | assumption | exact NS.sq (by assumption) rs2 (sQ180) (by omega)))) rfl [] rfl rfl (Nat.le_of_ble_eq_true rfl) rfl (k_is fun X185 V189 r186 h187 hF188 => ?_)
      refine GO.useWT (fun hW190 => ?_)
      have aq191 := hW190.aq h_x
      have raw_readsSum := h187.2.2.2.1
      have rq0_79 := h187.2.2.2.2
      have rw79 := h187.2.2.2.1
      refine GO.if_ne (tgt := 87) dX12_readsCompared_82 (by decide) r186 (fun c194 => ?_) (fun c194 => ?_)
      ·
        have q195 := h187.2.1 (by omega)
        have ts1 := raw_readsSum.1 (by omega)
        have ts2 := raw_readsSum.2 (by omega)
        have hrd2 := (hW190).rd h_x
        have ht2 := ts1.le
        have hlw : vi V189 x 37 = vi V x 37 ∧ ∀ j, j < (vi V x 37).toNat → wt V189 x j = wt V x j := ⟨by omega, fun j hj => (ts2.2 j (by omega)).trans ((congrFun hq2 j).trans (rs2.2 j hj))⟩
        refine GO.aload_n dX12_readsCompared_87 rfl rfl ?_
        refine GO.iload_n dX12_readsCompared_88 rfl rfl ?_
        refine GO.iconst dX12_readsCompared_89 ?_
        refine GO.callV (ci := 11) (N := mX12_says) dX12_readsCompared_90 (RX12, TX12, 151) rfl gV_RX12_479 h_x (t_X12_says h_x (ir_c rfl) (ir_c rfl) (by omega) (by omega) (by omega) (by omega) ⟨by omega, by omega⟩) rfl [] rfl rfl (Nat.le_of_ble_eq_true rfl) rfl (k_vs fun V200 h199 hF198 => ?_)
        refine GO.useWT (fun hW201 => ?_)
        have aq202 := hW201.aq h_x
        have raw_says := h199.2
        have rw90 := h199.2
        have e204 : vi V200 x 31 = vi V189 x 31 := vi_fr hF198 h_x h_x (by decide +kernel)
        have e205 : vi V200 x 37 = vi V189 x 37 := vi_fr hF198 h_x h_x (by decide +kernel)
        have e206 : vi V200 x 35 = vi V189 x 35 := vi_fr hF198 h_x h_x (by decide +kernel)
        refine GO.aload_n dX12_readsCompared_93 rfl rfl ?_
        refine GO.callV (ci := 11) (N := mX12_endsPiece) dX12_readsCompared_94 (RX12, TX12, 151) rfl gV_RX12_508 h_x (t_X12_endsPiece h_x (RJ.zz (RJ.cmp ts1 (by omega) (by omega) (upd_eq ((rfl : sd V200 x = sd V200 x)) raw_says.1 ((rfl : sd V189 x = sd V189 x)) (by omega)) (((rfl : wt V200 x = wt V200 x)).trans (raw_says.2.trans ((rfl : wt V189 x = wt V189 x)))) (by omega) (by omega) (by omega) (by omega) (by omega) rfl) rfl) (by omega) (NS.sq hns2 ts2 (((rfl : wt V200 x = wt V200 x)).trans (raw_says.2.trans ((rfl : wt V189 x = wt V189 x)))) (by omega)) (by omega)) rfl [] rfl rfl (Nat.le_of_ble_eq_true rfl) rfl (k_vs fun V209 h208 hF207 => ?_)
        refine GO.useWT (fun hW210 => ?_)
        have aq211 := hW210.aq h_x
        have raw_endsPiece := h208.2.1
        have rq0_94 := h208.2.2.1
        have rq1_94 := h208.2.2.2
        have rw94 := h208.2.1
        have e212 : vi V209 x 31 = vi V200 x 31 := vi_fr hF207 h_x h_x (by decide +kernel)
        refine GO.iconst dX12_readsCompared_97 ?_
        have q215 : -2147483648 ≤ vi V189 x 31 ∧ vi V189 x 31 ≤ 2147483647 := vi_ir
        have q216 : -2147483648 ≤ vi V189 x 37 ∧ vi V189 x 37 ≤ 2147483647 := vi_ir
        have q217 : -2147483648 ≤ vi V209 x 37 ∧ vi V209 x 37 ≤ 2147483647 := vi_ir
        have q218 : -2147483648 ≤ vi V209 x 36 ∧ vi V209 x 36 ≤ 2147483647 := vi_ir
        exact GO.retz rfl rfl dX12_readsCompared_98 (Or.inr rfl) ⟨rfl, _, rfl, (ir_c rfl), ⟨Or.inr rfl, fun h => by omega, fun _ => trivial, ⟨(by first | exact fun h => absurd h (by decide) | exact fun _ => raw_endsPiece.1), (by first | exact fun h => absurd h (by decide) | exact fun _ => raw_endsPiece.2)⟩, (by first | exact CMK.ok hc2 hTp2 (fun _ => ⟨hns2, by omega⟩) rq0_79 (by omega) (by omega) raw_says.1 raw_says.2 (by omega) (by omega) (by omega) (by omega) (by omega) hlw rq0_94 raw_endsPiece.2 (by omega) rq1_94 | exact CMK.e3 hc2 hTp2 (fun _ => ⟨hns2, by omega⟩) rq0_79 (by omega) rfl | exact CMK.e2 hc1 hTp1 (by omega) (by omega) (by omega) (by omega) | exact CMK.e1 rq0_1 (by omega) rfl rfl)⟩⟩
      ·
        refine GO.iconst dX12_readsCompared_85 ?_
        have q223 : -2147483648 ≤ vi V189 x 31 ∧ vi V189 x 31 ≤ 2147483647 := vi_ir
        have q225 : -2147483648 ≤ vi V189 x 36 ∧ vi V189 x 36 ≤ 2147483647 := vi_ir
        have q226 : -2147483648 ≤ vi V189 x 37 ∧ vi V189 x 37 ≤ 2147483647 := vi_ir
        exact GO.retz rfl rfl dX12_readsCompared_86 (Or.inl rfl) ⟨rfl, _, rfl, (ir_c rfl), ⟨Or.inl rfl, fun h => absurd rfl h, fun _ => trivial, ⟨(by first | exact fun h => absurd rfl h), (by first | exact fun h => absurd rfl h)⟩, (by first | exact CMK.e3 hc2 hTp2 (fun _ => ⟨hns2, by omega⟩) rq0_79 (by omega) rfl | exact CMK.e2 hc1 hTp1 (by omega) (by omega) (by omega) (by omega) | exact CMK.e1 rq0_1 (by omega) rfl rfl)⟩⟩
  ·
    refine GO.iconst dX12_readsCompared_7 ?_
    have q229 : -2147483648 ≤ vi V10 x 31 ∧ vi V10 x 31 ≤ 2147483647 := vi_ir
    have q231 : -2147483648 ≤ vi V10 x 36 ∧ vi V10 x 36 ≤ 2147483647 := vi_ir
    have q232 : -2147483648 ≤ vi V10 x 37 ∧ vi V10 x 37 ≤ 2147483647 := vi_ir
    exact GO.retz rfl rfl dX12_readsCompared_8 (Or.inl rfl) ⟨rfl, _, rfl, (ir_c rfl), ⟨Or.inl rfl, fun h => absurd rfl h, fun _ => trivial, ⟨(by first | exact fun h => absurd rfl h), (by first | exact fun h => absurd rfl h)⟩, (by first | exact CMK.e1 rq0_1 (by omega) rfl rfl)⟩⟩

set_option maxHeartbeats 1000000 in
theorem t_X12_readsCondition {K : Kmap} {V : Vmap} {x : Nat} {fr : Nat} {S0 : Nat → Int} (h_x : K x = some (0, 11)) (q_0 : vi V x 36 ≤ vi V x 31) (w_0 : SB V x fr S0) : MC mX12_readsCondition K V [.ref x] (IS K (fun X V1 => (X = 0 ∨ X = 1) ∧ (X ≠ 0 → vi V1 x 31 ≥ (vi V x 31 + 1)) ∧ (X = 0 → True) ∧ ((X ≠ 0 → RF V1 x fr S0)) ∧ (CND V V1 x X))) := by
  refine MC.start 0 (by decide +kernel) rfl rfl rfl (ls0 := [some (.ref x)]) rfl ?_
  refine GO.useWT (fun hW1 => ?_)
  have aq2 := hW1.aq h_x
  refine GO.useWT (fun hW_0 => ?_)
  have hrd := (hW1).rd h_x
  refine GO.aload_n dX12_readsCondition_0 rfl rfl ?_
  refine GO.iconst dX12_readsCondition_1 ?_
  refine GO.putI h_x fp_RX12_470 rfl (by decide +kernel) (ir_c rfl) (by decide) (by decide) dX12_readsCondition_2 (fun V4 e3 => ?_)
  have k5 := st_fld e3 aq2 h_x (by decide) (by decide)
  have sS6 : sd V4 x = sd V x := k5.2.1.trans (rfl : sd V x = sd V x)
  have sQ7 : wt V4 x = wt V x := k5.2.2.trans (rfl : wt V x = wt V x)
  refine GO.aload_n dX12_readsCondition_5 rfl rfl ?_
  refine GO.iconst dX12_readsCondition_6 ?_
  refine GO.putI h_x fp_RX12_473 rfl (by decide +kernel) (ir_c rfl) (by decide) (by decide) dX12_readsCondition_7 (fun V9 e8 => ?_)
  have k10 := st_fld e8 k5.1 h_x (by decide) (by decide)
  have sS11 : sd V9 x = sd V x := k10.2.1.trans sS6
  have sQ12 : wt V9 x = wt V x := k10.2.2.trans sQ7
  have e14 : vi V4 x 31 = vi V x 31 := vi_up e3 (Or.inr (by decide))
  have e13 : vi V9 x 31 = vi V4 x 31 := vi_up e8 (Or.inr (by decide))
  have e16 : vi V4 x 36 = vi V x 36 := vi_up e3 (Or.inr (by decide))
  have e15 : vi V9 x 36 = vi V4 x 36 := vi_up e8 (Or.inr (by decide))
  have e17 : vi V9 x 37 = 0 := upd2_int e8 (ir_c rfl)
  have e19 : vi V4 x 35 = 0 := upd2_int e3 (ir_c rfl)
  have e18 : vi V9 x 35 = vi V4 x 35 := vi_up e8 (Or.inr (by decide))
  have hb := RJ.beg (by assumption) (sS11) (by omega) (by omega) (by omega) (by omega) (by omega)
  refine GO.useFR (fun hFs => ?_)
  have hTa : ∀ src e, TP V x src e → TP V9 x src e := fun src e h => TP.fr h hFs hW_0 h_x (by decide +kernel) (by decide +kernel) (by decide +kernel)
  have hs0 := sS11
  refine GO.aload_n dX12_readsCondition_10 rfl rfl ?_
  refine GO.callV (ci := 11) (N := mX12_sign) dX12_readsCondition_11 (RX12, TX12, 151) rfl gV_RX12_449 h_x (t_X12_sign h_x) rfl [] rfl rfl (Nat.le_of_ble_eq_true rfl) rfl (k_ip fun X20 r21 h22 => ?_)
  have e24 : vi V4 x 32 = vi V x 32 := vi_up e3 (Or.inr (by decide))
  have e23 : vi V9 x 32 = vi V4 x 32 := vi_up e8 (Or.inr (by decide))
  refine GO.bipush dX12_readsCondition_14 rfl ?_
  refine GO.icmp_eq (tgt := 29) dX12_readsCondition_16 (by decide) r21 (ir_c rfl) (fun c25 => ?_) (fun c25 => ?_)
  ·
    refine GO.aload_n dX12_readsCondition_29 rfl rfl ?_
    refine GO.bipush dX12_readsCondition_30 rfl ?_
    have q26 : -2147483648 ≤ vi V x 31 ∧ vi V x 31 ≤ 2147483647 := vi_ir
    have q27 : -2147483648 ≤ vi V x 36 ∧ vi V x 36 ≤ 2147483647 := vi_ir
    have q28 : -2147483648 ≤ vi V x 32 ∧ vi V x 32 ≤ 2147483647 := vi_ir
    refine GO.callV (ci := 11) (N := mX12_opens) dX12_readsCondition_32 (RX12, TX12, 151) rfl gV_RX12_482 h_x (t_X12_opens h_x (ir_c rfl) (by omega) (by omega) (by omega) ⟨by omega, by omega⟩) rfl [] rfl rfl (Nat.le_of_ble_eq_true rfl) rfl (k_is fun X29 V33 r30 h31 hF32 => ?_)
    refine GO.useWT (fun hW34 => ?_)
    have aq35 := hW34.aq h_x
    have raw_opens := h31.2.2.2.1
    have rq0_32 := h31.2.2.2.2
    have rw32 := h31.2.2.2.1
    refine GO.if_ne (tgt := 40) dX12_readsCondition_35 (by decide) r30 (fun c38 => ?_) (fun c38 => ?_)
    ·
      have q39 := h31.2.1 (by omega)
      have q40 : -2147483648 ≤ vi V33 x 31 ∧ vi V33 x 31 ≤ 2147483647 := vi_ir
      have q41 : -2147483648 ≤ vi V33 x 37 ∧ vi V33 x 37 ≤ 2147483647 := vi_ir
      have e42 : vi V33 x 36 = vi V9 x 36 := vi_fr hF32 h_x h_x (by decide +kernel)
      have e43 : vi V33 x 32 = vi V9 x 32 := vi_fr hF32 h_x h_x (by decide +kernel)
      have q45 : -2147483648 ≤ vi V33 x 35 ∧ vi V33 x 35 ≤ 2147483647 := vi_ir
      refine GO.loop0 (fun  W => (vi W x 31 ≥ (vi V x 31 + 1) ∧ vi W x 37 ≥ 1 ∧ vi W x 36 ≥ 0 ∧ vi W x 32 = vi V x 32 ∧ vi W x 35 ≥ (-2147483648)) ∧ (RJ W x fr S0 0 0) ∧ (NS W x) ∧ (CDI V W x) ∧ True) (fun  W => ((vi W x 32 - vi W x 31)).toNat)  ⟨by omega, (by first | exact RJ.pushO hb.1 (Or.inr (Or.inl rfl)) (fun _ => rfl) (((rfl : sd V33 x = sd V33 x)).trans (raw_opens (by omega)).1) (((rfl : wt V33 x = wt V33 x)).trans (raw_opens (by omega)).2) (by omega) (by omega) (by omega) | exact RJ.pushO (by assumption) (by omega) (fun _ => by omega) (((rfl : sd V33 x = sd V33 x)).trans (raw_opens (by omega)).1) (((rfl : wt V33 x = wt V33 x)).trans (raw_opens (by omega)).2) (by omega) (by omega) (by omega)), (by first | exact NS.push0 hb.2 (by omega) (((rfl : wt V33 x = wt V33 x)).trans (raw_opens (by omega)).2) (by omega) (by omega) | exact NS.push0 (by assumption) (by omega) (((rfl : wt V33 x = wt V33 x)).trans (raw_opens (by omega)).2) (by omega) (by omega)), (by first | exact CDI.beg hTa (by omega) (by omega) (by omega) (by omega) hs0 (by omega) (by omega) (((rfl : sd V33 x = sd V33 x)).trans (raw_opens (by omega)).1) (((rfl : wt V33 x = wt V33 x)).trans (raw_opens (by omega)).2) (by omega) (by omega) (by omega) (rq0_32.1 (by omega)).1), trivial⟩ (fun W480 hp482 ih481 => ?_)
      obtain ⟨n_W480, w0_W480, w1_W480, hcd, -⟩ := hp482
      show GO mX12_readsCondition K V (IS K (fun X V1 => (X = 0 ∨ X = 1) ∧ (X ≠ 0 → vi V1 x 31 ≥ (vi V x 31 + 1)) ∧ (X = 0 → True) ∧ ((X ≠ 0 → RF V1 x fr S0)) ∧ (CND V V1 x X))) K W480 0 0 40 [some (.ref x)] []
      refine GO.useWT (fun hW483 => ?_)
      have aq484 := hW483.aq h_x
      have hrd := (hW483).rd h_x
      have hle := RJ.le (V := W480) (x := x) (fr := fr) (S0 := S0) (s := 0) (z := 0) (by assumption)
      refine GO.useFR (fun hFs => ?_)
      have hTp : ∀ src e, TP V x src e → TP W480 x src e := fun src e h => TP.fr h hFs hW_0 h_x (by decide +kernel) (by decide +kernel) (by decide +kernel)
      refine GO.aload_n dX12_readsCondition_40 rfl rfl ?_
      refine GO.callV (ci := 11) (N := mX12_sign) dX12_readsCondition_41 (RX12, TX12, 151) rfl gV_RX12_449 h_x (t_X12_sign h_x) rfl [] rfl rfl (Nat.le_of_ble_eq_true rfl) rfl (k_ip fun X485 r486 h487 => ?_)
      refine GO.bipush dX12_readsCondition_44 rfl ?_
      refine GO.icmp_eq (tgt := 58) dX12_readsCondition_46 (by decide) r486 (ir_c rfl) (fun c488 => ?_) (fun c488 => ?_)
      ·
        refine GO.aload_n dX12_readsCondition_58 rfl rfl ?_
        refine GO.aload_n dX12_readsCondition_59 rfl rfl ?_
        refine GO.callV (ci := 11) (N := mX12_sign) dX12_readsCondition_60 (RX12, TX12, 151) rfl gV_RX12_449 h_x (t_X12_sign h_x) rfl [.ref x] rfl rfl (Nat.le_of_ble_eq_true rfl) rfl (k_ip fun X489 r490 h491 => ?_)
        refine GO.bipush dX12_readsCondition_63 rfl ?_
        refine GO.icmp_ne (tgt := 73) dX12_readsCondition_65 (by decide) r490 (ir_c rfl) (fun h => by exfalso; omega) (fun c492 => ?_)
        refine GO.bipush dX12_readsCondition_68 rfl ?_
        refine GO.goto (tgt := 75) dX12_readsCondition_70 (by decide) ?_
        have q493 : -2147483648 ≤ vi W480 x 32 ∧ vi W480 x 32 ≤ 2147483647 := vi_ir
        have q494 : -2147483648 ≤ vi W480 x 31 ∧ vi W480 x 31 ≤ 2147483647 := vi_ir
        have q495 : -2147483648 ≤ vi W480 x 37 ∧ vi W480 x 37 ≤ 2147483647 := vi_ir
        have q496 : -2147483648 ≤ vi W480 x 36 ∧ vi W480 x 36 ≤ 2147483647 := vi_ir
        refine GO.callV (ci := 11) (N := mX12_opens) dX12_readsCondition_75 (RX12, TX12, 151) rfl gV_RX12_482 h_x (t_X12_opens h_x (ir_c rfl) (by omega) (by omega) (by omega) ⟨by omega, by omega⟩) rfl [] rfl rfl (Nat.le_of_ble_eq_true rfl) rfl (k_is fun X497 V501 r498 h499 hF500 => ?_)
        refine GO.useWT (fun hW502 => ?_)
        have aq503 := hW502.aq h_x
        have raw_opens := h499.2.2.2.1
        have rq0_75 := h499.2.2.2.2
        have rw75 := h499.2.2.2.1
        refine GO.if_ne (tgt := 40) dX12_readsCondition_78 (by decide) r498 (fun c506 => ?_) (fun c506 => ?_)
        ·
          have q507 := h499.2.1 (by omega)
          have q508 : -2147483648 ≤ vi V501 x 31 ∧ vi V501 x 31 ≤ 2147483647 := vi_ir
          have q509 : -2147483648 ≤ vi V501 x 37 ∧ vi V501 x 37 ≤ 2147483647 := vi_ir
          have e510 : vi V501 x 36 = vi W480 x 36 := vi_fr hF500 h_x h_x (by decide +kernel)
          have e511 : vi V501 x 32 = vi W480 x 32 := vi_fr hF500 h_x h_x (by decide +kernel)
          have q513 : -2147483648 ≤ vi V501 x 35 ∧ vi V501 x 35 ≤ 2147483647 := vi_ir
          exact ih481  V501 ⟨by omega, (by first | exact RJ.pushO hb.1 (Or.inr (Or.inl rfl)) (fun _ => rfl) (((rfl : sd V501 x = sd V501 x)).trans (raw_opens (by omega)).1) (((rfl : wt V501 x = wt V501 x)).trans (raw_opens (by omega)).2) (by omega) (by omega) (by omega) | exact RJ.pushO (by assumption) (by omega) (fun _ => by omega) (((rfl : sd V501 x = sd V501 x)).trans (raw_opens (by omega)).1) (((rfl : wt V501 x = wt V501 x)).trans (raw_opens (by omega)).2) (by omega) (by omega) (by omega)), (by first | exact NS.push0 hb.2 (by omega) (((rfl : wt V501 x = wt V501 x)).trans (raw_opens (by omega)).2) (by omega) (by omega) | exact NS.push0 (by assumption) (by omega) (((rfl : wt V501 x = wt V501 x)).trans (raw_opens (by omega)).2) (by omega) (by omega)), (by first | exact CDI.opn hcd hTp (by omega) (by omega) (by omega) (((rfl : sd V501 x = sd V501 x)).trans (raw_opens (by omega)).1) (((rfl : wt V501 x = wt V501 x)).trans (raw_opens (by omega)).2) (by omega) (by omega) (by omega) (rq0_75.1 (by omega)).1 (rq0_75.1 (by omega)).2 | exact CDI.beg hTa (by omega) (by omega) (by omega) (by omega) hs0 (by omega) (by omega) (((rfl : sd V501 x = sd V501 x)).trans (raw_opens (by omega)).1) (((rfl : wt V501 x = wt V501 x)).trans (raw_opens (by omega)).2) (by omega) (by omega) (by omega) (rq0_32.1 (by omega)).1), trivial⟩ (by show ((vi V501 x 32 - vi V501 x 31)).toNat < ((vi W480 x 32 - vi W480 x 31)).toNat; omega)
        ·
          refine GO.iconst dX12_readsCondition_81 ?_
          have q514 : -2147483648 ≤ vi V501 x 31 ∧ vi V501 x 31 ≤ 2147483647 := vi_ir
          exact GO.retz rfl rfl dX12_readsCondition_82 (Or.inl rfl) ⟨rfl, _, rfl, (ir_c rfl), ⟨Or.inl rfl, fun h => absurd rfl h, fun _ => trivial, (by first | exact fun h => absurd rfl h), (by first | exact CND.e5 hcd hTp (by omega) (by omega) (rq0_75.2 (by omega)).1 rfl (rq0_75.2 (by omega)).2 | (exfalso; have h9 := (rq0_32.2 (by omega)).1; omega) | exact CND.e1 hTa (by omega) (by omega) (by omega) (by omega) (by omega))⟩⟩
      ·
        refine GO.aload_n dX12_readsCondition_49 rfl rfl ?_
        refine GO.callV (ci := 11) (N := mX12_sign) dX12_readsCondition_50 (RX12, TX12, 151) rfl gV_RX12_449 h_x (t_X12_sign h_x) rfl [] rfl rfl (Nat.le_of_ble_eq_true rfl) rfl (k_ip fun X516 r517 h518 => ?_)
        refine GO.bipush dX12_readsCondition_53 rfl ?_
        refine GO.icmp_ne (tgt := 83) dX12_readsCondition_55 (by decide) r517 (ir_c rfl) (fun c519 => ?_) (fun c519 => ?_)
        ·
          refine GO.aload_n dX12_readsCondition_83 rfl rfl ?_
          have q520 : -2147483648 ≤ vi W480 x 37 ∧ vi W480 x 37 ≤ 2147483647 := vi_ir
          have q521 : -2147483648 ≤ vi W480 x 31 ∧ vi W480 x 31 ≤ 2147483647 := vi_ir
          have q522 : -2147483648 ≤ vi W480 x 36 ∧ vi W480 x 36 ≤ 2147483647 := vi_ir
          have q523 : -2147483648 ≤ vi W480 x 32 ∧ vi W480 x 32 ≤ 2147483647 := vi_ir
          refine GO.callV (ci := 11) (N := mX12_readsCompared) dX12_readsCondition_84 (RX12, TX12, 151) rfl gV_RX12_511 h_x (t_X12_readsCompared h_x (by omega) (by assumption) (by assumption)) rfl [] rfl rfl (Nat.le_of_ble_eq_true rfl) rfl (k_is fun X524 V528 r525 h526 hF527 => ?_)
          refine GO.useWT (fun hW529 => ?_)
          have aq530 := hW529.aq h_x
          have raw_readsCompared := h526.2.2.2.1
          have rq0_84 := h526.2.2.2.2
          have rw84 := h526.2.2.2.1
          refine GO.if_ne (tgt := 92) dX12_readsCondition_87 (by decide) r525 (fun c534 => ?_) (fun c534 => ?_)
          ·
            have q535 := h526.2.1 (by omega)
            have q536 : -2147483648 ≤ vi V528 x 31 ∧ vi V528 x 31 ≤ 2147483647 := vi_ir
            have q537 : -2147483648 ≤ vi V528 x 37 ∧ vi V528 x 37 ≤ 2147483647 := vi_ir
            have q538 : -2147483648 ≤ vi V528 x 36 ∧ vi V528 x 36 ≤ 2147483647 := vi_ir
            have e539 : vi V528 x 32 = vi W480 x 32 := vi_fr hF527 h_x h_x (by decide +kernel)
            have q541 : -2147483648 ≤ vi V528 x 35 ∧ vi V528 x 35 ≤ 2147483647 := vi_ir
            refine GO.loop0 (fun  W => (vi W x 31 ≥ (vi V x 31 + 1) ∧ vi W x 37 ≥ 1 ∧ vi W x 36 ≥ 0 ∧ vi W x 31 ≥ (vi W480 x 31 + 1) ∧ vi W x 32 = vi V x 32 ∧ vi W x 35 ≥ (-2147483648)) ∧ (RJ W x fr S0 0 1) ∧ (NS W x) ∧ (CEI V W x) ∧ True) (fun  W => ((vi W x 32 - vi W x 31)).toNat)  ⟨by omega, (by first | exact raw_readsCompared.1 (by omega)), (by first | exact NS.push0 hb.2 (by omega) (((rfl : wt V528 x = wt V528 x)).trans (raw_opens (by omega)).2) (by omega) (by omega) | exact NS.push0 (by assumption) (by omega) (((rfl : wt V528 x = wt V528 x)).trans (raw_opens (by omega)).2) (by omega) (by omega) | exact raw_readsCompared.2 (by omega)), (by first | exact CEI.cmp hcd hTp (by omega) (by omega) rq0_84 (by omega)), trivial⟩ (fun W709 hp711 ih710 => ?_)
            obtain ⟨n_W709, w0_W709, w1_W709, hce, -⟩ := hp711
            show GO mX12_readsCondition K V (IS K (fun X V1 => (X = 0 ∨ X = 1) ∧ (X ≠ 0 → vi V1 x 31 ≥ (vi V x 31 + 1)) ∧ (X = 0 → True) ∧ ((X ≠ 0 → RF V1 x fr S0)) ∧ (CND V V1 x X))) K W709 0 0 92 [some (.ref x)] []
            refine GO.useWT (fun hW712 => ?_)
            have aq713 := hW712.aq h_x
            have hrd := (hW712).rd h_x
            have hle := RJ.le (V := W709) (x := x) (fr := fr) (S0 := S0) (s := 0) (z := 1) (by assumption)
            refine GO.useFR (fun hFs => ?_)
            have hTq : ∀ src e, TP V x src e → TP W709 x src e := fun src e h => TP.fr h hFs hW_0 h_x (by decide +kernel) (by decide +kernel) (by decide +kernel)
            refine GO.useWT (fun hWq => ?_)
            refine GO.aload_n dX12_readsCondition_92 rfl rfl ?_
            refine GO.callV (ci := 11) (N := mX12_sign) dX12_readsCondition_93 (RX12, TX12, 151) rfl gV_RX12_449 h_x (t_X12_sign h_x) rfl [] rfl rfl (Nat.le_of_ble_eq_true rfl) rfl (k_ip fun X714 r715 h716 => ?_)
            refine GO.bipush dX12_readsCondition_96 rfl ?_
            refine GO.icmp_ne (tgt := 152) dX12_readsCondition_98 (by decide) r715 (ir_c rfl) (fun c717 => ?_) (fun c717 => ?_)
            ·
              refine GO.aload_n dX12_readsCondition_152 rfl rfl ?_
              refine GO.callV (ci := 11) (N := mX12_sign) dX12_readsCondition_153 (RX12, TX12, 151) rfl gV_RX12_449 h_x (t_X12_sign h_x) rfl [] rfl rfl (Nat.le_of_ble_eq_true rfl) rfl (k_ip fun X718 r719 h720 => ?_)
              refine GO.bipush dX12_readsCondition_156 rfl ?_
              refine GO.icmp_eq (tgt := 180) dX12_readsCondition_158 (by decide) r719 (ir_c rfl) (fun c721 => ?_) (fun c721 => ?_)
              ·
                refine GO.aload_n dX12_readsCondition_180 rfl rfl ?_
                refine GO.aload_n dX12_readsCondition_181 rfl rfl ?_
                refine GO.callV (ci := 11) (N := mX12_sign) dX12_readsCondition_182 (RX12, TX12, 151) rfl gV_RX12_449 h_x (t_X12_sign h_x) rfl [.ref x] rfl rfl (Nat.le_of_ble_eq_true rfl) rfl (k_ip fun X722 r723 h724 => ?_)
                refine GO.bipush dX12_readsCondition_185 rfl ?_
                refine GO.icmp_ne (tgt := 194) dX12_readsCondition_187 (by decide) r723 (ir_c rfl) (fun c725 => ?_) (fun h => by exfalso; omega)
                refine GO.iconst dX12_readsCondition_194 ?_
                refine GO.callV (ci := 11) (N := mX12_lands) dX12_readsCondition_195 (RX12, TX12, 151) rfl gV_RX12_514 h_x (t_X12_lands h_x (ir_c rfl) (by omega) (by assumption) (rfl) (by assumption) (by omega)) rfl [] rfl rfl (Nat.le_of_ble_eq_true rfl) rfl (k_vs fun V728 h727 hF726 => ?_)
                refine GO.useWT (fun hW729 => ?_)
                have aq730 := hW729.aq h_x
                have raw_lands := h727.2.1
                have rq0_195 := h727.2.2.1
                have rq1_195 := h727.2.2.2
                have rw195 := h727.2.1
                have e731 : vi V728 x 31 = vi W709 x 31 := vi_fr hF726 h_x h_x (by decide +kernel)
                have e733 : vi V728 x 35 = vi W709 x 35 := vi_fr hF726 h_x h_x (by decide +kernel)
                have e734 : vi V728 x 36 = vi W709 x 36 := vi_fr hF726 h_x h_x (by decide +kernel)
                have hsv := sgn_fr (V1 := V728) (by assumption) hWq h_x (by decide +kernel) (by decide +kernel) (by decide +kernel) (by decide +kernel)
                refine GO.aload_n dX12_readsCondition_198 rfl rfl ?_
                refine GO.aload_n dX12_readsCondition_199 rfl rfl ?_
                refine GO.callV (ci := 11) (N := mX12_sign) dX12_readsCondition_200 (RX12, TX12, 151) rfl gV_RX12_449 h_x (t_X12_sign h_x) rfl [.ref x] rfl rfl (Nat.le_of_ble_eq_true rfl) rfl (k_ip fun X735 r736 h737 => ?_)
                have e738 : vi V728 x 32 = vi W709 x 32 := vi_fr hF726 h_x h_x (by decide +kernel)
                refine GO.bipush dX12_readsCondition_203 rfl ?_
                refine GO.icmp_ne (tgt := 213) dX12_readsCondition_205 (by decide) r736 (ir_c rfl) (fun c739 => ?_) (fun c739 => ?_)
                ·
                  refine GO.bipush dX12_readsCondition_213 rfl ?_
                  have q740 : -2147483648 ≤ vi W709 x 32 ∧ vi W709 x 32 ≤ 2147483647 := vi_ir
                  have q741 : -2147483648 ≤ vi W709 x 31 ∧ vi W709 x 31 ≤ 2147483647 := vi_ir
                  have q742 : -2147483648 ≤ vi W709 x 37 ∧ vi W709 x 37 ≤ 2147483647 := vi_ir
                  have q743 : -2147483648 ≤ vi V728 x 37 ∧ vi V728 x 37 ≤ 2147483647 := vi_ir
                  have q744 : -2147483648 ≤ vi W709 x 36 ∧ vi W709 x 36 ≤ 2147483647 := vi_ir
                  refine GO.callV (ci := 11) (N := mX12_jumps) dX12_readsCondition_215 (RX12, TX12, 151) rfl gV_RX12_517 h_x (t_X12_jumps h_x (ir_c rfl) (by omega) (by omega) (by omega) (raw_lands.1) (rfl) (raw_lands.2.1) (by omega)) rfl [] rfl rfl (Nat.le_of_ble_eq_true rfl) rfl (k_vs fun V747 h746 hF745 => ?_)
                  refine GO.useWT (fun hW748 => ?_)
                  have aq749 := hW748.aq h_x
                  have raw_jumps := h746.2.1
                  have rq0_215 := h746.2.2.1
                  have rq1_215 := h746.2.2.2
                  have rw215 := h746.2.1
                  refine GO.goto (tgt := 40) dX12_readsCondition_218 (by decide) ?_
                  have q753 : -2147483648 ≤ vi V747 x 31 ∧ vi V747 x 31 ≤ 2147483647 := vi_ir
                  have q754 : -2147483648 ≤ vi V747 x 37 ∧ vi V747 x 37 ≤ 2147483647 := vi_ir
                  have q755 : -2147483648 ≤ vi V747 x 36 ∧ vi V747 x 36 ≤ 2147483647 := vi_ir
                  have e756 : vi V747 x 32 = vi V728 x 32 := vi_fr hF745 h_x h_x (by decide +kernel)
                  have e757 : vi V747 x 35 = vi V728 x 35 := vi_fr hF745 h_x h_x (by decide +kernel)
                  have q758 : -2147483648 ≤ vi W709 x 35 ∧ vi W709 x 35 ≤ 2147483647 := vi_ir
                  exact ih481  V747 ⟨by omega, (by first | exact RJ.pushO hb.1 (Or.inr (Or.inl rfl)) (fun _ => rfl) (((rfl : sd V747 x = sd V747 x)).trans (raw_opens (by omega)).1) (((rfl : wt V747 x = wt V747 x)).trans (raw_opens (by omega)).2) (by omega) (by omega) (by omega) | exact RJ.zz raw_jumps.1 (by omega) | exact RJ.pushO (by assumption) (by omega) (fun _ => by omega) (((rfl : sd V747 x = sd V747 x)).trans (raw_opens (by omega)).1) (((rfl : wt V747 x = wt V747 x)).trans (raw_opens (by omega)).2) (by omega) (by omega) (by omega)), (by first | exact NS.push0 hb.2 (by omega) (((rfl : wt V747 x = wt V747 x)).trans (raw_opens (by omega)).2) (by omega) (by omega) | exact raw_jumps.2 | exact NS.push0 (by assumption) (by omega) (((rfl : wt V747 x = wt V747 x)).trans (raw_opens (by omega)).2) (by omega) (by omega) | exact raw_readsCompared.2 (by omega)), (by first | exact CDI.jmp hce hTq (by omega) (by omega) rq0_195 (by omega) (by omega) rq1_195 raw_lands.2.2 (by omega) raw_jumps.2 (by omega) rq0_215 rq1_215 (by omega) (by omega) (by omega) (by omega) | exact CDI.beg hTa (by omega) (by omega) (by omega) (by omega) hs0 (by omega) (by omega) (((rfl : sd V747 x = sd V747 x)).trans (raw_opens (by omega)).1) (((rfl : wt V747 x = wt V747 x)).trans (raw_opens (by omega)).2) (by omega) (by omega) (by omega) (rq0_32.1 (by omega)).1), trivial⟩ (by show ((vi V747 x 32 - vi V747 x 31)).toNat < ((vi W480 x 32 - vi W480 x 31)).toNat; omega)
                ·
                  refine GO.bipush dX12_readsCondition_208 rfl ?_
                  refine GO.goto (tgt := 215) dX12_readsCondition_210 (by decide) ?_
                  have q759 : -2147483648 ≤ vi W709 x 31 ∧ vi W709 x 31 ≤ 2147483647 := vi_ir
                  have q760 : -2147483648 ≤ vi W709 x 32 ∧ vi W709 x 32 ≤ 2147483647 := vi_ir
                  have q761 : -2147483648 ≤ vi W709 x 37 ∧ vi W709 x 37 ≤ 2147483647 := vi_ir
                  have q762 : -2147483648 ≤ vi V728 x 37 ∧ vi V728 x 37 ≤ 2147483647 := vi_ir
                  have q763 : -2147483648 ≤ vi W709 x 36 ∧ vi W709 x 36 ≤ 2147483647 := vi_ir
                  refine GO.callV (ci := 11) (N := mX12_jumps) dX12_readsCondition_215 (RX12, TX12, 151) rfl gV_RX12_517 h_x (t_X12_jumps h_x (ir_c rfl) (by omega) (by omega) (by omega) (raw_lands.1) (rfl) (raw_lands.2.1) (by omega)) rfl [] rfl rfl (Nat.le_of_ble_eq_true rfl) rfl (k_vs fun V766 h765 hF764 => ?_)
                  refine GO.useWT (fun hW767 => ?_)
                  have aq768 := hW767.aq h_x
                  have raw_jumps := h765.2.1
                  have rq0_215 := h765.2.2.1
                  have rq1_215 := h765.2.2.2
                  have rw215 := h765.2.1
                  refine GO.goto (tgt := 40) dX12_readsCondition_218 (by decide) ?_
                  have q772 : -2147483648 ≤ vi V766 x 31 ∧ vi V766 x 31 ≤ 2147483647 := vi_ir
                  have q773 : -2147483648 ≤ vi V766 x 37 ∧ vi V766 x 37 ≤ 2147483647 := vi_ir
                  have q774 : -2147483648 ≤ vi V766 x 36 ∧ vi V766 x 36 ≤ 2147483647 := vi_ir
                  have e775 : vi V766 x 32 = vi V728 x 32 := vi_fr hF764 h_x h_x (by decide +kernel)
                  have e776 : vi V766 x 35 = vi V728 x 35 := vi_fr hF764 h_x h_x (by decide +kernel)
                  have q777 : -2147483648 ≤ vi W709 x 35 ∧ vi W709 x 35 ≤ 2147483647 := vi_ir
                  exact ih481  V766 ⟨by omega, (by first | exact RJ.pushO hb.1 (Or.inr (Or.inl rfl)) (fun _ => rfl) (((rfl : sd V766 x = sd V766 x)).trans (raw_opens (by omega)).1) (((rfl : wt V766 x = wt V766 x)).trans (raw_opens (by omega)).2) (by omega) (by omega) (by omega) | exact RJ.zz raw_jumps.1 (by omega) | exact RJ.pushO (by assumption) (by omega) (fun _ => by omega) (((rfl : sd V766 x = sd V766 x)).trans (raw_opens (by omega)).1) (((rfl : wt V766 x = wt V766 x)).trans (raw_opens (by omega)).2) (by omega) (by omega) (by omega)), (by first | exact NS.push0 hb.2 (by omega) (((rfl : wt V766 x = wt V766 x)).trans (raw_opens (by omega)).2) (by omega) (by omega) | exact raw_jumps.2 | exact NS.push0 (by assumption) (by omega) (((rfl : wt V766 x = wt V766 x)).trans (raw_opens (by omega)).2) (by omega) (by omega) | exact raw_readsCompared.2 (by omega)), (by first | exact CDI.jmp hce hTq (by omega) (by omega) rq0_195 (by omega) (by omega) rq1_195 raw_lands.2.2 (by omega) raw_jumps.2 (by omega) rq0_215 rq1_215 (by omega) (by omega) (by omega) (by omega) | exact CDI.beg hTa (by omega) (by omega) (by omega) (by omega) hs0 (by omega) (by omega) (((rfl : sd V766 x = sd V766 x)).trans (raw_opens (by omega)).1) (((rfl : wt V766 x = wt V766 x)).trans (raw_opens (by omega)).2) (by omega) (by omega) (by omega) (rq0_32.1 (by omega)).1), trivial⟩ (by show ((vi V766 x 32 - vi V766 x 31)).toNat < ((vi W480 x 32 - vi W480 x 31)).toNat; omega)
              ·
                refine GO.aload_n dX12_readsCondition_161 rfl rfl ?_
                refine GO.callV (ci := 11) (N := mX12_sign) dX12_readsCondition_162 (RX12, TX12, 151) rfl gV_RX12_449 h_x (t_X12_sign h_x) rfl [] rfl rfl (Nat.le_of_ble_eq_true rfl) rfl (k_ip fun X778 r779 h780 => ?_)
                refine GO.bipush dX12_readsCondition_165 rfl ?_
                refine GO.icmp_eq (tgt := 180) dX12_readsCondition_167 (by decide) r779 (ir_c rfl) (fun c781 => ?_) (fun c781 => ?_)
                ·
                  refine GO.aload_n dX12_readsCondition_180 rfl rfl ?_
                  refine GO.aload_n dX12_readsCondition_181 rfl rfl ?_
                  refine GO.callV (ci := 11) (N := mX12_sign) dX12_readsCondition_182 (RX12, TX12, 151) rfl gV_RX12_449 h_x (t_X12_sign h_x) rfl [.ref x] rfl rfl (Nat.le_of_ble_eq_true rfl) rfl (k_ip fun X782 r783 h784 => ?_)
                  refine GO.bipush dX12_readsCondition_185 rfl ?_
                  refine GO.icmp_ne (tgt := 194) dX12_readsCondition_187 (by decide) r783 (ir_c rfl) (fun h => by exfalso; omega) (fun c785 => ?_)
                  refine GO.iconst dX12_readsCondition_190 ?_
                  refine GO.goto (tgt := 195) dX12_readsCondition_191 (by decide) ?_
                  refine GO.callV (ci := 11) (N := mX12_lands) dX12_readsCondition_195 (RX12, TX12, 151) rfl gV_RX12_514 h_x (t_X12_lands h_x (ir_c rfl) (by omega) (by assumption) (rfl) (by assumption) (by omega)) rfl [] rfl rfl (Nat.le_of_ble_eq_true rfl) rfl (k_vs fun V788 h787 hF786 => ?_)
                  refine GO.useWT (fun hW789 => ?_)
                  have aq790 := hW789.aq h_x
                  have raw_lands := h787.2.1
                  have rq0_195 := h787.2.2.1
                  have rq1_195 := h787.2.2.2
                  have rw195 := h787.2.1
                  have e791 : vi V788 x 31 = vi W709 x 31 := vi_fr hF786 h_x h_x (by decide +kernel)
                  have e793 : vi V788 x 35 = vi W709 x 35 := vi_fr hF786 h_x h_x (by decide +kernel)
                  have e794 : vi V788 x 36 = vi W709 x 36 := vi_fr hF786 h_x h_x (by decide +kernel)
                  have hsv := sgn_fr (V1 := V788) (by assumption) hWq h_x (by decide +kernel) (by decide +kernel) (by decide +kernel) (by decide +kernel)
                  refine GO.aload_n dX12_readsCondition_198 rfl rfl ?_
                  refine GO.aload_n dX12_readsCondition_199 rfl rfl ?_
                  refine GO.callV (ci := 11) (N := mX12_sign) dX12_readsCondition_200 (RX12, TX12, 151) rfl gV_RX12_449 h_x (t_X12_sign h_x) rfl [.ref x] rfl rfl (Nat.le_of_ble_eq_true rfl) rfl (k_ip fun X795 r796 h797 => ?_)
                  have e798 : vi V788 x 32 = vi W709 x 32 := vi_fr hF786 h_x h_x (by decide +kernel)
                  refine GO.bipush dX12_readsCondition_203 rfl ?_
                  refine GO.icmp_ne (tgt := 213) dX12_readsCondition_205 (by decide) r796 (ir_c rfl) (fun c799 => ?_) (fun c799 => ?_)
                  ·
                    refine GO.bipush dX12_readsCondition_213 rfl ?_
                    have q800 : -2147483648 ≤ vi W709 x 32 ∧ vi W709 x 32 ≤ 2147483647 := vi_ir
                    have q801 : -2147483648 ≤ vi W709 x 31 ∧ vi W709 x 31 ≤ 2147483647 := vi_ir
                    have q802 : -2147483648 ≤ vi W709 x 37 ∧ vi W709 x 37 ≤ 2147483647 := vi_ir
                    have q803 : -2147483648 ≤ vi V788 x 37 ∧ vi V788 x 37 ≤ 2147483647 := vi_ir
                    have q804 : -2147483648 ≤ vi W709 x 36 ∧ vi W709 x 36 ≤ 2147483647 := vi_ir
                    refine GO.callV (ci := 11) (N := mX12_jumps) dX12_readsCondition_215 (RX12, TX12, 151) rfl gV_RX12_517 h_x (t_X12_jumps h_x (ir_c rfl) (by omega) (by omega) (by omega) (raw_lands.1) (rfl) (raw_lands.2.1) (by omega)) rfl [] rfl rfl (Nat.le_of_ble_eq_true rfl) rfl (k_vs fun V807 h806 hF805 => ?_)
                    refine GO.useWT (fun hW808 => ?_)
                    have aq809 := hW808.aq h_x
                    have raw_jumps := h806.2.1
                    have rq0_215 := h806.2.2.1
                    have rq1_215 := h806.2.2.2
                    have rw215 := h806.2.1
                    refine GO.goto (tgt := 40) dX12_readsCondition_218 (by decide) ?_
                    have q813 : -2147483648 ≤ vi V807 x 31 ∧ vi V807 x 31 ≤ 2147483647 := vi_ir
                    have q814 : -2147483648 ≤ vi V807 x 37 ∧ vi V807 x 37 ≤ 2147483647 := vi_ir
                    have q815 : -2147483648 ≤ vi V807 x 36 ∧ vi V807 x 36 ≤ 2147483647 := vi_ir
                    have e816 : vi V807 x 32 = vi V788 x 32 := vi_fr hF805 h_x h_x (by decide +kernel)
                    have e817 : vi V807 x 35 = vi V788 x 35 := vi_fr hF805 h_x h_x (by decide +kernel)
                    have q818 : -2147483648 ≤ vi W709 x 35 ∧ vi W709 x 35 ≤ 2147483647 := vi_ir
                    exact ih481  V807 ⟨by omega, (by first | exact RJ.pushO hb.1 (Or.inr (Or.inl rfl)) (fun _ => rfl) (((rfl : sd V807 x = sd V807 x)).trans (raw_opens (by omega)).1) (((rfl : wt V807 x = wt V807 x)).trans (raw_opens (by omega)).2) (by omega) (by omega) (by omega) | exact RJ.zz raw_jumps.1 (by omega) | exact RJ.pushO (by assumption) (by omega) (fun _ => by omega) (((rfl : sd V807 x = sd V807 x)).trans (raw_opens (by omega)).1) (((rfl : wt V807 x = wt V807 x)).trans (raw_opens (by omega)).2) (by omega) (by omega) (by omega)), (by first | exact NS.push0 hb.2 (by omega) (((rfl : wt V807 x = wt V807 x)).trans (raw_opens (by omega)).2) (by omega) (by omega) | exact raw_jumps.2 | exact NS.push0 (by assumption) (by omega) (((rfl : wt V807 x = wt V807 x)).trans (raw_opens (by omega)).2) (by omega) (by omega) | exact raw_readsCompared.2 (by omega)), (by first | exact CDI.jmp hce hTq (by omega) (by omega) rq0_195 (by omega) (by omega) rq1_195 raw_lands.2.2 (by omega) raw_jumps.2 (by omega) rq0_215 rq1_215 (by omega) (by omega) (by omega) (by omega) | exact CDI.beg hTa (by omega) (by omega) (by omega) (by omega) hs0 (by omega) (by omega) (((rfl : sd V807 x = sd V807 x)).trans (raw_opens (by omega)).1) (((rfl : wt V807 x = wt V807 x)).trans (raw_opens (by omega)).2) (by omega) (by omega) (by omega) (rq0_32.1 (by omega)).1), trivial⟩ (by show ((vi V807 x 32 - vi V807 x 31)).toNat < ((vi W480 x 32 - vi W480 x 31)).toNat; omega)
                  ·
                    refine GO.bipush dX12_readsCondition_208 rfl ?_
                    refine GO.goto (tgt := 215) dX12_readsCondition_210 (by decide) ?_
                    have q819 : -2147483648 ≤ vi W709 x 31 ∧ vi W709 x 31 ≤ 2147483647 := vi_ir
                    have q820 : -2147483648 ≤ vi W709 x 32 ∧ vi W709 x 32 ≤ 2147483647 := vi_ir
                    have q821 : -2147483648 ≤ vi W709 x 37 ∧ vi W709 x 37 ≤ 2147483647 := vi_ir
                    have q822 : -2147483648 ≤ vi V788 x 37 ∧ vi V788 x 37 ≤ 2147483647 := vi_ir
                    have q823 : -2147483648 ≤ vi W709 x 36 ∧ vi W709 x 36 ≤ 2147483647 := vi_ir
                    refine GO.callV (ci := 11) (N := mX12_jumps) dX12_readsCondition_215 (RX12, TX12, 151) rfl gV_RX12_517 h_x (t_X12_jumps h_x (ir_c rfl) (by omega) (by omega) (by omega) (raw_lands.1) (rfl) (raw_lands.2.1) (by omega)) rfl [] rfl rfl (Nat.le_of_ble_eq_true rfl) rfl (k_vs fun V826 h825 hF824 => ?_)
                    refine GO.useWT (fun hW827 => ?_)
                    have aq828 := hW827.aq h_x
                    have raw_jumps := h825.2.1
                    have rq0_215 := h825.2.2.1
                    have rq1_215 := h825.2.2.2
                    have rw215 := h825.2.1
                    refine GO.goto (tgt := 40) dX12_readsCondition_218 (by decide) ?_
                    have q832 : -2147483648 ≤ vi V826 x 31 ∧ vi V826 x 31 ≤ 2147483647 := vi_ir
                    have q833 : -2147483648 ≤ vi V826 x 37 ∧ vi V826 x 37 ≤ 2147483647 := vi_ir
                    have q834 : -2147483648 ≤ vi V826 x 36 ∧ vi V826 x 36 ≤ 2147483647 := vi_ir
                    have e835 : vi V826 x 32 = vi V788 x 32 := vi_fr hF824 h_x h_x (by decide +kernel)
                    have e836 : vi V826 x 35 = vi V788 x 35 := vi_fr hF824 h_x h_x (by decide +kernel)
                    have q837 : -2147483648 ≤ vi W709 x 35 ∧ vi W709 x 35 ≤ 2147483647 := vi_ir
                    exact ih481  V826 ⟨by omega, (by first | exact RJ.pushO hb.1 (Or.inr (Or.inl rfl)) (fun _ => rfl) (((rfl : sd V826 x = sd V826 x)).trans (raw_opens (by omega)).1) (((rfl : wt V826 x = wt V826 x)).trans (raw_opens (by omega)).2) (by omega) (by omega) (by omega) | exact RJ.zz raw_jumps.1 (by omega) | exact RJ.pushO (by assumption) (by omega) (fun _ => by omega) (((rfl : sd V826 x = sd V826 x)).trans (raw_opens (by omega)).1) (((rfl : wt V826 x = wt V826 x)).trans (raw_opens (by omega)).2) (by omega) (by omega) (by omega)), (by first | exact NS.push0 hb.2 (by omega) (((rfl : wt V826 x = wt V826 x)).trans (raw_opens (by omega)).2) (by omega) (by omega) | exact raw_jumps.2 | exact NS.push0 (by assumption) (by omega) (((rfl : wt V826 x = wt V826 x)).trans (raw_opens (by omega)).2) (by omega) (by omega) | exact raw_readsCompared.2 (by omega)), (by first | exact CDI.jmp hce hTq (by omega) (by omega) rq0_195 (by omega) (by omega) rq1_195 raw_lands.2.2 (by omega) raw_jumps.2 (by omega) rq0_215 rq1_215 (by omega) (by omega) (by omega) (by omega) | exact CDI.beg hTa (by omega) (by omega) (by omega) (by omega) hs0 (by omega) (by omega) (((rfl : sd V826 x = sd V826 x)).trans (raw_opens (by omega)).1) (((rfl : wt V826 x = wt V826 x)).trans (raw_opens (by omega)).2) (by omega) (by omega) (by omega) (rq0_32.1 (by omega)).1), trivial⟩ (by show ((vi V826 x 32 - vi V826 x 31)).toNat < ((vi W480 x 32 - vi W480 x 31)).toNat; omega)
                ·
                  refine GO.aload_n dX12_readsCondition_170 rfl rfl ?_
                  refine GO.iconst dX12_readsCondition_171 ?_
                  refine GO.aload_n dX12_readsCondition_172 rfl rfl ?_
                  refine GO.getI h_x fl_RX12_443 rfl rfl dX12_readsCondition_173 (fun l838 u839 => ?_)
                  have q840 : -2147483648 ≤ vi W709 x 31 ∧ vi W709 x 31 ≤ 2147483647 := vi_ir
                  have q841 : -2147483648 ≤ vi W709 x 37 ∧ vi W709 x 37 ≤ 2147483647 := vi_ir
                  have q842 : -2147483648 ≤ vi W709 x 36 ∧ vi W709 x 36 ≤ 2147483647 := vi_ir
                  have q843 : -2147483648 ≤ vi W709 x 32 ∧ vi W709 x 32 ≤ 2147483647 := vi_ir
                  refine GO.callV (ci := 11) (N := mX12_wrong) dX12_readsCondition_176 (RX12, TX12, 151) rfl gV_RX12_456 h_x (t_X12_wrong h_x (ir_c rfl) vi_ir (by omega) (by omega) (by omega) (by omega)) rfl [] rfl rfl (Nat.le_of_ble_eq_true rfl) rfl (k_is fun X844 V848 r845 h846 hF847 => ?_)
                  have k849 := st_fr hF847 aq713 h_x (by decide +kernel) (by decide +kernel) (by decide +kernel) (by decide +kernel)
                  have sS850 : sd V848 x = sd W709 x := k849.2.1.trans (rfl : sd W709 x = sd W709 x)
                  have sQ851 : wt V848 x = wt W709 x := k849.2.2.trans (rfl : wt W709 x = wt W709 x)
                  have e853 : vi V848 x 31 = vi W709 x 31 := vi_fr hF847 h_x h_x (by decide +kernel)
                  have q854 : -2147483648 ≤ vi V848 x 33 ∧ vi V848 x 33 ≤ 2147483647 := vi_ir
                  exact GO.retz rfl rfl dX12_readsCondition_179 (by omega) ⟨rfl, _, rfl, r845, ⟨by omega, fun h => by omega, fun _ => trivial, (by first | exact fun h => absurd h (by omega)), (by first | exact CND.e9 hce hTq (by omega) (by omega) (by omega) (by omega) (by omega) | exact CND.ec hcd hTp (by omega) (by omega) rq0_84 (by omega) rfl | (exfalso; have h9 := (rq0_32.2 (by omega)).1; omega) | exact CND.e1 hTa (by omega) (by omega) (by omega) (by omega) (by omega))⟩⟩
            ·
              refine GO.aload_n dX12_readsCondition_101 rfl rfl ?_
              refine GO.iconst dX12_readsCondition_102 ?_
              refine GO.callV (ci := 11) (N := mX12_lands) dX12_readsCondition_103 (RX12, TX12, 151) rfl gV_RX12_514 h_x (t_X12_lands h_x (ir_c rfl) (by omega) (by assumption) (rfl) (by assumption) (by omega)) rfl [] rfl rfl (Nat.le_of_ble_eq_true rfl) rfl (k_vs fun V857 h856 hF855 => ?_)
              refine GO.useWT (fun hW858 => ?_)
              have aq859 := hW858.aq h_x
              have raw_lands := h856.2.1
              have rq0_103 := h856.2.2.1
              have rq1_103 := h856.2.2.2
              have rw103 := h856.2.1
              have e860 : vi V857 x 31 = vi W709 x 31 := vi_fr hF855 h_x h_x (by decide +kernel)
              have e862 : vi V857 x 35 = vi W709 x 35 := vi_fr hF855 h_x h_x (by decide +kernel)
              have e863 : vi V857 x 36 = vi W709 x 36 := vi_fr hF855 h_x h_x (by decide +kernel)
              have hnt := NS.top raw_lands.2.1 (by omega)
              have hlt := raw_lands.2.2 (by decide)
              refine GO.aload_n dX12_readsCondition_106 rfl rfl ?_
              refine GO.aload_n dX12_readsCondition_107 rfl rfl ?_
              refine GO.getI h_x fl_RX12_473 rfl rfl dX12_readsCondition_108 (fun l864 u865 => ?_)
              refine GO.iconst dX12_readsCondition_111 ?_
              refine GO.isub dX12_readsCondition_112 ?_
              have q867 : -2147483648 ≤ vi V857 x 37 ∧ vi V857 x 37 ≤ 2147483647 := vi_ir
              have q868 : -2147483648 ≤ vi W709 x 37 ∧ vi W709 x 37 ≤ 2147483647 := vi_ir
              have q869 : -2147483648 ≤ vi W709 x 31 ∧ vi W709 x 31 ≤ 2147483647 := vi_ir
              have q870 : -2147483648 ≤ vi W709 x 32 ∧ vi W709 x 32 ≤ 2147483647 := vi_ir
              have q871 : -2147483648 ≤ vi W709 x 36 ∧ vi W709 x 36 ≤ 2147483647 := vi_ir
              refine GO.putI h_x fp_RX12_473 rfl (by decide +kernel) ⟨by omega, by omega⟩ (by omega) (by omega) dX12_readsCondition_113 (fun V872 e866 => ?_)
              have k873 := st_fld e866 aq859 h_x (by decide) (by decide)
              have sS874 : sd V872 x = sd V857 x := k873.2.1.trans (rfl : sd V857 x = sd V857 x)
              have sQ875 : wt V872 x = wt V857 x := k873.2.2.trans (rfl : wt V857 x = wt V857 x)
              refine GO.aload_n dX12_readsCondition_116 rfl rfl ?_
              refine GO.aload_n dX12_readsCondition_117 rfl rfl ?_
              refine GO.getI h_x fl_RX12_470 rfl rfl dX12_readsCondition_118 (fun _ _ => ?_)
              have e876 : vi V872 x 35 = vi V857 x 35 := vi_up e866 (Or.inr (by decide))
              refine GO.iconst dX12_readsCondition_121 ?_
              refine GO.isub dX12_readsCondition_122 ?_
              refine GO.norm2 (fun z877 r878 hn879 hw880 => ?_)
              refine GO.putI h_x fp_RX12_470 rfl (by decide +kernel) r878 (r878).1 (r878).2 dX12_readsCondition_123 (fun V882 e881 => ?_)
              have k883 := st_fld e881 k873.1 h_x (by decide) (by decide)
              have sS884 : sd V882 x = sd V857 x := k883.2.1.trans sS874
              have sQ885 : wt V882 x = wt V857 x := k883.2.2.trans sQ875
              have e886 : vi V882 x 35 = z877 := upd2_int e881 r878
              have hod := dec_at (V1 := V882) (x := x) (k := 35) (by assumption) (by assumption) (by assumption)
              refine GO.aload_n dX12_readsCondition_126 rfl rfl ?_
              refine GO.aload_n dX12_readsCondition_127 rfl rfl ?_
              refine GO.getI h_x fl_RX12_443 rfl rfl dX12_readsCondition_128 (fun l887 u888 => ?_)
              have e890 : vi V872 x 31 = vi V857 x 31 := vi_up e866 (Or.inr (by decide))
              have e889 : vi V882 x 31 = vi V872 x 31 := vi_up e881 (Or.inr (by decide))
              refine GO.iconst dX12_readsCondition_131 ?_
              refine GO.iadd dX12_readsCondition_132 ?_
              refine GO.putI h_x fp_RX12_443 rfl (by decide +kernel) ⟨by omega, by omega⟩ (by omega) (by omega) dX12_readsCondition_133 (fun V892 e891 => ?_)
              have k893 := st_fld e891 k883.1 h_x (by decide) (by decide)
              have sS894 : sd V892 x = sd V857 x := k893.2.1.trans sS884
              have sQ895 : wt V892 x = wt V857 x := k893.2.2.trans sQ885
              have e896 : vi V892 x 31 = (vi V882 x 31) + 1 := upd2_int e891 ⟨by omega, by omega⟩
              have e897 : vi V892 x 35 = vi V882 x 35 := vi_up e891 (Or.inr (by decide))
              have e900 : vi V872 x 36 = vi V857 x 36 := vi_up e866 (Or.inr (by decide))
              have e899 : vi V882 x 36 = vi V872 x 36 := vi_up e881 (Or.inr (by decide))
              have e898 : vi V892 x 36 = vi V882 x 36 := vi_up e891 (Or.inr (by decide))
              have e903 : vi V872 x 37 = (vi V857 x 37) - 1 := upd2_int e866 ⟨by omega, by omega⟩
              have e902 : vi V882 x 37 = vi V872 x 37 := vi_up e881 (Or.inr (by decide))
              have e901 : vi V892 x 37 = vi V882 x 37 := vi_up e891 (Or.inr (by decide))
              have hcc : CCI V V892 x := CCI.clo hce hTq (by omega) (by omega) rq0_103 (by omega) (by omega) hlt (by omega) (NS.less raw_lands.2.1 (sQ895) (by omega)) (sS894) (sQ895) (by omega) (by omega) (by omega) (fun ga => by have h9 := hod (by omega); omega)
              refine GO.aload_n dX12_readsCondition_136 rfl rfl ?_
              refine GO.getI h_x fl_RX12_473 rfl rfl dX12_readsCondition_137 (fun l904 u905 => ?_)
              refine GO.if_ne (tgt := 145) dX12_readsCondition_140 (by decide) vi_ir (fun c906 => ?_) (fun c906 => ?_)
              ·
                refine GO.aload_n dX12_readsCondition_145 rfl rfl ?_
                refine GO.callV (ci := 11) (N := mX12_endsPiece) dX12_readsCondition_146 (RX12, TX12, 151) rfl gV_RX12_508 h_x (t_X12_endsPiece h_x (RJ.pop raw_lands.1 (by omega) (by omega) (sS894) (sQ895) (by omega) (by omega) (by omega)) (by omega) (NS.less raw_lands.2.1 (sQ895) (by omega)) (by omega)) rfl [] rfl rfl (Nat.le_of_ble_eq_true rfl) rfl (k_vs fun V909 h908 hF907 => ?_)
                refine GO.useWT (fun hW910 => ?_)
                have aq911 := hW910.aq h_x
                have raw_endsPiece := h908.2.1
                have rq0_146 := h908.2.2.1
                have rq1_146 := h908.2.2.2
                have rw146 := h908.2.1
                have e912 : vi V909 x 31 = vi V892 x 31 := vi_fr hF907 h_x h_x (by decide +kernel)
                refine GO.goto (tgt := 92) dX12_readsCondition_149 (by decide) ?_
                have q915 : -2147483648 ≤ vi V909 x 37 ∧ vi V909 x 37 ≤ 2147483647 := vi_ir
                have q916 : -2147483648 ≤ vi V909 x 36 ∧ vi V909 x 36 ≤ 2147483647 := vi_ir
                have e921 : vi V857 x 32 = vi W709 x 32 := vi_fr hF855 h_x h_x (by decide +kernel)
                have e920 : vi V872 x 32 = vi V857 x 32 := vi_up e866 (Or.inr (by decide))
                have e919 : vi V882 x 32 = vi V872 x 32 := vi_up e881 (Or.inr (by decide))
                have e918 : vi V892 x 32 = vi V882 x 32 := vi_up e891 (Or.inr (by decide))
                have e917 : vi V909 x 32 = vi V892 x 32 := vi_fr hF907 h_x h_x (by decide +kernel)
                have q923 : -2147483648 ≤ vi V909 x 35 ∧ vi V909 x 35 ≤ 2147483647 := vi_ir
                exact ih710  V909 ⟨by omega, (by first | exact raw_endsPiece.1 | exact raw_readsCompared.1 (by omega)), (by first | exact NS.push0 hb.2 (by omega) (((rfl : wt V909 x = wt V909 x)).trans (raw_opens (by omega)).2) (by omega) (by omega) | exact NS.push0 (by assumption) (by omega) (((rfl : wt V909 x = wt V909 x)).trans (raw_opens (by omega)).2) (by omega) (by omega) | exact raw_endsPiece.2 | exact raw_readsCompared.2 (by omega)), (by first | exact CEI.ep hcc rq0_146 raw_endsPiece.2 (by omega) rq1_146 | exact CEI.cmp hcd hTp (by omega) (by omega) rq0_84 (by omega)), trivial⟩ (by show ((vi V909 x 32 - vi V909 x 31)).toNat < ((vi W709 x 32 - vi W709 x 31)).toNat; omega)
              ·
                refine GO.iconst dX12_readsCondition_143 ?_
                exact GO.retz rfl rfl dX12_readsCondition_144 (Or.inr rfl) ⟨rfl, _, rfl, (ir_c rfl), ⟨Or.inr rfl, fun h => by omega, fun _ => trivial, (by first | exact fun h => absurd h (by decide) | exact fun _ => ⟨RJ.pop raw_lands.1 (by omega) (by omega) (sS894) (sQ895) (by omega) (by omega) (by omega), by omega⟩), (by first | exact CND.ok hcc (by omega) (by omega) rfl | exact CND.e9 hce hTq (by omega) (by omega) (by omega) (by omega) (by omega) | exact CND.ec hcd hTp (by omega) (by omega) rq0_84 (by omega) rfl | (exfalso; have h9 := (rq0_32.2 (by omega)).1; omega) | exact CND.e1 hTa (by omega) (by omega) (by omega) (by omega) (by omega))⟩⟩
          ·
            refine GO.iconst dX12_readsCondition_90 ?_
            have q928 : -2147483648 ≤ vi V528 x 31 ∧ vi V528 x 31 ≤ 2147483647 := vi_ir
            exact GO.retz rfl rfl dX12_readsCondition_91 (Or.inl rfl) ⟨rfl, _, rfl, (ir_c rfl), ⟨Or.inl rfl, fun h => absurd rfl h, fun _ => trivial, (by first | exact fun h => absurd rfl h), (by first | exact CND.ec hcd hTp (by omega) (by omega) rq0_84 (by omega) rfl | (exfalso; have h9 := (rq0_32.2 (by omega)).1; omega) | exact CND.e1 hTa (by omega) (by omega) (by omega) (by omega) (by omega))⟩⟩
        ·
          refine GO.aload_n dX12_readsCondition_58 rfl rfl ?_
          refine GO.aload_n dX12_readsCondition_59 rfl rfl ?_
          refine GO.callV (ci := 11) (N := mX12_sign) dX12_readsCondition_60 (RX12, TX12, 151) rfl gV_RX12_449 h_x (t_X12_sign h_x) rfl [.ref x] rfl rfl (Nat.le_of_ble_eq_true rfl) rfl (k_ip fun X930 r931 h932 => ?_)
          refine GO.bipush dX12_readsCondition_63 rfl ?_
          refine GO.icmp_ne (tgt := 73) dX12_readsCondition_65 (by decide) r931 (ir_c rfl) (fun c933 => ?_) (fun h => by exfalso; omega)
          refine GO.bipush dX12_readsCondition_73 rfl ?_
          have q934 : -2147483648 ≤ vi W480 x 32 ∧ vi W480 x 32 ≤ 2147483647 := vi_ir
          have q935 : -2147483648 ≤ vi W480 x 31 ∧ vi W480 x 31 ≤ 2147483647 := vi_ir
          have q936 : -2147483648 ≤ vi W480 x 37 ∧ vi W480 x 37 ≤ 2147483647 := vi_ir
          have q937 : -2147483648 ≤ vi W480 x 36 ∧ vi W480 x 36 ≤ 2147483647 := vi_ir
          refine GO.callV (ci := 11) (N := mX12_opens) dX12_readsCondition_75 (RX12, TX12, 151) rfl gV_RX12_482 h_x (t_X12_opens h_x (ir_c rfl) (by omega) (by omega) (by omega) ⟨by omega, by omega⟩) rfl [] rfl rfl (Nat.le_of_ble_eq_true rfl) rfl (k_is fun X938 V942 r939 h940 hF941 => ?_)
          refine GO.useWT (fun hW943 => ?_)
          have aq944 := hW943.aq h_x
          have raw_opens := h940.2.2.2.1
          have rq0_75 := h940.2.2.2.2
          have rw75 := h940.2.2.2.1
          refine GO.if_ne (tgt := 40) dX12_readsCondition_78 (by decide) r939 (fun c947 => ?_) (fun c947 => ?_)
          ·
            have q948 := h940.2.1 (by omega)
            have q949 : -2147483648 ≤ vi V942 x 31 ∧ vi V942 x 31 ≤ 2147483647 := vi_ir
            have q950 : -2147483648 ≤ vi V942 x 37 ∧ vi V942 x 37 ≤ 2147483647 := vi_ir
            have e951 : vi V942 x 36 = vi W480 x 36 := vi_fr hF941 h_x h_x (by decide +kernel)
            have e952 : vi V942 x 32 = vi W480 x 32 := vi_fr hF941 h_x h_x (by decide +kernel)
            have q954 : -2147483648 ≤ vi V942 x 35 ∧ vi V942 x 35 ≤ 2147483647 := vi_ir
            exact ih481  V942 ⟨by omega, (by first | exact RJ.pushO hb.1 (Or.inr (Or.inl rfl)) (fun _ => rfl) (((rfl : sd V942 x = sd V942 x)).trans (raw_opens (by omega)).1) (((rfl : wt V942 x = wt V942 x)).trans (raw_opens (by omega)).2) (by omega) (by omega) (by omega) | exact RJ.pushO (by assumption) (by omega) (fun _ => by omega) (((rfl : sd V942 x = sd V942 x)).trans (raw_opens (by omega)).1) (((rfl : wt V942 x = wt V942 x)).trans (raw_opens (by omega)).2) (by omega) (by omega) (by omega)), (by first | exact NS.push0 hb.2 (by omega) (((rfl : wt V942 x = wt V942 x)).trans (raw_opens (by omega)).2) (by omega) (by omega) | exact NS.push0 (by assumption) (by omega) (((rfl : wt V942 x = wt V942 x)).trans (raw_opens (by omega)).2) (by omega) (by omega)), (by first | exact CDI.opn hcd hTp (by omega) (by omega) (by omega) (((rfl : sd V942 x = sd V942 x)).trans (raw_opens (by omega)).1) (((rfl : wt V942 x = wt V942 x)).trans (raw_opens (by omega)).2) (by omega) (by omega) (by omega) (rq0_75.1 (by omega)).1 (rq0_75.1 (by omega)).2 | exact CDI.beg hTa (by omega) (by omega) (by omega) (by omega) hs0 (by omega) (by omega) (((rfl : sd V942 x = sd V942 x)).trans (raw_opens (by omega)).1) (((rfl : wt V942 x = wt V942 x)).trans (raw_opens (by omega)).2) (by omega) (by omega) (by omega) (rq0_32.1 (by omega)).1), trivial⟩ (by show ((vi V942 x 32 - vi V942 x 31)).toNat < ((vi W480 x 32 - vi W480 x 31)).toNat; omega)
          ·
            refine GO.iconst dX12_readsCondition_81 ?_
            have q955 : -2147483648 ≤ vi V942 x 31 ∧ vi V942 x 31 ≤ 2147483647 := vi_ir
            exact GO.retz rfl rfl dX12_readsCondition_82 (Or.inl rfl) ⟨rfl, _, rfl, (ir_c rfl), ⟨Or.inl rfl, fun h => absurd rfl h, fun _ => trivial, (by first | exact fun h => absurd rfl h), (by first | exact CND.e5 hcd hTp (by omega) (by omega) (rq0_75.2 (by omega)).1 rfl (rq0_75.2 (by omega)).2 | (exfalso; have h9 := (rq0_32.2 (by omega)).1; omega) | exact CND.e1 hTa (by omega) (by omega) (by omega) (by omega) (by omega))⟩⟩
    ·
      refine GO.iconst dX12_readsCondition_38 ?_
      have q957 : -2147483648 ≤ vi V33 x 31 ∧ vi V33 x 31 ≤ 2147483647 := vi_ir
      exact GO.retz rfl rfl dX12_readsCondition_39 (Or.inl rfl) ⟨rfl, _, rfl, (ir_c rfl), ⟨Or.inl rfl, fun h => absurd rfl h, fun _ => trivial, (by first | exact fun h => absurd rfl h), (by first | (exfalso; have h9 := (rq0_32.2 (by omega)).1; omega) | exact CND.e1 hTa (by omega) (by omega) (by omega) (by omega) (by omega))⟩⟩
  ·
    refine GO.aload_n dX12_readsCondition_19 rfl rfl ?_
    refine GO.iconst dX12_readsCondition_20 ?_
    refine GO.aload_n dX12_readsCondition_21 rfl rfl ?_
    refine GO.getI h_x fl_RX12_443 rfl rfl dX12_readsCondition_22 (fun l959 u960 => ?_)
    have q961 : -2147483648 ≤ vi V x 31 ∧ vi V x 31 ≤ 2147483647 := vi_ir
    have q962 : -2147483648 ≤ vi V x 36 ∧ vi V x 36 ≤ 2147483647 := vi_ir
    refine GO.callV (ci := 11) (N := mX12_wrong) dX12_readsCondition_25 (RX12, TX12, 151) rfl gV_RX12_456 h_x (t_X12_wrong h_x (ir_c rfl) vi_ir (by omega) (by omega) (by omega) (by omega)) rfl [] rfl rfl (Nat.le_of_ble_eq_true rfl) rfl (k_is fun X963 V967 r964 h965 hF966 => ?_)
    have k968 := st_fr hF966 k10.1 h_x (by decide +kernel) (by decide +kernel) (by decide +kernel) (by decide +kernel)
    have sS969 : sd V967 x = sd V x := k968.2.1.trans sS11
    have sQ970 : wt V967 x = wt V x := k968.2.2.trans sQ12
    have e972 : vi V967 x 31 = vi V9 x 31 := vi_fr hF966 h_x h_x (by decide +kernel)
    have q973 : -2147483648 ≤ vi V967 x 33 ∧ vi V967 x 33 ≤ 2147483647 := vi_ir
    exact GO.retz rfl rfl dX12_readsCondition_28 (by omega) ⟨rfl, _, rfl, r964, ⟨by omega, fun h => by omega, fun _ => trivial, (by first | exact fun h => absurd h (by omega)), (by first | exact CND.e1 hTa (by omega) (by omega) (by omega) (by omega) (by omega))⟩⟩
