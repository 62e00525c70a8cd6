def mX2_init : MRec := (RX2, cX2_init, 2, (none : Option Jvm.ClassFile.FieldType), yX2_init, 1, 22, 2, 27, 10328999512347634358623676688012047497322617446497022428414277000199355173431900729376105123122996271856383985323031396352)
def mX2_decidesOn : MRec := (RX2, cX2_decidesOn, 2, (some .boolean), yX2_decidesOn, 0, 0, 0, 0, 0)
def mX2_blocksWords : MRec := (RX2, cX2_blocksWords, 3, (some .boolean), yX2_blocksWords, 1, 21, 0, 0, 0)
def mX8_init : MRec := (RX8, cX8_init, 3, (none : Option Jvm.ClassFile.FieldType), yX8_init, 1, 21, 1, 2400, 330527984395124299475957654016385519914202341482140609642324397637202895618155672912594605219857642423795606012511679152128)
def mX3_init : MRec := (RX3, cX3_init, 6, (none : Option Jvm.ClassFile.FieldType), yX3_init, 2, 43, 2, 2404, 351185983419819568193205007392409614908843782099954526122061312063564841279654938420489291756101190021395602685725700521984)
def mX3_addSounding : MRec := (RX3, cX3_addSounding, 3, (some .boolean), yX3_addSounding, 2, 51, 0, 0, 3794275180128377091639574036764685364535950857523710002445248344226201089335099392)
def mX3_sureDepth : MRec := (RX3, cX3_sureDepth, 5, (some .int), yX3_sureDepth, 1, 24, 0, 0, 0)
def mX4_add : MRec := (RX4, cX4_add, 3, (none : Option Jvm.ClassFile.FieldType), yX4_add, 1, 22, 0, 0, 3794275180128377091639574036764685364535950857523710002444946112771297432041422848)
def mX5_init : MRec := (RX5, cX5_init, 4, (none : Option Jvm.ClassFile.FieldType), yX5_init, 1, 12, 0, 0, 41315998049390537434494706752048189989275292685267576205290549704650361952269459114074325652482205302974450751563959894016)
def mX5_faultAnswer : MRec := (RX5, cX5_faultAnswer, 1, (some .int), yX5_faultAnswer, 0, 0, 0, 0, 0)
def mX5_next : MRec := (RX5, cX5_next, 2, (some .int), yX5_next, 0, 0, 0, 0, 0)
def mX5_isClauseLetter : MRec := (RX5, cX5_isClauseLetter, 1, (some .boolean), yX5_isClauseLetter, 0, 0, 0, 0, 0)
set_option maxHeartbeats 1000000 in
theorem t_X2_init {K : Kmap} {V : Vmap} {x : Nat} {p0 : Int} (h_x : K x = some (0, 14)) (r_p0 : ir p0) : MC mX2_init K V [.ref x, ti p0] (VX (fun K1 _ => K1 x = some (0, 2) ∧ KE K K1 x)) := by
  refine MC.start 0 (by decide +kernel) rfl rfl rfl (ls0 := [some (.ref x), some (ti p0)]) rfl ?_
  refine GO.aload_n dX2_init_0 rfl rfl ?_
  refine GO.objInit dX2_init_1 gw_329 gw_27 gw_28 rfl rfl ?_
  refine GO.aload_n dX2_init_4 rfl rfl ?_
  refine GO.iconst dX2_init_5 ?_
  refine GO.putRW rfl (by decide +kernel) h_x fp_raw_fp_RX2_9 rfl rfl dX2_init_6 (fun V2 e1 => ?_)
  refine GO.aload_n dX2_init_9 rfl rfl ?_
  refine GO.iconst dX2_init_10 ?_
  refine GO.putRW rfl (by decide +kernel) h_x fp_raw_fp_RX2_15 rfl rfl dX2_init_11 (fun V4 e3 => ?_)
  refine GO.aload_n dX2_init_14 rfl rfl ?_
  refine GO.bipush dX2_init_15 rfl ?_
  refine GO.newI gw_89 (ir_c rfl) (by omega) 20 (by omega) rfl rfl rfl dX2_init_17 (fun o5 K6 V12 hq7 hK8 hE9 h10 _ hV11 => ?_)
  have h13 := (by rw [hK8, updK_ne (K_old h_x hq7)]; exact h_x : K6 x = some (0, 14))
  have h14 := KE.nw KE.rf h_x hq7
  refine GO.putRF rfl rfl (by decide +kernel) h13 fp_raw_fp_RX2_18 rfl rfl dX2_init_19 (fun V16 e15 => ?_)
  refine GO.aload_n dX2_init_22 rfl rfl ?_
  refine GO.bipush dX2_init_23 rfl ?_
  refine GO.newI gw_89 (ir_c rfl) (by omega) 7 (by omega) rfl rfl rfl dX2_init_25 (fun o17 K18 V24 hq19 hK20 hE21 h22 _ hV23 => ?_)
  have h25 := (by rw [hK20, updK_ne (K_old h13 hq19)]; exact h13 : K18 x = some (0, 14))
  have h26 := hE21.arr h10
  have h27 := KE.nw (KE.new KE.rf hq7 hK8) h13 hq19
  refine GO.putRF rfl rfl (by decide +kernel) h25 fp_raw_fp_RX2_22 rfl rfl dX2_init_27 (fun V29 e28 => ?_)
  refine GO.aload_n dX2_init_30 rfl rfl ?_
  refine GO.iload_n dX2_init_31 rfl rfl ?_
  refine GO.putRW rfl (by decide +kernel) h25 fp_raw_fp_RX2_25 rfl rfl dX2_init_32 (fun V31 e30 => ?_)
  refine GO.aload_n dX2_init_35 rfl rfl ?_
  refine GO.getRaw h25 fl_raw_fl_RX2_18 (Eq.trans (uq_ne e30 (Or.inr (by decide))) (Eq.trans (uq_ne e28 (Or.inr (by decide))) (Eq.trans (congrFun (hV23 _ (K_old h13 hq19)) _) (uq_at e15)))) dX2_init_36 ?_
  refine GO.iconst dX2_init_39 ?_
  refine GO.callS (N := mX4_fill) dX2_init_40 gS_RX2_28 (t_X4_fill h26 (ir_c rfl)) rfl [] rfl rfl (Nat.le_of_ble_eq_true rfl) rfl (k_vs fun V34 h33 hF32 => ?_)
  refine GO.promote (ci := 2) rfl h25 (fun j hj => ?_) (fun K35 e36 hE37 h38 => ?_)
  ·
    have hj : j < 5 := hj
    match j, hj with
    | 0, _ => exact okv_any (Eq.trans (hF32 _ _ _ h25 h25 (by decide +kernel)) (uq_at e30))
    | 1, _ => exact okv_any (Eq.trans (hF32 _ _ _ h25 h25 (by decide +kernel)) (Eq.trans (uq_ne e30 (Or.inr (by decide))) (Eq.trans (uq_ne e28 (Or.inr (by decide))) (Eq.trans (congrFun (hV23 _ (K_old h13 hq19)) _) (Eq.trans (uq_ne e15 (Or.inr (by decide))) (Eq.trans (congrFun (hV11 _ (K_old h_x hq7)) _) (Eq.trans (uq_ne e3 (Or.inr (by decide))) (uq_at e1))))))))
    | 2, _ => exact okv_any (Eq.trans (hF32 _ _ _ h25 h25 (by decide +kernel)) (Eq.trans (uq_ne e30 (Or.inr (by decide))) (Eq.trans (uq_ne e28 (Or.inr (by decide))) (Eq.trans (congrFun (hV23 _ (K_old h13 hq19)) _) (Eq.trans (uq_ne e15 (Or.inr (by decide))) (Eq.trans (congrFun (hV11 _ (K_old h_x hq7)) _) (uq_at e3)))))))
    | 3, _ => exact ⟨_, (Eq.trans (hF32 _ _ _ h25 h25 (by decide +kernel)) (Eq.trans (uq_ne e30 (Or.inr (by decide))) (Eq.trans (uq_ne e28 (Or.inr (by decide))) (Eq.trans (congrFun (hV23 _ (K_old h13 hq19)) _) (uq_at e15))))), ⟨_, h26⟩⟩
    | 4, _ => exact ⟨_, (Eq.trans (hF32 _ _ _ h25 h25 (by decide +kernel)) (Eq.trans (uq_ne e30 (Or.inr (by decide))) (uq_at e28))), ⟨_, h22⟩⟩
    | j + 5, hj => exact absurd hj (by omega)
  exact GO.retv rfl rfl dX2_init_43 ⟨rfl, h38, KE.promote (KE.new (KE.new KE.rf hq7 hK8) hq19 hK20) e36⟩

set_option maxHeartbeats 1000000 in
theorem t_X2_decidesOn {K : Kmap} {V : Vmap} {x : Nat} {p0 : Int} (h_x : K x = some (0, 2)) (r_p0 : ir p0) : MC mX2_decidesOn K V [.ref x, ti p0] (IP K V (fun X => (X = 0 ∨ X = 1) ∧ (X ≠ 0 → True) ∧ (X = 0 → True))) := by
  refine MC.start 0 (by decide +kernel) rfl rfl rfl (ls0 := [some (.ref x), some (ti p0)]) rfl ?_
  refine GO.aload_n dX2_decidesOn_0 rfl rfl ?_
  refine GO.getI h_x fl_RX2_25 rfl rfl dX2_decidesOn_1 (fun _ _ => ?_)
  refine GO.iconst dX2_decidesOn_4 ?_
  refine GO.icmp_eq (tgt := 20) dX2_decidesOn_5 (by decide) vi_ir (ir_c rfl) (fun c1 => ?_) (fun c1 => ?_)
  ·
    refine GO.iconst dX2_decidesOn_20 ?_
    exact GO.retz rfl rfl dX2_decidesOn_21 (Or.inl rfl) ⟨rfl, rfl, _, rfl, (ir_c rfl), ⟨Or.inl rfl, fun _ => trivial, fun _ => trivial⟩⟩
  ·
    refine GO.aload_n dX2_decidesOn_8 rfl rfl ?_
    refine GO.getI h_x fl_RX2_25 rfl rfl dX2_decidesOn_9 (fun _ _ => ?_)
    refine GO.iload_n dX2_decidesOn_12 rfl rfl ?_
    refine GO.icmp_gt (tgt := 20) dX2_decidesOn_13 (by decide) vi_ir r_p0 (fun c2 => ?_) (fun c2 => ?_)
    ·
      refine GO.iconst dX2_decidesOn_20 ?_
      exact GO.retz rfl rfl dX2_decidesOn_21 (Or.inl rfl) ⟨rfl, rfl, _, rfl, (ir_c rfl), ⟨Or.inl rfl, fun _ => trivial, fun _ => trivial⟩⟩
    ·
      refine GO.iconst dX2_decidesOn_16 ?_
      refine GO.goto (tgt := 21) dX2_decidesOn_17 (by decide) ?_
      exact GO.retz rfl rfl dX2_decidesOn_21 (Or.inr rfl) ⟨rfl, rfl, _, rfl, (ir_c rfl), ⟨Or.inr rfl, fun _ => trivial, fun _ => trivial⟩⟩

set_option maxHeartbeats 1000000 in
theorem t_X2_blocksWords {K : Kmap} {V : Vmap} {x : Nat} {p0 : Int} (h_x : K x = some (0, 2)) (r_p0 : ir p0) : MC mX2_blocksWords K V [.ref x, ti p0] (IP K V (fun X => (X = 0 ∨ X = 1) ∧ (X ≠ 0 → True) ∧ (X = 0 → True))) := by
  refine MC.start 1 (by decide +kernel) rfl rfl rfl (ls0 := [some (.ref x), some (ti p0), none]) rfl ?_
  refine GO.aload_n dX2_blocksWords_0 rfl rfl ?_
  refine GO.getI h_x fl_RX2_15 rfl rfl dX2_blocksWords_1 (fun _ _ => ?_)
  refine GO.iload_n dX2_blocksWords_4 rfl rfl ?_
  refine GO.iand dX2_blocksWords_5 ?_
  refine GO.if_eq (tgt := 11) dX2_blocksWords_6 (by decide) wand_ir (fun c1 => ?_) (fun c1 => ?_)
  ·
    refine GO.iconst dX2_blocksWords_11 ?_
    refine GO.istore_n (ls1 := [some (.ref x), some (ti p0), some (ti 0)]) dX2_blocksWords_12 rfl rfl rfl ?_
    refine GO.loop1 (fun i2 W => 0 ≤ i2 ∧ i2 ≤ 7 ∧ V = W) (fun i2 => [some (.ref x), some (ti p0), some (ti i2)]) (fun i2 W => (2147483647 - i2).toNat) 0 ⟨by omega, by omega, rfl⟩ rfl (fun i2 V43 hp45 ih44 => ?_)
    obtain ⟨l_i2, u_i2, rfl⟩ := hp45
    have r_i2 : ir i2 := ⟨by omega, by omega⟩
    show GO mX2_blocksWords K V (IP K V (fun X => (X = 0 ∨ X = 1) ∧ (X ≠ 0 → True) ∧ (X = 0 → True))) K V 0 0 13 [some (.ref x), some (ti p0), some (ti i2)] []
    refine GO.iload_n dX2_blocksWords_13 rfl rfl ?_
    refine GO.bipush dX2_blocksWords_14 rfl ?_
    refine GO.icmp_ge (tgt := 50) dX2_blocksWords_16 (by decide) r_i2 (ir_c rfl) (fun c46 => ?_) (fun c46 => ?_)
    ·
      refine GO.iconst dX2_blocksWords_50 ?_
      exact GO.retz rfl rfl dX2_blocksWords_51 (Or.inl rfl) ⟨rfl, rfl, _, rfl, (ir_c rfl), ⟨Or.inl rfl, fun _ => trivial, fun _ => trivial⟩⟩
    ·
      refine GO.iload_n dX2_blocksWords_19 rfl rfl ?_
      refine GO.iload_n dX2_blocksWords_20 rfl rfl ?_
      refine GO.ishr dX2_blocksWords_21 ?_
      refine GO.iconst dX2_blocksWords_22 ?_
      refine GO.iand dX2_blocksWords_23 ?_
      refine GO.if_eq (tgt := 44) dX2_blocksWords_24 (by decide) wand_ir (fun c47 => ?_) (fun c47 => ?_)
      ·
        refine GO.iinc (X := i2) (n := 1) (Y := i2 + 1) (ls1 := [some (.ref x), some (ti p0), some (ti (i2 + 1))]) dX2_blocksWords_44 rfl rfl rfl rfl ?_
        refine GO.goto (tgt := 13) dX2_blocksWords_47 (by decide) ?_
        exact ih44 (i2 + 1) V ⟨by omega, by omega, rfl⟩ (by show (2147483647 - (i2 + 1)).toNat < (2147483647 - i2).toNat; omega)
      ·
        refine GO.aload_n dX2_blocksWords_27 rfl rfl ?_
        refine GO.getB h_x fl_RX2_22 rfl rfl dX2_blocksWords_28 (fun n50 hv49 h48 b51 => ?_)
        refine GO.iload_n dX2_blocksWords_31 rfl rfl ?_
        refine GO.callS (N := mX4_get) dX2_blocksWords_32 gS_RX2_34 (t_X4_get rfl h48 r_i2) rfl [] rfl rfl (Nat.le_of_ble_eq_true rfl) rfl (k_ip fun X52 r53 h54 => ?_)
        refine GO.iload_n dX2_blocksWords_35 rfl rfl ?_
        refine GO.iconst dX2_blocksWords_36 ?_
        refine GO.ixor dX2_blocksWords_37 ?_
        refine GO.iand dX2_blocksWords_38 ?_
        refine GO.if_eq (tgt := 44) dX2_blocksWords_39 (by decide) wand_ir (fun c55 => ?_) (fun c55 => ?_)
        ·
          refine GO.iinc (X := i2) (n := 1) (Y := i2 + 1) (ls1 := [some (.ref x), some (ti p0), some (ti (i2 + 1))]) dX2_blocksWords_44 rfl rfl rfl rfl ?_
          refine GO.goto (tgt := 13) dX2_blocksWords_47 (by decide) ?_
          exact ih44 (i2 + 1) V ⟨by omega, by omega, rfl⟩ (by show (2147483647 - (i2 + 1)).toNat < (2147483647 - i2).toNat; omega)
        ·
          refine GO.iconst dX2_blocksWords_42 ?_
          exact GO.retz rfl rfl dX2_blocksWords_43 (Or.inr rfl) ⟨rfl, rfl, _, rfl, (ir_c rfl), ⟨Or.inr rfl, fun _ => trivial, fun _ => trivial⟩⟩
  ·
    refine GO.iconst dX2_blocksWords_9 ?_
    exact GO.retz rfl rfl dX2_blocksWords_10 (Or.inr rfl) ⟨rfl, rfl, _, rfl, (ir_c rfl), ⟨Or.inr rfl, fun _ => trivial, fun _ => trivial⟩⟩

set_option maxHeartbeats 1000000 in
theorem t_X8_init {K : Kmap} {V : Vmap} {x : Nat} {p0 : Int} {p1 : Int} (h_x : K x = some (0, 19)) (r_p0 : ir p0) (r_p1 : ir p1) (q_0 : p0 ≥ 0) (q_1 : p0 ≤ 6) (q_2 : p1 ≥ 0) (q_3 : p1 ≤ 400) : MC mX8_init K V [.ref x, ti p0, ti p1] (VX (fun K1 _ => K1 x = some (0, 7) ∧ KE K K1 x)) := by
  refine MC.start 0 (by decide +kernel) rfl rfl rfl (ls0 := [some (.ref x), some (ti p0), some (ti p1)]) rfl ?_
  refine GO.aload_n dX8_init_0 rfl rfl ?_
  refine GO.objInit dX8_init_1 gw_103 gw_27 gw_28 rfl rfl ?_
  refine GO.aload_n dX8_init_4 rfl rfl ?_
  refine GO.iconst dX8_init_5 ?_
  refine GO.putRW rfl (by decide +kernel) h_x fp_raw_fp_RX8_9 rfl rfl dX8_init_6 (fun V2 e1 => ?_)
  refine GO.aload_n dX8_init_9 rfl rfl ?_
  refine GO.iload_n dX8_init_10 rfl rfl ?_
  refine GO.putRF rfl rfl (by decide +kernel) h_x fp_raw_fp_RX8_15 rfl rfl dX8_init_11 (fun V4 e3 => ?_)
  refine GO.aload_n dX8_init_14 rfl rfl ?_
  refine GO.iload_n dX8_init_15 rfl rfl ?_
  refine GO.putRF rfl rfl (by decide +kernel) h_x fp_raw_fp_RX8_18 rfl rfl dX8_init_16 (fun V6 e5 => ?_)
  refine GO.aload_n dX8_init_19 rfl rfl ?_
  refine GO.iconst dX8_init_20 ?_
  refine GO.iload_n dX8_init_21 rfl rfl ?_
  refine GO.iload_n dX8_init_22 rfl rfl ?_
  refine GO.imul dX8_init_23 ?_
  have q7 : -2147483648 ≤ p1 ∧ p1 ≤ 2147483647 := r_p1
  have q8 : -2147483648 ≤ p0 ∧ p0 ≤ 2147483647 := r_p0
  have m9 := mul_rng (a := p0) (b := p1) (A := 6) (B := 400) (by omega) (by omega) (by omega) (by omega)
  refine GO.callS (N := mJ9_max_7cf53) dX8_init_24 gS_RX8_21 (t_J9_max_7cf53 (ir_c rfl) ⟨by omega, by omega⟩) rfl [.ref x] rfl rfl (Nat.le_of_ble_eq_true rfl) rfl (k_ip fun X10 r11 h12 => ?_)
  have q13 : -2147483648 ≤ X10 ∧ X10 ≤ 2147483647 := r11
  refine GO.newI gw_89 r11 (by omega) 2400 (by omega) rfl rfl rfl dX8_init_27 (fun o14 K15 V21 hq16 hK17 hE18 h19 _ hV20 => ?_)
  have h22 := (by rw [hK17, updK_ne (K_old h_x hq16)]; exact h_x : K15 x = some (0, 19))
  have h23 := KE.nw KE.rf h_x hq16
  refine GO.putRF rfl rfl (by decide +kernel) h22 fp_raw_fp_RX8_27 rfl rfl dX8_init_29 (fun V25 e24 => ?_)
  refine GO.promote (ci := 7) rfl h22 (fun j hj => ?_) (fun K26 e27 hE28 h29 => ?_)
  ·
    have hj : j < 4 := hj
    match j, hj with
    | 0, _ => exact okv_any (Eq.trans (uq_ne e24 (Or.inr (by decide))) (Eq.trans (congrFun (hV20 _ (K_old h_x hq16)) _) (Eq.trans (uq_ne e5 (Or.inr (by decide))) (uq_at e3))))
    | 1, _ => exact okv_any (Eq.trans (uq_ne e24 (Or.inr (by decide))) (Eq.trans (congrFun (hV20 _ (K_old h_x hq16)) _) (uq_at e5)))
    | 2, _ => exact ⟨_, (uq_at e24), ⟨_, h19⟩⟩
    | 3, _ => exact okv_any (Eq.trans (uq_ne e24 (Or.inr (by decide))) (Eq.trans (congrFun (hV20 _ (K_old h_x hq16)) _) (Eq.trans (uq_ne e5 (Or.inr (by decide))) (Eq.trans (uq_ne e3 (Or.inr (by decide))) (uq_at e1)))))
    | j + 4, hj => exact absurd hj (by omega)
  exact GO.retv rfl rfl dX8_init_32 ⟨rfl, h29, KE.promote (KE.new KE.rf hq16 hK17) e27⟩

set_option maxHeartbeats 1000000 in
theorem t_X3_init {K : Kmap} {V : Vmap} {x : Nat} {p0 : Int} {p1 : Int} {p2 : Int} {p3 : Int} {p4 : Int} (h_x : K x = some (0, 15)) (r_p0 : ir p0) (r_p1 : ir p1) (r_p2 : ir p2) (r_p3 : ir p3) (r_p4 : ir p4) : MC mX3_init K V [.ref x, ti p0, ti p1, ti p2, ti p3, ti p4] (VX (fun K1 _ => K1 x = some (0, 3) ∧ KE K K1 x)) := by
  refine MC.start 0 (by decide +kernel) rfl rfl rfl (ls0 := [some (.ref x), some (ti p0), some (ti p1), some (ti p2), some (ti p3), some (ti p4)]) rfl ?_
  refine GO.aload_n dX3_init_0 rfl rfl ?_
  refine GO.objInit dX3_init_1 gw_429 gw_27 gw_28 rfl rfl ?_
  refine GO.aload_n dX3_init_4 rfl rfl ?_
  refine GO.iconst dX3_init_5 ?_
  refine GO.putRW rfl (by decide +kernel) h_x fp_raw_fp_RX3_9 rfl rfl dX3_init_6 (fun V2 e1 => ?_)
  refine GO.aload_n dX3_init_9 rfl rfl ?_
  refine GO.iconst dX3_init_10 ?_
  refine GO.putRW rfl (by decide +kernel) h_x fp_raw_fp_RX3_15 rfl rfl dX3_init_11 (fun V4 e3 => ?_)
  refine GO.aload_n dX3_init_14 rfl rfl ?_
  refine GO.iconst dX3_init_15 ?_
  refine GO.putRW rfl (by decide +kernel) h_x fp_raw_fp_RX3_19 rfl rfl dX3_init_16 (fun V6 e5 => ?_)
  refine GO.aload_n dX3_init_19 rfl rfl ?_
  refine GO.iconst dX3_init_20 ?_
  refine GO.putRW rfl (by decide +kernel) h_x fp_raw_fp_RX3_22 rfl rfl dX3_init_21 (fun V8 e7 => ?_)
  refine GO.aload_n dX3_init_24 rfl rfl ?_
  refine GO.iconst dX3_init_25 ?_
  refine GO.putRW rfl (by decide +kernel) h_x fp_raw_fp_RX3_25 rfl rfl dX3_init_26 (fun V10 e9 => ?_)
  refine GO.aload_n dX3_init_29 rfl rfl ?_
  refine GO.iconst dX3_init_30 ?_
  refine GO.putRW rfl (by decide +kernel) h_x fp_raw_fp_RX3_28 rfl rfl dX3_init_31 (fun V12 e11 => ?_)
  refine GO.aload_n dX3_init_34 rfl rfl ?_
  refine GO.iconst dX3_init_35 ?_
  refine GO.putRW rfl (by decide +kernel) h_x fp_raw_fp_RX3_31 rfl rfl dX3_init_36 (fun V14 e13 => ?_)
  refine GO.aload_n dX3_init_39 rfl rfl ?_
  refine GO.iconst dX3_init_40 ?_
  refine GO.putRW rfl (by decide +kernel) h_x fp_raw_fp_RX3_34 rfl rfl dX3_init_41 (fun V16 e15 => ?_)
  refine GO.aload_n dX3_init_44 rfl rfl ?_
  refine GO.iload_n dX3_init_45 rfl rfl ?_
  refine GO.putRF rfl rfl (by decide +kernel) h_x fp_raw_fp_RX3_37 rfl rfl dX3_init_46 (fun V18 e17 => ?_)
  refine GO.aload_n dX3_init_49 rfl rfl ?_
  refine GO.iload_n dX3_init_50 rfl rfl ?_
  refine GO.putRF rfl rfl (by decide +kernel) h_x fp_raw_fp_RX3_40 rfl rfl dX3_init_51 (fun V20 e19 => ?_)
  refine GO.aload_n dX3_init_54 rfl rfl ?_
  refine GO.iload_n dX3_init_55 rfl rfl ?_
  refine GO.putRW rfl (by decide +kernel) h_x fp_raw_fp_RX3_43 rfl rfl dX3_init_56 (fun V22 e21 => ?_)
  refine GO.aload_n dX3_init_59 rfl rfl ?_
  refine GO.iload dX3_init_60 rfl ?_
  refine GO.putRF rfl rfl (by decide +kernel) h_x fp_raw_fp_RX3_46 rfl rfl dX3_init_62 (fun V24 e23 => ?_)
  refine GO.aload_n dX3_init_65 rfl rfl ?_
  refine GO.iload dX3_init_66 rfl ?_
  refine GO.putRW rfl (by decide +kernel) h_x fp_raw_fp_RX3_49 rfl rfl dX3_init_68 (fun V26 e25 => ?_)
  refine GO.aload_n dX3_init_71 rfl rfl ?_
  refine GO.iload_n dX3_init_72 rfl rfl ?_
  refine GO.iconst dX3_init_73 ?_
  refine GO.icmp_ne (tgt := 83) dX3_init_74 (by decide) r_p0 (ir_c rfl) (fun c49 => ?_) (fun c49 => ?_)
  ·
    refine GO.iload_n dX3_init_83 rfl rfl ?_
    refine GO.iconst dX3_init_84 ?_
    refine GO.icmp_ne (tgt := 95) dX3_init_85 (by decide) r_p0 (ir_c rfl) (fun c50 => ?_) (fun c50 => ?_)
    ·
      refine GO.null dX3_init_95 ?_
      refine GO.putRF rfl rfl (by decide +kernel) h_x fp_raw_fp_RX3_52 rfl rfl dX3_init_96 (fun V52 e51 => ?_)
      refine GO.aload_n dX3_init_99 rfl rfl ?_
      refine GO.iload_n dX3_init_100 rfl rfl ?_
      refine GO.iconst dX3_init_101 ?_
      have q56 : -2147483648 ≤ p0 ∧ p0 ≤ 2147483647 := r_p0
      refine GO.icmp_ne (tgt := 112) dX3_init_102 (by decide) r_p0 (ir_c rfl) (fun c55 => ?_) (fun h => by exfalso; omega)
      refine GO.null dX3_init_112 ?_
      refine GO.putRF rfl rfl (by decide +kernel) h_x fp_raw_fp_RX3_56 rfl rfl dX3_init_113 (fun V58 e57 => ?_)
      refine GO.aload_n dX3_init_116 rfl rfl ?_
      refine GO.iload_n dX3_init_117 rfl rfl ?_
      refine GO.iconst dX3_init_118 ?_
      refine GO.icmp_ne (tgt := 135) dX3_init_119 (by decide) r_p0 (ir_c rfl) (fun c59 => ?_) (fun c59 => ?_)
      ·
        refine GO.null dX3_init_135 ?_
        refine GO.putRF rfl rfl (by decide +kernel) h_x fp_raw_fp_RX3_64 rfl rfl dX3_init_136 (fun V61 e60 => ?_)
        refine GO.iload_n dX3_init_139 rfl rfl ?_
        refine GO.iconst dX3_init_140 ?_
        refine GO.icmp_ne (tgt := 152) dX3_init_141 (by decide) r_p0 (ir_c rfl) (fun c62 => ?_) (fun h => by exfalso; omega)
        refine GO.promote (ci := 3) rfl h_x (fun j hj => ?_) (fun K63 e64 hE65 h66 => ?_)
        ·
          have hj : j < 16 := hj
          match j, hj with
          | 0, _ => exact okv_any (Eq.trans (uq_ne e60 (Or.inr (by decide))) (Eq.trans (uq_ne e57 (Or.inr (by decide))) (Eq.trans (uq_ne e51 (Or.inr (by decide))) (Eq.trans (uq_ne e25 (Or.inr (by decide))) (Eq.trans (uq_ne e23 (Or.inr (by decide))) (Eq.trans (uq_ne e21 (Or.inr (by decide))) (Eq.trans (uq_ne e19 (Or.inr (by decide))) (uq_at e17))))))))
          | 1, _ => exact okv_any (Eq.trans (uq_ne e60 (Or.inr (by decide))) (Eq.trans (uq_ne e57 (Or.inr (by decide))) (Eq.trans (uq_ne e51 (Or.inr (by decide))) (Eq.trans (uq_ne e25 (Or.inr (by decide))) (Eq.trans (uq_ne e23 (Or.inr (by decide))) (Eq.trans (uq_ne e21 (Or.inr (by decide))) (uq_at e19)))))))
          | 2, _ => exact okv_any (Eq.trans (uq_ne e60 (Or.inr (by decide))) (Eq.trans (uq_ne e57 (Or.inr (by decide))) (Eq.trans (uq_ne e51 (Or.inr (by decide))) (Eq.trans (uq_ne e25 (Or.inr (by decide))) (Eq.trans (uq_ne e23 (Or.inr (by decide))) (uq_at e21))))))
          | 3, _ => exact okv_any (Eq.trans (uq_ne e60 (Or.inr (by decide))) (Eq.trans (uq_ne e57 (Or.inr (by decide))) (Eq.trans (uq_ne e51 (Or.inr (by decide))) (Eq.trans (uq_ne e25 (Or.inr (by decide))) (uq_at e23)))))
          | 4, _ => exact okv_any (Eq.trans (uq_ne e60 (Or.inr (by decide))) (Eq.trans (uq_ne e57 (Or.inr (by decide))) (Eq.trans (uq_ne e51 (Or.inr (by decide))) (uq_at e25))))
          | 5, _ => exact okv_at (Eq.trans (uq_ne e60 (Or.inr (by decide))) (Eq.trans (uq_ne e57 (Or.inr (by decide))) (Eq.trans (uq_ne e51 (Or.inr (by decide))) (Eq.trans (uq_ne e25 (Or.inr (by decide))) (Eq.trans (uq_ne e23 (Or.inr (by decide))) (Eq.trans (uq_ne e21 (Or.inr (by decide))) (Eq.trans (uq_ne e19 (Or.inr (by decide))) (Eq.trans (uq_ne e17 (Or.inr (by decide))) (Eq.trans (uq_ne e15 (Or.inr (by decide))) (Eq.trans (uq_ne e13 (Or.inr (by decide))) (Eq.trans (uq_ne e11 (Or.inr (by decide))) (Eq.trans (uq_ne e9 (Or.inr (by decide))) (Eq.trans (uq_ne e7 (Or.inr (by decide))) (Eq.trans (uq_ne e5 (Or.inr (by decide))) (Eq.trans (uq_ne e3 (Or.inr (by decide))) (uq_at e1)))))))))))))))) (ir_c rfl) (by omega) (by omega)
          | 6, _ => exact okv_any (Eq.trans (uq_ne e60 (Or.inr (by decide))) (Eq.trans (uq_ne e57 (Or.inr (by decide))) (Eq.trans (uq_ne e51 (Or.inr (by decide))) (Eq.trans (uq_ne e25 (Or.inr (by decide))) (Eq.trans (uq_ne e23 (Or.inr (by decide))) (Eq.trans (uq_ne e21 (Or.inr (by decide))) (Eq.trans (uq_ne e19 (Or.inr (by decide))) (Eq.trans (uq_ne e17 (Or.inr (by decide))) (Eq.trans (uq_ne e15 (Or.inr (by decide))) (Eq.trans (uq_ne e13 (Or.inr (by decide))) (Eq.trans (uq_ne e11 (Or.inr (by decide))) (Eq.trans (uq_ne e9 (Or.inr (by decide))) (Eq.trans (uq_ne e7 (Or.inr (by decide))) (Eq.trans (uq_ne e5 (Or.inr (by decide))) (uq_at e3)))))))))))))))
          | 7, _ => exact okv_any (Eq.trans (uq_ne e60 (Or.inr (by decide))) (Eq.trans (uq_ne e57 (Or.inr (by decide))) (Eq.trans (uq_ne e51 (Or.inr (by decide))) (Eq.trans (uq_ne e25 (Or.inr (by decide))) (Eq.trans (uq_ne e23 (Or.inr (by decide))) (Eq.trans (uq_ne e21 (Or.inr (by decide))) (Eq.trans (uq_ne e19 (Or.inr (by decide))) (Eq.trans (uq_ne e17 (Or.inr (by decide))) (Eq.trans (uq_ne e15 (Or.inr (by decide))) (Eq.trans (uq_ne e13 (Or.inr (by decide))) (Eq.trans (uq_ne e11 (Or.inr (by decide))) (Eq.trans (uq_ne e9 (Or.inr (by decide))) (Eq.trans (uq_ne e7 (Or.inr (by decide))) (uq_at e5))))))))))))))
          | 8, _ => exact okv_any (Eq.trans (uq_ne e60 (Or.inr (by decide))) (Eq.trans (uq_ne e57 (Or.inr (by decide))) (Eq.trans (uq_ne e51 (Or.inr (by decide))) (Eq.trans (uq_ne e25 (Or.inr (by decide))) (Eq.trans (uq_ne e23 (Or.inr (by decide))) (Eq.trans (uq_ne e21 (Or.inr (by decide))) (Eq.trans (uq_ne e19 (Or.inr (by decide))) (Eq.trans (uq_ne e17 (Or.inr (by decide))) (Eq.trans (uq_ne e15 (Or.inr (by decide))) (Eq.trans (uq_ne e13 (Or.inr (by decide))) (Eq.trans (uq_ne e11 (Or.inr (by decide))) (Eq.trans (uq_ne e9 (Or.inr (by decide))) (uq_at e7)))))))))))))
          | 9, _ => exact okv_any (Eq.trans (uq_ne e60 (Or.inr (by decide))) (Eq.trans (uq_ne e57 (Or.inr (by decide))) (Eq.trans (uq_ne e51 (Or.inr (by decide))) (Eq.trans (uq_ne e25 (Or.inr (by decide))) (Eq.trans (uq_ne e23 (Or.inr (by decide))) (Eq.trans (uq_ne e21 (Or.inr (by decide))) (Eq.trans (uq_ne e19 (Or.inr (by decide))) (Eq.trans (uq_ne e17 (Or.inr (by decide))) (Eq.trans (uq_ne e15 (Or.inr (by decide))) (Eq.trans (uq_ne e13 (Or.inr (by decide))) (Eq.trans (uq_ne e11 (Or.inr (by decide))) (uq_at e9))))))))))))
          | 10, _ => exact okv_any (Eq.trans (uq_ne e60 (Or.inr (by decide))) (Eq.trans (uq_ne e57 (Or.inr (by decide))) (Eq.trans (uq_ne e51 (Or.inr (by decide))) (Eq.trans (uq_ne e25 (Or.inr (by decide))) (Eq.trans (uq_ne e23 (Or.inr (by decide))) (Eq.trans (uq_ne e21 (Or.inr (by decide))) (Eq.trans (uq_ne e19 (Or.inr (by decide))) (Eq.trans (uq_ne e17 (Or.inr (by decide))) (Eq.trans (uq_ne e15 (Or.inr (by decide))) (Eq.trans (uq_ne e13 (Or.inr (by decide))) (uq_at e11)))))))))))
          | 11, _ => exact okv_any (Eq.trans (uq_ne e60 (Or.inr (by decide))) (Eq.trans (uq_ne e57 (Or.inr (by decide))) (Eq.trans (uq_ne e51 (Or.inr (by decide))) (Eq.trans (uq_ne e25 (Or.inr (by decide))) (Eq.trans (uq_ne e23 (Or.inr (by decide))) (Eq.trans (uq_ne e21 (Or.inr (by decide))) (Eq.trans (uq_ne e19 (Or.inr (by decide))) (Eq.trans (uq_ne e17 (Or.inr (by decide))) (Eq.trans (uq_ne e15 (Or.inr (by decide))) (uq_at e13))))))))))
          | 12, _ => exact okv_any (Eq.trans (uq_ne e60 (Or.inr (by decide))) (Eq.trans (uq_ne e57 (Or.inr (by decide))) (Eq.trans (uq_ne e51 (Or.inr (by decide))) (Eq.trans (uq_ne e25 (Or.inr (by decide))) (Eq.trans (uq_ne e23 (Or.inr (by decide))) (Eq.trans (uq_ne e21 (Or.inr (by decide))) (Eq.trans (uq_ne e19 (Or.inr (by decide))) (Eq.trans (uq_ne e17 (Or.inr (by decide))) (uq_at e15)))))))))
          | 13, _ => exact Or.inl (Eq.trans (uq_ne e60 (Or.inr (by decide))) (Eq.trans (uq_ne e57 (Or.inr (by decide))) (uq_at e51)))
          | 14, _ => exact Or.inl (Eq.trans (uq_ne e60 (Or.inr (by decide))) (uq_at e57))
          | 15, _ => exact Or.inl (uq_at e60)
          | j + 16, hj => exact absurd hj (by omega)
        exact GO.retv rfl rfl dX3_init_152 ⟨rfl, h66, KE.promote KE.rf e64⟩
      ·
        refine GO.new (ci := 19) (RX8, TX8, 4) tyX8 rfl rfl lays_7 tyX8_ok gw_430 gw_99 gw_5 rfl rfl dX3_init_122 (fun o67 K68 V74 hq69 hK70 hE71 h72 _ hV73 => ?_)
        have h75 := (by rw [hK70, updK_ne (K_old h_x hq69)]; exact h_x : K68 x = some (0, 15))
        have h76 := KE.nw KE.rf h_x hq69
        refine GO.dup dX3_init_125 rfl ?_
        refine GO.iconst dX3_init_126 ?_
        refine GO.bipush dX3_init_127 rfl ?_
        refine GO.callI (N := mX8_init) dX3_init_129 gI_RX3_61 rfl (t_X8_init h72 (ir_c rfl) (ir_c rfl) (by omega) (by omega) (by omega) (by omega)) rfl [.ref o67, .ref x] rfl rfl (Nat.le_of_ble_eq_true rfl) rfl (k_vx fun K79 V81 h80 hE78 hF77 => ?_)
        have h82 := h80.2 _ _ (K_ne h75 h72 (by decide)) h75
        have h83 := h80.1
        refine GO.goto (tgt := 136) dX3_init_132 (by decide) ?_
        refine GO.putRF rfl rfl (by decide +kernel) h82 fp_raw_fp_RX3_64 rfl rfl dX3_init_136 (fun V85 e84 => ?_)
        refine GO.iload_n dX3_init_139 rfl rfl ?_
        refine GO.iconst dX3_init_140 ?_
        refine GO.icmp_ne (tgt := 152) dX3_init_141 (by decide) r_p0 (ir_c rfl) (fun c86 => ?_) (fun h => by exfalso; omega)
        refine GO.promote (ci := 3) rfl h82 (fun j hj => ?_) (fun K87 e88 hE89 h90 => ?_)
        ·
          have hj : j < 16 := hj
          match j, hj with
          | 0, _ => exact okv_any (Eq.trans (uq_ne e84 (Or.inr (by decide))) (Eq.trans (hF77 _ _ _ h75 h82 (by decide +kernel)) (Eq.trans (congrFun (hV73 _ (K_old h_x hq69)) _) (Eq.trans (uq_ne e57 (Or.inr (by decide))) (Eq.trans (uq_ne e51 (Or.inr (by decide))) (Eq.trans (uq_ne e25 (Or.inr (by decide))) (Eq.trans (uq_ne e23 (Or.inr (by decide))) (Eq.trans (uq_ne e21 (Or.inr (by decide))) (Eq.trans (uq_ne e19 (Or.inr (by decide))) (uq_at e17))))))))))
          | 1, _ => exact okv_any (Eq.trans (uq_ne e84 (Or.inr (by decide))) (Eq.trans (hF77 _ _ _ h75 h82 (by decide +kernel)) (Eq.trans (congrFun (hV73 _ (K_old h_x hq69)) _) (Eq.trans (uq_ne e57 (Or.inr (by decide))) (Eq.trans (uq_ne e51 (Or.inr (by decide))) (Eq.trans (uq_ne e25 (Or.inr (by decide))) (Eq.trans (uq_ne e23 (Or.inr (by decide))) (Eq.trans (uq_ne e21 (Or.inr (by decide))) (uq_at e19)))))))))
          | 2, _ => exact okv_any (Eq.trans (uq_ne e84 (Or.inr (by decide))) (Eq.trans (hF77 _ _ _ h75 h82 (by decide +kernel)) (Eq.trans (congrFun (hV73 _ (K_old h_x hq69)) _) (Eq.trans (uq_ne e57 (Or.inr (by decide))) (Eq.trans (uq_ne e51 (Or.inr (by decide))) (Eq.trans (uq_ne e25 (Or.inr (by decide))) (Eq.trans (uq_ne e23 (Or.inr (by decide))) (uq_at e21))))))))
          | 3, _ => exact okv_any (Eq.trans (uq_ne e84 (Or.inr (by decide))) (Eq.trans (hF77 _ _ _ h75 h82 (by decide +kernel)) (Eq.trans (congrFun (hV73 _ (K_old h_x hq69)) _) (Eq.trans (uq_ne e57 (Or.inr (by decide))) (Eq.trans (uq_ne e51 (Or.inr (by decide))) (Eq.trans (uq_ne e25 (Or.inr (by decide))) (uq_at e23)))))))
          | 4, _ => exact okv_any (Eq.trans (uq_ne e84 (Or.inr (by decide))) (Eq.trans (hF77 _ _ _ h75 h82 (by decide +kernel)) (Eq.trans (congrFun (hV73 _ (K_old h_x hq69)) _) (Eq.trans (uq_ne e57 (Or.inr (by decide))) (Eq.trans (uq_ne e51 (Or.inr (by decide))) (uq_at e25))))))
          | 5, _ => exact okv_at (Eq.trans (uq_ne e84 (Or.inr (by decide))) (Eq.trans (hF77 _ _ _ h75 h82 (by decide +kernel)) (Eq.trans (congrFun (hV73 _ (K_old h_x hq69)) _) (Eq.trans (uq_ne e57 (Or.inr (by decide))) (Eq.trans (uq_ne e51 (Or.inr (by decide))) (Eq.trans (uq_ne e25 (Or.inr (by decide))) (Eq.trans (uq_ne e23 (Or.inr (by decide))) (Eq.trans (uq_ne e21 (Or.inr (by decide))) (Eq.trans (uq_ne e19 (Or.inr (by decide))) (Eq.trans (uq_ne e17 (Or.inr (by decide))) (Eq.trans (uq_ne e15 (Or.inr (by decide))) (Eq.trans (uq_ne e13 (Or.inr (by decide))) (Eq.trans (uq_ne e11 (Or.inr (by decide))) (Eq.trans (uq_ne e9 (Or.inr (by decide))) (Eq.trans (uq_ne e7 (Or.inr (by decide))) (Eq.trans (uq_ne e5 (Or.inr (by decide))) (Eq.trans (uq_ne e3 (Or.inr (by decide))) (uq_at e1)))))))))))))))))) (ir_c rfl) (by omega) (by omega)
          | 6, _ => exact okv_any (Eq.trans (uq_ne e84 (Or.inr (by decide))) (Eq.trans (hF77 _ _ _ h75 h82 (by decide +kernel)) (Eq.trans (congrFun (hV73 _ (K_old h_x hq69)) _) (Eq.trans (uq_ne e57 (Or.inr (by decide))) (Eq.trans (uq_ne e51 (Or.inr (by decide))) (Eq.trans (uq_ne e25 (Or.inr (by decide))) (Eq.trans (uq_ne e23 (Or.inr (by decide))) (Eq.trans (uq_ne e21 (Or.inr (by decide))) (Eq.trans (uq_ne e19 (Or.inr (by decide))) (Eq.trans (uq_ne e17 (Or.inr (by decide))) (Eq.trans (uq_ne e15 (Or.inr (by decide))) (Eq.trans (uq_ne e13 (Or.inr (by decide))) (Eq.trans (uq_ne e11 (Or.inr (by decide))) (Eq.trans (uq_ne e9 (Or.inr (by decide))) (Eq.trans (uq_ne e7 (Or.inr (by decide))) (Eq.trans (uq_ne e5 (Or.inr (by decide))) (uq_at e3)))))))))))))))))
          | 7, _ => exact okv_any (Eq.trans (uq_ne e84 (Or.inr (by decide))) (Eq.trans (hF77 _ _ _ h75 h82 (by decide +kernel)) (Eq.trans (congrFun (hV73 _ (K_old h_x hq69)) _) (Eq.trans (uq_ne e57 (Or.inr (by decide))) (Eq.trans (uq_ne e51 (Or.inr (by decide))) (Eq.trans (uq_ne e25 (Or.inr (by decide))) (Eq.trans (uq_ne e23 (Or.inr (by decide))) (Eq.trans (uq_ne e21 (Or.inr (by decide))) (Eq.trans (uq_ne e19 (Or.inr (by decide))) (Eq.trans (uq_ne e17 (Or.inr (by decide))) (Eq.trans (uq_ne e15 (Or.inr (by decide))) (Eq.trans (uq_ne e13 (Or.inr (by decide))) (Eq.trans (uq_ne e11 (Or.inr (by decide))) (Eq.trans (uq_ne e9 (Or.inr (by decide))) (Eq.trans (uq_ne e7 (Or.inr (by decide))) (uq_at e5))))))))))))))))
          | 8, _ => exact okv_any (Eq.trans (uq_ne e84 (Or.inr (by decide))) (Eq.trans (hF77 _ _ _ h75 h82 (by decide +kernel)) (Eq.trans (congrFun (hV73 _ (K_old h_x hq69)) _) (Eq.trans (uq_ne e57 (Or.inr (by decide))) (Eq.trans (uq_ne e51 (Or.inr (by decide))) (Eq.trans (uq_ne e25 (Or.inr (by decide))) (Eq.trans (uq_ne e23 (Or.inr (by decide))) (Eq.trans (uq_ne e21 (Or.inr (by decide))) (Eq.trans (uq_ne e19 (Or.inr (by decide))) (Eq.trans (uq_ne e17 (Or.inr (by decide))) (Eq.trans (uq_ne e15 (Or.inr (by decide))) (Eq.trans (uq_ne e13 (Or.inr (by decide))) (Eq.trans (uq_ne e11 (Or.inr (by decide))) (Eq.trans (uq_ne e9 (Or.inr (by decide))) (uq_at e7)))))))))))))))
          | 9, _ => exact okv_any (Eq.trans (uq_ne e84 (Or.inr (by decide))) (Eq.trans (hF77 _ _ _ h75 h82 (by decide +kernel)) (Eq.trans (congrFun (hV73 _ (K_old h_x hq69)) _) (Eq.trans (uq_ne e57 (Or.inr (by decide))) (Eq.trans (uq_ne e51 (Or.inr (by decide))) (Eq.trans (uq_ne e25 (Or.inr (by decide))) (Eq.trans (uq_ne e23 (Or.inr (by decide))) (Eq.trans (uq_ne e21 (Or.inr (by decide))) (Eq.trans (uq_ne e19 (Or.inr (by decide))) (Eq.trans (uq_ne e17 (Or.inr (by decide))) (Eq.trans (uq_ne e15 (Or.inr (by decide))) (Eq.trans (uq_ne e13 (Or.inr (by decide))) (Eq.trans (uq_ne e11 (Or.inr (by decide))) (uq_at e9))))))))))))))
          | 10, _ => exact okv_any (Eq.trans (uq_ne e84 (Or.inr (by decide))) (Eq.trans (hF77 _ _ _ h75 h82 (by decide +kernel)) (Eq.trans (congrFun (hV73 _ (K_old h_x hq69)) _) (Eq.trans (uq_ne e57 (Or.inr (by decide))) (Eq.trans (uq_ne e51 (Or.inr (by decide))) (Eq.trans (uq_ne e25 (Or.inr (by decide))) (Eq.trans (uq_ne e23 (Or.inr (by decide))) (Eq.trans (uq_ne e21 (Or.inr (by decide))) (Eq.trans (uq_ne e19 (Or.inr (by decide))) (Eq.trans (uq_ne e17 (Or.inr (by decide))) (Eq.trans (uq_ne e15 (Or.inr (by decide))) (Eq.trans (uq_ne e13 (Or.inr (by decide))) (uq_at e11)))))))))))))
          | 11, _ => exact okv_any (Eq.trans (uq_ne e84 (Or.inr (by decide))) (Eq.trans (hF77 _ _ _ h75 h82 (by decide +kernel)) (Eq.trans (congrFun (hV73 _ (K_old h_x hq69)) _) (Eq.trans (uq_ne e57 (Or.inr (by decide))) (Eq.trans (uq_ne e51 (Or.inr (by decide))) (Eq.trans (uq_ne e25 (Or.inr (by decide))) (Eq.trans (uq_ne e23 (Or.inr (by decide))) (Eq.trans (uq_ne e21 (Or.inr (by decide))) (Eq.trans (uq_ne e19 (Or.inr (by decide))) (Eq.trans (uq_ne e17 (Or.inr (by decide))) (Eq.trans (uq_ne e15 (Or.inr (by decide))) (uq_at e13))))))))))))
          | 12, _ => exact okv_any (Eq.trans (uq_ne e84 (Or.inr (by decide))) (Eq.trans (hF77 _ _ _ h75 h82 (by decide +kernel)) (Eq.trans (congrFun (hV73 _ (K_old h_x hq69)) _) (Eq.trans (uq_ne e57 (Or.inr (by decide))) (Eq.trans (uq_ne e51 (Or.inr (by decide))) (Eq.trans (uq_ne e25 (Or.inr (by decide))) (Eq.trans (uq_ne e23 (Or.inr (by decide))) (Eq.trans (uq_ne e21 (Or.inr (by decide))) (Eq.trans (uq_ne e19 (Or.inr (by decide))) (Eq.trans (uq_ne e17 (Or.inr (by decide))) (uq_at e15)))))))))))
          | 13, _ => exact Or.inl (Eq.trans (uq_ne e84 (Or.inr (by decide))) (Eq.trans (hF77 _ _ _ h75 h82 (by decide +kernel)) (Eq.trans (congrFun (hV73 _ (K_old h_x hq69)) _) (Eq.trans (uq_ne e57 (Or.inr (by decide))) (uq_at e51)))))
          | 14, _ => exact Or.inl (Eq.trans (uq_ne e84 (Or.inr (by decide))) (Eq.trans (hF77 _ _ _ h75 h82 (by decide +kernel)) (Eq.trans (congrFun (hV73 _ (K_old h_x hq69)) _) (uq_at e57))))
          | 15, _ => exact Or.inr ⟨_, (uq_at e84), h83⟩
          | j + 16, hj => exact absurd hj (by omega)
        exact GO.retv rfl rfl dX3_init_152 ⟨rfl, h90, KE.promote (KE.call (KE.new KE.rf hq69 hK70) h80.2 h76) e88⟩
    ·
      refine GO.bipush dX3_init_88 rfl ?_
      refine GO.newI gw_89 (ir_c rfl) (by omega) 10 (by omega) rfl rfl rfl dX3_init_90 (fun o91 K92 V98 hq93 hK94 hE95 h96 _ hV97 => ?_)
      have h99 := (by rw [hK94, updK_ne (K_old h_x hq93)]; exact h_x : K92 x = some (0, 15))
      have h100 := KE.nw KE.rf h_x hq93
      refine GO.goto (tgt := 96) dX3_init_92 (by decide) ?_
      refine GO.putRF rfl rfl (by decide +kernel) h99 fp_raw_fp_RX3_52 rfl rfl dX3_init_96 (fun V102 e101 => ?_)
      refine GO.aload_n dX3_init_99 rfl rfl ?_
      refine GO.iload_n dX3_init_100 rfl rfl ?_
      refine GO.iconst dX3_init_101 ?_
      have q117 : -2147483648 ≤ p0 ∧ p0 ≤ 2147483647 := r_p0
      refine GO.icmp_ne (tgt := 112) dX3_init_102 (by decide) r_p0 (ir_c rfl) (fun h => by exfalso; omega) (fun c116 => ?_)
      refine GO.bipush dX3_init_105 rfl ?_
      refine GO.newI gw_89 (ir_c rfl) (by omega) 10 (by omega) rfl rfl rfl dX3_init_107 (fun o118 K119 V125 hq120 hK121 hE122 h123 _ hV124 => ?_)
      have h126 := (by rw [hK121, updK_ne (K_old h99 hq120)]; exact h99 : K119 x = some (0, 15))
      have h127 := hE122.arr h96
      have h128 := KE.nw (KE.new KE.rf hq93 hK94) h99 hq120
      refine GO.goto (tgt := 113) dX3_init_109 (by decide) ?_
      refine GO.putRF rfl rfl (by decide +kernel) h126 fp_raw_fp_RX3_56 rfl rfl dX3_init_113 (fun V130 e129 => ?_)
      refine GO.aload_n dX3_init_116 rfl rfl ?_
      refine GO.iload_n dX3_init_117 rfl rfl ?_
      refine GO.iconst dX3_init_118 ?_
      refine GO.icmp_ne (tgt := 135) dX3_init_119 (by decide) r_p0 (ir_c rfl) (fun c131 => ?_) (fun h => by exfalso; omega)
      refine GO.null dX3_init_135 ?_
      refine GO.putRF rfl rfl (by decide +kernel) h126 fp_raw_fp_RX3_64 rfl rfl dX3_init_136 (fun V133 e132 => ?_)
      refine GO.iload_n dX3_init_139 rfl rfl ?_
      refine GO.iconst dX3_init_140 ?_
      refine GO.icmp_ne (tgt := 152) dX3_init_141 (by decide) r_p0 (ir_c rfl) (fun h => by exfalso; omega) (fun c134 => ?_)
      refine GO.aload_n dX3_init_144 rfl rfl ?_
      refine GO.getRaw h126 fl_raw_fl_RX3_52 (Eq.trans (uq_ne e132 (Or.inr (by decide))) (Eq.trans (uq_ne e129 (Or.inr (by decide))) (Eq.trans (congrFun (hV124 _ (K_old h99 hq120)) _) (uq_at e101)))) dX3_init_145 ?_
      refine GO.iconst dX3_init_148 ?_
      refine GO.callS (N := mX4_fill) dX3_init_149 gS_RX3_68 (t_X4_fill h127 (ir_c rfl)) rfl [] rfl rfl (Nat.le_of_ble_eq_true rfl) rfl (k_vs fun V137 h136 hF135 => ?_)
      refine GO.promote (ci := 3) rfl h126 (fun j hj => ?_) (fun K138 e139 hE140 h141 => ?_)
      ·
        have hj : j < 16 := hj
        match j, hj with
        | 0, _ => exact okv_any (Eq.trans (hF135 _ _ _ h126 h126 (by decide +kernel)) (Eq.trans (uq_ne e132 (Or.inr (by decide))) (Eq.trans (uq_ne e129 (Or.inr (by decide))) (Eq.trans (congrFun (hV124 _ (K_old h99 hq120)) _) (Eq.trans (uq_ne e101 (Or.inr (by decide))) (Eq.trans (congrFun (hV97 _ (K_old h_x hq93)) _) (Eq.trans (uq_ne e25 (Or.inr (by decide))) (Eq.trans (uq_ne e23 (Or.inr (by decide))) (Eq.trans (uq_ne e21 (Or.inr (by decide))) (Eq.trans (uq_ne e19 (Or.inr (by decide))) (uq_at e17)))))))))))
        | 1, _ => exact okv_any (Eq.trans (hF135 _ _ _ h126 h126 (by decide +kernel)) (Eq.trans (uq_ne e132 (Or.inr (by decide))) (Eq.trans (uq_ne e129 (Or.inr (by decide))) (Eq.trans (congrFun (hV124 _ (K_old h99 hq120)) _) (Eq.trans (uq_ne e101 (Or.inr (by decide))) (Eq.trans (congrFun (hV97 _ (K_old h_x hq93)) _) (Eq.trans (uq_ne e25 (Or.inr (by decide))) (Eq.trans (uq_ne e23 (Or.inr (by decide))) (Eq.trans (uq_ne e21 (Or.inr (by decide))) (uq_at e19))))))))))
        | 2, _ => exact okv_any (Eq.trans (hF135 _ _ _ h126 h126 (by decide +kernel)) (Eq.trans (uq_ne e132 (Or.inr (by decide))) (Eq.trans (uq_ne e129 (Or.inr (by decide))) (Eq.trans (congrFun (hV124 _ (K_old h99 hq120)) _) (Eq.trans (uq_ne e101 (Or.inr (by decide))) (Eq.trans (congrFun (hV97 _ (K_old h_x hq93)) _) (Eq.trans (uq_ne e25 (Or.inr (by decide))) (Eq.trans (uq_ne e23 (Or.inr (by decide))) (uq_at e21)))))))))
        | 3, _ => exact okv_any (Eq.trans (hF135 _ _ _ h126 h126 (by decide +kernel)) (Eq.trans (uq_ne e132 (Or.inr (by decide))) (Eq.trans (uq_ne e129 (Or.inr (by decide))) (Eq.trans (congrFun (hV124 _ (K_old h99 hq120)) _) (Eq.trans (uq_ne e101 (Or.inr (by decide))) (Eq.trans (congrFun (hV97 _ (K_old h_x hq93)) _) (Eq.trans (uq_ne e25 (Or.inr (by decide))) (uq_at e23))))))))
        | 4, _ => exact okv_any (Eq.trans (hF135 _ _ _ h126 h126 (by decide +kernel)) (Eq.trans (uq_ne e132 (Or.inr (by decide))) (Eq.trans (uq_ne e129 (Or.inr (by decide))) (Eq.trans (congrFun (hV124 _ (K_old h99 hq120)) _) (Eq.trans (uq_ne e101 (Or.inr (by decide))) (Eq.trans (congrFun (hV97 _ (K_old h_x hq93)) _) (uq_at e25)))))))
        | 5, _ => exact okv_at (Eq.trans (hF135 _ _ _ h126 h126 (by decide +kernel)) (Eq.trans (uq_ne e132 (Or.inr (by decide))) (Eq.trans (uq_ne e129 (Or.inr (by decide))) (Eq.trans (congrFun (hV124 _ (K_old h99 hq120)) _) (Eq.trans (uq_ne e101 (Or.inr (by decide))) (Eq.trans (congrFun (hV97 _ (K_old h_x hq93)) _) (Eq.trans (uq_ne e25 (Or.inr (by decide))) (Eq.trans (uq_ne e23 (Or.inr (by decide))) (Eq.trans (uq_ne e21 (Or.inr (by decide))) (Eq.trans (uq_ne e19 (Or.inr (by decide))) (Eq.trans (uq_ne e17 (Or.inr (by decide))) (Eq.trans (uq_ne e15 (Or.inr (by decide))) (Eq.trans (uq_ne e13 (Or.inr (by decide))) (Eq.trans (uq_ne e11 (Or.inr (by decide))) (Eq.trans (uq_ne e9 (Or.inr (by decide))) (Eq.trans (uq_ne e7 (Or.inr (by decide))) (Eq.trans (uq_ne e5 (Or.inr (by decide))) (Eq.trans (uq_ne e3 (Or.inr (by decide))) (uq_at e1))))))))))))))))))) (ir_c rfl) (by omega) (by omega)
        | 6, _ => exact okv_any (Eq.trans (hF135 _ _ _ h126 h126 (by decide +kernel)) (Eq.trans (uq_ne e132 (Or.inr (by decide))) (Eq.trans (uq_ne e129 (Or.inr (by decide))) (Eq.trans (congrFun (hV124 _ (K_old h99 hq120)) _) (Eq.trans (uq_ne e101 (Or.inr (by decide))) (Eq.trans (congrFun (hV97 _ (K_old h_x hq93)) _) (Eq.trans (uq_ne e25 (Or.inr (by decide))) (Eq.trans (uq_ne e23 (Or.inr (by decide))) (Eq.trans (uq_ne e21 (Or.inr (by decide))) (Eq.trans (uq_ne e19 (Or.inr (by decide))) (Eq.trans (uq_ne e17 (Or.inr (by decide))) (Eq.trans (uq_ne e15 (Or.inr (by decide))) (Eq.trans (uq_ne e13 (Or.inr (by decide))) (Eq.trans (uq_ne e11 (Or.inr (by decide))) (Eq.trans (uq_ne e9 (Or.inr (by decide))) (Eq.trans (uq_ne e7 (Or.inr (by decide))) (Eq.trans (uq_ne e5 (Or.inr (by decide))) (uq_at e3))))))))))))))))))
        | 7, _ => exact okv_any (Eq.trans (hF135 _ _ _ h126 h126 (by decide +kernel)) (Eq.trans (uq_ne e132 (Or.inr (by decide))) (Eq.trans (uq_ne e129 (Or.inr (by decide))) (Eq.trans (congrFun (hV124 _ (K_old h99 hq120)) _) (Eq.trans (uq_ne e101 (Or.inr (by decide))) (Eq.trans (congrFun (hV97 _ (K_old h_x hq93)) _) (Eq.trans (uq_ne e25 (Or.inr (by decide))) (Eq.trans (uq_ne e23 (Or.inr (by decide))) (Eq.trans (uq_ne e21 (Or.inr (by decide))) (Eq.trans (uq_ne e19 (Or.inr (by decide))) (Eq.trans (uq_ne e17 (Or.inr (by decide))) (Eq.trans (uq_ne e15 (Or.inr (by decide))) (Eq.trans (uq_ne e13 (Or.inr (by decide))) (Eq.trans (uq_ne e11 (Or.inr (by decide))) (Eq.trans (uq_ne e9 (Or.inr (by decide))) (Eq.trans (uq_ne e7 (Or.inr (by decide))) (uq_at e5)))))))))))))))))
        | 8, _ => exact okv_any (Eq.trans (hF135 _ _ _ h126 h126 (by decide +kernel)) (Eq.trans (uq_ne e132 (Or.inr (by decide))) (Eq.trans (uq_ne e129 (Or.inr (by decide))) (Eq.trans (congrFun (hV124 _ (K_old h99 hq120)) _) (Eq.trans (uq_ne e101 (Or.inr (by decide))) (Eq.trans (congrFun (hV97 _ (K_old h_x hq93)) _) (Eq.trans (uq_ne e25 (Or.inr (by decide))) (Eq.trans (uq_ne e23 (Or.inr (by decide))) (Eq.trans (uq_ne e21 (Or.inr (by decide))) (Eq.trans (uq_ne e19 (Or.inr (by decide))) (Eq.trans (uq_ne e17 (Or.inr (by decide))) (Eq.trans (uq_ne e15 (Or.inr (by decide))) (Eq.trans (uq_ne e13 (Or.inr (by decide))) (Eq.trans (uq_ne e11 (Or.inr (by decide))) (Eq.trans (uq_ne e9 (Or.inr (by decide))) (uq_at e7))))))))))))))))
        | 9, _ => exact okv_any (Eq.trans (hF135 _ _ _ h126 h126 (by decide +kernel)) (Eq.trans (uq_ne e132 (Or.inr (by decide))) (Eq.trans (uq_ne e129 (Or.inr (by decide))) (Eq.trans (congrFun (hV124 _ (K_old h99 hq120)) _) (Eq.trans (uq_ne e101 (Or.inr (by decide))) (Eq.trans (congrFun (hV97 _ (K_old h_x hq93)) _) (Eq.trans (uq_ne e25 (Or.inr (by decide))) (Eq.trans (uq_ne e23 (Or.inr (by decide))) (Eq.trans (uq_ne e21 (Or.inr (by decide))) (Eq.trans (uq_ne e19 (Or.inr (by decide))) (Eq.trans (uq_ne e17 (Or.inr (by decide))) (Eq.trans (uq_ne e15 (Or.inr (by decide))) (Eq.trans (uq_ne e13 (Or.inr (by decide))) (Eq.trans (uq_ne e11 (Or.inr (by decide))) (uq_at e9)))))))))))))))
        | 10, _ => exact okv_any (Eq.trans (hF135 _ _ _ h126 h126 (by decide +kernel)) (Eq.trans (uq_ne e132 (Or.inr (by decide))) (Eq.trans (uq_ne e129 (Or.inr (by decide))) (Eq.trans (congrFun (hV124 _ (K_old h99 hq120)) _) (Eq.trans (uq_ne e101 (Or.inr (by decide))) (Eq.trans (congrFun (hV97 _ (K_old h_x hq93)) _) (Eq.trans (uq_ne e25 (Or.inr (by decide))) (Eq.trans (uq_ne e23 (Or.inr (by decide))) (Eq.trans (uq_ne e21 (Or.inr (by decide))) (Eq.trans (uq_ne e19 (Or.inr (by decide))) (Eq.trans (uq_ne e17 (Or.inr (by decide))) (Eq.trans (uq_ne e15 (Or.inr (by decide))) (Eq.trans (uq_ne e13 (Or.inr (by decide))) (uq_at e11))))))))))))))
        | 11, _ => exact okv_any (Eq.trans (hF135 _ _ _ h126 h126 (by decide +kernel)) (Eq.trans (uq_ne e132 (Or.inr (by decide))) (Eq.trans (uq_ne e129 (Or.inr (by decide))) (Eq.trans (congrFun (hV124 _ (K_old h99 hq120)) _) (Eq.trans (uq_ne e101 (Or.inr (by decide))) (Eq.trans (congrFun (hV97 _ (K_old h_x hq93)) _) (Eq.trans (uq_ne e25 (Or.inr (by decide))) (Eq.trans (uq_ne e23 (Or.inr (by decide))) (Eq.trans (uq_ne e21 (Or.inr (by decide))) (Eq.trans (uq_ne e19 (Or.inr (by decide))) (Eq.trans (uq_ne e17 (Or.inr (by decide))) (Eq.trans (uq_ne e15 (Or.inr (by decide))) (uq_at e13)))))))))))))
        | 12, _ => exact okv_any (Eq.trans (hF135 _ _ _ h126 h126 (by decide +kernel)) (Eq.trans (uq_ne e132 (Or.inr (by decide))) (Eq.trans (uq_ne e129 (Or.inr (by decide))) (Eq.trans (congrFun (hV124 _ (K_old h99 hq120)) _) (Eq.trans (uq_ne e101 (Or.inr (by decide))) (Eq.trans (congrFun (hV97 _ (K_old h_x hq93)) _) (Eq.trans (uq_ne e25 (Or.inr (by decide))) (Eq.trans (uq_ne e23 (Or.inr (by decide))) (Eq.trans (uq_ne e21 (Or.inr (by decide))) (Eq.trans (uq_ne e19 (Or.inr (by decide))) (Eq.trans (uq_ne e17 (Or.inr (by decide))) (uq_at e15))))))))))))
        | 13, _ => exact Or.inr ⟨_, (Eq.trans (hF135 _ _ _ h126 h126 (by decide +kernel)) (Eq.trans (uq_ne e132 (Or.inr (by decide))) (Eq.trans (uq_ne e129 (Or.inr (by decide))) (Eq.trans (congrFun (hV124 _ (K_old h99 hq120)) _) (uq_at e101))))), ⟨_, h127⟩⟩
        | 14, _ => exact Or.inr ⟨_, (Eq.trans (hF135 _ _ _ h126 h126 (by decide +kernel)) (Eq.trans (uq_ne e132 (Or.inr (by decide))) (uq_at e129))), ⟨_, h123⟩⟩
        | 15, _ => exact Or.inl (Eq.trans (hF135 _ _ _ h126 h126 (by decide +kernel)) (uq_at e132))
        | j + 16, hj => exact absurd hj (by omega)
      exact GO.retv rfl rfl dX3_init_152 ⟨rfl, h141, KE.promote (KE.new (KE.new KE.rf hq93 hK94) hq120 hK121) e139⟩
  ·
    refine GO.iconst dX3_init_77 ?_
    refine GO.newI gw_89 (ir_c rfl) (by omega) 4 (by omega) rfl rfl rfl dX3_init_78 (fun o142 K143 V149 hq144 hK145 hE146 h147 _ hV148 => ?_)
    have h150 := (by rw [hK145, updK_ne (K_old h_x hq144)]; exact h_x : K143 x = some (0, 15))
    have h151 := KE.nw KE.rf h_x hq144
    refine GO.goto (tgt := 96) dX3_init_80 (by decide) ?_
    refine GO.putRF rfl rfl (by decide +kernel) h150 fp_raw_fp_RX3_52 rfl rfl dX3_init_96 (fun V153 e152 => ?_)
    refine GO.aload_n dX3_init_99 rfl rfl ?_
    refine GO.iload_n dX3_init_100 rfl rfl ?_
    refine GO.iconst dX3_init_101 ?_
    have q157 : -2147483648 ≤ p0 ∧ p0 ≤ 2147483647 := r_p0
    refine GO.icmp_ne (tgt := 112) dX3_init_102 (by decide) r_p0 (ir_c rfl) (fun c156 => ?_) (fun h => by exfalso; omega)
    refine GO.null dX3_init_112 ?_
    refine GO.putRF rfl rfl (by decide +kernel) h150 fp_raw_fp_RX3_56 rfl rfl dX3_init_113 (fun V159 e158 => ?_)
    refine GO.aload_n dX3_init_116 rfl rfl ?_
    refine GO.iload_n dX3_init_117 rfl rfl ?_
    refine GO.iconst dX3_init_118 ?_
    refine GO.icmp_ne (tgt := 135) dX3_init_119 (by decide) r_p0 (ir_c rfl) (fun c160 => ?_) (fun h => by exfalso; omega)
    refine GO.null dX3_init_135 ?_
    refine GO.putRF rfl rfl (by decide +kernel) h150 fp_raw_fp_RX3_64 rfl rfl dX3_init_136 (fun V162 e161 => ?_)
    refine GO.iload_n dX3_init_139 rfl rfl ?_
    refine GO.iconst dX3_init_140 ?_
    refine GO.icmp_ne (tgt := 152) dX3_init_141 (by decide) r_p0 (ir_c rfl) (fun c163 => ?_) (fun h => by exfalso; omega)
    refine GO.promote (ci := 3) rfl h150 (fun j hj => ?_) (fun K164 e165 hE166 h167 => ?_)
    ·
      have hj : j < 16 := hj
      match j, hj with
      | 0, _ => exact okv_any (Eq.trans (uq_ne e161 (Or.inr (by decide))) (Eq.trans (uq_ne e158 (Or.inr (by decide))) (Eq.trans (uq_ne e152 (Or.inr (by decide))) (Eq.trans (congrFun (hV148 _ (K_old h_x hq144)) _) (Eq.trans (uq_ne e25 (Or.inr (by decide))) (Eq.trans (uq_ne e23 (Or.inr (by decide))) (Eq.trans (uq_ne e21 (Or.inr (by decide))) (Eq.trans (uq_ne e19 (Or.inr (by decide))) (uq_at e17)))))))))
      | 1, _ => exact okv_any (Eq.trans (uq_ne e161 (Or.inr (by decide))) (Eq.trans (uq_ne e158 (Or.inr (by decide))) (Eq.trans (uq_ne e152 (Or.inr (by decide))) (Eq.trans (congrFun (hV148 _ (K_old h_x hq144)) _) (Eq.trans (uq_ne e25 (Or.inr (by decide))) (Eq.trans (uq_ne e23 (Or.inr (by decide))) (Eq.trans (uq_ne e21 (Or.inr (by decide))) (uq_at e19))))))))
      | 2, _ => exact okv_any (Eq.trans (uq_ne e161 (Or.inr (by decide))) (Eq.trans (uq_ne e158 (Or.inr (by decide))) (Eq.trans (uq_ne e152 (Or.inr (by decide))) (Eq.trans (congrFun (hV148 _ (K_old h_x hq144)) _) (Eq.trans (uq_ne e25 (Or.inr (by decide))) (Eq.trans (uq_ne e23 (Or.inr (by decide))) (uq_at e21)))))))
      | 3, _ => exact okv_any (Eq.trans (uq_ne e161 (Or.inr (by decide))) (Eq.trans (uq_ne e158 (Or.inr (by decide))) (Eq.trans (uq_ne e152 (Or.inr (by decide))) (Eq.trans (congrFun (hV148 _ (K_old h_x hq144)) _) (Eq.trans (uq_ne e25 (Or.inr (by decide))) (uq_at e23))))))
      | 4, _ => exact okv_any (Eq.trans (uq_ne e161 (Or.inr (by decide))) (Eq.trans (uq_ne e158 (Or.inr (by decide))) (Eq.trans (uq_ne e152 (Or.inr (by decide))) (Eq.trans (congrFun (hV148 _ (K_old h_x hq144)) _) (uq_at e25)))))
      | 5, _ => exact okv_at (Eq.trans (uq_ne e161 (Or.inr (by decide))) (Eq.trans (uq_ne e158 (Or.inr (by decide))) (Eq.trans (uq_ne e152 (Or.inr (by decide))) (Eq.trans (congrFun (hV148 _ (K_old h_x hq144)) _) (Eq.trans (uq_ne e25 (Or.inr (by decide))) (Eq.trans (uq_ne e23 (Or.inr (by decide))) (Eq.trans (uq_ne e21 (Or.inr (by decide))) (Eq.trans (uq_ne e19 (Or.inr (by decide))) (Eq.trans (uq_ne e17 (Or.inr (by decide))) (Eq.trans (uq_ne e15 (Or.inr (by decide))) (Eq.trans (uq_ne e13 (Or.inr (by decide))) (Eq.trans (uq_ne e11 (Or.inr (by decide))) (Eq.trans (uq_ne e9 (Or.inr (by decide))) (Eq.trans (uq_ne e7 (Or.inr (by decide))) (Eq.trans (uq_ne e5 (Or.inr (by decide))) (Eq.trans (uq_ne e3 (Or.inr (by decide))) (uq_at e1))))))))))))))))) (ir_c rfl) (by omega) (by omega)
      | 6, _ => exact okv_any (Eq.trans (uq_ne e161 (Or.inr (by decide))) (Eq.trans (uq_ne e158 (Or.inr (by decide))) (Eq.trans (uq_ne e152 (Or.inr (by decide))) (Eq.trans (congrFun (hV148 _ (K_old h_x hq144)) _) (Eq.trans (uq_ne e25 (Or.inr (by decide))) (Eq.trans (uq_ne e23 (Or.inr (by decide))) (Eq.trans (uq_ne e21 (Or.inr (by decide))) (Eq.trans (uq_ne e19 (Or.inr (by decide))) (Eq.trans (uq_ne e17 (Or.inr (by decide))) (Eq.trans (uq_ne e15 (Or.inr (by decide))) (Eq.trans (uq_ne e13 (Or.inr (by decide))) (Eq.trans (uq_ne e11 (Or.inr (by decide))) (Eq.trans (uq_ne e9 (Or.inr (by decide))) (Eq.trans (uq_ne e7 (Or.inr (by decide))) (Eq.trans (uq_ne e5 (Or.inr (by decide))) (uq_at e3))))))))))))))))
      | 7, _ => exact okv_any (Eq.trans (uq_ne e161 (Or.inr (by decide))) (Eq.trans (uq_ne e158 (Or.inr (by decide))) (Eq.trans (uq_ne e152 (Or.inr (by decide))) (Eq.trans (congrFun (hV148 _ (K_old h_x hq144)) _) (Eq.trans (uq_ne e25 (Or.inr (by decide))) (Eq.trans (uq_ne e23 (Or.inr (by decide))) (Eq.trans (uq_ne e21 (Or.inr (by decide))) (Eq.trans (uq_ne e19 (Or.inr (by decide))) (Eq.trans (uq_ne e17 (Or.inr (by decide))) (Eq.trans (uq_ne e15 (Or.inr (by decide))) (Eq.trans (uq_ne e13 (Or.inr (by decide))) (Eq.trans (uq_ne e11 (Or.inr (by decide))) (Eq.trans (uq_ne e9 (Or.inr (by decide))) (Eq.trans (uq_ne e7 (Or.inr (by decide))) (uq_at e5)))))))))))))))
      | 8, _ => exact okv_any (Eq.trans (uq_ne e161 (Or.inr (by decide))) (Eq.trans (uq_ne e158 (Or.inr (by decide))) (Eq.trans (uq_ne e152 (Or.inr (by decide))) (Eq.trans (congrFun (hV148 _ (K_old h_x hq144)) _) (Eq.trans (uq_ne e25 (Or.inr (by decide))) (Eq.trans (uq_ne e23 (Or.inr (by decide))) (Eq.trans (uq_ne e21 (Or.inr (by decide))) (Eq.trans (uq_ne e19 (Or.inr (by decide))) (Eq.trans (uq_ne e17 (Or.inr (by decide))) (Eq.trans (uq_ne e15 (Or.inr (by decide))) (Eq.trans (uq_ne e13 (Or.inr (by decide))) (Eq.trans (uq_ne e11 (Or.inr (by decide))) (Eq.trans (uq_ne e9 (Or.inr (by decide))) (uq_at e7))))))))))))))
      | 9, _ => exact okv_any (Eq.trans (uq_ne e161 (Or.inr (by decide))) (Eq.trans (uq_ne e158 (Or.inr (by decide))) (Eq.trans (uq_ne e152 (Or.inr (by decide))) (Eq.trans (congrFun (hV148 _ (K_old h_x hq144)) _) (Eq.trans (uq_ne e25 (Or.inr (by decide))) (Eq.trans (uq_ne e23 (Or.inr (by decide))) (Eq.trans (uq_ne e21 (Or.inr (by decide))) (Eq.trans (uq_ne e19 (Or.inr (by decide))) (Eq.trans (uq_ne e17 (Or.inr (by decide))) (Eq.trans (uq_ne e15 (Or.inr (by decide))) (Eq.trans (uq_ne e13 (Or.inr (by decide))) (Eq.trans (uq_ne e11 (Or.inr (by decide))) (uq_at e9)))))))))))))
      | 10, _ => exact okv_any (Eq.trans (uq_ne e161 (Or.inr (by decide))) (Eq.trans (uq_ne e158 (Or.inr (by decide))) (Eq.trans (uq_ne e152 (Or.inr (by decide))) (Eq.trans (congrFun (hV148 _ (K_old h_x hq144)) _) (Eq.trans (uq_ne e25 (Or.inr (by decide))) (Eq.trans (uq_ne e23 (Or.inr (by decide))) (Eq.trans (uq_ne e21 (Or.inr (by decide))) (Eq.trans (uq_ne e19 (Or.inr (by decide))) (Eq.trans (uq_ne e17 (Or.inr (by decide))) (Eq.trans (uq_ne e15 (Or.inr (by decide))) (Eq.trans (uq_ne e13 (Or.inr (by decide))) (uq_at e11))))))))))))
      | 11, _ => exact okv_any (Eq.trans (uq_ne e161 (Or.inr (by decide))) (Eq.trans (uq_ne e158 (Or.inr (by decide))) (Eq.trans (uq_ne e152 (Or.inr (by decide))) (Eq.trans (congrFun (hV148 _ (K_old h_x hq144)) _) (Eq.trans (uq_ne e25 (Or.inr (by decide))) (Eq.trans (uq_ne e23 (Or.inr (by decide))) (Eq.trans (uq_ne e21 (Or.inr (by decide))) (Eq.trans (uq_ne e19 (Or.inr (by decide))) (Eq.trans (uq_ne e17 (Or.inr (by decide))) (Eq.trans (uq_ne e15 (Or.inr (by decide))) (uq_at e13)))))))))))
      | 12, _ => exact okv_any (Eq.trans (uq_ne e161 (Or.inr (by decide))) (Eq.trans (uq_ne e158 (Or.inr (by decide))) (Eq.trans (uq_ne e152 (Or.inr (by decide))) (Eq.trans (congrFun (hV148 _ (K_old h_x hq144)) _) (Eq.trans (uq_ne e25 (Or.inr (by decide))) (Eq.trans (uq_ne e23 (Or.inr (by decide))) (Eq.trans (uq_ne e21 (Or.inr (by decide))) (Eq.trans (uq_ne e19 (Or.inr (by decide))) (Eq.trans (uq_ne e17 (Or.inr (by decide))) (uq_at e15))))))))))
      | 13, _ => exact Or.inr ⟨_, (Eq.trans (uq_ne e161 (Or.inr (by decide))) (Eq.trans (uq_ne e158 (Or.inr (by decide))) (uq_at e152))), ⟨_, h147⟩⟩
      | 14, _ => exact Or.inl (Eq.trans (uq_ne e161 (Or.inr (by decide))) (uq_at e158))
      | 15, _ => exact Or.inl (uq_at e161)
      | j + 16, hj => exact absurd hj (by omega)
    exact GO.retv rfl rfl dX3_init_152 ⟨rfl, h167, KE.promote (KE.new KE.rf hq144 hK145) e165⟩

set_option maxHeartbeats 1000000 in
theorem t_X3_addSounding {K : Kmap} {V : Vmap} {x : Nat} {p0 : Int} {p1 : Int} (h_x : K x = some (0, 3)) (r_p0 : ir p0) (r_p1 : ir p1) : MC mX3_addSounding K V [.ref x, ti p0, ti p1] (IS K (fun X V1 => (X = 0 ∨ X = 1) ∧ (X ≠ 0 → True) ∧ (X = 0 → True))) := by
  refine MC.start 0 (by decide +kernel) rfl rfl rfl (ls0 := [some (.ref x), some (ti p0), some (ti p1)]) rfl ?_
  refine GO.aload_n dX3_addSounding_0 rfl rfl ?_
  refine GO.getN h_x fl_RX3_64 rfl rfl dX3_addSounding_1 (fun hv2 => ?_) (fun hv2 h1 => ?_)
  ·
    refine GO.ifnullN (tgt := 31) dX3_addSounding_4 (by decide) ?_
    refine GO.iconst dX3_addSounding_31 ?_
    exact GO.retz rfl rfl dX3_addSounding_32 (Or.inl rfl) ⟨rfl, _, rfl, (ir_c rfl), ⟨Or.inl rfl, fun _ => trivial, fun _ => trivial⟩⟩
  ·
    refine GO.ifnull dX3_addSounding_4 ?_
    refine GO.aload_n dX3_addSounding_7 rfl rfl ?_
    refine GO.getRaw h_x fl_RX3_64 hv2 dX3_addSounding_8 ?_
    refine GO.iload_n dX3_addSounding_11 rfl rfl ?_
    refine GO.iload_n dX3_addSounding_12 rfl rfl ?_
    refine GO.isub dX3_addSounding_13 ?_
    refine GO.norm (fun z5 r6 _ => ?_)
    refine GO.iload_n dX3_addSounding_14 rfl rfl ?_
    refine GO.iload_n dX3_addSounding_15 rfl rfl ?_
    refine GO.iadd dX3_addSounding_16 ?_
    refine GO.norm (fun z7 r8 _ => ?_)
    refine GO.iconst dX3_addSounding_17 ?_
    refine GO.iconst dX3_addSounding_18 ?_
    refine GO.iconst dX3_addSounding_19 ?_
    refine GO.callV (ci := 7) (N := mX8_append) dX3_addSounding_20 (RX8, TX8, 4) rfl gV_RX3_74 h1 (t_X8_append h1 r6 r8 (ir_c rfl) (ir_c rfl) (ir_c rfl)) rfl [] rfl rfl (Nat.le_of_ble_eq_true rfl) rfl (k_is fun X9 V13 r10 h11 hF12 => ?_)
    refine GO.iconst dX3_addSounding_23 ?_
    refine GO.icmp_eq (tgt := 31) dX3_addSounding_24 (by decide) r10 (ir_c rfl) (fun c14 => ?_) (fun c14 => ?_)
    ·
      refine GO.iconst dX3_addSounding_31 ?_
      exact GO.retz rfl rfl dX3_addSounding_32 (Or.inl rfl) ⟨rfl, _, rfl, (ir_c rfl), ⟨Or.inl rfl, fun _ => trivial, fun _ => trivial⟩⟩
    ·
      refine GO.iconst dX3_addSounding_27 ?_
      refine GO.goto (tgt := 32) dX3_addSounding_28 (by decide) ?_
      exact GO.retz rfl rfl dX3_addSounding_32 (Or.inr rfl) ⟨rfl, _, rfl, (ir_c rfl), ⟨Or.inr rfl, fun _ => trivial, fun _ => trivial⟩⟩

set_option maxHeartbeats 1000000 in
theorem t_X3_sureDepth {K : Kmap} {V : Vmap} {x : Nat} (h_x : K x = some (0, 3)) : MC mX3_sureDepth K V [.ref x] (IP K V (fun X => True)) := by
  refine MC.start 4 (by decide +kernel) rfl rfl rfl (ls0 := [some (.ref x), none, none, none, none]) rfl ?_
  refine GO.aload_n dX3_sureDepth_0 rfl rfl ?_
  refine GO.getN h_x fl_RX3_64 rfl rfl dX3_sureDepth_1 (fun hv2 => ?_) (fun hv2 h1 => ?_)
  ·
    refine GO.ifnullN (tgt := 17) dX3_sureDepth_4 (by decide) ?_
    refine GO.iconst dX3_sureDepth_17 ?_
    exact GO.reti rfl rfl dX3_sureDepth_18 ⟨rfl, rfl, _, rfl, (ir_c rfl), trivial⟩
  ·
    refine GO.ifnull dX3_sureDepth_4 ?_
    refine GO.aload_n dX3_sureDepth_7 rfl rfl ?_
    refine GO.getRaw h_x fl_RX3_64 hv2 dX3_sureDepth_8 ?_
    refine GO.getI h1 fl_RX3_78 rfl rfl dX3_sureDepth_11 (fun _ _ => ?_)
    refine GO.if_ne (tgt := 19) dX3_sureDepth_14 (by decide) vi_ir (fun c5 => ?_) (fun c5 => ?_)
    ·
      refine GO.aload_n dX3_sureDepth_19 rfl rfl ?_
      refine GO.getRaw h_x fl_RX3_64 hv2 dX3_sureDepth_20 ?_
      refine GO.iconst dX3_sureDepth_23 ?_
      refine GO.iconst dX3_sureDepth_24 ?_
      refine GO.callV (ci := 7) (N := mX8_get) dX3_sureDepth_25 (RX8, TX8, 4) rfl gV_RX3_81 h1 (t_X8_get h1 (ir_c rfl) (ir_c rfl)) rfl [] rfl rfl (Nat.le_of_ble_eq_true rfl) rfl (k_ip fun X8 r9 h10 => ?_)
      refine GO.istore_n (ls1 := [some (.ref x), some (ti X8), none, none, none]) dX3_sureDepth_28 rfl rfl rfl ?_
      refine GO.iload_n dX3_sureDepth_29 rfl rfl ?_
      refine GO.istore_n (ls1 := [some (.ref x), some (ti X8), some (ti X8), none, none]) dX3_sureDepth_30 rfl rfl rfl ?_
      refine GO.aload_n dX3_sureDepth_31 rfl rfl ?_
      refine GO.getRaw h_x fl_RX3_64 hv2 dX3_sureDepth_32 ?_
      refine GO.iconst dX3_sureDepth_35 ?_
      refine GO.iconst dX3_sureDepth_36 ?_
      refine GO.callV (ci := 7) (N := mX8_get) dX3_sureDepth_37 (RX8, TX8, 4) rfl gV_RX3_81 h1 (t_X8_get h1 (ir_c rfl) (ir_c rfl)) rfl [] rfl rfl (Nat.le_of_ble_eq_true rfl) rfl (k_ip fun X13 r14 h15 => ?_)
      refine GO.istore_n (ls1 := [some (.ref x), some (ti X8), some (ti X8), some (ti X13), none]) dX3_sureDepth_40 rfl rfl rfl ?_
      refine GO.iconst dX3_sureDepth_41 ?_
      refine GO.istore (ls1 := [some (.ref x), some (ti X8), some (ti X8), some (ti X13), some (ti 1)]) dX3_sureDepth_42 rfl rfl ?_
      have q1113 : -2147483648 ≤ X13 ∧ X13 ≤ 2147483647 := r14
      have q1114 : -2147483648 ≤ X8 ∧ X8 ≤ 2147483647 := r9
      refine GO.loop4 (fun i16 i17 i18 i19 W => (-2147483648) ≤ i16 ∧ i16 ≤ 2147483647 ∧ (-2147483648) ≤ i17 ∧ i17 ≤ 2147483647 ∧ (-2147483648) ≤ i18 ∧ i18 ≤ 2147483647 ∧ 1 ≤ i19 ∧ i19 ≤ 2147483647 ∧ V = W) (fun i16 i17 i18 i19 => [some (.ref x), some (ti i16), some (ti i17), some (ti i18), some (ti i19)]) (fun i16 i17 i18 i19 W => (2147483647 - i19).toNat) X8 X8 X13 1 ⟨by omega, by omega, by omega, by omega, by omega, by omega, by omega, by omega, rfl⟩ rfl (fun i16 i17 i18 i19 V1112 hp1116 ih1115 => ?_)
      obtain ⟨l_i16, u_i16, l_i17, u_i17, l_i18, u_i18, l_i19, u_i19, rfl⟩ := hp1116
      have r_i16 : ir i16 := ⟨by omega, by omega⟩
      have r_i17 : ir i17 := ⟨by omega, by omega⟩
      have r_i18 : ir i18 := ⟨by omega, by omega⟩
      have r_i19 : ir i19 := ⟨by omega, by omega⟩
      show GO mX3_sureDepth K V (IP K V (fun X => True)) K V 0 0 44 [some (.ref x), some (ti i16), some (ti i17), some (ti i18), some (ti i19)] []
      refine GO.iload dX3_sureDepth_44 rfl ?_
      refine GO.aload_n dX3_sureDepth_46 rfl rfl ?_
      refine GO.getRaw h_x fl_RX3_64 hv2 dX3_sureDepth_47 ?_
      refine GO.getI h1 fl_RX3_78 rfl rfl dX3_sureDepth_50 (fun _ _ => ?_)
      refine GO.icmp_ge (tgt := 107) dX3_sureDepth_53 (by decide) r_i19 vi_ir (fun c1119 => ?_) (fun c1119 => ?_)
      ·
        refine GO.iconst dX3_sureDepth_107 ?_
        refine GO.iload_n dX3_sureDepth_108 rfl rfl ?_
        refine GO.iload_n dX3_sureDepth_109 rfl rfl ?_
        refine GO.icmp_gt (tgt := 117) dX3_sureDepth_110 (by decide) r_i17 r_i18 (fun c1120 => ?_) (fun c1120 => ?_)
        ·
          refine GO.iload_n dX3_sureDepth_117 rfl rfl ?_
          refine GO.callS (N := mJ9_max_7cf53) dX3_sureDepth_118 gS_RX3_90 (t_J9_max_7cf53 (ir_c rfl) r_i16) rfl [] rfl rfl (Nat.le_of_ble_eq_true rfl) rfl (k_ip fun X1121 r1122 h1123 => ?_)
          have q1124 : -2147483648 ≤ X1121 ∧ X1121 ≤ 2147483647 := r1122
          exact GO.reti rfl rfl dX3_sureDepth_121 ⟨rfl, rfl, _, rfl, r1122, trivial⟩
        ·
          refine GO.iload_n dX3_sureDepth_113 rfl rfl ?_
          refine GO.goto (tgt := 118) dX3_sureDepth_114 (by decide) ?_
          refine GO.callS (N := mJ9_max_7cf53) dX3_sureDepth_118 gS_RX3_90 (t_J9_max_7cf53 (ir_c rfl) r_i17) rfl [] rfl rfl (Nat.le_of_ble_eq_true rfl) rfl (k_ip fun X1125 r1126 h1127 => ?_)
          have q1128 : -2147483648 ≤ X1125 ∧ X1125 ≤ 2147483647 := r1126
          exact GO.reti rfl rfl dX3_sureDepth_121 ⟨rfl, rfl, _, rfl, r1126, trivial⟩
      ·
        refine GO.iload_n dX3_sureDepth_56 rfl rfl ?_
        refine GO.aload_n dX3_sureDepth_57 rfl rfl ?_
        refine GO.getRaw h_x fl_RX3_64 hv2 dX3_sureDepth_58 ?_
        refine GO.iload dX3_sureDepth_61 rfl ?_
        refine GO.iconst dX3_sureDepth_63 ?_
        refine GO.callV (ci := 7) (N := mX8_get) dX3_sureDepth_64 (RX8, TX8, 4) rfl gV_RX3_81 h1 (t_X8_get h1 r_i19 (ir_c rfl)) rfl [ti i16] rfl rfl (Nat.le_of_ble_eq_true rfl) rfl (k_ip fun X1131 r1132 h1133 => ?_)
        refine GO.callS (N := mJ9_min_7cf53) dX3_sureDepth_67 gS_RX3_85 (t_J9_min_7cf53 r_i16 r1132) rfl [] rfl rfl (Nat.le_of_ble_eq_true rfl) rfl (k_ip fun X1134 r1135 h1136 => ?_)
        have q1137 : -2147483648 ≤ X1131 ∧ X1131 ≤ 2147483647 := r1132
        have q1138 : -2147483648 ≤ X1134 ∧ X1134 ≤ 2147483647 := r1135
        refine GO.istore_n (ls1 := [some (.ref x), some (ti X1134), some (ti i17), some (ti i18), some (ti i19)]) dX3_sureDepth_70 rfl rfl rfl ?_
        refine GO.iload_n dX3_sureDepth_71 rfl rfl ?_
        refine GO.aload_n dX3_sureDepth_72 rfl rfl ?_
        refine GO.getRaw h_x fl_RX3_64 hv2 dX3_sureDepth_73 ?_
        refine GO.iload dX3_sureDepth_76 rfl ?_
        refine GO.iconst dX3_sureDepth_78 ?_
        refine GO.callV (ci := 7) (N := mX8_get) dX3_sureDepth_79 (RX8, TX8, 4) rfl gV_RX3_81 h1 (t_X8_get h1 r_i19 (ir_c rfl)) rfl [ti i17] rfl rfl (Nat.le_of_ble_eq_true rfl) rfl (k_ip fun X1141 r1142 h1143 => ?_)
        refine GO.callS (N := mJ9_max_7cf53) dX3_sureDepth_82 gS_RX3_90 (t_J9_max_7cf53 r_i17 r1142) rfl [] rfl rfl (Nat.le_of_ble_eq_true rfl) rfl (k_ip fun X1144 r1145 h1146 => ?_)
        have q1147 : -2147483648 ≤ X1141 ∧ X1141 ≤ 2147483647 := r1142
        have q1148 : -2147483648 ≤ X1144 ∧ X1144 ≤ 2147483647 := r1145
        refine GO.istore_n (ls1 := [some (.ref x), some (ti X1134), some (ti X1144), some (ti i18), some (ti i19)]) dX3_sureDepth_85 rfl rfl rfl ?_
        refine GO.iload_n dX3_sureDepth_86 rfl rfl ?_
        refine GO.aload_n dX3_sureDepth_87 rfl rfl ?_
        refine GO.getRaw h_x fl_RX3_64 hv2 dX3_sureDepth_88 ?_
        refine GO.iload dX3_sureDepth_91 rfl ?_
        refine GO.iconst dX3_sureDepth_93 ?_
        refine GO.callV (ci := 7) (N := mX8_get) dX3_sureDepth_94 (RX8, TX8, 4) rfl gV_RX3_81 h1 (t_X8_get h1 r_i19 (ir_c rfl)) rfl [ti i18] rfl rfl (Nat.le_of_ble_eq_true rfl) rfl (k_ip fun X1151 r1152 h1153 => ?_)
        refine GO.callS (N := mJ9_min_7cf53) dX3_sureDepth_97 gS_RX3_85 (t_J9_min_7cf53 r_i18 r1152) rfl [] rfl rfl (Nat.le_of_ble_eq_true rfl) rfl (k_ip fun X1154 r1155 h1156 => ?_)
        have q1157 : -2147483648 ≤ X1151 ∧ X1151 ≤ 2147483647 := r1152
        have q1158 : -2147483648 ≤ X1154 ∧ X1154 ≤ 2147483647 := r1155
        refine GO.istore_n (ls1 := [some (.ref x), some (ti X1134), some (ti X1144), some (ti X1154), some (ti i19)]) dX3_sureDepth_100 rfl rfl rfl ?_
        refine GO.iinc (X := i19) (n := 1) (Y := i19 + 1) (ls1 := [some (.ref x), some (ti X1134), some (ti X1144), some (ti X1154), some (ti (i19 + 1))]) dX3_sureDepth_101 rfl rfl rfl rfl ?_
        refine GO.goto (tgt := 44) dX3_sureDepth_104 (by decide) ?_
        have q1159 : -2147483648 ≤ vi V (vq V x 15) 3 ∧ vi V (vq V x 15) 3 ≤ 2147483647 := vi_ir
        exact ih1115 X1134 X1144 X1154 (i19 + 1) V ⟨by omega, by omega, by omega, by omega, by omega, by omega, by omega, by omega, rfl⟩ (by show (2147483647 - (i19 + 1)).toNat < (2147483647 - i19).toNat; omega)
    ·
      refine GO.iconst dX3_sureDepth_17 ?_
      exact GO.reti rfl rfl dX3_sureDepth_18 ⟨rfl, rfl, _, rfl, (ir_c rfl), trivial⟩

set_option maxHeartbeats 1000000 in
theorem t_X4_add {K : Kmap} {V : Vmap} {p0 n_p0 : Nat} {p1 : Int} {p2 : Int} (h_p0 : K p0 = some (1, n_p0)) (r_p1 : ir p1) (r_p2 : ir p2) : MC mX4_add K V [.ref p0, ti p1, ti p2] (VS K (fun V1 => (True))) := by
  refine MC.start 0 (by decide +kernel) rfl rfl rfl (ls0 := [some (.ref p0), some (ti p1), some (ti p2)]) rfl ?_
  refine GO.aload_n dX4_add_0 rfl rfl ?_
  refine GO.iload_n dX4_add_1 rfl rfl ?_
  refine GO.aload_n dX4_add_2 rfl rfl ?_
  refine GO.iload_n dX4_add_3 rfl rfl ?_
  refine GO.callS (N := mX4_get) dX4_add_4 gS_RX4_7 (t_X4_get rfl h_p0 r_p1) rfl [ti p1, .ref p0] rfl rfl (Nat.le_of_ble_eq_true rfl) rfl (k_ip fun X1 r2 h3 => ?_)
  refine GO.iload_n dX4_add_7 rfl rfl ?_
  refine GO.iadd dX4_add_8 ?_
  refine GO.norm (fun z4 r5 _ => ?_)
  refine GO.callS (N := mX4_put) dX4_add_9 gS_RX4_13 (t_X4_put h_p0 r_p1 r5) rfl [] rfl rfl (Nat.le_of_ble_eq_true rfl) rfl (k_vs fun V8 h7 hF6 => ?_)
  exact GO.retv rfl rfl dX4_add_12 ⟨rfl, rfl, trivial⟩

set_option maxHeartbeats 1000000 in
theorem t_X5_init {K : Kmap} {V : Vmap} {x : Nat} {p0 n_p0 : Nat} {p1 : Int} {p2 : Nat} (h_x : K x = some (0, 16)) (h_p0 : K p0 = some (1, n_p0)) (r_p1 : ir p1) (h_p2 : K p2 = some (0, 8)) : MC mX5_init K V [.ref x, .ref p0, ti p1, .ref p2] (VX (fun K1 V1 => (K1 x = some (0, 4) ∧ vi V1 x 4 = 0) ∧ KE K K1 x)) := by
  refine MC.start 0 (by decide +kernel) rfl rfl rfl (ls0 := [some (.ref x), some (.ref p0), some (ti p1), some (.ref p2)]) rfl ?_
  refine GO.aload_n dX5_init_0 rfl rfl ?_
  refine GO.objInit dX5_init_1 gw_604 gw_27 gw_28 rfl rfl ?_
  refine GO.aload_n dX5_init_4 rfl rfl ?_
  refine GO.iconst dX5_init_5 ?_
  refine GO.putRW rfl (by decide +kernel) h_x fp_raw_fp_RX5_9 rfl rfl dX5_init_6 (fun V2 e1 => ?_)
  refine GO.aload_n dX5_init_9 rfl rfl ?_
  refine GO.iconst dX5_init_10 ?_
  refine GO.putRW rfl (by decide +kernel) h_x fp_raw_fp_RX5_15 rfl rfl dX5_init_11 (fun V4 e3 => ?_)
  refine GO.aload_n dX5_init_14 rfl rfl ?_
  refine GO.iconst dX5_init_15 ?_
  refine GO.putRW rfl (by decide +kernel) h_x fp_raw_fp_RX5_18 rfl rfl dX5_init_16 (fun V6 e5 => ?_)
  refine GO.aload_n dX5_init_19 rfl rfl ?_
  refine GO.iconst dX5_init_20 ?_
  refine GO.putRW rfl (by decide +kernel) h_x fp_raw_fp_RX5_21 rfl rfl dX5_init_21 (fun V8 e7 => ?_)
  refine GO.aload_n dX5_init_24 rfl rfl ?_
  refine GO.aload_n dX5_init_25 rfl rfl ?_
  refine GO.putRF rfl rfl (by decide +kernel) h_x fp_raw_fp_RX5_24 rfl rfl dX5_init_26 (fun V10 e9 => ?_)
  refine GO.aload_n dX5_init_29 rfl rfl ?_
  refine GO.iload_n dX5_init_30 rfl rfl ?_
  refine GO.putRF rfl rfl (by decide +kernel) h_x fp_raw_fp_RX5_28 rfl rfl dX5_init_31 (fun V12 e11 => ?_)
  refine GO.aload_n dX5_init_34 rfl rfl ?_
  refine GO.aload_n dX5_init_35 rfl rfl ?_
  refine GO.putRF rfl rfl (by decide +kernel) h_x fp_raw_fp_RX5_31 rfl rfl dX5_init_36 (fun V14 e13 => ?_)
  refine GO.promote (ci := 4) rfl h_x (fun j hj => ?_) (fun K15 e16 hE17 h18 => ?_)
  ·
    have hj : j < 7 := hj
    match j, hj with
    | 0, _ => exact ⟨_, (Eq.trans (uq_ne e13 (Or.inr (by decide))) (Eq.trans (uq_ne e11 (Or.inr (by decide))) (uq_at e9))), ⟨_, h_p0⟩⟩
    | 1, _ => exact okv_any (Eq.trans (uq_ne e13 (Or.inr (by decide))) (uq_at e11))
    | 2, _ => exact ⟨_, (uq_at e13), h_p2⟩
    | 3, _ => exact okv_any (Eq.trans (uq_ne e13 (Or.inr (by decide))) (Eq.trans (uq_ne e11 (Or.inr (by decide))) (Eq.trans (uq_ne e9 (Or.inr (by decide))) (Eq.trans (uq_ne e7 (Or.inr (by decide))) (Eq.trans (uq_ne e5 (Or.inr (by decide))) (Eq.trans (uq_ne e3 (Or.inr (by decide))) (uq_at e1)))))))
    | 4, _ => exact okv_any (Eq.trans (uq_ne e13 (Or.inr (by decide))) (Eq.trans (uq_ne e11 (Or.inr (by decide))) (Eq.trans (uq_ne e9 (Or.inr (by decide))) (Eq.trans (uq_ne e7 (Or.inr (by decide))) (Eq.trans (uq_ne e5 (Or.inr (by decide))) (uq_at e3))))))
    | 5, _ => exact okv_any (Eq.trans (uq_ne e13 (Or.inr (by decide))) (Eq.trans (uq_ne e11 (Or.inr (by decide))) (Eq.trans (uq_ne e9 (Or.inr (by decide))) (Eq.trans (uq_ne e7 (Or.inr (by decide))) (uq_at e5)))))
    | 6, _ => exact okv_any (Eq.trans (uq_ne e13 (Or.inr (by decide))) (Eq.trans (uq_ne e11 (Or.inr (by decide))) (Eq.trans (uq_ne e9 (Or.inr (by decide))) (uq_at e7))))
    | j + 7, hj => exact absurd hj (by omega)
  exact GO.retv rfl rfl dX5_init_39 ⟨rfl, ⟨h18, vi_at (Eq.trans (uq_ne e13 (Or.inr (by decide))) (Eq.trans (uq_ne e11 (Or.inr (by decide))) (Eq.trans (uq_ne e9 (Or.inr (by decide))) (Eq.trans (uq_ne e7 (Or.inr (by decide))) (Eq.trans (uq_ne e5 (Or.inr (by decide))) (uq_at e3)))))) (ir_c rfl)⟩, KE.promote KE.rf e16⟩

set_option maxHeartbeats 1000000 in
theorem t_X5_faultAnswer {K : Kmap} {V : Vmap} {x : Nat} (h_x : K x = some (0, 4)) : MC mX5_faultAnswer K V [.ref x] (IP K V (fun X => True)) := by
  refine MC.start 0 (by decide +kernel) rfl rfl rfl (ls0 := [some (.ref x)]) rfl ?_
  refine GO.sipush dX5_faultAnswer_0 rfl ?_
  refine GO.aload_n dX5_faultAnswer_3 rfl rfl ?_
  refine GO.getI h_x fl_RX5_18 rfl rfl dX5_faultAnswer_4 (fun _ _ => ?_)
  refine GO.imul dX5_faultAnswer_7 ?_
  refine GO.norm (fun z1 r2 _ => ?_)
  refine GO.aload_n dX5_faultAnswer_8 rfl rfl ?_
  refine GO.getI h_x fl_RX5_21 rfl rfl dX5_faultAnswer_9 (fun _ _ => ?_)
  refine GO.isub dX5_faultAnswer_12 ?_
  refine GO.norm (fun z3 r4 _ => ?_)
  have q5 : -2147483648 ≤ z3 ∧ z3 ≤ 2147483647 := r4
  exact GO.reti rfl rfl dX5_faultAnswer_13 ⟨rfl, rfl, _, rfl, r4, trivial⟩

set_option maxHeartbeats 1000000 in
theorem t_X5_next {K : Kmap} {V : Vmap} {x : Nat} (h_x : K x = some (0, 4)) : MC mX5_next K V [.ref x] (IP K V (fun X => True)) := by
  refine MC.start 1 (by decide +kernel) rfl rfl rfl (ls0 := [some (.ref x), none]) rfl ?_
  refine GO.aload_n dX5_next_0 rfl rfl ?_
  refine GO.getB h_x fl_RX5_24 rfl rfl dX5_next_1 (fun n3 hv2 h1 b4 => ?_)
  refine GO.ifnull dX5_next_4 ?_
  refine GO.aload_n dX5_next_7 rfl rfl ?_
  refine GO.getI h_x fl_RX5_9 rfl rfl dX5_next_8 (fun _ _ => ?_)
  refine GO.if_lt (tgt := 41) dX5_next_11 (by decide) vi_ir (fun c5 => ?_) (fun c5 => ?_)
  ·
    refine GO.iconst dX5_next_41 ?_
    refine GO.istore_n (ls1 := [some (.ref x), some (ti 0)]) dX5_next_42 rfl rfl rfl ?_
    refine GO.iload_n dX5_next_43 rfl rfl ?_
    refine GO.if_eq (tgt := 59) dX5_next_44 (by decide) (ir_c rfl) (fun c6 => ?_) (fun h => by exfalso; omega)
    refine GO.iconst dX5_next_59 ?_
    exact GO.reti rfl rfl dX5_next_60 ⟨rfl, rfl, _, rfl, (ir_c rfl), trivial⟩
  ·
    refine GO.aload_n dX5_next_14 rfl rfl ?_
    refine GO.getI h_x fl_RX5_9 rfl rfl dX5_next_15 (fun _ _ => ?_)
    refine GO.aload_n dX5_next_18 rfl rfl ?_
    refine GO.getI h_x fl_RX5_28 rfl rfl dX5_next_19 (fun _ _ => ?_)
    refine GO.icmp_ge (tgt := 41) dX5_next_22 (by decide) vi_ir vi_ir (fun c7 => ?_) (fun c7 => ?_)
    ·
      refine GO.iconst dX5_next_41 ?_
      refine GO.istore_n (ls1 := [some (.ref x), some (ti 0)]) dX5_next_42 rfl rfl rfl ?_
      refine GO.iload_n dX5_next_43 rfl rfl ?_
      refine GO.if_eq (tgt := 59) dX5_next_44 (by decide) (ir_c rfl) (fun c8 => ?_) (fun h => by exfalso; omega)
      refine GO.iconst dX5_next_59 ?_
      exact GO.reti rfl rfl dX5_next_60 ⟨rfl, rfl, _, rfl, (ir_c rfl), trivial⟩
    ·
      refine GO.aload_n dX5_next_25 rfl rfl ?_
      refine GO.getI h_x fl_RX5_9 rfl rfl dX5_next_26 (fun _ _ => ?_)
      refine GO.aload_n dX5_next_29 rfl rfl ?_
      refine GO.getRaw h_x fl_RX5_24 hv2 dX5_next_30 ?_
      refine GO.alen h1 dX5_next_33 (fun h11 => ?_)
      refine GO.icmp_ge (tgt := 41) dX5_next_34 (by decide) vi_ir ⟨by omega, by omega⟩ (fun c12 => ?_) (fun c12 => ?_)
      ·
        refine GO.iconst dX5_next_41 ?_
        refine GO.istore_n (ls1 := [some (.ref x), some (ti 0)]) dX5_next_42 rfl rfl rfl ?_
        refine GO.iload_n dX5_next_43 rfl rfl ?_
        refine GO.if_eq (tgt := 59) dX5_next_44 (by decide) (ir_c rfl) (fun c13 => ?_) (fun h => by exfalso; omega)
        refine GO.iconst dX5_next_59 ?_
        exact GO.reti rfl rfl dX5_next_60 ⟨rfl, rfl, _, rfl, (ir_c rfl), trivial⟩
      ·
        refine GO.iconst dX5_next_37 ?_
        refine GO.goto (tgt := 42) dX5_next_38 (by decide) ?_
        refine GO.istore_n (ls1 := [some (.ref x), some (ti 1)]) dX5_next_42 rfl rfl rfl ?_
        refine GO.iload_n dX5_next_43 rfl rfl ?_
        refine GO.if_eq (tgt := 59) dX5_next_44 (by decide) (ir_c rfl) (fun h => by exfalso; omega) (fun c14 => ?_)
        refine GO.aload_n dX5_next_47 rfl rfl ?_
        refine GO.getRaw h_x fl_RX5_24 hv2 dX5_next_48 ?_
        refine GO.aload_n dX5_next_51 rfl rfl ?_
        refine GO.getI h_x fl_RX5_9 rfl rfl dX5_next_52 (fun _ _ => ?_)
        have q17 : -2147483648 ≤ vi V x 3 ∧ vi V x 3 ≤ 2147483647 := vi_ir
        have q18 : -2147483648 ≤ vi V x 1 ∧ vi V x 1 ≤ 2147483647 := vi_ir
        refine GO.iald (t := 0) rfl rfl h1 vi_ir (by omega) (by omega) dX5_next_55 (fun _ _ => ?_)
        refine GO.goto (tgt := 60) dX5_next_56 (by decide) ?_
        have q19 : -2147483648 ≤ vi V (vq V x 0) (vi V x 3).toNat ∧ vi V (vq V x 0) (vi V x 3).toNat ≤ 2147483647 := vi_ir
        exact GO.reti rfl rfl dX5_next_60 ⟨rfl, rfl, _, rfl, vi_ir, trivial⟩

set_option maxHeartbeats 1000000 in
theorem t_X5_isClauseLetter {K : Kmap} {V : Vmap} {p0 : Int} (r_p0 : ir p0) : MC mX5_isClauseLetter K V [ti p0] (IP K V (fun X => (X = 0 ∨ X = 1) ∧ (X ≠ 0 → True) ∧ (X = 0 → True))) := by
  refine MC.start 0 (by decide +kernel) rfl rfl rfl (ls0 := [some (ti p0)]) rfl ?_
  refine GO.iload_n dX5_isClauseLetter_0 rfl rfl ?_
  have q1 : -2147483648 ≤ p0 ∧ p0 ≤ 2147483647 := r_p0
  rcases (show (p0 < 97 ∨ 122 < p0) ∨ p0 = 97 ∨ p0 = 98 ∨ p0 = 99 ∨ p0 = 100 ∨ p0 = 101 ∨ p0 = 102 ∨ p0 = 103 ∨ p0 = 104 ∨ p0 = 105 ∨ p0 = 106 ∨ p0 = 107 ∨ p0 = 108 ∨ p0 = 109 ∨ p0 = 110 ∨ p0 = 111 ∨ p0 = 112 ∨ p0 = 113 ∨ p0 = 114 ∨ p0 = 115 ∨ p0 = 116 ∨ p0 = 117 ∨ p0 = 118 ∨ p0 = 119 ∨ p0 = 120 ∨ p0 = 121 ∨ p0 = 122 by omega) with c2 | c2 | c2 | c2 | c2 | c2 | c2 | c2 | c2 | c2 | c2 | c2 | c2 | c2 | c2 | c2 | c2 | c2 | c2 | c2 | c2 | c2 | c2 | c2 | c2 | c2 | c2
  ·
    refine GO.tableOut (tgt := 122) dX5_isClauseLetter_1 r_p0 c2 (by decide) ?_
    refine GO.iconst dX5_isClauseLetter_122 ?_
    exact GO.retz rfl rfl dX5_isClauseLetter_123 (Or.inl rfl) ⟨rfl, rfl, _, rfl, (ir_c rfl), ⟨Or.inl rfl, fun _ => trivial, fun _ => trivial⟩⟩
  ·
    refine GO.tableAt (n := 97) (tgt := 120) dX5_isClauseLetter_1 (ir_c rfl) c2 (by decide) (by decide) rfl (by decide) ?_
    refine GO.iconst dX5_isClauseLetter_120 ?_
    exact GO.retz rfl rfl dX5_isClauseLetter_121 (Or.inr rfl) ⟨rfl, rfl, _, rfl, (ir_c rfl), ⟨Or.inr rfl, fun _ => trivial, fun _ => trivial⟩⟩
  ·
    refine GO.tableAt (n := 98) (tgt := 122) dX5_isClauseLetter_1 (ir_c rfl) c2 (by decide) (by decide) rfl (by decide) ?_
    refine GO.iconst dX5_isClauseLetter_122 ?_
    exact GO.retz rfl rfl dX5_isClauseLetter_123 (Or.inl rfl) ⟨rfl, rfl, _, rfl, (ir_c rfl), ⟨Or.inl rfl, fun _ => trivial, fun _ => trivial⟩⟩
  ·
    refine GO.tableAt (n := 99) (tgt := 120) dX5_isClauseLetter_1 (ir_c rfl) c2 (by decide) (by decide) rfl (by decide) ?_
    refine GO.iconst dX5_isClauseLetter_120 ?_
    exact GO.retz rfl rfl dX5_isClauseLetter_121 (Or.inr rfl) ⟨rfl, rfl, _, rfl, (ir_c rfl), ⟨Or.inr rfl, fun _ => trivial, fun _ => trivial⟩⟩
  ·
    refine GO.tableAt (n := 100) (tgt := 122) dX5_isClauseLetter_1 (ir_c rfl) c2 (by decide) (by decide) rfl (by decide) ?_
    refine GO.iconst dX5_isClauseLetter_122 ?_
    exact GO.retz rfl rfl dX5_isClauseLetter_123 (Or.inl rfl) ⟨rfl, rfl, _, rfl, (ir_c rfl), ⟨Or.inl rfl, fun _ => trivial, fun _ => trivial⟩⟩
  ·
    refine GO.tableAt (n := 101) (tgt := 122) dX5_isClauseLetter_1 (ir_c rfl) c2 (by decide) (by decide) rfl (by decide) ?_
    refine GO.iconst dX5_isClauseLetter_122 ?_
    exact GO.retz rfl rfl dX5_isClauseLetter_123 (Or.inl rfl) ⟨rfl, rfl, _, rfl, (ir_c rfl), ⟨Or.inl rfl, fun _ => trivial, fun _ => trivial⟩⟩
  ·
    refine GO.tableAt (n := 102) (tgt := 120) dX5_isClauseLetter_1 (ir_c rfl) c2 (by decide) (by decide) rfl (by decide) ?_
    refine GO.iconst dX5_isClauseLetter_120 ?_
    exact GO.retz rfl rfl dX5_isClauseLetter_121 (Or.inr rfl) ⟨rfl, rfl, _, rfl, (ir_c rfl), ⟨Or.inr rfl, fun _ => trivial, fun _ => trivial⟩⟩
  ·
    refine GO.tableAt (n := 103) (tgt := 120) dX5_isClauseLetter_1 (ir_c rfl) c2 (by decide) (by decide) rfl (by decide) ?_
    refine GO.iconst dX5_isClauseLetter_120 ?_
    exact GO.retz rfl rfl dX5_isClauseLetter_121 (Or.inr rfl) ⟨rfl, rfl, _, rfl, (ir_c rfl), ⟨Or.inr rfl, fun _ => trivial, fun _ => trivial⟩⟩
  ·
    refine GO.tableAt (n := 104) (tgt := 122) dX5_isClauseLetter_1 (ir_c rfl) c2 (by decide) (by decide) rfl (by decide) ?_
    refine GO.iconst dX5_isClauseLetter_122 ?_
    exact GO.retz rfl rfl dX5_isClauseLetter_123 (Or.inl rfl) ⟨rfl, rfl, _, rfl, (ir_c rfl), ⟨Or.inl rfl, fun _ => trivial, fun _ => trivial⟩⟩
  ·
    refine GO.tableAt (n := 105) (tgt := 122) dX5_isClauseLetter_1 (ir_c rfl) c2 (by decide) (by decide) rfl (by decide) ?_
    refine GO.iconst dX5_isClauseLetter_122 ?_
    exact GO.retz rfl rfl dX5_isClauseLetter_123 (Or.inl rfl) ⟨rfl, rfl, _, rfl, (ir_c rfl), ⟨Or.inl rfl, fun _ => trivial, fun _ => trivial⟩⟩
  ·
    refine GO.tableAt (n := 106) (tgt := 122) dX5_isClauseLetter_1 (ir_c rfl) c2 (by decide) (by decide) rfl (by decide) ?_
    refine GO.iconst dX5_isClauseLetter_122 ?_
    exact GO.retz rfl rfl dX5_isClauseLetter_123 (Or.inl rfl) ⟨rfl, rfl, _, rfl, (ir_c rfl), ⟨Or.inl rfl, fun _ => trivial, fun _ => trivial⟩⟩
  ·
    refine GO.tableAt (n := 107) (tgt := 120) dX5_isClauseLetter_1 (ir_c rfl) c2 (by decide) (by decide) rfl (by decide) ?_
    refine GO.iconst dX5_isClauseLetter_120 ?_
    exact GO.retz rfl rfl dX5_isClauseLetter_121 (Or.inr rfl) ⟨rfl, rfl, _, rfl, (ir_c rfl), ⟨Or.inr rfl, fun _ => trivial, fun _ => trivial⟩⟩
  ·
    refine GO.tableAt (n := 108) (tgt := 120) dX5_isClauseLetter_1 (ir_c rfl) c2 (by decide) (by decide) rfl (by decide) ?_
    refine GO.iconst dX5_isClauseLetter_120 ?_
    exact GO.retz rfl rfl dX5_isClauseLetter_121 (Or.inr rfl) ⟨rfl, rfl, _, rfl, (ir_c rfl), ⟨Or.inr rfl, fun _ => trivial, fun _ => trivial⟩⟩
  ·
    refine GO.tableAt (n := 109) (tgt := 122) dX5_isClauseLetter_1 (ir_c rfl) c2 (by decide) (by decide) rfl (by decide) ?_
    refine GO.iconst dX5_isClauseLetter_122 ?_
    exact GO.retz rfl rfl dX5_isClauseLetter_123 (Or.inl rfl) ⟨rfl, rfl, _, rfl, (ir_c rfl), ⟨Or.inl rfl, fun _ => trivial, fun _ => trivial⟩⟩
  ·
    refine GO.tableAt (n := 110) (tgt := 120) dX5_isClauseLetter_1 (ir_c rfl) c2 (by decide) (by decide) rfl (by decide) ?_
    refine GO.iconst dX5_isClauseLetter_120 ?_
    exact GO.retz rfl rfl dX5_isClauseLetter_121 (Or.inr rfl) ⟨rfl, rfl, _, rfl, (ir_c rfl), ⟨Or.inr rfl, fun _ => trivial, fun _ => trivial⟩⟩
  ·
    refine GO.tableAt (n := 111) (tgt := 122) dX5_isClauseLetter_1 (ir_c rfl) c2 (by decide) (by decide) rfl (by decide) ?_
    refine GO.iconst dX5_isClauseLetter_122 ?_
    exact GO.retz rfl rfl dX5_isClauseLetter_123 (Or.inl rfl) ⟨rfl, rfl, _, rfl, (ir_c rfl), ⟨Or.inl rfl, fun _ => trivial, fun _ => trivial⟩⟩
  ·
    refine GO.tableAt (n := 112) (tgt := 122) dX5_isClauseLetter_1 (ir_c rfl) c2 (by decide) (by decide) rfl (by decide) ?_
    refine GO.iconst dX5_isClauseLetter_122 ?_
    exact GO.retz rfl rfl dX5_isClauseLetter_123 (Or.inl rfl) ⟨rfl, rfl, _, rfl, (ir_c rfl), ⟨Or.inl rfl, fun _ => trivial, fun _ => trivial⟩⟩
  ·
    refine GO.tableAt (n := 113) (tgt := 120) dX5_isClauseLetter_1 (ir_c rfl) c2 (by decide) (by decide) rfl (by decide) ?_
    refine GO.iconst dX5_isClauseLetter_120 ?_
    exact GO.retz rfl rfl dX5_isClauseLetter_121 (Or.inr rfl) ⟨rfl, rfl, _, rfl, (ir_c rfl), ⟨Or.inr rfl, fun _ => trivial, fun _ => trivial⟩⟩
  ·
    refine GO.tableAt (n := 114) (tgt := 122) dX5_isClauseLetter_1 (ir_c rfl) c2 (by decide) (by decide) rfl (by decide) ?_
    refine GO.iconst dX5_isClauseLetter_122 ?_
    exact GO.retz rfl rfl dX5_isClauseLetter_123 (Or.inl rfl) ⟨rfl, rfl, _, rfl, (ir_c rfl), ⟨Or.inl rfl, fun _ => trivial, fun _ => trivial⟩⟩
  ·
    refine GO.tableAt (n := 115) (tgt := 120) dX5_isClauseLetter_1 (ir_c rfl) c2 (by decide) (by decide) rfl (by decide) ?_
    refine GO.iconst dX5_isClauseLetter_120 ?_
    exact GO.retz rfl rfl dX5_isClauseLetter_121 (Or.inr rfl) ⟨rfl, rfl, _, rfl, (ir_c rfl), ⟨Or.inr rfl, fun _ => trivial, fun _ => trivial⟩⟩
  ·
    refine GO.tableAt (n := 116) (tgt := 122) dX5_isClauseLetter_1 (ir_c rfl) c2 (by decide) (by decide) rfl (by decide) ?_
    refine GO.iconst dX5_isClauseLetter_122 ?_
    exact GO.retz rfl rfl dX5_isClauseLetter_123 (Or.inl rfl) ⟨rfl, rfl, _, rfl, (ir_c rfl), ⟨Or.inl rfl, fun _ => trivial, fun _ => trivial⟩⟩
  ·
    refine GO.tableAt (n := 117) (tgt := 122) dX5_isClauseLetter_1 (ir_c rfl) c2 (by decide) (by decide) rfl (by decide) ?_
    refine GO.iconst dX5_isClauseLetter_122 ?_
    exact GO.retz rfl rfl dX5_isClauseLetter_123 (Or.inl rfl) ⟨rfl, rfl, _, rfl, (ir_c rfl), ⟨Or.inl rfl, fun _ => trivial, fun _ => trivial⟩⟩
  ·
    refine GO.tableAt (n := 118) (tgt := 122) dX5_isClauseLetter_1 (ir_c rfl) c2 (by decide) (by decide) rfl (by decide) ?_
    refine GO.iconst dX5_isClauseLetter_122 ?_
    exact GO.retz rfl rfl dX5_isClauseLetter_123 (Or.inl rfl) ⟨rfl, rfl, _, rfl, (ir_c rfl), ⟨Or.inl rfl, fun _ => trivial, fun _ => trivial⟩⟩
  ·
    refine GO.tableAt (n := 119) (tgt := 122) dX5_isClauseLetter_1 (ir_c rfl) c2 (by decide) (by decide) rfl (by decide) ?_
    refine GO.iconst dX5_isClauseLetter_122 ?_
    exact GO.retz rfl rfl dX5_isClauseLetter_123 (Or.inl rfl) ⟨rfl, rfl, _, rfl, (ir_c rfl), ⟨Or.inl rfl, fun _ => trivial, fun _ => trivial⟩⟩
  ·
    refine GO.tableAt (n := 120) (tgt := 120) dX5_isClauseLetter_1 (ir_c rfl) c2 (by decide) (by decide) rfl (by decide) ?_
    refine GO.iconst dX5_isClauseLetter_120 ?_
    exact GO.retz rfl rfl dX5_isClauseLetter_121 (Or.inr rfl) ⟨rfl, rfl, _, rfl, (ir_c rfl), ⟨Or.inr rfl, fun _ => trivial, fun _ => trivial⟩⟩
  ·
    refine GO.tableAt (n := 121) (tgt := 122) dX5_isClauseLetter_1 (ir_c rfl) c2 (by decide) (by decide) rfl (by decide) ?_
    refine GO.iconst dX5_isClauseLetter_122 ?_
    exact GO.retz rfl rfl dX5_isClauseLetter_123 (Or.inl rfl) ⟨rfl, rfl, _, rfl, (ir_c rfl), ⟨Or.inl rfl, fun _ => trivial, fun _ => trivial⟩⟩
  ·
    refine GO.tableAt (n := 122) (tgt := 120) dX5_isClauseLetter_1 (ir_c rfl) c2 (by decide) (by decide) rfl (by decide) ?_
    refine GO.iconst dX5_isClauseLetter_120 ?_
    exact GO.retz rfl rfl dX5_isClauseLetter_121 (Or.inr rfl) ⟨rfl, rfl, _, rfl, (ir_c rfl), ⟨Or.inr rfl, fun _ => trivial, fun _ => trivial⟩⟩
