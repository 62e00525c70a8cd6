def mX4_fill_t123 : MRec := (RX4, cX4_fill, 3, (none : Option Jvm.ClassFile.FieldType), yX4_fill, 0, 0, 0, 0, 40347654345107946713373737062547060536401653012956617387979052445947619094013143666088208645002153616185987062074179584)
def mX2_init : MRec := (RX2, cX2_init, 2, (none : Option Jvm.ClassFile.FieldType), yX2_init, 1, 22, 2, 27, 16598062275523971834049631454764644604049784928969747599982629359110265590759579298972565258335475713554444559401820544708633050249266195244691165424664499750398343399593100168921088)
def mX2_decidesOn : MRec := (RX2, cX2_decidesOn, 2, (some .boolean), yX2_decidesOn, 0, 0, 0, 0, 0)
def mX2_blocksWords : MRec := (RX2, cX2_blocksWords, 3, (some .boolean), yX2_blocksWords, 1, 21, 0, 0, 0)
def mX8_init_k34 : MRec := (RX8, cX8_init, 3, (none : Option Jvm.ClassFile.FieldType), yX8_init, 1, 21, 1, 16, 531137992816767098689588206552468627329593117727031923199444138200403559860852242739162502265229285668889329486246501015346579337652707239409519978766587351943831270835393219031728128)
def mX4_fill : MRec := (RX4, cX4_fill, 3, (none : Option Jvm.ClassFile.FieldType), yX4_fill, 0, 0, 0, 0, 3794275180128377091639574036764685364535950857523710002444946112771297432041422848)
def mX3_init : MRec := (RX3, cX3_init, 6, (none : Option Jvm.ClassFile.FieldType), yX3_init, 2, 43, 2, 20, 564334117367815042357687469461997916537692687584971418399409396837928782352155507910360158656806116026989187759265284420445314583020686806408565834963209063885266838033902727262633984)
def mX8_isFull_k34 : MRec := (RX8, cX8_isFull, 1, (some .boolean), yX8_isFull, 0, 0, 0, 0, 0)
def mX8_put_k34 : MRec := (RX8, cX8_put, 6, (none : Option Jvm.ClassFile.FieldType), yX8_put, 0, 0, 0, 0, 346583711765101857447301773017885462929554634421977071896309947576827663475703202879996800763017447262173901370175446478621769728)
def mX8_append_k34 : MRec := (RX8, cX8_append, 7, (some .int), yX8_append, 1, 25, 0, 0, 40131652080904949243476790488282231640246122763238325954424140190648896440865526195785026639619810363502319100491144716629504315406428504948246801194450135957054982084640921181024257015111651255738366427136)
def mX3_addSounding : MRec := (RX3, cX3_addSounding, 3, (some .boolean), yX3_addSounding, 2, 51, 0, 0, 40131652080904949243476790488282231640246122763238325954424140190648896440865526195785026639619810363502319100491144716629504315406428504948246801194450135957054982084640921181024257015111651255738366427136)
def mX8_get_k34 : MRec := (RX8, cX8_get, 5, (some .int), yX8_get, 0, 0, 0, 0, 0)
def mX3_sureDepth : MRec := (RX3, cX3_sureDepth, 5, (some .int), yX3_sureDepth, 1, 24, 0, 0, 0)
set_option maxHeartbeats 1000000 in
theorem t_X4_fill_t123 {K : Kmap} {V : Vmap} {p0 n_p0 : Nat} {p1 : Int} (h_p0 : K p0 = some (124, n_p0)) (r_p1 : ir p1) (q_0 : p1 ≥ (-1)) (q_1 : p1 ≤ 3599) : MC mX4_fill_t123 K V [.ref p0, ti p1] (VS K (fun V1 => (True) ∧ (FLL V V1 p0 n_p0 p1))) := by
  refine MC.start 1 (by decide +kernel) rfl rfl rfl (ls0 := [some (.ref p0), some (ti p1), none]) rfl ?_
  refine GO.aload_n dX4_fill_0 rfl rfl ?_
  refine GO.ifnonnull (tgt := 5) dX4_fill_1 (by decide) ?_
  refine GO.iconst dX4_fill_5 ?_
  refine GO.istore_n (ls1 := [some (.ref p0), some (ti p1), some (ti 0)]) dX4_fill_6 rfl rfl rfl ?_
  refine GO.loop1 (fun i1 W => 0 ≤ i1 ∧ i1 ≤ 5000 ∧ (FLI V W p0 p1 i1) ∧ True) (fun i1 => [some (.ref p0), some (ti p1), some (ti i1)]) (fun i1 W => (2147483647 - i1).toNat) 0 ⟨by omega, by omega, (by first | exact FLI.beg | exact FLI.step hfl (by assumption) (by assumption) (by omega) (by omega)), trivial⟩ rfl (fun i1 Wi1 hp48 ih47 => ?_)
  obtain ⟨l_i1, u_i1, hfl, -⟩ := hp48
  have r_i1 : ir i1 := ⟨by omega, by omega⟩
  show GO mX4_fill_t123 K V (VS K (fun V1 => (True) ∧ (FLL V V1 p0 n_p0 p1))) K Wi1 0 0 7 [some (.ref p0), some (ti p1), some (ti i1)] []
  refine GO.iload_n dX4_fill_7 rfl rfl ?_
  refine GO.aload_n dX4_fill_8 rfl rfl ?_
  refine GO.alen h_p0 dX4_fill_9 (fun h49 => ?_)
  refine GO.icmp_ge (tgt := 23) dX4_fill_10 (by decide) r_i1 ⟨by omega, by omega⟩ (fun c50 => ?_) (fun c50 => ?_)
  ·
    exact GO.retv rfl rfl dX4_fill_23 ⟨rfl, rfl, ⟨trivial, FLI.end hfl (by omega)⟩⟩
  ·
    refine GO.aload_n dX4_fill_13 rfl rfl ?_
    refine GO.iload_n dX4_fill_14 rfl rfl ?_
    refine GO.iload_n dX4_fill_15 rfl rfl ?_
    have q52 : -2147483648 ≤ p1 ∧ p1 ≤ 2147483647 := r_p1
    refine GO.iast (t := 123) rfl rfl (by decide +kernel) h_p0 r_i1 (by omega) (by omega) r_p1 (by omega) (by omega) dX4_fill_16 (fun V53 e51 => ?_)
    refine GO.iinc (X := i1) (n := 1) (Y := i1 + 1) (ls1 := [some (.ref p0), some (ti p1), some (ti (i1 + 1))]) dX4_fill_17 rfl rfl rfl rfl ?_
    refine GO.goto (tgt := 7) dX4_fill_20 (by decide) ?_
    exact ih47 (i1 + 1) V53 ⟨by omega, by omega, (by first | exact FLI.beg | exact FLI.step hfl (by assumption) (by assumption) (by omega) (by omega)), trivial⟩ (by show (2147483647 - (i1 + 1)).toNat < (2147483647 - i1).toNat; omega)

set_option maxHeartbeats 1000000 in
theorem t_X2_init {K : Kmap} {V : Vmap} {x : Nat} {p0 : Int} (h_x : K x = some (0, 14)) (r_p0 : ir p0) : MC mX2_init K V [.ref x, ti p0] (VX (fun K1 V1 => (K1 x = some (0, 2) ∧ vi V1 x 2 = 0 ∧ ZR K V1 x 4 7 0 ∧ (OLDP K V V1 x) ∧ (NYR K V1 x)) ∧ KE K K1 x)) := by
  refine MC.start 0 (by decide +kernel) rfl rfl rfl (ls0 := [some (.ref x), some (ti p0)]) rfl ?_
  refine GO.aload_n dX2_init_0 rfl rfl ?_
  refine GO.objInit dX2_init_1 gw_329 gw_27 gw_28 rfl rfl ?_
  refine GO.aload_n dX2_init_4 rfl rfl ?_
  refine GO.iconst dX2_init_5 ?_
  refine GO.putRW rfl (by decide +kernel) h_x fp_raw_fp_RX2_9 rfl rfl dX2_init_6 (fun V2 e1 => ?_)
  refine GO.aload_n dX2_init_9 rfl rfl ?_
  refine GO.iconst dX2_init_10 ?_
  refine GO.putRW rfl (by decide +kernel) h_x fp_raw_fp_RX2_15 rfl rfl dX2_init_11 (fun V4 e3 => ?_)
  refine GO.aload_n dX2_init_14 rfl rfl ?_
  refine GO.bipush dX2_init_15 rfl ?_
  refine GO.newT (atype := .int) 123 20 gw_89 rfl rfl (fun _ _ h => h) rfl rfl rfl (Or.inr rfl) (fun _ => okv_df rfl rfl rfl) rfl rfl dX2_init_17 (fun o5 K6 V12 hq7 hK8 hE9 h10 hz13 hV11 => ?_)
  have h14 := (by rw [hK8, updK_ne (K_old h_x hq7)]; exact h_x : K6 x = some (0, 14))
  have h15 := KE.nw KE.rf h_x hq7
  refine GO.putRF rfl rfl (by decide +kernel) h14 fp_raw_fp_RX2_18 rfl rfl dX2_init_19 (fun V17 e16 => ?_)
  refine GO.aload_n dX2_init_22 rfl rfl ?_
  refine GO.bipush dX2_init_23 rfl ?_
  refine GO.newT (atype := .int) 124 7 gw_89 rfl rfl (fun _ _ h => h) rfl rfl rfl (Or.inr rfl) (fun _ => okv_df rfl rfl rfl) rfl rfl dX2_init_25 (fun o18 K19 V25 hq20 hK21 hE22 h23 hz26 hV24 => ?_)
  have h27 := (by rw [hK21, updK_ne (K_old h14 hq20)]; exact h14 : K19 x = some (0, 14))
  have h28 := hE22.arr h10
  have h29 := KE.nw (KE.new KE.rf hq7 hK8) h14 hq20
  refine GO.putRF rfl rfl (by decide +kernel) h27 fp_raw_fp_RX2_22 rfl rfl dX2_init_27 (fun V31 e30 => ?_)
  refine GO.aload_n dX2_init_30 rfl rfl ?_
  refine GO.iload_n dX2_init_31 rfl rfl ?_
  refine GO.putRW rfl (by decide +kernel) h27 fp_raw_fp_RX2_25 rfl rfl dX2_init_32 (fun V33 e32 => ?_)
  refine GO.aload_n dX2_init_35 rfl rfl ?_
  refine GO.getRaw h27 fl_raw_fl_RX2_18 (Eq.trans (uq_ne e32 (Or.inr (by decide))) (Eq.trans (uq_ne e30 (Or.inr (by decide))) (Eq.trans (congrFun (hV24 _ (K_old h14 hq20)) _) (uq_at e16)))) dX2_init_36 ?_
  refine GO.iconst dX2_init_39 ?_
  refine GO.callS (N := mX4_fill_t123) dX2_init_40 gS_RX2_28 (t_X4_fill_t123 h28 (ir_c rfl) (by omega) (by omega)) rfl [] rfl rfl (Nat.le_of_ble_eq_true rfl) rfl (k_vs fun V36 h35 hF34 => ?_)
  have raw_fill := h35.2
  have rw40 := h35.2
  refine GO.promote (ci := 2) rfl h27 (fun j hj => ?_) (fun K37 e38 hE39 h40 => ?_)
  ·
    have hj : j < 5 := hj
    match j, hj with
    | 0, _ => exact okv_any (Eq.trans (hF34 _ _ _ h27 h27 (by decide +kernel)) (uq_at e32))
    | 1, _ => exact okv_any (Eq.trans (hF34 _ _ _ h27 h27 (by decide +kernel)) (Eq.trans (uq_ne e32 (Or.inr (by decide))) (Eq.trans (uq_ne e30 (Or.inr (by decide))) (Eq.trans (congrFun (hV24 _ (K_old h14 hq20)) _) (Eq.trans (uq_ne e16 (Or.inr (by decide))) (Eq.trans (congrFun (hV11 _ (K_old h_x hq7)) _) (Eq.trans (uq_ne e3 (Or.inr (by decide))) (uq_at e1))))))))
    | 2, _ => exact okv_any (Eq.trans (hF34 _ _ _ h27 h27 (by decide +kernel)) (Eq.trans (uq_ne e32 (Or.inr (by decide))) (Eq.trans (uq_ne e30 (Or.inr (by decide))) (Eq.trans (congrFun (hV24 _ (K_old h14 hq20)) _) (Eq.trans (uq_ne e16 (Or.inr (by decide))) (Eq.trans (congrFun (hV11 _ (K_old h_x hq7)) _) (uq_at e3)))))))
    | 3, _ => exact ⟨_, (Eq.trans (hF34 _ _ _ h27 h27 (by decide +kernel)) (Eq.trans (uq_ne e32 (Or.inr (by decide))) (Eq.trans (uq_ne e30 (Or.inr (by decide))) (Eq.trans (congrFun (hV24 _ (K_old h14 hq20)) _) (uq_at e16))))), ⟨_, h28⟩⟩
    | 4, _ => exact ⟨_, (Eq.trans (hF34 _ _ _ h27 h27 (by decide +kernel)) (Eq.trans (uq_ne e32 (Or.inr (by decide))) (uq_at e30))), ⟨_, h23⟩⟩
    | j + 5, hj => exact absurd hj (by omega)
  exact GO.retv rfl rfl dX2_init_43 ⟨rfl, ⟨h40, vi_at (Eq.trans (hF34 _ _ _ h27 h27 (by decide +kernel)) (Eq.trans (uq_ne e32 (Or.inr (by decide))) (Eq.trans (uq_ne e30 (Or.inr (by decide))) (Eq.trans (congrFun (hV24 _ (K_old h14 hq20)) _) (Eq.trans (uq_ne e16 (Or.inr (by decide))) (Eq.trans (congrFun (hV11 _ (K_old h_x hq7)) _) (uq_at e3))))))) (ir_c rfl), ZR.mk (Eq.trans (hF34 _ _ _ h27 h27 (by decide +kernel)) (Eq.trans (uq_ne e32 (Or.inr (by decide))) (uq_at e30))) h29.1 (fun j => (Eq.trans (FRA hF34 h23 h23 (by decide +kernel) j) (Eq.trans (uq_ne e32 (Or.inl (K_ne h23 h27 (by decide)))) (uq_ne e30 (Or.inl (K_ne h23 h27 (by decide))))))) hz26, (OLDP.mk (by assumption) (by assumption) hq7 hK8 hV11 (by assumption) hq20 hV24 (by assumption) (by assumption) rw40), (NYR.mk (Eq.trans (hF34 _ _ _ h27 h27 (by decide +kernel)) (Eq.trans (uq_ne e32 (Or.inr (by decide))) (Eq.trans (uq_ne e30 (Or.inr (by decide))) (Eq.trans (congrFun (hV24 _ (K_old h14 hq20)) _) (uq_at e16))))) hq7 rw40 (by decide))⟩, KE.promote (KE.new (KE.new KE.rf hq7 hK8) hq20 hK21) e38⟩

set_option maxHeartbeats 1000000 in
theorem t_X2_decidesOn {K : Kmap} {V : Vmap} {x : Nat} {p0 : Int} (h_x : K x = some (0, 2)) (r_p0 : ir p0) : MC mX2_decidesOn K V [.ref x, ti p0] (IP K V (fun X => (X = 0 ∨ X = 1) ∧ (X ≠ 0 → True) ∧ (X = 0 → True))) := by
  refine MC.start 0 (by decide +kernel) rfl rfl rfl (ls0 := [some (.ref x), some (ti p0)]) rfl ?_
  refine GO.aload_n dX2_decidesOn_0 rfl rfl ?_
  refine GO.getI h_x fl_RX2_25 rfl rfl dX2_decidesOn_1 (fun _ _ => ?_)
  refine GO.iconst dX2_decidesOn_4 ?_
  refine GO.icmp_eq (tgt := 20) dX2_decidesOn_5 (by decide) vi_ir (ir_c rfl) (fun c1 => ?_) (fun c1 => ?_)
  ·
    refine GO.iconst dX2_decidesOn_20 ?_
    exact GO.retz rfl rfl dX2_decidesOn_21 (by omega) ⟨rfl, rfl, _, rfl, (ir_c rfl), ⟨by omega, fun _ => trivial, fun _ => trivial⟩⟩
  ·
    refine GO.aload_n dX2_decidesOn_8 rfl rfl ?_
    refine GO.getI h_x fl_RX2_25 rfl rfl dX2_decidesOn_9 (fun _ _ => ?_)
    refine GO.iload_n dX2_decidesOn_12 rfl rfl ?_
    refine GO.icmp_gt (tgt := 20) dX2_decidesOn_13 (by decide) vi_ir r_p0 (fun c2 => ?_) (fun c2 => ?_)
    ·
      refine GO.iconst dX2_decidesOn_20 ?_
      exact GO.retz rfl rfl dX2_decidesOn_21 (by omega) ⟨rfl, rfl, _, rfl, (ir_c rfl), ⟨by omega, fun _ => trivial, fun _ => trivial⟩⟩
    ·
      refine GO.iconst dX2_decidesOn_16 ?_
      refine GO.goto (tgt := 21) dX2_decidesOn_17 (by decide) ?_
      exact GO.retz rfl rfl dX2_decidesOn_21 (by omega) ⟨rfl, rfl, _, rfl, (ir_c rfl), ⟨by omega, fun _ => trivial, fun _ => trivial⟩⟩

set_option maxHeartbeats 1000000 in
theorem t_X2_blocksWords {K : Kmap} {V : Vmap} {x : Nat} {p0 : Int} (h_x : K x = some (0, 2)) (r_p0 : ir p0) : MC mX2_blocksWords K V [.ref x, ti p0] (IP K V (fun X => (X = 0 ∨ X = 1) ∧ (X ≠ 0 → True) ∧ (X = 0 → True) ∧ (X ≠ 0 ↔ BWp V x p0))) := by
  refine MC.start 1 (by decide +kernel) rfl rfl rfl (ls0 := [some (.ref x), some (ti p0), none]) rfl ?_
  refine GO.aload_n dX2_blocksWords_0 rfl rfl ?_
  refine GO.getI h_x fl_RX2_15 rfl rfl dX2_blocksWords_1 (fun _ _ => ?_)
  refine GO.iload_n dX2_blocksWords_4 rfl rfl ?_
  refine GO.iand dX2_blocksWords_5 ?_
  refine GO.if_eq (tgt := 11) dX2_blocksWords_6 (by decide) wand_ir (fun c1 => ?_) (fun c1 => ?_)
  ·
    have cc6 := c1
    refine GO.iconst dX2_blocksWords_11 ?_
    refine GO.istore_n (ls1 := [some (.ref x), some (ti p0), some (ti 0)]) dX2_blocksWords_12 rfl rfl rfl ?_
    refine GO.loop1 (fun i2 W => 0 ≤ i2 ∧ i2 ≤ 7 ∧ (BWn W x p0 i2) ∧ V = W) (fun i2 => [some (.ref x), some (ti p0), some (ti i2)]) (fun i2 W => (2147483647 - i2).toNat) 0 ⟨by omega, by omega, (by first | exact BWn.no hbw (by omega) cc24 | exact BWn.less hbw (by omega) (by omega) rw32 cc39 | exact BWn.nil cc6), rfl⟩ rfl (fun i2 V35 hp37 ih36 => ?_)
    obtain ⟨l_i2, u_i2, hbw, rfl⟩ := hp37
    have r_i2 : ir i2 := ⟨by omega, by omega⟩
    show GO mX2_blocksWords K V (IP K V (fun X => (X = 0 ∨ X = 1) ∧ (X ≠ 0 → True) ∧ (X = 0 → True) ∧ (X ≠ 0 ↔ BWp V x p0))) K V 0 0 13 [some (.ref x), some (ti p0), some (ti i2)] []
    refine GO.iload_n dX2_blocksWords_13 rfl rfl ?_
    refine GO.bipush dX2_blocksWords_14 rfl ?_
    refine GO.icmp_ge (tgt := 50) dX2_blocksWords_16 (by decide) r_i2 (ir_c rfl) (fun c38 => ?_) (fun c38 => ?_)
    ·
      have cc16 := c38
      refine GO.iconst dX2_blocksWords_50 ?_
      exact GO.retz rfl rfl dX2_blocksWords_51 (by omega) ⟨rfl, rfl, _, rfl, (ir_c rfl), ⟨by omega, fun _ => trivial, fun _ => trivial, (by first | exact iff_of_true (by decide) (BWp.hit rw32 cc24 cc39 (by omega) (by omega)) | exact iff_of_true (by decide) (Or.inl cc6) | exact iff_of_false (fun h => h rfl) (BWn.end hbw (by omega)))⟩⟩
    ·
      have cc16 := c38
      refine GO.iload_n dX2_blocksWords_19 rfl rfl ?_
      refine GO.iload_n dX2_blocksWords_20 rfl rfl ?_
      refine GO.ishr dX2_blocksWords_21 ?_
      refine GO.iconst dX2_blocksWords_22 ?_
      refine GO.iand dX2_blocksWords_23 ?_
      refine GO.if_eq (tgt := 44) dX2_blocksWords_24 (by decide) wand_ir (fun c39 => ?_) (fun c39 => ?_)
      ·
        have cc24 := c39
        refine GO.iinc (X := i2) (n := 1) (Y := i2 + 1) (ls1 := [some (.ref x), some (ti p0), some (ti (i2 + 1))]) dX2_blocksWords_44 rfl rfl rfl rfl ?_
        refine GO.goto (tgt := 13) dX2_blocksWords_47 (by decide) ?_
        exact ih36 (i2 + 1) V ⟨by omega, by omega, (by first | exact BWn.no hbw (by omega) cc24 | exact BWn.less hbw (by omega) (by omega) rw32 cc39 | exact BWn.nil cc6), rfl⟩ (by show (2147483647 - (i2 + 1)).toNat < (2147483647 - i2).toNat; omega)
      ·
        have cc24 := c39
        refine GO.aload_n dX2_blocksWords_27 rfl rfl ?_
        refine GO.getA (n := 7) h_x fl_RX2_22 rfl rfl rfl rfl dX2_blocksWords_28 (fun hv41 h40 => ?_)
        refine GO.iload_n dX2_blocksWords_31 rfl rfl ?_
        refine GO.callS (N := mX4_get) dX2_blocksWords_32 gS_RX2_34 (t_X4_get rfl h40 r_i2) rfl [] rfl rfl (Nat.le_of_ble_eq_true rfl) rfl (k_ip fun X42 r43 h44 => ?_)
        have raw_get := h44.2
        have rw32 := h44.2
        refine GO.iload_n dX2_blocksWords_35 rfl rfl ?_
        refine GO.iconst dX2_blocksWords_36 ?_
        refine GO.ixor dX2_blocksWords_37 ?_
        refine GO.iand dX2_blocksWords_38 ?_
        refine GO.if_eq (tgt := 44) dX2_blocksWords_39 (by decide) wand_ir (fun c45 => ?_) (fun c45 => ?_)
        ·
          have cc39 := c45
          refine GO.iinc (X := i2) (n := 1) (Y := i2 + 1) (ls1 := [some (.ref x), some (ti p0), some (ti (i2 + 1))]) dX2_blocksWords_44 rfl rfl rfl rfl ?_
          refine GO.goto (tgt := 13) dX2_blocksWords_47 (by decide) ?_
          exact ih36 (i2 + 1) V ⟨by omega, by omega, (by first | exact BWn.no hbw (by omega) cc24 | exact BWn.less hbw (by omega) (by omega) rw32 cc39 | exact BWn.nil cc6), rfl⟩ (by show (2147483647 - (i2 + 1)).toNat < (2147483647 - i2).toNat; omega)
        ·
          have cc39 := c45
          refine GO.iconst dX2_blocksWords_42 ?_
          exact GO.retz rfl rfl dX2_blocksWords_43 (by omega) ⟨rfl, rfl, _, rfl, (ir_c rfl), ⟨by omega, fun _ => trivial, fun _ => trivial, (by first | exact iff_of_true (by decide) (BWp.hit rw32 cc24 cc39 (by omega) (by omega)) | exact iff_of_true (by decide) (Or.inl cc6) | exact iff_of_false (fun h => h rfl) (BWn.end hbw (by omega)))⟩⟩
  ·
    have cc6 := c1
    refine GO.iconst dX2_blocksWords_9 ?_
    exact GO.retz rfl rfl dX2_blocksWords_10 (by omega) ⟨rfl, rfl, _, rfl, (ir_c rfl), ⟨by omega, fun _ => trivial, fun _ => trivial, (by first | exact iff_of_true (by decide) (BWp.hit rw32 cc24 cc39 (by omega) (by omega)) | exact iff_of_true (by decide) (Or.inl cc6) | exact iff_of_false (fun h => h rfl) (BWn.end hbw (by omega)))⟩⟩

set_option maxHeartbeats 1000000 in
theorem t_X8_init_k34 {K : Kmap} {V : Vmap} {x : Nat} {p0 : Int} {p1 : Int} (h_x : K x = some (0, 19)) (r_p0 : ir p0) (r_p1 : ir p1) (q_0 : p0 = 2) (q_1 : p1 = 8) : MC mX8_init_k34 K V [.ref x, ti p0, ti p1] (VX (fun K1 V1 => (K1 x = some (0, 34) ∧ vi V1 x 3 = 0) ∧ KE K K1 x)) := by
  refine MC.start 0 (by decide +kernel) rfl rfl rfl (ls0 := [some (.ref x), some (ti p0), some (ti p1)]) rfl ?_
  refine GO.aload_n dX8_init_0 rfl rfl ?_
  refine GO.objInit dX8_init_1 gw_103 gw_27 gw_28 rfl rfl ?_
  refine GO.aload_n dX8_init_4 rfl rfl ?_
  refine GO.iconst dX8_init_5 ?_
  refine GO.putRW rfl (by decide +kernel) h_x fp_raw_fp_RX8_9 rfl rfl dX8_init_6 (fun V2 e1 => ?_)
  refine GO.aload_n dX8_init_9 rfl rfl ?_
  refine GO.iload_n dX8_init_10 rfl rfl ?_
  refine GO.putRF rfl rfl (by decide +kernel) h_x fp_raw_fp_RX8_15 rfl rfl dX8_init_11 (fun V4 e3 => ?_)
  refine GO.aload_n dX8_init_14 rfl rfl ?_
  refine GO.iload_n dX8_init_15 rfl rfl ?_
  refine GO.putRF rfl rfl (by decide +kernel) h_x fp_raw_fp_RX8_18 rfl rfl dX8_init_16 (fun V6 e5 => ?_)
  refine GO.aload_n dX8_init_19 rfl rfl ?_
  refine GO.iconst dX8_init_20 ?_
  refine GO.iload_n dX8_init_21 rfl rfl ?_
  refine GO.iload_n dX8_init_22 rfl rfl ?_
  refine GO.imul dX8_init_23 ?_
  have q7 : -2147483648 ≤ p1 ∧ p1 ≤ 2147483647 := r_p1
  have q8 : -2147483648 ≤ p0 ∧ p0 ≤ 2147483647 := r_p0
  have m9 := mul_rng (a := p0) (b := p1) (A := 2) (B := 8) (by omega) (by omega) (by omega) (by omega)
  have m10 := mul_low (a := p0) (b := p1) (m := 2) (n := 8) (by omega) (by omega) (by omega) (by omega)
  refine GO.callS (N := mJ9_max_7cf53) dX8_init_24 gS_RX8_21 (t_J9_max_7cf53 (ir_c rfl) ⟨by omega, by omega⟩) rfl [.ref x] rfl rfl (Nat.le_of_ble_eq_true rfl) rfl (k_ip fun X11 r12 h13 => ?_)
  have q14 : -2147483648 ≤ X11 ∧ X11 ≤ 2147483647 := r12
  refine GO.newIT 156 16 gw_89 rfl rfl (fun _ _ => okv_df rfl rfl rfl) r12 (by omega) (by omega) rfl (Or.inr (by show _ = ((16 : Nat) : Int); omega)) rfl rfl dX8_init_27 (fun o15 K16 V22 hq17 hK18 hE19 h20 _ hV21 => ?_)
  have h23 := (by rw [hK18, updK_ne (K_old h_x hq17)]; exact h_x : K16 x = some (0, 19))
  have h24 := KE.nw KE.rf h_x hq17
  refine GO.putRF rfl rfl (by decide +kernel) h23 fp_raw_fp_RX8_27 rfl rfl dX8_init_29 (fun V26 e25 => ?_)
  refine GO.promoteT 34 rfl rfl h23 (fun j hj => ?_) (fun K27 e28 hE29 h30 => ?_)
  ·
    have hj : j < 4 := hj
    match j, hj with
    | 0, _ => exact okv_at (Eq.trans (uq_ne e25 (Or.inr (by decide))) (Eq.trans (congrFun (hV21 _ (K_old h_x hq17)) _) (Eq.trans (uq_ne e5 (Or.inr (by decide))) (uq_at e3)))) r_p0 (by omega) (by omega)
    | 1, _ => exact okv_at (Eq.trans (uq_ne e25 (Or.inr (by decide))) (Eq.trans (congrFun (hV21 _ (K_old h_x hq17)) _) (uq_at e5))) r_p1 (by omega) (by omega)
    | 2, _ => exact ⟨_, (uq_at e25), ⟨_, h20⟩⟩
    | 3, _ => exact okv_at (Eq.trans (uq_ne e25 (Or.inr (by decide))) (Eq.trans (congrFun (hV21 _ (K_old h_x hq17)) _) (Eq.trans (uq_ne e5 (Or.inr (by decide))) (Eq.trans (uq_ne e3 (Or.inr (by decide))) (uq_at e1))))) (ir_c rfl) (by omega) (by omega)
    | j + 4, hj => exact absurd hj (by omega)
  exact GO.retv rfl rfl dX8_init_32 ⟨rfl, ⟨h30, vi_at (Eq.trans (uq_ne e25 (Or.inr (by decide))) (Eq.trans (congrFun (hV21 _ (K_old h_x hq17)) _) (Eq.trans (uq_ne e5 (Or.inr (by decide))) (Eq.trans (uq_ne e3 (Or.inr (by decide))) (uq_at e1))))) (ir_c rfl)⟩, KE.promote (KE.new KE.rf hq17 hK18) e28⟩

set_option maxHeartbeats 1000000 in
theorem t_X4_fill {K : Kmap} {V : Vmap} {p0 n_p0 : Nat} {p1 : Int} (h_p0 : K p0 = some (1, n_p0)) (r_p1 : ir p1) : MC mX4_fill K V [.ref p0, ti p1] (VS K (fun V1 => (True) ∧ (FLL V V1 p0 n_p0 p1))) := by
  refine MC.start 1 (by decide +kernel) rfl rfl rfl (ls0 := [some (.ref p0), some (ti p1), none]) rfl ?_
  refine GO.aload_n dX4_fill_0 rfl rfl ?_
  refine GO.ifnonnull (tgt := 5) dX4_fill_1 (by decide) ?_
  refine GO.iconst dX4_fill_5 ?_
  refine GO.istore_n (ls1 := [some (.ref p0), some (ti p1), some (ti 0)]) dX4_fill_6 rfl rfl rfl ?_
  refine GO.loop1 (fun i1 W => 0 ≤ i1 ∧ i1 ≤ 5000 ∧ (FLI V W p0 p1 i1) ∧ True) (fun i1 => [some (.ref p0), some (ti p1), some (ti i1)]) (fun i1 W => (2147483647 - i1).toNat) 0 ⟨by omega, by omega, (by first | exact FLI.beg | exact FLI.step hfl (by assumption) (by assumption) (by omega) (by omega)), trivial⟩ rfl (fun i1 Wi1 hp39 ih38 => ?_)
  obtain ⟨l_i1, u_i1, hfl, -⟩ := hp39
  have r_i1 : ir i1 := ⟨by omega, by omega⟩
  show GO mX4_fill K V (VS K (fun V1 => (True) ∧ (FLL V V1 p0 n_p0 p1))) K Wi1 0 0 7 [some (.ref p0), some (ti p1), some (ti i1)] []
  refine GO.iload_n dX4_fill_7 rfl rfl ?_
  refine GO.aload_n dX4_fill_8 rfl rfl ?_
  refine GO.alen h_p0 dX4_fill_9 (fun h40 => ?_)
  refine GO.icmp_ge (tgt := 23) dX4_fill_10 (by decide) r_i1 ⟨by omega, by omega⟩ (fun c41 => ?_) (fun c41 => ?_)
  ·
    exact GO.retv rfl rfl dX4_fill_23 ⟨rfl, rfl, ⟨trivial, FLI.end hfl (by omega)⟩⟩
  ·
    refine GO.aload_n dX4_fill_13 rfl rfl ?_
    refine GO.iload_n dX4_fill_14 rfl rfl ?_
    refine GO.iload_n dX4_fill_15 rfl rfl ?_
    refine GO.iast (t := 0) rfl rfl (by decide +kernel) h_p0 r_i1 (by omega) (by omega) r_p1 (r_p1).1 (r_p1).2 dX4_fill_16 (fun V43 e42 => ?_)
    refine GO.iinc (X := i1) (n := 1) (Y := i1 + 1) (ls1 := [some (.ref p0), some (ti p1), some (ti (i1 + 1))]) dX4_fill_17 rfl rfl rfl rfl ?_
    refine GO.goto (tgt := 7) dX4_fill_20 (by decide) ?_
    exact ih38 (i1 + 1) V43 ⟨by omega, by omega, (by first | exact FLI.beg | exact FLI.step hfl (by assumption) (by assumption) (by omega) (by omega)), trivial⟩ (by show (2147483647 - (i1 + 1)).toNat < (2147483647 - i1).toNat; omega)

set_option maxHeartbeats 1000000 in
theorem t_X3_init {K : Kmap} {V : Vmap} {x : Nat} {p0 : Int} {p1 : Int} {p2 : Int} {p3 : Int} {p4 : Int} (h_x : K x = some (0, 15)) (r_p0 : ir p0) (r_p1 : ir p1) (r_p2 : ir p2) (r_p3 : ir p3) (r_p4 : ir p4) : MC mX3_init K V [.ref x, ti p0, ti p1, ti p2, ti p3, ti p4] (VX (fun K1 _ => K1 x = some (0, 3) ∧ KE K K1 x)) := by
  refine MC.start 0 (by decide +kernel) rfl rfl rfl (ls0 := [some (.ref x), some (ti p0), some (ti p1), some (ti p2), some (ti p3), some (ti p4)]) rfl ?_
  refine GO.aload_n dX3_init_0 rfl rfl ?_
  refine GO.objInit dX3_init_1 gw_429 gw_27 gw_28 rfl rfl ?_
  refine GO.aload_n dX3_init_4 rfl rfl ?_
  refine GO.iconst dX3_init_5 ?_
  refine GO.putRW rfl (by decide +kernel) h_x fp_raw_fp_RX3_9 rfl rfl dX3_init_6 (fun V2 e1 => ?_)
  refine GO.aload_n dX3_init_9 rfl rfl ?_
  refine GO.iconst dX3_init_10 ?_
  refine GO.putRW rfl (by decide +kernel) h_x fp_raw_fp_RX3_15 rfl rfl dX3_init_11 (fun V4 e3 => ?_)
  refine GO.aload_n dX3_init_14 rfl rfl ?_
  refine GO.iconst dX3_init_15 ?_
  refine GO.putRW rfl (by decide +kernel) h_x fp_raw_fp_RX3_19 rfl rfl dX3_init_16 (fun V6 e5 => ?_)
  refine GO.aload_n dX3_init_19 rfl rfl ?_
  refine GO.iconst dX3_init_20 ?_
  refine GO.putRW rfl (by decide +kernel) h_x fp_raw_fp_RX3_22 rfl rfl dX3_init_21 (fun V8 e7 => ?_)
  refine GO.aload_n dX3_init_24 rfl rfl ?_
  refine GO.iconst dX3_init_25 ?_
  refine GO.putRW rfl (by decide +kernel) h_x fp_raw_fp_RX3_25 rfl rfl dX3_init_26 (fun V10 e9 => ?_)
  refine GO.aload_n dX3_init_29 rfl rfl ?_
  refine GO.iconst dX3_init_30 ?_
  refine GO.putRW rfl (by decide +kernel) h_x fp_raw_fp_RX3_28 rfl rfl dX3_init_31 (fun V12 e11 => ?_)
  refine GO.aload_n dX3_init_34 rfl rfl ?_
  refine GO.iconst dX3_init_35 ?_
  refine GO.putRW rfl (by decide +kernel) h_x fp_raw_fp_RX3_31 rfl rfl dX3_init_36 (fun V14 e13 => ?_)
  refine GO.aload_n dX3_init_39 rfl rfl ?_
  refine GO.iconst dX3_init_40 ?_
  refine GO.putRW rfl (by decide +kernel) h_x fp_raw_fp_RX3_34 rfl rfl dX3_init_41 (fun V16 e15 => ?_)
  refine GO.aload_n dX3_init_44 rfl rfl ?_
  refine GO.iload_n dX3_init_45 rfl rfl ?_
  refine GO.putRF rfl rfl (by decide +kernel) h_x fp_raw_fp_RX3_37 rfl rfl dX3_init_46 (fun V18 e17 => ?_)
  refine GO.aload_n dX3_init_49 rfl rfl ?_
  refine GO.iload_n dX3_init_50 rfl rfl ?_
  refine GO.putRF rfl rfl (by decide +kernel) h_x fp_raw_fp_RX3_40 rfl rfl dX3_init_51 (fun V20 e19 => ?_)
  refine GO.aload_n dX3_init_54 rfl rfl ?_
  refine GO.iload_n dX3_init_55 rfl rfl ?_
  refine GO.putRW rfl (by decide +kernel) h_x fp_raw_fp_RX3_43 rfl rfl dX3_init_56 (fun V22 e21 => ?_)
  refine GO.aload_n dX3_init_59 rfl rfl ?_
  refine GO.iload dX3_init_60 rfl ?_
  refine GO.putRF rfl rfl (by decide +kernel) h_x fp_raw_fp_RX3_46 rfl rfl dX3_init_62 (fun V24 e23 => ?_)
  refine GO.aload_n dX3_init_65 rfl rfl ?_
  refine GO.iload dX3_init_66 rfl ?_
  refine GO.putRW rfl (by decide +kernel) h_x fp_raw_fp_RX3_49 rfl rfl dX3_init_68 (fun V26 e25 => ?_)
  refine GO.aload_n dX3_init_71 rfl rfl ?_
  refine GO.iload_n dX3_init_72 rfl rfl ?_
  refine GO.iconst dX3_init_73 ?_
  refine GO.icmp_ne (tgt := 83) dX3_init_74 (by decide) r_p0 (ir_c rfl) (fun c49 => ?_) (fun c49 => ?_)
  ·
    refine GO.iload_n dX3_init_83 rfl rfl ?_
    refine GO.iconst dX3_init_84 ?_
    refine GO.icmp_ne (tgt := 95) dX3_init_85 (by decide) r_p0 (ir_c rfl) (fun c50 => ?_) (fun c50 => ?_)
    ·
      refine GO.null dX3_init_95 ?_
      refine GO.putRF rfl rfl (by decide +kernel) h_x fp_raw_fp_RX3_52 rfl rfl dX3_init_96 (fun V52 e51 => ?_)
      refine GO.aload_n dX3_init_99 rfl rfl ?_
      refine GO.iload_n dX3_init_100 rfl rfl ?_
      refine GO.iconst dX3_init_101 ?_
      have q56 : -2147483648 ≤ p0 ∧ p0 ≤ 2147483647 := r_p0
      refine GO.icmp_ne (tgt := 112) dX3_init_102 (by decide) r_p0 (ir_c rfl) (fun c55 => ?_) (fun h => by exfalso; omega)
      refine GO.null dX3_init_112 ?_
      refine GO.putRF rfl rfl (by decide +kernel) h_x fp_raw_fp_RX3_56 rfl rfl dX3_init_113 (fun V58 e57 => ?_)
      refine GO.aload_n dX3_init_116 rfl rfl ?_
      refine GO.iload_n dX3_init_117 rfl rfl ?_
      refine GO.iconst dX3_init_118 ?_
      refine GO.icmp_ne (tgt := 135) dX3_init_119 (by decide) r_p0 (ir_c rfl) (fun c59 => ?_) (fun c59 => ?_)
      ·
        refine GO.null dX3_init_135 ?_
        refine GO.putRF rfl rfl (by decide +kernel) h_x fp_raw_fp_RX3_64 rfl rfl dX3_init_136 (fun V61 e60 => ?_)
        refine GO.iload_n dX3_init_139 rfl rfl ?_
        refine GO.iconst dX3_init_140 ?_
        refine GO.icmp_ne (tgt := 152) dX3_init_141 (by decide) r_p0 (ir_c rfl) (fun c62 => ?_) (fun h => by exfalso; omega)
        refine GO.promote (ci := 3) rfl h_x (fun j hj => ?_) (fun K63 e64 hE65 h66 => ?_)
        ·
          have hj : j < 16 := hj
          match j, hj with
          | 0, _ => exact okv_any (Eq.trans (uq_ne e60 (Or.inr (by decide))) (Eq.trans (uq_ne e57 (Or.inr (by decide))) (Eq.trans (uq_ne e51 (Or.inr (by decide))) (Eq.trans (uq_ne e25 (Or.inr (by decide))) (Eq.trans (uq_ne e23 (Or.inr (by decide))) (Eq.trans (uq_ne e21 (Or.inr (by decide))) (Eq.trans (uq_ne e19 (Or.inr (by decide))) (uq_at e17))))))))
          | 1, _ => exact okv_any (Eq.trans (uq_ne e60 (Or.inr (by decide))) (Eq.trans (uq_ne e57 (Or.inr (by decide))) (Eq.trans (uq_ne e51 (Or.inr (by decide))) (Eq.trans (uq_ne e25 (Or.inr (by decide))) (Eq.trans (uq_ne e23 (Or.inr (by decide))) (Eq.trans (uq_ne e21 (Or.inr (by decide))) (uq_at e19)))))))
          | 2, _ => exact okv_any (Eq.trans (uq_ne e60 (Or.inr (by decide))) (Eq.trans (uq_ne e57 (Or.inr (by decide))) (Eq.trans (uq_ne e51 (Or.inr (by decide))) (Eq.trans (uq_ne e25 (Or.inr (by decide))) (Eq.trans (uq_ne e23 (Or.inr (by decide))) (uq_at e21))))))
          | 3, _ => exact okv_any (Eq.trans (uq_ne e60 (Or.inr (by decide))) (Eq.trans (uq_ne e57 (Or.inr (by decide))) (Eq.trans (uq_ne e51 (Or.inr (by decide))) (Eq.trans (uq_ne e25 (Or.inr (by decide))) (uq_at e23)))))
          | 4, _ => exact okv_any (Eq.trans (uq_ne e60 (Or.inr (by decide))) (Eq.trans (uq_ne e57 (Or.inr (by decide))) (Eq.trans (uq_ne e51 (Or.inr (by decide))) (uq_at e25))))
          | 5, _ => exact okv_at (Eq.trans (uq_ne e60 (Or.inr (by decide))) (Eq.trans (uq_ne e57 (Or.inr (by decide))) (Eq.trans (uq_ne e51 (Or.inr (by decide))) (Eq.trans (uq_ne e25 (Or.inr (by decide))) (Eq.trans (uq_ne e23 (Or.inr (by decide))) (Eq.trans (uq_ne e21 (Or.inr (by decide))) (Eq.trans (uq_ne e19 (Or.inr (by decide))) (Eq.trans (uq_ne e17 (Or.inr (by decide))) (Eq.trans (uq_ne e15 (Or.inr (by decide))) (Eq.trans (uq_ne e13 (Or.inr (by decide))) (Eq.trans (uq_ne e11 (Or.inr (by decide))) (Eq.trans (uq_ne e9 (Or.inr (by decide))) (Eq.trans (uq_ne e7 (Or.inr (by decide))) (Eq.trans (uq_ne e5 (Or.inr (by decide))) (Eq.trans (uq_ne e3 (Or.inr (by decide))) (uq_at e1)))))))))))))))) (ir_c rfl) (by omega) (by omega)
          | 6, _ => exact okv_any (Eq.trans (uq_ne e60 (Or.inr (by decide))) (Eq.trans (uq_ne e57 (Or.inr (by decide))) (Eq.trans (uq_ne e51 (Or.inr (by decide))) (Eq.trans (uq_ne e25 (Or.inr (by decide))) (Eq.trans (uq_ne e23 (Or.inr (by decide))) (Eq.trans (uq_ne e21 (Or.inr (by decide))) (Eq.trans (uq_ne e19 (Or.inr (by decide))) (Eq.trans (uq_ne e17 (Or.inr (by decide))) (Eq.trans (uq_ne e15 (Or.inr (by decide))) (Eq.trans (uq_ne e13 (Or.inr (by decide))) (Eq.trans (uq_ne e11 (Or.inr (by decide))) (Eq.trans (uq_ne e9 (Or.inr (by decide))) (Eq.trans (uq_ne e7 (Or.inr (by decide))) (Eq.trans (uq_ne e5 (Or.inr (by decide))) (uq_at e3)))))))))))))))
          | 7, _ => exact okv_any (Eq.trans (uq_ne e60 (Or.inr (by decide))) (Eq.trans (uq_ne e57 (Or.inr (by decide))) (Eq.trans (uq_ne e51 (Or.inr (by decide))) (Eq.trans (uq_ne e25 (Or.inr (by decide))) (Eq.trans (uq_ne e23 (Or.inr (by decide))) (Eq.trans (uq_ne e21 (Or.inr (by decide))) (Eq.trans (uq_ne e19 (Or.inr (by decide))) (Eq.trans (uq_ne e17 (Or.inr (by decide))) (Eq.trans (uq_ne e15 (Or.inr (by decide))) (Eq.trans (uq_ne e13 (Or.inr (by decide))) (Eq.trans (uq_ne e11 (Or.inr (by decide))) (Eq.trans (uq_ne e9 (Or.inr (by decide))) (Eq.trans (uq_ne e7 (Or.inr (by decide))) (uq_at e5))))))))))))))
          | 8, _ => exact okv_any (Eq.trans (uq_ne e60 (Or.inr (by decide))) (Eq.trans (uq_ne e57 (Or.inr (by decide))) (Eq.trans (uq_ne e51 (Or.inr (by decide))) (Eq.trans (uq_ne e25 (Or.inr (by decide))) (Eq.trans (uq_ne e23 (Or.inr (by decide))) (Eq.trans (uq_ne e21 (Or.inr (by decide))) (Eq.trans (uq_ne e19 (Or.inr (by decide))) (Eq.trans (uq_ne e17 (Or.inr (by decide))) (Eq.trans (uq_ne e15 (Or.inr (by decide))) (Eq.trans (uq_ne e13 (Or.inr (by decide))) (Eq.trans (uq_ne e11 (Or.inr (by decide))) (Eq.trans (uq_ne e9 (Or.inr (by decide))) (uq_at e7)))))))))))))
          | 9, _ => exact okv_any (Eq.trans (uq_ne e60 (Or.inr (by decide))) (Eq.trans (uq_ne e57 (Or.inr (by decide))) (Eq.trans (uq_ne e51 (Or.inr (by decide))) (Eq.trans (uq_ne e25 (Or.inr (by decide))) (Eq.trans (uq_ne e23 (Or.inr (by decide))) (Eq.trans (uq_ne e21 (Or.inr (by decide))) (Eq.trans (uq_ne e19 (Or.inr (by decide))) (Eq.trans (uq_ne e17 (Or.inr (by decide))) (Eq.trans (uq_ne e15 (Or.inr (by decide))) (Eq.trans (uq_ne e13 (Or.inr (by decide))) (Eq.trans (uq_ne e11 (Or.inr (by decide))) (uq_at e9))))))))))))
          | 10, _ => exact okv_any (Eq.trans (uq_ne e60 (Or.inr (by decide))) (Eq.trans (uq_ne e57 (Or.inr (by decide))) (Eq.trans (uq_ne e51 (Or.inr (by decide))) (Eq.trans (uq_ne e25 (Or.inr (by decide))) (Eq.trans (uq_ne e23 (Or.inr (by decide))) (Eq.trans (uq_ne e21 (Or.inr (by decide))) (Eq.trans (uq_ne e19 (Or.inr (by decide))) (Eq.trans (uq_ne e17 (Or.inr (by decide))) (Eq.trans (uq_ne e15 (Or.inr (by decide))) (Eq.trans (uq_ne e13 (Or.inr (by decide))) (uq_at e11)))))))))))
          | 11, _ => exact okv_any (Eq.trans (uq_ne e60 (Or.inr (by decide))) (Eq.trans (uq_ne e57 (Or.inr (by decide))) (Eq.trans (uq_ne e51 (Or.inr (by decide))) (Eq.trans (uq_ne e25 (Or.inr (by decide))) (Eq.trans (uq_ne e23 (Or.inr (by decide))) (Eq.trans (uq_ne e21 (Or.inr (by decide))) (Eq.trans (uq_ne e19 (Or.inr (by decide))) (Eq.trans (uq_ne e17 (Or.inr (by decide))) (Eq.trans (uq_ne e15 (Or.inr (by decide))) (uq_at e13))))))))))
          | 12, _ => exact okv_any (Eq.trans (uq_ne e60 (Or.inr (by decide))) (Eq.trans (uq_ne e57 (Or.inr (by decide))) (Eq.trans (uq_ne e51 (Or.inr (by decide))) (Eq.trans (uq_ne e25 (Or.inr (by decide))) (Eq.trans (uq_ne e23 (Or.inr (by decide))) (Eq.trans (uq_ne e21 (Or.inr (by decide))) (Eq.trans (uq_ne e19 (Or.inr (by decide))) (Eq.trans (uq_ne e17 (Or.inr (by decide))) (uq_at e15)))))))))
          | 13, _ => exact Or.inl (Eq.trans (uq_ne e60 (Or.inr (by decide))) (Eq.trans (uq_ne e57 (Or.inr (by decide))) (uq_at e51)))
          | 14, _ => exact Or.inl (Eq.trans (uq_ne e60 (Or.inr (by decide))) (uq_at e57))
          | 15, _ => exact Or.inl (uq_at e60)
          | j + 16, hj => exact absurd hj (by omega)
        exact GO.retv rfl rfl dX3_init_152 ⟨rfl, h66, KE.promote KE.rf e64⟩
      ·
        refine GO.new (ci := 19) (RX8, TX8, 4) tyX8 rfl rfl lays_7 tyX8_ok gw_430 gw_99 gw_5 rfl rfl dX3_init_122 (fun o67 K68 V74 hq69 hK70 hE71 h72 _ hV73 => ?_)
        have h75 := (by rw [hK70, updK_ne (K_old h_x hq69)]; exact h_x : K68 x = some (0, 15))
        have h76 := KE.nw KE.rf h_x hq69
        refine GO.dup dX3_init_125 rfl ?_
        refine GO.iconst dX3_init_126 ?_
        refine GO.bipush dX3_init_127 rfl ?_
        refine GO.callI (N := mX8_init_k34) dX3_init_129 gI_RX3_61 rfl (t_X8_init_k34 h72 (ir_c rfl) (ir_c rfl) (by omega) (by omega)) rfl [.ref o67, .ref x] rfl rfl (Nat.le_of_ble_eq_true rfl) rfl (k_vx fun K79 V81 h80 hE78 hF77 => ?_)
        have h82 := h80.2 _ _ (K_ne h75 h72 (by decide)) h75
        have h83 := h80.1.1
        have q84 : vi V81 o67 3 = 0 := h80.1.2
        refine GO.goto (tgt := 136) dX3_init_132 (by decide) ?_
        refine GO.putRF rfl rfl (by decide +kernel) h82 fp_raw_fp_RX3_64 rfl rfl dX3_init_136 (fun V86 e85 => ?_)
        refine GO.iload_n dX3_init_139 rfl rfl ?_
        refine GO.iconst dX3_init_140 ?_
        refine GO.icmp_ne (tgt := 152) dX3_init_141 (by decide) r_p0 (ir_c rfl) (fun c87 => ?_) (fun h => by exfalso; omega)
        refine GO.promote (ci := 3) rfl h82 (fun j hj => ?_) (fun K88 e89 hE90 h91 => ?_)
        ·
          have hj : j < 16 := hj
          match j, hj with
          | 0, _ => exact okv_any (Eq.trans (uq_ne e85 (Or.inr (by decide))) (Eq.trans (hF77 _ _ _ h75 h82 (by decide +kernel)) (Eq.trans (congrFun (hV73 _ (K_old h_x hq69)) _) (Eq.trans (uq_ne e57 (Or.inr (by decide))) (Eq.trans (uq_ne e51 (Or.inr (by decide))) (Eq.trans (uq_ne e25 (Or.inr (by decide))) (Eq.trans (uq_ne e23 (Or.inr (by decide))) (Eq.trans (uq_ne e21 (Or.inr (by decide))) (Eq.trans (uq_ne e19 (Or.inr (by decide))) (uq_at e17))))))))))
          | 1, _ => exact okv_any (Eq.trans (uq_ne e85 (Or.inr (by decide))) (Eq.trans (hF77 _ _ _ h75 h82 (by decide +kernel)) (Eq.trans (congrFun (hV73 _ (K_old h_x hq69)) _) (Eq.trans (uq_ne e57 (Or.inr (by decide))) (Eq.trans (uq_ne e51 (Or.inr (by decide))) (Eq.trans (uq_ne e25 (Or.inr (by decide))) (Eq.trans (uq_ne e23 (Or.inr (by decide))) (Eq.trans (uq_ne e21 (Or.inr (by decide))) (uq_at e19)))))))))
          | 2, _ => exact okv_any (Eq.trans (uq_ne e85 (Or.inr (by decide))) (Eq.trans (hF77 _ _ _ h75 h82 (by decide +kernel)) (Eq.trans (congrFun (hV73 _ (K_old h_x hq69)) _) (Eq.trans (uq_ne e57 (Or.inr (by decide))) (Eq.trans (uq_ne e51 (Or.inr (by decide))) (Eq.trans (uq_ne e25 (Or.inr (by decide))) (Eq.trans (uq_ne e23 (Or.inr (by decide))) (uq_at e21))))))))
          | 3, _ => exact okv_any (Eq.trans (uq_ne e85 (Or.inr (by decide))) (Eq.trans (hF77 _ _ _ h75 h82 (by decide +kernel)) (Eq.trans (congrFun (hV73 _ (K_old h_x hq69)) _) (Eq.trans (uq_ne e57 (Or.inr (by decide))) (Eq.trans (uq_ne e51 (Or.inr (by decide))) (Eq.trans (uq_ne e25 (Or.inr (by decide))) (uq_at e23)))))))
          | 4, _ => exact okv_any (Eq.trans (uq_ne e85 (Or.inr (by decide))) (Eq.trans (hF77 _ _ _ h75 h82 (by decide +kernel)) (Eq.trans (congrFun (hV73 _ (K_old h_x hq69)) _) (Eq.trans (uq_ne e57 (Or.inr (by decide))) (Eq.trans (uq_ne e51 (Or.inr (by decide))) (uq_at e25))))))
          | 5, _ => exact okv_at (Eq.trans (uq_ne e85 (Or.inr (by decide))) (Eq.trans (hF77 _ _ _ h75 h82 (by decide +kernel)) (Eq.trans (congrFun (hV73 _ (K_old h_x hq69)) _) (Eq.trans (uq_ne e57 (Or.inr (by decide))) (Eq.trans (uq_ne e51 (Or.inr (by decide))) (Eq.trans (uq_ne e25 (Or.inr (by decide))) (Eq.trans (uq_ne e23 (Or.inr (by decide))) (Eq.trans (uq_ne e21 (Or.inr (by decide))) (Eq.trans (uq_ne e19 (Or.inr (by decide))) (Eq.trans (uq_ne e17 (Or.inr (by decide))) (Eq.trans (uq_ne e15 (Or.inr (by decide))) (Eq.trans (uq_ne e13 (Or.inr (by decide))) (Eq.trans (uq_ne e11 (Or.inr (by decide))) (Eq.trans (uq_ne e9 (Or.inr (by decide))) (Eq.trans (uq_ne e7 (Or.inr (by decide))) (Eq.trans (uq_ne e5 (Or.inr (by decide))) (Eq.trans (uq_ne e3 (Or.inr (by decide))) (uq_at e1)))))))))))))))))) (ir_c rfl) (by omega) (by omega)
          | 6, _ => exact okv_any (Eq.trans (uq_ne e85 (Or.inr (by decide))) (Eq.trans (hF77 _ _ _ h75 h82 (by decide +kernel)) (Eq.trans (congrFun (hV73 _ (K_old h_x hq69)) _) (Eq.trans (uq_ne e57 (Or.inr (by decide))) (Eq.trans (uq_ne e51 (Or.inr (by decide))) (Eq.trans (uq_ne e25 (Or.inr (by decide))) (Eq.trans (uq_ne e23 (Or.inr (by decide))) (Eq.trans (uq_ne e21 (Or.inr (by decide))) (Eq.trans (uq_ne e19 (Or.inr (by decide))) (Eq.trans (uq_ne e17 (Or.inr (by decide))) (Eq.trans (uq_ne e15 (Or.inr (by decide))) (Eq.trans (uq_ne e13 (Or.inr (by decide))) (Eq.trans (uq_ne e11 (Or.inr (by decide))) (Eq.trans (uq_ne e9 (Or.inr (by decide))) (Eq.trans (uq_ne e7 (Or.inr (by decide))) (Eq.trans (uq_ne e5 (Or.inr (by decide))) (uq_at e3)))))))))))))))))
          | 7, _ => exact okv_any (Eq.trans (uq_ne e85 (Or.inr (by decide))) (Eq.trans (hF77 _ _ _ h75 h82 (by decide +kernel)) (Eq.trans (congrFun (hV73 _ (K_old h_x hq69)) _) (Eq.trans (uq_ne e57 (Or.inr (by decide))) (Eq.trans (uq_ne e51 (Or.inr (by decide))) (Eq.trans (uq_ne e25 (Or.inr (by decide))) (Eq.trans (uq_ne e23 (Or.inr (by decide))) (Eq.trans (uq_ne e21 (Or.inr (by decide))) (Eq.trans (uq_ne e19 (Or.inr (by decide))) (Eq.trans (uq_ne e17 (Or.inr (by decide))) (Eq.trans (uq_ne e15 (Or.inr (by decide))) (Eq.trans (uq_ne e13 (Or.inr (by decide))) (Eq.trans (uq_ne e11 (Or.inr (by decide))) (Eq.trans (uq_ne e9 (Or.inr (by decide))) (Eq.trans (uq_ne e7 (Or.inr (by decide))) (uq_at e5))))))))))))))))
          | 8, _ => exact okv_any (Eq.trans (uq_ne e85 (Or.inr (by decide))) (Eq.trans (hF77 _ _ _ h75 h82 (by decide +kernel)) (Eq.trans (congrFun (hV73 _ (K_old h_x hq69)) _) (Eq.trans (uq_ne e57 (Or.inr (by decide))) (Eq.trans (uq_ne e51 (Or.inr (by decide))) (Eq.trans (uq_ne e25 (Or.inr (by decide))) (Eq.trans (uq_ne e23 (Or.inr (by decide))) (Eq.trans (uq_ne e21 (Or.inr (by decide))) (Eq.trans (uq_ne e19 (Or.inr (by decide))) (Eq.trans (uq_ne e17 (Or.inr (by decide))) (Eq.trans (uq_ne e15 (Or.inr (by decide))) (Eq.trans (uq_ne e13 (Or.inr (by decide))) (Eq.trans (uq_ne e11 (Or.inr (by decide))) (Eq.trans (uq_ne e9 (Or.inr (by decide))) (uq_at e7)))))))))))))))
          | 9, _ => exact okv_any (Eq.trans (uq_ne e85 (Or.inr (by decide))) (Eq.trans (hF77 _ _ _ h75 h82 (by decide +kernel)) (Eq.trans (congrFun (hV73 _ (K_old h_x hq69)) _) (Eq.trans (uq_ne e57 (Or.inr (by decide))) (Eq.trans (uq_ne e51 (Or.inr (by decide))) (Eq.trans (uq_ne e25 (Or.inr (by decide))) (Eq.trans (uq_ne e23 (Or.inr (by decide))) (Eq.trans (uq_ne e21 (Or.inr (by decide))) (Eq.trans (uq_ne e19 (Or.inr (by decide))) (Eq.trans (uq_ne e17 (Or.inr (by decide))) (Eq.trans (uq_ne e15 (Or.inr (by decide))) (Eq.trans (uq_ne e13 (Or.inr (by decide))) (Eq.trans (uq_ne e11 (Or.inr (by decide))) (uq_at e9))))))))))))))
          | 10, _ => exact okv_any (Eq.trans (uq_ne e85 (Or.inr (by decide))) (Eq.trans (hF77 _ _ _ h75 h82 (by decide +kernel)) (Eq.trans (congrFun (hV73 _ (K_old h_x hq69)) _) (Eq.trans (uq_ne e57 (Or.inr (by decide))) (Eq.trans (uq_ne e51 (Or.inr (by decide))) (Eq.trans (uq_ne e25 (Or.inr (by decide))) (Eq.trans (uq_ne e23 (Or.inr (by decide))) (Eq.trans (uq_ne e21 (Or.inr (by decide))) (Eq.trans (uq_ne e19 (Or.inr (by decide))) (Eq.trans (uq_ne e17 (Or.inr (by decide))) (Eq.trans (uq_ne e15 (Or.inr (by decide))) (Eq.trans (uq_ne e13 (Or.inr (by decide))) (uq_at e11)))))))))))))
          | 11, _ => exact okv_any (Eq.trans (uq_ne e85 (Or.inr (by decide))) (Eq.trans (hF77 _ _ _ h75 h82 (by decide +kernel)) (Eq.trans (congrFun (hV73 _ (K_old h_x hq69)) _) (Eq.trans (uq_ne e57 (Or.inr (by decide))) (Eq.trans (uq_ne e51 (Or.inr (by decide))) (Eq.trans (uq_ne e25 (Or.inr (by decide))) (Eq.trans (uq_ne e23 (Or.inr (by decide))) (Eq.trans (uq_ne e21 (Or.inr (by decide))) (Eq.trans (uq_ne e19 (Or.inr (by decide))) (Eq.trans (uq_ne e17 (Or.inr (by decide))) (Eq.trans (uq_ne e15 (Or.inr (by decide))) (uq_at e13))))))))))))
          | 12, _ => exact okv_any (Eq.trans (uq_ne e85 (Or.inr (by decide))) (Eq.trans (hF77 _ _ _ h75 h82 (by decide +kernel)) (Eq.trans (congrFun (hV73 _ (K_old h_x hq69)) _) (Eq.trans (uq_ne e57 (Or.inr (by decide))) (Eq.trans (uq_ne e51 (Or.inr (by decide))) (Eq.trans (uq_ne e25 (Or.inr (by decide))) (Eq.trans (uq_ne e23 (Or.inr (by decide))) (Eq.trans (uq_ne e21 (Or.inr (by decide))) (Eq.trans (uq_ne e19 (Or.inr (by decide))) (Eq.trans (uq_ne e17 (Or.inr (by decide))) (uq_at e15)))))))))))
          | 13, _ => exact Or.inl (Eq.trans (uq_ne e85 (Or.inr (by decide))) (Eq.trans (hF77 _ _ _ h75 h82 (by decide +kernel)) (Eq.trans (congrFun (hV73 _ (K_old h_x hq69)) _) (Eq.trans (uq_ne e57 (Or.inr (by decide))) (uq_at e51)))))
          | 14, _ => exact Or.inl (Eq.trans (uq_ne e85 (Or.inr (by decide))) (Eq.trans (hF77 _ _ _ h75 h82 (by decide +kernel)) (Eq.trans (congrFun (hV73 _ (K_old h_x hq69)) _) (uq_at e57))))
          | 15, _ => exact Or.inr ⟨_, (uq_at e85), h83⟩
          | j + 16, hj => exact absurd hj (by omega)
        exact GO.retv rfl rfl dX3_init_152 ⟨rfl, h91, KE.promote (KE.call (KE.new KE.rf hq69 hK70) h80.2 h76) e89⟩
    ·
      refine GO.bipush dX3_init_88 rfl ?_
      refine GO.newI gw_89 (ir_c rfl) (by omega) 10 (by omega) rfl rfl rfl dX3_init_90 (fun o92 K93 V99 hq94 hK95 hE96 h97 _ hV98 => ?_)
      have h100 := (by rw [hK95, updK_ne (K_old h_x hq94)]; exact h_x : K93 x = some (0, 15))
      have h101 := KE.nw KE.rf h_x hq94
      refine GO.goto (tgt := 96) dX3_init_92 (by decide) ?_
      refine GO.putRF rfl rfl (by decide +kernel) h100 fp_raw_fp_RX3_52 rfl rfl dX3_init_96 (fun V103 e102 => ?_)
      refine GO.aload_n dX3_init_99 rfl rfl ?_
      refine GO.iload_n dX3_init_100 rfl rfl ?_
      refine GO.iconst dX3_init_101 ?_
      have q118 : -2147483648 ≤ p0 ∧ p0 ≤ 2147483647 := r_p0
      refine GO.icmp_ne (tgt := 112) dX3_init_102 (by decide) r_p0 (ir_c rfl) (fun h => by exfalso; omega) (fun c117 => ?_)
      refine GO.bipush dX3_init_105 rfl ?_
      refine GO.newI gw_89 (ir_c rfl) (by omega) 10 (by omega) rfl rfl rfl dX3_init_107 (fun o119 K120 V126 hq121 hK122 hE123 h124 _ hV125 => ?_)
      have h127 := (by rw [hK122, updK_ne (K_old h100 hq121)]; exact h100 : K120 x = some (0, 15))
      have h128 := hE123.arr h97
      have h129 := KE.nw (KE.new KE.rf hq94 hK95) h100 hq121
      refine GO.goto (tgt := 113) dX3_init_109 (by decide) ?_
      refine GO.putRF rfl rfl (by decide +kernel) h127 fp_raw_fp_RX3_56 rfl rfl dX3_init_113 (fun V131 e130 => ?_)
      refine GO.aload_n dX3_init_116 rfl rfl ?_
      refine GO.iload_n dX3_init_117 rfl rfl ?_
      refine GO.iconst dX3_init_118 ?_
      refine GO.icmp_ne (tgt := 135) dX3_init_119 (by decide) r_p0 (ir_c rfl) (fun c132 => ?_) (fun h => by exfalso; omega)
      refine GO.null dX3_init_135 ?_
      refine GO.putRF rfl rfl (by decide +kernel) h127 fp_raw_fp_RX3_64 rfl rfl dX3_init_136 (fun V134 e133 => ?_)
      refine GO.iload_n dX3_init_139 rfl rfl ?_
      refine GO.iconst dX3_init_140 ?_
      refine GO.icmp_ne (tgt := 152) dX3_init_141 (by decide) r_p0 (ir_c rfl) (fun h => by exfalso; omega) (fun c135 => ?_)
      refine GO.aload_n dX3_init_144 rfl rfl ?_
      refine GO.getRaw h127 fl_raw_fl_RX3_52 (Eq.trans (uq_ne e133 (Or.inr (by decide))) (Eq.trans (uq_ne e130 (Or.inr (by decide))) (Eq.trans (congrFun (hV125 _ (K_old h100 hq121)) _) (uq_at e102)))) dX3_init_145 ?_
      refine GO.iconst dX3_init_148 ?_
      refine GO.callS (N := mX4_fill) dX3_init_149 gS_RX3_68 (t_X4_fill h128 (ir_c rfl)) rfl [] rfl rfl (Nat.le_of_ble_eq_true rfl) rfl (k_vs fun V138 h137 hF136 => ?_)
      have raw_fill := h137.2
      have rw149 := h137.2
      refine GO.promote (ci := 3) rfl h127 (fun j hj => ?_) (fun K139 e140 hE141 h142 => ?_)
      ·
        have hj : j < 16 := hj
        match j, hj with
        | 0, _ => exact okv_any (Eq.trans (hF136 _ _ _ h127 h127 (by decide +kernel)) (Eq.trans (uq_ne e133 (Or.inr (by decide))) (Eq.trans (uq_ne e130 (Or.inr (by decide))) (Eq.trans (congrFun (hV125 _ (K_old h100 hq121)) _) (Eq.trans (uq_ne e102 (Or.inr (by decide))) (Eq.trans (congrFun (hV98 _ (K_old h_x hq94)) _) (Eq.trans (uq_ne e25 (Or.inr (by decide))) (Eq.trans (uq_ne e23 (Or.inr (by decide))) (Eq.trans (uq_ne e21 (Or.inr (by decide))) (Eq.trans (uq_ne e19 (Or.inr (by decide))) (uq_at e17)))))))))))
        | 1, _ => exact okv_any (Eq.trans (hF136 _ _ _ h127 h127 (by decide +kernel)) (Eq.trans (uq_ne e133 (Or.inr (by decide))) (Eq.trans (uq_ne e130 (Or.inr (by decide))) (Eq.trans (congrFun (hV125 _ (K_old h100 hq121)) _) (Eq.trans (uq_ne e102 (Or.inr (by decide))) (Eq.trans (congrFun (hV98 _ (K_old h_x hq94)) _) (Eq.trans (uq_ne e25 (Or.inr (by decide))) (Eq.trans (uq_ne e23 (Or.inr (by decide))) (Eq.trans (uq_ne e21 (Or.inr (by decide))) (uq_at e19))))))))))
        | 2, _ => exact okv_any (Eq.trans (hF136 _ _ _ h127 h127 (by decide +kernel)) (Eq.trans (uq_ne e133 (Or.inr (by decide))) (Eq.trans (uq_ne e130 (Or.inr (by decide))) (Eq.trans (congrFun (hV125 _ (K_old h100 hq121)) _) (Eq.trans (uq_ne e102 (Or.inr (by decide))) (Eq.trans (congrFun (hV98 _ (K_old h_x hq94)) _) (Eq.trans (uq_ne e25 (Or.inr (by decide))) (Eq.trans (uq_ne e23 (Or.inr (by decide))) (uq_at e21)))))))))
        | 3, _ => exact okv_any (Eq.trans (hF136 _ _ _ h127 h127 (by decide +kernel)) (Eq.trans (uq_ne e133 (Or.inr (by decide))) (Eq.trans (uq_ne e130 (Or.inr (by decide))) (Eq.trans (congrFun (hV125 _ (K_old h100 hq121)) _) (Eq.trans (uq_ne e102 (Or.inr (by decide))) (Eq.trans (congrFun (hV98 _ (K_old h_x hq94)) _) (Eq.trans (uq_ne e25 (Or.inr (by decide))) (uq_at e23))))))))
        | 4, _ => exact okv_any (Eq.trans (hF136 _ _ _ h127 h127 (by decide +kernel)) (Eq.trans (uq_ne e133 (Or.inr (by decide))) (Eq.trans (uq_ne e130 (Or.inr (by decide))) (Eq.trans (congrFun (hV125 _ (K_old h100 hq121)) _) (Eq.trans (uq_ne e102 (Or.inr (by decide))) (Eq.trans (congrFun (hV98 _ (K_old h_x hq94)) _) (uq_at e25)))))))
        | 5, _ => exact okv_at (Eq.trans (hF136 _ _ _ h127 h127 (by decide +kernel)) (Eq.trans (uq_ne e133 (Or.inr (by decide))) (Eq.trans (uq_ne e130 (Or.inr (by decide))) (Eq.trans (congrFun (hV125 _ (K_old h100 hq121)) _) (Eq.trans (uq_ne e102 (Or.inr (by decide))) (Eq.trans (congrFun (hV98 _ (K_old h_x hq94)) _) (Eq.trans (uq_ne e25 (Or.inr (by decide))) (Eq.trans (uq_ne e23 (Or.inr (by decide))) (Eq.trans (uq_ne e21 (Or.inr (by decide))) (Eq.trans (uq_ne e19 (Or.inr (by decide))) (Eq.trans (uq_ne e17 (Or.inr (by decide))) (Eq.trans (uq_ne e15 (Or.inr (by decide))) (Eq.trans (uq_ne e13 (Or.inr (by decide))) (Eq.trans (uq_ne e11 (Or.inr (by decide))) (Eq.trans (uq_ne e9 (Or.inr (by decide))) (Eq.trans (uq_ne e7 (Or.inr (by decide))) (Eq.trans (uq_ne e5 (Or.inr (by decide))) (Eq.trans (uq_ne e3 (Or.inr (by decide))) (uq_at e1))))))))))))))))))) (ir_c rfl) (by omega) (by omega)
        | 6, _ => exact okv_any (Eq.trans (hF136 _ _ _ h127 h127 (by decide +kernel)) (Eq.trans (uq_ne e133 (Or.inr (by decide))) (Eq.trans (uq_ne e130 (Or.inr (by decide))) (Eq.trans (congrFun (hV125 _ (K_old h100 hq121)) _) (Eq.trans (uq_ne e102 (Or.inr (by decide))) (Eq.trans (congrFun (hV98 _ (K_old h_x hq94)) _) (Eq.trans (uq_ne e25 (Or.inr (by decide))) (Eq.trans (uq_ne e23 (Or.inr (by decide))) (Eq.trans (uq_ne e21 (Or.inr (by decide))) (Eq.trans (uq_ne e19 (Or.inr (by decide))) (Eq.trans (uq_ne e17 (Or.inr (by decide))) (Eq.trans (uq_ne e15 (Or.inr (by decide))) (Eq.trans (uq_ne e13 (Or.inr (by decide))) (Eq.trans (uq_ne e11 (Or.inr (by decide))) (Eq.trans (uq_ne e9 (Or.inr (by decide))) (Eq.trans (uq_ne e7 (Or.inr (by decide))) (Eq.trans (uq_ne e5 (Or.inr (by decide))) (uq_at e3))))))))))))))))))
        | 7, _ => exact okv_any (Eq.trans (hF136 _ _ _ h127 h127 (by decide +kernel)) (Eq.trans (uq_ne e133 (Or.inr (by decide))) (Eq.trans (uq_ne e130 (Or.inr (by decide))) (Eq.trans (congrFun (hV125 _ (K_old h100 hq121)) _) (Eq.trans (uq_ne e102 (Or.inr (by decide))) (Eq.trans (congrFun (hV98 _ (K_old h_x hq94)) _) (Eq.trans (uq_ne e25 (Or.inr (by decide))) (Eq.trans (uq_ne e23 (Or.inr (by decide))) (Eq.trans (uq_ne e21 (Or.inr (by decide))) (Eq.trans (uq_ne e19 (Or.inr (by decide))) (Eq.trans (uq_ne e17 (Or.inr (by decide))) (Eq.trans (uq_ne e15 (Or.inr (by decide))) (Eq.trans (uq_ne e13 (Or.inr (by decide))) (Eq.trans (uq_ne e11 (Or.inr (by decide))) (Eq.trans (uq_ne e9 (Or.inr (by decide))) (Eq.trans (uq_ne e7 (Or.inr (by decide))) (uq_at e5)))))))))))))))))
        | 8, _ => exact okv_any (Eq.trans (hF136 _ _ _ h127 h127 (by decide +kernel)) (Eq.trans (uq_ne e133 (Or.inr (by decide))) (Eq.trans (uq_ne e130 (Or.inr (by decide))) (Eq.trans (congrFun (hV125 _ (K_old h100 hq121)) _) (Eq.trans (uq_ne e102 (Or.inr (by decide))) (Eq.trans (congrFun (hV98 _ (K_old h_x hq94)) _) (Eq.trans (uq_ne e25 (Or.inr (by decide))) (Eq.trans (uq_ne e23 (Or.inr (by decide))) (Eq.trans (uq_ne e21 (Or.inr (by decide))) (Eq.trans (uq_ne e19 (Or.inr (by decide))) (Eq.trans (uq_ne e17 (Or.inr (by decide))) (Eq.trans (uq_ne e15 (Or.inr (by decide))) (Eq.trans (uq_ne e13 (Or.inr (by decide))) (Eq.trans (uq_ne e11 (Or.inr (by decide))) (Eq.trans (uq_ne e9 (Or.inr (by decide))) (uq_at e7))))))))))))))))
        | 9, _ => exact okv_any (Eq.trans (hF136 _ _ _ h127 h127 (by decide +kernel)) (Eq.trans (uq_ne e133 (Or.inr (by decide))) (Eq.trans (uq_ne e130 (Or.inr (by decide))) (Eq.trans (congrFun (hV125 _ (K_old h100 hq121)) _) (Eq.trans (uq_ne e102 (Or.inr (by decide))) (Eq.trans (congrFun (hV98 _ (K_old h_x hq94)) _) (Eq.trans (uq_ne e25 (Or.inr (by decide))) (Eq.trans (uq_ne e23 (Or.inr (by decide))) (Eq.trans (uq_ne e21 (Or.inr (by decide))) (Eq.trans (uq_ne e19 (Or.inr (by decide))) (Eq.trans (uq_ne e17 (Or.inr (by decide))) (Eq.trans (uq_ne e15 (Or.inr (by decide))) (Eq.trans (uq_ne e13 (Or.inr (by decide))) (Eq.trans (uq_ne e11 (Or.inr (by decide))) (uq_at e9)))))))))))))))
        | 10, _ => exact okv_any (Eq.trans (hF136 _ _ _ h127 h127 (by decide +kernel)) (Eq.trans (uq_ne e133 (Or.inr (by decide))) (Eq.trans (uq_ne e130 (Or.inr (by decide))) (Eq.trans (congrFun (hV125 _ (K_old h100 hq121)) _) (Eq.trans (uq_ne e102 (Or.inr (by decide))) (Eq.trans (congrFun (hV98 _ (K_old h_x hq94)) _) (Eq.trans (uq_ne e25 (Or.inr (by decide))) (Eq.trans (uq_ne e23 (Or.inr (by decide))) (Eq.trans (uq_ne e21 (Or.inr (by decide))) (Eq.trans (uq_ne e19 (Or.inr (by decide))) (Eq.trans (uq_ne e17 (Or.inr (by decide))) (Eq.trans (uq_ne e15 (Or.inr (by decide))) (Eq.trans (uq_ne e13 (Or.inr (by decide))) (uq_at e11))))))))))))))
        | 11, _ => exact okv_any (Eq.trans (hF136 _ _ _ h127 h127 (by decide +kernel)) (Eq.trans (uq_ne e133 (Or.inr (by decide))) (Eq.trans (uq_ne e130 (Or.inr (by decide))) (Eq.trans (congrFun (hV125 _ (K_old h100 hq121)) _) (Eq.trans (uq_ne e102 (Or.inr (by decide))) (Eq.trans (congrFun (hV98 _ (K_old h_x hq94)) _) (Eq.trans (uq_ne e25 (Or.inr (by decide))) (Eq.trans (uq_ne e23 (Or.inr (by decide))) (Eq.trans (uq_ne e21 (Or.inr (by decide))) (Eq.trans (uq_ne e19 (Or.inr (by decide))) (Eq.trans (uq_ne e17 (Or.inr (by decide))) (Eq.trans (uq_ne e15 (Or.inr (by decide))) (uq_at e13)))))))))))))
        | 12, _ => exact okv_any (Eq.trans (hF136 _ _ _ h127 h127 (by decide +kernel)) (Eq.trans (uq_ne e133 (Or.inr (by decide))) (Eq.trans (uq_ne e130 (Or.inr (by decide))) (Eq.trans (congrFun (hV125 _ (K_old h100 hq121)) _) (Eq.trans (uq_ne e102 (Or.inr (by decide))) (Eq.trans (congrFun (hV98 _ (K_old h_x hq94)) _) (Eq.trans (uq_ne e25 (Or.inr (by decide))) (Eq.trans (uq_ne e23 (Or.inr (by decide))) (Eq.trans (uq_ne e21 (Or.inr (by decide))) (Eq.trans (uq_ne e19 (Or.inr (by decide))) (Eq.trans (uq_ne e17 (Or.inr (by decide))) (uq_at e15))))))))))))
        | 13, _ => exact Or.inr ⟨_, (Eq.trans (hF136 _ _ _ h127 h127 (by decide +kernel)) (Eq.trans (uq_ne e133 (Or.inr (by decide))) (Eq.trans (uq_ne e130 (Or.inr (by decide))) (Eq.trans (congrFun (hV125 _ (K_old h100 hq121)) _) (uq_at e102))))), ⟨_, h128⟩⟩
        | 14, _ => exact Or.inr ⟨_, (Eq.trans (hF136 _ _ _ h127 h127 (by decide +kernel)) (Eq.trans (uq_ne e133 (Or.inr (by decide))) (uq_at e130))), ⟨_, h124⟩⟩
        | 15, _ => exact Or.inl (Eq.trans (hF136 _ _ _ h127 h127 (by decide +kernel)) (uq_at e133))
        | j + 16, hj => exact absurd hj (by omega)
      exact GO.retv rfl rfl dX3_init_152 ⟨rfl, h142, KE.promote (KE.new (KE.new KE.rf hq94 hK95) hq121 hK122) e140⟩
  ·
    refine GO.iconst dX3_init_77 ?_
    refine GO.newI gw_89 (ir_c rfl) (by omega) 4 (by omega) rfl rfl rfl dX3_init_78 (fun o143 K144 V150 hq145 hK146 hE147 h148 _ hV149 => ?_)
    have h151 := (by rw [hK146, updK_ne (K_old h_x hq145)]; exact h_x : K144 x = some (0, 15))
    have h152 := KE.nw KE.rf h_x hq145
    refine GO.goto (tgt := 96) dX3_init_80 (by decide) ?_
    refine GO.putRF rfl rfl (by decide +kernel) h151 fp_raw_fp_RX3_52 rfl rfl dX3_init_96 (fun V154 e153 => ?_)
    refine GO.aload_n dX3_init_99 rfl rfl ?_
    refine GO.iload_n dX3_init_100 rfl rfl ?_
    refine GO.iconst dX3_init_101 ?_
    have q158 : -2147483648 ≤ p0 ∧ p0 ≤ 2147483647 := r_p0
    refine GO.icmp_ne (tgt := 112) dX3_init_102 (by decide) r_p0 (ir_c rfl) (fun c157 => ?_) (fun h => by exfalso; omega)
    refine GO.null dX3_init_112 ?_
    refine GO.putRF rfl rfl (by decide +kernel) h151 fp_raw_fp_RX3_56 rfl rfl dX3_init_113 (fun V160 e159 => ?_)
    refine GO.aload_n dX3_init_116 rfl rfl ?_
    refine GO.iload_n dX3_init_117 rfl rfl ?_
    refine GO.iconst dX3_init_118 ?_
    refine GO.icmp_ne (tgt := 135) dX3_init_119 (by decide) r_p0 (ir_c rfl) (fun c161 => ?_) (fun h => by exfalso; omega)
    refine GO.null dX3_init_135 ?_
    refine GO.putRF rfl rfl (by decide +kernel) h151 fp_raw_fp_RX3_64 rfl rfl dX3_init_136 (fun V163 e162 => ?_)
    refine GO.iload_n dX3_init_139 rfl rfl ?_
    refine GO.iconst dX3_init_140 ?_
    refine GO.icmp_ne (tgt := 152) dX3_init_141 (by decide) r_p0 (ir_c rfl) (fun c164 => ?_) (fun h => by exfalso; omega)
    refine GO.promote (ci := 3) rfl h151 (fun j hj => ?_) (fun K165 e166 hE167 h168 => ?_)
    ·
      have hj : j < 16 := hj
      match j, hj with
      | 0, _ => exact okv_any (Eq.trans (uq_ne e162 (Or.inr (by decide))) (Eq.trans (uq_ne e159 (Or.inr (by decide))) (Eq.trans (uq_ne e153 (Or.inr (by decide))) (Eq.trans (congrFun (hV149 _ (K_old h_x hq145)) _) (Eq.trans (uq_ne e25 (Or.inr (by decide))) (Eq.trans (uq_ne e23 (Or.inr (by decide))) (Eq.trans (uq_ne e21 (Or.inr (by decide))) (Eq.trans (uq_ne e19 (Or.inr (by decide))) (uq_at e17)))))))))
      | 1, _ => exact okv_any (Eq.trans (uq_ne e162 (Or.inr (by decide))) (Eq.trans (uq_ne e159 (Or.inr (by decide))) (Eq.trans (uq_ne e153 (Or.inr (by decide))) (Eq.trans (congrFun (hV149 _ (K_old h_x hq145)) _) (Eq.trans (uq_ne e25 (Or.inr (by decide))) (Eq.trans (uq_ne e23 (Or.inr (by decide))) (Eq.trans (uq_ne e21 (Or.inr (by decide))) (uq_at e19))))))))
      | 2, _ => exact okv_any (Eq.trans (uq_ne e162 (Or.inr (by decide))) (Eq.trans (uq_ne e159 (Or.inr (by decide))) (Eq.trans (uq_ne e153 (Or.inr (by decide))) (Eq.trans (congrFun (hV149 _ (K_old h_x hq145)) _) (Eq.trans (uq_ne e25 (Or.inr (by decide))) (Eq.trans (uq_ne e23 (Or.inr (by decide))) (uq_at e21)))))))
      | 3, _ => exact okv_any (Eq.trans (uq_ne e162 (Or.inr (by decide))) (Eq.trans (uq_ne e159 (Or.inr (by decide))) (Eq.trans (uq_ne e153 (Or.inr (by decide))) (Eq.trans (congrFun (hV149 _ (K_old h_x hq145)) _) (Eq.trans (uq_ne e25 (Or.inr (by decide))) (uq_at e23))))))
      | 4, _ => exact okv_any (Eq.trans (uq_ne e162 (Or.inr (by decide))) (Eq.trans (uq_ne e159 (Or.inr (by decide))) (Eq.trans (uq_ne e153 (Or.inr (by decide))) (Eq.trans (congrFun (hV149 _ (K_old h_x hq145)) _) (uq_at e25)))))
      | 5, _ => exact okv_at (Eq.trans (uq_ne e162 (Or.inr (by decide))) (Eq.trans (uq_ne e159 (Or.inr (by decide))) (Eq.trans (uq_ne e153 (Or.inr (by decide))) (Eq.trans (congrFun (hV149 _ (K_old h_x hq145)) _) (Eq.trans (uq_ne e25 (Or.inr (by decide))) (Eq.trans (uq_ne e23 (Or.inr (by decide))) (Eq.trans (uq_ne e21 (Or.inr (by decide))) (Eq.trans (uq_ne e19 (Or.inr (by decide))) (Eq.trans (uq_ne e17 (Or.inr (by decide))) (Eq.trans (uq_ne e15 (Or.inr (by decide))) (Eq.trans (uq_ne e13 (Or.inr (by decide))) (Eq.trans (uq_ne e11 (Or.inr (by decide))) (Eq.trans (uq_ne e9 (Or.inr (by decide))) (Eq.trans (uq_ne e7 (Or.inr (by decide))) (Eq.trans (uq_ne e5 (Or.inr (by decide))) (Eq.trans (uq_ne e3 (Or.inr (by decide))) (uq_at e1))))))))))))))))) (ir_c rfl) (by omega) (by omega)
      | 6, _ => exact okv_any (Eq.trans (uq_ne e162 (Or.inr (by decide))) (Eq.trans (uq_ne e159 (Or.inr (by decide))) (Eq.trans (uq_ne e153 (Or.inr (by decide))) (Eq.trans (congrFun (hV149 _ (K_old h_x hq145)) _) (Eq.trans (uq_ne e25 (Or.inr (by decide))) (Eq.trans (uq_ne e23 (Or.inr (by decide))) (Eq.trans (uq_ne e21 (Or.inr (by decide))) (Eq.trans (uq_ne e19 (Or.inr (by decide))) (Eq.trans (uq_ne e17 (Or.inr (by decide))) (Eq.trans (uq_ne e15 (Or.inr (by decide))) (Eq.trans (uq_ne e13 (Or.inr (by decide))) (Eq.trans (uq_ne e11 (Or.inr (by decide))) (Eq.trans (uq_ne e9 (Or.inr (by decide))) (Eq.trans (uq_ne e7 (Or.inr (by decide))) (Eq.trans (uq_ne e5 (Or.inr (by decide))) (uq_at e3))))))))))))))))
      | 7, _ => exact okv_any (Eq.trans (uq_ne e162 (Or.inr (by decide))) (Eq.trans (uq_ne e159 (Or.inr (by decide))) (Eq.trans (uq_ne e153 (Or.inr (by decide))) (Eq.trans (congrFun (hV149 _ (K_old h_x hq145)) _) (Eq.trans (uq_ne e25 (Or.inr (by decide))) (Eq.trans (uq_ne e23 (Or.inr (by decide))) (Eq.trans (uq_ne e21 (Or.inr (by decide))) (Eq.trans (uq_ne e19 (Or.inr (by decide))) (Eq.trans (uq_ne e17 (Or.inr (by decide))) (Eq.trans (uq_ne e15 (Or.inr (by decide))) (Eq.trans (uq_ne e13 (Or.inr (by decide))) (Eq.trans (uq_ne e11 (Or.inr (by decide))) (Eq.trans (uq_ne e9 (Or.inr (by decide))) (Eq.trans (uq_ne e7 (Or.inr (by decide))) (uq_at e5)))))))))))))))
      | 8, _ => exact okv_any (Eq.trans (uq_ne e162 (Or.inr (by decide))) (Eq.trans (uq_ne e159 (Or.inr (by decide))) (Eq.trans (uq_ne e153 (Or.inr (by decide))) (Eq.trans (congrFun (hV149 _ (K_old h_x hq145)) _) (Eq.trans (uq_ne e25 (Or.inr (by decide))) (Eq.trans (uq_ne e23 (Or.inr (by decide))) (Eq.trans (uq_ne e21 (Or.inr (by decide))) (Eq.trans (uq_ne e19 (Or.inr (by decide))) (Eq.trans (uq_ne e17 (Or.inr (by decide))) (Eq.trans (uq_ne e15 (Or.inr (by decide))) (Eq.trans (uq_ne e13 (Or.inr (by decide))) (Eq.trans (uq_ne e11 (Or.inr (by decide))) (Eq.trans (uq_ne e9 (Or.inr (by decide))) (uq_at e7))))))))))))))
      | 9, _ => exact okv_any (Eq.trans (uq_ne e162 (Or.inr (by decide))) (Eq.trans (uq_ne e159 (Or.inr (by decide))) (Eq.trans (uq_ne e153 (Or.inr (by decide))) (Eq.trans (congrFun (hV149 _ (K_old h_x hq145)) _) (Eq.trans (uq_ne e25 (Or.inr (by decide))) (Eq.trans (uq_ne e23 (Or.inr (by decide))) (Eq.trans (uq_ne e21 (Or.inr (by decide))) (Eq.trans (uq_ne e19 (Or.inr (by decide))) (Eq.trans (uq_ne e17 (Or.inr (by decide))) (Eq.trans (uq_ne e15 (Or.inr (by decide))) (Eq.trans (uq_ne e13 (Or.inr (by decide))) (Eq.trans (uq_ne e11 (Or.inr (by decide))) (uq_at e9)))))))))))))
      | 10, _ => exact okv_any (Eq.trans (uq_ne e162 (Or.inr (by decide))) (Eq.trans (uq_ne e159 (Or.inr (by decide))) (Eq.trans (uq_ne e153 (Or.inr (by decide))) (Eq.trans (congrFun (hV149 _ (K_old h_x hq145)) _) (Eq.trans (uq_ne e25 (Or.inr (by decide))) (Eq.trans (uq_ne e23 (Or.inr (by decide))) (Eq.trans (uq_ne e21 (Or.inr (by decide))) (Eq.trans (uq_ne e19 (Or.inr (by decide))) (Eq.trans (uq_ne e17 (Or.inr (by decide))) (Eq.trans (uq_ne e15 (Or.inr (by decide))) (Eq.trans (uq_ne e13 (Or.inr (by decide))) (uq_at e11))))))))))))
      | 11, _ => exact okv_any (Eq.trans (uq_ne e162 (Or.inr (by decide))) (Eq.trans (uq_ne e159 (Or.inr (by decide))) (Eq.trans (uq_ne e153 (Or.inr (by decide))) (Eq.trans (congrFun (hV149 _ (K_old h_x hq145)) _) (Eq.trans (uq_ne e25 (Or.inr (by decide))) (Eq.trans (uq_ne e23 (Or.inr (by decide))) (Eq.trans (uq_ne e21 (Or.inr (by decide))) (Eq.trans (uq_ne e19 (Or.inr (by decide))) (Eq.trans (uq_ne e17 (Or.inr (by decide))) (Eq.trans (uq_ne e15 (Or.inr (by decide))) (uq_at e13)))))))))))
      | 12, _ => exact okv_any (Eq.trans (uq_ne e162 (Or.inr (by decide))) (Eq.trans (uq_ne e159 (Or.inr (by decide))) (Eq.trans (uq_ne e153 (Or.inr (by decide))) (Eq.trans (congrFun (hV149 _ (K_old h_x hq145)) _) (Eq.trans (uq_ne e25 (Or.inr (by decide))) (Eq.trans (uq_ne e23 (Or.inr (by decide))) (Eq.trans (uq_ne e21 (Or.inr (by decide))) (Eq.trans (uq_ne e19 (Or.inr (by decide))) (Eq.trans (uq_ne e17 (Or.inr (by decide))) (uq_at e15))))))))))
      | 13, _ => exact Or.inr ⟨_, (Eq.trans (uq_ne e162 (Or.inr (by decide))) (Eq.trans (uq_ne e159 (Or.inr (by decide))) (uq_at e153))), ⟨_, h148⟩⟩
      | 14, _ => exact Or.inl (Eq.trans (uq_ne e162 (Or.inr (by decide))) (uq_at e159))
      | 15, _ => exact Or.inl (uq_at e162)
      | j + 16, hj => exact absurd hj (by omega)
    exact GO.retv rfl rfl dX3_init_152 ⟨rfl, h168, KE.promote (KE.new KE.rf hq145 hK146) e166⟩

set_option maxHeartbeats 1000000 in
theorem t_X8_isFull_k34 {K : Kmap} {V : Vmap} {x : Nat} (h_x : K x = some (0, 34)) : MC mX8_isFull_k34 K V [.ref x] (IP K V (fun X => (X = 0 ∨ X = 1) ∧ (X ≠ 0 → vi V x 3 ≥ 8) ∧ (X = 0 → vi V x 3 ≤ 7))) := by
  refine MC.start 0 (by decide +kernel) rfl rfl rfl (ls0 := [some (.ref x)]) rfl ?_
  refine GO.aload_n dX8_isFull_0 rfl rfl ?_
  refine GO.getI h_x fl_RX8_9_k34 rfl rfl dX8_isFull_1 (fun l1 u2 => ?_)
  refine GO.aload_n dX8_isFull_4 rfl rfl ?_
  refine GO.getI h_x fl_RX8_18_k34 rfl rfl dX8_isFull_5 (fun l3 u4 => ?_)
  refine GO.icmp_lt (tgt := 15) dX8_isFull_8 (by decide) vi_ir vi_ir (fun c5 => ?_) (fun c5 => ?_)
  ·
    refine GO.iconst dX8_isFull_15 ?_
    exact GO.retz rfl rfl dX8_isFull_16 (by omega) ⟨rfl, rfl, _, rfl, (ir_c rfl), ⟨by omega, fun h => by omega, fun h => by omega⟩⟩
  ·
    refine GO.iconst dX8_isFull_11 ?_
    refine GO.goto (tgt := 16) dX8_isFull_12 (by decide) ?_
    exact GO.retz rfl rfl dX8_isFull_16 (by omega) ⟨rfl, rfl, _, rfl, (ir_c rfl), ⟨by omega, fun h => by omega, fun h => by omega⟩⟩

set_option maxHeartbeats 1000000 in
theorem t_X8_put_k34 {K : Kmap} {V : Vmap} {x : Nat} {p0 : Int} {p1 : Int} {p2 : Int} (h_x : K x = some (0, 34)) (r_p0 : ir p0) (r_p1 : ir p1) (r_p2 : ir p2) : MC mX8_put_k34 K V [.ref x, ti p0, ti p1, ti p2] (VS K (fun V1 => (True))) := by
  refine MC.start 2 (by decide +kernel) rfl rfl rfl (ls0 := [some (.ref x), some (ti p0), some (ti p1), some (ti p2), none, none]) rfl ?_
  refine GO.iload_n dX8_put_0 rfl rfl ?_
  refine GO.aload_n dX8_put_1 rfl rfl ?_
  refine GO.getI h_x fl_RX8_15_k34 rfl rfl dX8_put_2 (fun l1 u2 => ?_)
  refine GO.imul dX8_put_5 ?_
  refine GO.norm (fun z3 r4 hn5 => ?_)
  refine GO.iload_n dX8_put_6 rfl rfl ?_
  refine GO.iadd dX8_put_7 ?_
  refine GO.norm (fun z6 r7 hn8 => ?_)
  refine GO.istore (ls1 := [some (.ref x), some (ti p0), some (ti p1), some (ti p2), some (ti z6), none]) dX8_put_8 rfl rfl ?_
  refine GO.iload_n dX8_put_10 rfl rfl ?_
  have hj18 : ∀ (z17 : Int), ∀ (l19 : 0 ≤ z17), ∀ (u20 : z17 ≤ 1), GO mX8_put_k34 K V (VS K (fun V1 => (True))) K V 0 0 39 [some (.ref x), some (ti p0), some (ti p1), some (ti p2), some (ti z6), none] [ti z17] := by
    intro z17 l19 u20
    have r21 : ir z17 := ⟨by omega, by omega⟩
    refine GO.istore (ls1 := [some (.ref x), some (ti p0), some (ti p1), some (ti p2), some (ti z6), some (ti z17)]) dX8_put_39 rfl rfl ?_
    refine GO.iload dX8_put_41 rfl ?_
    refine GO.if_eq (tgt := 69) dX8_put_43 (by decide) r21 (fun c22 => ?_) (fun c22 => ?_)
    ·
      exact GO.retv rfl rfl dX8_put_69 ⟨rfl, rfl, trivial⟩
    ·
      refine GO.iload dX8_put_46 rfl ?_
      refine GO.if_lt (tgt := 69) dX8_put_48 (by decide) r7 (fun c23 => ?_) (fun c23 => ?_)
      ·
        exact GO.retv rfl rfl dX8_put_69 ⟨rfl, rfl, trivial⟩
      ·
        refine GO.iload dX8_put_51 rfl ?_
        refine GO.aload_n dX8_put_53 rfl rfl ?_
        refine GO.getA (n := 16) h_x fl_RX8_27_k34 rfl rfl rfl rfl dX8_put_54 (fun hv25 h24 => ?_)
        refine GO.alen h24 dX8_put_57 (fun h26 => ?_)
        refine GO.icmp_ge (tgt := 69) dX8_put_58 (by decide) r7 ⟨by omega, by omega⟩ (fun c27 => ?_) (fun c27 => ?_)
        ·
          exact GO.retv rfl rfl dX8_put_69 ⟨rfl, rfl, trivial⟩
        ·
          refine GO.aload_n dX8_put_61 rfl rfl ?_
          refine GO.getRaw h_x fl_RX8_27_k34 hv25 dX8_put_62 ?_
          refine GO.iload dX8_put_65 rfl ?_
          refine GO.iload_n dX8_put_67 rfl rfl ?_
          have q30 : -2147483648 ≤ z6 ∧ z6 ≤ 2147483647 := r7
          refine GO.iast (t := 156) rfl rfl (by decide +kernel) h24 r7 (by omega) (by omega) r_p2 (r_p2).1 (r_p2).2 dX8_put_68 (fun V32 e31 => ?_)
          exact GO.retv rfl rfl dX8_put_69 ⟨rfl, rfl, trivial⟩
  have hj41 : GO mX8_put_k34 K V (VS K (fun V1 => (True))) K V 0 0 38 [some (.ref x), some (ti p0), some (ti p1), some (ti p2), some (ti z6), none] [] := by
    skip
    refine GO.iconst dX8_put_38 ?_
    exact hj18 0 (by omega) (by omega)
  refine GO.if_lt (tgt := 38) dX8_put_11 (by decide) r_p0 (fun c42 => ?_) (fun c42 => ?_)
  ·
    exact hj41 
  ·
    refine GO.iload_n dX8_put_14 rfl rfl ?_
    refine GO.aload_n dX8_put_15 rfl rfl ?_
    refine GO.getI h_x fl_RX8_9_k34 rfl rfl dX8_put_16 (fun l43 u44 => ?_)
    refine GO.icmp_ge (tgt := 38) dX8_put_19 (by decide) r_p0 vi_ir (fun c45 => ?_) (fun c45 => ?_)
    ·
      exact hj41 
    ·
      refine GO.iload_n dX8_put_22 rfl rfl ?_
      refine GO.if_lt (tgt := 38) dX8_put_23 (by decide) r_p1 (fun c46 => ?_) (fun c46 => ?_)
      ·
        exact hj41 
      ·
        refine GO.iload_n dX8_put_26 rfl rfl ?_
        refine GO.aload_n dX8_put_27 rfl rfl ?_
        refine GO.getI h_x fl_RX8_15_k34 rfl rfl dX8_put_28 (fun l47 u48 => ?_)
        refine GO.icmp_ge (tgt := 38) dX8_put_31 (by decide) r_p1 vi_ir (fun c49 => ?_) (fun c49 => ?_)
        ·
          exact hj41 
        ·
          refine GO.iconst dX8_put_34 ?_
          refine GO.goto (tgt := 39) dX8_put_35 (by decide) ?_
          exact hj18 1 (by omega) (by omega)

set_option maxHeartbeats 1000000 in
theorem t_X8_append_k34 {K : Kmap} {V : Vmap} {x : Nat} {p0 : Int} {p1 : Int} {p2 : Int} {p3 : Int} {p4 : Int} (h_x : K x = some (0, 34)) (r_p0 : ir p0) (r_p1 : ir p1) (r_p2 : ir p2) (r_p3 : ir p3) (r_p4 : ir p4) : MC mX8_append_k34 K V [.ref x, ti p0, ti p1, ti p2, ti p3, ti p4] (IS K (fun X V1 => True)) := by
  refine MC.start 1 (by decide +kernel) rfl rfl rfl (ls0 := [some (.ref x), some (ti p0), some (ti p1), some (ti p2), some (ti p3), some (ti p4), none]) rfl ?_
  refine GO.aload_n dX8_append_0 rfl rfl ?_
  refine GO.callV (ci := 34) (N := mX8_isFull_k34) dX8_append_1 (RX8, TX8, 4) rfl gV_RX8_31 h_x (t_X8_isFull_k34 h_x) rfl [] rfl rfl (Nat.le_of_ble_eq_true rfl) rfl (k_ip fun X1 r2 h3 => ?_)
  refine GO.if_eq (tgt := 9) dX8_append_4 (by decide) r2 (fun c4 => ?_) (fun c4 => ?_)
  ·
    have q5 := h3.2.2 (by omega)
    refine GO.aload_n dX8_append_9 rfl rfl ?_
    refine GO.getI h_x fl_RX8_9_k34 rfl rfl dX8_append_10 (fun l6 u7 => ?_)
    refine GO.name (fun z8 hz9 => ?_)
    have r10 : ir z8 := hz9 ▸ vi_ir
    refine GO.istore (ls1 := [some (.ref x), some (ti p0), some (ti p1), some (ti p2), some (ti p3), some (ti p4), some (ti z8)]) dX8_append_13 rfl rfl ?_
    refine GO.aload_n dX8_append_15 rfl rfl ?_
    refine GO.dup dX8_append_16 rfl ?_
    refine GO.getI h_x fl_RX8_9_k34 rfl rfl dX8_append_17 (fun l11 u12 => ?_)
    refine GO.iconst dX8_append_20 ?_
    refine GO.iadd dX8_append_21 ?_
    have q14 : -2147483648 ≤ vi V x 3 ∧ vi V x 3 ≤ 2147483647 := vi_ir
    have q15 : -2147483648 ≤ z8 ∧ z8 ≤ 2147483647 := r10
    refine GO.putI h_x fp_RX8_9_k34 rfl (by decide +kernel) ⟨by omega, by omega⟩ (by omega) (by omega) dX8_append_22 (fun V16 e13 => ?_)
    refine GO.aload_n dX8_append_25 rfl rfl ?_
    refine GO.iload dX8_append_26 rfl ?_
    refine GO.iconst dX8_append_28 ?_
    refine GO.iload_n dX8_append_29 rfl rfl ?_
    refine GO.callV (ci := 34) (N := mX8_put_k34) dX8_append_30 (RX8, TX8, 4) rfl gV_RX8_35 h_x (t_X8_put_k34 h_x r10 (ir_c rfl) r_p0) rfl [] rfl rfl (Nat.le_of_ble_eq_true rfl) rfl (k_vs fun V19 h18 hF17 => ?_)
    refine GO.aload_n dX8_append_33 rfl rfl ?_
    refine GO.iload dX8_append_34 rfl ?_
    refine GO.iconst dX8_append_36 ?_
    refine GO.iload_n dX8_append_37 rfl rfl ?_
    refine GO.callV (ci := 34) (N := mX8_put_k34) dX8_append_38 (RX8, TX8, 4) rfl gV_RX8_35 h_x (t_X8_put_k34 h_x r10 (ir_c rfl) r_p1) rfl [] rfl rfl (Nat.le_of_ble_eq_true rfl) rfl (k_vs fun V22 h21 hF20 => ?_)
    refine GO.aload_n dX8_append_41 rfl rfl ?_
    refine GO.iload dX8_append_42 rfl ?_
    refine GO.iconst dX8_append_44 ?_
    refine GO.iload_n dX8_append_45 rfl rfl ?_
    refine GO.callV (ci := 34) (N := mX8_put_k34) dX8_append_46 (RX8, TX8, 4) rfl gV_RX8_35 h_x (t_X8_put_k34 h_x r10 (ir_c rfl) r_p2) rfl [] rfl rfl (Nat.le_of_ble_eq_true rfl) rfl (k_vs fun V25 h24 hF23 => ?_)
    refine GO.aload_n dX8_append_49 rfl rfl ?_
    refine GO.iload dX8_append_50 rfl ?_
    refine GO.iconst dX8_append_52 ?_
    refine GO.iload dX8_append_53 rfl ?_
    refine GO.callV (ci := 34) (N := mX8_put_k34) dX8_append_55 (RX8, TX8, 4) rfl gV_RX8_35 h_x (t_X8_put_k34 h_x r10 (ir_c rfl) r_p3) rfl [] rfl rfl (Nat.le_of_ble_eq_true rfl) rfl (k_vs fun V28 h27 hF26 => ?_)
    refine GO.aload_n dX8_append_58 rfl rfl ?_
    refine GO.iload dX8_append_59 rfl ?_
    refine GO.iconst dX8_append_61 ?_
    refine GO.iload dX8_append_62 rfl ?_
    refine GO.callV (ci := 34) (N := mX8_put_k34) dX8_append_64 (RX8, TX8, 4) rfl gV_RX8_35 h_x (t_X8_put_k34 h_x r10 (ir_c rfl) r_p4) rfl [] rfl rfl (Nat.le_of_ble_eq_true rfl) rfl (k_vs fun V31 h30 hF29 => ?_)
    refine GO.iload dX8_append_67 rfl ?_
    exact GO.reti rfl rfl dX8_append_69 ⟨rfl, _, rfl, r10, trivial⟩
  ·
    have q32 := h3.2.1 (by omega)
    refine GO.iconst dX8_append_7 ?_
    exact GO.reti rfl rfl dX8_append_8 ⟨rfl, _, rfl, (ir_c rfl), trivial⟩

set_option maxHeartbeats 1000000 in
theorem t_X3_addSounding {K : Kmap} {V : Vmap} {x : Nat} {p0 : Int} {p1 : Int} (h_x : K x = some (0, 3)) (r_p0 : ir p0) (r_p1 : ir p1) : MC mX3_addSounding K V [.ref x, ti p0, ti p1] (IS K (fun X V1 => (X = 0 ∨ X = 1) ∧ (X ≠ 0 → True) ∧ (X = 0 → True))) := by
  refine MC.start 0 (by decide +kernel) rfl rfl rfl (ls0 := [some (.ref x), some (ti p0), some (ti p1)]) rfl ?_
  refine GO.aload_n dX3_addSounding_0 rfl rfl ?_
  refine GO.getN h_x fl_RX3_64 rfl rfl dX3_addSounding_1 (fun hv2 => ?_) (fun hv2 h1 => ?_)
  ·
    refine GO.ifnullN (tgt := 31) dX3_addSounding_4 (by decide) ?_
    refine GO.iconst dX3_addSounding_31 ?_
    exact GO.retz rfl rfl dX3_addSounding_32 (by omega) ⟨rfl, _, rfl, (ir_c rfl), ⟨by omega, fun _ => trivial, fun _ => trivial⟩⟩
  ·
    refine GO.ifnull dX3_addSounding_4 ?_
    refine GO.aload_n dX3_addSounding_7 rfl rfl ?_
    refine GO.getRaw h_x fl_RX3_64 hv2 dX3_addSounding_8 ?_
    refine GO.iload_n dX3_addSounding_11 rfl rfl ?_
    refine GO.iload_n dX3_addSounding_12 rfl rfl ?_
    refine GO.isub dX3_addSounding_13 ?_
    refine GO.norm (fun z5 r6 hn7 => ?_)
    refine GO.iload_n dX3_addSounding_14 rfl rfl ?_
    refine GO.iload_n dX3_addSounding_15 rfl rfl ?_
    refine GO.iadd dX3_addSounding_16 ?_
    refine GO.norm (fun z8 r9 hn10 => ?_)
    refine GO.iconst dX3_addSounding_17 ?_
    refine GO.iconst dX3_addSounding_18 ?_
    refine GO.iconst dX3_addSounding_19 ?_
    refine GO.callV (ci := 34) (N := mX8_append_k34) dX3_addSounding_20 (RX8, TX8, 4) rfl gV_RX3_74 h1 (t_X8_append_k34 h1 r6 r9 (ir_c rfl) (ir_c rfl) (ir_c rfl)) rfl [] rfl rfl (Nat.le_of_ble_eq_true rfl) rfl (k_is fun X11 V15 r12 h13 hF14 => ?_)
    refine GO.iconst dX3_addSounding_23 ?_
    refine GO.icmp_eq (tgt := 31) dX3_addSounding_24 (by decide) r12 (ir_c rfl) (fun c16 => ?_) (fun c16 => ?_)
    ·
      refine GO.iconst dX3_addSounding_31 ?_
      exact GO.retz rfl rfl dX3_addSounding_32 (by omega) ⟨rfl, _, rfl, (ir_c rfl), ⟨by omega, fun _ => trivial, fun _ => trivial⟩⟩
    ·
      refine GO.iconst dX3_addSounding_27 ?_
      refine GO.goto (tgt := 32) dX3_addSounding_28 (by decide) ?_
      exact GO.retz rfl rfl dX3_addSounding_32 (by omega) ⟨rfl, _, rfl, (ir_c rfl), ⟨by omega, fun _ => trivial, fun _ => trivial⟩⟩

set_option maxHeartbeats 1000000 in
theorem t_X8_get_k34 {K : Kmap} {V : Vmap} {x : Nat} {p0 : Int} {p1 : Int} (h_x : K x = some (0, 34)) (r_p0 : ir p0) (r_p1 : ir p1) : MC mX8_get_k34 K V [.ref x, ti p0, ti p1] (IP K V (fun X => True)) := by
  refine MC.start 2 (by decide +kernel) rfl rfl rfl (ls0 := [some (.ref x), some (ti p0), some (ti p1), none, none]) rfl ?_
  refine GO.iload_n dX8_get_0 rfl rfl ?_
  refine GO.aload_n dX8_get_1 rfl rfl ?_
  refine GO.getI h_x fl_RX8_15_k34 rfl rfl dX8_get_2 (fun l1 u2 => ?_)
  refine GO.imul dX8_get_5 ?_
  refine GO.norm (fun z3 r4 hn5 => ?_)
  refine GO.iload_n dX8_get_6 rfl rfl ?_
  refine GO.iadd dX8_get_7 ?_
  refine GO.norm (fun z6 r7 hn8 => ?_)
  refine GO.istore_n (ls1 := [some (.ref x), some (ti p0), some (ti p1), some (ti z6), none]) dX8_get_8 rfl rfl rfl ?_
  refine GO.iload_n dX8_get_9 rfl rfl ?_
  have hj18 : ∀ (z17 : Int), ∀ (l19 : 0 ≤ z17), ∀ (u20 : z17 ≤ 1), GO mX8_get_k34 K V (IP K V (fun X => True)) K V 0 0 38 [some (.ref x), some (ti p0), some (ti p1), some (ti z6), none] [ti z17] := by
    intro z17 l19 u20
    have r21 : ir z17 := ⟨by omega, by omega⟩
    refine GO.istore (ls1 := [some (.ref x), some (ti p0), some (ti p1), some (ti z6), some (ti z17)]) dX8_get_38 rfl rfl ?_
    refine GO.iload dX8_get_40 rfl ?_
    refine GO.if_eq (tgt := 67) dX8_get_42 (by decide) r21 (fun c22 => ?_) (fun c22 => ?_)
    ·
      refine GO.iconst dX8_get_67 ?_
      exact GO.reti rfl rfl dX8_get_68 ⟨rfl, rfl, _, rfl, (ir_c rfl), trivial⟩
    ·
      refine GO.iload_n dX8_get_45 rfl rfl ?_
      refine GO.if_lt (tgt := 67) dX8_get_46 (by decide) r7 (fun c23 => ?_) (fun c23 => ?_)
      ·
        refine GO.iconst dX8_get_67 ?_
        exact GO.reti rfl rfl dX8_get_68 ⟨rfl, rfl, _, rfl, (ir_c rfl), trivial⟩
      ·
        refine GO.iload_n dX8_get_49 rfl rfl ?_
        refine GO.aload_n dX8_get_50 rfl rfl ?_
        refine GO.getA (n := 16) h_x fl_RX8_27_k34 rfl rfl rfl rfl dX8_get_51 (fun hv25 h24 => ?_)
        refine GO.alen h24 dX8_get_54 (fun h26 => ?_)
        refine GO.icmp_ge (tgt := 67) dX8_get_55 (by decide) r7 ⟨by omega, by omega⟩ (fun c27 => ?_) (fun c27 => ?_)
        ·
          refine GO.iconst dX8_get_67 ?_
          exact GO.reti rfl rfl dX8_get_68 ⟨rfl, rfl, _, rfl, (ir_c rfl), trivial⟩
        ·
          refine GO.aload_n dX8_get_58 rfl rfl ?_
          refine GO.getRaw h_x fl_RX8_27_k34 hv25 dX8_get_59 ?_
          refine GO.iload_n dX8_get_62 rfl rfl ?_
          have q30 : -2147483648 ≤ z6 ∧ z6 ≤ 2147483647 := r7
          refine GO.iald (t := 156) rfl rfl h24 r7 (by omega) (by omega) dX8_get_63 (fun _ _ => ?_)
          refine GO.goto (tgt := 68) dX8_get_64 (by decide) ?_
          have q31 : -2147483648 ≤ vi V (vq V x 2) (z6).toNat ∧ vi V (vq V x 2) (z6).toNat ≤ 2147483647 := vi_ir
          exact GO.reti rfl rfl dX8_get_68 ⟨rfl, rfl, _, rfl, vi_ir, trivial⟩
  have hj40 : GO mX8_get_k34 K V (IP K V (fun X => True)) K V 0 0 37 [some (.ref x), some (ti p0), some (ti p1), some (ti z6), none] [] := by
    skip
    refine GO.iconst dX8_get_37 ?_
    exact hj18 0 (by omega) (by omega)
  refine GO.if_lt (tgt := 37) dX8_get_10 (by decide) r_p0 (fun c41 => ?_) (fun c41 => ?_)
  ·
    exact hj40 
  ·
    refine GO.iload_n dX8_get_13 rfl rfl ?_
    refine GO.aload_n dX8_get_14 rfl rfl ?_
    refine GO.getI h_x fl_RX8_9_k34 rfl rfl dX8_get_15 (fun l42 u43 => ?_)
    refine GO.icmp_ge (tgt := 37) dX8_get_18 (by decide) r_p0 vi_ir (fun c44 => ?_) (fun c44 => ?_)
    ·
      exact hj40 
    ·
      refine GO.iload_n dX8_get_21 rfl rfl ?_
      refine GO.if_lt (tgt := 37) dX8_get_22 (by decide) r_p1 (fun c45 => ?_) (fun c45 => ?_)
      ·
        exact hj40 
      ·
        refine GO.iload_n dX8_get_25 rfl rfl ?_
        refine GO.aload_n dX8_get_26 rfl rfl ?_
        refine GO.getI h_x fl_RX8_15_k34 rfl rfl dX8_get_27 (fun l46 u47 => ?_)
        refine GO.icmp_ge (tgt := 37) dX8_get_30 (by decide) r_p1 vi_ir (fun c48 => ?_) (fun c48 => ?_)
        ·
          exact hj40 
        ·
          refine GO.iconst dX8_get_33 ?_
          refine GO.goto (tgt := 38) dX8_get_34 (by decide) ?_
          exact hj18 1 (by omega) (by omega)

set_option maxHeartbeats 1000000 in
theorem t_X3_sureDepth {K : Kmap} {V : Vmap} {x : Nat} (h_x : K x = some (0, 3)) : MC mX3_sureDepth K V [.ref x] (IP K V (fun X => True)) := by
  refine MC.start 4 (by decide +kernel) rfl rfl rfl (ls0 := [some (.ref x), none, none, none, none]) rfl ?_
  refine GO.aload_n dX3_sureDepth_0 rfl rfl ?_
  refine GO.getN h_x fl_RX3_64 rfl rfl dX3_sureDepth_1 (fun hv2 => ?_) (fun hv2 h1 => ?_)
  ·
    refine GO.ifnullN (tgt := 17) dX3_sureDepth_4 (by decide) ?_
    refine GO.iconst dX3_sureDepth_17 ?_
    exact GO.reti rfl rfl dX3_sureDepth_18 ⟨rfl, rfl, _, rfl, (ir_c rfl), trivial⟩
  ·
    refine GO.ifnull dX3_sureDepth_4 ?_
    refine GO.aload_n dX3_sureDepth_7 rfl rfl ?_
    refine GO.getRaw h_x fl_RX3_64 hv2 dX3_sureDepth_8 ?_
    refine GO.getI h1 fl_RX3_78_k34 rfl rfl dX3_sureDepth_11 (fun l5 u6 => ?_)
    refine GO.if_ne (tgt := 19) dX3_sureDepth_14 (by decide) vi_ir (fun c7 => ?_) (fun c7 => ?_)
    ·
      refine GO.aload_n dX3_sureDepth_19 rfl rfl ?_
      refine GO.getRaw h_x fl_RX3_64 hv2 dX3_sureDepth_20 ?_
      refine GO.iconst dX3_sureDepth_23 ?_
      refine GO.iconst dX3_sureDepth_24 ?_
      refine GO.callV (ci := 34) (N := mX8_get_k34) dX3_sureDepth_25 (RX8, TX8, 4) rfl gV_RX3_81 h1 (t_X8_get_k34 h1 (ir_c rfl) (ir_c rfl)) rfl [] rfl rfl (Nat.le_of_ble_eq_true rfl) rfl (k_ip fun X10 r11 h12 => ?_)
      refine GO.istore_n (ls1 := [some (.ref x), some (ti X10), none, none, none]) dX3_sureDepth_28 rfl rfl rfl ?_
      refine GO.iload_n dX3_sureDepth_29 rfl rfl ?_
      refine GO.istore_n (ls1 := [some (.ref x), some (ti X10), some (ti X10), none, none]) dX3_sureDepth_30 rfl rfl rfl ?_
      refine GO.aload_n dX3_sureDepth_31 rfl rfl ?_
      refine GO.getRaw h_x fl_RX3_64 hv2 dX3_sureDepth_32 ?_
      refine GO.iconst dX3_sureDepth_35 ?_
      refine GO.iconst dX3_sureDepth_36 ?_
      refine GO.callV (ci := 34) (N := mX8_get_k34) dX3_sureDepth_37 (RX8, TX8, 4) rfl gV_RX3_81 h1 (t_X8_get_k34 h1 (ir_c rfl) (ir_c rfl)) rfl [] rfl rfl (Nat.le_of_ble_eq_true rfl) rfl (k_ip fun X15 r16 h17 => ?_)
      refine GO.istore_n (ls1 := [some (.ref x), some (ti X10), some (ti X10), some (ti X15), none]) dX3_sureDepth_40 rfl rfl rfl ?_
      refine GO.iconst dX3_sureDepth_41 ?_
      refine GO.istore (ls1 := [some (.ref x), some (ti X10), some (ti X10), some (ti X15), some (ti 1)]) dX3_sureDepth_42 rfl rfl ?_
      have q243 : -2147483648 ≤ X15 ∧ X15 ≤ 2147483647 := r16
      have q244 : -2147483648 ≤ X10 ∧ X10 ≤ 2147483647 := r11
      refine GO.loop4 (fun i18 i19 i20 i21 W => (-2147483648) ≤ i18 ∧ i18 ≤ 2147483647 ∧ (-2147483648) ≤ i19 ∧ i19 ≤ 2147483647 ∧ (-2147483648) ≤ i20 ∧ i20 ≤ 2147483647 ∧ 1 ≤ i21 ∧ i21 ≤ 8 ∧ V = W) (fun i18 i19 i20 i21 => [some (.ref x), some (ti i18), some (ti i19), some (ti i20), some (ti i21)]) (fun i18 i19 i20 i21 W => (2147483647 - i21).toNat) X10 X10 X15 1 ⟨by omega, by omega, by omega, by omega, by omega, by omega, by omega, by omega, rfl⟩ rfl (fun i18 i19 i20 i21 V242 hp246 ih245 => ?_)
      obtain ⟨l_i18, u_i18, l_i19, u_i19, l_i20, u_i20, l_i21, u_i21, rfl⟩ := hp246
      have r_i18 : ir i18 := ⟨by omega, by omega⟩
      have r_i19 : ir i19 := ⟨by omega, by omega⟩
      have r_i20 : ir i20 := ⟨by omega, by omega⟩
      have r_i21 : ir i21 := ⟨by omega, by omega⟩
      show GO mX3_sureDepth K V (IP K V (fun X => True)) K V 0 0 44 [some (.ref x), some (ti i18), some (ti i19), some (ti i20), some (ti i21)] []
      refine GO.iload dX3_sureDepth_44 rfl ?_
      refine GO.aload_n dX3_sureDepth_46 rfl rfl ?_
      refine GO.getRaw h_x fl_RX3_64 hv2 dX3_sureDepth_47 ?_
      refine GO.getI h1 fl_RX3_78_k34 rfl rfl dX3_sureDepth_50 (fun l249 u250 => ?_)
      refine GO.icmp_ge (tgt := 107) dX3_sureDepth_53 (by decide) r_i21 vi_ir (fun c251 => ?_) (fun c251 => ?_)
      ·
        refine GO.iconst dX3_sureDepth_107 ?_
        refine GO.iload_n dX3_sureDepth_108 rfl rfl ?_
        refine GO.iload_n dX3_sureDepth_109 rfl rfl ?_
        refine GO.icmp_gt (tgt := 117) dX3_sureDepth_110 (by decide) r_i19 r_i20 (fun c252 => ?_) (fun c252 => ?_)
        ·
          refine GO.iload_n dX3_sureDepth_117 rfl rfl ?_
          refine GO.callS (N := mJ9_max_7cf53) dX3_sureDepth_118 gS_RX3_90 (t_J9_max_7cf53 (ir_c rfl) r_i18) rfl [] rfl rfl (Nat.le_of_ble_eq_true rfl) rfl (k_ip fun X253 r254 h255 => ?_)
          have q256 : -2147483648 ≤ X253 ∧ X253 ≤ 2147483647 := r254
          exact GO.reti rfl rfl dX3_sureDepth_121 ⟨rfl, rfl, _, rfl, r254, trivial⟩
        ·
          refine GO.iload_n dX3_sureDepth_113 rfl rfl ?_
          refine GO.goto (tgt := 118) dX3_sureDepth_114 (by decide) ?_
          refine GO.callS (N := mJ9_max_7cf53) dX3_sureDepth_118 gS_RX3_90 (t_J9_max_7cf53 (ir_c rfl) r_i19) rfl [] rfl rfl (Nat.le_of_ble_eq_true rfl) rfl (k_ip fun X257 r258 h259 => ?_)
          have q260 : -2147483648 ≤ X257 ∧ X257 ≤ 2147483647 := r258
          exact GO.reti rfl rfl dX3_sureDepth_121 ⟨rfl, rfl, _, rfl, r258, trivial⟩
      ·
        refine GO.iload_n dX3_sureDepth_56 rfl rfl ?_
        refine GO.aload_n dX3_sureDepth_57 rfl rfl ?_
        refine GO.getRaw h_x fl_RX3_64 hv2 dX3_sureDepth_58 ?_
        refine GO.iload dX3_sureDepth_61 rfl ?_
        refine GO.iconst dX3_sureDepth_63 ?_
        refine GO.callV (ci := 34) (N := mX8_get_k34) dX3_sureDepth_64 (RX8, TX8, 4) rfl gV_RX3_81 h1 (t_X8_get_k34 h1 r_i21 (ir_c rfl)) rfl [ti i18] rfl rfl (Nat.le_of_ble_eq_true rfl) rfl (k_ip fun X263 r264 h265 => ?_)
        refine GO.callS (N := mJ9_min_7cf53) dX3_sureDepth_67 gS_RX3_85 (t_J9_min_7cf53 r_i18 r264) rfl [] rfl rfl (Nat.le_of_ble_eq_true rfl) rfl (k_ip fun X266 r267 h268 => ?_)
        have q269 : -2147483648 ≤ X263 ∧ X263 ≤ 2147483647 := r264
        have q270 : -2147483648 ≤ X266 ∧ X266 ≤ 2147483647 := r267
        refine GO.istore_n (ls1 := [some (.ref x), some (ti X266), some (ti i19), some (ti i20), some (ti i21)]) dX3_sureDepth_70 rfl rfl rfl ?_
        refine GO.iload_n dX3_sureDepth_71 rfl rfl ?_
        refine GO.aload_n dX3_sureDepth_72 rfl rfl ?_
        refine GO.getRaw h_x fl_RX3_64 hv2 dX3_sureDepth_73 ?_
        refine GO.iload dX3_sureDepth_76 rfl ?_
        refine GO.iconst dX3_sureDepth_78 ?_
        refine GO.callV (ci := 34) (N := mX8_get_k34) dX3_sureDepth_79 (RX8, TX8, 4) rfl gV_RX3_81 h1 (t_X8_get_k34 h1 r_i21 (ir_c rfl)) rfl [ti i19] rfl rfl (Nat.le_of_ble_eq_true rfl) rfl (k_ip fun X273 r274 h275 => ?_)
        refine GO.callS (N := mJ9_max_7cf53) dX3_sureDepth_82 gS_RX3_90 (t_J9_max_7cf53 r_i19 r274) rfl [] rfl rfl (Nat.le_of_ble_eq_true rfl) rfl (k_ip fun X276 r277 h278 => ?_)
        have q279 : -2147483648 ≤ X273 ∧ X273 ≤ 2147483647 := r274
        have q280 : -2147483648 ≤ X276 ∧ X276 ≤ 2147483647 := r277
        refine GO.istore_n (ls1 := [some (.ref x), some (ti X266), some (ti X276), some (ti i20), some (ti i21)]) dX3_sureDepth_85 rfl rfl rfl ?_
        refine GO.iload_n dX3_sureDepth_86 rfl rfl ?_
        refine GO.aload_n dX3_sureDepth_87 rfl rfl ?_
        refine GO.getRaw h_x fl_RX3_64 hv2 dX3_sureDepth_88 ?_
        refine GO.iload dX3_sureDepth_91 rfl ?_
        refine GO.iconst dX3_sureDepth_93 ?_
        refine GO.callV (ci := 34) (N := mX8_get_k34) dX3_sureDepth_94 (RX8, TX8, 4) rfl gV_RX3_81 h1 (t_X8_get_k34 h1 r_i21 (ir_c rfl)) rfl [ti i20] rfl rfl (Nat.le_of_ble_eq_true rfl) rfl (k_ip fun X283 r284 h285 => ?_)
        refine GO.callS (N := mJ9_min_7cf53) dX3_sureDepth_97 gS_RX3_85 (t_J9_min_7cf53 r_i20 r284) rfl [] rfl rfl (Nat.le_of_ble_eq_true rfl) rfl (k_ip fun X286 r287 h288 => ?_)
        have q289 : -2147483648 ≤ X283 ∧ X283 ≤ 2147483647 := r284
        have q290 : -2147483648 ≤ X286 ∧ X286 ≤ 2147483647 := r287
        refine GO.istore_n (ls1 := [some (.ref x), some (ti X266), some (ti X276), some (ti X286), some (ti i21)]) dX3_sureDepth_100 rfl rfl rfl ?_
        refine GO.iinc (X := i21) (n := 1) (Y := i21 + 1) (ls1 := [some (.ref x), some (ti X266), some (ti X276), some (ti X286), some (ti (i21 + 1))]) dX3_sureDepth_101 rfl rfl rfl rfl ?_
        refine GO.goto (tgt := 44) dX3_sureDepth_104 (by decide) ?_
        exact ih245 X266 X276 X286 (i21 + 1) V ⟨by omega, by omega, by omega, by omega, by omega, by omega, by omega, by omega, rfl⟩ (by show (2147483647 - (i21 + 1)).toNat < (2147483647 - i21).toNat; omega)
    ·
      refine GO.iconst dX3_sureDepth_17 ?_
      exact GO.reti rfl rfl dX3_sureDepth_18 ⟨rfl, rfl, _, rfl, (ir_c rfl), trivial⟩
