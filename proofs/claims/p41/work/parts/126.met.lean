def mX12_counts : MRec := (RX12, cX12_counts, 6, (some .int), yX12_counts, 2, 53, 0, 0, 410109510896814735819844167584554006003719268292477331829831988701866187349882985604408720691822592)
def mX12_asked : MRec := (RX12, cX12_asked, 6, (some .int), yX12_asked, 2, 53, 0, 0, 410109510896814735819844167584554006003719268292477331829831988701866187349882985604408720691822592)
def mX12_caughtAtMost : MRec := (RX12, cX12_caughtAtMost, 5, (some .int), yX12_caughtAtMost, 2, 53, 0, 0, 410109510896814735819844167584554006003719268292477331829831988701866187349882985604408720691822592)
def mX12_number : MRec := (RX12, cX12_number, 4, (some .int), yX12_number, 3, 78, 0, 0, 410109510896814735819844167584554006003719268292477331829831988701866187349882985604408720691822592)
def mX12_isWork : MRec := (RX12, cX12_isWork, 2, (some .boolean), yX12_isWork, 0, 0, 0, 0, 0)
def mX12_work : MRec := (RX12, cX12_work, 9, (some .int), yX12_work, 1, 22, 0, 0, 4268966602095243523394031221776817499828048436794867230101706224528092871056191852027291495164620570624)
def mX12_tell : MRec := (RX12, cX12_tell, 3, (some .boolean), yX12_tell, 1, 22, 0, 0, 839904278316676578959040855213166604295617061462993575587495912861421951692560354517829059976852668416)
def mX12_study : MRec := (RX12, cX12_study, 3, (some .boolean), yX12_study, 1, 22, 0, 0, 3359617113266706315836163420852666417182468245851974302349983651445687806770241418071316239907410673664)
set_option maxHeartbeats 1000000 in
theorem t_X12_counts {K : Kmap} {V : Vmap} {x : Nat} {p0 : Int} {p1 : Int} {p2 : Int} (h_x : K x = some (0, 11)) (r_p0 : ir p0) (r_p1 : ir p1) (r_p2 : ir p2) : MC mX12_counts K V [.ref x, ti p0, ti p1, ti p2] (IS K (fun X V1 => (X ≥ (-2147483648) ∧ X ≤ 2147483647) ∧ (RCO V V1 x p0 p1 p2 X))) := by
  refine MC.start 2 (by decide +kernel) rfl rfl rfl (ls0 := [some (.ref x), some (ti p0), some (ti p1), some (ti p2), none, none]) rfl ?_
  refine GO.aload_n dX12_counts_0 rfl rfl ?_
  refine GO.iload_n dX12_counts_1 rfl rfl ?_
  refine GO.callV (ci := 11) (N := mX12_isText) dX12_counts_2 (RX12, TX12, 151) rfl gV_RX12_541 h_x (t_X12_isText h_x r_p0) rfl [] rfl rfl (Nat.le_of_ble_eq_true rfl) rfl (k_ip fun X1 r2 h3 => ?_)
  refine GO.if_eq (tgt := 23) dX12_counts_5 (by decide) r2 (fun c4 => ?_) (fun c4 => ?_)
  ·
    have q5 := h3.2.2 (by omega)
    refine GO.iconst dX12_counts_23 ?_
    exact GO.reti rfl rfl dX12_counts_24 ⟨rfl, _, rfl, (ir_c rfl), ⟨(by first | exact trivial | omega), (by first | exact RCO.no (by omega) rfl)⟩⟩
  ·
    have q6 := h3.2.1 (by omega)
    refine GO.aload_n dX12_counts_8 rfl rfl ?_
    refine GO.iload_n dX12_counts_9 rfl rfl ?_
    refine GO.callV (ci := 11) (N := mX12_isParty) dX12_counts_10 (RX12, TX12, 151) rfl gV_RX12_406 h_x (t_X12_isParty h_x r_p1) rfl [] rfl rfl (Nat.le_of_ble_eq_true rfl) rfl (k_ip fun X7 r8 h9 => ?_)
    refine GO.if_eq (tgt := 23) dX12_counts_13 (by decide) r8 (fun c10 => ?_) (fun c10 => ?_)
    ·
      have q11 := h9.2.2 (by omega)
      refine GO.iconst dX12_counts_23 ?_
      exact GO.reti rfl rfl dX12_counts_24 ⟨rfl, _, rfl, (ir_c rfl), ⟨(by first | exact trivial | omega), (by first | exact RCO.no (by omega) rfl)⟩⟩
    ·
      have q12 := h9.2.1 (by omega)
      refine GO.iload_n dX12_counts_16 rfl rfl ?_
      refine GO.callS (N := mX12_isDay) dX12_counts_17 gS_RX12_409 (t_X12_isDay r_p2) rfl [] rfl rfl (Nat.le_of_ble_eq_true rfl) rfl (k_ip fun X13 r14 h15 => ?_)
      refine GO.if_ne (tgt := 25) dX12_counts_20 (by decide) r14 (fun c16 => ?_) (fun c16 => ?_)
      ·
        have q17 := h15.2.1 (by omega)
        refine GO.aload_n dX12_counts_25 rfl rfl ?_
        refine GO.iload_n dX12_counts_26 rfl rfl ?_
        refine GO.iload_n dX12_counts_27 rfl rfl ?_
        have q18 : -2147483648 ≤ p1 ∧ p1 ≤ 2147483647 := r_p1
        have q19 : -2147483648 ≤ vi V x 9 ∧ vi V x 9 ≤ 2147483647 := vi_ir
        refine GO.callV (ci := 11) (N := mX12_binds) dX12_counts_28 (RX12, TX12, 151) rfl gV_RX12_557 h_x (t_X12_binds h_x r_p1 r_p2 (by omega) (by omega)) rfl [] rfl rfl (Nat.le_of_ble_eq_true rfl) rfl (k_vs fun V22 h21 hF20 => ?_)
        have raw_binds := h21.2
        have rw28 := h21.2
        refine GO.iconst dX12_counts_31 ?_
        refine GO.istore (ls1 := [some (.ref x), some (ti p0), some (ti p1), some (ti p2), some (ti 0), none]) dX12_counts_32 rfl rfl ?_
        refine GO.iconst dX12_counts_34 ?_
        refine GO.istore (ls1 := [some (.ref x), some (ti p0), some (ti p1), some (ti p2), some (ti 0), some (ti 0)]) dX12_counts_35 rfl rfl ?_
        refine GO.loop2 (fun i23 i24 W => 0 ≤ i23 ∧ i23 ≤ 12 ∧ 0 ≤ i24 ∧ i24 ≤ 12 ∧ (i23 ≥ 0 ∧ i23 ≤ i24) ∧ (RCI W x p0 i23 i24) ∧ V22 = W) (fun i23 i24 => [some (.ref x), some (ti p0), some (ti p1), some (ti p2), some (ti i23), some (ti i24)]) (fun i23 i24 W => (2147483647 - i24).toNat) 0 0 ⟨by omega, by omega, by omega, by omega, by omega, (by first | exact RCI.beg), rfl⟩ rfl (fun i23 i24 V241 hp243 ih242 => ?_)
        obtain ⟨l_i23, u_i23, l_i24, u_i24, n_i23, hci, rfl⟩ := hp243
        have r_i23 : ir i23 := ⟨by omega, by omega⟩
        have r_i24 : ir i24 := ⟨by omega, by omega⟩
        show GO mX12_counts K V (IS K (fun X V1 => (X ≥ (-2147483648) ∧ X ≤ 2147483647) ∧ (RCO V V1 x p0 p1 p2 X))) K V22 0 0 37 [some (.ref x), some (ti p0), some (ti p1), some (ti p2), some (ti i23), some (ti i24)] []
        refine GO.iload dX12_counts_37 rfl ?_
        refine GO.aload_n dX12_counts_39 rfl rfl ?_
        refine GO.getA (n := 20) h_x fl_RX12_115 rfl rfl rfl rfl dX12_counts_40 (fun hv245 h244 => ?_)
        refine GO.iload_n dX12_counts_43 rfl rfl ?_
        have q246 : -2147483648 ≤ p0 ∧ p0 ≤ 2147483647 := r_p0
        have q247 : -2147483648 ≤ vi V x 47 ∧ vi V x 47 ≤ 2147483647 := vi_ir
        refine GO.iald (t := 41) rfl rfl h244 r_p0 (by omega) (by omega) dX12_counts_44 (fun l248 u249 => ?_)
        refine GO.icmp_ge (tgt := 88) dX12_counts_45 (by decide) r_i24 vi_ir (fun c251 => ?_) (fun c251 => ?_)
        ·
          refine GO.iload dX12_counts_88 rfl ?_
          exact GO.reti rfl rfl dX12_counts_90 ⟨rfl, _, rfl, r_i23, ⟨(by first | exact trivial | omega), (by first | exact RCO.no (by omega) rfl | exact RCO.ok rw28 hci ⟨by omega, by omega⟩ ⟨by omega, by omega⟩ (by omega) (by omega) (by omega) (by omega) (by omega))⟩⟩
        ·
          refine GO.aload_n dX12_counts_48 rfl rfl ?_
          refine GO.getA (n := 20) h_x fl_RX12_157 rfl rfl rfl rfl dX12_counts_49 (fun hv253 h252 => ?_)
          refine GO.iload_n dX12_counts_52 rfl rfl ?_
          refine GO.zald (t := 55) rfl rfl h252 r_p0 (by omega) (by omega) dX12_counts_53 (fun l254 u255 => ?_)
          refine GO.if_eq (tgt := 88) dX12_counts_54 (by decide) vi_ir (fun c257 => ?_) (fun c257 => ?_)
          ·
            refine GO.iload dX12_counts_88 rfl ?_
            exact GO.reti rfl rfl dX12_counts_90 ⟨rfl, _, rfl, r_i23, ⟨(by first | exact trivial | omega), (by first | exact RCO.no (by omega) rfl | exact RCO.ok rw28 hci ⟨by omega, by omega⟩ ⟨by omega, by omega⟩ (by omega) (by omega) (by omega) (by omega) (by omega))⟩⟩
          ·
            refine GO.iload dX12_counts_57 rfl ?_
            refine GO.aload_n dX12_counts_59 rfl rfl ?_
            refine GO.getA (n := 240) h_x fl_RX12_160 rfl rfl rfl rfl dX12_counts_60 (fun hv259 h258 => ?_)
            refine GO.bipush dX12_counts_63 rfl ?_
            refine GO.iload_n dX12_counts_65 rfl rfl ?_
            refine GO.imul dX12_counts_66 ?_
            refine GO.iload dX12_counts_67 rfl ?_
            refine GO.iadd dX12_counts_69 ?_
            refine GO.zald (t := 56) rfl rfl h258 ⟨by omega, by omega⟩ (by omega) (by omega) dX12_counts_70 (fun l260 u261 => ?_)
            refine GO.if_eq (tgt := 78) dX12_counts_71 (by decide) vi_ir (fun c263 => ?_) (fun c263 => ?_)
            ·
              refine GO.iconst dX12_counts_78 ?_
              refine GO.iadd dX12_counts_79 ?_
              refine GO.name (fun z264 hz265 => ?_)
              refine GO.istore (ls1 := [some (.ref x), some (ti p0), some (ti p1), some (ti p2), some (ti z264), some (ti i24)]) dX12_counts_80 rfl rfl ?_
              refine GO.iinc (X := i24) (n := 1) (Y := i24 + 1) (ls1 := [some (.ref x), some (ti p0), some (ti p1), some (ti p2), some (ti z264), some (ti (i24 + 1))]) dX12_counts_82 rfl rfl rfl rfl ?_
              refine GO.goto (tgt := 37) dX12_counts_85 (by decide) ?_
              exact ih242 z264 (i24 + 1) V22 ⟨by omega, by omega, by omega, by omega, by omega, (by first | exact RCI.beg | exact RCI.step hci (by omega) (by omega) (by omega) (by omega) (by omega) (by omega)), rfl⟩ (by show (2147483647 - (i24 + 1)).toNat < (2147483647 - i24).toNat; omega)
            ·
              refine GO.iconst dX12_counts_74 ?_
              refine GO.goto (tgt := 79) dX12_counts_75 (by decide) ?_
              refine GO.iadd dX12_counts_79 ?_
              refine GO.name (fun z266 hz267 => ?_)
              refine GO.istore (ls1 := [some (.ref x), some (ti p0), some (ti p1), some (ti p2), some (ti z266), some (ti i24)]) dX12_counts_80 rfl rfl ?_
              refine GO.iinc (X := i24) (n := 1) (Y := i24 + 1) (ls1 := [some (.ref x), some (ti p0), some (ti p1), some (ti p2), some (ti z266), some (ti (i24 + 1))]) dX12_counts_82 rfl rfl rfl rfl ?_
              refine GO.goto (tgt := 37) dX12_counts_85 (by decide) ?_
              exact ih242 z266 (i24 + 1) V22 ⟨by omega, by omega, by omega, by omega, by omega, (by first | exact RCI.beg | exact RCI.step hci (by omega) (by omega) (by omega) (by omega) (by omega) (by omega)), rfl⟩ (by show (2147483647 - (i24 + 1)).toNat < (2147483647 - i24).toNat; omega)
      ·
        have q268 := h15.2.2 (by omega)
        refine GO.iconst dX12_counts_23 ?_
        exact GO.reti rfl rfl dX12_counts_24 ⟨rfl, _, rfl, (ir_c rfl), ⟨(by first | exact trivial | omega), (by first | exact RCO.no (by omega) rfl)⟩⟩

set_option maxHeartbeats 1000000 in
theorem t_X12_asked {K : Kmap} {V : Vmap} {x : Nat} {p0 : Int} {p1 : Int} {p2 : Int} {p3 : Int} (h_x : K x = some (0, 11)) (r_p0 : ir p0) (r_p1 : ir p1) (r_p2 : ir p2) (r_p3 : ir p3) (q_0 : p1 ≥ 0) (q_1 : p1 ≤ 8) : MC mX12_asked K V [.ref x, ti p0, ti p1, ti p2, ti p3] (IS K (fun X V1 => (X ≥ (-2147483648) ∧ X ≤ 2147483647) ∧ (RNE V V1 x p0 p1 p2 p3 X))) := by
  refine MC.start 1 (by decide +kernel) rfl rfl rfl (ls0 := [some (.ref x), some (ti p0), some (ti p1), some (ti p2), some (ti p3), none]) rfl ?_
  refine GO.aload_n dX12_asked_0 rfl rfl ?_
  refine GO.iload_n dX12_asked_1 rfl rfl ?_
  refine GO.iload_n dX12_asked_2 rfl rfl ?_
  have q1 : -2147483648 ≤ p1 ∧ p1 ≤ 2147483647 := r_p1
  refine GO.callV (ci := 11) (N := mX12_binds) dX12_asked_3 (RX12, TX12, 151) rfl gV_RX12_557 h_x (t_X12_binds h_x r_p1 r_p2 (by omega) (by omega)) rfl [] rfl rfl (Nat.le_of_ble_eq_true rfl) rfl (k_vs fun V4 h3 hF2 => ?_)
  have raw_binds := h3.2
  have rw3 := h3.2
  refine GO.aload_n dX12_asked_6 rfl rfl ?_
  refine GO.iload_n dX12_asked_7 rfl rfl ?_
  refine GO.iconst dX12_asked_8 ?_
  refine GO.iconst dX12_asked_9 ?_
  refine GO.aload_n dX12_asked_10 rfl rfl ?_
  refine GO.getI h_x fl_RX12_535 rfl rfl dX12_asked_11 (fun l5 u6 => ?_)
  refine GO.callV (ci := 11) (N := mX12_numberBy) dX12_asked_14 (RX12, TX12, 151) rfl gV_RX12_553 h_x (t_X12_numberBy h_x r_p0 (ir_c rfl) (ir_c rfl) vi_ir (by omega) (by omega)) rfl [] rfl rfl (Nat.le_of_ble_eq_true rfl) rfl (k_ip fun X8 r9 h10 => ?_)
  have raw_numberBy := h10.2
  have rw14 := h10.2
  refine GO.istore (ls1 := [some (.ref x), some (ti p0), some (ti p1), some (ti p2), some (ti p3), some (ti X8)]) dX12_asked_17 rfl rfl ?_
  refine GO.iload dX12_asked_19 rfl ?_
  refine GO.iconst dX12_asked_21 ?_
  refine GO.icmp_ne (tgt := 30) dX12_asked_22 (by decide) r9 (ir_c rfl) (fun c11 => ?_) (fun c11 => ?_)
  ·
    refine GO.iload dX12_asked_30 rfl ?_
    exact GO.reti rfl rfl dX12_asked_32 ⟨rfl, _, rfl, r9, ⟨(by first | exact trivial | omega), (by first | exact ⟨_, RNM.mk rw3 rw14, Or.inl ⟨by omega, rfl⟩⟩ | exact ⟨_, RNM.mk rw3 rw14, Or.inr ⟨by omega, rfl⟩⟩)⟩⟩
  ·
    refine GO.iload dX12_asked_25 rfl ?_
    refine GO.goto (tgt := 32) dX12_asked_27 (by decide) ?_
    have q12 : -2147483648 ≤ p3 ∧ p3 ≤ 2147483647 := r_p3
    exact GO.reti rfl rfl dX12_asked_32 ⟨rfl, _, rfl, r_p3, ⟨(by first | exact trivial | omega), (by first | exact ⟨_, RNM.mk rw3 rw14, Or.inl ⟨by omega, rfl⟩⟩ | exact ⟨_, RNM.mk rw3 rw14, Or.inr ⟨by omega, rfl⟩⟩)⟩⟩

set_option maxHeartbeats 1000000 in
theorem t_X12_caughtAtMost {K : Kmap} {V : Vmap} {x : Nat} {p0 : Int} {p1 : Int} {p2 : Int} {p3 : Int} (h_x : K x = some (0, 11)) (r_p0 : ir p0) (r_p1 : ir p1) (r_p2 : ir p2) (r_p3 : ir p3) (q_0 : p2 ≥ 0) (q_1 : p2 ≤ 8) : MC mX12_caughtAtMost K V [.ref x, ti p0, ti p1, ti p2, ti p3] (IS K (fun X V1 => (X ≥ (-2147483648) ∧ X ≤ 2147483647) ∧ (RNM V V1 x 107 p0 p1 p2 p3 X))) := by
  refine MC.start 0 (by decide +kernel) rfl rfl rfl (ls0 := [some (.ref x), some (ti p0), some (ti p1), some (ti p2), some (ti p3)]) rfl ?_
  refine GO.aload_n dX12_caughtAtMost_0 rfl rfl ?_
  refine GO.iload_n dX12_caughtAtMost_1 rfl rfl ?_
  refine GO.iload dX12_caughtAtMost_2 rfl ?_
  have q1 : -2147483648 ≤ p2 ∧ p2 ≤ 2147483647 := r_p2
  refine GO.callV (ci := 11) (N := mX12_binds) dX12_caughtAtMost_4 (RX12, TX12, 151) rfl gV_RX12_557 h_x (t_X12_binds h_x r_p2 r_p3 (by omega) (by omega)) rfl [] rfl rfl (Nat.le_of_ble_eq_true rfl) rfl (k_vs fun V4 h3 hF2 => ?_)
  have raw_binds := h3.2
  have rw4 := h3.2
  refine GO.aload_n dX12_caughtAtMost_7 rfl rfl ?_
  refine GO.bipush dX12_caughtAtMost_8 rfl ?_
  refine GO.iload_n dX12_caughtAtMost_10 rfl rfl ?_
  refine GO.iload_n dX12_caughtAtMost_11 rfl rfl ?_
  refine GO.aload_n dX12_caughtAtMost_12 rfl rfl ?_
  refine GO.getI h_x fl_RX12_535 rfl rfl dX12_caughtAtMost_13 (fun l5 u6 => ?_)
  refine GO.callV (ci := 11) (N := mX12_numberBy) dX12_caughtAtMost_16 (RX12, TX12, 151) rfl gV_RX12_553 h_x (t_X12_numberBy h_x (ir_c rfl) r_p0 r_p1 vi_ir (by omega) (by omega)) rfl [] rfl rfl (Nat.le_of_ble_eq_true rfl) rfl (k_ip fun X8 r9 h10 => ?_)
  have raw_numberBy := h10.2
  have rw16 := h10.2
  exact GO.reti rfl rfl dX12_caughtAtMost_19 ⟨rfl, _, rfl, r9, ⟨(by first | exact trivial | omega), RNM.mk rw4 rw16⟩⟩

set_option maxHeartbeats 1000000 in
theorem t_X12_number {K : Kmap} {V : Vmap} {x : Nat} {p0 : Int} {p1 : Int} {p2 : Int} (h_x : K x = some (0, 11)) (r_p0 : ir p0) (r_p1 : ir p1) (r_p2 : ir p2) : MC mX12_number K V [.ref x, ti p0, ti p1, ti p2] (IS K (fun X V1 => (X ≥ (-2147483648) ∧ X ≤ 2147483647) ∧ (RNB V V1 x p0 p1 p2 X))) := by
  refine MC.start 0 (by decide +kernel) rfl rfl rfl (ls0 := [some (.ref x), some (ti p0), some (ti p1), some (ti p2)]) rfl ?_
  refine GO.aload_n dX12_number_0 rfl rfl ?_
  refine GO.iload_n dX12_number_1 rfl rfl ?_
  refine GO.callV (ci := 11) (N := mX12_isParty) dX12_number_2 (RX12, TX12, 151) rfl gV_RX12_406 h_x (t_X12_isParty h_x r_p1) rfl [] rfl rfl (Nat.le_of_ble_eq_true rfl) rfl (k_ip fun X1 r2 h3 => ?_)
  refine GO.if_eq (tgt := 15) dX12_number_5 (by decide) r2 (fun c4 => ?_) (fun c4 => ?_)
  ·
    have q5 := h3.2.2 (by omega)
    refine GO.iconst dX12_number_15 ?_
    exact GO.reti rfl rfl dX12_number_16 ⟨rfl, _, rfl, (ir_c rfl), ⟨(by first | exact trivial | omega), (by first | exact RNB.no (by omega) rfl)⟩⟩
  ·
    have q6 := h3.2.1 (by omega)
    refine GO.iload_n dX12_number_8 rfl rfl ?_
    refine GO.callS (N := mX12_isDay) dX12_number_9 gS_RX12_409 (t_X12_isDay r_p2) rfl [] rfl rfl (Nat.le_of_ble_eq_true rfl) rfl (k_ip fun X7 r8 h9 => ?_)
    refine GO.if_ne (tgt := 17) dX12_number_12 (by decide) r8 (fun c10 => ?_) (fun c10 => ?_)
    ·
      have q11 := h9.2.1 (by omega)
      refine GO.iload_n dX12_number_17 rfl rfl ?_
      refine GO.bipush dX12_number_18 rfl ?_
      refine GO.bipush dX12_number_20 rfl ?_
      refine GO.callS (N := mX12_in) dX12_number_22 gS_RX12_371 (t_X12_in r_p0 (ir_c rfl) (ir_c rfl)) rfl [] rfl rfl (Nat.le_of_ble_eq_true rfl) rfl (k_ip fun X12 r13 h14 => ?_)
      have raw_in := h14.2.2.2
      have rw22 := h14.2.2.2
      refine GO.if_eq (tgt := 47) dX12_number_25 (by decide) r13 (fun c15 => ?_) (fun c15 => ?_)
      ·
        have q16 := h14.2.2.1 (by omega)
        refine GO.iload_n dX12_number_47 rfl rfl ?_
        have q17 : -2147483648 ≤ p0 ∧ p0 ≤ 2147483647 := r_p0
        rcases (show (p0 < 0 ∨ 3 < p0) ∨ p0 = 0 ∨ p0 = 1 ∨ p0 = 2 ∨ p0 = 3 by omega) with c18 | c18 | c18 | c18 | c18
        ·
          refine GO.tableOut (tgt := 125) dX12_number_48 r_p0 c18 (by decide) ?_
          refine GO.iconst dX12_number_125 ?_
          exact GO.reti rfl rfl dX12_number_126 ⟨rfl, _, rfl, (ir_c rfl), ⟨(by first | exact trivial | omega), (by first | exact RNB.no (by omega) rfl)⟩⟩
        ·
          refine GO.tableAt (n := 0) (tgt := 80) dX12_number_48 (ir_c rfl) c18 (by decide) (by decide) rfl (by decide) ?_
          refine GO.aload_n dX12_number_80 rfl rfl ?_
          refine GO.bipush dX12_number_81 rfl ?_
          refine GO.iload_n dX12_number_83 rfl rfl ?_
          refine GO.iload_n dX12_number_84 rfl rfl ?_
          refine GO.iconst dX12_number_85 ?_
          have q19 : -2147483648 ≤ p1 ∧ p1 ≤ 2147483647 := r_p1
          have q20 : -2147483648 ≤ vi V x 9 ∧ vi V x 9 ≤ 2147483647 := vi_ir
          refine GO.callV (ci := 11) (N := mX12_asked) dX12_number_86 (RX12, TX12, 151) rfl gV_RX12_563 h_x (t_X12_asked h_x (ir_c rfl) r_p1 r_p2 (ir_c rfl) (by omega) (by omega)) rfl [] rfl rfl (Nat.le_of_ble_eq_true rfl) rfl (k_is fun X21 V25 r22 h23 hF24 => ?_)
          have raw_asked := h23.2
          have rw86 := h23.2
          exact GO.reti rfl rfl dX12_number_89 ⟨rfl, _, rfl, r22, ⟨(by first | exact trivial | omega), (by first | exact RNB.no (by omega) rfl | exact RNB.v0 rw86 ⟨by omega, by omega⟩ ⟨by omega, by omega⟩ (by omega))⟩⟩
        ·
          refine GO.tableAt (n := 1) (tgt := 90) dX12_number_48 (ir_c rfl) c18 (by decide) (by decide) rfl (by decide) ?_
          refine GO.aload_n dX12_number_90 rfl rfl ?_
          refine GO.bipush dX12_number_91 rfl ?_
          refine GO.iload_n dX12_number_93 rfl rfl ?_
          refine GO.iload_n dX12_number_94 rfl rfl ?_
          refine GO.iconst dX12_number_95 ?_
          have q26 : -2147483648 ≤ p1 ∧ p1 ≤ 2147483647 := r_p1
          have q27 : -2147483648 ≤ vi V x 9 ∧ vi V x 9 ≤ 2147483647 := vi_ir
          refine GO.callV (ci := 11) (N := mX12_asked) dX12_number_96 (RX12, TX12, 151) rfl gV_RX12_563 h_x (t_X12_asked h_x (ir_c rfl) r_p1 r_p2 (ir_c rfl) (by omega) (by omega)) rfl [] rfl rfl (Nat.le_of_ble_eq_true rfl) rfl (k_is fun X28 V32 r29 h30 hF31 => ?_)
          have raw_asked := h30.2
          have rw96 := h30.2
          exact GO.reti rfl rfl dX12_number_99 ⟨rfl, _, rfl, r29, ⟨(by first | exact trivial | omega), (by first | exact RNB.no (by omega) rfl | exact RNB.v1 rw96 ⟨by omega, by omega⟩ ⟨by omega, by omega⟩ (by omega))⟩⟩
        ·
          refine GO.tableAt (n := 2) (tgt := 100) dX12_number_48 (ir_c rfl) c18 (by decide) (by decide) rfl (by decide) ?_
          refine GO.aload_n dX12_number_100 rfl rfl ?_
          refine GO.bipush dX12_number_101 rfl ?_
          refine GO.iload_n dX12_number_103 rfl rfl ?_
          refine GO.iload_n dX12_number_104 rfl rfl ?_
          refine GO.iconst dX12_number_105 ?_
          have q33 : -2147483648 ≤ p1 ∧ p1 ≤ 2147483647 := r_p1
          have q34 : -2147483648 ≤ vi V x 9 ∧ vi V x 9 ≤ 2147483647 := vi_ir
          refine GO.callV (ci := 11) (N := mX12_asked) dX12_number_106 (RX12, TX12, 151) rfl gV_RX12_563 h_x (t_X12_asked h_x (ir_c rfl) r_p1 r_p2 (ir_c rfl) (by omega) (by omega)) rfl [] rfl rfl (Nat.le_of_ble_eq_true rfl) rfl (k_is fun X35 V39 r36 h37 hF38 => ?_)
          have raw_asked := h37.2
          have rw106 := h37.2
          exact GO.reti rfl rfl dX12_number_109 ⟨rfl, _, rfl, r36, ⟨(by first | exact trivial | omega), (by first | exact RNB.no (by omega) rfl | exact RNB.v2 rw106 ⟨by omega, by omega⟩ ⟨by omega, by omega⟩ (by omega))⟩⟩
        ·
          refine GO.tableAt (n := 3) (tgt := 110) dX12_number_48 (ir_c rfl) c18 (by decide) (by decide) rfl (by decide) ?_
          refine GO.aload_n dX12_number_110 rfl rfl ?_
          refine GO.iload_n dX12_number_111 rfl rfl ?_
          refine GO.iload_n dX12_number_112 rfl rfl ?_
          have q40 : -2147483648 ≤ p1 ∧ p1 ≤ 2147483647 := r_p1
          have q41 : -2147483648 ≤ vi V x 9 ∧ vi V x 9 ≤ 2147483647 := vi_ir
          refine GO.callV (ci := 11) (N := mX12_isAsleep) dX12_number_113 (RX12, TX12, 151) rfl gV_RX12_418 h_x (t_X12_isAsleep h_x r_p1 r_p2 (by omega) (by omega)) rfl [] rfl rfl (Nat.le_of_ble_eq_true rfl) rfl (k_is fun X42 V46 r43 h44 hF45 => ?_)
          have raw_isAsleep := h44.2.2.2
          have rw113 := h44.2.2.2
          refine GO.if_eq (tgt := 123) dX12_number_116 (by decide) r43 (fun c47 => ?_) (fun c47 => ?_)
          ·
            refine GO.iconst dX12_number_123 ?_
            exact GO.reti rfl rfl dX12_number_124 ⟨rfl, _, rfl, (ir_c rfl), ⟨(by first | exact trivial | omega), (by first | exact RNB.no (by omega) rfl | exact RNB.v3 rw113 ⟨by omega, by omega⟩ ⟨by omega, by omega⟩ (by omega) (by omega))⟩⟩
          ·
            refine GO.iconst dX12_number_119 ?_
            refine GO.goto (tgt := 124) dX12_number_120 (by decide) ?_
            exact GO.reti rfl rfl dX12_number_124 ⟨rfl, _, rfl, (ir_c rfl), ⟨(by first | exact trivial | omega), (by first | exact RNB.no (by omega) rfl | exact RNB.v3 rw113 ⟨by omega, by omega⟩ ⟨by omega, by omega⟩ (by omega) (by omega))⟩⟩
      ·
        have q48 := h14.2.1 (by omega)
        refine GO.aload_n dX12_number_28 rfl rfl ?_
        refine GO.iload_n dX12_number_29 rfl rfl ?_
        refine GO.bipush dX12_number_30 rfl ?_
        refine GO.isub dX12_number_32 ?_
        refine GO.iconst dX12_number_33 ?_
        have q49 : -2147483648 ≤ p0 ∧ p0 ≤ 2147483647 := r_p0
        refine GO.idivP dX12_number_34 ⟨by omega, by omega⟩ (ir_c rfl) (by omega) (by omega) ?_
        refine GO.iload_n dX12_number_35 rfl rfl ?_
        refine GO.bipush dX12_number_36 rfl ?_
        refine GO.isub dX12_number_38 ?_
        refine GO.iconst dX12_number_39 ?_
        refine GO.iremP dX12_number_40 ⟨by omega, by omega⟩ (ir_c rfl) (by omega) (by omega) ?_
        refine GO.iload_n dX12_number_41 rfl rfl ?_
        refine GO.iload_n dX12_number_42 rfl rfl ?_
        have q50 : -2147483648 ≤ p1 ∧ p1 ≤ 2147483647 := r_p1
        have q51 : -2147483648 ≤ vi V x 9 ∧ vi V x 9 ≤ 2147483647 := vi_ir
        refine GO.callV (ci := 11) (N := mX12_caughtAtMost) dX12_number_43 (RX12, TX12, 151) rfl gV_RX12_560 h_x (t_X12_caughtAtMost h_x ⟨by omega, by omega⟩ ⟨by omega, by omega⟩ r_p1 r_p2 (by omega) (by omega)) rfl [] rfl rfl (Nat.le_of_ble_eq_true rfl) rfl (k_is fun X52 V56 r53 h54 hF55 => ?_)
        have raw_caughtAtMost := h54.2
        have rw43 := h54.2
        exact GO.reti rfl rfl dX12_number_46 ⟨rfl, _, rfl, r53, ⟨(by first | exact trivial | omega), (by first | exact RNB.no (by omega) rfl | exact RNB.vk rw43 ⟨by omega, by omega⟩ ⟨by omega, by omega⟩ ⟨by omega, by omega⟩)⟩⟩
    ·
      have q57 := h9.2.2 (by omega)
      refine GO.iconst dX12_number_15 ?_
      exact GO.reti rfl rfl dX12_number_16 ⟨rfl, _, rfl, (ir_c rfl), ⟨(by first | exact trivial | omega), (by first | exact RNB.no (by omega) rfl)⟩⟩

set_option maxHeartbeats 1000000 in
theorem t_X12_isWork {K : Kmap} {V : Vmap} {x : Nat} {p0 : Int} (h_x : K x = some (0, 11)) (r_p0 : ir p0) : MC mX12_isWork K V [.ref x, ti p0] (IP K V (fun X => (X = 0 ∨ X = 1) ∧ (X ≠ 0 → p0 ≥ 0 ∧ p0 ≤ 99 ∧ p0 < vi V x 66) ∧ (X = 0 → (p0 < 0 ∨ p0 ≥ vi V x 66)))) := by
  refine MC.start 0 (by decide +kernel) rfl rfl rfl (ls0 := [some (.ref x), some (ti p0)]) rfl ?_
  refine GO.iload_n dX12_isWork_0 rfl rfl ?_
  refine GO.if_lt (tgt := 16) dX12_isWork_1 (by decide) r_p0 (fun c1 => ?_) (fun c1 => ?_)
  ·
    refine GO.iconst dX12_isWork_16 ?_
    have q2 : -2147483648 ≤ vi V x 66 ∧ vi V x 66 ≤ 2147483647 := vi_ir
    exact GO.retz rfl rfl dX12_isWork_17 (Or.inl rfl) ⟨rfl, rfl, _, rfl, (ir_c rfl), ⟨Or.inl rfl, fun h => absurd rfl h, fun h => by omega⟩⟩
  ·
    refine GO.iload_n dX12_isWork_4 rfl rfl ?_
    refine GO.aload_n dX12_isWork_5 rfl rfl ?_
    refine GO.getI h_x fl_RX12_378 rfl rfl dX12_isWork_6 (fun l3 u4 => ?_)
    refine GO.icmp_ge (tgt := 16) dX12_isWork_9 (by decide) r_p0 vi_ir (fun c5 => ?_) (fun c5 => ?_)
    ·
      refine GO.iconst dX12_isWork_16 ?_
      have q6 : -2147483648 ≤ p0 ∧ p0 ≤ 2147483647 := r_p0
      exact GO.retz rfl rfl dX12_isWork_17 (Or.inl rfl) ⟨rfl, rfl, _, rfl, (ir_c rfl), ⟨Or.inl rfl, fun h => absurd rfl h, fun h => by omega⟩⟩
    ·
      refine GO.iconst dX12_isWork_12 ?_
      refine GO.goto (tgt := 17) dX12_isWork_13 (by decide) ?_
      have q7 : -2147483648 ≤ p0 ∧ p0 ≤ 2147483647 := r_p0
      exact GO.retz rfl rfl dX12_isWork_17 (Or.inr rfl) ⟨rfl, rfl, _, rfl, (ir_c rfl), ⟨Or.inr rfl, fun h => by omega, fun h => absurd h (by decide)⟩⟩

set_option maxHeartbeats 1000000 in
theorem t_X12_work {K : Kmap} {V : Vmap} {x : Nat} {p0 : Int} {p1 : Int} {p2 : Int} {p3 : Int} {p4 : Int} {p5 : Int} {p6 : Int} (h_x : K x = some (0, 11)) (r_p0 : ir p0) (r_p1 : ir p1) (r_p2 : ir p2) (r_p3 : ir p3) (r_p4 : ir p4) (r_p5 : ir p5) (r_p6 : ir p6) : MC mX12_work K V [.ref x, ti p0, ti p1, ti p2, ti p3, ti p4, ti p5, ti p6] (IS K (fun X V1 => (((X = (-1) ∧ vi V1 x 66 = vi V x 66) ∨ (X = vi V x 66 ∧ vi V1 x 66 = (vi V x 66 + 1)))) ∧ (X ≠ -1 ↔ WKD (vi V x 9) (vi V x 0) (vi V x 1) (vi V x 66) (vi V x 2) p0 p1 p2 p3 p4 p5 p6) ∧ (MNW V V1 x p0 p2 X))) := by
  refine MC.start 1 (by decide +kernel) rfl rfl rfl (ls0 := [some (.ref x), some (ti p0), some (ti p1), some (ti p2), some (ti p3), some (ti p4), some (ti p5), some (ti p6), none]) rfl ?_
  refine GO.useWT (fun hW1 => ?_)
  have ak2 := hW1.arr h_x 67 57 (by decide) rfl (by decide)
  have ak3 := hW1.arr h_x 69 59 (by decide) rfl (by decide)
  have ak4 := hW1.arr h_x 76 66 (by decide) rfl (by decide)
  have ak5 := hW1.arr h_x 77 67 (by decide) rfl (by decide)
  have ak6 := hW1.arr h_x 78 68 (by decide) rfl (by decide)
  refine GO.iload_n dX12_work_0 rfl rfl ?_
  refine GO.iconst dX12_work_1 ?_
  refine GO.bipush dX12_work_2 rfl ?_
  refine GO.callS (N := mX12_in) dX12_work_4 gS_RX12_371 (t_X12_in r_p0 (ir_c rfl) (ir_c rfl)) rfl [] rfl rfl (Nat.le_of_ble_eq_true rfl) rfl (k_ip fun X7 r8 h9 => ?_)
  have raw_in := h9.2.2.2
  have rw4 := h9.2.2.2
  refine GO.if_eq (tgt := 86) dX12_work_7 (by decide) r8 (fun c10 => ?_) (fun c10 => ?_)
  ·
    have q11 := h9.2.2.1 (by omega)
    refine GO.iconst dX12_work_86 ?_
    have q12 : -2147483648 ≤ vi V x 66 ∧ vi V x 66 ≤ 2147483647 := vi_ir
    exact GO.reti rfl rfl dX12_work_87 ⟨rfl, _, rfl, (ir_c rfl), ⟨(by first | exact trivial | omega), (by first | exact ⟨fun g => absurd rfl g, fun g => by unfold WKD at g; omega⟩ | exact ⟨fun _ => by unfold WKD; omega, fun _ => by omega⟩), (by first | exact MNW.no rfl | exact MNW.ok (by omega) (by omega) (by omega) (rfl : ar 67 V x = ar 67 V x) (rfl : ar 69 V x = ar 69 V x) (rfl : ar 76 V x = ar 76 V x) (rfl : ar 77 V x = ar 77 V x) (rfl : ar 78 V x = ar 78 V x) (by omega) (by omega) (by omega) (by omega) (by omega))⟩⟩
  ·
    have q13 := h9.2.1 (by omega)
    refine GO.aload_n dX12_work_10 rfl rfl ?_
    refine GO.iload_n dX12_work_11 rfl rfl ?_
    refine GO.callV (ci := 11) (N := mX12_isParty) dX12_work_12 (RX12, TX12, 151) rfl gV_RX12_406 h_x (t_X12_isParty h_x r_p1) rfl [] rfl rfl (Nat.le_of_ble_eq_true rfl) rfl (k_ip fun X14 r15 h16 => ?_)
    refine GO.if_eq (tgt := 86) dX12_work_15 (by decide) r15 (fun c17 => ?_) (fun c17 => ?_)
    ·
      have q18 := h16.2.2 (by omega)
      refine GO.iconst dX12_work_86 ?_
      have q19 : -2147483648 ≤ vi V x 66 ∧ vi V x 66 ≤ 2147483647 := vi_ir
      exact GO.reti rfl rfl dX12_work_87 ⟨rfl, _, rfl, (ir_c rfl), ⟨(by first | exact trivial | omega), (by first | exact ⟨fun g => absurd rfl g, fun g => by unfold WKD at g; omega⟩ | exact ⟨fun _ => by unfold WKD; omega, fun _ => by omega⟩), (by first | exact MNW.no rfl | exact MNW.ok (by omega) (by omega) (by omega) (rfl : ar 67 V x = ar 67 V x) (rfl : ar 69 V x = ar 69 V x) (rfl : ar 76 V x = ar 76 V x) (rfl : ar 77 V x = ar 77 V x) (rfl : ar 78 V x = ar 78 V x) (by omega) (by omega) (by omega) (by omega) (by omega))⟩⟩
    ·
      have q20 := h16.2.1 (by omega)
      refine GO.aload_n dX12_work_18 rfl rfl ?_
      refine GO.iload_n dX12_work_19 rfl rfl ?_
      refine GO.callV (ci := 11) (N := mX12_isCell) dX12_work_20 (RX12, TX12, 151) rfl gV_RX12_381 h_x (t_X12_isCell h_x r_p2) rfl [] rfl rfl (Nat.le_of_ble_eq_true rfl) rfl (k_ip fun X21 r22 h23 => ?_)
      have raw_isCell := h23.2.2.2
      have rw20 := h23.2.2.2
      refine GO.if_eq (tgt := 86) dX12_work_23 (by decide) r22 (fun c24 => ?_) (fun c24 => ?_)
      ·
        refine GO.iconst dX12_work_86 ?_
        have q25 : -2147483648 ≤ vi V x 66 ∧ vi V x 66 ≤ 2147483647 := vi_ir
        exact GO.reti rfl rfl dX12_work_87 ⟨rfl, _, rfl, (ir_c rfl), ⟨(by first | exact trivial | omega), (by first | exact ⟨fun g => absurd rfl g, fun g => by unfold WKD at g; omega⟩ | exact ⟨fun _ => by unfold WKD; omega, fun _ => by omega⟩), (by first | exact MNW.no rfl | exact MNW.ok (by omega) (by omega) (by omega) (rfl : ar 67 V x = ar 67 V x) (rfl : ar 69 V x = ar 69 V x) (rfl : ar 76 V x = ar 76 V x) (rfl : ar 77 V x = ar 77 V x) (rfl : ar 78 V x = ar 78 V x) (by omega) (by omega) (by omega) (by omega) (by omega))⟩⟩
      ·
        have q26 := h23.2.1 (by omega)
        refine GO.iload dX12_work_26 rfl ?_
        refine GO.aload_n dX12_work_28 rfl rfl ?_
        refine GO.getI h_x fl_RX12_396 rfl rfl dX12_work_29 (fun l27 u28 => ?_)
        refine GO.sipush dX12_work_32 rfl ?_
        refine GO.callS (N := mX12_in) dX12_work_35 gS_RX12_371 (t_X12_in r_p3 vi_ir (ir_c rfl)) rfl [] rfl rfl (Nat.le_of_ble_eq_true rfl) rfl (k_ip fun X29 r30 h31 => ?_)
        have raw_in := h31.2.2.2
        have rw35 := h31.2.2.2
        refine GO.if_eq (tgt := 86) dX12_work_38 (by decide) r30 (fun c32 => ?_) (fun c32 => ?_)
        ·
          have q33 := h31.2.2.1 (by omega)
          refine GO.iconst dX12_work_86 ?_
          have q34 : -2147483648 ≤ vi V x 66 ∧ vi V x 66 ≤ 2147483647 := vi_ir
          exact GO.reti rfl rfl dX12_work_87 ⟨rfl, _, rfl, (ir_c rfl), ⟨(by first | exact trivial | omega), (by first | exact ⟨fun g => absurd rfl g, fun g => by unfold WKD at g; omega⟩ | exact ⟨fun _ => by unfold WKD; omega, fun _ => by omega⟩), (by first | exact MNW.no rfl | exact MNW.ok (by omega) (by omega) (by omega) (rfl : ar 67 V x = ar 67 V x) (rfl : ar 69 V x = ar 69 V x) (rfl : ar 76 V x = ar 76 V x) (rfl : ar 77 V x = ar 77 V x) (rfl : ar 78 V x = ar 78 V x) (by omega) (by omega) (by omega) (by omega) (by omega))⟩⟩
        ·
          have q35 := h31.2.1 (by omega)
          refine GO.iload dX12_work_41 rfl ?_
          refine GO.iload dX12_work_43 rfl ?_
          refine GO.sipush dX12_work_45 rfl ?_
          refine GO.callS (N := mX12_in) dX12_work_48 gS_RX12_371 (t_X12_in r_p4 r_p3 (ir_c rfl)) rfl [] rfl rfl (Nat.le_of_ble_eq_true rfl) rfl (k_ip fun X36 r37 h38 => ?_)
          have raw_in := h38.2.2.2
          have rw48 := h38.2.2.2
          refine GO.if_eq (tgt := 86) dX12_work_51 (by decide) r37 (fun c39 => ?_) (fun c39 => ?_)
          ·
            have q40 := h38.2.2.1 (by omega)
            refine GO.iconst dX12_work_86 ?_
            have q41 : -2147483648 ≤ vi V x 66 ∧ vi V x 66 ≤ 2147483647 := vi_ir
            exact GO.reti rfl rfl dX12_work_87 ⟨rfl, _, rfl, (ir_c rfl), ⟨(by first | exact trivial | omega), (by first | exact ⟨fun g => absurd rfl g, fun g => by unfold WKD at g; omega⟩ | exact ⟨fun _ => by unfold WKD; omega, fun _ => by omega⟩), (by first | exact MNW.no rfl | exact MNW.ok (by omega) (by omega) (by omega) (rfl : ar 67 V x = ar 67 V x) (rfl : ar 69 V x = ar 69 V x) (rfl : ar 76 V x = ar 76 V x) (rfl : ar 77 V x = ar 77 V x) (rfl : ar 78 V x = ar 78 V x) (by omega) (by omega) (by omega) (by omega) (by omega))⟩⟩
          ·
            have q42 := h38.2.1 (by omega)
            refine GO.iload dX12_work_54 rfl ?_
            refine GO.iconst dX12_work_56 ?_
            refine GO.sipush dX12_work_57 rfl ?_
            refine GO.callS (N := mX12_in) dX12_work_60 gS_RX12_371 (t_X12_in r_p5 (ir_c rfl) (ir_c rfl)) rfl [] rfl rfl (Nat.le_of_ble_eq_true rfl) rfl (k_ip fun X43 r44 h45 => ?_)
            have raw_in := h45.2.2.2
            have rw60 := h45.2.2.2
            refine GO.if_eq (tgt := 86) dX12_work_63 (by decide) r44 (fun c46 => ?_) (fun c46 => ?_)
            ·
              have q47 := h45.2.2.1 (by omega)
              refine GO.iconst dX12_work_86 ?_
              have q48 : -2147483648 ≤ vi V x 66 ∧ vi V x 66 ≤ 2147483647 := vi_ir
              exact GO.reti rfl rfl dX12_work_87 ⟨rfl, _, rfl, (ir_c rfl), ⟨(by first | exact trivial | omega), (by first | exact ⟨fun g => absurd rfl g, fun g => by unfold WKD at g; omega⟩ | exact ⟨fun _ => by unfold WKD; omega, fun _ => by omega⟩), (by first | exact MNW.no rfl | exact MNW.ok (by omega) (by omega) (by omega) (rfl : ar 67 V x = ar 67 V x) (rfl : ar 69 V x = ar 69 V x) (rfl : ar 76 V x = ar 76 V x) (rfl : ar 77 V x = ar 77 V x) (rfl : ar 78 V x = ar 78 V x) (by omega) (by omega) (by omega) (by omega) (by omega))⟩⟩
            ·
              have q49 := h45.2.1 (by omega)
              refine GO.iload dX12_work_66 rfl ?_
              refine GO.iconst dX12_work_68 ?_
              refine GO.bipush dX12_work_69 rfl ?_
              refine GO.callS (N := mX12_in) dX12_work_71 gS_RX12_371 (t_X12_in r_p6 (ir_c rfl) (ir_c rfl)) rfl [] rfl rfl (Nat.le_of_ble_eq_true rfl) rfl (k_ip fun X50 r51 h52 => ?_)
              have raw_in := h52.2.2.2
              have rw71 := h52.2.2.2
              refine GO.if_eq (tgt := 86) dX12_work_74 (by decide) r51 (fun c53 => ?_) (fun c53 => ?_)
              ·
                have q54 := h52.2.2.1 (by omega)
                refine GO.iconst dX12_work_86 ?_
                have q55 : -2147483648 ≤ vi V x 66 ∧ vi V x 66 ≤ 2147483647 := vi_ir
                exact GO.reti rfl rfl dX12_work_87 ⟨rfl, _, rfl, (ir_c rfl), ⟨(by first | exact trivial | omega), (by first | exact ⟨fun g => absurd rfl g, fun g => by unfold WKD at g; omega⟩ | exact ⟨fun _ => by unfold WKD; omega, fun _ => by omega⟩), (by first | exact MNW.no rfl | exact MNW.ok (by omega) (by omega) (by omega) (rfl : ar 67 V x = ar 67 V x) (rfl : ar 69 V x = ar 69 V x) (rfl : ar 76 V x = ar 76 V x) (rfl : ar 77 V x = ar 77 V x) (rfl : ar 78 V x = ar 78 V x) (by omega) (by omega) (by omega) (by omega) (by omega))⟩⟩
              ·
                have q56 := h52.2.1 (by omega)
                refine GO.aload_n dX12_work_77 rfl rfl ?_
                refine GO.getI h_x fl_RX12_378 rfl rfl dX12_work_78 (fun l57 u58 => ?_)
                refine GO.bipush dX12_work_81 rfl ?_
                refine GO.icmp_ne (tgt := 88) dX12_work_83 (by decide) vi_ir (ir_c rfl) (fun c59 => ?_) (fun c59 => ?_)
                ·
                  refine GO.aload_n dX12_work_88 rfl rfl ?_
                  refine GO.getI h_x fl_RX12_378 rfl rfl dX12_work_89 (fun l60 u61 => ?_)
                  refine GO.name (fun z62 hz63 => ?_)
                  have r64 : ir z62 := hz63 ▸ vi_ir
                  refine GO.istore (ls1 := [some (.ref x), some (ti p0), some (ti p1), some (ti p2), some (ti p3), some (ti p4), some (ti p5), some (ti p6), some (ti z62)]) dX12_work_92 rfl rfl ?_
                  refine GO.aload_n dX12_work_94 rfl rfl ?_
                  refine GO.getA (n := 100) h_x fl_RX12_163 rfl rfl rfl rfl dX12_work_95 (fun hv66 h65 => ?_)
                  refine GO.iload dX12_work_98 rfl ?_
                  refine GO.iload_n dX12_work_100 rfl rfl ?_
                  refine GO.iast (t := 57) rfl rfl (by decide +kernel) h65 r64 (by omega) (by omega) r_p0 (r_p0).1 (r_p0).2 dX12_work_101 (fun V68 e67 => ?_)
                  have ak69 := tk_put e67 ak2 h_x (vq_of hv66) r_p0 (rfl : ar 67 V x = ar 67 V x)
                  have ak70 := tk_oth e67 ak3 h_x h65 (by decide) (by decide) (rfl : ar 69 V x = ar 69 V x)
                  have ak71 := tk_oth e67 ak4 h_x h65 (by decide) (by decide) (rfl : ar 76 V x = ar 76 V x)
                  have ak72 := tk_oth e67 ak5 h_x h65 (by decide) (by decide) (rfl : ar 77 V x = ar 77 V x)
                  have ak73 := tk_oth e67 ak6 h_x h65 (by decide) (by decide) (rfl : ar 78 V x = ar 78 V x)
                  refine GO.aload_n dX12_work_102 rfl rfl ?_
                  refine GO.getA (n := 100) h_x fl_RX12_166 rfl rfl rfl rfl dX12_work_103 (fun hv75 h74 => ?_)
                  refine GO.iload dX12_work_106 rfl ?_
                  refine GO.iload_n dX12_work_108 rfl rfl ?_
                  have q77 : -2147483648 ≤ p1 ∧ p1 ≤ 2147483647 := r_p1
                  have q78 : -2147483648 ≤ vi V x 9 ∧ vi V x 9 ≤ 2147483647 := vi_ir
                  refine GO.iast (t := 58) rfl rfl (by decide +kernel) h74 r64 (by omega) (by omega) r_p1 (by omega) (by omega) dX12_work_109 (fun V79 e76 => ?_)
                  have ak80 := tk_oth e76 ak69.1 h_x h74 (by decide) (by decide) ak69.2
                  have ak81 := tk_oth e76 ak70.1 h_x h74 (by decide) (by decide) ak70.2
                  have ak82 := tk_oth e76 ak71.1 h_x h74 (by decide) (by decide) ak71.2
                  have ak83 := tk_oth e76 ak72.1 h_x h74 (by decide) (by decide) ak72.2
                  have ak84 := tk_oth e76 ak73.1 h_x h74 (by decide) (by decide) ak73.2
                  refine GO.aload_n dX12_work_110 rfl rfl ?_
                  refine GO.getA (n := 100) h_x fl_RX12_169 rfl rfl rfl rfl dX12_work_111 (fun hv86 h85 => ?_)
                  refine GO.iload dX12_work_114 rfl ?_
                  refine GO.iload_n dX12_work_116 rfl rfl ?_
                  have q88 : -2147483648 ≤ p2 ∧ p2 ≤ 2147483647 := r_p2
                  refine GO.iast (t := 59) rfl rfl (by decide +kernel) h85 r64 (by omega) (by omega) r_p2 (by omega) (by omega) dX12_work_117 (fun V89 e87 => ?_)
                  have ak90 := tk_oth e87 ak80.1 h_x h85 (by decide) (by decide) ak80.2
                  have ak91 := tk_put e87 ak81.1 h_x (vq_of hv86) r_p2 ak81.2
                  have ak92 := tk_oth e87 ak82.1 h_x h85 (by decide) (by decide) ak82.2
                  have ak93 := tk_oth e87 ak83.1 h_x h85 (by decide) (by decide) ak83.2
                  have ak94 := tk_oth e87 ak84.1 h_x h85 (by decide) (by decide) ak84.2
                  refine GO.aload_n dX12_work_118 rfl rfl ?_
                  refine GO.getA (n := 100) h_x fl_RX12_172 rfl rfl rfl rfl dX12_work_119 (fun hv96 h95 => ?_)
                  refine GO.iload dX12_work_122 rfl ?_
                  refine GO.iload dX12_work_124 rfl ?_
                  refine GO.iast (t := 60) rfl rfl (by decide +kernel) h95 r64 (by omega) (by omega) r_p3 (r_p3).1 (r_p3).2 dX12_work_126 (fun V98 e97 => ?_)
                  have ak99 := tk_oth e97 ak90.1 h_x h95 (by decide) (by decide) ak90.2
                  have ak100 := tk_oth e97 ak91.1 h_x h95 (by decide) (by decide) ak91.2
                  have ak101 := tk_oth e97 ak92.1 h_x h95 (by decide) (by decide) ak92.2
                  have ak102 := tk_oth e97 ak93.1 h_x h95 (by decide) (by decide) ak93.2
                  have ak103 := tk_oth e97 ak94.1 h_x h95 (by decide) (by decide) ak94.2
                  refine GO.aload_n dX12_work_127 rfl rfl ?_
                  refine GO.getA (n := 100) h_x fl_RX12_175 rfl rfl rfl rfl dX12_work_128 (fun hv105 h104 => ?_)
                  refine GO.iload dX12_work_131 rfl ?_
                  refine GO.iload dX12_work_133 rfl ?_
                  refine GO.iast (t := 61) rfl rfl (by decide +kernel) h104 r64 (by omega) (by omega) r_p4 (r_p4).1 (r_p4).2 dX12_work_135 (fun V107 e106 => ?_)
                  have ak108 := tk_oth e106 ak99.1 h_x h104 (by decide) (by decide) ak99.2
                  have ak109 := tk_oth e106 ak100.1 h_x h104 (by decide) (by decide) ak100.2
                  have ak110 := tk_oth e106 ak101.1 h_x h104 (by decide) (by decide) ak101.2
                  have ak111 := tk_oth e106 ak102.1 h_x h104 (by decide) (by decide) ak102.2
                  have ak112 := tk_oth e106 ak103.1 h_x h104 (by decide) (by decide) ak103.2
                  refine GO.aload_n dX12_work_136 rfl rfl ?_
                  refine GO.getA (n := 100) h_x fl_RX12_178 rfl rfl rfl rfl dX12_work_137 (fun hv114 h113 => ?_)
                  refine GO.iload dX12_work_140 rfl ?_
                  refine GO.iload dX12_work_142 rfl ?_
                  refine GO.iast (t := 62) rfl rfl (by decide +kernel) h113 r64 (by omega) (by omega) r_p5 (r_p5).1 (r_p5).2 dX12_work_144 (fun V116 e115 => ?_)
                  have ak117 := tk_oth e115 ak108.1 h_x h113 (by decide) (by decide) ak108.2
                  have ak118 := tk_oth e115 ak109.1 h_x h113 (by decide) (by decide) ak109.2
                  have ak119 := tk_oth e115 ak110.1 h_x h113 (by decide) (by decide) ak110.2
                  have ak120 := tk_oth e115 ak111.1 h_x h113 (by decide) (by decide) ak111.2
                  have ak121 := tk_oth e115 ak112.1 h_x h113 (by decide) (by decide) ak112.2
                  refine GO.aload_n dX12_work_145 rfl rfl ?_
                  refine GO.getA (n := 100) h_x fl_RX12_181 rfl rfl rfl rfl dX12_work_146 (fun hv123 h122 => ?_)
                  refine GO.iload dX12_work_149 rfl ?_
                  refine GO.iload dX12_work_151 rfl ?_
                  refine GO.iast (t := 63) rfl rfl (by decide +kernel) h122 r64 (by omega) (by omega) r_p6 (r_p6).1 (r_p6).2 dX12_work_153 (fun V125 e124 => ?_)
                  have ak126 := tk_oth e124 ak117.1 h_x h122 (by decide) (by decide) ak117.2
                  have ak127 := tk_oth e124 ak118.1 h_x h122 (by decide) (by decide) ak118.2
                  have ak128 := tk_oth e124 ak119.1 h_x h122 (by decide) (by decide) ak119.2
                  have ak129 := tk_oth e124 ak120.1 h_x h122 (by decide) (by decide) ak120.2
                  have ak130 := tk_oth e124 ak121.1 h_x h122 (by decide) (by decide) ak121.2
                  refine GO.aload_n dX12_work_154 rfl rfl ?_
                  refine GO.getA (n := 100) h_x fl_RX12_190 rfl rfl rfl rfl dX12_work_155 (fun hv132 h131 => ?_)
                  refine GO.iload dX12_work_158 rfl ?_
                  refine GO.iconst dX12_work_160 ?_
                  refine GO.iast (t := 66) rfl rfl (by decide +kernel) h131 r64 (by omega) (by omega) (ir_c rfl) (by decide) (by decide) dX12_work_161 (fun V134 e133 => ?_)
                  have ak135 := tk_oth e133 ak126.1 h_x h131 (by decide) (by decide) ak126.2
                  have ak136 := tk_oth e133 ak127.1 h_x h131 (by decide) (by decide) ak127.2
                  have ak137 := tk_put e133 ak128.1 h_x (vq_of hv132) (ir_c rfl) ak128.2
                  have ak138 := tk_oth e133 ak129.1 h_x h131 (by decide) (by decide) ak129.2
                  have ak139 := tk_oth e133 ak130.1 h_x h131 (by decide) (by decide) ak130.2
                  refine GO.aload_n dX12_work_162 rfl rfl ?_
                  refine GO.getA (n := 100) h_x fl_RX12_193 rfl rfl rfl rfl dX12_work_163 (fun hv141 h140 => ?_)
                  refine GO.iload dX12_work_166 rfl ?_
                  refine GO.iconst dX12_work_168 ?_
                  refine GO.iast (t := 67) rfl rfl (by decide +kernel) h140 r64 (by omega) (by omega) (ir_c rfl) (by decide) (by decide) dX12_work_169 (fun V143 e142 => ?_)
                  have ak144 := tk_oth e142 ak135.1 h_x h140 (by decide) (by decide) ak135.2
                  have ak145 := tk_oth e142 ak136.1 h_x h140 (by decide) (by decide) ak136.2
                  have ak146 := tk_oth e142 ak137.1 h_x h140 (by decide) (by decide) ak137.2
                  have ak147 := tk_put e142 ak138.1 h_x (vq_of hv141) (ir_c rfl) ak138.2
                  have ak148 := tk_oth e142 ak139.1 h_x h140 (by decide) (by decide) ak139.2
                  refine GO.aload_n dX12_work_170 rfl rfl ?_
                  refine GO.getA (n := 100) h_x fl_RX12_196 rfl rfl rfl rfl dX12_work_171 (fun hv150 h149 => ?_)
                  refine GO.iload dX12_work_174 rfl ?_
                  refine GO.iconst dX12_work_176 ?_
                  refine GO.iast (t := 68) rfl rfl (by decide +kernel) h149 r64 (by omega) (by omega) (ir_c rfl) (by decide) (by decide) dX12_work_177 (fun V152 e151 => ?_)
                  have ak153 := tk_oth e151 ak144.1 h_x h149 (by decide) (by decide) ak144.2
                  have ak154 := tk_oth e151 ak145.1 h_x h149 (by decide) (by decide) ak145.2
                  have ak155 := tk_oth e151 ak146.1 h_x h149 (by decide) (by decide) ak146.2
                  have ak156 := tk_oth e151 ak147.1 h_x h149 (by decide) (by decide) ak147.2
                  have ak157 := tk_put e151 ak148.1 h_x (vq_of hv150) (ir_c rfl) ak148.2
                  refine GO.aload_n dX12_work_178 rfl rfl ?_
                  refine GO.getA (n := 100) h_x fl_RX12_199 rfl rfl rfl rfl dX12_work_179 (fun hv159 h158 => ?_)
                  refine GO.iload dX12_work_182 rfl ?_
                  refine GO.iconst dX12_work_184 ?_
                  refine GO.iast (t := 69) rfl rfl (by decide +kernel) h158 r64 (by omega) (by omega) (ir_c rfl) (by decide) (by decide) dX12_work_185 (fun V161 e160 => ?_)
                  have ak162 := tk_oth e160 ak153.1 h_x h158 (by decide) (by decide) ak153.2
                  have ak163 := tk_oth e160 ak154.1 h_x h158 (by decide) (by decide) ak154.2
                  have ak164 := tk_oth e160 ak155.1 h_x h158 (by decide) (by decide) ak155.2
                  have ak165 := tk_oth e160 ak156.1 h_x h158 (by decide) (by decide) ak156.2
                  have ak166 := tk_oth e160 ak157.1 h_x h158 (by decide) (by decide) ak157.2
                  refine GO.aload_n dX12_work_186 rfl rfl ?_
                  refine GO.aload_n dX12_work_187 rfl rfl ?_
                  refine GO.getI h_x fl_RX12_378 rfl rfl dX12_work_188 (fun l167 u168 => ?_)
                  have e179 : vi V68 x 66 = vi V x 66 := vi_up e67 (Or.inl (K_ne h_x h65 (by decide)))
                  have e178 : vi V79 x 66 = vi V68 x 66 := vi_up e76 (Or.inl (K_ne h_x h74 (by decide)))
                  have e177 : vi V89 x 66 = vi V79 x 66 := vi_up e87 (Or.inl (K_ne h_x h85 (by decide)))
                  have e176 : vi V98 x 66 = vi V89 x 66 := vi_up e97 (Or.inl (K_ne h_x h95 (by decide)))
                  have e175 : vi V107 x 66 = vi V98 x 66 := vi_up e106 (Or.inl (K_ne h_x h104 (by decide)))
                  have e174 : vi V116 x 66 = vi V107 x 66 := vi_up e115 (Or.inl (K_ne h_x h113 (by decide)))
                  have e173 : vi V125 x 66 = vi V116 x 66 := vi_up e124 (Or.inl (K_ne h_x h122 (by decide)))
                  have e172 : vi V134 x 66 = vi V125 x 66 := vi_up e133 (Or.inl (K_ne h_x h131 (by decide)))
                  have e171 : vi V143 x 66 = vi V134 x 66 := vi_up e142 (Or.inl (K_ne h_x h140 (by decide)))
                  have e170 : vi V152 x 66 = vi V143 x 66 := vi_up e151 (Or.inl (K_ne h_x h149 (by decide)))
                  have e169 : vi V161 x 66 = vi V152 x 66 := vi_up e160 (Or.inl (K_ne h_x h158 (by decide)))
                  refine GO.iconst dX12_work_191 ?_
                  refine GO.iadd dX12_work_192 ?_
                  refine GO.putI h_x fp_RX12_378 rfl (by decide +kernel) ⟨by omega, by omega⟩ (by omega) (by omega) dX12_work_193 (fun V181 e180 => ?_)
                  have ak182 := tk_fld e180 ak162.1 h_x (by decide) ak162.2
                  have ak183 := tk_fld e180 ak163.1 h_x (by decide) ak163.2
                  have ak184 := tk_fld e180 ak164.1 h_x (by decide) ak164.2
                  have ak185 := tk_fld e180 ak165.1 h_x (by decide) ak165.2
                  have ak186 := tk_fld e180 ak166.1 h_x (by decide) ak166.2
                  refine GO.iload dX12_work_196 rfl ?_
                  have e187 : vi V181 x 66 = (vi V161 x 66) + 1 := upd2_int e180 ⟨by omega, by omega⟩
                  exact GO.reti rfl rfl dX12_work_198 ⟨rfl, _, rfl, r64, ⟨(by first | exact trivial | omega), (by first | exact ⟨fun g => absurd rfl g, fun g => by unfold WKD at g; omega⟩ | exact ⟨fun _ => by unfold WKD; omega, fun _ => by omega⟩), (by first | exact MNW.no rfl | exact MNW.ok (by omega) (by omega) (by omega) ak182.2 ak183.2 ak184.2 ak185.2 ak186.2 (by omega) (by omega) (by omega) (by omega) (by omega))⟩⟩
                ·
                  refine GO.iconst dX12_work_86 ?_
                  exact GO.reti rfl rfl dX12_work_87 ⟨rfl, _, rfl, (ir_c rfl), ⟨(by first | exact trivial | omega), (by first | exact ⟨fun g => absurd rfl g, fun g => by unfold WKD at g; omega⟩ | exact ⟨fun _ => by unfold WKD; omega, fun _ => by omega⟩), (by first | exact MNW.no rfl | exact MNW.ok (by omega) (by omega) (by omega) (rfl : ar 67 V x = ar 67 V x) (rfl : ar 69 V x = ar 69 V x) (rfl : ar 76 V x = ar 76 V x) (rfl : ar 77 V x = ar 77 V x) (rfl : ar 78 V x = ar 78 V x) (by omega) (by omega) (by omega) (by omega) (by omega))⟩⟩

set_option maxHeartbeats 1000000 in
theorem t_X12_tell {K : Kmap} {V : Vmap} {x : Nat} {p0 : Int} {p1 : Int} (h_x : K x = some (0, 11)) (r_p0 : ir p0) (r_p1 : ir p1) : MC mX12_tell K V [.ref x, ti p0, ti p1] (IS K (fun X V1 => (X = 0 ∨ X = 1) ∧ (X ≠ 0 → True) ∧ (X = 0 → True) ∧ (MWC (TLq p1) (TLr p1 (vi V x 2)) V V1 x p0 X))) := by
  refine MC.start 0 (by decide +kernel) rfl rfl rfl (ls0 := [some (.ref x), some (ti p0), some (ti p1)]) rfl ?_
  refine GO.useWT (fun hW1 => ?_)
  have ak2 := hW1.arr h_x 67 57 (by decide) rfl (by decide)
  have ak3 := hW1.arr h_x 69 59 (by decide) rfl (by decide)
  have ak4 := hW1.arr h_x 76 66 (by decide) rfl (by decide)
  have ak5 := hW1.arr h_x 77 67 (by decide) rfl (by decide)
  have ak6 := hW1.arr h_x 78 68 (by decide) rfl (by decide)
  refine GO.aload_n dX12_tell_0 rfl rfl ?_
  refine GO.iload_n dX12_tell_1 rfl rfl ?_
  refine GO.callV (ci := 11) (N := mX12_isWork) dX12_tell_2 (RX12, TX12, 151) rfl gV_RX12_566 h_x (t_X12_isWork h_x r_p0) rfl [] rfl rfl (Nat.le_of_ble_eq_true rfl) rfl (k_ip fun X7 r8 h9 => ?_)
  refine GO.if_eq (tgt := 40) dX12_tell_5 (by decide) r8 (fun c10 => ?_) (fun c10 => ?_)
  ·
    have q11 := h9.2.2 (by omega)
    refine GO.iconst dX12_tell_40 ?_
    exact GO.retz rfl rfl dX12_tell_41 (Or.inl rfl) ⟨rfl, _, rfl, (ir_c rfl), ⟨Or.inl rfl, fun _ => trivial, fun _ => trivial, (by first | exact MWC.nw (by omega) rfl | exact MTL.nd (by omega) rfl | exact MTL.o76 (by omega) (by omega) (by omega) (by omega) (MWP.m76 (by omega) (rfl : ar 67 V x = ar 67 V x) (rfl : ar 69 V x = ar 69 V x) (rfl : ar 76 V x = ar 76 V x) (rfl : ar 77 V x = ar 77 V x) (rfl : ar 78 V x = ar 78 V x) rfl) (by omega) | exact MTL.o77 (by omega) (by omega) (by omega) (by omega) (MWP.m77 (by omega) (rfl : ar 67 V x = ar 67 V x) (rfl : ar 69 V x = ar 69 V x) (rfl : ar 76 V x = ar 76 V x) (rfl : ar 77 V x = ar 77 V x) (rfl : ar 78 V x = ar 78 V x) rfl) (by omega))⟩⟩
  ·
    have q12 := h9.2.1 (by omega)
    refine GO.iload_n dX12_tell_8 rfl rfl ?_
    refine GO.iconst dX12_tell_9 ?_
    refine GO.iconst dX12_tell_10 ?_
    refine GO.callS (N := mX12_in) dX12_tell_11 gS_RX12_371 (t_X12_in r_p1 (ir_c rfl) (ir_c rfl)) rfl [] rfl rfl (Nat.le_of_ble_eq_true rfl) rfl (k_ip fun X13 r14 h15 => ?_)
    have raw_in := h15.2.2.2
    have rw11 := h15.2.2.2
    refine GO.if_eq (tgt := 40) dX12_tell_14 (by decide) r14 (fun c16 => ?_) (fun c16 => ?_)
    ·
      have q17 := h15.2.2.1 (by omega)
      refine GO.iconst dX12_tell_40 ?_
      exact GO.retz rfl rfl dX12_tell_41 (Or.inl rfl) ⟨rfl, _, rfl, (ir_c rfl), ⟨Or.inl rfl, fun _ => trivial, fun _ => trivial, (by first | exact MWC.nw (by omega) rfl | exact MTL.nd (by omega) rfl | exact MTL.o76 (by omega) (by omega) (by omega) (by omega) (MWP.m76 (by omega) (rfl : ar 67 V x = ar 67 V x) (rfl : ar 69 V x = ar 69 V x) (rfl : ar 76 V x = ar 76 V x) (rfl : ar 77 V x = ar 77 V x) (rfl : ar 78 V x = ar 78 V x) rfl) (by omega) | exact MTL.o77 (by omega) (by omega) (by omega) (by omega) (MWP.m77 (by omega) (rfl : ar 67 V x = ar 67 V x) (rfl : ar 69 V x = ar 69 V x) (rfl : ar 76 V x = ar 76 V x) (rfl : ar 77 V x = ar 77 V x) (rfl : ar 78 V x = ar 78 V x) rfl) (by omega))⟩⟩
    ·
      have q18 := h15.2.1 (by omega)
      refine GO.iload_n dX12_tell_17 rfl rfl ?_
      refine GO.if_ne (tgt := 30) dX12_tell_18 (by decide) r_p1 (fun c19 => ?_) (fun c19 => ?_)
      ·
        refine GO.aload_n dX12_tell_30 rfl rfl ?_
        refine GO.getA (n := 100) h_x fl_RX12_193 rfl rfl rfl rfl dX12_tell_31 (fun hv21 h20 => ?_)
        refine GO.iload_n dX12_tell_34 rfl rfl ?_
        have q22 : -2147483648 ≤ p0 ∧ p0 ≤ 2147483647 := r_p0
        have q23 : -2147483648 ≤ vi V x 66 ∧ vi V x 66 ≤ 2147483647 := vi_ir
        refine GO.iald (t := 67) rfl rfl h20 r_p0 (by omega) (by omega) dX12_tell_35 (fun _ _ => ?_)
        refine GO.iconst dX12_tell_36 ?_
        refine GO.icmp_eq (tgt := 42) dX12_tell_37 (by decide) vi_ir (ir_c rfl) (fun c24 => ?_) (fun c24 => ?_)
        ·
          refine GO.iload_n dX12_tell_42 rfl rfl ?_
          have q26 : -2147483648 ≤ p1 ∧ p1 ≤ 2147483647 := r_p1
          refine GO.if_ne (tgt := 59) dX12_tell_43 (by decide) r_p1 (fun c25 => ?_) (fun h => by exfalso; omega)
          refine GO.aload_n dX12_tell_59 rfl rfl ?_
          refine GO.getRaw h_x fl_RX12_193 hv21 dX12_tell_60 ?_
          refine GO.iload_n dX12_tell_63 rfl rfl ?_
          refine GO.aload_n dX12_tell_64 rfl rfl ?_
          refine GO.getI h_x fl_RX12_396 rfl rfl dX12_tell_65 (fun l29 u30 => ?_)
          refine GO.iast (t := 67) rfl rfl (by decide +kernel) h20 r_p0 (by omega) (by omega) vi_ir (vi_ir).1 (vi_ir).2 dX12_tell_68 (fun V32 e31 => ?_)
          have ak33 := tk_oth e31 ak2 h_x h20 (by decide) (by decide) (rfl : ar 67 V x = ar 67 V x)
          have ak34 := tk_oth e31 ak3 h_x h20 (by decide) (by decide) (rfl : ar 69 V x = ar 69 V x)
          have ak35 := tk_oth e31 ak4 h_x h20 (by decide) (by decide) (rfl : ar 76 V x = ar 76 V x)
          have ak36 := tk_put e31 ak5 h_x (vq_of hv21) vi_ir (rfl : ar 77 V x = ar 77 V x)
          have ak37 := tk_oth e31 ak6 h_x h20 (by decide) (by decide) (rfl : ar 78 V x = ar 78 V x)
          refine GO.iconst dX12_tell_69 ?_
          have e38 : vi V32 x 66 = vi V x 66 := vi_up e31 (Or.inl (K_ne h_x h20 (by decide)))
          exact GO.retz rfl rfl dX12_tell_70 (Or.inr rfl) ⟨rfl, _, rfl, (ir_c rfl), ⟨Or.inr rfl, fun _ => trivial, fun _ => trivial, (by first | exact MWC.nw (by omega) rfl | exact MTL.nd (by omega) rfl | exact MTL.o76 (by omega) (by omega) (by omega) (by omega) (MWP.m76 (by omega) ak33.2 ak34.2 ak35.2 ak36.2 ak37.2 rfl) (by omega) | exact MTL.o77 (by omega) (by omega) (by omega) (by omega) (MWP.m77 (by omega) ak33.2 ak34.2 ak35.2 ak36.2 ak37.2 rfl) (by omega))⟩⟩
        ·
          refine GO.iconst dX12_tell_40 ?_
          exact GO.retz rfl rfl dX12_tell_41 (Or.inl rfl) ⟨rfl, _, rfl, (ir_c rfl), ⟨Or.inl rfl, fun _ => trivial, fun _ => trivial, (by first | exact MWC.nw (by omega) rfl | exact MTL.nd (by omega) rfl | exact MTL.o76 (by omega) (by omega) (by omega) (by omega) (MWP.m76 (by omega) (rfl : ar 67 V x = ar 67 V x) (rfl : ar 69 V x = ar 69 V x) (rfl : ar 76 V x = ar 76 V x) (rfl : ar 77 V x = ar 77 V x) (rfl : ar 78 V x = ar 78 V x) rfl) (by omega) | exact MTL.o77 (by omega) (by omega) (by omega) (by omega) (MWP.m77 (by omega) (rfl : ar 67 V x = ar 67 V x) (rfl : ar 69 V x = ar 69 V x) (rfl : ar 76 V x = ar 76 V x) (rfl : ar 77 V x = ar 77 V x) (rfl : ar 78 V x = ar 78 V x) rfl) (by omega))⟩⟩
      ·
        refine GO.aload_n dX12_tell_21 rfl rfl ?_
        refine GO.getA (n := 100) h_x fl_RX12_190 rfl rfl rfl rfl dX12_tell_22 (fun hv40 h39 => ?_)
        refine GO.iload_n dX12_tell_25 rfl rfl ?_
        have q41 : -2147483648 ≤ p0 ∧ p0 ≤ 2147483647 := r_p0
        have q42 : -2147483648 ≤ vi V x 66 ∧ vi V x 66 ≤ 2147483647 := vi_ir
        refine GO.iald (t := 66) rfl rfl h39 r_p0 (by omega) (by omega) dX12_tell_26 (fun _ _ => ?_)
        refine GO.goto (tgt := 36) dX12_tell_27 (by decide) ?_
        refine GO.iconst dX12_tell_36 ?_
        refine GO.icmp_eq (tgt := 42) dX12_tell_37 (by decide) vi_ir (ir_c rfl) (fun c43 => ?_) (fun c43 => ?_)
        ·
          refine GO.iload_n dX12_tell_42 rfl rfl ?_
          have q45 : -2147483648 ≤ p1 ∧ p1 ≤ 2147483647 := r_p1
          refine GO.if_ne (tgt := 59) dX12_tell_43 (by decide) r_p1 (fun h => by exfalso; omega) (fun c44 => ?_)
          refine GO.aload_n dX12_tell_46 rfl rfl ?_
          refine GO.getRaw h_x fl_RX12_190 hv40 dX12_tell_47 ?_
          refine GO.iload_n dX12_tell_50 rfl rfl ?_
          refine GO.aload_n dX12_tell_51 rfl rfl ?_
          refine GO.getI h_x fl_RX12_396 rfl rfl dX12_tell_52 (fun l48 u49 => ?_)
          refine GO.iast (t := 66) rfl rfl (by decide +kernel) h39 r_p0 (by omega) (by omega) vi_ir (vi_ir).1 (vi_ir).2 dX12_tell_55 (fun V51 e50 => ?_)
          have ak52 := tk_oth e50 ak2 h_x h39 (by decide) (by decide) (rfl : ar 67 V x = ar 67 V x)
          have ak53 := tk_oth e50 ak3 h_x h39 (by decide) (by decide) (rfl : ar 69 V x = ar 69 V x)
          have ak54 := tk_put e50 ak4 h_x (vq_of hv40) vi_ir (rfl : ar 76 V x = ar 76 V x)
          have ak55 := tk_oth e50 ak5 h_x h39 (by decide) (by decide) (rfl : ar 77 V x = ar 77 V x)
          have ak56 := tk_oth e50 ak6 h_x h39 (by decide) (by decide) (rfl : ar 78 V x = ar 78 V x)
          refine GO.goto (tgt := 69) dX12_tell_56 (by decide) ?_
          refine GO.iconst dX12_tell_69 ?_
          have e57 : vi V51 x 66 = vi V x 66 := vi_up e50 (Or.inl (K_ne h_x h39 (by decide)))
          exact GO.retz rfl rfl dX12_tell_70 (Or.inr rfl) ⟨rfl, _, rfl, (ir_c rfl), ⟨Or.inr rfl, fun _ => trivial, fun _ => trivial, (by first | exact MWC.nw (by omega) rfl | exact MTL.nd (by omega) rfl | exact MTL.o76 (by omega) (by omega) (by omega) (by omega) (MWP.m76 (by omega) ak52.2 ak53.2 ak54.2 ak55.2 ak56.2 rfl) (by omega) | exact MTL.o77 (by omega) (by omega) (by omega) (by omega) (MWP.m77 (by omega) ak52.2 ak53.2 ak54.2 ak55.2 ak56.2 rfl) (by omega))⟩⟩
        ·
          refine GO.iconst dX12_tell_40 ?_
          exact GO.retz rfl rfl dX12_tell_41 (Or.inl rfl) ⟨rfl, _, rfl, (ir_c rfl), ⟨Or.inl rfl, fun _ => trivial, fun _ => trivial, (by first | exact MWC.nw (by omega) rfl | exact MTL.nd (by omega) rfl | exact MTL.o76 (by omega) (by omega) (by omega) (by omega) (MWP.m76 (by omega) (rfl : ar 67 V x = ar 67 V x) (rfl : ar 69 V x = ar 69 V x) (rfl : ar 76 V x = ar 76 V x) (rfl : ar 77 V x = ar 77 V x) (rfl : ar 78 V x = ar 78 V x) rfl) (by omega) | exact MTL.o77 (by omega) (by omega) (by omega) (by omega) (MWP.m77 (by omega) (rfl : ar 67 V x = ar 67 V x) (rfl : ar 69 V x = ar 69 V x) (rfl : ar 76 V x = ar 76 V x) (rfl : ar 77 V x = ar 77 V x) (rfl : ar 78 V x = ar 78 V x) rfl) (by omega))⟩⟩

set_option maxHeartbeats 1000000 in
theorem t_X12_study {K : Kmap} {V : Vmap} {x : Nat} {p0 : Int} {p1 : Int} (h_x : K x = some (0, 11)) (r_p0 : ir p0) (r_p1 : ir p1) : MC mX12_study K V [.ref x, ti p0, ti p1] (IS K (fun X V1 => (X = 0 ∨ X = 1) ∧ (X ≠ 0 → True) ∧ (X = 0 → True) ∧ (MWC (SYq p1) (wset 11 (vi V x 2)) V V1 x p0 X))) := by
  refine MC.start 0 (by decide +kernel) rfl rfl rfl (ls0 := [some (.ref x), some (ti p0), some (ti p1)]) rfl ?_
  refine GO.useWT (fun hW1 => ?_)
  have ak2 := hW1.arr h_x 67 57 (by decide) rfl (by decide)
  have ak3 := hW1.arr h_x 69 59 (by decide) rfl (by decide)
  have ak4 := hW1.arr h_x 76 66 (by decide) rfl (by decide)
  have ak5 := hW1.arr h_x 77 67 (by decide) rfl (by decide)
  have ak6 := hW1.arr h_x 78 68 (by decide) rfl (by decide)
  refine GO.aload_n dX12_study_0 rfl rfl ?_
  refine GO.iload_n dX12_study_1 rfl rfl ?_
  refine GO.callV (ci := 11) (N := mX12_isWork) dX12_study_2 (RX12, TX12, 151) rfl gV_RX12_566 h_x (t_X12_isWork h_x r_p0) rfl [] rfl rfl (Nat.le_of_ble_eq_true rfl) rfl (k_ip fun X7 r8 h9 => ?_)
  refine GO.if_eq (tgt := 29) dX12_study_5 (by decide) r8 (fun c10 => ?_) (fun c10 => ?_)
  ·
    have q11 := h9.2.2 (by omega)
    refine GO.iconst dX12_study_29 ?_
    exact GO.retz rfl rfl dX12_study_30 (Or.inl rfl) ⟨rfl, _, rfl, (ir_c rfl), ⟨Or.inl rfl, fun _ => trivial, fun _ => trivial, (by first | exact MWC.nw (by omega) rfl | exact MSY.nd (by omega) rfl | exact MSY.ok (by omega) (by omega) (by omega) (by omega) (by omega) (MWP.m78 (by omega) (rfl : ar 67 V x = ar 67 V x) (rfl : ar 69 V x = ar 69 V x) (rfl : ar 76 V x = ar 76 V x) (rfl : ar 77 V x = ar 77 V x) (rfl : ar 78 V x = ar 78 V x) rfl) (by omega))⟩⟩
  ·
    have q12 := h9.2.1 (by omega)
    refine GO.iload_n dX12_study_8 rfl rfl ?_
    refine GO.iconst dX12_study_9 ?_
    refine GO.sipush dX12_study_10 rfl ?_
    refine GO.callS (N := mX12_in) dX12_study_13 gS_RX12_371 (t_X12_in r_p1 (ir_c rfl) (ir_c rfl)) rfl [] rfl rfl (Nat.le_of_ble_eq_true rfl) rfl (k_ip fun X13 r14 h15 => ?_)
    have raw_in := h15.2.2.2
    have rw13 := h15.2.2.2
    refine GO.if_eq (tgt := 29) dX12_study_16 (by decide) r14 (fun c16 => ?_) (fun c16 => ?_)
    ·
      have q17 := h15.2.2.1 (by omega)
      refine GO.iconst dX12_study_29 ?_
      exact GO.retz rfl rfl dX12_study_30 (Or.inl rfl) ⟨rfl, _, rfl, (ir_c rfl), ⟨Or.inl rfl, fun _ => trivial, fun _ => trivial, (by first | exact MWC.nw (by omega) rfl | exact MSY.nd (by omega) rfl | exact MSY.ok (by omega) (by omega) (by omega) (by omega) (by omega) (MWP.m78 (by omega) (rfl : ar 67 V x = ar 67 V x) (rfl : ar 69 V x = ar 69 V x) (rfl : ar 76 V x = ar 76 V x) (rfl : ar 77 V x = ar 77 V x) (rfl : ar 78 V x = ar 78 V x) rfl) (by omega))⟩⟩
    ·
      have q18 := h15.2.1 (by omega)
      refine GO.aload_n dX12_study_19 rfl rfl ?_
      refine GO.getA (n := 100) h_x fl_RX12_196 rfl rfl rfl rfl dX12_study_20 (fun hv20 h19 => ?_)
      refine GO.iload_n dX12_study_23 rfl rfl ?_
      have q21 : -2147483648 ≤ p0 ∧ p0 ≤ 2147483647 := r_p0
      have q22 : -2147483648 ≤ vi V x 66 ∧ vi V x 66 ≤ 2147483647 := vi_ir
      refine GO.iald (t := 68) rfl rfl h19 r_p0 (by omega) (by omega) dX12_study_24 (fun _ _ => ?_)
      refine GO.iconst dX12_study_25 ?_
      refine GO.icmp_eq (tgt := 31) dX12_study_26 (by decide) vi_ir (ir_c rfl) (fun c23 => ?_) (fun c23 => ?_)
      ·
        refine GO.aload_n dX12_study_31 rfl rfl ?_
        refine GO.getRaw h_x fl_RX12_196 hv20 dX12_study_32 ?_
        refine GO.iload_n dX12_study_35 rfl rfl ?_
        refine GO.aload_n dX12_study_36 rfl rfl ?_
        refine GO.getI h_x fl_RX12_396 rfl rfl dX12_study_37 (fun l26 u27 => ?_)
        refine GO.iast (t := 68) rfl rfl (by decide +kernel) h19 r_p0 (by omega) (by omega) vi_ir (vi_ir).1 (vi_ir).2 dX12_study_40 (fun V29 e28 => ?_)
        have ak30 := tk_oth e28 ak2 h_x h19 (by decide) (by decide) (rfl : ar 67 V x = ar 67 V x)
        have ak31 := tk_oth e28 ak3 h_x h19 (by decide) (by decide) (rfl : ar 69 V x = ar 69 V x)
        have ak32 := tk_oth e28 ak4 h_x h19 (by decide) (by decide) (rfl : ar 76 V x = ar 76 V x)
        have ak33 := tk_oth e28 ak5 h_x h19 (by decide) (by decide) (rfl : ar 77 V x = ar 77 V x)
        have ak34 := tk_put e28 ak6 h_x (vq_of hv20) vi_ir (rfl : ar 78 V x = ar 78 V x)
        refine GO.aload_n dX12_study_41 rfl rfl ?_
        refine GO.getA (n := 100) h_x fl_RX12_199 rfl rfl rfl rfl dX12_study_42 (fun hv36 h35 => ?_)
        refine GO.iload_n dX12_study_45 rfl rfl ?_
        refine GO.iload_n dX12_study_46 rfl rfl ?_
        refine GO.iast (t := 69) rfl rfl (by decide +kernel) h35 r_p0 (by omega) (by omega) r_p1 (r_p1).1 (r_p1).2 dX12_study_47 (fun V38 e37 => ?_)
        have ak39 := tk_oth e37 ak30.1 h_x h35 (by decide) (by decide) ak30.2
        have ak40 := tk_oth e37 ak31.1 h_x h35 (by decide) (by decide) ak31.2
        have ak41 := tk_oth e37 ak32.1 h_x h35 (by decide) (by decide) ak32.2
        have ak42 := tk_oth e37 ak33.1 h_x h35 (by decide) (by decide) ak33.2
        have ak43 := tk_oth e37 ak34.1 h_x h35 (by decide) (by decide) ak34.2
        refine GO.iconst dX12_study_48 ?_
        have e45 : vi V29 x 66 = vi V x 66 := vi_up e28 (Or.inl (K_ne h_x h19 (by decide)))
        have e44 : vi V38 x 66 = vi V29 x 66 := vi_up e37 (Or.inl (K_ne h_x h35 (by decide)))
        exact GO.retz rfl rfl dX12_study_49 (Or.inr rfl) ⟨rfl, _, rfl, (ir_c rfl), ⟨Or.inr rfl, fun _ => trivial, fun _ => trivial, (by first | exact MWC.nw (by omega) rfl | exact MSY.nd (by omega) rfl | exact MSY.ok (by omega) (by omega) (by omega) (by omega) (by omega) (MWP.m78 (by omega) ak39.2 ak40.2 ak41.2 ak42.2 ak43.2 rfl) (by omega))⟩⟩
      ·
        refine GO.iconst dX12_study_29 ?_
        exact GO.retz rfl rfl dX12_study_30 (Or.inl rfl) ⟨rfl, _, rfl, (ir_c rfl), ⟨Or.inl rfl, fun _ => trivial, fun _ => trivial, (by first | exact MWC.nw (by omega) rfl | exact MSY.nd (by omega) rfl | exact MSY.ok (by omega) (by omega) (by omega) (by omega) (by omega) (MWP.m78 (by omega) (rfl : ar 67 V x = ar 67 V x) (rfl : ar 69 V x = ar 69 V x) (rfl : ar 76 V x = ar 76 V x) (rfl : ar 77 V x = ar 77 V x) (rfl : ar 78 V x = ar 78 V x) rfl) (by omega))⟩⟩
