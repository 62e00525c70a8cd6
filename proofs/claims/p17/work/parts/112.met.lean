def mX12_counts : MRec := (RX12, cX12_counts, 6, (some .int), yX12_counts, 2, 53, 0, 0, 410109510896814735819844167584554006003719268292477331829831988701866187349882985604408720691822592)
def mX12_asked : MRec := (RX12, cX12_asked, 6, (some .int), yX12_asked, 2, 53, 0, 0, 410109510896814735819844167584554006003719268292477331829831988701866187349882985604408720691822592)
def mX12_caughtAtMost : MRec := (RX12, cX12_caughtAtMost, 5, (some .int), yX12_caughtAtMost, 2, 53, 0, 0, 410109510896814735819844167584554006003719268292477331829831988701866187349882985604408720691822592)
def mX12_number : MRec := (RX12, cX12_number, 4, (some .int), yX12_number, 3, 78, 0, 0, 410109510896814735819844167584554006003719268292477331829831988701866187349882985604408720691822592)
def mX12_isWork : MRec := (RX12, cX12_isWork, 2, (some .boolean), yX12_isWork, 0, 0, 0, 0, 0)
def mX12_work : MRec := (RX12, cX12_work, 9, (some .int), yX12_work, 1, 22, 0, 0, 4268966602095243523394031221776817499828048436794867230101706224528092871056191852027291495164620570624)
def mX12_tell : MRec := (RX12, cX12_tell, 3, (some .boolean), yX12_tell, 1, 22, 0, 0, 839904278316676578959040855213166604295617061462993575587495912861421951692560354517829059976852668416)
def mX12_study : MRec := (RX12, cX12_study, 3, (some .boolean), yX12_study, 1, 22, 0, 0, 3359617113266706315836163420852666417182468245851974302349983651445687806770241418071316239907410673664)
def mX12_say : MRec := (RX12, cX12_say, 4, (some .boolean), yX12_say, 1, 21, 0, 0, 4479489484355608421114884561136888556243290994469299069799978201927583742360321890761754986543214231552)
def mX12_isConsented : MRec := (RX12, cX12_isConsented, 6, (some .boolean), yX12_isConsented, 1, 22, 0, 0, 0)
set_option maxHeartbeats 1000000 in
theorem t_X12_counts {K : Kmap} {V : Vmap} {x : Nat} {p0 : Int} {p1 : Int} {p2 : Int} (h_x : K x = some (0, 11)) (r_p0 : ir p0) (r_p1 : ir p1) (r_p2 : ir p2) : MC mX12_counts K V [.ref x, ti p0, ti p1, ti p2] (IS K (fun X V1 => (X ≥ (-2147483648) ∧ X ≤ 2147483647) ∧ (RCO V V1 x p0 p1 p2 X))) := by
  refine MC.start 2 (by decide +kernel) rfl rfl rfl (ls0 := [some (.ref x), some (ti p0), some (ti p1), some (ti p2), none, none]) rfl ?_
  refine GO.aload_n dX12_counts_0 rfl rfl ?_
  refine GO.iload_n dX12_counts_1 rfl rfl ?_
  refine GO.callV (ci := 11) (N := mX12_isText) dX12_counts_2 (RX12, TX12, 151) rfl gV_RX12_541 h_x (t_X12_isText h_x r_p0) rfl [] rfl rfl (Nat.le_of_ble_eq_true rfl) rfl (k_ip fun X1 r2 h3 => ?_)
  refine GO.if_eq (tgt := 23) dX12_counts_5 (by decide) r2 (fun c4 => ?_) (fun c4 => ?_)
  ·
    have q5 := h3.2.2 (by omega)
    refine GO.iconst dX12_counts_23 ?_
    exact GO.reti rfl rfl dX12_counts_24 ⟨rfl, _, rfl, (ir_c rfl), ⟨(by first | exact trivial | omega), (by first | exact RCO.no (by omega) rfl)⟩⟩
  ·
    have q6 := h3.2.1 (by omega)
    refine GO.aload_n dX12_counts_8 rfl rfl ?_
    refine GO.iload_n dX12_counts_9 rfl rfl ?_
    refine GO.callV (ci := 11) (N := mX12_isParty) dX12_counts_10 (RX12, TX12, 151) rfl gV_RX12_406 h_x (t_X12_isParty h_x r_p1) rfl [] rfl rfl (Nat.le_of_ble_eq_true rfl) rfl (k_ip fun X7 r8 h9 => ?_)
    refine GO.if_eq (tgt := 23) dX12_counts_13 (by decide) r8 (fun c10 => ?_) (fun c10 => ?_)
    ·
      have q11 := h9.2.2 (by omega)
      refine GO.iconst dX12_counts_23 ?_
      exact GO.reti rfl rfl dX12_counts_24 ⟨rfl, _, rfl, (ir_c rfl), ⟨(by first | exact trivial | omega), (by first | exact RCO.no (by omega) rfl)⟩⟩
    ·
      have q12 := h9.2.1 (by omega)
      refine GO.iload_n dX12_counts_16 rfl rfl ?_
      refine GO.callS (N := mX12_isDay) dX12_counts_17 gS_RX12_409 (t_X12_isDay r_p2) rfl [] rfl rfl (Nat.le_of_ble_eq_true rfl) rfl (k_ip fun X13 r14 h15 => ?_)
      refine GO.if_ne (tgt := 25) dX12_counts_20 (by decide) r14 (fun c16 => ?_) (fun c16 => ?_)
      ·
        have q17 := h15.2.1 (by omega)
        refine GO.aload_n dX12_counts_25 rfl rfl ?_
        refine GO.iload_n dX12_counts_26 rfl rfl ?_
        refine GO.iload_n dX12_counts_27 rfl rfl ?_
        have q18 : -2147483648 ≤ p1 ∧ p1 ≤ 2147483647 := r_p1
        have q19 : -2147483648 ≤ vi V x 9 ∧ vi V x 9 ≤ 2147483647 := vi_ir
        refine GO.callV (ci := 11) (N := mX12_binds) dX12_counts_28 (RX12, TX12, 151) rfl gV_RX12_557 h_x (t_X12_binds h_x r_p1 r_p2 (by omega) (by omega)) rfl [] rfl rfl (Nat.le_of_ble_eq_true rfl) rfl (k_vs fun V22 h21 hF20 => ?_)
        have raw_binds := h21.2
        have rw28 := h21.2
        refine GO.iconst dX12_counts_31 ?_
        refine GO.istore (ls1 := [some (.ref x), some (ti p0), some (ti p1), some (ti p2), some (ti 0), none]) dX12_counts_32 rfl rfl ?_
        refine GO.iconst dX12_counts_34 ?_
        refine GO.istore (ls1 := [some (.ref x), some (ti p0), some (ti p1), some (ti p2), some (ti 0), some (ti 0)]) dX12_counts_35 rfl rfl ?_
        refine GO.loop2 (fun i23 i24 W => 0 ≤ i23 ∧ i23 ≤ 12 ∧ 0 ≤ i24 ∧ i24 ≤ 12 ∧ (i23 ≥ 0 ∧ i23 ≤ i24) ∧ (RCI W x p0 i23 i24) ∧ V22 = W) (fun i23 i24 => [some (.ref x), some (ti p0), some (ti p1), some (ti p2), some (ti i23), some (ti i24)]) (fun i23 i24 W => (2147483647 - i24).toNat) 0 0 ⟨by omega, by omega, by omega, by omega, by omega, (by first | exact RCI.beg), rfl⟩ rfl (fun i23 i24 V241 hp243 ih242 => ?_)
        obtain ⟨l_i23, u_i23, l_i24, u_i24, n_i23, hci, rfl⟩ := hp243
        have r_i23 : ir i23 := ⟨by omega, by omega⟩
        have r_i24 : ir i24 := ⟨by omega, by omega⟩
        show GO mX12_counts K V (IS K (fun X V1 => (X ≥ (-2147483648) ∧ X ≤ 2147483647) ∧ (RCO V V1 x p0 p1 p2 X))) K V22 0 0 37 [some (.ref x), some (ti p0), some (ti p1), some (ti p2), some (ti i23), some (ti i24)] []
        refine GO.iload dX12_counts_37 rfl ?_
        refine GO.aload_n dX12_counts_39 rfl rfl ?_
        refine GO.getA (n := 20) h_x fl_RX12_115 rfl rfl rfl rfl dX12_counts_40 (fun hv245 h244 => ?_)
        refine GO.iload_n dX12_counts_43 rfl rfl ?_
        have q246 : -2147483648 ≤ p0 ∧ p0 ≤ 2147483647 := r_p0
        have q247 : -2147483648 ≤ vi V x 47 ∧ vi V x 47 ≤ 2147483647 := vi_ir
        refine GO.iald (t := 41) rfl rfl h244 r_p0 (by omega) (by omega) dX12_counts_44 (fun l248 u249 => ?_)
        refine GO.icmp_ge (tgt := 88) dX12_counts_45 (by decide) r_i24 vi_ir (fun c251 => ?_) (fun c251 => ?_)
        ·
          refine GO.iload dX12_counts_88 rfl ?_
          exact GO.reti rfl rfl dX12_counts_90 ⟨rfl, _, rfl, r_i23, ⟨(by first | exact trivial | omega), (by first | exact RCO.no (by omega) rfl | exact RCO.ok rw28 hci ⟨by omega, by omega⟩ ⟨by omega, by omega⟩ (by omega) (by omega) (by omega) (by omega) (by omega))⟩⟩
        ·
          refine GO.aload_n dX12_counts_48 rfl rfl ?_
          refine GO.getA (n := 20) h_x fl_RX12_157 rfl rfl rfl rfl dX12_counts_49 (fun hv253 h252 => ?_)
          refine GO.iload_n dX12_counts_52 rfl rfl ?_
          refine GO.zald (t := 55) rfl rfl h252 r_p0 (by omega) (by omega) dX12_counts_53 (fun l254 u255 => ?_)
          refine GO.if_eq (tgt := 88) dX12_counts_54 (by decide) vi_ir (fun c257 => ?_) (fun c257 => ?_)
          ·
            refine GO.iload dX12_counts_88 rfl ?_
            exact GO.reti rfl rfl dX12_counts_90 ⟨rfl, _, rfl, r_i23, ⟨(by first | exact trivial | omega), (by first | exact RCO.no (by omega) rfl | exact RCO.ok rw28 hci ⟨by omega, by omega⟩ ⟨by omega, by omega⟩ (by omega) (by omega) (by omega) (by omega) (by omega))⟩⟩
          ·
            refine GO.iload dX12_counts_57 rfl ?_
            refine GO.aload_n dX12_counts_59 rfl rfl ?_
            refine GO.getA (n := 240) h_x fl_RX12_160 rfl rfl rfl rfl dX12_counts_60 (fun hv259 h258 => ?_)
            refine GO.bipush dX12_counts_63 rfl ?_
            refine GO.iload_n dX12_counts_65 rfl rfl ?_
            refine GO.imul dX12_counts_66 ?_
            refine GO.iload dX12_counts_67 rfl ?_
            refine GO.iadd dX12_counts_69 ?_
            refine GO.zald (t := 56) rfl rfl h258 ⟨by omega, by omega⟩ (by omega) (by omega) dX12_counts_70 (fun l260 u261 => ?_)
            refine GO.if_eq (tgt := 78) dX12_counts_71 (by decide) vi_ir (fun c263 => ?_) (fun c263 => ?_)
            ·
              refine GO.iconst dX12_counts_78 ?_
              refine GO.iadd dX12_counts_79 ?_
              refine GO.name (fun z264 hz265 => ?_)
              refine GO.istore (ls1 := [some (.ref x), some (ti p0), some (ti p1), some (ti p2), some (ti z264), some (ti i24)]) dX12_counts_80 rfl rfl ?_
              refine GO.iinc (X := i24) (n := 1) (Y := i24 + 1) (ls1 := [some (.ref x), some (ti p0), some (ti p1), some (ti p2), some (ti z264), some (ti (i24 + 1))]) dX12_counts_82 rfl rfl rfl rfl ?_
              refine GO.goto (tgt := 37) dX12_counts_85 (by decide) ?_
              exact ih242 z264 (i24 + 1) V22 ⟨by omega, by omega, by omega, by omega, by omega, (by first | exact RCI.beg | exact RCI.step hci (by omega) (by omega) (by omega) (by omega) (by omega) (by omega)), rfl⟩ (by show (2147483647 - (i24 + 1)).toNat < (2147483647 - i24).toNat; omega)
            ·
              refine GO.iconst dX12_counts_74 ?_
              refine GO.goto (tgt := 79) dX12_counts_75 (by decide) ?_
              refine GO.iadd dX12_counts_79 ?_
              refine GO.name (fun z266 hz267 => ?_)
              refine GO.istore (ls1 := [some (.ref x), some (ti p0), some (ti p1), some (ti p2), some (ti z266), some (ti i24)]) dX12_counts_80 rfl rfl ?_
              refine GO.iinc (X := i24) (n := 1) (Y := i24 + 1) (ls1 := [some (.ref x), some (ti p0), some (ti p1), some (ti p2), some (ti z266), some (ti (i24 + 1))]) dX12_counts_82 rfl rfl rfl rfl ?_
              refine GO.goto (tgt := 37) dX12_counts_85 (by decide) ?_
              exact ih242 z266 (i24 + 1) V22 ⟨by omega, by omega, by omega, by omega, by omega, (by first | exact RCI.beg | exact RCI.step hci (by omega) (by omega) (by omega) (by omega) (by omega) (by omega)), rfl⟩ (by show (2147483647 - (i24 + 1)).toNat < (2147483647 - i24).toNat; omega)
      ·
        have q268 := h15.2.2 (by omega)
        refine GO.iconst dX12_counts_23 ?_
        exact GO.reti rfl rfl dX12_counts_24 ⟨rfl, _, rfl, (ir_c rfl), ⟨(by first | exact trivial | omega), (by first | exact RCO.no (by omega) rfl)⟩⟩

set_option maxHeartbeats 1000000 in
theorem t_X12_asked {K : Kmap} {V : Vmap} {x : Nat} {p0 : Int} {p1 : Int} {p2 : Int} {p3 : Int} (h_x : K x = some (0, 11)) (r_p0 : ir p0) (r_p1 : ir p1) (r_p2 : ir p2) (r_p3 : ir p3) (q_0 : p1 ≥ 0) (q_1 : p1 ≤ 8) : MC mX12_asked K V [.ref x, ti p0, ti p1, ti p2, ti p3] (IS K (fun X V1 => (X ≥ (-2147483648) ∧ X ≤ 2147483647) ∧ (RNE V V1 x p0 p1 p2 p3 X))) := by
  refine MC.start 1 (by decide +kernel) rfl rfl rfl (ls0 := [some (.ref x), some (ti p0), some (ti p1), some (ti p2), some (ti p3), none]) rfl ?_
  refine GO.aload_n dX12_asked_0 rfl rfl ?_
  refine GO.iload_n dX12_asked_1 rfl rfl ?_
  refine GO.iload_n dX12_asked_2 rfl rfl ?_
  have q1 : -2147483648 ≤ p1 ∧ p1 ≤ 2147483647 := r_p1
  refine GO.callV (ci := 11) (N := mX12_binds) dX12_asked_3 (RX12, TX12, 151) rfl gV_RX12_557 h_x (t_X12_binds h_x r_p1 r_p2 (by omega) (by omega)) rfl [] rfl rfl (Nat.le_of_ble_eq_true rfl) rfl (k_vs fun V4 h3 hF2 => ?_)
  have raw_binds := h3.2
  have rw3 := h3.2
  refine GO.aload_n dX12_asked_6 rfl rfl ?_
  refine GO.iload_n dX12_asked_7 rfl rfl ?_
  refine GO.iconst dX12_asked_8 ?_
  refine GO.iconst dX12_asked_9 ?_
  refine GO.aload_n dX12_asked_10 rfl rfl ?_
  refine GO.getI h_x fl_RX12_535 rfl rfl dX12_asked_11 (fun l5 u6 => ?_)
  refine GO.callV (ci := 11) (N := mX12_numberBy) dX12_asked_14 (RX12, TX12, 151) rfl gV_RX12_553 h_x (t_X12_numberBy h_x r_p0 (ir_c rfl) (ir_c rfl) vi_ir (by omega) (by omega)) rfl [] rfl rfl (Nat.le_of_ble_eq_true rfl) rfl (k_ip fun X8 r9 h10 => ?_)
  have raw_numberBy := h10.2
  have rw14 := h10.2
  refine GO.istore (ls1 := [some (.ref x), some (ti p0), some (ti p1), some (ti p2), some (ti p3), some (ti X8)]) dX12_asked_17 rfl rfl ?_
  refine GO.iload dX12_asked_19 rfl ?_
  refine GO.iconst dX12_asked_21 ?_
  refine GO.icmp_ne (tgt := 30) dX12_asked_22 (by decide) r9 (ir_c rfl) (fun c11 => ?_) (fun c11 => ?_)
  ·
    refine GO.iload dX12_asked_30 rfl ?_
    exact GO.reti rfl rfl dX12_asked_32 ⟨rfl, _, rfl, r9, ⟨(by first | exact trivial | omega), (by first | exact ⟨_, RNM.mk rw3 rw14, Or.inl ⟨by omega, rfl⟩⟩ | exact ⟨_, RNM.mk rw3 rw14, Or.inr ⟨by omega, rfl⟩⟩)⟩⟩
  ·
    refine GO.iload dX12_asked_25 rfl ?_
    refine GO.goto (tgt := 32) dX12_asked_27 (by decide) ?_
    have q12 : -2147483648 ≤ p3 ∧ p3 ≤ 2147483647 := r_p3
    exact GO.reti rfl rfl dX12_asked_32 ⟨rfl, _, rfl, r_p3, ⟨(by first | exact trivial | omega), (by first | exact ⟨_, RNM.mk rw3 rw14, Or.inl ⟨by omega, rfl⟩⟩ | exact ⟨_, RNM.mk rw3 rw14, Or.inr ⟨by omega, rfl⟩⟩)⟩⟩

set_option maxHeartbeats 1000000 in
theorem t_X12_caughtAtMost {K : Kmap} {V : Vmap} {x : Nat} {p0 : Int} {p1 : Int} {p2 : Int} {p3 : Int} (h_x : K x = some (0, 11)) (r_p0 : ir p0) (r_p1 : ir p1) (r_p2 : ir p2) (r_p3 : ir p3) (q_0 : p2 ≥ 0) (q_1 : p2 ≤ 8) : MC mX12_caughtAtMost K V [.ref x, ti p0, ti p1, ti p2, ti p3] (IS K (fun X V1 => (X ≥ (-2147483648) ∧ X ≤ 2147483647) ∧ (RNM V V1 x 107 p0 p1 p2 p3 X))) := by
  refine MC.start 0 (by decide +kernel) rfl rfl rfl (ls0 := [some (.ref x), some (ti p0), some (ti p1), some (ti p2), some (ti p3)]) rfl ?_
  refine GO.aload_n dX12_caughtAtMost_0 rfl rfl ?_
  refine GO.iload_n dX12_caughtAtMost_1 rfl rfl ?_
  refine GO.iload dX12_caughtAtMost_2 rfl ?_
  have q1 : -2147483648 ≤ p2 ∧ p2 ≤ 2147483647 := r_p2
  refine GO.callV (ci := 11) (N := mX12_binds) dX12_caughtAtMost_4 (RX12, TX12, 151) rfl gV_RX12_557 h_x (t_X12_binds h_x r_p2 r_p3 (by omega) (by omega)) rfl [] rfl rfl (Nat.le_of_ble_eq_true rfl) rfl (k_vs fun V4 h3 hF2 => ?_)
  have raw_binds := h3.2
  have rw4 := h3.2
  refine GO.aload_n dX12_caughtAtMost_7 rfl rfl ?_
  refine GO.bipush dX12_caughtAtMost_8 rfl ?_
  refine GO.iload_n dX12_caughtAtMost_10 rfl rfl ?_
  refine GO.iload_n dX12_caughtAtMost_11 rfl rfl ?_
  refine GO.aload_n dX12_caughtAtMost_12 rfl rfl ?_
  refine GO.getI h_x fl_RX12_535 rfl rfl dX12_caughtAtMost_13 (fun l5 u6 => ?_)
  refine GO.callV (ci := 11) (N := mX12_numberBy) dX12_caughtAtMost_16 (RX12, TX12, 151) rfl gV_RX12_553 h_x (t_X12_numberBy h_x (ir_c rfl) r_p0 r_p1 vi_ir (by omega) (by omega)) rfl [] rfl rfl (Nat.le_of_ble_eq_true rfl) rfl (k_ip fun X8 r9 h10 => ?_)
  have raw_numberBy := h10.2
  have rw16 := h10.2
  exact GO.reti rfl rfl dX12_caughtAtMost_19 ⟨rfl, _, rfl, r9, ⟨(by first | exact trivial | omega), RNM.mk rw4 rw16⟩⟩

set_option maxHeartbeats 1000000 in
theorem t_X12_number {K : Kmap} {V : Vmap} {x : Nat} {p0 : Int} {p1 : Int} {p2 : Int} (h_x : K x = some (0, 11)) (r_p0 : ir p0) (r_p1 : ir p1) (r_p2 : ir p2) : MC mX12_number K V [.ref x, ti p0, ti p1, ti p2] (IS K (fun X V1 => (X ≥ (-2147483648) ∧ X ≤ 2147483647) ∧ (RNB V V1 x p0 p1 p2 X))) := by
  refine MC.start 0 (by decide +kernel) rfl rfl rfl (ls0 := [some (.ref x), some (ti p0), some (ti p1), some (ti p2)]) rfl ?_
  refine GO.aload_n dX12_number_0 rfl rfl ?_
  refine GO.iload_n dX12_number_1 rfl rfl ?_
  refine GO.callV (ci := 11) (N := mX12_isParty) dX12_number_2 (RX12, TX12, 151) rfl gV_RX12_406 h_x (t_X12_isParty h_x r_p1) rfl [] rfl rfl (Nat.le_of_ble_eq_true rfl) rfl (k_ip fun X1 r2 h3 => ?_)
  refine GO.if_eq (tgt := 15) dX12_number_5 (by decide) r2 (fun c4 => ?_) (fun c4 => ?_)
  ·
    have q5 := h3.2.2 (by omega)
    refine GO.iconst dX12_number_15 ?_
    exact GO.reti rfl rfl dX12_number_16 ⟨rfl, _, rfl, (ir_c rfl), ⟨(by first | exact trivial | omega), (by first | exact RNB.no (by omega) rfl)⟩⟩
  ·
    have q6 := h3.2.1 (by omega)
    refine GO.iload_n dX12_number_8 rfl rfl ?_
    refine GO.callS (N := mX12_isDay) dX12_number_9 gS_RX12_409 (t_X12_isDay r_p2) rfl [] rfl rfl (Nat.le_of_ble_eq_true rfl) rfl (k_ip fun X7 r8 h9 => ?_)
    refine GO.if_ne (tgt := 17) dX12_number_12 (by decide) r8 (fun c10 => ?_) (fun c10 => ?_)
    ·
      have q11 := h9.2.1 (by omega)
      refine GO.iload_n dX12_number_17 rfl rfl ?_
      refine GO.bipush dX12_number_18 rfl ?_
      refine GO.bipush dX12_number_20 rfl ?_
      refine GO.callS (N := mX12_in) dX12_number_22 gS_RX12_371 (t_X12_in r_p0 (ir_c rfl) (ir_c rfl)) rfl [] rfl rfl (Nat.le_of_ble_eq_true rfl) rfl (k_ip fun X12 r13 h14 => ?_)
      have raw_in := h14.2.2.2
      have rw22 := h14.2.2.2
      refine GO.if_eq (tgt := 47) dX12_number_25 (by decide) r13 (fun c15 => ?_) (fun c15 => ?_)
      ·
        have q16 := h14.2.2.1 (by omega)
        refine GO.iload_n dX12_number_47 rfl rfl ?_
        have q17 : -2147483648 ≤ p0 ∧ p0 ≤ 2147483647 := r_p0
        rcases (show (p0 < 0 ∨ 3 < p0) ∨ p0 = 0 ∨ p0 = 1 ∨ p0 = 2 ∨ p0 = 3 by omega) with c18 | c18 | c18 | c18 | c18
        ·
          refine GO.tableOut (tgt := 125) dX12_number_48 r_p0 c18 (by decide) ?_
          refine GO.iconst dX12_number_125 ?_
          exact GO.reti rfl rfl dX12_number_126 ⟨rfl, _, rfl, (ir_c rfl), ⟨(by first | exact trivial | omega), (by first | exact RNB.no (by omega) rfl)⟩⟩
        ·
          refine GO.tableAt (n := 0) (tgt := 80) dX12_number_48 (ir_c rfl) c18 (by decide) (by decide) rfl (by decide) ?_
          refine GO.aload_n dX12_number_80 rfl rfl ?_
          refine GO.bipush dX12_number_81 rfl ?_
          refine GO.iload_n dX12_number_83 rfl rfl ?_
          refine GO.iload_n dX12_number_84 rfl rfl ?_
          refine GO.iconst dX12_number_85 ?_
          have q19 : -2147483648 ≤ p1 ∧ p1 ≤ 2147483647 := r_p1
          have q20 : -2147483648 ≤ vi V x 9 ∧ vi V x 9 ≤ 2147483647 := vi_ir
          refine GO.callV (ci := 11) (N := mX12_asked) dX12_number_86 (RX12, TX12, 151) rfl gV_RX12_563 h_x (t_X12_asked h_x (ir_c rfl) r_p1 r_p2 (ir_c rfl) (by omega) (by omega)) rfl [] rfl rfl (Nat.le_of_ble_eq_true rfl) rfl (k_is fun X21 V25 r22 h23 hF24 => ?_)
          have raw_asked := h23.2
          have rw86 := h23.2
          exact GO.reti rfl rfl dX12_number_89 ⟨rfl, _, rfl, r22, ⟨(by first | exact trivial | omega), (by first | exact RNB.no (by omega) rfl | exact RNB.v0 rw86 ⟨by omega, by omega⟩ ⟨by omega, by omega⟩ (by omega))⟩⟩
        ·
          refine GO.tableAt (n := 1) (tgt := 90) dX12_number_48 (ir_c rfl) c18 (by decide) (by decide) rfl (by decide) ?_
          refine GO.aload_n dX12_number_90 rfl rfl ?_
          refine GO.bipush dX12_number_91 rfl ?_
          refine GO.iload_n dX12_number_93 rfl rfl ?_
          refine GO.iload_n dX12_number_94 rfl rfl ?_
          refine GO.iconst dX12_number_95 ?_
          have q26 : -2147483648 ≤ p1 ∧ p1 ≤ 2147483647 := r_p1
          have q27 : -2147483648 ≤ vi V x 9 ∧ vi V x 9 ≤ 2147483647 := vi_ir
          refine GO.callV (ci := 11) (N := mX12_asked) dX12_number_96 (RX12, TX12, 151) rfl gV_RX12_563 h_x (t_X12_asked h_x (ir_c rfl) r_p1 r_p2 (ir_c rfl) (by omega) (by omega)) rfl [] rfl rfl (Nat.le_of_ble_eq_true rfl) rfl (k_is fun X28 V32 r29 h30 hF31 => ?_)
          have raw_asked := h30.2
          have rw96 := h30.2
          exact GO.reti rfl rfl dX12_number_99 ⟨rfl, _, rfl, r29, ⟨(by first | exact trivial | omega), (by first | exact RNB.no (by omega) rfl | exact RNB.v1 rw96 ⟨by omega, by omega⟩ ⟨by omega, by omega⟩ (by omega))⟩⟩
        ·
          refine GO.tableAt (n := 2) (tgt := 100) dX12_number_48 (ir_c rfl) c18 (by decide) (by decide) rfl (by decide) ?_
          refine GO.aload_n dX12_number_100 rfl rfl ?_
          refine GO.bipush dX12_number_101 rfl ?_
          refine GO.iload_n dX12_number_103 rfl rfl ?_
          refine GO.iload_n dX12_number_104 rfl rfl ?_
          refine GO.iconst dX12_number_105 ?_
          have q33 : -2147483648 ≤ p1 ∧ p1 ≤ 2147483647 := r_p1
          have q34 : -2147483648 ≤ vi V x 9 ∧ vi V x 9 ≤ 2147483647 := vi_ir
          refine GO.callV (ci := 11) (N := mX12_asked) dX12_number_106 (RX12, TX12, 151) rfl gV_RX12_563 h_x (t_X12_asked h_x (ir_c rfl) r_p1 r_p2 (ir_c rfl) (by omega) (by omega)) rfl [] rfl rfl (Nat.le_of_ble_eq_true rfl) rfl (k_is fun X35 V39 r36 h37 hF38 => ?_)
          have raw_asked := h37.2
          have rw106 := h37.2
          exact GO.reti rfl rfl dX12_number_109 ⟨rfl, _, rfl, r36, ⟨(by first | exact trivial | omega), (by first | exact RNB.no (by omega) rfl | exact RNB.v2 rw106 ⟨by omega, by omega⟩ ⟨by omega, by omega⟩ (by omega))⟩⟩
        ·
          refine GO.tableAt (n := 3) (tgt := 110) dX12_number_48 (ir_c rfl) c18 (by decide) (by decide) rfl (by decide) ?_
          refine GO.aload_n dX12_number_110 rfl rfl ?_
          refine GO.iload_n dX12_number_111 rfl rfl ?_
          refine GO.iload_n dX12_number_112 rfl rfl ?_
          have q40 : -2147483648 ≤ p1 ∧ p1 ≤ 2147483647 := r_p1
          have q41 : -2147483648 ≤ vi V x 9 ∧ vi V x 9 ≤ 2147483647 := vi_ir
          refine GO.callV (ci := 11) (N := mX12_isAsleep) dX12_number_113 (RX12, TX12, 151) rfl gV_RX12_418 h_x (t_X12_isAsleep h_x r_p1 r_p2 (by omega) (by omega)) rfl [] rfl rfl (Nat.le_of_ble_eq_true rfl) rfl (k_is fun X42 V46 r43 h44 hF45 => ?_)
          have raw_isAsleep := h44.2.2.2
          have rw113 := h44.2.2.2
          refine GO.if_eq (tgt := 123) dX12_number_116 (by decide) r43 (fun c47 => ?_) (fun c47 => ?_)
          ·
            refine GO.iconst dX12_number_123 ?_
            exact GO.reti rfl rfl dX12_number_124 ⟨rfl, _, rfl, (ir_c rfl), ⟨(by first | exact trivial | omega), (by first | exact RNB.no (by omega) rfl | exact RNB.v3 rw113 ⟨by omega, by omega⟩ ⟨by omega, by omega⟩ (by omega) (by omega))⟩⟩
          ·
            refine GO.iconst dX12_number_119 ?_
            refine GO.goto (tgt := 124) dX12_number_120 (by decide) ?_
            exact GO.reti rfl rfl dX12_number_124 ⟨rfl, _, rfl, (ir_c rfl), ⟨(by first | exact trivial | omega), (by first | exact RNB.no (by omega) rfl | exact RNB.v3 rw113 ⟨by omega, by omega⟩ ⟨by omega, by omega⟩ (by omega) (by omega))⟩⟩
      ·
        have q48 := h14.2.1 (by omega)
        refine GO.aload_n dX12_number_28 rfl rfl ?_
        refine GO.iload_n dX12_number_29 rfl rfl ?_
        refine GO.bipush dX12_number_30 rfl ?_
        refine GO.isub dX12_number_32 ?_
        refine GO.iconst dX12_number_33 ?_
        have q49 : -2147483648 ≤ p0 ∧ p0 ≤ 2147483647 := r_p0
        refine GO.idivP dX12_number_34 ⟨by omega, by omega⟩ (ir_c rfl) (by omega) (by omega) ?_
        refine GO.iload_n dX12_number_35 rfl rfl ?_
        refine GO.bipush dX12_number_36 rfl ?_
        refine GO.isub dX12_number_38 ?_
        refine GO.iconst dX12_number_39 ?_
        refine GO.iremP dX12_number_40 ⟨by omega, by omega⟩ (ir_c rfl) (by omega) (by omega) ?_
        refine GO.iload_n dX12_number_41 rfl rfl ?_
        refine GO.iload_n dX12_number_42 rfl rfl ?_
        have q50 : -2147483648 ≤ p1 ∧ p1 ≤ 2147483647 := r_p1
        have q51 : -2147483648 ≤ vi V x 9 ∧ vi V x 9 ≤ 2147483647 := vi_ir
        refine GO.callV (ci := 11) (N := mX12_caughtAtMost) dX12_number_43 (RX12, TX12, 151) rfl gV_RX12_560 h_x (t_X12_caughtAtMost h_x ⟨by omega, by omega⟩ ⟨by omega, by omega⟩ r_p1 r_p2 (by omega) (by omega)) rfl [] rfl rfl (Nat.le_of_ble_eq_true rfl) rfl (k_is fun X52 V56 r53 h54 hF55 => ?_)
        have raw_caughtAtMost := h54.2
        have rw43 := h54.2
        exact GO.reti rfl rfl dX12_number_46 ⟨rfl, _, rfl, r53, ⟨(by first | exact trivial | omega), (by first | exact RNB.no (by omega) rfl | exact RNB.vk rw43 ⟨by omega, by omega⟩ ⟨by omega, by omega⟩ ⟨by omega, by omega⟩)⟩⟩
    ·
      have q57 := h9.2.2 (by omega)
      refine GO.iconst dX12_number_15 ?_
      exact GO.reti rfl rfl dX12_number_16 ⟨rfl, _, rfl, (ir_c rfl), ⟨(by first | exact trivial | omega), (by first | exact RNB.no (by omega) rfl)⟩⟩

set_option maxHeartbeats 1000000 in
theorem t_X12_isWork {K : Kmap} {V : Vmap} {x : Nat} {p0 : Int} (h_x : K x = some (0, 11)) (r_p0 : ir p0) : MC mX12_isWork K V [.ref x, ti p0] (IP K V (fun X => (X = 0 ∨ X = 1) ∧ (X ≠ 0 → p0 ≥ 0 ∧ p0 ≤ 99) ∧ (X = 0 → True))) := by
  refine MC.start 0 (by decide +kernel) rfl rfl rfl (ls0 := [some (.ref x), some (ti p0)]) rfl ?_
  refine GO.iload_n dX12_isWork_0 rfl rfl ?_
  refine GO.if_lt (tgt := 16) dX12_isWork_1 (by decide) r_p0 (fun c1 => ?_) (fun c1 => ?_)
  ·
    refine GO.iconst dX12_isWork_16 ?_
    exact GO.retz rfl rfl dX12_isWork_17 (Or.inl rfl) ⟨rfl, rfl, _, rfl, (ir_c rfl), ⟨Or.inl rfl, fun h => absurd rfl h, fun _ => trivial⟩⟩
  ·
    refine GO.iload_n dX12_isWork_4 rfl rfl ?_
    refine GO.aload_n dX12_isWork_5 rfl rfl ?_
    refine GO.getI h_x fl_RX12_378 rfl rfl dX12_isWork_6 (fun l2 u3 => ?_)
    refine GO.icmp_ge (tgt := 16) dX12_isWork_9 (by decide) r_p0 vi_ir (fun c4 => ?_) (fun c4 => ?_)
    ·
      refine GO.iconst dX12_isWork_16 ?_
      exact GO.retz rfl rfl dX12_isWork_17 (Or.inl rfl) ⟨rfl, rfl, _, rfl, (ir_c rfl), ⟨Or.inl rfl, fun h => absurd rfl h, fun _ => trivial⟩⟩
    ·
      refine GO.iconst dX12_isWork_12 ?_
      refine GO.goto (tgt := 17) dX12_isWork_13 (by decide) ?_
      exact GO.retz rfl rfl dX12_isWork_17 (Or.inr rfl) ⟨rfl, rfl, _, rfl, (ir_c rfl), ⟨Or.inr rfl, fun h => by omega, fun _ => trivial⟩⟩

set_option maxHeartbeats 1000000 in
theorem t_X12_work {K : Kmap} {V : Vmap} {x : Nat} {p0 : Int} {p1 : Int} {p2 : Int} {p3 : Int} {p4 : Int} {p5 : Int} {p6 : Int} (h_x : K x = some (0, 11)) (r_p0 : ir p0) (r_p1 : ir p1) (r_p2 : ir p2) (r_p3 : ir p3) (r_p4 : ir p4) (r_p5 : ir p5) (r_p6 : ir p6) : MC mX12_work K V [.ref x, ti p0, ti p1, ti p2, ti p3, ti p4, ti p5, ti p6] (IS K (fun X V1 => True)) := by
  refine MC.start 1 (by decide +kernel) rfl rfl rfl (ls0 := [some (.ref x), some (ti p0), some (ti p1), some (ti p2), some (ti p3), some (ti p4), some (ti p5), some (ti p6), none]) rfl ?_
  refine GO.iload_n dX12_work_0 rfl rfl ?_
  refine GO.iconst dX12_work_1 ?_
  refine GO.bipush dX12_work_2 rfl ?_
  refine GO.callS (N := mX12_in) dX12_work_4 gS_RX12_371 (t_X12_in r_p0 (ir_c rfl) (ir_c rfl)) rfl [] rfl rfl (Nat.le_of_ble_eq_true rfl) rfl (k_ip fun X1 r2 h3 => ?_)
  have raw_in := h3.2.2.2
  have rw4 := h3.2.2.2
  refine GO.if_eq (tgt := 86) dX12_work_7 (by decide) r2 (fun c4 => ?_) (fun c4 => ?_)
  ·
    have q5 := h3.2.2.1 (by omega)
    refine GO.iconst dX12_work_86 ?_
    exact GO.reti rfl rfl dX12_work_87 ⟨rfl, _, rfl, (ir_c rfl), trivial⟩
  ·
    have q6 := h3.2.1 (by omega)
    refine GO.aload_n dX12_work_10 rfl rfl ?_
    refine GO.iload_n dX12_work_11 rfl rfl ?_
    refine GO.callV (ci := 11) (N := mX12_isParty) dX12_work_12 (RX12, TX12, 151) rfl gV_RX12_406 h_x (t_X12_isParty h_x r_p1) rfl [] rfl rfl (Nat.le_of_ble_eq_true rfl) rfl (k_ip fun X7 r8 h9 => ?_)
    refine GO.if_eq (tgt := 86) dX12_work_15 (by decide) r8 (fun c10 => ?_) (fun c10 => ?_)
    ·
      have q11 := h9.2.2 (by omega)
      refine GO.iconst dX12_work_86 ?_
      exact GO.reti rfl rfl dX12_work_87 ⟨rfl, _, rfl, (ir_c rfl), trivial⟩
    ·
      have q12 := h9.2.1 (by omega)
      refine GO.aload_n dX12_work_18 rfl rfl ?_
      refine GO.iload_n dX12_work_19 rfl rfl ?_
      refine GO.callV (ci := 11) (N := mX12_isCell) dX12_work_20 (RX12, TX12, 151) rfl gV_RX12_381 h_x (t_X12_isCell h_x r_p2) rfl [] rfl rfl (Nat.le_of_ble_eq_true rfl) rfl (k_ip fun X13 r14 h15 => ?_)
      refine GO.if_eq (tgt := 86) dX12_work_23 (by decide) r14 (fun c16 => ?_) (fun c16 => ?_)
      ·
        refine GO.iconst dX12_work_86 ?_
        exact GO.reti rfl rfl dX12_work_87 ⟨rfl, _, rfl, (ir_c rfl), trivial⟩
      ·
        have q17 := h15.2.1 (by omega)
        refine GO.iload dX12_work_26 rfl ?_
        refine GO.aload_n dX12_work_28 rfl rfl ?_
        refine GO.getI h_x fl_RX12_396 rfl rfl dX12_work_29 (fun l18 u19 => ?_)
        refine GO.sipush dX12_work_32 rfl ?_
        refine GO.callS (N := mX12_in) dX12_work_35 gS_RX12_371 (t_X12_in r_p3 vi_ir (ir_c rfl)) rfl [] rfl rfl (Nat.le_of_ble_eq_true rfl) rfl (k_ip fun X20 r21 h22 => ?_)
        have raw_in := h22.2.2.2
        have rw35 := h22.2.2.2
        refine GO.if_eq (tgt := 86) dX12_work_38 (by decide) r21 (fun c23 => ?_) (fun c23 => ?_)
        ·
          have q24 := h22.2.2.1 (by omega)
          refine GO.iconst dX12_work_86 ?_
          exact GO.reti rfl rfl dX12_work_87 ⟨rfl, _, rfl, (ir_c rfl), trivial⟩
        ·
          have q25 := h22.2.1 (by omega)
          refine GO.iload dX12_work_41 rfl ?_
          refine GO.iload dX12_work_43 rfl ?_
          refine GO.sipush dX12_work_45 rfl ?_
          refine GO.callS (N := mX12_in) dX12_work_48 gS_RX12_371 (t_X12_in r_p4 r_p3 (ir_c rfl)) rfl [] rfl rfl (Nat.le_of_ble_eq_true rfl) rfl (k_ip fun X26 r27 h28 => ?_)
          have raw_in := h28.2.2.2
          have rw48 := h28.2.2.2
          refine GO.if_eq (tgt := 86) dX12_work_51 (by decide) r27 (fun c29 => ?_) (fun c29 => ?_)
          ·
            have q30 := h28.2.2.1 (by omega)
            refine GO.iconst dX12_work_86 ?_
            exact GO.reti rfl rfl dX12_work_87 ⟨rfl, _, rfl, (ir_c rfl), trivial⟩
          ·
            have q31 := h28.2.1 (by omega)
            refine GO.iload dX12_work_54 rfl ?_
            refine GO.iconst dX12_work_56 ?_
            refine GO.sipush dX12_work_57 rfl ?_
            refine GO.callS (N := mX12_in) dX12_work_60 gS_RX12_371 (t_X12_in r_p5 (ir_c rfl) (ir_c rfl)) rfl [] rfl rfl (Nat.le_of_ble_eq_true rfl) rfl (k_ip fun X32 r33 h34 => ?_)
            have raw_in := h34.2.2.2
            have rw60 := h34.2.2.2
            refine GO.if_eq (tgt := 86) dX12_work_63 (by decide) r33 (fun c35 => ?_) (fun c35 => ?_)
            ·
              have q36 := h34.2.2.1 (by omega)
              refine GO.iconst dX12_work_86 ?_
              exact GO.reti rfl rfl dX12_work_87 ⟨rfl, _, rfl, (ir_c rfl), trivial⟩
            ·
              have q37 := h34.2.1 (by omega)
              refine GO.iload dX12_work_66 rfl ?_
              refine GO.iconst dX12_work_68 ?_
              refine GO.bipush dX12_work_69 rfl ?_
              refine GO.callS (N := mX12_in) dX12_work_71 gS_RX12_371 (t_X12_in r_p6 (ir_c rfl) (ir_c rfl)) rfl [] rfl rfl (Nat.le_of_ble_eq_true rfl) rfl (k_ip fun X38 r39 h40 => ?_)
              have raw_in := h40.2.2.2
              have rw71 := h40.2.2.2
              refine GO.if_eq (tgt := 86) dX12_work_74 (by decide) r39 (fun c41 => ?_) (fun c41 => ?_)
              ·
                have q42 := h40.2.2.1 (by omega)
                refine GO.iconst dX12_work_86 ?_
                exact GO.reti rfl rfl dX12_work_87 ⟨rfl, _, rfl, (ir_c rfl), trivial⟩
              ·
                have q43 := h40.2.1 (by omega)
                refine GO.aload_n dX12_work_77 rfl rfl ?_
                refine GO.getI h_x fl_RX12_378 rfl rfl dX12_work_78 (fun l44 u45 => ?_)
                refine GO.bipush dX12_work_81 rfl ?_
                refine GO.icmp_ne (tgt := 88) dX12_work_83 (by decide) vi_ir (ir_c rfl) (fun c46 => ?_) (fun c46 => ?_)
                ·
                  refine GO.aload_n dX12_work_88 rfl rfl ?_
                  refine GO.getI h_x fl_RX12_378 rfl rfl dX12_work_89 (fun l47 u48 => ?_)
                  refine GO.name (fun z49 hz50 => ?_)
                  have r51 : ir z49 := hz50 ▸ vi_ir
                  refine GO.istore (ls1 := [some (.ref x), some (ti p0), some (ti p1), some (ti p2), some (ti p3), some (ti p4), some (ti p5), some (ti p6), some (ti z49)]) dX12_work_92 rfl rfl ?_
                  refine GO.aload_n dX12_work_94 rfl rfl ?_
                  refine GO.getA (n := 100) h_x fl_RX12_163 rfl rfl rfl rfl dX12_work_95 (fun hv53 h52 => ?_)
                  refine GO.iload dX12_work_98 rfl ?_
                  refine GO.iload_n dX12_work_100 rfl rfl ?_
                  refine GO.iast (t := 57) rfl rfl (by decide +kernel) h52 r51 (by omega) (by omega) r_p0 (r_p0).1 (r_p0).2 dX12_work_101 (fun V55 e54 => ?_)
                  refine GO.aload_n dX12_work_102 rfl rfl ?_
                  refine GO.getA (n := 100) h_x fl_RX12_166 rfl rfl rfl rfl dX12_work_103 (fun hv57 h56 => ?_)
                  refine GO.iload dX12_work_106 rfl ?_
                  refine GO.iload_n dX12_work_108 rfl rfl ?_
                  have q59 : -2147483648 ≤ p1 ∧ p1 ≤ 2147483647 := r_p1
                  have q60 : -2147483648 ≤ vi V x 9 ∧ vi V x 9 ≤ 2147483647 := vi_ir
                  refine GO.iast (t := 58) rfl rfl (by decide +kernel) h56 r51 (by omega) (by omega) r_p1 (by omega) (by omega) dX12_work_109 (fun V61 e58 => ?_)
                  refine GO.aload_n dX12_work_110 rfl rfl ?_
                  refine GO.getA (n := 100) h_x fl_RX12_169 rfl rfl rfl rfl dX12_work_111 (fun hv63 h62 => ?_)
                  refine GO.iload dX12_work_114 rfl ?_
                  refine GO.iload_n dX12_work_116 rfl rfl ?_
                  have q65 : -2147483648 ≤ p2 ∧ p2 ≤ 2147483647 := r_p2
                  refine GO.iast (t := 59) rfl rfl (by decide +kernel) h62 r51 (by omega) (by omega) r_p2 (by omega) (by omega) dX12_work_117 (fun V66 e64 => ?_)
                  refine GO.aload_n dX12_work_118 rfl rfl ?_
                  refine GO.getA (n := 100) h_x fl_RX12_172 rfl rfl rfl rfl dX12_work_119 (fun hv68 h67 => ?_)
                  refine GO.iload dX12_work_122 rfl ?_
                  refine GO.iload dX12_work_124 rfl ?_
                  refine GO.iast (t := 60) rfl rfl (by decide +kernel) h67 r51 (by omega) (by omega) r_p3 (r_p3).1 (r_p3).2 dX12_work_126 (fun V70 e69 => ?_)
                  refine GO.aload_n dX12_work_127 rfl rfl ?_
                  refine GO.getA (n := 100) h_x fl_RX12_175 rfl rfl rfl rfl dX12_work_128 (fun hv72 h71 => ?_)
                  refine GO.iload dX12_work_131 rfl ?_
                  refine GO.iload dX12_work_133 rfl ?_
                  refine GO.iast (t := 61) rfl rfl (by decide +kernel) h71 r51 (by omega) (by omega) r_p4 (r_p4).1 (r_p4).2 dX12_work_135 (fun V74 e73 => ?_)
                  refine GO.aload_n dX12_work_136 rfl rfl ?_
                  refine GO.getA (n := 100) h_x fl_RX12_178 rfl rfl rfl rfl dX12_work_137 (fun hv76 h75 => ?_)
                  refine GO.iload dX12_work_140 rfl ?_
                  refine GO.iload dX12_work_142 rfl ?_
                  refine GO.iast (t := 62) rfl rfl (by decide +kernel) h75 r51 (by omega) (by omega) r_p5 (r_p5).1 (r_p5).2 dX12_work_144 (fun V78 e77 => ?_)
                  refine GO.aload_n dX12_work_145 rfl rfl ?_
                  refine GO.getA (n := 100) h_x fl_RX12_181 rfl rfl rfl rfl dX12_work_146 (fun hv80 h79 => ?_)
                  refine GO.iload dX12_work_149 rfl ?_
                  refine GO.iload dX12_work_151 rfl ?_
                  refine GO.iast (t := 63) rfl rfl (by decide +kernel) h79 r51 (by omega) (by omega) r_p6 (r_p6).1 (r_p6).2 dX12_work_153 (fun V82 e81 => ?_)
                  refine GO.aload_n dX12_work_154 rfl rfl ?_
                  refine GO.getA (n := 100) h_x fl_RX12_190 rfl rfl rfl rfl dX12_work_155 (fun hv84 h83 => ?_)
                  refine GO.iload dX12_work_158 rfl ?_
                  refine GO.iconst dX12_work_160 ?_
                  refine GO.iast (t := 66) rfl rfl (by decide +kernel) h83 r51 (by omega) (by omega) (ir_c rfl) (by decide) (by decide) dX12_work_161 (fun V86 e85 => ?_)
                  refine GO.aload_n dX12_work_162 rfl rfl ?_
                  refine GO.getA (n := 100) h_x fl_RX12_193 rfl rfl rfl rfl dX12_work_163 (fun hv88 h87 => ?_)
                  refine GO.iload dX12_work_166 rfl ?_
                  refine GO.iconst dX12_work_168 ?_
                  refine GO.iast (t := 67) rfl rfl (by decide +kernel) h87 r51 (by omega) (by omega) (ir_c rfl) (by decide) (by decide) dX12_work_169 (fun V90 e89 => ?_)
                  refine GO.aload_n dX12_work_170 rfl rfl ?_
                  refine GO.getA (n := 100) h_x fl_RX12_196 rfl rfl rfl rfl dX12_work_171 (fun hv92 h91 => ?_)
                  refine GO.iload dX12_work_174 rfl ?_
                  refine GO.iconst dX12_work_176 ?_
                  refine GO.iast (t := 68) rfl rfl (by decide +kernel) h91 r51 (by omega) (by omega) (ir_c rfl) (by decide) (by decide) dX12_work_177 (fun V94 e93 => ?_)
                  refine GO.aload_n dX12_work_178 rfl rfl ?_
                  refine GO.getA (n := 100) h_x fl_RX12_199 rfl rfl rfl rfl dX12_work_179 (fun hv96 h95 => ?_)
                  refine GO.iload dX12_work_182 rfl ?_
                  refine GO.iconst dX12_work_184 ?_
                  refine GO.iast (t := 69) rfl rfl (by decide +kernel) h95 r51 (by omega) (by omega) (ir_c rfl) (by decide) (by decide) dX12_work_185 (fun V98 e97 => ?_)
                  refine GO.aload_n dX12_work_186 rfl rfl ?_
                  refine GO.aload_n dX12_work_187 rfl rfl ?_
                  refine GO.getI h_x fl_RX12_378 rfl rfl dX12_work_188 (fun l99 u100 => ?_)
                  have e111 : vi V55 x 66 = vi V x 66 := vi_up e54 (Or.inl (K_ne h_x h52 (by decide)))
                  have e110 : vi V61 x 66 = vi V55 x 66 := vi_up e58 (Or.inl (K_ne h_x h56 (by decide)))
                  have e109 : vi V66 x 66 = vi V61 x 66 := vi_up e64 (Or.inl (K_ne h_x h62 (by decide)))
                  have e108 : vi V70 x 66 = vi V66 x 66 := vi_up e69 (Or.inl (K_ne h_x h67 (by decide)))
                  have e107 : vi V74 x 66 = vi V70 x 66 := vi_up e73 (Or.inl (K_ne h_x h71 (by decide)))
                  have e106 : vi V78 x 66 = vi V74 x 66 := vi_up e77 (Or.inl (K_ne h_x h75 (by decide)))
                  have e105 : vi V82 x 66 = vi V78 x 66 := vi_up e81 (Or.inl (K_ne h_x h79 (by decide)))
                  have e104 : vi V86 x 66 = vi V82 x 66 := vi_up e85 (Or.inl (K_ne h_x h83 (by decide)))
                  have e103 : vi V90 x 66 = vi V86 x 66 := vi_up e89 (Or.inl (K_ne h_x h87 (by decide)))
                  have e102 : vi V94 x 66 = vi V90 x 66 := vi_up e93 (Or.inl (K_ne h_x h91 (by decide)))
                  have e101 : vi V98 x 66 = vi V94 x 66 := vi_up e97 (Or.inl (K_ne h_x h95 (by decide)))
                  refine GO.iconst dX12_work_191 ?_
                  refine GO.iadd dX12_work_192 ?_
                  refine GO.putI h_x fp_RX12_378 rfl (by decide +kernel) ⟨by omega, by omega⟩ (by omega) (by omega) dX12_work_193 (fun V113 e112 => ?_)
                  refine GO.iload dX12_work_196 rfl ?_
                  exact GO.reti rfl rfl dX12_work_198 ⟨rfl, _, rfl, r51, trivial⟩
                ·
                  refine GO.iconst dX12_work_86 ?_
                  exact GO.reti rfl rfl dX12_work_87 ⟨rfl, _, rfl, (ir_c rfl), trivial⟩

set_option maxHeartbeats 1000000 in
theorem t_X12_tell {K : Kmap} {V : Vmap} {x : Nat} {p0 : Int} {p1 : Int} (h_x : K x = some (0, 11)) (r_p0 : ir p0) (r_p1 : ir p1) : MC mX12_tell K V [.ref x, ti p0, ti p1] (IS K (fun X V1 => (X = 0 ∨ X = 1) ∧ (X ≠ 0 → True) ∧ (X = 0 → True))) := by
  refine MC.start 0 (by decide +kernel) rfl rfl rfl (ls0 := [some (.ref x), some (ti p0), some (ti p1)]) rfl ?_
  refine GO.aload_n dX12_tell_0 rfl rfl ?_
  refine GO.iload_n dX12_tell_1 rfl rfl ?_
  refine GO.callV (ci := 11) (N := mX12_isWork) dX12_tell_2 (RX12, TX12, 151) rfl gV_RX12_566 h_x (t_X12_isWork h_x r_p0) rfl [] rfl rfl (Nat.le_of_ble_eq_true rfl) rfl (k_ip fun X1 r2 h3 => ?_)
  refine GO.if_eq (tgt := 40) dX12_tell_5 (by decide) r2 (fun c4 => ?_) (fun c4 => ?_)
  ·
    refine GO.iconst dX12_tell_40 ?_
    exact GO.retz rfl rfl dX12_tell_41 (Or.inl rfl) ⟨rfl, _, rfl, (ir_c rfl), ⟨Or.inl rfl, fun _ => trivial, fun _ => trivial⟩⟩
  ·
    have q5 := h3.2.1 (by omega)
    refine GO.iload_n dX12_tell_8 rfl rfl ?_
    refine GO.iconst dX12_tell_9 ?_
    refine GO.iconst dX12_tell_10 ?_
    refine GO.callS (N := mX12_in) dX12_tell_11 gS_RX12_371 (t_X12_in r_p1 (ir_c rfl) (ir_c rfl)) rfl [] rfl rfl (Nat.le_of_ble_eq_true rfl) rfl (k_ip fun X6 r7 h8 => ?_)
    have raw_in := h8.2.2.2
    have rw11 := h8.2.2.2
    refine GO.if_eq (tgt := 40) dX12_tell_14 (by decide) r7 (fun c9 => ?_) (fun c9 => ?_)
    ·
      have q10 := h8.2.2.1 (by omega)
      refine GO.iconst dX12_tell_40 ?_
      exact GO.retz rfl rfl dX12_tell_41 (Or.inl rfl) ⟨rfl, _, rfl, (ir_c rfl), ⟨Or.inl rfl, fun _ => trivial, fun _ => trivial⟩⟩
    ·
      have q11 := h8.2.1 (by omega)
      refine GO.iload_n dX12_tell_17 rfl rfl ?_
      have hj20 : ∀ (z19 : Int), ∀ (l21 : (-2147483648) ≤ z19), ∀ (u22 : z19 ≤ 2147483647), GO mX12_tell K V (IS K (fun X V1 => (X = 0 ∨ X = 1) ∧ (X ≠ 0 → True) ∧ (X = 0 → True))) K V 0 0 36 [some (.ref x), some (ti p0), some (ti p1)] [ti z19] := by
        intro z19 l21 u22
        have r23 : ir z19 := ⟨by omega, by omega⟩
        refine GO.iconst dX12_tell_36 ?_
        refine GO.icmp_eq (tgt := 42) dX12_tell_37 (by decide) r23 (ir_c rfl) (fun c24 => ?_) (fun c24 => ?_)
        ·
          refine GO.iload_n dX12_tell_42 rfl rfl ?_
          refine GO.if_ne (tgt := 59) dX12_tell_43 (by decide) r_p1 (fun c25 => ?_) (fun c25 => ?_)
          ·
            refine GO.aload_n dX12_tell_59 rfl rfl ?_
            refine GO.getA (n := 100) h_x fl_RX12_193 rfl rfl rfl rfl dX12_tell_60 (fun hv27 h26 => ?_)
            refine GO.iload_n dX12_tell_63 rfl rfl ?_
            refine GO.aload_n dX12_tell_64 rfl rfl ?_
            refine GO.getI h_x fl_RX12_396 rfl rfl dX12_tell_65 (fun l28 u29 => ?_)
            have q30 : -2147483648 ≤ p0 ∧ p0 ≤ 2147483647 := r_p0
            refine GO.iast (t := 67) rfl rfl (by decide +kernel) h26 r_p0 (by omega) (by omega) vi_ir (vi_ir).1 (vi_ir).2 dX12_tell_68 (fun V32 e31 => ?_)
            refine GO.iconst dX12_tell_69 ?_
            exact GO.retz rfl rfl dX12_tell_70 (Or.inr rfl) ⟨rfl, _, rfl, (ir_c rfl), ⟨Or.inr rfl, fun _ => trivial, fun _ => trivial⟩⟩
          ·
            refine GO.aload_n dX12_tell_46 rfl rfl ?_
            refine GO.getA (n := 100) h_x fl_RX12_190 rfl rfl rfl rfl dX12_tell_47 (fun hv34 h33 => ?_)
            refine GO.iload_n dX12_tell_50 rfl rfl ?_
            refine GO.aload_n dX12_tell_51 rfl rfl ?_
            refine GO.getI h_x fl_RX12_396 rfl rfl dX12_tell_52 (fun l35 u36 => ?_)
            have q37 : -2147483648 ≤ p0 ∧ p0 ≤ 2147483647 := r_p0
            refine GO.iast (t := 66) rfl rfl (by decide +kernel) h33 r_p0 (by omega) (by omega) vi_ir (vi_ir).1 (vi_ir).2 dX12_tell_55 (fun V39 e38 => ?_)
            refine GO.goto (tgt := 69) dX12_tell_56 (by decide) ?_
            refine GO.iconst dX12_tell_69 ?_
            exact GO.retz rfl rfl dX12_tell_70 (Or.inr rfl) ⟨rfl, _, rfl, (ir_c rfl), ⟨Or.inr rfl, fun _ => trivial, fun _ => trivial⟩⟩
        ·
          refine GO.iconst dX12_tell_40 ?_
          exact GO.retz rfl rfl dX12_tell_41 (Or.inl rfl) ⟨rfl, _, rfl, (ir_c rfl), ⟨Or.inl rfl, fun _ => trivial, fun _ => trivial⟩⟩
      refine GO.if_ne (tgt := 30) dX12_tell_18 (by decide) r_p1 (fun c40 => ?_) (fun c40 => ?_)
      ·
        refine GO.aload_n dX12_tell_30 rfl rfl ?_
        refine GO.getA (n := 100) h_x fl_RX12_193 rfl rfl rfl rfl dX12_tell_31 (fun hv42 h41 => ?_)
        refine GO.iload_n dX12_tell_34 rfl rfl ?_
        have q43 : -2147483648 ≤ p0 ∧ p0 ≤ 2147483647 := r_p0
        refine GO.iald (t := 67) rfl rfl h41 r_p0 (by omega) (by omega) dX12_tell_35 (fun _ _ => ?_)
        have q44 : -2147483648 ≤ vi V (vq V x 77) (p0).toNat ∧ vi V (vq V x 77) (p0).toNat ≤ 2147483647 := vi_ir
        exact hj20 (vi V (vq V x 77) (p0).toNat) (by omega) (by omega)
      ·
        refine GO.aload_n dX12_tell_21 rfl rfl ?_
        refine GO.getA (n := 100) h_x fl_RX12_190 rfl rfl rfl rfl dX12_tell_22 (fun hv46 h45 => ?_)
        refine GO.iload_n dX12_tell_25 rfl rfl ?_
        have q47 : -2147483648 ≤ p0 ∧ p0 ≤ 2147483647 := r_p0
        refine GO.iald (t := 66) rfl rfl h45 r_p0 (by omega) (by omega) dX12_tell_26 (fun _ _ => ?_)
        refine GO.goto (tgt := 36) dX12_tell_27 (by decide) ?_
        have q48 : -2147483648 ≤ vi V (vq V x 76) (p0).toNat ∧ vi V (vq V x 76) (p0).toNat ≤ 2147483647 := vi_ir
        exact hj20 (vi V (vq V x 76) (p0).toNat) (by omega) (by omega)

set_option maxHeartbeats 1000000 in
theorem t_X12_study {K : Kmap} {V : Vmap} {x : Nat} {p0 : Int} {p1 : Int} (h_x : K x = some (0, 11)) (r_p0 : ir p0) (r_p1 : ir p1) : MC mX12_study K V [.ref x, ti p0, ti p1] (IS K (fun X V1 => (X = 0 ∨ X = 1) ∧ (X ≠ 0 → True) ∧ (X = 0 → True))) := by
  refine MC.start 0 (by decide +kernel) rfl rfl rfl (ls0 := [some (.ref x), some (ti p0), some (ti p1)]) rfl ?_
  refine GO.aload_n dX12_study_0 rfl rfl ?_
  refine GO.iload_n dX12_study_1 rfl rfl ?_
  refine GO.callV (ci := 11) (N := mX12_isWork) dX12_study_2 (RX12, TX12, 151) rfl gV_RX12_566 h_x (t_X12_isWork h_x r_p0) rfl [] rfl rfl (Nat.le_of_ble_eq_true rfl) rfl (k_ip fun X1 r2 h3 => ?_)
  refine GO.if_eq (tgt := 29) dX12_study_5 (by decide) r2 (fun c4 => ?_) (fun c4 => ?_)
  ·
    refine GO.iconst dX12_study_29 ?_
    exact GO.retz rfl rfl dX12_study_30 (Or.inl rfl) ⟨rfl, _, rfl, (ir_c rfl), ⟨Or.inl rfl, fun _ => trivial, fun _ => trivial⟩⟩
  ·
    have q5 := h3.2.1 (by omega)
    refine GO.iload_n dX12_study_8 rfl rfl ?_
    refine GO.iconst dX12_study_9 ?_
    refine GO.sipush dX12_study_10 rfl ?_
    refine GO.callS (N := mX12_in) dX12_study_13 gS_RX12_371 (t_X12_in r_p1 (ir_c rfl) (ir_c rfl)) rfl [] rfl rfl (Nat.le_of_ble_eq_true rfl) rfl (k_ip fun X6 r7 h8 => ?_)
    have raw_in := h8.2.2.2
    have rw13 := h8.2.2.2
    refine GO.if_eq (tgt := 29) dX12_study_16 (by decide) r7 (fun c9 => ?_) (fun c9 => ?_)
    ·
      have q10 := h8.2.2.1 (by omega)
      refine GO.iconst dX12_study_29 ?_
      exact GO.retz rfl rfl dX12_study_30 (Or.inl rfl) ⟨rfl, _, rfl, (ir_c rfl), ⟨Or.inl rfl, fun _ => trivial, fun _ => trivial⟩⟩
    ·
      have q11 := h8.2.1 (by omega)
      refine GO.aload_n dX12_study_19 rfl rfl ?_
      refine GO.getA (n := 100) h_x fl_RX12_196 rfl rfl rfl rfl dX12_study_20 (fun hv13 h12 => ?_)
      refine GO.iload_n dX12_study_23 rfl rfl ?_
      have q14 : -2147483648 ≤ p0 ∧ p0 ≤ 2147483647 := r_p0
      refine GO.iald (t := 68) rfl rfl h12 r_p0 (by omega) (by omega) dX12_study_24 (fun _ _ => ?_)
      refine GO.iconst dX12_study_25 ?_
      refine GO.icmp_eq (tgt := 31) dX12_study_26 (by decide) vi_ir (ir_c rfl) (fun c15 => ?_) (fun c15 => ?_)
      ·
        refine GO.aload_n dX12_study_31 rfl rfl ?_
        refine GO.getRaw h_x fl_RX12_196 hv13 dX12_study_32 ?_
        refine GO.iload_n dX12_study_35 rfl rfl ?_
        refine GO.aload_n dX12_study_36 rfl rfl ?_
        refine GO.getI h_x fl_RX12_396 rfl rfl dX12_study_37 (fun l18 u19 => ?_)
        refine GO.iast (t := 68) rfl rfl (by decide +kernel) h12 r_p0 (by omega) (by omega) vi_ir (vi_ir).1 (vi_ir).2 dX12_study_40 (fun V21 e20 => ?_)
        refine GO.aload_n dX12_study_41 rfl rfl ?_
        refine GO.getA (n := 100) h_x fl_RX12_199 rfl rfl rfl rfl dX12_study_42 (fun hv23 h22 => ?_)
        refine GO.iload_n dX12_study_45 rfl rfl ?_
        refine GO.iload_n dX12_study_46 rfl rfl ?_
        refine GO.iast (t := 69) rfl rfl (by decide +kernel) h22 r_p0 (by omega) (by omega) r_p1 (r_p1).1 (r_p1).2 dX12_study_47 (fun V25 e24 => ?_)
        refine GO.iconst dX12_study_48 ?_
        exact GO.retz rfl rfl dX12_study_49 (Or.inr rfl) ⟨rfl, _, rfl, (ir_c rfl), ⟨Or.inr rfl, fun _ => trivial, fun _ => trivial⟩⟩
      ·
        refine GO.iconst dX12_study_29 ?_
        exact GO.retz rfl rfl dX12_study_30 (Or.inl rfl) ⟨rfl, _, rfl, (ir_c rfl), ⟨Or.inl rfl, fun _ => trivial, fun _ => trivial⟩⟩

set_option maxHeartbeats 1000000 in
theorem t_X12_say {K : Kmap} {V : Vmap} {x : Nat} {p0 : Int} {p1 : Int} {p2 : Int} (h_x : K x = some (0, 11)) (r_p0 : ir p0) (r_p1 : ir p1) (r_p2 : ir p2) (z_p2 : p2 = 0 ∨ p2 = 1) : MC mX12_say K V [.ref x, ti p0, ti p1, ti p2] (IS K (fun X V1 => (X = 0 ∨ X = 1) ∧ (X ≠ 0 → True) ∧ (X = 0 → True))) := by
  refine MC.start 0 (by decide +kernel) rfl rfl rfl (ls0 := [some (.ref x), some (ti p0), some (ti p1), some (ti p2)]) rfl ?_
  refine GO.aload_n dX12_say_0 rfl rfl ?_
  refine GO.iload_n dX12_say_1 rfl rfl ?_
  refine GO.callV (ci := 11) (N := mX12_isParty) dX12_say_2 (RX12, TX12, 151) rfl gV_RX12_406 h_x (t_X12_isParty h_x r_p0) rfl [] rfl rfl (Nat.le_of_ble_eq_true rfl) rfl (k_ip fun X1 r2 h3 => ?_)
  refine GO.if_eq (tgt := 16) dX12_say_5 (by decide) r2 (fun c4 => ?_) (fun c4 => ?_)
  ·
    have q5 := h3.2.2 (by omega)
    refine GO.iconst dX12_say_16 ?_
    exact GO.retz rfl rfl dX12_say_17 (Or.inl rfl) ⟨rfl, _, rfl, (ir_c rfl), ⟨Or.inl rfl, fun _ => trivial, fun _ => trivial⟩⟩
  ·
    have q6 := h3.2.1 (by omega)
    refine GO.aload_n dX12_say_8 rfl rfl ?_
    refine GO.iload_n dX12_say_9 rfl rfl ?_
    refine GO.callV (ci := 11) (N := mX12_isWork) dX12_say_10 (RX12, TX12, 151) rfl gV_RX12_566 h_x (t_X12_isWork h_x r_p1) rfl [] rfl rfl (Nat.le_of_ble_eq_true rfl) rfl (k_ip fun X7 r8 h9 => ?_)
    refine GO.if_ne (tgt := 18) dX12_say_13 (by decide) r8 (fun c10 => ?_) (fun c10 => ?_)
    ·
      have q11 := h9.2.1 (by omega)
      refine GO.aload_n dX12_say_18 rfl rfl ?_
      refine GO.getA (n := 900) h_x fl_RX12_202 rfl rfl rfl rfl dX12_say_19 (fun hv13 h12 => ?_)
      refine GO.bipush dX12_say_22 rfl ?_
      refine GO.iload_n dX12_say_24 rfl rfl ?_
      refine GO.imul dX12_say_25 ?_
      refine GO.iload_n dX12_say_26 rfl rfl ?_
      refine GO.iadd dX12_say_27 ?_
      refine GO.iload_n dX12_say_28 rfl rfl ?_
      refine GO.if_eq (tgt := 36) dX12_say_29 (by decide) r_p2 (fun c14 => ?_) (fun c14 => ?_)
      ·
        refine GO.iconst dX12_say_36 ?_
        have q15 : -2147483648 ≤ p0 ∧ p0 ≤ 2147483647 := r_p0
        have q16 : -2147483648 ≤ vi V x 9 ∧ vi V x 9 ≤ 2147483647 := vi_ir
        have q17 : -2147483648 ≤ p1 ∧ p1 ≤ 2147483647 := r_p1
        refine GO.iast (t := 70) rfl rfl (by decide +kernel) h12 ⟨by omega, by omega⟩ (by omega) (by omega) (ir_c rfl) (by decide) (by decide) dX12_say_37 (fun V19 e18 => ?_)
        refine GO.iconst dX12_say_38 ?_
        exact GO.retz rfl rfl dX12_say_39 (Or.inr rfl) ⟨rfl, _, rfl, (ir_c rfl), ⟨Or.inr rfl, fun _ => trivial, fun _ => trivial⟩⟩
      ·
        refine GO.iconst dX12_say_32 ?_
        refine GO.goto (tgt := 37) dX12_say_33 (by decide) ?_
        have q20 : -2147483648 ≤ p0 ∧ p0 ≤ 2147483647 := r_p0
        have q21 : -2147483648 ≤ vi V x 9 ∧ vi V x 9 ≤ 2147483647 := vi_ir
        have q22 : -2147483648 ≤ p1 ∧ p1 ≤ 2147483647 := r_p1
        refine GO.iast (t := 70) rfl rfl (by decide +kernel) h12 ⟨by omega, by omega⟩ (by omega) (by omega) (ir_c rfl) (by decide) (by decide) dX12_say_37 (fun V24 e23 => ?_)
        refine GO.iconst dX12_say_38 ?_
        exact GO.retz rfl rfl dX12_say_39 (Or.inr rfl) ⟨rfl, _, rfl, (ir_c rfl), ⟨Or.inr rfl, fun _ => trivial, fun _ => trivial⟩⟩
    ·
      refine GO.iconst dX12_say_16 ?_
      exact GO.retz rfl rfl dX12_say_17 (Or.inl rfl) ⟨rfl, _, rfl, (ir_c rfl), ⟨Or.inl rfl, fun _ => trivial, fun _ => trivial⟩⟩

set_option maxHeartbeats 1000000 in
theorem t_X12_isConsented {K : Kmap} {V : Vmap} {x : Nat} {p0 : Int} {p1 : Int} (h_x : K x = some (0, 11)) (r_p0 : ir p0) (r_p1 : ir p1) (q_0 : p0 ≥ 0) (q_1 : p0 ≤ 99) : MC mX12_isConsented K V [.ref x, ti p0, ti p1] (IP K V (fun X => (X = 0 ∨ X = 1) ∧ (X ≠ 0 → True) ∧ (X = 0 → True))) := by
  refine MC.start 3 (by decide +kernel) rfl rfl rfl (ls0 := [some (.ref x), some (ti p0), some (ti p1), none, none, none]) rfl ?_
  refine GO.iconst dX12_isConsented_0 ?_
  refine GO.istore_n (ls1 := [some (.ref x), some (ti p0), some (ti p1), some (ti 0), none, none]) dX12_isConsented_1 rfl rfl rfl ?_
  refine GO.iconst dX12_isConsented_2 ?_
  refine GO.istore (ls1 := [some (.ref x), some (ti p0), some (ti p1), some (ti 0), some (ti 0), none]) dX12_isConsented_3 rfl rfl ?_
  refine GO.iconst dX12_isConsented_5 ?_
  refine GO.istore (ls1 := [some (.ref x), some (ti p0), some (ti p1), some (ti 0), some (ti 0), some (ti 0)]) dX12_isConsented_6 rfl rfl ?_
  refine GO.loop3 (fun i1 i2 i3 W => (-2147483648) ≤ i1 ∧ i1 ≤ 2147483647 ∧ (-2147483648) ≤ i2 ∧ i2 ≤ 2147483647 ∧ 0 ≤ i3 ∧ i3 ≤ 9 ∧ V = W) (fun i1 i2 i3 => [some (.ref x), some (ti p0), some (ti p1), some (ti i1), some (ti i2), some (ti i3)]) (fun i1 i2 i3 W => (2147483647 - i3).toNat) 0 0 0 ⟨by omega, by omega, by omega, by omega, by omega, by omega, rfl⟩ rfl (fun i1 i2 i3 V1309 hp1311 ih1310 => ?_)
  obtain ⟨l_i1, u_i1, l_i2, u_i2, l_i3, u_i3, rfl⟩ := hp1311
  have r_i1 : ir i1 := ⟨by omega, by omega⟩
  have r_i2 : ir i2 := ⟨by omega, by omega⟩
  have r_i3 : ir i3 := ⟨by omega, by omega⟩
  show GO mX12_isConsented K V (IP K V (fun X => (X = 0 ∨ X = 1) ∧ (X ≠ 0 → True) ∧ (X = 0 → True))) K V 0 0 8 [some (.ref x), some (ti p0), some (ti p1), some (ti i1), some (ti i2), some (ti i3)] []
  refine GO.iload dX12_isConsented_8 rfl ?_
  refine GO.aload_n dX12_isConsented_10 rfl rfl ?_
  refine GO.getI h_x fl_RX12_393 rfl rfl dX12_isConsented_11 (fun l1312 u1313 => ?_)
  refine GO.icmp_ge (tgt := 84) dX12_isConsented_14 (by decide) r_i3 vi_ir (fun c1314 => ?_) (fun c1314 => ?_)
  ·
    refine GO.iconst dX12_isConsented_84 ?_
    refine GO.iload dX12_isConsented_85 rfl ?_
    refine GO.imul dX12_isConsented_87 ?_
    refine GO.norm (fun z1315 r1316 hn1317 => ?_)
    refine GO.iload_n dX12_isConsented_88 rfl rfl ?_
    refine GO.icmp_le (tgt := 96) dX12_isConsented_89 (by decide) r1316 r_i1 (fun c1318 => ?_) (fun c1318 => ?_)
    ·
      refine GO.iconst dX12_isConsented_96 ?_
      exact GO.retz rfl rfl dX12_isConsented_97 (Or.inl rfl) ⟨rfl, rfl, _, rfl, (ir_c rfl), ⟨Or.inl rfl, fun _ => trivial, fun _ => trivial⟩⟩
    ·
      refine GO.iconst dX12_isConsented_92 ?_
      refine GO.goto (tgt := 97) dX12_isConsented_93 (by decide) ?_
      exact GO.retz rfl rfl dX12_isConsented_97 (Or.inr rfl) ⟨rfl, rfl, _, rfl, (ir_c rfl), ⟨Or.inr rfl, fun _ => trivial, fun _ => trivial⟩⟩
  ·
    refine GO.aload_n dX12_isConsented_17 rfl rfl ?_
    refine GO.iload dX12_isConsented_18 rfl ?_
    refine GO.iload_n dX12_isConsented_20 rfl rfl ?_
    refine GO.callV (ci := 11) (N := mX12_decidesOn) dX12_isConsented_21 (RX12, TX12, 151) rfl gV_RX12_412 h_x (t_X12_decidesOn h_x r_i3 r_p1 (by omega) (by omega)) rfl [] rfl rfl (Nat.le_of_ble_eq_true rfl) rfl (k_ip fun X1319 r1320 h1321 => ?_)
    refine GO.if_ne (tgt := 30) dX12_isConsented_24 (by decide) r1320 (fun c1322 => ?_) (fun c1322 => ?_)
    ·
      refine GO.aload_n dX12_isConsented_30 rfl rfl ?_
      refine GO.getA (n := 900) h_x fl_RX12_202 rfl rfl rfl rfl dX12_isConsented_31 (fun hv1324 h1323 => ?_)
      refine GO.bipush dX12_isConsented_34 rfl ?_
      refine GO.iload_n dX12_isConsented_36 rfl rfl ?_
      refine GO.imul dX12_isConsented_37 ?_
      refine GO.iload dX12_isConsented_38 rfl ?_
      refine GO.iadd dX12_isConsented_40 ?_
      have q1325 : -2147483648 ≤ p0 ∧ p0 ≤ 2147483647 := r_p0
      refine GO.iald (t := 70) rfl rfl h1323 ⟨by omega, by omega⟩ (by omega) (by omega) dX12_isConsented_41 (fun _ _ => ?_)
      refine GO.iconst dX12_isConsented_42 ?_
      refine GO.icmp_ne (tgt := 48) dX12_isConsented_43 (by decide) vi_ir (ir_c rfl) (fun c1326 => ?_) (fun c1326 => ?_)
      ·
        refine GO.iload_n dX12_isConsented_48 rfl rfl ?_
        refine GO.iconst dX12_isConsented_49 ?_
        refine GO.iadd dX12_isConsented_50 ?_
        refine GO.norm (fun z1327 r1328 hn1329 => ?_)
        refine GO.istore_n (ls1 := [some (.ref x), some (ti p0), some (ti p1), some (ti z1327), some (ti i2), some (ti i3)]) dX12_isConsented_51 rfl rfl rfl ?_
        refine GO.iload dX12_isConsented_52 rfl ?_
        refine GO.aload_n dX12_isConsented_54 rfl rfl ?_
        refine GO.getRaw h_x fl_RX12_202 hv1324 dX12_isConsented_55 ?_
        refine GO.bipush dX12_isConsented_58 rfl ?_
        refine GO.iload_n dX12_isConsented_60 rfl rfl ?_
        refine GO.imul dX12_isConsented_61 ?_
        refine GO.iload dX12_isConsented_62 rfl ?_
        refine GO.iadd dX12_isConsented_64 ?_
        refine GO.iald (t := 70) rfl rfl h1323 ⟨by omega, by omega⟩ (by omega) (by omega) dX12_isConsented_65 (fun _ _ => ?_)
        refine GO.iconst dX12_isConsented_66 ?_
        refine GO.icmp_ne (tgt := 74) dX12_isConsented_67 (by decide) vi_ir (ir_c rfl) (fun c1332 => ?_) (fun c1332 => ?_)
        ·
          refine GO.iconst dX12_isConsented_74 ?_
          refine GO.iadd dX12_isConsented_75 ?_
          refine GO.name (fun z1333 hz1334 => ?_)
          refine GO.istore (ls1 := [some (.ref x), some (ti p0), some (ti p1), some (ti z1327), some (ti z1333), some (ti i3)]) dX12_isConsented_76 rfl rfl ?_
          refine GO.iinc (X := i3) (n := 1) (Y := i3 + 1) (ls1 := [some (.ref x), some (ti p0), some (ti p1), some (ti z1327), some (ti z1333), some (ti (i3 + 1))]) dX12_isConsented_78 rfl rfl rfl rfl ?_
          refine GO.goto (tgt := 8) dX12_isConsented_81 (by decide) ?_
          have q1335 : -2147483648 ≤ z1327 ∧ z1327 ≤ 2147483647 := r1328
          exact ih1310 z1327 z1333 (i3 + 1) V ⟨by omega, by omega, by omega, by omega, by omega, by omega, rfl⟩ (by show (2147483647 - (i3 + 1)).toNat < (2147483647 - i3).toNat; omega)
        ·
          refine GO.iconst dX12_isConsented_70 ?_
          refine GO.goto (tgt := 75) dX12_isConsented_71 (by decide) ?_
          refine GO.iadd dX12_isConsented_75 ?_
          refine GO.norm (fun z1336 r1337 hn1338 => ?_)
          refine GO.istore (ls1 := [some (.ref x), some (ti p0), some (ti p1), some (ti z1327), some (ti z1336), some (ti i3)]) dX12_isConsented_76 rfl rfl ?_
          refine GO.iinc (X := i3) (n := 1) (Y := i3 + 1) (ls1 := [some (.ref x), some (ti p0), some (ti p1), some (ti z1327), some (ti z1336), some (ti (i3 + 1))]) dX12_isConsented_78 rfl rfl rfl rfl ?_
          refine GO.goto (tgt := 8) dX12_isConsented_81 (by decide) ?_
          have q1339 : -2147483648 ≤ z1336 ∧ z1336 ≤ 2147483647 := r1337
          have q1340 : -2147483648 ≤ z1327 ∧ z1327 ≤ 2147483647 := r1328
          exact ih1310 z1327 z1336 (i3 + 1) V ⟨by omega, by omega, by omega, by omega, by omega, by omega, rfl⟩ (by show (2147483647 - (i3 + 1)).toNat < (2147483647 - i3).toNat; omega)
      ·
        refine GO.iconst dX12_isConsented_46 ?_
        exact GO.retz rfl rfl dX12_isConsented_47 (Or.inl rfl) ⟨rfl, rfl, _, rfl, (ir_c rfl), ⟨Or.inl rfl, fun _ => trivial, fun _ => trivial⟩⟩
    ·
      refine GO.goto (tgt := 78) dX12_isConsented_27 (by decide) ?_
      refine GO.iinc (X := i3) (n := 1) (Y := i3 + 1) (ls1 := [some (.ref x), some (ti p0), some (ti p1), some (ti i1), some (ti i2), some (ti (i3 + 1))]) dX12_isConsented_78 rfl rfl rfl rfl ?_
      refine GO.goto (tgt := 8) dX12_isConsented_81 (by decide) ?_
      exact ih1310 i1 i2 (i3 + 1) V ⟨by omega, by omega, by omega, by omega, by omega, by omega, rfl⟩ (by show (2147483647 - (i3 + 1)).toNat < (2147483647 - i3).toNat; omega)
