def mX12_field : MRec := (RX12, cX12_field, 3, (some .int), yX12_field, 3, 64, 0, 0, 7832840973454139613947270408312428231582184375058907114421149512994188827162264201068544)
def mX12_reserve : MRec := (RX12, cX12_reserve, 4, (some .int), yX12_reserve, 2, 43, 0, 0, 7832840973454139613947270408312428231582184375058907114421149512994188827162264201068544)
def mX12_site : MRec := (RX12, cX12_site, 3, (some .int), yX12_site, 1, 25, 0, 0, 7832840973454139613947270408312428231582184375058907114421149512994188827162264201068544)
def mX12_types : MRec := (RX12, cX12_types, 3, (none : Option Jvm.ClassFile.FieldType), yX12_types, 0, 0, 0, 0, 8148143905337944345073782753637512644205873575377368848897541737946668183778094392924962816)
def mX12_feed : MRec := (RX12, cX12_feed, 6, (some .int), yX12_feed, 1, 22, 0, 0, 8148143905337944345073782753637512644205873575377368848897541737946668183778094392924962816)
def mX12_sign : MRec := (RX12, cX12_sign, 1, (some .int), yX12_sign, 0, 0, 0, 0, 0)
def mX12_isDigit : MRec := (RX12, cX12_isDigit, 1, (some .boolean), yX12_isDigit, 1, 20, 0, 0, 0)
def mX12_wrong : MRec := (RX12, cX12_wrong, 3, (some .boolean), yX12_wrong, 0, 0, 0, 0, 5708990770823839524233143877797980545530986496)
def mX12_takes : MRec := (RX12, cX12_takes, 2, (some .boolean), yX12_takes, 1, 22, 0, 0, 7136238463529799405291429847247475681913733120)
def mX12_readsNumber : MRec := (RX12, cX12_readsNumber, 3, (some .boolean), yX12_readsNumber, 2, 40, 0, 0, 18554220005177478453757717602843436772975706112)
def mX12_says : MRec := (RX12, cX12_says, 3, (none : Option Jvm.ClassFile.FieldType), yX12_says, 0, 0, 0, 0, 16296287810675888690147565507275025288411747194999416171679839788700201420490538013715070976)
def mX12_opens : MRec := (RX12, cX12_opens, 2, (some .boolean), yX12_opens, 1, 22, 0, 0, 32592575621351777380295131014550050576823494419971033890184837079624408199420473891467821056)
def mX12_top : MRec := (RX12, cX12_top, 1, (some .int), yX12_top, 0, 0, 0, 0, 0)
def mX12_letterNumber : MRec := (RX12, cX12_letterNumber, 1, (some .int), yX12_letterNumber, 0, 0, 0, 0, 0)
set_option maxHeartbeats 1000000 in
theorem t_X12_field {K : Kmap} {V : Vmap} {x : Nat} {p0 : Int} {p1 : Int} (h_x : K x = some (0, 11)) (r_p0 : ir p0) (r_p1 : ir p1) (w_0 : PX0 V x) : MC mX12_field K V [.ref x, ti p0, ti p1] (IS K (fun X V1 => (X ≥ (-2147483648) ∧ X ≤ 2147483647) ∧ (PX0 V1 x) ∧ (MFL V V1 x p0 p1 X))) := by
  refine MC.start 0 (by decide +kernel) rfl rfl rfl (ls0 := [some (.ref x), some (ti p0), some (ti p1)]) rfl ?_
  refine GO.useWT (fun hW1 => ?_)
  have ak2 := hW1.arr h_x 13 15 (by decide) rfl (by decide)
  have ak3 := hW1.arr h_x 14 16 (by decide) rfl (by decide)
  refine GO.useWT (fun hW_0 => ?_)
  refine GO.aload_n dX12_field_0 rfl rfl ?_
  refine GO.iload_n dX12_field_1 rfl rfl ?_
  refine GO.callV (ci := 11) (N := mX12_stands) dX12_field_2 (RX12, TX12, 151) rfl gV_RX12_433 h_x (t_X12_stands h_x r_p0) rfl [] rfl rfl (Nat.le_of_ble_eq_true rfl) rfl (k_ip fun X4 r5 h6 => ?_)
  have raw_stands := h6.2.2.2
  have rw2 := h6.2.2.2
  refine GO.if_eq (tgt := 33) dX12_field_5 (by decide) r5 (fun c7 => ?_) (fun c7 => ?_)
  ·
    refine GO.iconst dX12_field_33 ?_
    exact GO.reti rfl rfl dX12_field_34 ⟨rfl, _, rfl, (ir_c rfl), ⟨(by first | exact trivial | omega), (by first | exact w_0 | exact PX0.mk w_0 (by omega) (rfl : ar 13 V x = ar 13 V x) (rfl : ar 14 V x = ar 14 V x)), (by first | exact MFL.ns rw2 (by omega) rfl | exact MFL.fu (by omega) rfl)⟩⟩
  ·
    have q8 := h6.2.1 (by omega)
    refine GO.aload_n dX12_field_8 rfl rfl ?_
    refine GO.iload_n dX12_field_9 rfl rfl ?_
    refine GO.callV (ci := 11) (N := mX12_isCell) dX12_field_10 (RX12, TX12, 151) rfl gV_RX12_381 h_x (t_X12_isCell h_x r_p1) rfl [] rfl rfl (Nat.le_of_ble_eq_true rfl) rfl (k_ip fun X9 r10 h11 => ?_)
    have raw_isCell := h11.2.2.2
    have rw10 := h11.2.2.2
    refine GO.if_eq (tgt := 33) dX12_field_13 (by decide) r10 (fun c12 => ?_) (fun c12 => ?_)
    ·
      refine GO.iconst dX12_field_33 ?_
      exact GO.reti rfl rfl dX12_field_34 ⟨rfl, _, rfl, (ir_c rfl), ⟨(by first | exact trivial | omega), (by first | exact w_0 | exact PX0.mk w_0 (by omega) (rfl : ar 13 V x = ar 13 V x) (rfl : ar 14 V x = ar 14 V x)), (by first | exact MFL.ns rw2 (by omega) rfl | exact MFL.nc rw10 (by omega) rfl | exact MFL.fu (by omega) rfl)⟩⟩
    ·
      have q13 := h11.2.1 (by omega)
      refine GO.aload_n dX12_field_16 rfl rfl ?_
      refine GO.iload_n dX12_field_17 rfl rfl ?_
      have q14 : -2147483648 ≤ p1 ∧ p1 ≤ 2147483647 := r_p1
      refine GO.callV (ci := 11) (N := mX12_isLand) dX12_field_18 (RX12, TX12, 151) rfl gV_RX12_425 h_x (t_X12_isLand h_x r_p1 (by omega) (by omega)) rfl [] rfl rfl (Nat.le_of_ble_eq_true rfl) rfl (k_ip fun X15 r16 h17 => ?_)
      have raw_isLand := h17.2.2.2
      have rw18 := h17.2.2.2
      refine GO.if_eq (tgt := 33) dX12_field_21 (by decide) r16 (fun c18 => ?_) (fun c18 => ?_)
      ·
        refine GO.iconst dX12_field_33 ?_
        exact GO.reti rfl rfl dX12_field_34 ⟨rfl, _, rfl, (ir_c rfl), ⟨(by first | exact trivial | omega), (by first | exact w_0 | exact PX0.mk w_0 (by omega) (rfl : ar 13 V x = ar 13 V x) (rfl : ar 14 V x = ar 14 V x)), (by first | exact MFL.ns rw2 (by omega) rfl | exact MFL.nc rw10 (by omega) rfl | exact MFL.nf rw18 (by omega) rfl | exact MFL.fu (by omega) rfl)⟩⟩
      ·
        refine GO.aload_n dX12_field_24 rfl rfl ?_
        refine GO.getI h_x fl_RX12_375 rfl rfl dX12_field_25 (fun l19 u20 => ?_)
        refine GO.bipush dX12_field_28 rfl ?_
        refine GO.icmp_ne (tgt := 35) dX12_field_30 (by decide) vi_ir (ir_c rfl) (fun c21 => ?_) (fun c21 => ?_)
        ·
          refine GO.aload_n dX12_field_35 rfl rfl ?_
          refine GO.iconst dX12_field_36 ?_
          refine GO.aload_n dX12_field_37 rfl rfl ?_
          refine GO.getA (n := 60) h_x fl_RX12_38 rfl rfl rfl rfl dX12_field_38 (fun hv23 h22 => ?_)
          refine GO.iload_n dX12_field_41 rfl rfl ?_
          have q24 : -2147483648 ≤ p0 ∧ p0 ≤ 2147483647 := r_p0
          refine GO.iald (t := 16) rfl rfl h22 r_p0 (by omega) (by omega) dX12_field_42 (fun l25 u26 => ?_)
          refine GO.iload_n dX12_field_43 rfl rfl ?_
          refine GO.iconst dX12_field_44 ?_
          refine GO.iload_n dX12_field_45 rfl rfl ?_
          refine GO.callV (ci := 11) (N := mX12_place) dX12_field_46 (RX12, TX12, 151) rfl gV_RX12_421 h_x (t_X12_place h_x (ir_c rfl) vi_ir r_p1 (ir_c rfl) r_p0 (by omega) (by omega) (by omega) (by omega) (by omega) (by omega) (by omega) (by omega) (by omega) ((by first | exact w_0 | exact PX0.mk w_0 (by omega) (rfl : ar 13 V x = ar 13 V x) (rfl : ar 14 V x = ar 14 V x))) ⟨by omega, by omega⟩) rfl [] rfl rfl (Nat.le_of_ble_eq_true rfl) rfl (k_is fun X27 V31 r28 h29 hF30 => ?_)
          refine GO.useWT (fun hW32 => ?_)
          have ak33 := hW32.arr h_x 13 15 (by decide) rfl (by decide)
          have ak34 := hW32.arr h_x 14 16 (by decide) rfl (by decide)
          have raw_place := h29.2.1
          have rq0_46 := h29.2.2
          have rw46 := h29.2.1
          exact GO.reti rfl rfl dX12_field_49 ⟨rfl, _, rfl, r28, ⟨(by first | exact trivial | omega), (by first | exact raw_place | exact w_0 | exact PX0.mk w_0 (by omega) (rfl : ar 13 V31 x = ar 13 V31 x) (rfl : ar 14 V31 x = ar 14 V31 x)), (by first | exact MFL.ns rw2 (by omega) rfl | exact MFL.nc rw10 (by omega) rfl | exact MFL.nf rw18 (by omega) rfl | exact MFL.fu (by omega) rfl | exact MFL.ok rw2 (by omega) rw10 (by omega) rw18 (by omega) (MNEW.mk MSM.rf (by omega) rfl rq0_46 hF30 hW_0 h_x (by decide +kernel) (by decide +kernel)))⟩⟩
        ·
          refine GO.iconst dX12_field_33 ?_
          exact GO.reti rfl rfl dX12_field_34 ⟨rfl, _, rfl, (ir_c rfl), ⟨(by first | exact trivial | omega), (by first | exact w_0 | exact PX0.mk w_0 (by omega) (rfl : ar 13 V x = ar 13 V x) (rfl : ar 14 V x = ar 14 V x)), (by first | exact MFL.ns rw2 (by omega) rfl | exact MFL.nc rw10 (by omega) rfl | exact MFL.nf rw18 (by omega) rfl | exact MFL.fu (by omega) rfl)⟩⟩

set_option maxHeartbeats 1000000 in
theorem t_X12_reserve {K : Kmap} {V : Vmap} {x : Nat} {p0 : Int} {p1 : Int} {p2 : Int} (h_x : K x = some (0, 11)) (r_p0 : ir p0) (r_p1 : ir p1) (r_p2 : ir p2) (w_0 : PX0 V x) : MC mX12_reserve K V [.ref x, ti p0, ti p1, ti p2] (IS K (fun X V1 => (X ≥ (-2147483648) ∧ X ≤ 2147483647) ∧ (PX0 V1 x) ∧ (MRV V V1 x p0 p1 p2 X))) := by
  refine MC.start 0 (by decide +kernel) rfl rfl rfl (ls0 := [some (.ref x), some (ti p0), some (ti p1), some (ti p2)]) rfl ?_
  refine GO.useWT (fun hW1 => ?_)
  have ak2 := hW1.arr h_x 13 15 (by decide) rfl (by decide)
  have ak3 := hW1.arr h_x 14 16 (by decide) rfl (by decide)
  refine GO.useWT (fun hW_0 => ?_)
  refine GO.aload_n dX12_reserve_0 rfl rfl ?_
  refine GO.iload_n dX12_reserve_1 rfl rfl ?_
  refine GO.iload_n dX12_reserve_2 rfl rfl ?_
  refine GO.callV (ci := 11) (N := mX12_isRectangle) dX12_reserve_3 (RX12, TX12, 151) rfl gV_RX12_415 h_x (t_X12_isRectangle h_x r_p0 r_p1) rfl [] rfl rfl (Nat.le_of_ble_eq_true rfl) rfl (k_ip fun X4 r5 h6 => ?_)
  have raw_isRectangle := h6.2.2.2
  have rw3 := h6.2.2.2
  refine GO.if_eq (tgt := 28) dX12_reserve_6 (by decide) r5 (fun c7 => ?_) (fun c7 => ?_)
  ·
    refine GO.iconst dX12_reserve_28 ?_
    exact GO.reti rfl rfl dX12_reserve_29 ⟨rfl, _, rfl, (ir_c rfl), ⟨(by first | exact trivial | omega), (by first | exact w_0 | exact PX0.mk w_0 (by omega) (rfl : ar 13 V x = ar 13 V x) (rfl : ar 14 V x = ar 14 V x)), (by first | exact MRV.no (Or.inl fun g => absurd (rw3.mpr g.1) (by omega)) rfl | exact MRV.no (Or.inl fun g => by have h9 := g.2; omega) rfl | exact MRV.no (Or.inr (by omega)) rfl)⟩⟩
  ·
    have q8 := h6.2.1 (by omega)
    refine GO.iload_n dX12_reserve_9 rfl rfl ?_
    refine GO.iconst dX12_reserve_10 ?_
    refine GO.bipush dX12_reserve_11 rfl ?_
    refine GO.callS (N := mX12_in) dX12_reserve_13 gS_RX12_371 (t_X12_in r_p2 (ir_c rfl) (ir_c rfl)) rfl [] rfl rfl (Nat.le_of_ble_eq_true rfl) rfl (k_ip fun X9 r10 h11 => ?_)
    have raw_in := h11.2.2.2
    have rw13 := h11.2.2.2
    refine GO.if_eq (tgt := 28) dX12_reserve_16 (by decide) r10 (fun c12 => ?_) (fun c12 => ?_)
    ·
      have q13 := h11.2.2.1 (by omega)
      refine GO.iconst dX12_reserve_28 ?_
      exact GO.reti rfl rfl dX12_reserve_29 ⟨rfl, _, rfl, (ir_c rfl), ⟨(by first | exact trivial | omega), (by first | exact w_0 | exact PX0.mk w_0 (by omega) (rfl : ar 13 V x = ar 13 V x) (rfl : ar 14 V x = ar 14 V x)), (by first | exact MRV.no (Or.inl fun g => absurd (rw3.mpr g.1) (by omega)) rfl | exact MRV.no (Or.inl fun g => by have h9 := g.2; omega) rfl | exact MRV.no (Or.inr (by omega)) rfl)⟩⟩
    ·
      have q14 := h11.2.1 (by omega)
      refine GO.aload_n dX12_reserve_19 rfl rfl ?_
      refine GO.getI h_x fl_RX12_375 rfl rfl dX12_reserve_20 (fun l15 u16 => ?_)
      refine GO.bipush dX12_reserve_23 rfl ?_
      refine GO.icmp_ne (tgt := 30) dX12_reserve_25 (by decide) vi_ir (ir_c rfl) (fun c17 => ?_) (fun c17 => ?_)
      ·
        refine GO.aload_n dX12_reserve_30 rfl rfl ?_
        refine GO.iconst dX12_reserve_31 ?_
        refine GO.iconst dX12_reserve_32 ?_
        refine GO.iload_n dX12_reserve_33 rfl rfl ?_
        refine GO.iload_n dX12_reserve_34 rfl rfl ?_
        refine GO.iload_n dX12_reserve_35 rfl rfl ?_
        have q18 : -2147483648 ≤ p0 ∧ p0 ≤ 2147483647 := r_p0
        have q19 : -2147483648 ≤ p1 ∧ p1 ≤ 2147483647 := r_p1
        refine GO.callV (ci := 11) (N := mX12_place) dX12_reserve_36 (RX12, TX12, 151) rfl gV_RX12_421 h_x (t_X12_place h_x (ir_c rfl) (ir_c rfl) r_p0 r_p1 r_p2 (by omega) (by omega) (by omega) (by omega) (by omega) (by omega) (by omega) (by omega) (by omega) ((by first | exact w_0 | exact PX0.mk w_0 (by omega) (rfl : ar 13 V x = ar 13 V x) (rfl : ar 14 V x = ar 14 V x))) ⟨by omega, by omega⟩) rfl [] rfl rfl (Nat.le_of_ble_eq_true rfl) rfl (k_is fun X20 V24 r21 h22 hF23 => ?_)
        refine GO.useWT (fun hW25 => ?_)
        have ak26 := hW25.arr h_x 13 15 (by decide) rfl (by decide)
        have ak27 := hW25.arr h_x 14 16 (by decide) rfl (by decide)
        have raw_place := h22.2.1
        have rq0_36 := h22.2.2
        have rw36 := h22.2.1
        exact GO.reti rfl rfl dX12_reserve_39 ⟨rfl, _, rfl, r21, ⟨(by first | exact trivial | omega), (by first | exact raw_place | exact w_0 | exact PX0.mk w_0 (by omega) (rfl : ar 13 V24 x = ar 13 V24 x) (rfl : ar 14 V24 x = ar 14 V24 x)), (by first | exact MRV.no (Or.inl fun g => absurd (rw3.mpr g.1) (by omega)) rfl | exact MRV.no (Or.inl fun g => by have h9 := g.2; omega) rfl | exact MRV.no (Or.inr (by omega)) rfl | exact MRV.ok ⟨rw3.mp (by omega), by omega, by omega⟩ (MNEW.mk MSM.rf (by omega) rfl rq0_36 hF23 hW_0 h_x (by decide +kernel) (by decide +kernel)))⟩⟩
      ·
        refine GO.iconst dX12_reserve_28 ?_
        exact GO.reti rfl rfl dX12_reserve_29 ⟨rfl, _, rfl, (ir_c rfl), ⟨(by first | exact trivial | omega), (by first | exact w_0 | exact PX0.mk w_0 (by omega) (rfl : ar 13 V x = ar 13 V x) (rfl : ar 14 V x = ar 14 V x)), (by first | exact MRV.no (Or.inl fun g => absurd (rw3.mpr g.1) (by omega)) rfl | exact MRV.no (Or.inl fun g => by have h9 := g.2; omega) rfl | exact MRV.no (Or.inr (by omega)) rfl)⟩⟩

set_option maxHeartbeats 1000000 in
theorem t_X12_site {K : Kmap} {V : Vmap} {x : Nat} {p0 : Int} {p1 : Int} (h_x : K x = some (0, 11)) (r_p0 : ir p0) (r_p1 : ir p1) (z_p1 : p1 = 0 ∨ p1 = 1) (w_0 : PX0 V x) : MC mX12_site K V [.ref x, ti p0, ti p1] (IS K (fun X V1 => (X ≥ (-2147483648) ∧ X ≤ 2147483647) ∧ (PX0 V1 x) ∧ (MSI V V1 x p0 p1 X))) := by
  refine MC.start 0 (by decide +kernel) rfl rfl rfl (ls0 := [some (.ref x), some (ti p0), some (ti p1)]) rfl ?_
  refine GO.useWT (fun hW1 => ?_)
  have ak2 := hW1.arr h_x 13 15 (by decide) rfl (by decide)
  have ak3 := hW1.arr h_x 14 16 (by decide) rfl (by decide)
  refine GO.useWT (fun hW_0 => ?_)
  refine GO.aload_n dX12_site_0 rfl rfl ?_
  refine GO.iload_n dX12_site_1 rfl rfl ?_
  refine GO.callV (ci := 11) (N := mX12_isCell) dX12_site_2 (RX12, TX12, 151) rfl gV_RX12_381 h_x (t_X12_isCell h_x r_p0) rfl [] rfl rfl (Nat.le_of_ble_eq_true rfl) rfl (k_ip fun X4 r5 h6 => ?_)
  have raw_isCell := h6.2.2.2
  have rw2 := h6.2.2.2
  refine GO.if_eq (tgt := 17) dX12_site_5 (by decide) r5 (fun c7 => ?_) (fun c7 => ?_)
  ·
    refine GO.iconst dX12_site_17 ?_
    exact GO.reti rfl rfl dX12_site_18 ⟨rfl, _, rfl, (ir_c rfl), ⟨(by first | exact trivial | omega), (by first | exact w_0 | exact PX0.mk w_0 (by omega) (rfl : ar 13 V x = ar 13 V x) (rfl : ar 14 V x = ar 14 V x)), (by first | exact MSI.no rw2 (by omega) rfl | exact MSI.fu (by omega) rfl)⟩⟩
  ·
    have q8 := h6.2.1 (by omega)
    refine GO.aload_n dX12_site_8 rfl rfl ?_
    refine GO.getI h_x fl_RX12_375 rfl rfl dX12_site_9 (fun l9 u10 => ?_)
    refine GO.bipush dX12_site_12 rfl ?_
    refine GO.icmp_ne (tgt := 19) dX12_site_14 (by decide) vi_ir (ir_c rfl) (fun c11 => ?_) (fun c11 => ?_)
    ·
      refine GO.aload_n dX12_site_19 rfl rfl ?_
      refine GO.iload_n dX12_site_20 rfl rfl ?_
      refine GO.if_eq (tgt := 28) dX12_site_21 (by decide) r_p1 (fun c12 => ?_) (fun c12 => ?_)
      ·
        refine GO.iconst dX12_site_28 ?_
        refine GO.iconst dX12_site_29 ?_
        refine GO.iload_n dX12_site_30 rfl rfl ?_
        refine GO.iconst dX12_site_31 ?_
        refine GO.iconst dX12_site_32 ?_
        have q13 : -2147483648 ≤ p0 ∧ p0 ≤ 2147483647 := r_p0
        refine GO.callV (ci := 11) (N := mX12_place) dX12_site_33 (RX12, TX12, 151) rfl gV_RX12_421 h_x (t_X12_place h_x (ir_c rfl) (ir_c rfl) r_p0 (ir_c rfl) (ir_c rfl) (by omega) (by omega) (by omega) (by omega) (by omega) (by omega) (by omega) (by omega) (by omega) ((by first | exact w_0 | exact PX0.mk w_0 (by omega) (rfl : ar 13 V x = ar 13 V x) (rfl : ar 14 V x = ar 14 V x))) ⟨by omega, by omega⟩) rfl [] rfl rfl (Nat.le_of_ble_eq_true rfl) rfl (k_is fun X14 V18 r15 h16 hF17 => ?_)
        refine GO.useWT (fun hW19 => ?_)
        have ak20 := hW19.arr h_x 13 15 (by decide) rfl (by decide)
        have ak21 := hW19.arr h_x 14 16 (by decide) rfl (by decide)
        have raw_place := h16.2.1
        have rq0_33 := h16.2.2
        have rw33 := h16.2.1
        exact GO.reti rfl rfl dX12_site_36 ⟨rfl, _, rfl, r15, ⟨(by first | exact trivial | omega), (by first | exact raw_place | exact w_0 | exact PX0.mk w_0 (by omega) (rfl : ar 13 V18 x = ar 13 V18 x) (rfl : ar 14 V18 x = ar 14 V18 x)), (by first | exact MSI.no rw2 (by omega) rfl | exact MSI.fu (by omega) rfl | exact MSI.ok rw2 (by omega) (by omega) (MNEW.mk MSM.rf (by omega) rfl rq0_33 hF17 hW_0 h_x (by decide +kernel) (by decide +kernel)))⟩⟩
      ·
        refine GO.iconst dX12_site_24 ?_
        refine GO.goto (tgt := 29) dX12_site_25 (by decide) ?_
        refine GO.iconst dX12_site_29 ?_
        refine GO.iload_n dX12_site_30 rfl rfl ?_
        refine GO.iconst dX12_site_31 ?_
        refine GO.iconst dX12_site_32 ?_
        have q23 : -2147483648 ≤ p0 ∧ p0 ≤ 2147483647 := r_p0
        refine GO.callV (ci := 11) (N := mX12_place) dX12_site_33 (RX12, TX12, 151) rfl gV_RX12_421 h_x (t_X12_place h_x (ir_c rfl) (ir_c rfl) r_p0 (ir_c rfl) (ir_c rfl) (by omega) (by omega) (by omega) (by omega) (by omega) (by omega) (by omega) (by omega) (by omega) ((by first | exact w_0 | exact PX0.mk w_0 (by omega) (rfl : ar 13 V x = ar 13 V x) (rfl : ar 14 V x = ar 14 V x))) ⟨by omega, by omega⟩) rfl [] rfl rfl (Nat.le_of_ble_eq_true rfl) rfl (k_is fun X24 V28 r25 h26 hF27 => ?_)
        refine GO.useWT (fun hW29 => ?_)
        have ak30 := hW29.arr h_x 13 15 (by decide) rfl (by decide)
        have ak31 := hW29.arr h_x 14 16 (by decide) rfl (by decide)
        have raw_place := h26.2.1
        have rq0_33 := h26.2.2
        have rw33 := h26.2.1
        exact GO.reti rfl rfl dX12_site_36 ⟨rfl, _, rfl, r25, ⟨(by first | exact trivial | omega), (by first | exact raw_place | exact w_0 | exact PX0.mk w_0 (by omega) (rfl : ar 13 V28 x = ar 13 V28 x) (rfl : ar 14 V28 x = ar 14 V28 x)), (by first | exact MSI.no rw2 (by omega) rfl | exact MSI.fu (by omega) rfl | exact MSI.ok rw2 (by omega) (by omega) (MNEW.mk MSM.rf (by omega) rfl rq0_33 hF27 hW_0 h_x (by decide +kernel) (by decide +kernel)))⟩⟩
    ·
      refine GO.iconst dX12_site_17 ?_
      exact GO.reti rfl rfl dX12_site_18 ⟨rfl, _, rfl, (ir_c rfl), ⟨(by first | exact trivial | omega), (by first | exact w_0 | exact PX0.mk w_0 (by omega) (rfl : ar 13 V x = ar 13 V x) (rfl : ar 14 V x = ar 14 V x)), (by first | exact MSI.no rw2 (by omega) rfl | exact MSI.fu (by omega) rfl)⟩⟩

set_option maxHeartbeats 1000000 in
theorem t_X12_types {K : Kmap} {V : Vmap} {x : Nat} {p0 : Int} (h_x : K x = some (0, 11)) (r_p0 : ir p0) (v_30 : 0 ≤ vi V x 30 ∧ vi V x 30 ≤ 396) : MC mX12_types K V [.ref x, ti p0] (VS K (fun V1 => (vi V1 x 30 = (vi V x 30 + 4)) ∧ (MFD V V1 x (byt p0)))) := by
  refine MC.start 1 (by decide +kernel) rfl rfl rfl (ls0 := [some (.ref x), some (ti p0), none]) rfl ?_
  refine GO.useWT (fun hW_0 => ?_)
  refine GO.iconst dX12_types_0 ?_
  refine GO.istore_n (ls1 := [some (.ref x), some (ti p0), some (ti 3)]) dX12_types_1 rfl rfl rfl ?_
  refine GO.loop1 (fun i1 W => (-1) ≤ i1 ∧ i1 ≤ 3 ∧ ((vi W x 30 + i1) = (vi V x 30 + 3)) ∧ (MFI V W x p0 i1) ∧ True) (fun i1 => [some (.ref x), some (ti p0), some (ti i1)]) (fun i1 W => (i1 + 2147483648).toNat) 3 ⟨by omega, by omega, by omega, (by first | exact MFI.beg), trivial⟩ rfl (fun i1 Wi1 hp69 ih68 => ?_)
  obtain ⟨l_i1, u_i1, n_i1, hmd, -⟩ := hp69
  have r_i1 : ir i1 := ⟨by omega, by omega⟩
  show GO mX12_types K V (VS K (fun V1 => (vi V1 x 30 = (vi V x 30 + 4)) ∧ (MFD V V1 x (byt p0)))) K Wi1 0 0 2 [some (.ref x), some (ti p0), some (ti i1)] []
  refine GO.useWT (fun hWh => ?_)
  refine GO.iload_n dX12_types_2 rfl rfl ?_
  refine GO.if_lt (tgt := 38) dX12_types_3 (by decide) r_i1 (fun c70 => ?_) (fun c70 => ?_)
  ·
    have q71 : -2147483648 ≤ vi Wi1 x 30 ∧ vi Wi1 x 30 ≤ 2147483647 := vi_ir
    exact GO.retv rfl rfl dX12_types_38 ⟨rfl, rfl, ⟨by omega, MFI.end hmd (by omega)⟩⟩
  ·
    refine GO.aload_n dX12_types_6 rfl rfl ?_
    refine GO.getA (n := 400) h_x fl_RX12_84 rfl rfl rfl rfl dX12_types_7 (fun hv73 h72 => ?_)
    refine GO.aload_n dX12_types_10 rfl rfl ?_
    refine GO.getI h_x fl_RX12_436 rfl rfl dX12_types_11 (fun l74 u75 => ?_)
    refine GO.iload_n dX12_types_14 rfl rfl ?_
    refine GO.bipush dX12_types_15 rfl ?_
    refine GO.iload_n dX12_types_17 rfl rfl ?_
    refine GO.imul dX12_types_18 ?_
    refine GO.ishr dX12_types_19 ?_
    refine GO.i2b dX12_types_20 ?_
    have q76 : -2147483648 ≤ vi Wi1 x 30 ∧ vi Wi1 x 30 ≤ 2147483647 := vi_ir
    refine GO.bast (t := 31) rfl rfl (by decide +kernel) h72 vi_ir (by omega) (by omega) dX12_types_21 (fun V78 e77 => ?_)
    refine GO.aload_n dX12_types_22 rfl rfl ?_
    refine GO.aload_n dX12_types_23 rfl rfl ?_
    refine GO.getI h_x fl_RX12_436 rfl rfl dX12_types_24 (fun l79 u80 => ?_)
    have e81 : vi V78 x 30 = vi Wi1 x 30 := vi_up e77 (Or.inl (K_ne h_x h72 (by decide)))
    refine GO.iconst dX12_types_27 ?_
    refine GO.iadd dX12_types_28 ?_
    refine GO.putI h_x fp_RX12_436 rfl (by decide +kernel) ⟨by omega, by omega⟩ (by omega) (by omega) dX12_types_29 (fun V83 e82 => ?_)
    refine GO.iinc (X := i1) (n := (-1)) (Y := i1 + (-1)) (ls1 := [some (.ref x), some (ti p0), some (ti (i1 + (-1)))]) dX12_types_32 rfl rfl rfl rfl ?_
    refine GO.goto (tgt := 2) dX12_types_35 (by decide) ?_
    have e84 : vi V83 x 30 = (vi V78 x 30) + 1 := upd2_int e82 ⟨by omega, by omega⟩
    exact ih68 (i1 + (-1)) V83 ⟨by omega, by omega, by omega, (by first | exact MFI.beg | exact MFI.step hmd (by omega) h_x hWh e77 rfl (by omega) e82 (by omega) ⟨by omega, by omega⟩ (hW_0.int h_x (j := 30) (Nat.le_of_ble_eq_true rfl) rfl).2.1 (by omega)), trivial⟩ (by show ((i1 + (-1)) + 2147483648).toNat < (i1 + 2147483648).toNat; omega)

set_option maxHeartbeats 1000000 in
theorem t_X12_feed {K : Kmap} {V : Vmap} {x : Nat} {p0 : Int} {p1 : Int} {p2 : Int} {p3 : Int} {p4 : Int} (h_x : K x = some (0, 11)) (r_p0 : ir p0) (r_p1 : ir p1) (r_p2 : ir p2) (r_p3 : ir p3) (r_p4 : ir p4) : MC mX12_feed K V [.ref x, ti p0, ti p1, ti p2, ti p3, ti p4] (IS K (fun X V1 => (X ≥ (-2147483648) ∧ X ≤ 2147483647) ∧ (MFR V V1 x p0 p1 p2 p3 p4 X))) := by
  refine MC.start 0 (by decide +kernel) rfl rfl rfl (ls0 := [some (.ref x), some (ti p0), some (ti p1), some (ti p2), some (ti p3), some (ti p4)]) rfl ?_
  refine GO.useWT (fun hW_0 => ?_)
  refine GO.aload_n dX12_feed_0 rfl rfl ?_
  refine GO.getI h_x fl_RX12_436 rfl rfl dX12_feed_1 (fun l1 u2 => ?_)
  refine GO.bipush dX12_feed_4 rfl ?_
  refine GO.iadd dX12_feed_6 ?_
  refine GO.sipush dX12_feed_7 rfl ?_
  refine GO.icmp_le (tgt := 15) dX12_feed_10 (by decide) ⟨by omega, by omega⟩ (ir_c rfl) (fun c3 => ?_) (fun c3 => ?_)
  ·
    refine GO.aload_n dX12_feed_15 rfl rfl ?_
    refine GO.iload_n dX12_feed_16 rfl rfl ?_
    refine GO.callV (ci := 11) (N := mX12_types) dX12_feed_17 (RX12, TX12, 151) rfl gV_RX12_439 h_x (t_X12_types h_x r_p0 ⟨by omega, by omega⟩) rfl [] rfl rfl (Nat.le_of_ble_eq_true rfl) rfl (k_vs fun V6 h5 hF4 => ?_)
    have raw_types := h5.2
    have rw17 := h5.2
    refine GO.aload_n dX12_feed_20 rfl rfl ?_
    refine GO.iload_n dX12_feed_21 rfl rfl ?_
    refine GO.callV (ci := 11) (N := mX12_types) dX12_feed_22 (RX12, TX12, 151) rfl gV_RX12_439 h_x (t_X12_types h_x r_p1 ⟨by omega, by omega⟩) rfl [] rfl rfl (Nat.le_of_ble_eq_true rfl) rfl (k_vs fun V10 h9 hF8 => ?_)
    have raw_types := h9.2
    have rw22 := h9.2
    refine GO.aload_n dX12_feed_25 rfl rfl ?_
    refine GO.iload_n dX12_feed_26 rfl rfl ?_
    refine GO.callV (ci := 11) (N := mX12_types) dX12_feed_27 (RX12, TX12, 151) rfl gV_RX12_439 h_x (t_X12_types h_x r_p2 ⟨by omega, by omega⟩) rfl [] rfl rfl (Nat.le_of_ble_eq_true rfl) rfl (k_vs fun V14 h13 hF12 => ?_)
    have raw_types := h13.2
    have rw27 := h13.2
    refine GO.aload_n dX12_feed_30 rfl rfl ?_
    refine GO.iload dX12_feed_31 rfl ?_
    refine GO.callV (ci := 11) (N := mX12_types) dX12_feed_33 (RX12, TX12, 151) rfl gV_RX12_439 h_x (t_X12_types h_x r_p3 ⟨by omega, by omega⟩) rfl [] rfl rfl (Nat.le_of_ble_eq_true rfl) rfl (k_vs fun V18 h17 hF16 => ?_)
    have raw_types := h17.2
    have rw33 := h17.2
    refine GO.aload_n dX12_feed_36 rfl rfl ?_
    refine GO.iload dX12_feed_37 rfl ?_
    refine GO.callV (ci := 11) (N := mX12_types) dX12_feed_39 (RX12, TX12, 151) rfl gV_RX12_439 h_x (t_X12_types h_x r_p4 ⟨by omega, by omega⟩) rfl [] rfl rfl (Nat.le_of_ble_eq_true rfl) rfl (k_vs fun V22 h21 hF20 => ?_)
    have raw_types := h21.2
    have rw39 := h21.2
    refine GO.aload_n dX12_feed_42 rfl rfl ?_
    refine GO.getI h_x fl_RX12_436 rfl rfl dX12_feed_43 (fun l24 u25 => ?_)
    have q26 : -2147483648 ≤ vi V22 x 30 ∧ vi V22 x 30 ≤ 2147483647 := vi_ir
    have q27 : -2147483648 ≤ vi V18 x 30 ∧ vi V18 x 30 ≤ 2147483647 := vi_ir
    have q28 : -2147483648 ≤ vi V14 x 30 ∧ vi V14 x 30 ≤ 2147483647 := vi_ir
    have q29 : -2147483648 ≤ vi V10 x 30 ∧ vi V10 x 30 ≤ 2147483647 := vi_ir
    have q30 : -2147483648 ≤ vi V6 x 30 ∧ vi V6 x 30 ≤ 2147483647 := vi_ir
    exact GO.reti rfl rfl dX12_feed_46 ⟨rfl, _, rfl, vi_ir, ⟨(by first | exact trivial | omega), (by first | exact Or.inl ⟨by omega, rfl, rfl⟩ | exact MFR.mk (by omega) h_x hW_0 rw17 rw22 rw27 rw33 rw39 rfl)⟩⟩
  ·
    refine GO.iconst dX12_feed_13 ?_
    exact GO.reti rfl rfl dX12_feed_14 ⟨rfl, _, rfl, (ir_c rfl), ⟨(by first | exact trivial | omega), (by first | exact Or.inl ⟨by omega, rfl, rfl⟩)⟩⟩

set_option maxHeartbeats 1000000 in
theorem t_X12_sign {K : Kmap} {V : Vmap} {x : Nat} (h_x : K x = some (0, 11)) : MC mX12_sign K V [.ref x] (IP K V (fun X => X ≥ (-1) ∧ X ≤ 255 ∧ X = sgn V x ∧ (X ≠ (-1) → vi V x 31 < vi V x 32))) := by
  refine MC.start 0 (by decide +kernel) rfl rfl rfl (ls0 := [some (.ref x)]) rfl ?_
  refine GO.aload_n dX12_sign_0 rfl rfl ?_
  refine GO.getI h_x fl_RX12_443 rfl rfl dX12_sign_1 (fun l1 u2 => ?_)
  refine GO.aload_n dX12_sign_4 rfl rfl ?_
  refine GO.getI h_x fl_RX12_446 rfl rfl dX12_sign_5 (fun l3 u4 => ?_)
  refine GO.icmp_ge (tgt := 27) dX12_sign_8 (by decide) vi_ir vi_ir (fun c5 => ?_) (fun c5 => ?_)
  ·
    have hs := sgn_no (V := V) (x := x) (by omega)
    refine GO.iconst dX12_sign_27 ?_
    exact GO.reti rfl rfl dX12_sign_28 ⟨rfl, rfl, _, rfl, (ir_c rfl), by omega⟩
  ·
    refine GO.aload_n dX12_sign_11 rfl rfl ?_
    refine GO.getA (n := 400) h_x fl_RX12_84 rfl rfl rfl rfl dX12_sign_12 (fun hv7 h6 => ?_)
    refine GO.aload_n dX12_sign_15 rfl rfl ?_
    refine GO.getI h_x fl_RX12_443 rfl rfl dX12_sign_16 (fun l8 u9 => ?_)
    refine GO.bald (t := 31) rfl rfl h6 vi_ir (by omega) (by omega) dX12_sign_19 (fun l10 u11 => ?_)
    refine GO.sipush dX12_sign_20 rfl ?_
    refine GO.iand dX12_sign_23 ?_
    have h12 := wand_rng (X := vi V (vq V x 29) (vi V x 31).toNat)
    have hs := sgn_yes (V := V) (x := x) rfl (by omega)
    refine GO.goto (tgt := 28) dX12_sign_24 (by decide) ?_
    exact GO.reti rfl rfl dX12_sign_28 ⟨rfl, rfl, _, rfl, wand_ir, by omega⟩

set_option maxHeartbeats 1000000 in
theorem t_X12_isDigit {K : Kmap} {V : Vmap} {x : Nat} (h_x : K x = some (0, 11)) : MC mX12_isDigit K V [.ref x] (IP K V (fun X => (X = 0 ∨ X = 1) ∧ (X ≠ 0 → sgn V x ≥ 48 ∧ sgn V x ≤ 57 ∧ vi V x 31 < vi V x 32) ∧ (X = 0 → True) ∧ (X = 0 → sgn V x < 48 ∨ 57 < sgn V x))) := by
  refine MC.start 0 (by decide +kernel) rfl rfl rfl (ls0 := [some (.ref x)]) rfl ?_
  refine GO.aload_n dX12_isDigit_0 rfl rfl ?_
  refine GO.callV (ci := 11) (N := mX12_sign) dX12_isDigit_1 (RX12, TX12, 151) rfl gV_RX12_449 h_x (t_X12_sign h_x) rfl [] rfl rfl (Nat.le_of_ble_eq_true rfl) rfl (k_ip fun X1 r2 h3 => ?_)
  refine GO.bipush dX12_isDigit_4 rfl ?_
  refine GO.icmp_lt (tgt := 22) dX12_isDigit_6 (by decide) r2 (ir_c rfl) (fun c4 => ?_) (fun c4 => ?_)
  ·
    refine GO.iconst dX12_isDigit_22 ?_
    have q5 : -2147483648 ≤ vi V x 31 ∧ vi V x 31 ≤ 2147483647 := vi_ir
    have q6 : -2147483648 ≤ vi V x 32 ∧ vi V x 32 ≤ 2147483647 := vi_ir
    exact GO.retz rfl rfl dX12_isDigit_23 (Or.inl rfl) ⟨rfl, rfl, _, rfl, (ir_c rfl), ⟨Or.inl rfl, fun h => absurd rfl h, fun _ => trivial, by omega⟩⟩
  ·
    refine GO.aload_n dX12_isDigit_9 rfl rfl ?_
    refine GO.callV (ci := 11) (N := mX12_sign) dX12_isDigit_10 (RX12, TX12, 151) rfl gV_RX12_449 h_x (t_X12_sign h_x) rfl [] rfl rfl (Nat.le_of_ble_eq_true rfl) rfl (k_ip fun X7 r8 h9 => ?_)
    refine GO.bipush dX12_isDigit_13 rfl ?_
    refine GO.icmp_gt (tgt := 22) dX12_isDigit_15 (by decide) r8 (ir_c rfl) (fun c10 => ?_) (fun c10 => ?_)
    ·
      refine GO.iconst dX12_isDigit_22 ?_
      have q11 : -2147483648 ≤ vi V x 31 ∧ vi V x 31 ≤ 2147483647 := vi_ir
      have q12 : -2147483648 ≤ vi V x 32 ∧ vi V x 32 ≤ 2147483647 := vi_ir
      exact GO.retz rfl rfl dX12_isDigit_23 (Or.inl rfl) ⟨rfl, rfl, _, rfl, (ir_c rfl), ⟨Or.inl rfl, fun h => absurd rfl h, fun _ => trivial, by omega⟩⟩
    ·
      refine GO.iconst dX12_isDigit_18 ?_
      refine GO.goto (tgt := 23) dX12_isDigit_19 (by decide) ?_
      have q13 : -2147483648 ≤ vi V x 31 ∧ vi V x 31 ≤ 2147483647 := vi_ir
      have q14 : -2147483648 ≤ vi V x 32 ∧ vi V x 32 ≤ 2147483647 := vi_ir
      exact GO.retz rfl rfl dX12_isDigit_23 (Or.inr rfl) ⟨rfl, rfl, _, rfl, (ir_c rfl), ⟨Or.inr rfl, fun h => by omega, fun _ => trivial, by omega⟩⟩

set_option maxHeartbeats 1000000 in
theorem t_X12_wrong {K : Kmap} {V : Vmap} {x : Nat} {p0 : Int} {p1 : Int} (h_x : K x = some (0, 11)) (r_p0 : ir p0) (r_p1 : ir p1) (q_0 : p0 ≥ 1) (q_1 : p0 ≤ 5) (q_2 : p1 ≥ 0) (q_3 : p1 ≤ 1000) : MC mX12_wrong K V [.ref x, ti p0, ti p1] (IS K (fun X V1 => (X = 0 ∨ X = 1) ∧ (X ≠ 0 → True) ∧ (X = 0 → True) ∧ (X = 0 ∧ vi V1 x 33 = (((-1000) * p0) - p1)))) := by
  refine MC.start 0 (by decide +kernel) rfl rfl rfl (ls0 := [some (.ref x), some (ti p0), some (ti p1)]) rfl ?_
  refine GO.aload_n dX12_wrong_0 rfl rfl ?_
  refine GO.sipush dX12_wrong_1 rfl ?_
  refine GO.iload_n dX12_wrong_4 rfl rfl ?_
  refine GO.imul dX12_wrong_5 ?_
  refine GO.iload_n dX12_wrong_6 rfl rfl ?_
  refine GO.isub dX12_wrong_7 ?_
  have q2 : -2147483648 ≤ p1 ∧ p1 ≤ 2147483647 := r_p1
  have q3 : -2147483648 ≤ p0 ∧ p0 ≤ 2147483647 := r_p0
  refine GO.putI h_x fp_RX12_453 rfl (by decide +kernel) ⟨by omega, by omega⟩ (by omega) (by omega) dX12_wrong_8 (fun V4 e1 => ?_)
  refine GO.iconst dX12_wrong_11 ?_
  have e5 : vi V4 x 33 = ((-1000) * p0) - p1 := upd2_int e1 ⟨by omega, by omega⟩
  exact GO.retz rfl rfl dX12_wrong_12 (Or.inl rfl) ⟨rfl, _, rfl, (ir_c rfl), ⟨Or.inl rfl, fun _ => trivial, fun _ => trivial, by omega⟩⟩

set_option maxHeartbeats 1000000 in
theorem t_X12_takes {K : Kmap} {V : Vmap} {x : Nat} {p0 : Int} (h_x : K x = some (0, 11)) (r_p0 : ir p0) (q_0 : p0 ≥ 0) : MC mX12_takes K V [.ref x, ti p0] (IS K (fun X V1 => (X = 0 ∨ X = 1) ∧ (X ≠ 0 → vi V1 x 31 = (vi V x 31 + 1)) ∧ (X = 0 → True) ∧ ((X ≠ 0 → sgn V x = p0 ∧ vi V1 x 31 = vi V x 31 + 1) ∧ (X = 0 → sgn V x ≠ p0 ∧ vi V1 x 33 = -1000 - vi V x 31)))) := by
  refine MC.start 0 (by decide +kernel) rfl rfl rfl (ls0 := [some (.ref x), some (ti p0)]) rfl ?_
  refine GO.useWT (fun hW1 => ?_)
  have aq2 := hW1.aq h_x
  have hrd := (hW1).rd h_x
  refine GO.aload_n dX12_takes_0 rfl rfl ?_
  refine GO.callV (ci := 11) (N := mX12_sign) dX12_takes_1 (RX12, TX12, 151) rfl gV_RX12_449 h_x (t_X12_sign h_x) rfl [] rfl rfl (Nat.le_of_ble_eq_true rfl) rfl (k_ip fun X3 r4 h5 => ?_)
  refine GO.iload_n dX12_takes_4 rfl rfl ?_
  refine GO.icmp_eq (tgt := 18) dX12_takes_5 (by decide) r4 r_p0 (fun c6 => ?_) (fun c6 => ?_)
  ·
    refine GO.aload_n dX12_takes_18 rfl rfl ?_
    refine GO.aload_n dX12_takes_19 rfl rfl ?_
    refine GO.getI h_x fl_RX12_443 rfl rfl dX12_takes_20 (fun l7 u8 => ?_)
    refine GO.iconst dX12_takes_23 ?_
    refine GO.iadd dX12_takes_24 ?_
    have q10 : -2147483648 ≤ vi V x 31 ∧ vi V x 31 ≤ 2147483647 := vi_ir
    have q11 : -2147483648 ≤ vi V x 32 ∧ vi V x 32 ≤ 2147483647 := vi_ir
    refine GO.putI h_x fp_RX12_443 rfl (by decide +kernel) ⟨by omega, by omega⟩ (by omega) (by omega) dX12_takes_25 (fun V12 e9 => ?_)
    have k13 := st_fld e9 aq2 h_x (by decide) (by decide)
    have sS14 : sd V12 x = sd V x := k13.2.1.trans (rfl : sd V x = sd V x)
    have sQ15 : wt V12 x = wt V x := k13.2.2.trans (rfl : wt V x = wt V x)
    refine GO.iconst dX12_takes_28 ?_
    have e16 : vi V12 x 31 = (vi V x 31) + 1 := upd2_int e9 ⟨by omega, by omega⟩
    exact GO.retz rfl rfl dX12_takes_29 (Or.inr rfl) ⟨rfl, _, rfl, (ir_c rfl), ⟨Or.inr rfl, fun h => by omega, fun _ => trivial, ⟨fun hq => by omega, fun hq => by omega⟩⟩⟩
  ·
    refine GO.aload_n dX12_takes_8 rfl rfl ?_
    refine GO.iconst dX12_takes_9 ?_
    refine GO.aload_n dX12_takes_10 rfl rfl ?_
    refine GO.getI h_x fl_RX12_443 rfl rfl dX12_takes_11 (fun l18 u19 => ?_)
    have q20 : -2147483648 ≤ vi V x 31 ∧ vi V x 31 ≤ 2147483647 := vi_ir
    refine GO.callV (ci := 11) (N := mX12_wrong) dX12_takes_14 (RX12, TX12, 151) rfl gV_RX12_456 h_x (t_X12_wrong h_x (ir_c rfl) vi_ir (by omega) (by omega) (by omega) (by omega)) rfl [] rfl rfl (Nat.le_of_ble_eq_true rfl) rfl (k_is fun X21 V25 r22 h23 hF24 => ?_)
    have k26 := st_fr hF24 aq2 h_x (by decide +kernel) (by decide +kernel) (by decide +kernel) (by decide +kernel)
    have sS27 : sd V25 x = sd V x := k26.2.1.trans (rfl : sd V x = sd V x)
    have sQ28 : wt V25 x = wt V x := k26.2.2.trans (rfl : wt V x = wt V x)
    have e30 : vi V25 x 31 = vi V x 31 := vi_fr hF24 h_x h_x (by decide +kernel)
    have q31 : -2147483648 ≤ vi V25 x 33 ∧ vi V25 x 33 ≤ 2147483647 := vi_ir
    exact GO.retz rfl rfl dX12_takes_17 (by omega) ⟨rfl, _, rfl, r22, ⟨by omega, fun h => by omega, fun _ => trivial, ⟨fun hq => by omega, fun hq => by omega⟩⟩⟩

set_option maxHeartbeats 1000000 in
theorem t_X12_readsNumber {K : Kmap} {V : Vmap} {x : Nat} {p0 : Int} (h_x : K x = some (0, 11)) (r_p0 : ir p0) : MC mX12_readsNumber K V [.ref x, ti p0] (IS K (fun X V1 => (X = 0 ∨ X = 1) ∧ (X ≠ 0 → vi V1 x 31 ≥ (vi V x 31 + 1) ∧ vi V1 x 34 ≥ 0 ∧ vi V1 x 34 ≤ p0) ∧ (X = 0 → True) ∧ (NUMR V V1 x p0 X))) := by
  refine MC.start 1 (by decide +kernel) rfl rfl rfl (ls0 := [some (.ref x), some (ti p0), none]) rfl ?_
  refine GO.useWT (fun hW1 => ?_)
  have aq2 := hW1.aq h_x
  refine GO.useWT (fun hW_0 => ?_)
  refine GO.aload_n dX12_readsNumber_0 rfl rfl ?_
  refine GO.getI h_x fl_RX12_443 rfl rfl dX12_readsNumber_1 (fun l3 u4 => ?_)
  refine GO.name (fun z5 hz6 => ?_)
  have r7 : ir z5 := hz6 ▸ vi_ir
  refine GO.istore_n (ls1 := [some (.ref x), some (ti p0), some (ti z5)]) dX12_readsNumber_4 rfl rfl rfl ?_
  refine GO.aload_n dX12_readsNumber_5 rfl rfl ?_
  refine GO.iconst dX12_readsNumber_6 ?_
  refine GO.putI h_x fp_RX12_459 rfl (by decide +kernel) (ir_c rfl) (by decide) (by decide) dX12_readsNumber_7 (fun V9 e8 => ?_)
  have k10 := st_fld e8 aq2 h_x (by decide) (by decide)
  have sS11 : sd V9 x = sd V x := k10.2.1.trans (rfl : sd V x = sd V x)
  have sQ12 : wt V9 x = wt V x := k10.2.2.trans (rfl : wt V x = wt V x)
  have e13 : vi V9 x 31 = vi V x 31 := vi_up e8 (Or.inr (by decide))
  have e14 : vi V9 x 34 = 0 := upd2_int e8 (ir_c rfl)
  refine GO.useFR (fun hFs => ?_)
  have hTb : ∀ src e, TP V x src e → TP V9 x src e := fun src e h => TP.fr h hFs hW_0 h_x (by decide +kernel) (by decide +kernel) (by decide +kernel)
  refine GO.aload_n dX12_readsNumber_10 rfl rfl ?_
  refine GO.callV (ci := 11) (N := mX12_isDigit) dX12_readsNumber_11 (RX12, TX12, 151) rfl gV_RX12_462 h_x (t_X12_isDigit h_x) rfl [] rfl rfl (Nat.le_of_ble_eq_true rfl) rfl (k_ip fun X15 r16 h17 => ?_)
  have raw_isDigit := h17.2.2.2
  have rw11 := h17.2.2.2
  refine GO.if_ne (tgt := 27) dX12_readsNumber_14 (by decide) r16 (fun c19 => ?_) (fun c19 => ?_)
  ·
    have q20 := h17.2.1 (by omega)
    have q21 : -2147483648 ≤ vi V9 x 32 ∧ vi V9 x 32 ≤ 2147483647 := vi_ir
    refine GO.loop0 (fun  W => (vi W x 31 ≥ z5 ∧ vi W x 31 ≤ (z5 + 6) ∧ vi W x 34 ≥ 0 ∧ vi W x 34 ≤ 999999 ∧ (vi W x 31 < (z5 + 6) → vi W x 34 ≤ 99999) ∧ z5 = vi V9 x 31 ∧ (sgn W x < 48 → vi W x 31 ≥ (z5 + 1)) ∧ (sgn W x > 57 → vi W x 31 ≥ (z5 + 1)) ∧ (vi W x 31 = (z5 + 0) → vi W x 34 ≤ 0) ∧ (vi W x 31 = (z5 + 1) → vi W x 34 ≤ 9) ∧ (vi W x 31 = (z5 + 2) → vi W x 34 ≤ 99) ∧ (vi W x 31 = (z5 + 3) → vi W x 34 ≤ 999) ∧ (vi W x 31 = (z5 + 4) → vi W x 34 ≤ 9999) ∧ (vi W x 31 = (z5 + 5) → vi W x 34 ≤ 99999) ∧ (vi W x 31 = (z5 + 6) → vi W x 34 ≤ 999999)) ∧ (RNI V W x) ∧ True) (fun  W => ((vi W x 32 - vi W x 31)).toNat)  ⟨by omega, (by first | exact RNI.beg (by omega) (by omega)), trivial⟩ (fun W85 hp87 ih86 => ?_)
    obtain ⟨n_W85, hrn, -⟩ := hp87
    show GO mX12_readsNumber K V (IS K (fun X V1 => (X = 0 ∨ X = 1) ∧ (X ≠ 0 → vi V1 x 31 ≥ (vi V x 31 + 1) ∧ vi V1 x 34 ≥ 0 ∧ vi V1 x 34 ≤ p0) ∧ (X = 0 → True) ∧ (NUMR V V1 x p0 X))) K W85 0 0 27 [some (.ref x), some (ti p0), some (ti z5)] []
    refine GO.useWT (fun hW88 => ?_)
    have aq89 := hW88.aq h_x
    have hrd := (hW88).rd h_x
    refine GO.useFR (fun hFs => ?_)
    have hTp : ∀ src e, TP V x src e → TP W85 x src e := fun src e h => TP.fr h hFs hW_0 h_x (by decide +kernel) (by decide +kernel) (by decide +kernel)
    refine GO.aload_n dX12_readsNumber_27 rfl rfl ?_
    refine GO.callV (ci := 11) (N := mX12_isDigit) dX12_readsNumber_28 (RX12, TX12, 151) rfl gV_RX12_462 h_x (t_X12_isDigit h_x) rfl [] rfl rfl (Nat.le_of_ble_eq_true rfl) rfl (k_ip fun X90 r91 h92 => ?_)
    have raw_isDigit := h92.2.2.2
    have rw28 := h92.2.2.2
    refine GO.if_eq (tgt := 87) dX12_readsNumber_31 (by decide) r91 (fun c93 => ?_) (fun c93 => ?_)
    ·
      refine GO.aload_n dX12_readsNumber_87 rfl rfl ?_
      refine GO.getI h_x fl_RX12_459 rfl rfl dX12_readsNumber_88 (fun _ _ => ?_)
      refine GO.iload_n dX12_readsNumber_91 rfl rfl ?_
      refine GO.icmp_le (tgt := 104) dX12_readsNumber_92 (by decide) vi_ir r_p0 (fun c94 => ?_) (fun c94 => ?_)
      ·
        refine GO.iconst dX12_readsNumber_104 ?_
        refine GO.goto (tgt := 109) dX12_readsNumber_105 (by decide) ?_
        have q95 : -2147483648 ≤ vi W85 x 31 ∧ vi W85 x 31 ≤ 2147483647 := vi_ir
        have q96 : -2147483648 ≤ vi W85 x 34 ∧ vi W85 x 34 ≤ 2147483647 := vi_ir
        have q97 : -2147483648 ≤ p0 ∧ p0 ≤ 2147483647 := r_p0
        exact GO.retz rfl rfl dX12_readsNumber_109 (Or.inr rfl) ⟨rfl, _, rfl, (ir_c rfl), ⟨Or.inr rfl, fun h => by omega, fun _ => trivial, (by first | exact NUMR.no hTb (by omega) (by omega) (by omega) (by omega) (by omega) | exact NUMR.long hrn hTp (by omega) (by omega) (by omega) (by omega) (by omega) | exact NUMR.end hrn hTp (by omega) (by omega) (by omega) (by omega))⟩⟩
      ·
        refine GO.aload_n dX12_readsNumber_95 rfl rfl ?_
        refine GO.iconst dX12_readsNumber_96 ?_
        refine GO.iload_n dX12_readsNumber_97 rfl rfl ?_
        have q98 : -2147483648 ≤ vi W85 x 31 ∧ vi W85 x 31 ≤ 2147483647 := vi_ir
        refine GO.callV (ci := 11) (N := mX12_wrong) dX12_readsNumber_98 (RX12, TX12, 151) rfl gV_RX12_456 h_x (t_X12_wrong h_x (ir_c rfl) r7 (by omega) (by omega) (by omega) (by omega)) rfl [] rfl rfl (Nat.le_of_ble_eq_true rfl) rfl (k_is fun X99 V103 r100 h101 hF102 => ?_)
        have k104 := st_fr hF102 aq89 h_x (by decide +kernel) (by decide +kernel) (by decide +kernel) (by decide +kernel)
        have sS105 : sd V103 x = sd W85 x := k104.2.1.trans (rfl : sd W85 x = sd W85 x)
        have sQ106 : wt V103 x = wt W85 x := k104.2.2.trans (rfl : wt W85 x = wt W85 x)
        refine GO.if_eq (tgt := 108) dX12_readsNumber_101 (by decide) r100 (fun c108 => ?_) (fun h => by exfalso; omega)
        refine GO.iconst dX12_readsNumber_108 ?_
        have e109 : vi V103 x 31 = vi W85 x 31 := vi_fr hF102 h_x h_x (by decide +kernel)
        have q110 : -2147483648 ≤ vi V103 x 33 ∧ vi V103 x 33 ≤ 2147483647 := vi_ir
        have e111 : vi V103 x 34 = vi W85 x 34 := vi_fr hF102 h_x h_x (by decide +kernel)
        have q112 : -2147483648 ≤ vi W85 x 34 ∧ vi W85 x 34 ≤ 2147483647 := vi_ir
        have q113 : -2147483648 ≤ p0 ∧ p0 ≤ 2147483647 := r_p0
        exact GO.retz rfl rfl dX12_readsNumber_109 (Or.inl rfl) ⟨rfl, _, rfl, (ir_c rfl), ⟨Or.inl rfl, fun h => absurd rfl h, fun _ => trivial, (by first | exact NUMR.no hTb (by omega) (by omega) (by omega) (by omega) (by omega) | exact NUMR.long hrn hTp (by omega) (by omega) (by omega) (by omega) (by omega) | exact NUMR.end hrn hTp (by omega) (by omega) (by omega) (by omega))⟩⟩
    ·
      have q114 := h92.2.1 (by omega)
      refine GO.aload_n dX12_readsNumber_34 rfl rfl ?_
      refine GO.getI h_x fl_RX12_443 rfl rfl dX12_readsNumber_35 (fun l115 u116 => ?_)
      refine GO.iload_n dX12_readsNumber_38 rfl rfl ?_
      refine GO.bipush dX12_readsNumber_39 rfl ?_
      refine GO.iadd dX12_readsNumber_41 ?_
      have q117 : -2147483648 ≤ vi W85 x 31 ∧ vi W85 x 31 ≤ 2147483647 := vi_ir
      have q118 : -2147483648 ≤ vi W85 x 32 ∧ vi W85 x 32 ≤ 2147483647 := vi_ir
      refine GO.icmp_ne (tgt := 55) dX12_readsNumber_42 (by decide) vi_ir ⟨by omega, by omega⟩ (fun c119 => ?_) (fun c119 => ?_)
      ·
        refine GO.aload_n dX12_readsNumber_55 rfl rfl ?_
        refine GO.bipush dX12_readsNumber_56 rfl ?_
        refine GO.aload_n dX12_readsNumber_58 rfl rfl ?_
        refine GO.getI h_x fl_RX12_459 rfl rfl dX12_readsNumber_59 (fun _ _ => ?_)
        refine GO.imul dX12_readsNumber_62 ?_
        refine GO.aload_n dX12_readsNumber_63 rfl rfl ?_
        refine GO.callV (ci := 11) (N := mX12_sign) dX12_readsNumber_64 (RX12, TX12, 151) rfl gV_RX12_449 h_x (t_X12_sign h_x) rfl [ti (10 * (vi W85 x 34)), .ref x] rfl rfl (Nat.le_of_ble_eq_true rfl) rfl (k_ip fun X120 r121 h122 => ?_)
        refine GO.iadd dX12_readsNumber_67 ?_
        refine GO.bipush dX12_readsNumber_68 rfl ?_
        refine GO.isub dX12_readsNumber_70 ?_
        have q124 : -2147483648 ≤ vi W85 x 34 ∧ vi W85 x 34 ≤ 2147483647 := vi_ir
        refine GO.putI h_x fp_RX12_459 rfl (by decide +kernel) ⟨by omega, by omega⟩ (by omega) (by omega) dX12_readsNumber_71 (fun V125 e123 => ?_)
        have k126 := st_fld e123 aq89 h_x (by decide) (by decide)
        have sS127 : sd V125 x = sd W85 x := k126.2.1.trans (rfl : sd W85 x = sd W85 x)
        have sQ128 : wt V125 x = wt W85 x := k126.2.2.trans (rfl : wt W85 x = wt W85 x)
        refine GO.aload_n dX12_readsNumber_74 rfl rfl ?_
        refine GO.aload_n dX12_readsNumber_75 rfl rfl ?_
        refine GO.getI h_x fl_RX12_443 rfl rfl dX12_readsNumber_76 (fun l129 u130 => ?_)
        have e131 : vi V125 x 31 = vi W85 x 31 := vi_up e123 (Or.inr (by decide))
        refine GO.iconst dX12_readsNumber_79 ?_
        refine GO.iadd dX12_readsNumber_80 ?_
        refine GO.putI h_x fp_RX12_443 rfl (by decide +kernel) ⟨by omega, by omega⟩ (by omega) (by omega) dX12_readsNumber_81 (fun V133 e132 => ?_)
        have k134 := st_fld e132 k126.1 h_x (by decide) (by decide)
        have sS135 : sd V133 x = sd W85 x := k134.2.1.trans sS127
        have sQ136 : wt V133 x = wt W85 x := k134.2.2.trans sQ128
        refine GO.goto (tgt := 27) dX12_readsNumber_84 (by decide) ?_
        have e137 : vi V133 x 31 = (vi V125 x 31) + 1 := upd2_int e132 ⟨by omega, by omega⟩
        have e139 : vi V125 x 34 = ((10 * (vi W85 x 34)) + X120) - 48 := upd2_int e123 ⟨by omega, by omega⟩
        have e138 : vi V133 x 34 = vi V125 x 34 := vi_up e132 (Or.inr (by decide))
        have e141 : vi V125 x 32 = vi W85 x 32 := vi_up e123 (Or.inr (by decide))
        have e140 : vi V133 x 32 = vi V125 x 32 := vi_up e132 (Or.inr (by decide))
        exact ih86  V133 ⟨by omega, (by first | exact RNI.beg (by omega) (by omega) | exact RNI.step hrn hTp (by omega) (by omega) (by omega) (by omega) (by omega) (by omega)), trivial⟩ (by show ((vi V133 x 32 - vi V133 x 31)).toNat < ((vi W85 x 32 - vi W85 x 31)).toNat; omega)
      ·
        refine GO.aload_n dX12_readsNumber_45 rfl rfl ?_
        refine GO.iconst dX12_readsNumber_46 ?_
        refine GO.aload_n dX12_readsNumber_47 rfl rfl ?_
        refine GO.getI h_x fl_RX12_443 rfl rfl dX12_readsNumber_48 (fun l142 u143 => ?_)
        refine GO.callV (ci := 11) (N := mX12_wrong) dX12_readsNumber_51 (RX12, TX12, 151) rfl gV_RX12_456 h_x (t_X12_wrong h_x (ir_c rfl) vi_ir (by omega) (by omega) (by omega) (by omega)) rfl [] rfl rfl (Nat.le_of_ble_eq_true rfl) rfl (k_is fun X144 V148 r145 h146 hF147 => ?_)
        have k149 := st_fr hF147 aq89 h_x (by decide +kernel) (by decide +kernel) (by decide +kernel) (by decide +kernel)
        have sS150 : sd V148 x = sd W85 x := k149.2.1.trans (rfl : sd W85 x = sd W85 x)
        have sQ151 : wt V148 x = wt W85 x := k149.2.2.trans (rfl : wt W85 x = wt W85 x)
        have e153 : vi V148 x 31 = vi W85 x 31 := vi_fr hF147 h_x h_x (by decide +kernel)
        have q154 : -2147483648 ≤ vi V148 x 33 ∧ vi V148 x 33 ≤ 2147483647 := vi_ir
        have e155 : vi V148 x 34 = vi W85 x 34 := vi_fr hF147 h_x h_x (by decide +kernel)
        have q156 : -2147483648 ≤ vi W85 x 34 ∧ vi W85 x 34 ≤ 2147483647 := vi_ir
        exact GO.retz rfl rfl dX12_readsNumber_54 (by omega) ⟨rfl, _, rfl, r145, ⟨by omega, fun h => by omega, fun _ => trivial, (by first | exact NUMR.no hTb (by omega) (by omega) (by omega) (by omega) (by omega) | exact NUMR.long hrn hTp (by omega) (by omega) (by omega) (by omega) (by omega) | exact NUMR.end hrn hTp (by omega) (by omega) (by omega) (by omega))⟩⟩
  ·
    refine GO.aload_n dX12_readsNumber_17 rfl rfl ?_
    refine GO.iconst dX12_readsNumber_18 ?_
    refine GO.aload_n dX12_readsNumber_19 rfl rfl ?_
    refine GO.getI h_x fl_RX12_443 rfl rfl dX12_readsNumber_20 (fun l157 u158 => ?_)
    refine GO.callV (ci := 11) (N := mX12_wrong) dX12_readsNumber_23 (RX12, TX12, 151) rfl gV_RX12_456 h_x (t_X12_wrong h_x (ir_c rfl) vi_ir (by omega) (by omega) (by omega) (by omega)) rfl [] rfl rfl (Nat.le_of_ble_eq_true rfl) rfl (k_is fun X159 V163 r160 h161 hF162 => ?_)
    have k164 := st_fr hF162 k10.1 h_x (by decide +kernel) (by decide +kernel) (by decide +kernel) (by decide +kernel)
    have sS165 : sd V163 x = sd V x := k164.2.1.trans sS11
    have sQ166 : wt V163 x = wt V x := k164.2.2.trans sQ12
    have e168 : vi V163 x 31 = vi V9 x 31 := vi_fr hF162 h_x h_x (by decide +kernel)
    have q169 : -2147483648 ≤ vi V163 x 33 ∧ vi V163 x 33 ≤ 2147483647 := vi_ir
    have e170 : vi V163 x 34 = vi V9 x 34 := vi_fr hF162 h_x h_x (by decide +kernel)
    exact GO.retz rfl rfl dX12_readsNumber_26 (by omega) ⟨rfl, _, rfl, r160, ⟨by omega, fun h => by omega, fun _ => trivial, (by first | exact NUMR.no hTb (by omega) (by omega) (by omega) (by omega) (by omega))⟩⟩

set_option maxHeartbeats 1000000 in
theorem t_X12_says {K : Kmap} {V : Vmap} {x : Nat} {p0 : Int} {p1 : Int} (h_x : K x = some (0, 11)) (r_p0 : ir p0) (r_p1 : ir p1) (q_0 : p0 ≥ 0) (q_1 : p0 ≤ 12) (q_2 : p1 ≥ 0) (q_3 : p1 ≤ 1048575) (v_36 : 0 ≤ vi V x 36 ∧ vi V x 36 ≤ 219) : MC mX12_says K V [.ref x, ti p0, ti p1] (VS K (fun V1 => (vi V1 x 36 = (vi V x 36 + 1)) ∧ (sd V1 x = updf (sd V x) (vi V x 36).toNat (1048576 * p0 + p1)) ∧ (wt V1 x = wt V x))) := by
  refine MC.start 0 (by decide +kernel) rfl rfl rfl (ls0 := [some (.ref x), some (ti p0), some (ti p1)]) rfl ?_
  refine GO.useWT (fun hW1 => ?_)
  have aq2 := hW1.aq h_x
  refine GO.aload_n dX12_says_0 rfl rfl ?_
  refine GO.getA (n := 220) h_x fl_RX12_88 rfl rfl rfl rfl dX12_says_1 (fun hv4 h3 => ?_)
  refine GO.aload_n dX12_says_4 rfl rfl ?_
  refine GO.getI h_x fl_RX12_466 rfl rfl dX12_says_5 (fun l5 u6 => ?_)
  refine GO.ldcw (X := 1048576) dX12_says_8 gw_2078 rfl ?_
  refine GO.iload_n dX12_says_11 rfl rfl ?_
  refine GO.imul dX12_says_12 ?_
  refine GO.iload_n dX12_says_13 rfl rfl ?_
  refine GO.iadd dX12_says_14 ?_
  have q8 : -2147483648 ≤ p1 ∧ p1 ≤ 2147483647 := r_p1
  have q9 : -2147483648 ≤ p0 ∧ p0 ≤ 2147483647 := r_p0
  refine GO.iast (t := 32) rfl rfl (by decide +kernel) h3 vi_ir (by omega) (by omega) ⟨by omega, by omega⟩ (by omega) (by omega) dX12_says_15 (fun V10 e7 => ?_)
  have k11 := st_sd e7 aq2 h_x (vq_of hv4) ⟨by omega, by omega⟩
  have sS12 : sd V10 x = updf (sd V x) (vi V x 36).toNat ((1048576 * p0) + p1) := k11.2.1.trans (congrArg (fun f => updf f (vi V x 36).toNat ((1048576 * p0) + p1)) (rfl : sd V x = sd V x))
  have sQ13 : wt V10 x = wt V x := k11.2.2.trans (rfl : wt V x = wt V x)
  refine GO.aload_n dX12_says_16 rfl rfl ?_
  refine GO.aload_n dX12_says_17 rfl rfl ?_
  refine GO.getI h_x fl_RX12_466 rfl rfl dX12_says_18 (fun l14 u15 => ?_)
  have e16 : vi V10 x 36 = vi V x 36 := vi_up e7 (Or.inl (K_ne h_x h3 (by decide)))
  refine GO.iconst dX12_says_21 ?_
  refine GO.iadd dX12_says_22 ?_
  refine GO.putI h_x fp_RX12_466 rfl (by decide +kernel) ⟨by omega, by omega⟩ (by omega) (by omega) dX12_says_23 (fun V18 e17 => ?_)
  have k19 := st_fld e17 k11.1 h_x (by decide) (by decide)
  have sS20 : sd V18 x = updf (sd V x) (vi V x 36).toNat ((1048576 * p0) + p1) := k19.2.1.trans sS12
  have sQ21 : wt V18 x = wt V x := k19.2.2.trans sQ13
  have e22 : vi V18 x 36 = (vi V10 x 36) + 1 := upd2_int e17 ⟨by omega, by omega⟩
  exact GO.retv rfl rfl dX12_says_26 ⟨rfl, rfl, ⟨by omega, sS20, sQ21⟩⟩

set_option maxHeartbeats 1000000 in
theorem t_X12_opens {K : Kmap} {V : Vmap} {x : Nat} {p0 : Int} (h_x : K x = some (0, 11)) (r_p0 : ir p0) (q_0 : p0 ≥ 10) (q_1 : p0 ≤ 14) (q_2 : vi V x 31 < vi V x 32) (v_37 : 0 ≤ vi V x 37 ∧ vi V x 37 ≤ 219) : MC mX12_opens K V [.ref x, ti p0] (IS K (fun X V1 => (X = 0 ∨ X = 1) ∧ (X ≠ 0 → vi V1 x 37 = (vi V x 37 + 1) ∧ vi V1 x 31 = (vi V x 31 + 1)) ∧ (X = 0 → True) ∧ ((X ≠ 0 → sd V1 x = sd V x ∧ wt V1 x = updf (wt V x) (vi V x 37).toNat (1048576 * p0))) ∧ (OPN V V1 x X))) := by
  refine MC.start 0 (by decide +kernel) rfl rfl rfl (ls0 := [some (.ref x), some (ti p0)]) rfl ?_
  refine GO.useWT (fun hW1 => ?_)
  have aq2 := hW1.aq h_x
  have hrd := (hW1).rd h_x
  refine GO.aload_n dX12_opens_0 rfl rfl ?_
  refine GO.getI h_x fl_RX12_470 rfl rfl dX12_opens_1 (fun _ _ => ?_)
  refine GO.bipush dX12_opens_4 rfl ?_
  refine GO.icmp_ne (tgt := 19) dX12_opens_6 (by decide) vi_ir (ir_c rfl) (fun c3 => ?_) (fun c3 => ?_)
  ·
    refine GO.aload_n dX12_opens_19 rfl rfl ?_
    refine GO.aload_n dX12_opens_20 rfl rfl ?_
    refine GO.getI h_x fl_RX12_470 rfl rfl dX12_opens_21 (fun _ _ => ?_)
    refine GO.iconst dX12_opens_24 ?_
    refine GO.iadd dX12_opens_25 ?_
    refine GO.norm (fun z4 r5 hn6 => ?_)
    refine GO.putI h_x fp_RX12_470 rfl (by decide +kernel) r5 (r5).1 (r5).2 dX12_opens_26 (fun V8 e7 => ?_)
    have k9 := st_fld e7 aq2 h_x (by decide) (by decide)
    have sS10 : sd V8 x = sd V x := k9.2.1.trans (rfl : sd V x = sd V x)
    have sQ11 : wt V8 x = wt V x := k9.2.2.trans (rfl : wt V x = wt V x)
    have ho := inc_at (V1 := V8) (x := x) (k := 35) (by assumption) (by assumption) (by assumption)
    refine GO.aload_n dX12_opens_29 rfl rfl ?_
    refine GO.getA (n := 220) h_x fl_RX12_91 rfl rfl rfl rfl dX12_opens_30 (fun hv13 h12 => ?_)
    refine GO.aload_n dX12_opens_33 rfl rfl ?_
    refine GO.getI h_x fl_RX12_473 rfl rfl dX12_opens_34 (fun l14 u15 => ?_)
    have e16 : vi V8 x 37 = vi V x 37 := vi_up e7 (Or.inr (by decide))
    refine GO.ldcw (X := 1048576) dX12_opens_37 gw_2078 rfl ?_
    refine GO.iload_n dX12_opens_40 rfl rfl ?_
    refine GO.imul dX12_opens_41 ?_
    have q18 : -2147483648 ≤ p0 ∧ p0 ≤ 2147483647 := r_p0
    refine GO.iast (t := 33) rfl rfl (by decide +kernel) h12 vi_ir (by omega) (by omega) ⟨by omega, by omega⟩ (by omega) (by omega) dX12_opens_42 (fun V19 e17 => ?_)
    have k20 := st_wt e17 k9.1 h_x (vq_of hv13) ⟨by omega, by omega⟩
    have sS21 : sd V19 x = sd V x := k20.2.1.trans sS10
    have sQ22 : wt V19 x = updf (wt V x) (vi V8 x 37).toNat (1048576 * p0) := k20.2.2.trans (congrArg (fun f => updf f (vi V8 x 37).toNat (1048576 * p0)) sQ11)
    refine GO.aload_n dX12_opens_43 rfl rfl ?_
    refine GO.aload_n dX12_opens_44 rfl rfl ?_
    refine GO.getI h_x fl_RX12_473 rfl rfl dX12_opens_45 (fun l23 u24 => ?_)
    have e25 : vi V19 x 37 = vi V8 x 37 := vi_up e17 (Or.inl (K_ne h_x h12 (by decide)))
    refine GO.iconst dX12_opens_48 ?_
    refine GO.iadd dX12_opens_49 ?_
    refine GO.putI h_x fp_RX12_473 rfl (by decide +kernel) ⟨by omega, by omega⟩ (by omega) (by omega) dX12_opens_50 (fun V27 e26 => ?_)
    have k28 := st_fld e26 k20.1 h_x (by decide) (by decide)
    have sS29 : sd V27 x = sd V x := k28.2.1.trans sS21
    have sQ30 : wt V27 x = updf (wt V x) (vi V8 x 37).toNat (1048576 * p0) := k28.2.2.trans sQ22
    refine GO.aload_n dX12_opens_53 rfl rfl ?_
    refine GO.aload_n dX12_opens_54 rfl rfl ?_
    refine GO.getI h_x fl_RX12_443 rfl rfl dX12_opens_55 (fun l31 u32 => ?_)
    have e35 : vi V8 x 31 = vi V x 31 := vi_up e7 (Or.inr (by decide))
    have e34 : vi V19 x 31 = vi V8 x 31 := vi_up e17 (Or.inl (K_ne h_x h12 (by decide)))
    have e33 : vi V27 x 31 = vi V19 x 31 := vi_up e26 (Or.inr (by decide))
    refine GO.iconst dX12_opens_58 ?_
    refine GO.iadd dX12_opens_59 ?_
    have q37 : -2147483648 ≤ vi V x 31 ∧ vi V x 31 ≤ 2147483647 := vi_ir
    have q38 : -2147483648 ≤ vi V x 32 ∧ vi V x 32 ≤ 2147483647 := vi_ir
    refine GO.putI h_x fp_RX12_443 rfl (by decide +kernel) ⟨by omega, by omega⟩ (by omega) (by omega) dX12_opens_60 (fun V39 e36 => ?_)
    have k40 := st_fld e36 k28.1 h_x (by decide) (by decide)
    have sS41 : sd V39 x = sd V x := k40.2.1.trans sS29
    have sQ42 : wt V39 x = updf (wt V x) (vi V8 x 37).toNat (1048576 * p0) := k40.2.2.trans sQ30
    refine GO.iconst dX12_opens_63 ?_
    have e44 : vi V27 x 37 = (vi V19 x 37) + 1 := upd2_int e26 ⟨by omega, by omega⟩
    have e43 : vi V39 x 37 = vi V27 x 37 := vi_up e36 (Or.inr (by decide))
    have e45 : vi V39 x 31 = (vi V27 x 31) + 1 := upd2_int e36 ⟨by omega, by omega⟩
    have e53 : vi V8 x 35 = z4 := upd2_int e7 r5
    have e52 : vi V19 x 35 = vi V8 x 35 := vi_up e17 (Or.inl (K_ne h_x h12 (by decide)))
    have e51 : vi V27 x 35 = vi V19 x 35 := vi_up e26 (Or.inr (by decide))
    have e50 : vi V39 x 35 = vi V27 x 35 := vi_up e36 (Or.inr (by decide))
    exact GO.retz rfl rfl dX12_opens_64 (Or.inr rfl) ⟨rfl, _, rfl, (ir_c rfl), ⟨Or.inr rfl, fun h => by omega, fun _ => trivial, (by first | exact fun h => absurd h (by decide) | exact fun _ => ⟨sS41, (sQ42).trans (upd_ix (by omega))⟩), (by first | exact ⟨fun hq => ⟨fun ga gb => by have h9 := ho ga gb; omega, by omega⟩, fun hq => absurd hq (by omega)⟩)⟩⟩
  ·
    refine GO.aload_n dX12_opens_9 rfl rfl ?_
    refine GO.iconst dX12_opens_10 ?_
    refine GO.aload_n dX12_opens_11 rfl rfl ?_
    refine GO.getI h_x fl_RX12_443 rfl rfl dX12_opens_12 (fun l54 u55 => ?_)
    have q56 : -2147483648 ≤ vi V x 31 ∧ vi V x 31 ≤ 2147483647 := vi_ir
    have q57 : -2147483648 ≤ vi V x 32 ∧ vi V x 32 ≤ 2147483647 := vi_ir
    refine GO.callV (ci := 11) (N := mX12_wrong) dX12_opens_15 (RX12, TX12, 151) rfl gV_RX12_456 h_x (t_X12_wrong h_x (ir_c rfl) vi_ir (by omega) (by omega) (by omega) (by omega)) rfl [] rfl rfl (Nat.le_of_ble_eq_true rfl) rfl (k_is fun X58 V62 r59 h60 hF61 => ?_)
    have k63 := st_fr hF61 aq2 h_x (by decide +kernel) (by decide +kernel) (by decide +kernel) (by decide +kernel)
    have sS64 : sd V62 x = sd V x := k63.2.1.trans (rfl : sd V x = sd V x)
    have sQ65 : wt V62 x = wt V x := k63.2.2.trans (rfl : wt V x = wt V x)
    have e67 : vi V62 x 37 = vi V x 37 := vi_fr hF61 h_x h_x (by decide +kernel)
    have e68 : vi V62 x 31 = vi V x 31 := vi_fr hF61 h_x h_x (by decide +kernel)
    have q69 : -2147483648 ≤ vi V62 x 33 ∧ vi V62 x 33 ≤ 2147483647 := vi_ir
    have e70 : vi V62 x 35 = vi V x 35 := vi_fr hF61 h_x h_x (by decide +kernel)
    exact GO.retz rfl rfl dX12_opens_18 (by omega) ⟨rfl, _, rfl, r59, ⟨by omega, fun h => by omega, fun _ => trivial, (by first | exact fun h => absurd h (by omega) | exact fun _ => ⟨sS64, (sQ65).trans (upd_ix (by omega))⟩), (by first | exact ⟨fun hq => absurd (by omega) hq, fun hq => ⟨by omega, by omega⟩⟩)⟩⟩

set_option maxHeartbeats 1000000 in
theorem t_X12_top {K : Kmap} {V : Vmap} {x : Nat} (h_x : K x = some (0, 11)) : MC mX12_top K V [.ref x] (IP K V (fun X => X ≥ (-1) ∧ X ≤ 15 ∧ X = topf V x ∧ (X ≠ (-1) → vi V x 37 ≥ 1))) := by
  refine MC.start 0 (by decide +kernel) rfl rfl rfl (ls0 := [some (.ref x)]) rfl ?_
  refine GO.aload_n dX12_top_0 rfl rfl ?_
  refine GO.getI h_x fl_RX12_473 rfl rfl dX12_top_1 (fun l1 u2 => ?_)
  refine GO.if_ne (tgt := 11) dX12_top_4 (by decide) vi_ir (fun c3 => ?_) (fun c3 => ?_)
  ·
    refine GO.aload_n dX12_top_11 rfl rfl ?_
    refine GO.getA (n := 220) h_x fl_RX12_91 rfl rfl rfl rfl dX12_top_12 (fun hv5 h4 => ?_)
    refine GO.aload_n dX12_top_15 rfl rfl ?_
    refine GO.getI h_x fl_RX12_473 rfl rfl dX12_top_16 (fun l6 u7 => ?_)
    refine GO.iconst dX12_top_19 ?_
    refine GO.isub dX12_top_20 ?_
    have hs := top_yes (V := V) (x := x) rfl (by omega)
    refine GO.iald (t := 33) rfl rfl h4 ⟨by omega, by omega⟩ (by omega) (by omega) dX12_top_21 (fun l8 u9 => ?_)
    refine GO.ldcw (X := 1048576) dX12_top_22 gw_2078 rfl ?_
    refine GO.idivP dX12_top_25 vi_ir (ir_c rfl) (by omega) (by omega) ?_
    exact GO.reti rfl rfl dX12_top_26 ⟨rfl, rfl, _, rfl, ⟨by omega, by omega⟩, by omega⟩
  ·
    have hs := top_no (V := V) (x := x) (by omega)
    refine GO.iconst dX12_top_7 ?_
    refine GO.goto (tgt := 26) dX12_top_8 (by decide) ?_
    exact GO.reti rfl rfl dX12_top_26 ⟨rfl, rfl, _, rfl, (ir_c rfl), by omega⟩

set_option maxHeartbeats 1000000 in
theorem t_X12_letterNumber {K : Kmap} {V : Vmap} {p0 : Int} (r_p0 : ir p0) : MC mX12_letterNumber K V [ti p0] (IP K V (fun X => (X ≥ (-1) ∧ X ≤ 13) ∧ (X = letN p0))) := by
  refine MC.start 0 (by decide +kernel) rfl rfl rfl (ls0 := [some (ti p0)]) rfl ?_
  refine GO.iload_n dX12_letterNumber_0 rfl rfl ?_
  have q1 : -2147483648 ≤ p0 ∧ p0 ≤ 2147483647 := r_p0
  rcases (show (p0 < 97 ∨ 121 < p0) ∨ p0 = 97 ∨ p0 = 98 ∨ p0 = 99 ∨ p0 = 100 ∨ p0 = 101 ∨ p0 = 102 ∨ p0 = 103 ∨ p0 = 104 ∨ p0 = 105 ∨ p0 = 106 ∨ p0 = 107 ∨ p0 = 108 ∨ p0 = 109 ∨ p0 = 110 ∨ p0 = 111 ∨ p0 = 112 ∨ p0 = 113 ∨ p0 = 114 ∨ p0 = 115 ∨ p0 = 116 ∨ p0 = 117 ∨ p0 = 118 ∨ p0 = 119 ∨ p0 = 120 ∨ p0 = 121 by omega) with c2 | c2 | c2 | c2 | c2 | c2 | c2 | c2 | c2 | c2 | c2 | c2 | c2 | c2 | c2 | c2 | c2 | c2 | c2 | c2 | c2 | c2 | c2 | c2 | c2 | c2
  ·
    refine GO.tableOut (tgt := 152) dX12_letterNumber_1 r_p0 c2 (by decide) ?_
    refine GO.iconst dX12_letterNumber_152 ?_
    exact GO.reti rfl rfl dX12_letterNumber_153 ⟨rfl, rfl, _, rfl, (ir_c rfl), ⟨(by first | exact trivial | omega), (by first | (rw [show p0 = 97 by omega]; decide) | (rw [show p0 = 112 by omega]; decide) | (rw [show p0 = 98 by omega]; decide) | (rw [show p0 = 104 by omega]; decide) | (rw [show p0 = 105 by omega]; decide) | (rw [show p0 = 114 by omega]; decide) | (rw [show p0 = 115 by omega]; decide) | (rw [show p0 = 110 by omega]; decide) | (rw [show p0 = 111 by omega]; decide) | (rw [show p0 = 116 by omega]; decide) | (rw [show p0 = 101 by omega]; decide) | (rw [show p0 = 100 by omega]; decide) | (rw [show p0 = 121 by omega]; decide) | (rw [show p0 = 109 by omega]; decide) | exact (letN_none (by omega)).symm)⟩⟩
  ·
    refine GO.tableAt (n := 97) (tgt := 116) dX12_letterNumber_1 (ir_c rfl) c2 (by decide) (by decide) rfl (by decide) ?_
    refine GO.iconst dX12_letterNumber_116 ?_
    exact GO.reti rfl rfl dX12_letterNumber_117 ⟨rfl, rfl, _, rfl, (ir_c rfl), ⟨(by first | exact trivial | omega), (by first | (rw [show p0 = 97 by omega]; decide) | (rw [show p0 = 112 by omega]; decide) | (rw [show p0 = 98 by omega]; decide) | (rw [show p0 = 104 by omega]; decide) | (rw [show p0 = 105 by omega]; decide) | (rw [show p0 = 114 by omega]; decide) | (rw [show p0 = 115 by omega]; decide) | (rw [show p0 = 110 by omega]; decide) | (rw [show p0 = 111 by omega]; decide) | (rw [show p0 = 116 by omega]; decide) | (rw [show p0 = 101 by omega]; decide) | (rw [show p0 = 100 by omega]; decide) | (rw [show p0 = 121 by omega]; decide) | (rw [show p0 = 109 by omega]; decide) | exact (letN_none (by omega)).symm)⟩⟩
  ·
    refine GO.tableAt (n := 98) (tgt := 120) dX12_letterNumber_1 (ir_c rfl) c2 (by decide) (by decide) rfl (by decide) ?_
    refine GO.iconst dX12_letterNumber_120 ?_
    exact GO.reti rfl rfl dX12_letterNumber_121 ⟨rfl, rfl, _, rfl, (ir_c rfl), ⟨(by first | exact trivial | omega), (by first | (rw [show p0 = 97 by omega]; decide) | (rw [show p0 = 112 by omega]; decide) | (rw [show p0 = 98 by omega]; decide) | (rw [show p0 = 104 by omega]; decide) | (rw [show p0 = 105 by omega]; decide) | (rw [show p0 = 114 by omega]; decide) | (rw [show p0 = 115 by omega]; decide) | (rw [show p0 = 110 by omega]; decide) | (rw [show p0 = 111 by omega]; decide) | (rw [show p0 = 116 by omega]; decide) | (rw [show p0 = 101 by omega]; decide) | (rw [show p0 = 100 by omega]; decide) | (rw [show p0 = 121 by omega]; decide) | (rw [show p0 = 109 by omega]; decide) | exact (letN_none (by omega)).symm)⟩⟩
  ·
    refine GO.tableAt (n := 99) (tgt := 152) dX12_letterNumber_1 (ir_c rfl) c2 (by decide) (by decide) rfl (by decide) ?_
    refine GO.iconst dX12_letterNumber_152 ?_
    exact GO.reti rfl rfl dX12_letterNumber_153 ⟨rfl, rfl, _, rfl, (ir_c rfl), ⟨(by first | exact trivial | omega), (by first | (rw [show p0 = 97 by omega]; decide) | (rw [show p0 = 112 by omega]; decide) | (rw [show p0 = 98 by omega]; decide) | (rw [show p0 = 104 by omega]; decide) | (rw [show p0 = 105 by omega]; decide) | (rw [show p0 = 114 by omega]; decide) | (rw [show p0 = 115 by omega]; decide) | (rw [show p0 = 110 by omega]; decide) | (rw [show p0 = 111 by omega]; decide) | (rw [show p0 = 116 by omega]; decide) | (rw [show p0 = 101 by omega]; decide) | (rw [show p0 = 100 by omega]; decide) | (rw [show p0 = 121 by omega]; decide) | (rw [show p0 = 109 by omega]; decide) | exact (letN_none (by omega)).symm)⟩⟩
  ·
    refine GO.tableAt (n := 100) (tgt := 143) dX12_letterNumber_1 (ir_c rfl) c2 (by decide) (by decide) rfl (by decide) ?_
    refine GO.bipush dX12_letterNumber_143 rfl ?_
    exact GO.reti rfl rfl dX12_letterNumber_145 ⟨rfl, rfl, _, rfl, (ir_c rfl), ⟨(by first | exact trivial | omega), (by first | (rw [show p0 = 97 by omega]; decide) | (rw [show p0 = 112 by omega]; decide) | (rw [show p0 = 98 by omega]; decide) | (rw [show p0 = 104 by omega]; decide) | (rw [show p0 = 105 by omega]; decide) | (rw [show p0 = 114 by omega]; decide) | (rw [show p0 = 115 by omega]; decide) | (rw [show p0 = 110 by omega]; decide) | (rw [show p0 = 111 by omega]; decide) | (rw [show p0 = 116 by omega]; decide) | (rw [show p0 = 101 by omega]; decide) | (rw [show p0 = 100 by omega]; decide) | (rw [show p0 = 121 by omega]; decide) | (rw [show p0 = 109 by omega]; decide) | exact (letN_none (by omega)).symm)⟩⟩
  ·
    refine GO.tableAt (n := 101) (tgt := 140) dX12_letterNumber_1 (ir_c rfl) c2 (by decide) (by decide) rfl (by decide) ?_
    refine GO.bipush dX12_letterNumber_140 rfl ?_
    exact GO.reti rfl rfl dX12_letterNumber_142 ⟨rfl, rfl, _, rfl, (ir_c rfl), ⟨(by first | exact trivial | omega), (by first | (rw [show p0 = 97 by omega]; decide) | (rw [show p0 = 112 by omega]; decide) | (rw [show p0 = 98 by omega]; decide) | (rw [show p0 = 104 by omega]; decide) | (rw [show p0 = 105 by omega]; decide) | (rw [show p0 = 114 by omega]; decide) | (rw [show p0 = 115 by omega]; decide) | (rw [show p0 = 110 by omega]; decide) | (rw [show p0 = 111 by omega]; decide) | (rw [show p0 = 116 by omega]; decide) | (rw [show p0 = 101 by omega]; decide) | (rw [show p0 = 100 by omega]; decide) | (rw [show p0 = 121 by omega]; decide) | (rw [show p0 = 109 by omega]; decide) | exact (letN_none (by omega)).symm)⟩⟩
  ·
    refine GO.tableAt (n := 102) (tgt := 152) dX12_letterNumber_1 (ir_c rfl) c2 (by decide) (by decide) rfl (by decide) ?_
    refine GO.iconst dX12_letterNumber_152 ?_
    exact GO.reti rfl rfl dX12_letterNumber_153 ⟨rfl, rfl, _, rfl, (ir_c rfl), ⟨(by first | exact trivial | omega), (by first | (rw [show p0 = 97 by omega]; decide) | (rw [show p0 = 112 by omega]; decide) | (rw [show p0 = 98 by omega]; decide) | (rw [show p0 = 104 by omega]; decide) | (rw [show p0 = 105 by omega]; decide) | (rw [show p0 = 114 by omega]; decide) | (rw [show p0 = 115 by omega]; decide) | (rw [show p0 = 110 by omega]; decide) | (rw [show p0 = 111 by omega]; decide) | (rw [show p0 = 116 by omega]; decide) | (rw [show p0 = 101 by omega]; decide) | (rw [show p0 = 100 by omega]; decide) | (rw [show p0 = 121 by omega]; decide) | (rw [show p0 = 109 by omega]; decide) | exact (letN_none (by omega)).symm)⟩⟩
  ·
    refine GO.tableAt (n := 103) (tgt := 152) dX12_letterNumber_1 (ir_c rfl) c2 (by decide) (by decide) rfl (by decide) ?_
    refine GO.iconst dX12_letterNumber_152 ?_
    exact GO.reti rfl rfl dX12_letterNumber_153 ⟨rfl, rfl, _, rfl, (ir_c rfl), ⟨(by first | exact trivial | omega), (by first | (rw [show p0 = 97 by omega]; decide) | (rw [show p0 = 112 by omega]; decide) | (rw [show p0 = 98 by omega]; decide) | (rw [show p0 = 104 by omega]; decide) | (rw [show p0 = 105 by omega]; decide) | (rw [show p0 = 114 by omega]; decide) | (rw [show p0 = 115 by omega]; decide) | (rw [show p0 = 110 by omega]; decide) | (rw [show p0 = 111 by omega]; decide) | (rw [show p0 = 116 by omega]; decide) | (rw [show p0 = 101 by omega]; decide) | (rw [show p0 = 100 by omega]; decide) | (rw [show p0 = 121 by omega]; decide) | (rw [show p0 = 109 by omega]; decide) | exact (letN_none (by omega)).symm)⟩⟩
  ·
    refine GO.tableAt (n := 104) (tgt := 122) dX12_letterNumber_1 (ir_c rfl) c2 (by decide) (by decide) rfl (by decide) ?_
    refine GO.iconst dX12_letterNumber_122 ?_
    exact GO.reti rfl rfl dX12_letterNumber_123 ⟨rfl, rfl, _, rfl, (ir_c rfl), ⟨(by first | exact trivial | omega), (by first | (rw [show p0 = 97 by omega]; decide) | (rw [show p0 = 112 by omega]; decide) | (rw [show p0 = 98 by omega]; decide) | (rw [show p0 = 104 by omega]; decide) | (rw [show p0 = 105 by omega]; decide) | (rw [show p0 = 114 by omega]; decide) | (rw [show p0 = 115 by omega]; decide) | (rw [show p0 = 110 by omega]; decide) | (rw [show p0 = 111 by omega]; decide) | (rw [show p0 = 116 by omega]; decide) | (rw [show p0 = 101 by omega]; decide) | (rw [show p0 = 100 by omega]; decide) | (rw [show p0 = 121 by omega]; decide) | (rw [show p0 = 109 by omega]; decide) | exact (letN_none (by omega)).symm)⟩⟩
  ·
    refine GO.tableAt (n := 105) (tgt := 124) dX12_letterNumber_1 (ir_c rfl) c2 (by decide) (by decide) rfl (by decide) ?_
    refine GO.iconst dX12_letterNumber_124 ?_
    exact GO.reti rfl rfl dX12_letterNumber_125 ⟨rfl, rfl, _, rfl, (ir_c rfl), ⟨(by first | exact trivial | omega), (by first | (rw [show p0 = 97 by omega]; decide) | (rw [show p0 = 112 by omega]; decide) | (rw [show p0 = 98 by omega]; decide) | (rw [show p0 = 104 by omega]; decide) | (rw [show p0 = 105 by omega]; decide) | (rw [show p0 = 114 by omega]; decide) | (rw [show p0 = 115 by omega]; decide) | (rw [show p0 = 110 by omega]; decide) | (rw [show p0 = 111 by omega]; decide) | (rw [show p0 = 116 by omega]; decide) | (rw [show p0 = 101 by omega]; decide) | (rw [show p0 = 100 by omega]; decide) | (rw [show p0 = 121 by omega]; decide) | (rw [show p0 = 109 by omega]; decide) | exact (letN_none (by omega)).symm)⟩⟩
  ·
    refine GO.tableAt (n := 106) (tgt := 152) dX12_letterNumber_1 (ir_c rfl) c2 (by decide) (by decide) rfl (by decide) ?_
    refine GO.iconst dX12_letterNumber_152 ?_
    exact GO.reti rfl rfl dX12_letterNumber_153 ⟨rfl, rfl, _, rfl, (ir_c rfl), ⟨(by first | exact trivial | omega), (by first | (rw [show p0 = 97 by omega]; decide) | (rw [show p0 = 112 by omega]; decide) | (rw [show p0 = 98 by omega]; decide) | (rw [show p0 = 104 by omega]; decide) | (rw [show p0 = 105 by omega]; decide) | (rw [show p0 = 114 by omega]; decide) | (rw [show p0 = 115 by omega]; decide) | (rw [show p0 = 110 by omega]; decide) | (rw [show p0 = 111 by omega]; decide) | (rw [show p0 = 116 by omega]; decide) | (rw [show p0 = 101 by omega]; decide) | (rw [show p0 = 100 by omega]; decide) | (rw [show p0 = 121 by omega]; decide) | (rw [show p0 = 109 by omega]; decide) | exact (letN_none (by omega)).symm)⟩⟩
  ·
    refine GO.tableAt (n := 107) (tgt := 152) dX12_letterNumber_1 (ir_c rfl) c2 (by decide) (by decide) rfl (by decide) ?_
    refine GO.iconst dX12_letterNumber_152 ?_
    exact GO.reti rfl rfl dX12_letterNumber_153 ⟨rfl, rfl, _, rfl, (ir_c rfl), ⟨(by first | exact trivial | omega), (by first | (rw [show p0 = 97 by omega]; decide) | (rw [show p0 = 112 by omega]; decide) | (rw [show p0 = 98 by omega]; decide) | (rw [show p0 = 104 by omega]; decide) | (rw [show p0 = 105 by omega]; decide) | (rw [show p0 = 114 by omega]; decide) | (rw [show p0 = 115 by omega]; decide) | (rw [show p0 = 110 by omega]; decide) | (rw [show p0 = 111 by omega]; decide) | (rw [show p0 = 116 by omega]; decide) | (rw [show p0 = 101 by omega]; decide) | (rw [show p0 = 100 by omega]; decide) | (rw [show p0 = 121 by omega]; decide) | (rw [show p0 = 109 by omega]; decide) | exact (letN_none (by omega)).symm)⟩⟩
  ·
    refine GO.tableAt (n := 108) (tgt := 152) dX12_letterNumber_1 (ir_c rfl) c2 (by decide) (by decide) rfl (by decide) ?_
    refine GO.iconst dX12_letterNumber_152 ?_
    exact GO.reti rfl rfl dX12_letterNumber_153 ⟨rfl, rfl, _, rfl, (ir_c rfl), ⟨(by first | exact trivial | omega), (by first | (rw [show p0 = 97 by omega]; decide) | (rw [show p0 = 112 by omega]; decide) | (rw [show p0 = 98 by omega]; decide) | (rw [show p0 = 104 by omega]; decide) | (rw [show p0 = 105 by omega]; decide) | (rw [show p0 = 114 by omega]; decide) | (rw [show p0 = 115 by omega]; decide) | (rw [show p0 = 110 by omega]; decide) | (rw [show p0 = 111 by omega]; decide) | (rw [show p0 = 116 by omega]; decide) | (rw [show p0 = 101 by omega]; decide) | (rw [show p0 = 100 by omega]; decide) | (rw [show p0 = 121 by omega]; decide) | (rw [show p0 = 109 by omega]; decide) | exact (letN_none (by omega)).symm)⟩⟩
  ·
    refine GO.tableAt (n := 109) (tgt := 149) dX12_letterNumber_1 (ir_c rfl) c2 (by decide) (by decide) rfl (by decide) ?_
    refine GO.bipush dX12_letterNumber_149 rfl ?_
    exact GO.reti rfl rfl dX12_letterNumber_151 ⟨rfl, rfl, _, rfl, (ir_c rfl), ⟨(by first | exact trivial | omega), (by first | (rw [show p0 = 97 by omega]; decide) | (rw [show p0 = 112 by omega]; decide) | (rw [show p0 = 98 by omega]; decide) | (rw [show p0 = 104 by omega]; decide) | (rw [show p0 = 105 by omega]; decide) | (rw [show p0 = 114 by omega]; decide) | (rw [show p0 = 115 by omega]; decide) | (rw [show p0 = 110 by omega]; decide) | (rw [show p0 = 111 by omega]; decide) | (rw [show p0 = 116 by omega]; decide) | (rw [show p0 = 101 by omega]; decide) | (rw [show p0 = 100 by omega]; decide) | (rw [show p0 = 121 by omega]; decide) | (rw [show p0 = 109 by omega]; decide) | exact (letN_none (by omega)).symm)⟩⟩
  ·
    refine GO.tableAt (n := 110) (tgt := 131) dX12_letterNumber_1 (ir_c rfl) c2 (by decide) (by decide) rfl (by decide) ?_
    refine GO.bipush dX12_letterNumber_131 rfl ?_
    exact GO.reti rfl rfl dX12_letterNumber_133 ⟨rfl, rfl, _, rfl, (ir_c rfl), ⟨(by first | exact trivial | omega), (by first | (rw [show p0 = 97 by omega]; decide) | (rw [show p0 = 112 by omega]; decide) | (rw [show p0 = 98 by omega]; decide) | (rw [show p0 = 104 by omega]; decide) | (rw [show p0 = 105 by omega]; decide) | (rw [show p0 = 114 by omega]; decide) | (rw [show p0 = 115 by omega]; decide) | (rw [show p0 = 110 by omega]; decide) | (rw [show p0 = 111 by omega]; decide) | (rw [show p0 = 116 by omega]; decide) | (rw [show p0 = 101 by omega]; decide) | (rw [show p0 = 100 by omega]; decide) | (rw [show p0 = 121 by omega]; decide) | (rw [show p0 = 109 by omega]; decide) | exact (letN_none (by omega)).symm)⟩⟩
  ·
    refine GO.tableAt (n := 111) (tgt := 134) dX12_letterNumber_1 (ir_c rfl) c2 (by decide) (by decide) rfl (by decide) ?_
    refine GO.bipush dX12_letterNumber_134 rfl ?_
    exact GO.reti rfl rfl dX12_letterNumber_136 ⟨rfl, rfl, _, rfl, (ir_c rfl), ⟨(by first | exact trivial | omega), (by first | (rw [show p0 = 97 by omega]; decide) | (rw [show p0 = 112 by omega]; decide) | (rw [show p0 = 98 by omega]; decide) | (rw [show p0 = 104 by omega]; decide) | (rw [show p0 = 105 by omega]; decide) | (rw [show p0 = 114 by omega]; decide) | (rw [show p0 = 115 by omega]; decide) | (rw [show p0 = 110 by omega]; decide) | (rw [show p0 = 111 by omega]; decide) | (rw [show p0 = 116 by omega]; decide) | (rw [show p0 = 101 by omega]; decide) | (rw [show p0 = 100 by omega]; decide) | (rw [show p0 = 121 by omega]; decide) | (rw [show p0 = 109 by omega]; decide) | exact (letN_none (by omega)).symm)⟩⟩
  ·
    refine GO.tableAt (n := 112) (tgt := 118) dX12_letterNumber_1 (ir_c rfl) c2 (by decide) (by decide) rfl (by decide) ?_
    refine GO.iconst dX12_letterNumber_118 ?_
    exact GO.reti rfl rfl dX12_letterNumber_119 ⟨rfl, rfl, _, rfl, (ir_c rfl), ⟨(by first | exact trivial | omega), (by first | (rw [show p0 = 97 by omega]; decide) | (rw [show p0 = 112 by omega]; decide) | (rw [show p0 = 98 by omega]; decide) | (rw [show p0 = 104 by omega]; decide) | (rw [show p0 = 105 by omega]; decide) | (rw [show p0 = 114 by omega]; decide) | (rw [show p0 = 115 by omega]; decide) | (rw [show p0 = 110 by omega]; decide) | (rw [show p0 = 111 by omega]; decide) | (rw [show p0 = 116 by omega]; decide) | (rw [show p0 = 101 by omega]; decide) | (rw [show p0 = 100 by omega]; decide) | (rw [show p0 = 121 by omega]; decide) | (rw [show p0 = 109 by omega]; decide) | exact (letN_none (by omega)).symm)⟩⟩
  ·
    refine GO.tableAt (n := 113) (tgt := 152) dX12_letterNumber_1 (ir_c rfl) c2 (by decide) (by decide) rfl (by decide) ?_
    refine GO.iconst dX12_letterNumber_152 ?_
    exact GO.reti rfl rfl dX12_letterNumber_153 ⟨rfl, rfl, _, rfl, (ir_c rfl), ⟨(by first | exact trivial | omega), (by first | (rw [show p0 = 97 by omega]; decide) | (rw [show p0 = 112 by omega]; decide) | (rw [show p0 = 98 by omega]; decide) | (rw [show p0 = 104 by omega]; decide) | (rw [show p0 = 105 by omega]; decide) | (rw [show p0 = 114 by omega]; decide) | (rw [show p0 = 115 by omega]; decide) | (rw [show p0 = 110 by omega]; decide) | (rw [show p0 = 111 by omega]; decide) | (rw [show p0 = 116 by omega]; decide) | (rw [show p0 = 101 by omega]; decide) | (rw [show p0 = 100 by omega]; decide) | (rw [show p0 = 121 by omega]; decide) | (rw [show p0 = 109 by omega]; decide) | exact (letN_none (by omega)).symm)⟩⟩
  ·
    refine GO.tableAt (n := 114) (tgt := 126) dX12_letterNumber_1 (ir_c rfl) c2 (by decide) (by decide) rfl (by decide) ?_
    refine GO.iconst dX12_letterNumber_126 ?_
    exact GO.reti rfl rfl dX12_letterNumber_127 ⟨rfl, rfl, _, rfl, (ir_c rfl), ⟨(by first | exact trivial | omega), (by first | (rw [show p0 = 97 by omega]; decide) | (rw [show p0 = 112 by omega]; decide) | (rw [show p0 = 98 by omega]; decide) | (rw [show p0 = 104 by omega]; decide) | (rw [show p0 = 105 by omega]; decide) | (rw [show p0 = 114 by omega]; decide) | (rw [show p0 = 115 by omega]; decide) | (rw [show p0 = 110 by omega]; decide) | (rw [show p0 = 111 by omega]; decide) | (rw [show p0 = 116 by omega]; decide) | (rw [show p0 = 101 by omega]; decide) | (rw [show p0 = 100 by omega]; decide) | (rw [show p0 = 121 by omega]; decide) | (rw [show p0 = 109 by omega]; decide) | exact (letN_none (by omega)).symm)⟩⟩
  ·
    refine GO.tableAt (n := 115) (tgt := 128) dX12_letterNumber_1 (ir_c rfl) c2 (by decide) (by decide) rfl (by decide) ?_
    refine GO.bipush dX12_letterNumber_128 rfl ?_
    exact GO.reti rfl rfl dX12_letterNumber_130 ⟨rfl, rfl, _, rfl, (ir_c rfl), ⟨(by first | exact trivial | omega), (by first | (rw [show p0 = 97 by omega]; decide) | (rw [show p0 = 112 by omega]; decide) | (rw [show p0 = 98 by omega]; decide) | (rw [show p0 = 104 by omega]; decide) | (rw [show p0 = 105 by omega]; decide) | (rw [show p0 = 114 by omega]; decide) | (rw [show p0 = 115 by omega]; decide) | (rw [show p0 = 110 by omega]; decide) | (rw [show p0 = 111 by omega]; decide) | (rw [show p0 = 116 by omega]; decide) | (rw [show p0 = 101 by omega]; decide) | (rw [show p0 = 100 by omega]; decide) | (rw [show p0 = 121 by omega]; decide) | (rw [show p0 = 109 by omega]; decide) | exact (letN_none (by omega)).symm)⟩⟩
  ·
    refine GO.tableAt (n := 116) (tgt := 137) dX12_letterNumber_1 (ir_c rfl) c2 (by decide) (by decide) rfl (by decide) ?_
    refine GO.bipush dX12_letterNumber_137 rfl ?_
    exact GO.reti rfl rfl dX12_letterNumber_139 ⟨rfl, rfl, _, rfl, (ir_c rfl), ⟨(by first | exact trivial | omega), (by first | (rw [show p0 = 97 by omega]; decide) | (rw [show p0 = 112 by omega]; decide) | (rw [show p0 = 98 by omega]; decide) | (rw [show p0 = 104 by omega]; decide) | (rw [show p0 = 105 by omega]; decide) | (rw [show p0 = 114 by omega]; decide) | (rw [show p0 = 115 by omega]; decide) | (rw [show p0 = 110 by omega]; decide) | (rw [show p0 = 111 by omega]; decide) | (rw [show p0 = 116 by omega]; decide) | (rw [show p0 = 101 by omega]; decide) | (rw [show p0 = 100 by omega]; decide) | (rw [show p0 = 121 by omega]; decide) | (rw [show p0 = 109 by omega]; decide) | exact (letN_none (by omega)).symm)⟩⟩
  ·
    refine GO.tableAt (n := 117) (tgt := 152) dX12_letterNumber_1 (ir_c rfl) c2 (by decide) (by decide) rfl (by decide) ?_
    refine GO.iconst dX12_letterNumber_152 ?_
    exact GO.reti rfl rfl dX12_letterNumber_153 ⟨rfl, rfl, _, rfl, (ir_c rfl), ⟨(by first | exact trivial | omega), (by first | (rw [show p0 = 97 by omega]; decide) | (rw [show p0 = 112 by omega]; decide) | (rw [show p0 = 98 by omega]; decide) | (rw [show p0 = 104 by omega]; decide) | (rw [show p0 = 105 by omega]; decide) | (rw [show p0 = 114 by omega]; decide) | (rw [show p0 = 115 by omega]; decide) | (rw [show p0 = 110 by omega]; decide) | (rw [show p0 = 111 by omega]; decide) | (rw [show p0 = 116 by omega]; decide) | (rw [show p0 = 101 by omega]; decide) | (rw [show p0 = 100 by omega]; decide) | (rw [show p0 = 121 by omega]; decide) | (rw [show p0 = 109 by omega]; decide) | exact (letN_none (by omega)).symm)⟩⟩
  ·
    refine GO.tableAt (n := 118) (tgt := 152) dX12_letterNumber_1 (ir_c rfl) c2 (by decide) (by decide) rfl (by decide) ?_
    refine GO.iconst dX12_letterNumber_152 ?_
    exact GO.reti rfl rfl dX12_letterNumber_153 ⟨rfl, rfl, _, rfl, (ir_c rfl), ⟨(by first | exact trivial | omega), (by first | (rw [show p0 = 97 by omega]; decide) | (rw [show p0 = 112 by omega]; decide) | (rw [show p0 = 98 by omega]; decide) | (rw [show p0 = 104 by omega]; decide) | (rw [show p0 = 105 by omega]; decide) | (rw [show p0 = 114 by omega]; decide) | (rw [show p0 = 115 by omega]; decide) | (rw [show p0 = 110 by omega]; decide) | (rw [show p0 = 111 by omega]; decide) | (rw [show p0 = 116 by omega]; decide) | (rw [show p0 = 101 by omega]; decide) | (rw [show p0 = 100 by omega]; decide) | (rw [show p0 = 121 by omega]; decide) | (rw [show p0 = 109 by omega]; decide) | exact (letN_none (by omega)).symm)⟩⟩
  ·
    refine GO.tableAt (n := 119) (tgt := 152) dX12_letterNumber_1 (ir_c rfl) c2 (by decide) (by decide) rfl (by decide) ?_
    refine GO.iconst dX12_letterNumber_152 ?_
    exact GO.reti rfl rfl dX12_letterNumber_153 ⟨rfl, rfl, _, rfl, (ir_c rfl), ⟨(by first | exact trivial | omega), (by first | (rw [show p0 = 97 by omega]; decide) | (rw [show p0 = 112 by omega]; decide) | (rw [show p0 = 98 by omega]; decide) | (rw [show p0 = 104 by omega]; decide) | (rw [show p0 = 105 by omega]; decide) | (rw [show p0 = 114 by omega]; decide) | (rw [show p0 = 115 by omega]; decide) | (rw [show p0 = 110 by omega]; decide) | (rw [show p0 = 111 by omega]; decide) | (rw [show p0 = 116 by omega]; decide) | (rw [show p0 = 101 by omega]; decide) | (rw [show p0 = 100 by omega]; decide) | (rw [show p0 = 121 by omega]; decide) | (rw [show p0 = 109 by omega]; decide) | exact (letN_none (by omega)).symm)⟩⟩
  ·
    refine GO.tableAt (n := 120) (tgt := 152) dX12_letterNumber_1 (ir_c rfl) c2 (by decide) (by decide) rfl (by decide) ?_
    refine GO.iconst dX12_letterNumber_152 ?_
    exact GO.reti rfl rfl dX12_letterNumber_153 ⟨rfl, rfl, _, rfl, (ir_c rfl), ⟨(by first | exact trivial | omega), (by first | (rw [show p0 = 97 by omega]; decide) | (rw [show p0 = 112 by omega]; decide) | (rw [show p0 = 98 by omega]; decide) | (rw [show p0 = 104 by omega]; decide) | (rw [show p0 = 105 by omega]; decide) | (rw [show p0 = 114 by omega]; decide) | (rw [show p0 = 115 by omega]; decide) | (rw [show p0 = 110 by omega]; decide) | (rw [show p0 = 111 by omega]; decide) | (rw [show p0 = 116 by omega]; decide) | (rw [show p0 = 101 by omega]; decide) | (rw [show p0 = 100 by omega]; decide) | (rw [show p0 = 121 by omega]; decide) | (rw [show p0 = 109 by omega]; decide) | exact (letN_none (by omega)).symm)⟩⟩
  ·
    refine GO.tableAt (n := 121) (tgt := 146) dX12_letterNumber_1 (ir_c rfl) c2 (by decide) (by decide) rfl (by decide) ?_
    refine GO.bipush dX12_letterNumber_146 rfl ?_
    exact GO.reti rfl rfl dX12_letterNumber_148 ⟨rfl, rfl, _, rfl, (ir_c rfl), ⟨(by first | exact trivial | omega), (by first | (rw [show p0 = 97 by omega]; decide) | (rw [show p0 = 112 by omega]; decide) | (rw [show p0 = 98 by omega]; decide) | (rw [show p0 = 104 by omega]; decide) | (rw [show p0 = 105 by omega]; decide) | (rw [show p0 = 114 by omega]; decide) | (rw [show p0 = 115 by omega]; decide) | (rw [show p0 = 110 by omega]; decide) | (rw [show p0 = 111 by omega]; decide) | (rw [show p0 = 116 by omega]; decide) | (rw [show p0 = 101 by omega]; decide) | (rw [show p0 = 100 by omega]; decide) | (rw [show p0 = 121 by omega]; decide) | (rw [show p0 = 109 by omega]; decide) | exact (letN_none (by omega)).symm)⟩⟩
