def mX12_say : MRec := (RX12, cX12_say, 4, (some .boolean), yX12_say, 1, 21, 0, 0, 4479489484355608421114884561136888556243290994469299069799978201927583742360321890761754986543214231552)
def mX12_isConsented : MRec := (RX12, cX12_isConsented, 6, (some .boolean), yX12_isConsented, 1, 22, 0, 0, 0)
def mX12_nearPlaces : MRec := (RX12, cX12_nearPlaces, 6, (some .int), yX12_nearPlaces, 2, 44, 0, 0, 0)
def mX12_othersNear : MRec := (RX12, cX12_othersNear, 5, (some .int), yX12_othersNear, 3, 64, 0, 0, 0)
def mX12_rankAt : MRec := (RX12, cX12_rankAt, 4, (some .int), yX12_rankAt, 2, 44, 0, 0, 0)
def mX12_valueOf : MRec := (RX12, cX12_valueOf, 5, (some .int), yX12_valueOf, 4, 88, 0, 0, 0)
def mX12_reckon : MRec := (RX12, cX12_reckon, 3, (some .int), yX12_reckon, 0, 0, 0, 0, 0)
def mX12_holds : MRec := (RX12, cX12_holds, 11, (some .int), yX12_holds, 5, 112, 0, 0, 8958978968711216842229769122273777112486581988938598139599956403855167484720643781523509973086428463104)
set_option maxHeartbeats 1000000 in
theorem t_X12_say {K : Kmap} {V : Vmap} {x : Nat} {p0 : Int} {p1 : Int} {p2 : Int} (h_x : K x = some (0, 11)) (r_p0 : ir p0) (r_p1 : ir p1) (r_p2 : ir p2) (z_p2 : p2 = 0 ∨ p2 = 1) : MC mX12_say K V [.ref x, ti p0, ti p1, ti p2] (IS K (fun X V1 => (X = 0 ∨ X = 1) ∧ (X ≠ 0 → True) ∧ (X = 0 → True) ∧ (X ≠ 0 ↔ 0 ≤ p0 ∧ p0 < vi V x 9 ∧ 0 ≤ p1 ∧ p1 < vi V x 66))) := by
  refine MC.start 0 (by decide +kernel) rfl rfl rfl (ls0 := [some (.ref x), some (ti p0), some (ti p1), some (ti p2)]) rfl ?_
  refine GO.aload_n dX12_say_0 rfl rfl ?_
  refine GO.iload_n dX12_say_1 rfl rfl ?_
  refine GO.callV (ci := 11) (N := mX12_isParty) dX12_say_2 (RX12, TX12, 151) rfl gV_RX12_406 h_x (t_X12_isParty h_x r_p0) rfl [] rfl rfl (Nat.le_of_ble_eq_true rfl) rfl (k_ip fun X1 r2 h3 => ?_)
  refine GO.if_eq (tgt := 16) dX12_say_5 (by decide) r2 (fun c4 => ?_) (fun c4 => ?_)
  ·
    have q5 := h3.2.2 (by omega)
    refine GO.iconst dX12_say_16 ?_
    exact GO.retz rfl rfl dX12_say_17 (Or.inl rfl) ⟨rfl, _, rfl, (ir_c rfl), ⟨Or.inl rfl, fun _ => trivial, fun _ => trivial, (by first | exact ⟨fun g => absurd rfl g, fun g => by omega⟩ | exact ⟨fun _ => by omega, fun _ => by omega⟩)⟩⟩
  ·
    have q6 := h3.2.1 (by omega)
    refine GO.aload_n dX12_say_8 rfl rfl ?_
    refine GO.iload_n dX12_say_9 rfl rfl ?_
    refine GO.callV (ci := 11) (N := mX12_isWork) dX12_say_10 (RX12, TX12, 151) rfl gV_RX12_566 h_x (t_X12_isWork h_x r_p1) rfl [] rfl rfl (Nat.le_of_ble_eq_true rfl) rfl (k_ip fun X7 r8 h9 => ?_)
    refine GO.if_ne (tgt := 18) dX12_say_13 (by decide) r8 (fun c10 => ?_) (fun c10 => ?_)
    ·
      have q11 := h9.2.1 (by omega)
      refine GO.aload_n dX12_say_18 rfl rfl ?_
      refine GO.getA (n := 900) h_x fl_RX12_202 rfl rfl rfl rfl dX12_say_19 (fun hv13 h12 => ?_)
      refine GO.bipush dX12_say_22 rfl ?_
      refine GO.iload_n dX12_say_24 rfl rfl ?_
      refine GO.imul dX12_say_25 ?_
      refine GO.iload_n dX12_say_26 rfl rfl ?_
      refine GO.iadd dX12_say_27 ?_
      refine GO.iload_n dX12_say_28 rfl rfl ?_
      refine GO.if_eq (tgt := 36) dX12_say_29 (by decide) r_p2 (fun c14 => ?_) (fun c14 => ?_)
      ·
        refine GO.iconst dX12_say_36 ?_
        have q15 : -2147483648 ≤ p0 ∧ p0 ≤ 2147483647 := r_p0
        have q16 : -2147483648 ≤ vi V x 9 ∧ vi V x 9 ≤ 2147483647 := vi_ir
        have q17 : -2147483648 ≤ p1 ∧ p1 ≤ 2147483647 := r_p1
        have q18 : -2147483648 ≤ vi V x 66 ∧ vi V x 66 ≤ 2147483647 := vi_ir
        refine GO.iast (t := 70) rfl rfl (by decide +kernel) h12 ⟨by omega, by omega⟩ (by omega) (by omega) (ir_c rfl) (by decide) (by decide) dX12_say_37 (fun V20 e19 => ?_)
        refine GO.iconst dX12_say_38 ?_
        exact GO.retz rfl rfl dX12_say_39 (Or.inr rfl) ⟨rfl, _, rfl, (ir_c rfl), ⟨Or.inr rfl, fun _ => trivial, fun _ => trivial, (by first | exact ⟨fun g => absurd rfl g, fun g => by omega⟩ | exact ⟨fun _ => by omega, fun _ => by omega⟩)⟩⟩
      ·
        refine GO.iconst dX12_say_32 ?_
        refine GO.goto (tgt := 37) dX12_say_33 (by decide) ?_
        have q21 : -2147483648 ≤ p0 ∧ p0 ≤ 2147483647 := r_p0
        have q22 : -2147483648 ≤ vi V x 9 ∧ vi V x 9 ≤ 2147483647 := vi_ir
        have q23 : -2147483648 ≤ p1 ∧ p1 ≤ 2147483647 := r_p1
        have q24 : -2147483648 ≤ vi V x 66 ∧ vi V x 66 ≤ 2147483647 := vi_ir
        refine GO.iast (t := 70) rfl rfl (by decide +kernel) h12 ⟨by omega, by omega⟩ (by omega) (by omega) (ir_c rfl) (by decide) (by decide) dX12_say_37 (fun V26 e25 => ?_)
        refine GO.iconst dX12_say_38 ?_
        exact GO.retz rfl rfl dX12_say_39 (Or.inr rfl) ⟨rfl, _, rfl, (ir_c rfl), ⟨Or.inr rfl, fun _ => trivial, fun _ => trivial, (by first | exact ⟨fun g => absurd rfl g, fun g => by omega⟩ | exact ⟨fun _ => by omega, fun _ => by omega⟩)⟩⟩
    ·
      have q27 := h9.2.2 (by omega)
      refine GO.iconst dX12_say_16 ?_
      exact GO.retz rfl rfl dX12_say_17 (Or.inl rfl) ⟨rfl, _, rfl, (ir_c rfl), ⟨Or.inl rfl, fun _ => trivial, fun _ => trivial, (by first | exact ⟨fun g => absurd rfl g, fun g => by omega⟩ | exact ⟨fun _ => by omega, fun _ => by omega⟩)⟩⟩

set_option maxHeartbeats 1000000 in
theorem t_X12_isConsented {K : Kmap} {V : Vmap} {x : Nat} {p0 : Int} {p1 : Int} (h_x : K x = some (0, 11)) (r_p0 : ir p0) (r_p1 : ir p1) (q_0 : p0 ≥ 0) (q_1 : p0 ≤ 99) : MC mX12_isConsented K V [.ref x, ti p0, ti p1] (IP K V (fun X => (X = 0 ∨ X = 1) ∧ (X ≠ 0 → True) ∧ (X = 0 → True))) := by
  refine MC.start 3 (by decide +kernel) rfl rfl rfl (ls0 := [some (.ref x), some (ti p0), some (ti p1), none, none, none]) rfl ?_
  refine GO.iconst dX12_isConsented_0 ?_
  refine GO.istore_n (ls1 := [some (.ref x), some (ti p0), some (ti p1), some (ti 0), none, none]) dX12_isConsented_1 rfl rfl rfl ?_
  refine GO.iconst dX12_isConsented_2 ?_
  refine GO.istore (ls1 := [some (.ref x), some (ti p0), some (ti p1), some (ti 0), some (ti 0), none]) dX12_isConsented_3 rfl rfl ?_
  refine GO.iconst dX12_isConsented_5 ?_
  refine GO.istore (ls1 := [some (.ref x), some (ti p0), some (ti p1), some (ti 0), some (ti 0), some (ti 0)]) dX12_isConsented_6 rfl rfl ?_
  refine GO.loop3 (fun i1 i2 i3 W => (-2147483648) ≤ i1 ∧ i1 ≤ 2147483647 ∧ (-2147483648) ≤ i2 ∧ i2 ≤ 2147483647 ∧ 0 ≤ i3 ∧ i3 ≤ 9 ∧ V = W) (fun i1 i2 i3 => [some (.ref x), some (ti p0), some (ti p1), some (ti i1), some (ti i2), some (ti i3)]) (fun i1 i2 i3 W => (2147483647 - i3).toNat) 0 0 0 ⟨by omega, by omega, by omega, by omega, by omega, by omega, rfl⟩ rfl (fun i1 i2 i3 V1309 hp1311 ih1310 => ?_)
  obtain ⟨l_i1, u_i1, l_i2, u_i2, l_i3, u_i3, rfl⟩ := hp1311
  have r_i1 : ir i1 := ⟨by omega, by omega⟩
  have r_i2 : ir i2 := ⟨by omega, by omega⟩
  have r_i3 : ir i3 := ⟨by omega, by omega⟩
  show GO mX12_isConsented K V (IP K V (fun X => (X = 0 ∨ X = 1) ∧ (X ≠ 0 → True) ∧ (X = 0 → True))) K V 0 0 8 [some (.ref x), some (ti p0), some (ti p1), some (ti i1), some (ti i2), some (ti i3)] []
  refine GO.iload dX12_isConsented_8 rfl ?_
  refine GO.aload_n dX12_isConsented_10 rfl rfl ?_
  refine GO.getI h_x fl_RX12_393 rfl rfl dX12_isConsented_11 (fun l1312 u1313 => ?_)
  refine GO.icmp_ge (tgt := 84) dX12_isConsented_14 (by decide) r_i3 vi_ir (fun c1314 => ?_) (fun c1314 => ?_)
  ·
    refine GO.iconst dX12_isConsented_84 ?_
    refine GO.iload dX12_isConsented_85 rfl ?_
    refine GO.imul dX12_isConsented_87 ?_
    refine GO.norm (fun z1315 r1316 hn1317 => ?_)
    refine GO.iload_n dX12_isConsented_88 rfl rfl ?_
    refine GO.icmp_le (tgt := 96) dX12_isConsented_89 (by decide) r1316 r_i1 (fun c1318 => ?_) (fun c1318 => ?_)
    ·
      refine GO.iconst dX12_isConsented_96 ?_
      exact GO.retz rfl rfl dX12_isConsented_97 (Or.inl rfl) ⟨rfl, rfl, _, rfl, (ir_c rfl), ⟨Or.inl rfl, fun _ => trivial, fun _ => trivial⟩⟩
    ·
      refine GO.iconst dX12_isConsented_92 ?_
      refine GO.goto (tgt := 97) dX12_isConsented_93 (by decide) ?_
      exact GO.retz rfl rfl dX12_isConsented_97 (Or.inr rfl) ⟨rfl, rfl, _, rfl, (ir_c rfl), ⟨Or.inr rfl, fun _ => trivial, fun _ => trivial⟩⟩
  ·
    refine GO.aload_n dX12_isConsented_17 rfl rfl ?_
    refine GO.iload dX12_isConsented_18 rfl ?_
    refine GO.iload_n dX12_isConsented_20 rfl rfl ?_
    refine GO.callV (ci := 11) (N := mX12_decidesOn) dX12_isConsented_21 (RX12, TX12, 151) rfl gV_RX12_412 h_x (t_X12_decidesOn h_x r_i3 r_p1 (by omega) (by omega)) rfl [] rfl rfl (Nat.le_of_ble_eq_true rfl) rfl (k_ip fun X1319 r1320 h1321 => ?_)
    refine GO.if_ne (tgt := 30) dX12_isConsented_24 (by decide) r1320 (fun c1322 => ?_) (fun c1322 => ?_)
    ·
      refine GO.aload_n dX12_isConsented_30 rfl rfl ?_
      refine GO.getA (n := 900) h_x fl_RX12_202 rfl rfl rfl rfl dX12_isConsented_31 (fun hv1324 h1323 => ?_)
      refine GO.bipush dX12_isConsented_34 rfl ?_
      refine GO.iload_n dX12_isConsented_36 rfl rfl ?_
      refine GO.imul dX12_isConsented_37 ?_
      refine GO.iload dX12_isConsented_38 rfl ?_
      refine GO.iadd dX12_isConsented_40 ?_
      have q1325 : -2147483648 ≤ p0 ∧ p0 ≤ 2147483647 := r_p0
      refine GO.iald (t := 70) rfl rfl h1323 ⟨by omega, by omega⟩ (by omega) (by omega) dX12_isConsented_41 (fun _ _ => ?_)
      refine GO.iconst dX12_isConsented_42 ?_
      refine GO.icmp_ne (tgt := 48) dX12_isConsented_43 (by decide) vi_ir (ir_c rfl) (fun c1326 => ?_) (fun c1326 => ?_)
      ·
        refine GO.iload_n dX12_isConsented_48 rfl rfl ?_
        refine GO.iconst dX12_isConsented_49 ?_
        refine GO.iadd dX12_isConsented_50 ?_
        refine GO.norm (fun z1327 r1328 hn1329 => ?_)
        refine GO.istore_n (ls1 := [some (.ref x), some (ti p0), some (ti p1), some (ti z1327), some (ti i2), some (ti i3)]) dX12_isConsented_51 rfl rfl rfl ?_
        refine GO.iload dX12_isConsented_52 rfl ?_
        refine GO.aload_n dX12_isConsented_54 rfl rfl ?_
        refine GO.getRaw h_x fl_RX12_202 hv1324 dX12_isConsented_55 ?_
        refine GO.bipush dX12_isConsented_58 rfl ?_
        refine GO.iload_n dX12_isConsented_60 rfl rfl ?_
        refine GO.imul dX12_isConsented_61 ?_
        refine GO.iload dX12_isConsented_62 rfl ?_
        refine GO.iadd dX12_isConsented_64 ?_
        refine GO.iald (t := 70) rfl rfl h1323 ⟨by omega, by omega⟩ (by omega) (by omega) dX12_isConsented_65 (fun _ _ => ?_)
        refine GO.iconst dX12_isConsented_66 ?_
        refine GO.icmp_ne (tgt := 74) dX12_isConsented_67 (by decide) vi_ir (ir_c rfl) (fun c1332 => ?_) (fun c1332 => ?_)
        ·
          refine GO.iconst dX12_isConsented_74 ?_
          refine GO.iadd dX12_isConsented_75 ?_
          refine GO.name (fun z1333 hz1334 => ?_)
          refine GO.istore (ls1 := [some (.ref x), some (ti p0), some (ti p1), some (ti z1327), some (ti z1333), some (ti i3)]) dX12_isConsented_76 rfl rfl ?_
          refine GO.iinc (X := i3) (n := 1) (Y := i3 + 1) (ls1 := [some (.ref x), some (ti p0), some (ti p1), some (ti z1327), some (ti z1333), some (ti (i3 + 1))]) dX12_isConsented_78 rfl rfl rfl rfl ?_
          refine GO.goto (tgt := 8) dX12_isConsented_81 (by decide) ?_
          have q1335 : -2147483648 ≤ z1327 ∧ z1327 ≤ 2147483647 := r1328
          exact ih1310 z1327 z1333 (i3 + 1) V ⟨by omega, by omega, by omega, by omega, by omega, by omega, rfl⟩ (by show (2147483647 - (i3 + 1)).toNat < (2147483647 - i3).toNat; omega)
        ·
          refine GO.iconst dX12_isConsented_70 ?_
          refine GO.goto (tgt := 75) dX12_isConsented_71 (by decide) ?_
          refine GO.iadd dX12_isConsented_75 ?_
          refine GO.norm (fun z1336 r1337 hn1338 => ?_)
          refine GO.istore (ls1 := [some (.ref x), some (ti p0), some (ti p1), some (ti z1327), some (ti z1336), some (ti i3)]) dX12_isConsented_76 rfl rfl ?_
          refine GO.iinc (X := i3) (n := 1) (Y := i3 + 1) (ls1 := [some (.ref x), some (ti p0), some (ti p1), some (ti z1327), some (ti z1336), some (ti (i3 + 1))]) dX12_isConsented_78 rfl rfl rfl rfl ?_
          refine GO.goto (tgt := 8) dX12_isConsented_81 (by decide) ?_
          have q1339 : -2147483648 ≤ z1336 ∧ z1336 ≤ 2147483647 := r1337
          have q1340 : -2147483648 ≤ z1327 ∧ z1327 ≤ 2147483647 := r1328
          exact ih1310 z1327 z1336 (i3 + 1) V ⟨by omega, by omega, by omega, by omega, by omega, by omega, rfl⟩ (by show (2147483647 - (i3 + 1)).toNat < (2147483647 - i3).toNat; omega)
      ·
        refine GO.iconst dX12_isConsented_46 ?_
        exact GO.retz rfl rfl dX12_isConsented_47 (Or.inl rfl) ⟨rfl, rfl, _, rfl, (ir_c rfl), ⟨Or.inl rfl, fun _ => trivial, fun _ => trivial⟩⟩
    ·
      refine GO.goto (tgt := 78) dX12_isConsented_27 (by decide) ?_
      refine GO.iinc (X := i3) (n := 1) (Y := i3 + 1) (ls1 := [some (.ref x), some (ti p0), some (ti p1), some (ti i1), some (ti i2), some (ti (i3 + 1))]) dX12_isConsented_78 rfl rfl rfl rfl ?_
      refine GO.goto (tgt := 8) dX12_isConsented_81 (by decide) ?_
      exact ih1310 i1 i2 (i3 + 1) V ⟨by omega, by omega, by omega, by omega, by omega, by omega, rfl⟩ (by show (2147483647 - (i3 + 1)).toNat < (2147483647 - i3).toNat; omega)

set_option maxHeartbeats 1000000 in
theorem t_X12_nearPlaces {K : Kmap} {V : Vmap} {x : Nat} {p0 : Int} {p1 : Int} {p2 : Int} (h_x : K x = some (0, 11)) (r_p0 : ir p0) (r_p1 : ir p1) (r_p2 : ir p2) (q_0 : p1 ≥ 0) (q_1 : p1 ≤ 143) : MC mX12_nearPlaces K V [.ref x, ti p0, ti p1, ti p2] (IP K V (fun X => True)) := by
  refine MC.start 2 (by decide +kernel) rfl rfl rfl (ls0 := [some (.ref x), some (ti p0), some (ti p1), some (ti p2), none, none]) rfl ?_
  refine GO.iconst dX12_nearPlaces_0 ?_
  refine GO.istore (ls1 := [some (.ref x), some (ti p0), some (ti p1), some (ti p2), some (ti 0), none]) dX12_nearPlaces_1 rfl rfl ?_
  refine GO.iconst dX12_nearPlaces_3 ?_
  refine GO.istore (ls1 := [some (.ref x), some (ti p0), some (ti p1), some (ti p2), some (ti 0), some (ti 0)]) dX12_nearPlaces_4 rfl rfl ?_
  refine GO.loop2 (fun i1 i2 W => (-2147483648) ≤ i1 ∧ i1 ≤ 2147483647 ∧ 0 ≤ i2 ∧ i2 ≤ 60 ∧ V = W) (fun i1 i2 => [some (.ref x), some (ti p0), some (ti p1), some (ti p2), some (ti i1), some (ti i2)]) (fun i1 i2 W => (2147483647 - i2).toNat) 0 0 ⟨by omega, by omega, by omega, by omega, rfl⟩ rfl (fun i1 i2 V745 hp747 ih746 => ?_)
  obtain ⟨l_i1, u_i1, l_i2, u_i2, rfl⟩ := hp747
  have r_i1 : ir i1 := ⟨by omega, by omega⟩
  have r_i2 : ir i2 := ⟨by omega, by omega⟩
  show GO mX12_nearPlaces K V (IP K V (fun X => True)) K V 0 0 6 [some (.ref x), some (ti p0), some (ti p1), some (ti p2), some (ti i1), some (ti i2)] []
  refine GO.iload dX12_nearPlaces_6 rfl ?_
  refine GO.aload_n dX12_nearPlaces_8 rfl rfl ?_
  refine GO.getI h_x fl_RX12_375 rfl rfl dX12_nearPlaces_9 (fun l748 u749 => ?_)
  refine GO.icmp_ge (tgt := 58) dX12_nearPlaces_12 (by decide) r_i2 vi_ir (fun c750 => ?_) (fun c750 => ?_)
  ·
    refine GO.iload dX12_nearPlaces_58 rfl ?_
    exact GO.reti rfl rfl dX12_nearPlaces_60 ⟨rfl, rfl, _, rfl, r_i1, trivial⟩
  ·
    refine GO.iload dX12_nearPlaces_15 rfl ?_
    refine GO.aload_n dX12_nearPlaces_17 rfl rfl ?_
    refine GO.getA (n := 60) h_x fl_RX12_35 rfl rfl rfl rfl dX12_nearPlaces_18 (fun hv752 h751 => ?_)
    refine GO.iload dX12_nearPlaces_21 rfl ?_
    refine GO.iald (t := 15) rfl rfl h751 r_i2 (by omega) (by omega) dX12_nearPlaces_23 (fun l753 u754 => ?_)
    refine GO.iload_n dX12_nearPlaces_24 rfl rfl ?_
    refine GO.icmp_ne (tgt := 48) dX12_nearPlaces_25 (by decide) vi_ir r_p0 (fun c755 => ?_) (fun c755 => ?_)
    ·
      refine GO.iconst dX12_nearPlaces_48 ?_
      refine GO.iadd dX12_nearPlaces_49 ?_
      refine GO.name (fun z756 hz757 => ?_)
      refine GO.istore (ls1 := [some (.ref x), some (ti p0), some (ti p1), some (ti p2), some (ti z756), some (ti i2)]) dX12_nearPlaces_50 rfl rfl ?_
      refine GO.iinc (X := i2) (n := 1) (Y := i2 + 1) (ls1 := [some (.ref x), some (ti p0), some (ti p1), some (ti p2), some (ti z756), some (ti (i2 + 1))]) dX12_nearPlaces_52 rfl rfl rfl rfl ?_
      refine GO.goto (tgt := 6) dX12_nearPlaces_55 (by decide) ?_
      exact ih746 z756 (i2 + 1) V ⟨by omega, by omega, by omega, by omega, rfl⟩ (by show (2147483647 - (i2 + 1)).toNat < (2147483647 - i2).toNat; omega)
    ·
      refine GO.aload_n dX12_nearPlaces_28 rfl rfl ?_
      refine GO.aload_n dX12_nearPlaces_29 rfl rfl ?_
      refine GO.getA (n := 60) h_x fl_RX12_41 rfl rfl rfl rfl dX12_nearPlaces_30 (fun hv759 h758 => ?_)
      refine GO.iload dX12_nearPlaces_33 rfl ?_
      refine GO.iald (t := 17) rfl rfl h758 r_i2 (by omega) (by omega) dX12_nearPlaces_35 (fun l760 u761 => ?_)
      refine GO.iload_n dX12_nearPlaces_36 rfl rfl ?_
      have q762 : -2147483648 ≤ p1 ∧ p1 ≤ 2147483647 := r_p1
      refine GO.callV (ci := 11) (N := mX12_far) dX12_nearPlaces_37 (RX12, TX12, 151) rfl gV_RX12_389 h_x (t_X12_far h_x vi_ir r_p1 (by omega) (by omega) (by omega) (by omega)) rfl [ti i1] rfl rfl (Nat.le_of_ble_eq_true rfl) rfl (k_ip fun X763 r764 h765 => ?_)
      refine GO.iload_n dX12_nearPlaces_40 rfl rfl ?_
      refine GO.icmp_gt (tgt := 48) dX12_nearPlaces_41 (by decide) r764 r_p2 (fun c766 => ?_) (fun c766 => ?_)
      ·
        refine GO.iconst dX12_nearPlaces_48 ?_
        refine GO.iadd dX12_nearPlaces_49 ?_
        refine GO.name (fun z767 hz768 => ?_)
        refine GO.istore (ls1 := [some (.ref x), some (ti p0), some (ti p1), some (ti p2), some (ti z767), some (ti i2)]) dX12_nearPlaces_50 rfl rfl ?_
        refine GO.iinc (X := i2) (n := 1) (Y := i2 + 1) (ls1 := [some (.ref x), some (ti p0), some (ti p1), some (ti p2), some (ti z767), some (ti (i2 + 1))]) dX12_nearPlaces_52 rfl rfl rfl rfl ?_
        refine GO.goto (tgt := 6) dX12_nearPlaces_55 (by decide) ?_
        exact ih746 z767 (i2 + 1) V ⟨by omega, by omega, by omega, by omega, rfl⟩ (by show (2147483647 - (i2 + 1)).toNat < (2147483647 - i2).toNat; omega)
      ·
        refine GO.iconst dX12_nearPlaces_44 ?_
        refine GO.goto (tgt := 49) dX12_nearPlaces_45 (by decide) ?_
        refine GO.iadd dX12_nearPlaces_49 ?_
        refine GO.norm (fun z769 r770 hn771 => ?_)
        refine GO.istore (ls1 := [some (.ref x), some (ti p0), some (ti p1), some (ti p2), some (ti z769), some (ti i2)]) dX12_nearPlaces_50 rfl rfl ?_
        refine GO.iinc (X := i2) (n := 1) (Y := i2 + 1) (ls1 := [some (.ref x), some (ti p0), some (ti p1), some (ti p2), some (ti z769), some (ti (i2 + 1))]) dX12_nearPlaces_52 rfl rfl rfl rfl ?_
        refine GO.goto (tgt := 6) dX12_nearPlaces_55 (by decide) ?_
        have q772 : -2147483648 ≤ z769 ∧ z769 ≤ 2147483647 := r770
        exact ih746 z769 (i2 + 1) V ⟨by omega, by omega, by omega, by omega, rfl⟩ (by show (2147483647 - (i2 + 1)).toNat < (2147483647 - i2).toNat; omega)

set_option maxHeartbeats 1000000 in
theorem t_X12_othersNear {K : Kmap} {V : Vmap} {x : Nat} {p0 : Int} {p1 : Int} (h_x : K x = some (0, 11)) (r_p0 : ir p0) (r_p1 : ir p1) (q_0 : p1 ≥ 0) (q_1 : p1 ≤ 143) : MC mX12_othersNear K V [.ref x, ti p0, ti p1] (IP K V (fun X => True)) := by
  refine MC.start 2 (by decide +kernel) rfl rfl rfl (ls0 := [some (.ref x), some (ti p0), some (ti p1), none, none]) rfl ?_
  refine GO.iconst dX12_othersNear_0 ?_
  refine GO.istore_n (ls1 := [some (.ref x), some (ti p0), some (ti p1), some (ti 0), none]) dX12_othersNear_1 rfl rfl rfl ?_
  refine GO.iconst dX12_othersNear_2 ?_
  refine GO.istore (ls1 := [some (.ref x), some (ti p0), some (ti p1), some (ti 0), some (ti 0)]) dX12_othersNear_3 rfl rfl ?_
  refine GO.loop2 (fun i1 i2 W => (-2147483648) ≤ i1 ∧ i1 ≤ 2147483647 ∧ 0 ≤ i2 ∧ i2 ≤ 60 ∧ V = W) (fun i1 i2 => [some (.ref x), some (ti p0), some (ti p1), some (ti i1), some (ti i2)]) (fun i1 i2 W => (2147483647 - i2).toNat) 0 0 ⟨by omega, by omega, by omega, by omega, rfl⟩ rfl (fun i1 i2 V969 hp971 ih970 => ?_)
  obtain ⟨l_i1, u_i1, l_i2, u_i2, rfl⟩ := hp971
  have r_i1 : ir i1 := ⟨by omega, by omega⟩
  have r_i2 : ir i2 := ⟨by omega, by omega⟩
  show GO mX12_othersNear K V (IP K V (fun X => True)) K V 0 0 5 [some (.ref x), some (ti p0), some (ti p1), some (ti i1), some (ti i2)] []
  refine GO.iload dX12_othersNear_5 rfl ?_
  refine GO.aload_n dX12_othersNear_7 rfl rfl ?_
  refine GO.getI h_x fl_RX12_375 rfl rfl dX12_othersNear_8 (fun l972 u973 => ?_)
  refine GO.icmp_ge (tgt := 64) dX12_othersNear_11 (by decide) r_i2 vi_ir (fun c974 => ?_) (fun c974 => ?_)
  ·
    refine GO.iload_n dX12_othersNear_64 rfl rfl ?_
    exact GO.reti rfl rfl dX12_othersNear_65 ⟨rfl, rfl, _, rfl, r_i1, trivial⟩
  ·
    refine GO.iload_n dX12_othersNear_14 rfl rfl ?_
    refine GO.aload_n dX12_othersNear_15 rfl rfl ?_
    refine GO.iload dX12_othersNear_16 rfl ?_
    refine GO.callV (ci := 11) (N := mX12_stands) dX12_othersNear_18 (RX12, TX12, 151) rfl gV_RX12_433 h_x (t_X12_stands h_x r_i2) rfl [ti i1] rfl rfl (Nat.le_of_ble_eq_true rfl) rfl (k_ip fun X975 r976 h977 => ?_)
    have raw_stands := h977.2.2.2
    have rw18 := h977.2.2.2
    refine GO.if_eq (tgt := 55) dX12_othersNear_21 (by decide) r976 (fun c978 => ?_) (fun c978 => ?_)
    ·
      refine GO.iconst dX12_othersNear_55 ?_
      refine GO.iadd dX12_othersNear_56 ?_
      refine GO.name (fun z979 hz980 => ?_)
      refine GO.istore_n (ls1 := [some (.ref x), some (ti p0), some (ti p1), some (ti z979), some (ti i2)]) dX12_othersNear_57 rfl rfl rfl ?_
      refine GO.iinc (X := i2) (n := 1) (Y := i2 + 1) (ls1 := [some (.ref x), some (ti p0), some (ti p1), some (ti z979), some (ti (i2 + 1))]) dX12_othersNear_58 rfl rfl rfl rfl ?_
      refine GO.goto (tgt := 5) dX12_othersNear_61 (by decide) ?_
      exact ih970 z979 (i2 + 1) V ⟨by omega, by omega, by omega, by omega, rfl⟩ (by show (2147483647 - (i2 + 1)).toNat < (2147483647 - i2).toNat; omega)
    ·
      have q981 := h977.2.1 (by omega)
      refine GO.aload_n dX12_othersNear_24 rfl rfl ?_
      refine GO.getA (n := 60) h_x fl_RX12_38 rfl rfl rfl rfl dX12_othersNear_25 (fun hv983 h982 => ?_)
      refine GO.iload dX12_othersNear_28 rfl ?_
      refine GO.iald (t := 16) rfl rfl h982 r_i2 (by omega) (by omega) dX12_othersNear_30 (fun l984 u985 => ?_)
      refine GO.iload_n dX12_othersNear_31 rfl rfl ?_
      refine GO.icmp_eq (tgt := 55) dX12_othersNear_32 (by decide) vi_ir r_p0 (fun c986 => ?_) (fun c986 => ?_)
      ·
        refine GO.iconst dX12_othersNear_55 ?_
        refine GO.iadd dX12_othersNear_56 ?_
        refine GO.name (fun z987 hz988 => ?_)
        refine GO.istore_n (ls1 := [some (.ref x), some (ti p0), some (ti p1), some (ti z987), some (ti i2)]) dX12_othersNear_57 rfl rfl rfl ?_
        refine GO.iinc (X := i2) (n := 1) (Y := i2 + 1) (ls1 := [some (.ref x), some (ti p0), some (ti p1), some (ti z987), some (ti (i2 + 1))]) dX12_othersNear_58 rfl rfl rfl rfl ?_
        refine GO.goto (tgt := 5) dX12_othersNear_61 (by decide) ?_
        exact ih970 z987 (i2 + 1) V ⟨by omega, by omega, by omega, by omega, rfl⟩ (by show (2147483647 - (i2 + 1)).toNat < (2147483647 - i2).toNat; omega)
      ·
        refine GO.aload_n dX12_othersNear_35 rfl rfl ?_
        refine GO.aload_n dX12_othersNear_36 rfl rfl ?_
        refine GO.getA (n := 60) h_x fl_RX12_41 rfl rfl rfl rfl dX12_othersNear_37 (fun hv990 h989 => ?_)
        refine GO.iload dX12_othersNear_40 rfl ?_
        refine GO.iald (t := 17) rfl rfl h989 r_i2 (by omega) (by omega) dX12_othersNear_42 (fun l991 u992 => ?_)
        refine GO.iload_n dX12_othersNear_43 rfl rfl ?_
        have q993 : -2147483648 ≤ p1 ∧ p1 ≤ 2147483647 := r_p1
        refine GO.callV (ci := 11) (N := mX12_far) dX12_othersNear_44 (RX12, TX12, 151) rfl gV_RX12_389 h_x (t_X12_far h_x vi_ir r_p1 (by omega) (by omega) (by omega) (by omega)) rfl [ti i1] rfl rfl (Nat.le_of_ble_eq_true rfl) rfl (k_ip fun X994 r995 h996 => ?_)
        refine GO.iconst dX12_othersNear_47 ?_
        refine GO.icmp_gt (tgt := 55) dX12_othersNear_48 (by decide) r995 (ir_c rfl) (fun c997 => ?_) (fun c997 => ?_)
        ·
          refine GO.iconst dX12_othersNear_55 ?_
          refine GO.iadd dX12_othersNear_56 ?_
          refine GO.name (fun z998 hz999 => ?_)
          refine GO.istore_n (ls1 := [some (.ref x), some (ti p0), some (ti p1), some (ti z998), some (ti i2)]) dX12_othersNear_57 rfl rfl rfl ?_
          refine GO.iinc (X := i2) (n := 1) (Y := i2 + 1) (ls1 := [some (.ref x), some (ti p0), some (ti p1), some (ti z998), some (ti (i2 + 1))]) dX12_othersNear_58 rfl rfl rfl rfl ?_
          refine GO.goto (tgt := 5) dX12_othersNear_61 (by decide) ?_
          exact ih970 z998 (i2 + 1) V ⟨by omega, by omega, by omega, by omega, rfl⟩ (by show (2147483647 - (i2 + 1)).toNat < (2147483647 - i2).toNat; omega)
        ·
          refine GO.iconst dX12_othersNear_51 ?_
          refine GO.goto (tgt := 56) dX12_othersNear_52 (by decide) ?_
          refine GO.iadd dX12_othersNear_56 ?_
          refine GO.norm (fun z1000 r1001 hn1002 => ?_)
          refine GO.istore_n (ls1 := [some (.ref x), some (ti p0), some (ti p1), some (ti z1000), some (ti i2)]) dX12_othersNear_57 rfl rfl rfl ?_
          refine GO.iinc (X := i2) (n := 1) (Y := i2 + 1) (ls1 := [some (.ref x), some (ti p0), some (ti p1), some (ti z1000), some (ti (i2 + 1))]) dX12_othersNear_58 rfl rfl rfl rfl ?_
          refine GO.goto (tgt := 5) dX12_othersNear_61 (by decide) ?_
          have q1003 : -2147483648 ≤ z1000 ∧ z1000 ≤ 2147483647 := r1001
          exact ih970 z1000 (i2 + 1) V ⟨by omega, by omega, by omega, by omega, rfl⟩ (by show (2147483647 - (i2 + 1)).toNat < (2147483647 - i2).toNat; omega)

set_option maxHeartbeats 1000000 in
theorem t_X12_rankAt {K : Kmap} {V : Vmap} {x : Nat} {p0 : Int} (h_x : K x = some (0, 11)) (r_p0 : ir p0) (q_0 : p0 ≥ 0) (q_1 : p0 ≤ 143) : MC mX12_rankAt K V [.ref x, ti p0] (IP K V (fun X => True)) := by
  refine MC.start 2 (by decide +kernel) rfl rfl rfl (ls0 := [some (.ref x), some (ti p0), none, none]) rfl ?_
  refine GO.iconst dX12_rankAt_0 ?_
  refine GO.istore_n (ls1 := [some (.ref x), some (ti p0), some (ti 0), none]) dX12_rankAt_1 rfl rfl rfl ?_
  refine GO.iconst dX12_rankAt_2 ?_
  refine GO.istore_n (ls1 := [some (.ref x), some (ti p0), some (ti 0), some (ti 0)]) dX12_rankAt_3 rfl rfl rfl ?_
  refine GO.loop2 (fun i1 i2 W => 0 ≤ i1 ∧ i1 ≤ 2147483647 ∧ 0 ≤ i2 ∧ i2 ≤ 60 ∧ V = W) (fun i1 i2 => [some (.ref x), some (ti p0), some (ti i1), some (ti i2)]) (fun i1 i2 W => (2147483647 - i2).toNat) 0 0 ⟨by omega, by omega, by omega, by omega, rfl⟩ rfl (fun i1 i2 V591 hp593 ih592 => ?_)
  obtain ⟨l_i1, u_i1, l_i2, u_i2, rfl⟩ := hp593
  have r_i1 : ir i1 := ⟨by omega, by omega⟩
  have r_i2 : ir i2 := ⟨by omega, by omega⟩
  show GO mX12_rankAt K V (IP K V (fun X => True)) K V 0 0 4 [some (.ref x), some (ti p0), some (ti i1), some (ti i2)] []
  refine GO.iload_n dX12_rankAt_4 rfl rfl ?_
  refine GO.aload_n dX12_rankAt_5 rfl rfl ?_
  refine GO.getI h_x fl_RX12_375 rfl rfl dX12_rankAt_6 (fun l594 u595 => ?_)
  refine GO.icmp_ge (tgt := 58) dX12_rankAt_9 (by decide) r_i2 vi_ir (fun c596 => ?_) (fun c596 => ?_)
  ·
    refine GO.iload_n dX12_rankAt_58 rfl rfl ?_
    exact GO.reti rfl rfl dX12_rankAt_59 ⟨rfl, rfl, _, rfl, r_i1, trivial⟩
  ·
    refine GO.aload_n dX12_rankAt_12 rfl rfl ?_
    refine GO.getA (n := 60) h_x fl_RX12_35 rfl rfl rfl rfl dX12_rankAt_13 (fun hv598 h597 => ?_)
    refine GO.iload_n dX12_rankAt_16 rfl rfl ?_
    refine GO.iald (t := 15) rfl rfl h597 r_i2 (by omega) (by omega) dX12_rankAt_17 (fun l599 u600 => ?_)
    refine GO.iconst dX12_rankAt_18 ?_
    refine GO.icmp_ne (tgt := 50) dX12_rankAt_19 (by decide) vi_ir (ir_c rfl) (fun c601 => ?_) (fun c601 => ?_)
    ·
      refine GO.iload_n dX12_rankAt_50 rfl rfl ?_
      refine GO.istore_n (ls1 := [some (.ref x), some (ti p0), some (ti i1), some (ti i2)]) dX12_rankAt_51 rfl rfl rfl ?_
      refine GO.iinc (X := i2) (n := 1) (Y := i2 + 1) (ls1 := [some (.ref x), some (ti p0), some (ti i1), some (ti (i2 + 1))]) dX12_rankAt_52 rfl rfl rfl rfl ?_
      refine GO.goto (tgt := 4) dX12_rankAt_55 (by decide) ?_
      exact ih592 i1 (i2 + 1) V ⟨by omega, by omega, by omega, by omega, rfl⟩ (by show (2147483647 - (i2 + 1)).toNat < (2147483647 - i2).toNat; omega)
    ·
      refine GO.aload_n dX12_rankAt_22 rfl rfl ?_
      refine GO.iload_n dX12_rankAt_23 rfl rfl ?_
      refine GO.iload_n dX12_rankAt_24 rfl rfl ?_
      have q602 : -2147483648 ≤ p0 ∧ p0 ≤ 2147483647 := r_p0
      refine GO.callV (ci := 11) (N := mX12_isIn) dX12_rankAt_25 (RX12, TX12, 151) rfl gV_RX12_569 h_x (t_X12_isIn h_x r_p0 r_i2 (by omega) (by omega) (by omega) (by omega)) rfl [] rfl rfl (Nat.le_of_ble_eq_true rfl) rfl (k_ip fun X603 r604 h605 => ?_)
      refine GO.if_eq (tgt := 50) dX12_rankAt_28 (by decide) r604 (fun c606 => ?_) (fun c606 => ?_)
      ·
        refine GO.iload_n dX12_rankAt_50 rfl rfl ?_
        refine GO.istore_n (ls1 := [some (.ref x), some (ti p0), some (ti i1), some (ti i2)]) dX12_rankAt_51 rfl rfl rfl ?_
        refine GO.iinc (X := i2) (n := 1) (Y := i2 + 1) (ls1 := [some (.ref x), some (ti p0), some (ti i1), some (ti (i2 + 1))]) dX12_rankAt_52 rfl rfl rfl rfl ?_
        refine GO.goto (tgt := 4) dX12_rankAt_55 (by decide) ?_
        exact ih592 i1 (i2 + 1) V ⟨by omega, by omega, by omega, by omega, rfl⟩ (by show (2147483647 - (i2 + 1)).toNat < (2147483647 - i2).toNat; omega)
      ·
        refine GO.aload_n dX12_rankAt_31 rfl rfl ?_
        refine GO.getA (n := 60) h_x fl_RX12_47 rfl rfl rfl rfl dX12_rankAt_32 (fun hv608 h607 => ?_)
        refine GO.iload_n dX12_rankAt_35 rfl rfl ?_
        refine GO.iald (t := 19) rfl rfl h607 r_i2 (by omega) (by omega) dX12_rankAt_36 (fun _ _ => ?_)
        refine GO.iload_n dX12_rankAt_37 rfl rfl ?_
        refine GO.icmp_le (tgt := 50) dX12_rankAt_38 (by decide) vi_ir r_i1 (fun c609 => ?_) (fun c609 => ?_)
        ·
          refine GO.iload_n dX12_rankAt_50 rfl rfl ?_
          refine GO.istore_n (ls1 := [some (.ref x), some (ti p0), some (ti i1), some (ti i2)]) dX12_rankAt_51 rfl rfl rfl ?_
          refine GO.iinc (X := i2) (n := 1) (Y := i2 + 1) (ls1 := [some (.ref x), some (ti p0), some (ti i1), some (ti (i2 + 1))]) dX12_rankAt_52 rfl rfl rfl rfl ?_
          refine GO.goto (tgt := 4) dX12_rankAt_55 (by decide) ?_
          have q610 : -2147483648 ≤ vi V (vq V x 17) (i2).toNat ∧ vi V (vq V x 17) (i2).toNat ≤ 2147483647 := vi_ir
          exact ih592 i1 (i2 + 1) V ⟨by omega, by omega, by omega, by omega, rfl⟩ (by show (2147483647 - (i2 + 1)).toNat < (2147483647 - i2).toNat; omega)
        ·
          refine GO.aload_n dX12_rankAt_41 rfl rfl ?_
          refine GO.getRaw h_x fl_RX12_47 hv608 dX12_rankAt_42 ?_
          refine GO.iload_n dX12_rankAt_45 rfl rfl ?_
          refine GO.iald (t := 19) rfl rfl h607 r_i2 (by omega) (by omega) dX12_rankAt_46 (fun _ _ => ?_)
          refine GO.goto (tgt := 51) dX12_rankAt_47 (by decide) ?_
          refine GO.name (fun z613 hz614 => ?_)
          have r615 : ir z613 := hz614 ▸ vi_ir
          refine GO.istore_n (ls1 := [some (.ref x), some (ti p0), some (ti z613), some (ti i2)]) dX12_rankAt_51 rfl rfl rfl ?_
          refine GO.iinc (X := i2) (n := 1) (Y := i2 + 1) (ls1 := [some (.ref x), some (ti p0), some (ti z613), some (ti (i2 + 1))]) dX12_rankAt_52 rfl rfl rfl rfl ?_
          refine GO.goto (tgt := 4) dX12_rankAt_55 (by decide) ?_
          have q616 : -2147483648 ≤ z613 ∧ z613 ≤ 2147483647 := r615
          have q617 : -2147483648 ≤ vi V (vq V x 17) (i2).toNat ∧ vi V (vq V x 17) (i2).toNat ≤ 2147483647 := vi_ir
          exact ih592 z613 (i2 + 1) V ⟨by omega, by omega, by omega, by omega, rfl⟩ (by show (2147483647 - (i2 + 1)).toNat < (2147483647 - i2).toNat; omega)

set_option maxHeartbeats 1000000 in
theorem t_X12_valueOf {K : Kmap} {V : Vmap} {x : Nat} {p0 : Int} {p1 : Int} {p2 : Int} (h_x : K x = some (0, 11)) (r_p0 : ir p0) (r_p1 : ir p1) (r_p2 : ir p2) (q_0 : p1 ≥ 0) (q_1 : p1 ≤ 99) : MC mX12_valueOf K V [.ref x, ti p0, ti p1, ti p2] (IP K V (fun X => True)) := by
  refine MC.start 1 (by decide +kernel) rfl rfl rfl (ls0 := [some (.ref x), some (ti p0), some (ti p1), some (ti p2), none]) rfl ?_
  refine GO.aload_n dX12_valueOf_0 rfl rfl ?_
  refine GO.getA (n := 100) h_x fl_RX12_169 rfl rfl rfl rfl dX12_valueOf_1 (fun hv2 h1 => ?_)
  refine GO.iload_n dX12_valueOf_4 rfl rfl ?_
  have q3 : -2147483648 ≤ p1 ∧ p1 ≤ 2147483647 := r_p1
  refine GO.iald (t := 59) rfl rfl h1 r_p1 (by omega) (by omega) dX12_valueOf_5 (fun l4 u5 => ?_)
  refine GO.name (fun z6 hz7 => ?_)
  have r8 : ir z6 := hz7 ▸ vi_ir
  refine GO.istore (ls1 := [some (.ref x), some (ti p0), some (ti p1), some (ti p2), some (ti z6)]) dX12_valueOf_6 rfl rfl ?_
  refine GO.iload_n dX12_valueOf_8 rfl rfl ?_
  have q9 : -2147483648 ≤ p0 ∧ p0 ≤ 2147483647 := r_p0
  rcases (show (p0 < 0 ∨ 12 < p0) ∨ p0 = 0 ∨ p0 = 1 ∨ p0 = 2 ∨ p0 = 3 ∨ p0 = 4 ∨ p0 = 5 ∨ p0 = 6 ∨ p0 = 7 ∨ p0 = 8 ∨ p0 = 9 ∨ p0 = 10 ∨ p0 = 11 ∨ p0 = 12 by omega) with c10 | c10 | c10 | c10 | c10 | c10 | c10 | c10 | c10 | c10 | c10 | c10 | c10 | c10
  ·
    refine GO.tableOut (tgt := 190) dX12_valueOf_9 r_p0 c10 (by decide) ?_
    refine GO.aload_n dX12_valueOf_190 rfl rfl ?_
    refine GO.iload_n dX12_valueOf_191 rfl rfl ?_
    refine GO.callV (ci := 11) (N := mX12_isDark) dX12_valueOf_192 (RX12, TX12, 151) rfl gV_RX12_582 h_x (t_X12_isDark h_x r_p2) rfl [] rfl rfl (Nat.le_of_ble_eq_true rfl) rfl (k_ip fun X11 r12 h13 => ?_)
    refine GO.if_eq (tgt := 202) dX12_valueOf_195 (by decide) r12 (fun c14 => ?_) (fun c14 => ?_)
    ·
      refine GO.iconst dX12_valueOf_202 ?_
      exact GO.reti rfl rfl dX12_valueOf_203 ⟨rfl, rfl, _, rfl, (ir_c rfl), trivial⟩
    ·
      refine GO.iconst dX12_valueOf_198 ?_
      refine GO.goto (tgt := 203) dX12_valueOf_199 (by decide) ?_
      exact GO.reti rfl rfl dX12_valueOf_203 ⟨rfl, rfl, _, rfl, (ir_c rfl), trivial⟩
  ·
    refine GO.tableAt (n := 0) (tgt := 76) dX12_valueOf_9 (ir_c rfl) c10 (by decide) (by decide) rfl (by decide) ?_
    refine GO.aload_n dX12_valueOf_76 rfl rfl ?_
    refine GO.getA (n := 100) h_x fl_RX12_163 rfl rfl rfl rfl dX12_valueOf_77 (fun hv16 h15 => ?_)
    refine GO.iload_n dX12_valueOf_80 rfl rfl ?_
    refine GO.iald (t := 57) rfl rfl h15 r_p1 (by omega) (by omega) dX12_valueOf_81 (fun _ _ => ?_)
    have q17 : -2147483648 ≤ vi V (vq V x 67) (p1).toNat ∧ vi V (vq V x 67) (p1).toNat ≤ 2147483647 := vi_ir
    exact GO.reti rfl rfl dX12_valueOf_82 ⟨rfl, rfl, _, rfl, vi_ir, trivial⟩
  ·
    refine GO.tableAt (n := 1) (tgt := 83) dX12_valueOf_9 (ir_c rfl) c10 (by decide) (by decide) rfl (by decide) ?_
    refine GO.aload_n dX12_valueOf_83 rfl rfl ?_
    refine GO.getA (n := 100) h_x fl_RX12_166 rfl rfl rfl rfl dX12_valueOf_84 (fun hv19 h18 => ?_)
    refine GO.iload_n dX12_valueOf_87 rfl rfl ?_
    refine GO.iald (t := 58) rfl rfl h18 r_p1 (by omega) (by omega) dX12_valueOf_88 (fun l20 u21 => ?_)
    exact GO.reti rfl rfl dX12_valueOf_89 ⟨rfl, rfl, _, rfl, vi_ir, trivial⟩
  ·
    refine GO.tableAt (n := 2) (tgt := 90) dX12_valueOf_9 (ir_c rfl) c10 (by decide) (by decide) rfl (by decide) ?_
    refine GO.aload_n dX12_valueOf_90 rfl rfl ?_
    refine GO.aload_n dX12_valueOf_91 rfl rfl ?_
    refine GO.getA (n := 100) h_x fl_RX12_166 rfl rfl rfl rfl dX12_valueOf_92 (fun hv23 h22 => ?_)
    refine GO.iload_n dX12_valueOf_95 rfl rfl ?_
    refine GO.iald (t := 58) rfl rfl h22 r_p1 (by omega) (by omega) dX12_valueOf_96 (fun l24 u25 => ?_)
    refine GO.iload_n dX12_valueOf_97 rfl rfl ?_
    refine GO.callV (ci := 11) (N := mX12_decidesOn) dX12_valueOf_98 (RX12, TX12, 151) rfl gV_RX12_412 h_x (t_X12_decidesOn h_x vi_ir r_p2 (by omega) (by omega)) rfl [] rfl rfl (Nat.le_of_ble_eq_true rfl) rfl (k_ip fun X26 r27 h28 => ?_)
    refine GO.if_eq (tgt := 108) dX12_valueOf_101 (by decide) r27 (fun c29 => ?_) (fun c29 => ?_)
    ·
      refine GO.iconst dX12_valueOf_108 ?_
      exact GO.reti rfl rfl dX12_valueOf_109 ⟨rfl, rfl, _, rfl, (ir_c rfl), trivial⟩
    ·
      refine GO.iconst dX12_valueOf_104 ?_
      refine GO.goto (tgt := 109) dX12_valueOf_105 (by decide) ?_
      exact GO.reti rfl rfl dX12_valueOf_109 ⟨rfl, rfl, _, rfl, (ir_c rfl), trivial⟩
  ·
    refine GO.tableAt (n := 3) (tgt := 110) dX12_valueOf_9 (ir_c rfl) c10 (by decide) (by decide) rfl (by decide) ?_
    refine GO.aload_n dX12_valueOf_110 rfl rfl ?_
    refine GO.getA (n := 144) h_x fl_RX12_16 rfl rfl rfl rfl dX12_valueOf_111 (fun hv31 h30 => ?_)
    refine GO.iload dX12_valueOf_114 rfl ?_
    refine GO.iald (t := 9) rfl rfl h30 r8 (by omega) (by omega) dX12_valueOf_116 (fun l32 u33 => ?_)
    exact GO.reti rfl rfl dX12_valueOf_117 ⟨rfl, rfl, _, rfl, vi_ir, trivial⟩
  ·
    refine GO.tableAt (n := 4) (tgt := 118) dX12_valueOf_9 (ir_c rfl) c10 (by decide) (by decide) rfl (by decide) ?_
    refine GO.aload_n dX12_valueOf_118 rfl rfl ?_
    refine GO.getA (n := 144) h_x fl_RX12_20 rfl rfl rfl rfl dX12_valueOf_119 (fun hv35 h34 => ?_)
    refine GO.iload dX12_valueOf_122 rfl ?_
    refine GO.iald (t := 10) rfl rfl h34 r8 (by omega) (by omega) dX12_valueOf_124 (fun l36 u37 => ?_)
    exact GO.reti rfl rfl dX12_valueOf_125 ⟨rfl, rfl, _, rfl, vi_ir, trivial⟩
  ·
    refine GO.tableAt (n := 5) (tgt := 126) dX12_valueOf_9 (ir_c rfl) c10 (by decide) (by decide) rfl (by decide) ?_
    refine GO.aload_n dX12_valueOf_126 rfl rfl ?_
    refine GO.iload dX12_valueOf_127 rfl ?_
    refine GO.callV (ci := 11) (N := mX12_rankAt) dX12_valueOf_129 (RX12, TX12, 151) rfl gV_RX12_572 h_x (t_X12_rankAt h_x r8 (by omega) (by omega)) rfl [] rfl rfl (Nat.le_of_ble_eq_true rfl) rfl (k_ip fun X38 r39 h40 => ?_)
    have q41 : -2147483648 ≤ X38 ∧ X38 ≤ 2147483647 := r39
    exact GO.reti rfl rfl dX12_valueOf_132 ⟨rfl, rfl, _, rfl, r39, trivial⟩
  ·
    refine GO.tableAt (n := 6) (tgt := 133) dX12_valueOf_9 (ir_c rfl) c10 (by decide) (by decide) rfl (by decide) ?_
    refine GO.aload_n dX12_valueOf_133 rfl rfl ?_
    refine GO.iconst dX12_valueOf_134 ?_
    refine GO.iload dX12_valueOf_135 rfl ?_
    refine GO.iconst dX12_valueOf_137 ?_
    refine GO.callV (ci := 11) (N := mX12_nearPlaces) dX12_valueOf_138 (RX12, TX12, 151) rfl gV_RX12_575 h_x (t_X12_nearPlaces h_x (ir_c rfl) r8 (ir_c rfl) (by omega) (by omega)) rfl [] rfl rfl (Nat.le_of_ble_eq_true rfl) rfl (k_ip fun X42 r43 h44 => ?_)
    have q45 : -2147483648 ≤ X42 ∧ X42 ≤ 2147483647 := r43
    exact GO.reti rfl rfl dX12_valueOf_141 ⟨rfl, rfl, _, rfl, r43, trivial⟩
  ·
    refine GO.tableAt (n := 7) (tgt := 142) dX12_valueOf_9 (ir_c rfl) c10 (by decide) (by decide) rfl (by decide) ?_
    refine GO.aload_n dX12_valueOf_142 rfl rfl ?_
    refine GO.iconst dX12_valueOf_143 ?_
    refine GO.iload dX12_valueOf_144 rfl ?_
    refine GO.iconst dX12_valueOf_146 ?_
    refine GO.callV (ci := 11) (N := mX12_nearPlaces) dX12_valueOf_147 (RX12, TX12, 151) rfl gV_RX12_575 h_x (t_X12_nearPlaces h_x (ir_c rfl) r8 (ir_c rfl) (by omega) (by omega)) rfl [] rfl rfl (Nat.le_of_ble_eq_true rfl) rfl (k_ip fun X46 r47 h48 => ?_)
    have q49 : -2147483648 ≤ X46 ∧ X46 ≤ 2147483647 := r47
    exact GO.reti rfl rfl dX12_valueOf_150 ⟨rfl, rfl, _, rfl, r47, trivial⟩
  ·
    refine GO.tableAt (n := 8) (tgt := 151) dX12_valueOf_9 (ir_c rfl) c10 (by decide) (by decide) rfl (by decide) ?_
    refine GO.aload_n dX12_valueOf_151 rfl rfl ?_
    refine GO.aload_n dX12_valueOf_152 rfl rfl ?_
    refine GO.getA (n := 100) h_x fl_RX12_166 rfl rfl rfl rfl dX12_valueOf_153 (fun hv51 h50 => ?_)
    refine GO.iload_n dX12_valueOf_156 rfl rfl ?_
    refine GO.iald (t := 58) rfl rfl h50 r_p1 (by omega) (by omega) dX12_valueOf_157 (fun l52 u53 => ?_)
    refine GO.iload dX12_valueOf_158 rfl ?_
    refine GO.callV (ci := 11) (N := mX12_othersNear) dX12_valueOf_160 (RX12, TX12, 151) rfl gV_RX12_579 h_x (t_X12_othersNear h_x vi_ir r8 (by omega) (by omega)) rfl [] rfl rfl (Nat.le_of_ble_eq_true rfl) rfl (k_ip fun X54 r55 h56 => ?_)
    have q57 : -2147483648 ≤ X54 ∧ X54 ≤ 2147483647 := r55
    exact GO.reti rfl rfl dX12_valueOf_163 ⟨rfl, rfl, _, rfl, r55, trivial⟩
  ·
    refine GO.tableAt (n := 9) (tgt := 164) dX12_valueOf_9 (ir_c rfl) c10 (by decide) (by decide) rfl (by decide) ?_
    refine GO.aload_n dX12_valueOf_164 rfl rfl ?_
    refine GO.getA (n := 100) h_x fl_RX12_178 rfl rfl rfl rfl dX12_valueOf_165 (fun hv59 h58 => ?_)
    refine GO.iload_n dX12_valueOf_168 rfl rfl ?_
    refine GO.iald (t := 62) rfl rfl h58 r_p1 (by omega) (by omega) dX12_valueOf_169 (fun _ _ => ?_)
    have q60 : -2147483648 ≤ vi V (vq V x 72) (p1).toNat ∧ vi V (vq V x 72) (p1).toNat ≤ 2147483647 := vi_ir
    exact GO.reti rfl rfl dX12_valueOf_170 ⟨rfl, rfl, _, rfl, vi_ir, trivial⟩
  ·
    refine GO.tableAt (n := 10) (tgt := 171) dX12_valueOf_9 (ir_c rfl) c10 (by decide) (by decide) rfl (by decide) ?_
    refine GO.aload_n dX12_valueOf_171 rfl rfl ?_
    refine GO.getA (n := 100) h_x fl_RX12_181 rfl rfl rfl rfl dX12_valueOf_172 (fun hv62 h61 => ?_)
    refine GO.iload_n dX12_valueOf_175 rfl rfl ?_
    refine GO.iald (t := 63) rfl rfl h61 r_p1 (by omega) (by omega) dX12_valueOf_176 (fun _ _ => ?_)
    have q63 : -2147483648 ≤ vi V (vq V x 73) (p1).toNat ∧ vi V (vq V x 73) (p1).toNat ≤ 2147483647 := vi_ir
    exact GO.reti rfl rfl dX12_valueOf_177 ⟨rfl, rfl, _, rfl, vi_ir, trivial⟩
  ·
    refine GO.tableAt (n := 11) (tgt := 178) dX12_valueOf_9 (ir_c rfl) c10 (by decide) (by decide) rfl (by decide) ?_
    refine GO.iload_n dX12_valueOf_178 rfl rfl ?_
    refine GO.sipush dX12_valueOf_179 rfl ?_
    refine GO.irem dX12_valueOf_182 (ir_c rfl) (by omega) ?_
    have q64 : -2147483648 ≤ wrem p2 360 ∧ wrem p2 360 ≤ 2147483647 := wrem_ir
    exact GO.reti rfl rfl dX12_valueOf_183 ⟨rfl, rfl, _, rfl, wrem_ir, trivial⟩
  ·
    refine GO.tableAt (n := 12) (tgt := 184) dX12_valueOf_9 (ir_c rfl) c10 (by decide) (by decide) rfl (by decide) ?_
    refine GO.iload_n dX12_valueOf_184 rfl rfl ?_
    refine GO.sipush dX12_valueOf_185 rfl ?_
    refine GO.idiv dX12_valueOf_188 (ir_c rfl) (by omega) ?_
    have q65 : -2147483648 ≤ wdiv p2 360 ∧ wdiv p2 360 ≤ 2147483647 := wdiv_ir
    exact GO.reti rfl rfl dX12_valueOf_189 ⟨rfl, rfl, _, rfl, wdiv_ir, trivial⟩

set_option maxHeartbeats 1000000 in
theorem t_X12_reckon {K : Kmap} {V : Vmap} {p0 : Int} {p1 : Int} {p2 : Int} (r_p0 : ir p0) (r_p1 : ir p1) (r_p2 : ir p2) (q_0 : (p0 = 5 → p2 ≠ 0)) (q_1 : (p0 = 6 → p2 ≠ 0)) : MC mX12_reckon K V [ti p0, ti p1, ti p2] (IP K V (fun X => True)) := by
  refine MC.start 0 (by decide +kernel) rfl rfl rfl (ls0 := [some (ti p0), some (ti p1), some (ti p2)]) rfl ?_
  refine GO.iload_n dX12_reckon_0 rfl rfl ?_
  have q1 : -2147483648 ≤ p0 ∧ p0 ≤ 2147483647 := r_p0
  rcases (show (p0 < 2 ∨ 8 < p0) ∨ p0 = 2 ∨ p0 = 3 ∨ p0 = 4 ∨ p0 = 5 ∨ p0 = 6 ∨ p0 = 7 ∨ p0 = 8 by omega) with c2 | c2 | c2 | c2 | c2 | c2 | c2 | c2
  ·
    refine GO.tableOut (tgt := 86) dX12_reckon_1 r_p0 c2 (by decide) ?_
    refine GO.iload_n dX12_reckon_86 rfl rfl ?_
    refine GO.iload_n dX12_reckon_87 rfl rfl ?_
    refine GO.icmp_ne (tgt := 95) dX12_reckon_88 (by decide) r_p1 r_p2 (fun c3 => ?_) (fun c3 => ?_)
    ·
      refine GO.iconst dX12_reckon_95 ?_
      exact GO.reti rfl rfl dX12_reckon_96 ⟨rfl, rfl, _, rfl, (ir_c rfl), trivial⟩
    ·
      refine GO.iconst dX12_reckon_91 ?_
      refine GO.goto (tgt := 96) dX12_reckon_92 (by decide) ?_
      exact GO.reti rfl rfl dX12_reckon_96 ⟨rfl, rfl, _, rfl, (ir_c rfl), trivial⟩
  ·
    refine GO.tableAt (n := 2) (tgt := 44) dX12_reckon_1 (ir_c rfl) c2 (by decide) (by decide) rfl (by decide) ?_
    refine GO.iload_n dX12_reckon_44 rfl rfl ?_
    refine GO.iload_n dX12_reckon_45 rfl rfl ?_
    refine GO.iadd dX12_reckon_46 ?_
    refine GO.norm (fun z4 r5 hn6 => ?_)
    have q7 : -2147483648 ≤ z4 ∧ z4 ≤ 2147483647 := r5
    exact GO.reti rfl rfl dX12_reckon_47 ⟨rfl, rfl, _, rfl, r5, trivial⟩
  ·
    refine GO.tableAt (n := 3) (tgt := 48) dX12_reckon_1 (ir_c rfl) c2 (by decide) (by decide) rfl (by decide) ?_
    refine GO.iload_n dX12_reckon_48 rfl rfl ?_
    refine GO.iload_n dX12_reckon_49 rfl rfl ?_
    refine GO.isub dX12_reckon_50 ?_
    refine GO.norm (fun z8 r9 hn10 => ?_)
    have q11 : -2147483648 ≤ z8 ∧ z8 ≤ 2147483647 := r9
    exact GO.reti rfl rfl dX12_reckon_51 ⟨rfl, rfl, _, rfl, r9, trivial⟩
  ·
    refine GO.tableAt (n := 4) (tgt := 52) dX12_reckon_1 (ir_c rfl) c2 (by decide) (by decide) rfl (by decide) ?_
    refine GO.iload_n dX12_reckon_52 rfl rfl ?_
    refine GO.iload_n dX12_reckon_53 rfl rfl ?_
    refine GO.imul dX12_reckon_54 ?_
    refine GO.norm (fun z12 r13 hn14 => ?_)
    have q15 : -2147483648 ≤ z12 ∧ z12 ≤ 2147483647 := r13
    exact GO.reti rfl rfl dX12_reckon_55 ⟨rfl, rfl, _, rfl, r13, trivial⟩
  ·
    refine GO.tableAt (n := 5) (tgt := 56) dX12_reckon_1 (ir_c rfl) c2 (by decide) (by decide) rfl (by decide) ?_
    refine GO.iload_n dX12_reckon_56 rfl rfl ?_
    refine GO.iload_n dX12_reckon_57 rfl rfl ?_
    have q16 : -2147483648 ≤ p2 ∧ p2 ≤ 2147483647 := r_p2
    refine GO.idiv dX12_reckon_58 r_p2 (by omega) ?_
    have q17 : -2147483648 ≤ wdiv p1 p2 ∧ wdiv p1 p2 ≤ 2147483647 := wdiv_ir
    exact GO.reti rfl rfl dX12_reckon_59 ⟨rfl, rfl, _, rfl, wdiv_ir, trivial⟩
  ·
    refine GO.tableAt (n := 6) (tgt := 60) dX12_reckon_1 (ir_c rfl) c2 (by decide) (by decide) rfl (by decide) ?_
    refine GO.iload_n dX12_reckon_60 rfl rfl ?_
    refine GO.iload_n dX12_reckon_61 rfl rfl ?_
    have q18 : -2147483648 ≤ p2 ∧ p2 ≤ 2147483647 := r_p2
    refine GO.irem dX12_reckon_62 r_p2 (by omega) ?_
    have q19 : -2147483648 ≤ wrem p1 p2 ∧ wrem p1 p2 ≤ 2147483647 := wrem_ir
    exact GO.reti rfl rfl dX12_reckon_63 ⟨rfl, rfl, _, rfl, wrem_ir, trivial⟩
  ·
    refine GO.tableAt (n := 7) (tgt := 64) dX12_reckon_1 (ir_c rfl) c2 (by decide) (by decide) rfl (by decide) ?_
    refine GO.iload_n dX12_reckon_64 rfl rfl ?_
    refine GO.iload_n dX12_reckon_65 rfl rfl ?_
    refine GO.icmp_ge (tgt := 73) dX12_reckon_66 (by decide) r_p1 r_p2 (fun c20 => ?_) (fun c20 => ?_)
    ·
      refine GO.iconst dX12_reckon_73 ?_
      exact GO.reti rfl rfl dX12_reckon_74 ⟨rfl, rfl, _, rfl, (ir_c rfl), trivial⟩
    ·
      refine GO.iconst dX12_reckon_69 ?_
      refine GO.goto (tgt := 74) dX12_reckon_70 (by decide) ?_
      exact GO.reti rfl rfl dX12_reckon_74 ⟨rfl, rfl, _, rfl, (ir_c rfl), trivial⟩
  ·
    refine GO.tableAt (n := 8) (tgt := 75) dX12_reckon_1 (ir_c rfl) c2 (by decide) (by decide) rfl (by decide) ?_
    refine GO.iload_n dX12_reckon_75 rfl rfl ?_
    refine GO.iload_n dX12_reckon_76 rfl rfl ?_
    refine GO.icmp_le (tgt := 84) dX12_reckon_77 (by decide) r_p1 r_p2 (fun c21 => ?_) (fun c21 => ?_)
    ·
      refine GO.iconst dX12_reckon_84 ?_
      exact GO.reti rfl rfl dX12_reckon_85 ⟨rfl, rfl, _, rfl, (ir_c rfl), trivial⟩
    ·
      refine GO.iconst dX12_reckon_80 ?_
      refine GO.goto (tgt := 85) dX12_reckon_81 (by decide) ?_
      exact GO.reti rfl rfl dX12_reckon_85 ⟨rfl, rfl, _, rfl, (ir_c rfl), trivial⟩

set_option maxHeartbeats 1000000 in
theorem t_X12_holds {K : Kmap} {V : Vmap} {x : Nat} {p0 t_p0 n_p0 : Nat} {p1 : Int} {p2 : Int} {p3 : Int} {p4 : Int} {p5 : Int} (h_x : K x = some (0, 11)) (ht_p0 : bt t_p0 = 0) (h_p0 : K p0 = some (t_p0 + 1, n_p0)) (r_p1 : ir p1) (r_p2 : ir p2) (r_p3 : ir p3) (r_p4 : ir p4) (r_p5 : ir p5) (q_0 : p4 ≥ 0) (q_1 : p4 ≤ 99) (w_0 : HG V p0 n_p0 p1 p2 p3) (w_1 : (t_p0 + 1, n_p0) ≠ (72, 220)) : MC mX12_holds K V [.ref x, .ref p0, ti p1, ti p2, ti p3, ti p4, ti p5] (IS K (fun X V1 => True)) := by
  refine MC.start 4 (by decide +kernel) rfl rfl rfl (ls0 := [some (.ref x), some (.ref p0), some (ti p1), some (ti p2), some (ti p3), some (ti p4), some (ti p5), none, none, none, none]) rfl ?_
  refine GO.useWT (fun hWx => ?_)
  have hln := (hWx.len h_p0).2.1
  have hg1 := w_0.1
  refine GO.iconst dX12_holds_0 ?_
  refine GO.istore (ls1 := [some (.ref x), some (.ref p0), some (ti p1), some (ti p2), some (ti p3), some (ti p4), some (ti p5), some (ti 0), none, none, none]) dX12_holds_1 rfl rfl ?_
  refine GO.iload_n dX12_holds_3 rfl rfl ?_
  refine GO.istore (ls1 := [some (.ref x), some (.ref p0), some (ti p1), some (ti p2), some (ti p3), some (ti p4), some (ti p5), some (ti 0), some (ti p2), none, none]) dX12_holds_4 rfl rfl ?_
  have q3 : -2147483648 ≤ p2 ∧ p2 ≤ 2147483647 := r_p2
  refine GO.loop2 (fun i1 i2 W => 0 ≤ i1 ∧ i1 ≤ 220 ∧ 0 ≤ i2 ∧ i2 ≤ 10000 ∧ (i1 ≥ 0 ∧ i1 ≤ 220 ∧ i2 ≥ 0 ∧ i2 ≤ 5000) ∧ (HI V p0 p1 p2 p3 i2 i1) ∧ (∀ j, vi W p0 j = vi V p0 j) ∧ True) (fun i1 i2 => [some (.ref x), some (.ref p0), some (ti p1), some (ti p2), some (ti p3), some (ti p4), some (ti p5), some (ti i1), some (ti i2), none, none]) (fun i1 i2 W => ((p3 - i2)).toNat) 0 p2 ⟨by omega, by omega, by omega, by omega, by omega, (by first | exact HI.rf w_0), (by first | exact fun _ => rfl | assumption | exact fun j => (vi_up @E (Or.inl (K_ne h_p0 @P w_1))).trans (by first | exact w1_j j | (rename_i h; exact h j) | simp_all)), trivial⟩ rfl (fun i1 i2 Wi1 hp978 ih977 => ?_)
  obtain ⟨l_i1, u_i1, l_i2, u_i2, n_i1, w0_i1, w1_i1, -⟩ := hp978
  have r_i1 : ir i1 := ⟨by omega, by omega⟩
  have r_i2 : ir i2 := ⟨by omega, by omega⟩
  show GO mX12_holds K V (IS K (fun X V1 => True)) K Wi1 0 0 6 [some (.ref x), some (.ref p0), some (ti p1), some (ti p2), some (ti p3), some (ti p4), some (ti p5), some (ti i1), some (ti i2), none, none] []
  have hil := HI.le w_0 (k := i2) (n := i1) (by assumption)
  refine GO.iload dX12_holds_6 rfl ?_
  refine GO.iload dX12_holds_8 rfl ?_
  refine GO.icmp_ge (tgt := 236) dX12_holds_10 (by decide) r_i2 r_p3 (fun c979 => ?_) (fun c979 => ?_)
  ·
    refine GO.aload_n dX12_holds_236 rfl rfl ?_
    refine GO.getA (n := 220) h_x fl_RX12_205 rfl rfl rfl rfl dX12_holds_237 (fun hv981 h980 => ?_)
    refine GO.iconst dX12_holds_240 ?_
    refine GO.iald (t := 71) rfl rfl h980 (ir_c rfl) (by omega) (by omega) dX12_holds_241 (fun _ _ => ?_)
    have q982 : -2147483648 ≤ vi Wi1 (vq Wi1 x 81) (0 : Int).toNat ∧ vi Wi1 (vq Wi1 x 81) (0 : Int).toNat ≤ 2147483647 := vi_ir
    exact GO.reti rfl rfl dX12_holds_242 ⟨rfl, _, rfl, vi_ir, trivial⟩
  ·
    have hrg := HI.rng (V1 := Wi1) (k := i2) (n := i1) w_0 (by assumption) (by omega) (by assumption)
    refine GO.aload_n dX12_holds_13 rfl rfl ?_
    refine GO.iload dX12_holds_14 rfl ?_
    have q983 : -2147483648 ≤ p3 ∧ p3 ≤ 2147483647 := r_p3
    refine GO.ialdG ht_p0 h_p0 r_i2 (by omega) (by omega) dX12_holds_16 ?_
    refine GO.ldcw (X := 1048576) dX12_holds_17 gw_2078 rfl ?_
    have q984 : -2147483648 ≤ vi Wi1 p0 (i2).toNat ∧ vi Wi1 p0 (i2).toNat ≤ 2147483647 := vi_ir
    refine GO.idivP dX12_holds_20 vi_ir (ir_c rfl) (by omega) (by omega) ?_
    refine GO.name (fun z985 hz986 => ?_)
    refine GO.istore (ls1 := [some (.ref x), some (.ref p0), some (ti p1), some (ti p2), some (ti p3), some (ti p4), some (ti p5), some (ti i1), some (ti i2), some (ti z985), none]) dX12_holds_21 rfl rfl ?_
    refine GO.aload_n dX12_holds_23 rfl rfl ?_
    refine GO.iload dX12_holds_24 rfl ?_
    refine GO.ialdG ht_p0 h_p0 r_i2 (by omega) (by omega) dX12_holds_26 ?_
    refine GO.ldcw (X := 1048576) dX12_holds_27 gw_2078 rfl ?_
    have q987 : -2147483648 ≤ vi Wi1 p0 (i2).toNat ∧ vi Wi1 p0 (i2).toNat ≤ 2147483647 := vi_ir
    refine GO.iremP dX12_holds_30 vi_ir (ir_c rfl) (by omega) (by omega) ?_
    refine GO.name (fun z988 hz989 => ?_)
    refine GO.istore (ls1 := [some (.ref x), some (.ref p0), some (ti p1), some (ti p2), some (ti p3), some (ti p4), some (ti p5), some (ti i1), some (ti i2), some (ti z985), some (ti z988)]) dX12_holds_31 rfl rfl ?_
    have hk := HI.at (V1 := Wi1) (k := i2) (n := i1) (op := z985) (v := z988) w_0 (by assumption) (by omega) (by assumption) (by assumption) (by assumption)
    obtain ⟨hk0, hk1, hk2, hk3, hk4⟩ := hk
    refine GO.iload dX12_holds_33 rfl ?_
    refine GO.iconst dX12_holds_35 ?_
    refine GO.iadd dX12_holds_36 ?_
    refine GO.name (fun z990 hz991 => ?_)
    refine GO.istore (ls1 := [some (.ref x), some (.ref p0), some (ti p1), some (ti p2), some (ti p3), some (ti p4), some (ti p5), some (ti i1), some (ti z990), some (ti z985), some (ti z988)]) dX12_holds_37 rfl rfl ?_
    refine GO.iload dX12_holds_39 rfl ?_
    refine GO.if_eq (tgt := 50) dX12_holds_41 (by decide) ⟨by omega, by omega⟩ (fun c992 => ?_) (fun c992 => ?_)
    ·
      refine GO.aload_n dX12_holds_50 rfl rfl ?_
      refine GO.getA (n := 220) h_x fl_RX12_205 rfl rfl rfl rfl dX12_holds_51 (fun hv994 h993 => ?_)
      refine GO.iload dX12_holds_54 rfl ?_
      refine GO.iload dX12_holds_56 rfl ?_
      refine GO.if_ne (tgt := 66) dX12_holds_58 (by decide) ⟨by omega, by omega⟩ (fun h => by exfalso; omega) (fun c995 => ?_)
      refine GO.iload dX12_holds_61 rfl ?_
      refine GO.goto (tgt := 76) dX12_holds_63 (by decide) ?_
      refine GO.iast (t := 71) rfl rfl (by decide +kernel) h993 r_i1 (by omega) (by omega) ⟨by omega, by omega⟩ (by omega) (by omega) dX12_holds_76 (fun V997 e996 => ?_)
      refine GO.iload dX12_holds_77 rfl ?_
      refine GO.iconst dX12_holds_79 ?_
      refine GO.iadd dX12_holds_80 ?_
      refine GO.name (fun z998 hz999 => ?_)
      refine GO.istore (ls1 := [some (.ref x), some (.ref p0), some (ti p1), some (ti p2), some (ti p3), some (ti p4), some (ti p5), some (ti z998), some (ti z990), some (ti z985), some (ti z988)]) dX12_holds_81 rfl rfl ?_
      refine GO.goto (tgt := 233) dX12_holds_83 (by decide) ?_
      refine GO.goto (tgt := 6) dX12_holds_233 (by decide) ?_
      refine GO.drop [true, true, true, true, true, true, true, true, true, false, false] rfl ?_
      exact ih977 z998 z990 V997 ⟨by omega, by omega, by omega, by omega, by omega, (by first | exact HI.rf w_0 | exact HI.eq (hk1 (by omega)) (by omega) (by omega)), (by first | exact fun _ => rfl | assumption | exact fun j => (vi_up e996 (Or.inl (K_ne h_p0 h993 w_1))).trans (by first | exact w1_j j | (rename_i h; exact h j) | simp_all)), trivial⟩ (by show ((p3 - z990)).toNat < ((p3 - i2)).toNat; omega)
    ·
      refine GO.iload dX12_holds_44 rfl ?_
      refine GO.iconst dX12_holds_46 ?_
      refine GO.icmp_ne (tgt := 86) dX12_holds_47 (by decide) ⟨by omega, by omega⟩ (ir_c rfl) (fun c1000 => ?_) (fun c1000 => ?_)
      ·
        refine GO.iload dX12_holds_86 rfl ?_
        refine GO.bipush dX12_holds_88 rfl ?_
        refine GO.icmp_ne (tgt := 116) dX12_holds_90 (by decide) ⟨by omega, by omega⟩ (ir_c rfl) (fun c1001 => ?_) (fun c1001 => ?_)
        ·
          refine GO.iload dX12_holds_116 rfl ?_
          refine GO.bipush dX12_holds_118 rfl ?_
          refine GO.icmp_eq (tgt := 130) dX12_holds_120 (by decide) ⟨by omega, by omega⟩ (ir_c rfl) (fun c1002 => ?_) (fun c1002 => ?_)
          ·
            have hka := hk4 (by omega)
            have hkb := hka.1
            have hkc := hka.2.1
            have hkd := hka.2.2.1
            refine GO.aload_n dX12_holds_130 rfl rfl ?_
            refine GO.getA (n := 220) h_x fl_RX12_205 rfl rfl rfl rfl dX12_holds_131 (fun hv1004 h1003 => ?_)
            refine GO.iload dX12_holds_134 rfl ?_
            refine GO.iconst dX12_holds_136 ?_
            refine GO.isub dX12_holds_137 ?_
            refine GO.iald (t := 71) rfl rfl h1003 ⟨by omega, by omega⟩ (by omega) (by omega) dX12_holds_138 (fun _ _ => ?_)
            refine GO.iload dX12_holds_139 rfl ?_
            refine GO.bipush dX12_holds_141 rfl ?_
            refine GO.icmp_ne (tgt := 150) dX12_holds_143 (by decide) ⟨by omega, by omega⟩ (ir_c rfl) (fun c1005 => ?_) (fun h => by exfalso; omega)
            refine GO.iconst dX12_holds_150 ?_
            refine GO.icmp_ne (tgt := 163) dX12_holds_151 (by decide) vi_ir (ir_c rfl) (fun c1006 => ?_) (fun c1006 => ?_)
            ·
              refine GO.iload dX12_holds_163 rfl ?_
              refine GO.iconst dX12_holds_165 ?_
              refine GO.isub dX12_holds_166 ?_
              refine GO.name (fun z1007 hz1008 => ?_)
              refine GO.istore (ls1 := [some (.ref x), some (.ref p0), some (ti p1), some (ti p2), some (ti p3), some (ti p4), some (ti p5), some (ti z1007), some (ti z990), some (ti z985), some (ti z988)]) dX12_holds_167 rfl rfl ?_
              refine GO.goto (tgt := 233) dX12_holds_169 (by decide) ?_
              refine GO.goto (tgt := 6) dX12_holds_233 (by decide) ?_
              refine GO.drop [true, true, true, true, true, true, true, true, true, false, false] rfl ?_
              have q1009 : -2147483648 ≤ p1 ∧ p1 ≤ 2147483647 := r_p1
              exact ih977 z1007 z990 Wi1 ⟨by omega, by omega, by omega, by omega, by omega, (by first | exact HI.rf w_0 | exact HI.eq (hk1 (by omega)) (by omega) (by omega) | exact HI.eq (hka.2) (by omega) (by omega) | exact HI.eq (hka.2.2.2.1) (by omega) (by omega) | exact HI.eq (hka.2.2.2.2) (by omega) (by omega)), (by first | exact fun _ => rfl | assumption | exact fun j => (vi_up @E (Or.inl (K_ne h_p0 @P w_1))).trans (by first | exact w1_j j | (rename_i h; exact h j) | simp_all)), trivial⟩ (by show ((p3 - z990)).toNat < ((p3 - i2)).toNat; omega)
            ·
              refine GO.iload_n dX12_holds_154 rfl rfl ?_
              refine GO.iload dX12_holds_155 rfl ?_
              refine GO.iadd dX12_holds_157 ?_
              refine GO.name (fun z1010 hz1011 => ?_)
              refine GO.istore (ls1 := [some (.ref x), some (.ref p0), some (ti p1), some (ti p2), some (ti p3), some (ti p4), some (ti p5), some (ti i1), some (ti z1010), some (ti z985), some (ti z988)]) dX12_holds_158 rfl rfl ?_
              refine GO.goto (tgt := 233) dX12_holds_160 (by decide) ?_
              refine GO.goto (tgt := 6) dX12_holds_233 (by decide) ?_
              refine GO.drop [true, true, true, true, true, true, true, true, true, false, false] rfl ?_
              have q1012 : -2147483648 ≤ p1 ∧ p1 ≤ 2147483647 := r_p1
              exact ih977 i1 z1010 Wi1 ⟨by omega, by omega, by omega, by omega, by omega, (by first | exact HI.rf w_0 | exact HI.eq (hk1 (by omega)) (by omega) (by omega) | exact HI.eq (hka.2) (by omega) (by omega) | exact HI.eq (hka.2.2.2.1) (by omega) (by omega) | exact HI.eq (hka.2.2.2.2) (by omega) (by omega)), (by first | exact fun _ => rfl | assumption | exact fun j => (vi_up @E (Or.inl (K_ne h_p0 @P w_1))).trans (by first | exact w1_j j | (rename_i h; exact h j) | simp_all)), trivial⟩ (by show ((p3 - z1010)).toNat < ((p3 - i2)).toNat; omega)
          ·
            refine GO.iload dX12_holds_123 rfl ?_
            refine GO.bipush dX12_holds_125 rfl ?_
            refine GO.icmp_ne (tgt := 172) dX12_holds_127 (by decide) ⟨by omega, by omega⟩ (ir_c rfl) (fun c1013 => ?_) (fun c1013 => ?_)
            ·
              have hka := hk3 (by omega)
              have hkb := hka.1
              refine GO.iload dX12_holds_172 rfl ?_
              refine GO.iconst dX12_holds_174 ?_
              refine GO.isub dX12_holds_175 ?_
              refine GO.name (fun z1014 hz1015 => ?_)
              refine GO.istore (ls1 := [some (.ref x), some (.ref p0), some (ti p1), some (ti p2), some (ti p3), some (ti p4), some (ti p5), some (ti z1014), some (ti z990), some (ti z985), some (ti z988)]) dX12_holds_176 rfl rfl ?_
              refine GO.iload dX12_holds_178 rfl ?_
              refine GO.iconst dX12_holds_180 ?_
              refine GO.icmp_eq (tgt := 191) dX12_holds_181 (by decide) ⟨by omega, by omega⟩ (ir_c rfl) (fun c1016 => ?_) (fun c1016 => ?_)
              ·
                refine GO.aload_n dX12_holds_191 rfl rfl ?_
                refine GO.getA (n := 220) h_x fl_RX12_205 rfl rfl rfl rfl dX12_holds_192 (fun hv1018 h1017 => ?_)
                refine GO.iload dX12_holds_195 rfl ?_
                refine GO.iald (t := 71) rfl rfl h1017 ⟨by omega, by omega⟩ (by omega) (by omega) dX12_holds_197 (fun _ _ => ?_)
                refine GO.if_ne (tgt := 203) dX12_holds_198 (by decide) vi_ir (fun c1019 => ?_) (fun c1019 => ?_)
                ·
                  refine GO.aload_n dX12_holds_203 rfl rfl ?_
                  refine GO.getRaw h_x fl_RX12_205 hv1018 dX12_holds_204 ?_
                  refine GO.iload dX12_holds_207 rfl ?_
                  refine GO.iconst dX12_holds_209 ?_
                  refine GO.isub dX12_holds_210 ?_
                  refine GO.iload dX12_holds_211 rfl ?_
                  refine GO.aload_n dX12_holds_213 rfl rfl ?_
                  refine GO.getRaw h_x fl_RX12_205 hv1018 dX12_holds_214 ?_
                  refine GO.iload dX12_holds_217 rfl ?_
                  refine GO.iconst dX12_holds_219 ?_
                  refine GO.isub dX12_holds_220 ?_
                  refine GO.iald (t := 71) rfl rfl h1017 ⟨by omega, by omega⟩ (by omega) (by omega) dX12_holds_221 (fun _ _ => ?_)
                  refine GO.aload_n dX12_holds_222 rfl rfl ?_
                  refine GO.getRaw h_x fl_RX12_205 hv1018 dX12_holds_223 ?_
                  refine GO.iload dX12_holds_226 rfl ?_
                  refine GO.iald (t := 71) rfl rfl h1017 ⟨by omega, by omega⟩ (by omega) (by omega) dX12_holds_228 (fun _ _ => ?_)
                  have q1026 : -2147483648 ≤ vi Wi1 (vq Wi1 x 81) (z1014).toNat ∧ vi Wi1 (vq Wi1 x 81) (z1014).toNat ≤ 2147483647 := vi_ir
                  refine GO.callS (N := mX12_reckon) dX12_holds_229 gS_RX12_588 (t_X12_reckon ⟨by omega, by omega⟩ vi_ir vi_ir (by omega) (by omega)) rfl [ti (z1014 - 1), .ref (vq Wi1 x 81)] rfl rfl (Nat.le_of_ble_eq_true rfl) rfl (k_ip fun X1027 r1028 h1029 => ?_)
                  refine GO.iast (t := 71) rfl rfl (by decide +kernel) h1017 ⟨by omega, by omega⟩ (by omega) (by omega) r1028 (r1028).1 (r1028).2 dX12_holds_232 (fun V1031 e1030 => ?_)
                  refine GO.goto (tgt := 6) dX12_holds_233 (by decide) ?_
                  refine GO.drop [true, true, true, true, true, true, true, true, true, false, false] rfl ?_
                  exact ih977 z1014 z990 V1031 ⟨by omega, by omega, by omega, by omega, by omega, (by first | exact HI.rf w_0 | exact HI.eq (hk1 (by omega)) (by omega) (by omega) | exact HI.eq (hka.2) (by omega) (by omega) | exact HI.eq (hka.2.2.2.1) (by omega) (by omega) | exact HI.eq (hka.2.2.2.2) (by omega) (by omega)), (by first | exact fun _ => rfl | assumption | exact fun j => (vi_up e1030 (Or.inl (K_ne h_p0 h1017 w_1))).trans (by first | exact w1_j j | (rename_i h; exact h j) | simp_all)), trivial⟩ (by show ((p3 - z990)).toNat < ((p3 - i2)).toNat; omega)
                ·
                  refine GO.iconst dX12_holds_201 ?_
                  exact GO.reti rfl rfl dX12_holds_202 ⟨rfl, _, rfl, (ir_c rfl), trivial⟩
              ·
                refine GO.iload dX12_holds_184 rfl ?_
                refine GO.bipush dX12_holds_186 rfl ?_
                refine GO.icmp_ne (tgt := 203) dX12_holds_188 (by decide) ⟨by omega, by omega⟩ (ir_c rfl) (fun c1032 => ?_) (fun c1032 => ?_)
                ·
                  refine GO.aload_n dX12_holds_203 rfl rfl ?_
                  refine GO.getA (n := 220) h_x fl_RX12_205 rfl rfl rfl rfl dX12_holds_204 (fun hv1034 h1033 => ?_)
                  refine GO.iload dX12_holds_207 rfl ?_
                  refine GO.iconst dX12_holds_209 ?_
                  refine GO.isub dX12_holds_210 ?_
                  refine GO.iload dX12_holds_211 rfl ?_
                  refine GO.aload_n dX12_holds_213 rfl rfl ?_
                  refine GO.getRaw h_x fl_RX12_205 hv1034 dX12_holds_214 ?_
                  refine GO.iload dX12_holds_217 rfl ?_
                  refine GO.iconst dX12_holds_219 ?_
                  refine GO.isub dX12_holds_220 ?_
                  refine GO.iald (t := 71) rfl rfl h1033 ⟨by omega, by omega⟩ (by omega) (by omega) dX12_holds_221 (fun _ _ => ?_)
                  refine GO.aload_n dX12_holds_222 rfl rfl ?_
                  refine GO.getRaw h_x fl_RX12_205 hv1034 dX12_holds_223 ?_
                  refine GO.iload dX12_holds_226 rfl ?_
                  refine GO.iald (t := 71) rfl rfl h1033 ⟨by omega, by omega⟩ (by omega) (by omega) dX12_holds_228 (fun _ _ => ?_)
                  have q1039 : -2147483648 ≤ vi Wi1 (vq Wi1 x 81) (z1014).toNat ∧ vi Wi1 (vq Wi1 x 81) (z1014).toNat ≤ 2147483647 := vi_ir
                  refine GO.callS (N := mX12_reckon) dX12_holds_229 gS_RX12_588 (t_X12_reckon ⟨by omega, by omega⟩ vi_ir vi_ir (by omega) (by omega)) rfl [ti (z1014 - 1), .ref (vq Wi1 x 81)] rfl rfl (Nat.le_of_ble_eq_true rfl) rfl (k_ip fun X1040 r1041 h1042 => ?_)
                  refine GO.iast (t := 71) rfl rfl (by decide +kernel) h1033 ⟨by omega, by omega⟩ (by omega) (by omega) r1041 (r1041).1 (r1041).2 dX12_holds_232 (fun V1044 e1043 => ?_)
                  refine GO.goto (tgt := 6) dX12_holds_233 (by decide) ?_
                  refine GO.drop [true, true, true, true, true, true, true, true, true, false, false] rfl ?_
                  exact ih977 z1014 z990 V1044 ⟨by omega, by omega, by omega, by omega, by omega, (by first | exact HI.rf w_0 | exact HI.eq (hk1 (by omega)) (by omega) (by omega) | exact HI.eq (hka.2) (by omega) (by omega) | exact HI.eq (hka.2.2.2.1) (by omega) (by omega) | exact HI.eq (hka.2.2.2.2) (by omega) (by omega)), (by first | exact fun _ => rfl | assumption | exact fun j => (vi_up e1043 (Or.inl (K_ne h_p0 h1033 w_1))).trans (by first | exact w1_j j | (rename_i h; exact h j) | simp_all)), trivial⟩ (by show ((p3 - z990)).toNat < ((p3 - i2)).toNat; omega)
                ·
                  refine GO.aload_n dX12_holds_191 rfl rfl ?_
                  refine GO.getA (n := 220) h_x fl_RX12_205 rfl rfl rfl rfl dX12_holds_192 (fun hv1046 h1045 => ?_)
                  refine GO.iload dX12_holds_195 rfl ?_
                  refine GO.iald (t := 71) rfl rfl h1045 ⟨by omega, by omega⟩ (by omega) (by omega) dX12_holds_197 (fun _ _ => ?_)
                  refine GO.if_ne (tgt := 203) dX12_holds_198 (by decide) vi_ir (fun c1047 => ?_) (fun c1047 => ?_)
                  ·
                    refine GO.aload_n dX12_holds_203 rfl rfl ?_
                    refine GO.getRaw h_x fl_RX12_205 hv1046 dX12_holds_204 ?_
                    refine GO.iload dX12_holds_207 rfl ?_
                    refine GO.iconst dX12_holds_209 ?_
                    refine GO.isub dX12_holds_210 ?_
                    refine GO.iload dX12_holds_211 rfl ?_
                    refine GO.aload_n dX12_holds_213 rfl rfl ?_
                    refine GO.getRaw h_x fl_RX12_205 hv1046 dX12_holds_214 ?_
                    refine GO.iload dX12_holds_217 rfl ?_
                    refine GO.iconst dX12_holds_219 ?_
                    refine GO.isub dX12_holds_220 ?_
                    refine GO.iald (t := 71) rfl rfl h1045 ⟨by omega, by omega⟩ (by omega) (by omega) dX12_holds_221 (fun _ _ => ?_)
                    refine GO.aload_n dX12_holds_222 rfl rfl ?_
                    refine GO.getRaw h_x fl_RX12_205 hv1046 dX12_holds_223 ?_
                    refine GO.iload dX12_holds_226 rfl ?_
                    refine GO.iald (t := 71) rfl rfl h1045 ⟨by omega, by omega⟩ (by omega) (by omega) dX12_holds_228 (fun _ _ => ?_)
                    have q1054 : -2147483648 ≤ vi Wi1 (vq Wi1 x 81) (z1014).toNat ∧ vi Wi1 (vq Wi1 x 81) (z1014).toNat ≤ 2147483647 := vi_ir
                    refine GO.callS (N := mX12_reckon) dX12_holds_229 gS_RX12_588 (t_X12_reckon ⟨by omega, by omega⟩ vi_ir vi_ir (by omega) (by omega)) rfl [ti (z1014 - 1), .ref (vq Wi1 x 81)] rfl rfl (Nat.le_of_ble_eq_true rfl) rfl (k_ip fun X1055 r1056 h1057 => ?_)
                    refine GO.iast (t := 71) rfl rfl (by decide +kernel) h1045 ⟨by omega, by omega⟩ (by omega) (by omega) r1056 (r1056).1 (r1056).2 dX12_holds_232 (fun V1059 e1058 => ?_)
                    refine GO.goto (tgt := 6) dX12_holds_233 (by decide) ?_
                    refine GO.drop [true, true, true, true, true, true, true, true, true, false, false] rfl ?_
                    exact ih977 z1014 z990 V1059 ⟨by omega, by omega, by omega, by omega, by omega, (by first | exact HI.rf w_0 | exact HI.eq (hk1 (by omega)) (by omega) (by omega) | exact HI.eq (hka.2) (by omega) (by omega) | exact HI.eq (hka.2.2.2.1) (by omega) (by omega) | exact HI.eq (hka.2.2.2.2) (by omega) (by omega)), (by first | exact fun _ => rfl | assumption | exact fun j => (vi_up e1058 (Or.inl (K_ne h_p0 h1045 w_1))).trans (by first | exact w1_j j | (rename_i h; exact h j) | simp_all)), trivial⟩ (by show ((p3 - z990)).toNat < ((p3 - i2)).toNat; omega)
                  ·
                    refine GO.iconst dX12_holds_201 ?_
                    exact GO.reti rfl rfl dX12_holds_202 ⟨rfl, _, rfl, (ir_c rfl), trivial⟩
            ·
              have hka := hk4 (by omega)
              have hkb := hka.1
              have hkc := hka.2.1
              have hkd := hka.2.2.1
              refine GO.aload_n dX12_holds_130 rfl rfl ?_
              refine GO.getA (n := 220) h_x fl_RX12_205 rfl rfl rfl rfl dX12_holds_131 (fun hv1061 h1060 => ?_)
              refine GO.iload dX12_holds_134 rfl ?_
              refine GO.iconst dX12_holds_136 ?_
              refine GO.isub dX12_holds_137 ?_
              refine GO.iald (t := 71) rfl rfl h1060 ⟨by omega, by omega⟩ (by omega) (by omega) dX12_holds_138 (fun _ _ => ?_)
              refine GO.iload dX12_holds_139 rfl ?_
              refine GO.bipush dX12_holds_141 rfl ?_
              refine GO.icmp_ne (tgt := 150) dX12_holds_143 (by decide) ⟨by omega, by omega⟩ (ir_c rfl) (fun h => by exfalso; omega) (fun c1062 => ?_)
              refine GO.iconst dX12_holds_146 ?_
              refine GO.goto (tgt := 151) dX12_holds_147 (by decide) ?_
              refine GO.icmp_ne (tgt := 163) dX12_holds_151 (by decide) vi_ir (ir_c rfl) (fun c1063 => ?_) (fun c1063 => ?_)
              ·
                refine GO.iload dX12_holds_163 rfl ?_
                refine GO.iconst dX12_holds_165 ?_
                refine GO.isub dX12_holds_166 ?_
                refine GO.name (fun z1064 hz1065 => ?_)
                refine GO.istore (ls1 := [some (.ref x), some (.ref p0), some (ti p1), some (ti p2), some (ti p3), some (ti p4), some (ti p5), some (ti z1064), some (ti z990), some (ti z985), some (ti z988)]) dX12_holds_167 rfl rfl ?_
                refine GO.goto (tgt := 233) dX12_holds_169 (by decide) ?_
                refine GO.goto (tgt := 6) dX12_holds_233 (by decide) ?_
                refine GO.drop [true, true, true, true, true, true, true, true, true, false, false] rfl ?_
                have q1066 : -2147483648 ≤ p1 ∧ p1 ≤ 2147483647 := r_p1
                exact ih977 z1064 z990 Wi1 ⟨by omega, by omega, by omega, by omega, by omega, (by first | exact HI.rf w_0 | exact HI.eq (hk1 (by omega)) (by omega) (by omega) | exact HI.eq (hka.2) (by omega) (by omega) | exact HI.eq (hka.2.2.2.1) (by omega) (by omega) | exact HI.eq (hka.2.2.2.2) (by omega) (by omega)), (by first | exact fun _ => rfl | assumption | exact fun j => (vi_up @E (Or.inl (K_ne h_p0 @P w_1))).trans (by first | exact w1_j j | (rename_i h; exact h j) | simp_all)), trivial⟩ (by show ((p3 - z990)).toNat < ((p3 - i2)).toNat; omega)
              ·
                refine GO.iload_n dX12_holds_154 rfl rfl ?_
                refine GO.iload dX12_holds_155 rfl ?_
                refine GO.iadd dX12_holds_157 ?_
                refine GO.name (fun z1067 hz1068 => ?_)
                refine GO.istore (ls1 := [some (.ref x), some (.ref p0), some (ti p1), some (ti p2), some (ti p3), some (ti p4), some (ti p5), some (ti i1), some (ti z1067), some (ti z985), some (ti z988)]) dX12_holds_158 rfl rfl ?_
                refine GO.goto (tgt := 233) dX12_holds_160 (by decide) ?_
                refine GO.goto (tgt := 6) dX12_holds_233 (by decide) ?_
                refine GO.drop [true, true, true, true, true, true, true, true, true, false, false] rfl ?_
                have q1069 : -2147483648 ≤ p1 ∧ p1 ≤ 2147483647 := r_p1
                exact ih977 i1 z1067 Wi1 ⟨by omega, by omega, by omega, by omega, by omega, (by first | exact HI.rf w_0 | exact HI.eq (hk1 (by omega)) (by omega) (by omega) | exact HI.eq (hka.2) (by omega) (by omega) | exact HI.eq (hka.2.2.2.1) (by omega) (by omega) | exact HI.eq (hka.2.2.2.2) (by omega) (by omega)), (by first | exact fun _ => rfl | assumption | exact fun j => (vi_up @E (Or.inl (K_ne h_p0 @P w_1))).trans (by first | exact w1_j j | (rename_i h; exact h j) | simp_all)), trivial⟩ (by show ((p3 - z1067)).toNat < ((p3 - i2)).toNat; omega)
        ·
          have hka := hk2 (by omega)
          have hkb := hka.1
          refine GO.aload_n dX12_holds_93 rfl rfl ?_
          refine GO.getA (n := 220) h_x fl_RX12_205 rfl rfl rfl rfl dX12_holds_94 (fun hv1071 h1070 => ?_)
          refine GO.iload dX12_holds_97 rfl ?_
          refine GO.iconst dX12_holds_99 ?_
          refine GO.isub dX12_holds_100 ?_
          refine GO.iconst dX12_holds_101 ?_
          refine GO.aload_n dX12_holds_102 rfl rfl ?_
          refine GO.getRaw h_x fl_RX12_205 hv1071 dX12_holds_103 ?_
          refine GO.iload dX12_holds_106 rfl ?_
          refine GO.iconst dX12_holds_108 ?_
          refine GO.isub dX12_holds_109 ?_
          refine GO.iald (t := 71) rfl rfl h1070 ⟨by omega, by omega⟩ (by omega) (by omega) dX12_holds_110 (fun _ _ => ?_)
          refine GO.isub dX12_holds_111 ?_
          refine GO.norm (fun z1074 r1075 hn1076 => ?_)
          refine GO.iast (t := 71) rfl rfl (by decide +kernel) h1070 ⟨by omega, by omega⟩ (by omega) (by omega) r1075 (r1075).1 (r1075).2 dX12_holds_112 (fun V1078 e1077 => ?_)
          refine GO.goto (tgt := 233) dX12_holds_113 (by decide) ?_
          refine GO.goto (tgt := 6) dX12_holds_233 (by decide) ?_
          refine GO.drop [true, true, true, true, true, true, true, true, true, false, false] rfl ?_
          exact ih977 i1 z990 V1078 ⟨by omega, by omega, by omega, by omega, by omega, (by first | exact HI.rf w_0 | exact HI.eq (hk1 (by omega)) (by omega) (by omega) | exact HI.eq (hka.2) (by omega) (by omega) | exact HI.eq (hka.2.2.2.1) (by omega) (by omega) | exact HI.eq (hka.2.2.2.2) (by omega) (by omega)), (by first | exact fun _ => rfl | assumption | exact fun j => (vi_up e1077 (Or.inl (K_ne h_p0 h1070 w_1))).trans (by first | exact w1_j j | (rename_i h; exact h j) | simp_all)), trivial⟩ (by show ((p3 - z990)).toNat < ((p3 - i2)).toNat; omega)
      ·
        refine GO.aload_n dX12_holds_50 rfl rfl ?_
        refine GO.getA (n := 220) h_x fl_RX12_205 rfl rfl rfl rfl dX12_holds_51 (fun hv1080 h1079 => ?_)
        refine GO.iload dX12_holds_54 rfl ?_
        refine GO.iload dX12_holds_56 rfl ?_
        refine GO.if_ne (tgt := 66) dX12_holds_58 (by decide) ⟨by omega, by omega⟩ (fun c1081 => ?_) (fun h => by exfalso; omega)
        refine GO.aload_n dX12_holds_66 rfl rfl ?_
        refine GO.iload dX12_holds_67 rfl ?_
        refine GO.iload dX12_holds_69 rfl ?_
        refine GO.iload dX12_holds_71 rfl ?_
        have q1082 : -2147483648 ≤ p4 ∧ p4 ≤ 2147483647 := r_p4
        refine GO.callV (ci := 11) (N := mX12_valueOf) dX12_holds_73 (RX12, TX12, 151) rfl gV_RX12_585 h_x (t_X12_valueOf h_x ⟨by omega, by omega⟩ r_p4 r_p5 (by omega) (by omega)) rfl [ti i1, .ref (vq Wi1 x 81)] rfl rfl (Nat.le_of_ble_eq_true rfl) rfl (k_ip fun X1083 r1084 h1085 => ?_)
        refine GO.iast (t := 71) rfl rfl (by decide +kernel) h1079 r_i1 (by omega) (by omega) r1084 (r1084).1 (r1084).2 dX12_holds_76 (fun V1087 e1086 => ?_)
        refine GO.iload dX12_holds_77 rfl ?_
        refine GO.iconst dX12_holds_79 ?_
        refine GO.iadd dX12_holds_80 ?_
        refine GO.name (fun z1088 hz1089 => ?_)
        refine GO.istore (ls1 := [some (.ref x), some (.ref p0), some (ti p1), some (ti p2), some (ti p3), some (ti p4), some (ti p5), some (ti z1088), some (ti z990), some (ti z985), some (ti z988)]) dX12_holds_81 rfl rfl ?_
        refine GO.goto (tgt := 233) dX12_holds_83 (by decide) ?_
        refine GO.goto (tgt := 6) dX12_holds_233 (by decide) ?_
        refine GO.drop [true, true, true, true, true, true, true, true, true, false, false] rfl ?_
        exact ih977 z1088 z990 V1087 ⟨by omega, by omega, by omega, by omega, by omega, (by first | exact HI.rf w_0 | exact HI.eq (hk1 (by omega)) (by omega) (by omega)), (by first | exact fun _ => rfl | assumption | exact fun j => (vi_up e1086 (Or.inl (K_ne h_p0 h1079 w_1))).trans (by first | exact w1_j j | (rename_i h; exact h j) | simp_all)), trivial⟩ (by show ((p3 - z990)).toNat < ((p3 - i2)).toNat; omega)
