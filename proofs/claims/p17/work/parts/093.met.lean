def mX11_isSea : MRec := (RX11, cX11_isSea, 1, (some .boolean), yX11_isSea, 1, 22, 0, 0, 0)
def mX4_put_t131 : MRec := (RX4, cX4_put, 3, (none : Option Jvm.ClassFile.FieldType), yX4_put, 0, 0, 0, 0, 10328999512347634358623676688012047497318823171316894051322637426162590488067364778518581413120551325743612687890989973504)
def mX11_cover : MRec := (RX11, cX11_cover, 4, (some .boolean), yX11_cover, 2, 42, 0, 0, 10328999512347634358623676688012047497318823171316894051322637426162590488067364778518581413120551325743612687890989973504)
def mX4_put_t132 : MRec := (RX4, cX4_put, 3, (none : Option Jvm.ClassFile.FieldType), yX4_put, 0, 0, 0, 0, 20657999024695268717247353376024094994637646342633788102645274852325180976134729557037162826241102651487225375781979947008)
def mX11_sea : MRec := (RX11, cX11_sea, 3, (some .boolean), yX11_sea, 2, 42, 0, 0, 20657999024695268717247353376024094994637646342633788102645274852325180976134729557037162826241102651487225375781979947008)
def mX11_shipOf : MRec := (RX11, cX11_shipOf, 2, (some (.object "IceTreaty$Ship")), yX11_shipOf, 0, 0, 0, 0, 0)
def mX11_voyage : MRec := (RX11, cX11_voyage, 7, (some .boolean), yX11_voyage, 3, 69, 0, 0, 7588550360256754183279148073529370729071901715047420004889927495717263796745535488)
def mX8_isFull_k27 : MRec := (RX8, cX8_isFull, 1, (some .boolean), yX8_isFull, 0, 0, 0, 0, 0)
def mX8_put_k27 : MRec := (RX8, cX8_put, 6, (none : Option Jvm.ClassFile.FieldType), yX8_put, 0, 0, 0, 0, 2707685248164858261307045101702230179137145581421695874189921465443966120903931272499975005961073806735733604454495675614232576)
def mX8_append_k27 : MRec := (RX8, cX8_append, 7, (some .int), yX8_append, 1, 25, 0, 0, 149502054158244092924433911175587146134101311725520811805218980426523451386779188765884012308292727730176730337253122960452521666231495796292864110055930014495647322563243897617920076027212326764544)
def mX11_sledge : MRec := (RX11, cX11_sledge, 8, (some .int), yX11_sledge, 4, 92, 0, 0, 149502054158244092924433911175587146134101311725520811805218980426523451386786935515518273034061695487692739372876119666381369593524171053510559582292709609981251306043089201004453328138269529997312)
def mX11_people : MRec := (RX11, cX11_people, 4, (some .boolean), yX11_people, 3, 66, 0, 0, 137438953472)
def mX11_hide : MRec := (RX11, cX11_hide, 4, (some .boolean), yX11_hide, 3, 66, 0, 0, 824633720832)
def mX11_declare : MRec := (RX11, cX11_declare, 5, (some .boolean), yX11_declare, 2, 44, 0, 0, 13194139533312)
set_option maxHeartbeats 1000000 in
theorem t_X11_isSea {K : Kmap} {V : Vmap} {p0 : Int} (r_p0 : ir p0) : MC mX11_isSea K V [ti p0] (IP K V (fun X => (X = 0 ∨ X = 1) ∧ (X ≠ 0 → p0 ≥ 0 ∧ p0 ≤ 3) ∧ (X = 0 → (p0 < 0 ∨ p0 > 3)))) := by
  refine MC.start 0 (by decide +kernel) rfl rfl rfl (ls0 := [some (ti p0)]) rfl ?_
  refine GO.iload_n dX11_isSea_0 rfl rfl ?_
  refine GO.iconst dX11_isSea_1 ?_
  refine GO.iconst dX11_isSea_2 ?_
  refine GO.callS (N := mX11_between) dX11_isSea_3 gS_RX11_112 (t_X11_between r_p0 (ir_c rfl) (ir_c rfl)) rfl [] rfl rfl (Nat.le_of_ble_eq_true rfl) rfl (k_ip fun X1 r2 h3 => ?_)
  exact GO.retz rfl rfl dX11_isSea_6 (by omega) ⟨rfl, rfl, _, rfl, r2, ⟨by omega, fun h => by omega, fun h => by omega⟩⟩

set_option maxHeartbeats 1000000 in
theorem t_X4_put_t131 {K : Kmap} {V : Vmap} {p0 n_p0 : Nat} {p1 : Int} {p2 : Int} (h_p0 : K p0 = some (132, n_p0)) (r_p1 : ir p1) (r_p2 : ir p2) : MC mX4_put_t131 K V [.ref p0, ti p1, ti p2] (VS K (fun V1 => (True) ∧ (V1 = rpv V p0 n_p0 p1 p2))) := by
  refine MC.start 0 (by decide +kernel) rfl rfl rfl (ls0 := [some (.ref p0), some (ti p1), some (ti p2)]) rfl ?_
  refine GO.aload_n dX4_put_0 rfl rfl ?_
  refine GO.ifnull dX4_put_1 ?_
  refine GO.iload_n dX4_put_4 rfl rfl ?_
  refine GO.if_lt (tgt := 18) dX4_put_5 (by decide) r_p1 (fun c1 => ?_) (fun c1 => ?_)
  ·
    exact GO.retv rfl rfl dX4_put_18 ⟨rfl, rfl, ⟨trivial, (by first | exact rpv_in (by assumption) (by omega) (by omega) | exact rpv_out (by omega))⟩⟩
  ·
    refine GO.iload_n dX4_put_8 rfl rfl ?_
    refine GO.aload_n dX4_put_9 rfl rfl ?_
    refine GO.alen h_p0 dX4_put_10 (fun h2 => ?_)
    refine GO.icmp_ge (tgt := 18) dX4_put_11 (by decide) r_p1 ⟨by omega, by omega⟩ (fun c3 => ?_) (fun c3 => ?_)
    ·
      exact GO.retv rfl rfl dX4_put_18 ⟨rfl, rfl, ⟨trivial, (by first | exact rpv_in (by assumption) (by omega) (by omega) | exact rpv_out (by omega))⟩⟩
    ·
      refine GO.aload_n dX4_put_14 rfl rfl ?_
      refine GO.iload_n dX4_put_15 rfl rfl ?_
      refine GO.iload_n dX4_put_16 rfl rfl ?_
      have q4 : -2147483648 ≤ p1 ∧ p1 ≤ 2147483647 := r_p1
      refine GO.iast (t := 131) rfl rfl (by decide +kernel) h_p0 r_p1 (by omega) (by omega) r_p2 (r_p2).1 (r_p2).2 dX4_put_17 (fun V6 e5 => ?_)
      exact GO.retv rfl rfl dX4_put_18 ⟨rfl, rfl, ⟨trivial, (by first | exact rpv_in (by assumption) (by omega) (by omega) | exact rpv_out (by omega))⟩⟩

set_option maxHeartbeats 1000000 in
theorem t_X11_cover {K : Kmap} {V : Vmap} {x : Nat} {p0 : Int} {p1 : Int} {p2 : Int} (h_x : K x = some (0, 10)) (r_p0 : ir p0) (r_p1 : ir p1) (r_p2 : ir p2) : MC mX11_cover K V [.ref x, ti p0, ti p1, ti p2] (IS K (fun X V1 => (X = 0 ∨ X = 1) ∧ (X ≠ 0 → p0 ≥ 0 ∧ p0 ≤ 3 ∧ p1 ≥ 0 ∧ p1 ≤ 11 ∧ p2 ≥ 0 ∧ p2 ≤ 100) ∧ (X = 0 → (p0 < 0 ∨ p0 > 3 ∨ p1 < 0 ∨ p1 > 11 ∨ p2 < 0 ∨ p2 > 100)))) := by
  refine MC.start 0 (by decide +kernel) rfl rfl rfl (ls0 := [some (.ref x), some (ti p0), some (ti p1), some (ti p2)]) rfl ?_
  refine GO.iload_n dX11_cover_0 rfl rfl ?_
  refine GO.callS (N := mX11_isSea) dX11_cover_1 gS_RX11_394 (t_X11_isSea r_p0) rfl [] rfl rfl (Nat.le_of_ble_eq_true rfl) rfl (k_ip fun X1 r2 h3 => ?_)
  refine GO.if_eq (tgt := 27) dX11_cover_4 (by decide) r2 (fun c4 => ?_) (fun c4 => ?_)
  ·
    have q5 := h3.2.2 (by omega)
    refine GO.iconst dX11_cover_27 ?_
    exact GO.retz rfl rfl dX11_cover_28 (Or.inl rfl) ⟨rfl, _, rfl, (ir_c rfl), ⟨Or.inl rfl, fun h => absurd rfl h, fun h => by omega⟩⟩
  ·
    have q6 := h3.2.1 (by omega)
    refine GO.iload_n dX11_cover_7 rfl rfl ?_
    refine GO.iconst dX11_cover_8 ?_
    refine GO.bipush dX11_cover_9 rfl ?_
    refine GO.callS (N := mX11_between) dX11_cover_11 gS_RX11_112 (t_X11_between r_p1 (ir_c rfl) (ir_c rfl)) rfl [] rfl rfl (Nat.le_of_ble_eq_true rfl) rfl (k_ip fun X7 r8 h9 => ?_)
    refine GO.if_eq (tgt := 27) dX11_cover_14 (by decide) r8 (fun c10 => ?_) (fun c10 => ?_)
    ·
      have q11 := h9.2.2 (by omega)
      refine GO.iconst dX11_cover_27 ?_
      exact GO.retz rfl rfl dX11_cover_28 (Or.inl rfl) ⟨rfl, _, rfl, (ir_c rfl), ⟨Or.inl rfl, fun h => absurd rfl h, fun h => by omega⟩⟩
    ·
      have q12 := h9.2.1 (by omega)
      refine GO.iload_n dX11_cover_17 rfl rfl ?_
      refine GO.iconst dX11_cover_18 ?_
      refine GO.bipush dX11_cover_19 rfl ?_
      refine GO.callS (N := mX11_between) dX11_cover_21 gS_RX11_112 (t_X11_between r_p2 (ir_c rfl) (ir_c rfl)) rfl [] rfl rfl (Nat.le_of_ble_eq_true rfl) rfl (k_ip fun X13 r14 h15 => ?_)
      refine GO.if_ne (tgt := 29) dX11_cover_24 (by decide) r14 (fun c16 => ?_) (fun c16 => ?_)
      ·
        have q17 := h15.2.1 (by omega)
        refine GO.aload_n dX11_cover_29 rfl rfl ?_
        refine GO.getR h_x fl_RX11_12 rfl rfl dX11_cover_30 (fun hv19 h18 => ?_)
        refine GO.getA (n := 48) h18 fl_RX11_397 rfl rfl rfl rfl dX11_cover_33 (fun hv21 h20 => ?_)
        refine GO.iload_n dX11_cover_36 rfl rfl ?_
        refine GO.bipush dX11_cover_37 rfl ?_
        refine GO.imul dX11_cover_39 ?_
        refine GO.iload_n dX11_cover_40 rfl rfl ?_
        refine GO.iadd dX11_cover_41 ?_
        refine GO.iload_n dX11_cover_42 rfl rfl ?_
        have q22 : -2147483648 ≤ p1 ∧ p1 ≤ 2147483647 := r_p1
        have q23 : -2147483648 ≤ p0 ∧ p0 ≤ 2147483647 := r_p0
        refine GO.callS (N := mX4_put_t131) dX11_cover_43 gS_RX11_108 (t_X4_put_t131 h20 ⟨by omega, by omega⟩ r_p2) rfl [] rfl rfl (Nat.le_of_ble_eq_true rfl) rfl (k_vs fun V26 h25 hF24 => ?_)
        have raw_put := h25.2
        have rw43 := h25.2
        refine GO.iconst dX11_cover_46 ?_
        exact GO.retz rfl rfl dX11_cover_47 (Or.inr rfl) ⟨rfl, _, rfl, (ir_c rfl), ⟨Or.inr rfl, fun h => by omega, fun h => absurd h (by decide)⟩⟩
      ·
        have q27 := h15.2.2 (by omega)
        refine GO.iconst dX11_cover_27 ?_
        exact GO.retz rfl rfl dX11_cover_28 (Or.inl rfl) ⟨rfl, _, rfl, (ir_c rfl), ⟨Or.inl rfl, fun h => absurd rfl h, fun h => by omega⟩⟩

set_option maxHeartbeats 1000000 in
theorem t_X4_put_t132 {K : Kmap} {V : Vmap} {p0 n_p0 : Nat} {p1 : Int} {p2 : Int} (h_p0 : K p0 = some (133, n_p0)) (r_p1 : ir p1) (r_p2 : ir p2) (q_0 : p2 ≥ 0) (q_1 : p2 ≤ 90) : MC mX4_put_t132 K V [.ref p0, ti p1, ti p2] (VS K (fun V1 => (True) ∧ (V1 = rpv V p0 n_p0 p1 p2))) := by
  refine MC.start 0 (by decide +kernel) rfl rfl rfl (ls0 := [some (.ref p0), some (ti p1), some (ti p2)]) rfl ?_
  refine GO.aload_n dX4_put_0 rfl rfl ?_
  refine GO.ifnull dX4_put_1 ?_
  refine GO.iload_n dX4_put_4 rfl rfl ?_
  refine GO.if_lt (tgt := 18) dX4_put_5 (by decide) r_p1 (fun c1 => ?_) (fun c1 => ?_)
  ·
    exact GO.retv rfl rfl dX4_put_18 ⟨rfl, rfl, ⟨trivial, (by first | exact rpv_in (by assumption) (by omega) (by omega) | exact rpv_out (by omega))⟩⟩
  ·
    refine GO.iload_n dX4_put_8 rfl rfl ?_
    refine GO.aload_n dX4_put_9 rfl rfl ?_
    refine GO.alen h_p0 dX4_put_10 (fun h2 => ?_)
    refine GO.icmp_ge (tgt := 18) dX4_put_11 (by decide) r_p1 ⟨by omega, by omega⟩ (fun c3 => ?_) (fun c3 => ?_)
    ·
      exact GO.retv rfl rfl dX4_put_18 ⟨rfl, rfl, ⟨trivial, (by first | exact rpv_in (by assumption) (by omega) (by omega) | exact rpv_out (by omega))⟩⟩
    ·
      refine GO.aload_n dX4_put_14 rfl rfl ?_
      refine GO.iload_n dX4_put_15 rfl rfl ?_
      refine GO.iload_n dX4_put_16 rfl rfl ?_
      have q4 : -2147483648 ≤ p1 ∧ p1 ≤ 2147483647 := r_p1
      have q6 : -2147483648 ≤ p2 ∧ p2 ≤ 2147483647 := r_p2
      refine GO.iast (t := 132) rfl rfl (by decide +kernel) h_p0 r_p1 (by omega) (by omega) r_p2 (by omega) (by omega) dX4_put_17 (fun V7 e5 => ?_)
      exact GO.retv rfl rfl dX4_put_18 ⟨rfl, rfl, ⟨trivial, (by first | exact rpv_in (by assumption) (by omega) (by omega) | exact rpv_out (by omega))⟩⟩

set_option maxHeartbeats 1000000 in
theorem t_X11_sea {K : Kmap} {V : Vmap} {x : Nat} {p0 : Int} {p1 : Int} (h_x : K x = some (0, 10)) (r_p0 : ir p0) (r_p1 : ir p1) : MC mX11_sea K V [.ref x, ti p0, ti p1] (IS K (fun X V1 => (X = 0 ∨ X = 1) ∧ (X ≠ 0 → p0 ≥ 0 ∧ p0 ≤ 3 ∧ p1 ≥ 1 ∧ p1 ≤ 90) ∧ (X = 0 → (p0 < 0 ∨ p0 > 3 ∨ p1 < 1 ∨ p1 > 90)))) := by
  refine MC.start 0 (by decide +kernel) rfl rfl rfl (ls0 := [some (.ref x), some (ti p0), some (ti p1)]) rfl ?_
  refine GO.iload_n dX11_sea_0 rfl rfl ?_
  refine GO.callS (N := mX11_isSea) dX11_sea_1 gS_RX11_394 (t_X11_isSea r_p0) rfl [] rfl rfl (Nat.le_of_ble_eq_true rfl) rfl (k_ip fun X1 r2 h3 => ?_)
  refine GO.if_eq (tgt := 17) dX11_sea_4 (by decide) r2 (fun c4 => ?_) (fun c4 => ?_)
  ·
    have q5 := h3.2.2 (by omega)
    refine GO.iconst dX11_sea_17 ?_
    exact GO.retz rfl rfl dX11_sea_18 (Or.inl rfl) ⟨rfl, _, rfl, (ir_c rfl), ⟨Or.inl rfl, fun h => absurd rfl h, fun h => by omega⟩⟩
  ·
    have q6 := h3.2.1 (by omega)
    refine GO.iload_n dX11_sea_7 rfl rfl ?_
    refine GO.iconst dX11_sea_8 ?_
    refine GO.bipush dX11_sea_9 rfl ?_
    refine GO.callS (N := mX11_between) dX11_sea_11 gS_RX11_112 (t_X11_between r_p1 (ir_c rfl) (ir_c rfl)) rfl [] rfl rfl (Nat.le_of_ble_eq_true rfl) rfl (k_ip fun X7 r8 h9 => ?_)
    refine GO.if_ne (tgt := 19) dX11_sea_14 (by decide) r8 (fun c10 => ?_) (fun c10 => ?_)
    ·
      have q11 := h9.2.1 (by omega)
      refine GO.aload_n dX11_sea_19 rfl rfl ?_
      refine GO.getR h_x fl_RX11_12 rfl rfl dX11_sea_20 (fun hv13 h12 => ?_)
      refine GO.getA (n := 4) h12 fl_RX11_400 rfl rfl rfl rfl dX11_sea_23 (fun hv15 h14 => ?_)
      refine GO.iload_n dX11_sea_26 rfl rfl ?_
      refine GO.iload_n dX11_sea_27 rfl rfl ?_
      have q16 : -2147483648 ≤ p1 ∧ p1 ≤ 2147483647 := r_p1
      refine GO.callS (N := mX4_put_t132) dX11_sea_28 gS_RX11_108 (t_X4_put_t132 h14 r_p0 r_p1 (by omega) (by omega)) rfl [] rfl rfl (Nat.le_of_ble_eq_true rfl) rfl (k_vs fun V19 h18 hF17 => ?_)
      have raw_put := h18.2
      have rw28 := h18.2
      refine GO.iconst dX11_sea_31 ?_
      exact GO.retz rfl rfl dX11_sea_32 (Or.inr rfl) ⟨rfl, _, rfl, (ir_c rfl), ⟨Or.inr rfl, fun h => by omega, fun h => absurd h (by decide)⟩⟩
    ·
      have q20 := h9.2.2 (by omega)
      refine GO.iconst dX11_sea_17 ?_
      exact GO.retz rfl rfl dX11_sea_18 (Or.inl rfl) ⟨rfl, _, rfl, (ir_c rfl), ⟨Or.inl rfl, fun h => absurd rfl h, fun h => by omega⟩⟩

set_option maxHeartbeats 1000000 in
theorem t_X11_shipOf {K : Kmap} {V : Vmap} {x : Nat} {p0 : Int} (h_x : K x = some (0, 10)) (r_p0 : ir p0) : MC mX11_shipOf K V [.ref x, ti p0] (RP K V 6 ((True) ∧ (SN V x → p0 < 0 ∨ vi V x 10 ≤ p0)) (fun q => (p0 ≥ 0 ∧ p0 < vi V x 10) ∧ (q = vq V (vq V x 9) (p0).toNat))) := by
  refine MC.start 0 (by decide +kernel) rfl rfl rfl (ls0 := [some (.ref x), some (ti p0)]) rfl ?_
  refine GO.iload_n dX11_shipOf_0 rfl rfl ?_
  refine GO.if_lt (tgt := 30) dX11_shipOf_1 (by decide) r_p0 (fun c1 => ?_) (fun c1 => ?_)
  ·
    refine GO.null dX11_shipOf_30 ?_
    exact GO.reta rfl rfl (Or.inl ⟨_, rfl⟩) dX11_shipOf_31 (Or.inl rfl) ⟨rfl, rfl, Or.inl ⟨rfl, ⟨trivial, (by first | exact fun _ => (by omega))⟩⟩⟩
  ·
    refine GO.iload_n dX11_shipOf_4 rfl rfl ?_
    refine GO.aload_n dX11_shipOf_5 rfl rfl ?_
    refine GO.getI h_x fl_RX11_64 rfl rfl dX11_shipOf_6 (fun l2 u3 => ?_)
    refine GO.icmp_ge (tgt := 30) dX11_shipOf_9 (by decide) r_p0 vi_ir (fun c4 => ?_) (fun c4 => ?_)
    ·
      refine GO.null dX11_shipOf_30 ?_
      exact GO.reta rfl rfl (Or.inl ⟨_, rfl⟩) dX11_shipOf_31 (Or.inl rfl) ⟨rfl, rfl, Or.inl ⟨rfl, ⟨trivial, (by first | exact fun _ => (by omega))⟩⟩⟩
    ·
      refine GO.iload_n dX11_shipOf_12 rfl rfl ?_
      refine GO.aload_n dX11_shipOf_13 rfl rfl ?_
      refine GO.getA (n := 10) h_x fl_RX11_60 rfl rfl rfl rfl dX11_shipOf_14 (fun hv6 h5 => ?_)
      refine GO.alen h5 dX11_shipOf_17 (fun h7 => ?_)
      have q9 : -2147483648 ≤ p0 ∧ p0 ≤ 2147483647 := r_p0
      refine GO.icmp_ge (tgt := 30) dX11_shipOf_18 (by decide) r_p0 ⟨by omega, by omega⟩ (fun h => by exfalso; omega) (fun c8 => ?_)
      refine GO.aload_n dX11_shipOf_21 rfl rfl ?_
      refine GO.getRaw h_x fl_RX11_60 hv6 dX11_shipOf_22 ?_
      refine GO.iload_n dX11_shipOf_25 rfl rfl ?_
      refine GO.aald (t := 7) rfl rfl h5 r_p0 (by omega) (by omega) dX11_shipOf_26 (fun hnul => ?_) (fun _ h12 => ?_)
      ·
        refine GO.goto (tgt := 31) dX11_shipOf_27 (by decide) ?_
        exact GO.reta rfl rfl (Or.inl ⟨_, rfl⟩) dX11_shipOf_31 (Or.inl rfl) ⟨rfl, rfl, Or.inl ⟨rfl, ⟨trivial, (by first | exact fun _ => (by omega) | exact fun hpn => absurd hnul (hpn p0.toNat (by omega)))⟩⟩⟩
      ·
        refine GO.goto (tgt := 31) dX11_shipOf_27 (by decide) ?_
        exact GO.reta rfl rfl (Or.inl ⟨_, rfl⟩) dX11_shipOf_31 (Or.inr ⟨_, rfl⟩) ⟨rfl, rfl, Or.inr ⟨_, rfl, h12, ⟨by omega, rfl⟩⟩⟩

set_option maxHeartbeats 1000000 in
theorem t_X11_voyage {K : Kmap} {V : Vmap} {x : Nat} {p0 : Int} {p1 : Int} {p2 : Int} {p3 : Int} (h_x : K x = some (0, 10)) (r_p0 : ir p0) (r_p1 : ir p1) (r_p2 : ir p2) (r_p3 : ir p3) : MC mX11_voyage K V [.ref x, ti p0, ti p1, ti p2, ti p3] (IS K (fun X V1 => (X = 0 ∨ X = 1) ∧ (X ≠ 0 → True) ∧ (X = 0 → True))) := by
  refine MC.start 2 (by decide +kernel) rfl rfl rfl (ls0 := [some (.ref x), some (ti p0), some (ti p1), some (ti p2), some (ti p3), none, none]) rfl ?_
  refine GO.aload_n dX11_voyage_0 rfl rfl ?_
  refine GO.iload_n dX11_voyage_1 rfl rfl ?_
  refine GO.callV (ci := 10) (N := mX11_shipOf) dX11_voyage_2 (RX11, TX11, 20) rfl gV_RX11_403 h_x (t_X11_shipOf h_x r_p0) rfl [] rfl rfl (Nat.le_of_ble_eq_true rfl) rfl (k_rp (fun h3 => ?_) (fun o1 h2 h3 => ?_))
  ·
    have rwn2 := h3.2
    have hn4 : SN V x → p0 < 0 ∨ vi V x 10 ≤ p0 := h3.2
    refine GO.astoreN (ls1 := [some (.ref x), some (ti p0), some (ti p1), some (ti p2), some (ti p3), some (.null), none]) dX11_voyage_5 rfl rfl ?_
    refine GO.aload_n dX11_voyage_7 rfl rfl ?_
    refine GO.iload_n dX11_voyage_8 rfl rfl ?_
    refine GO.callV (ci := 10) (N := mX11_standingStation) dX11_voyage_9 (RX11, TX11, 20) rfl gV_RX11_195 h_x (t_X11_standingStation h_x r_p2) rfl [] rfl rfl (Nat.le_of_ble_eq_true rfl) rfl (k_rp (fun h7 => ?_) (fun o5 h6 h7 => ?_))
    ·
      refine GO.astoreN (ls1 := [some (.ref x), some (ti p0), some (ti p1), some (ti p2), some (ti p3), some (.null), some (.null)]) dX11_voyage_12 rfl rfl ?_
      refine GO.aloadN dX11_voyage_14 rfl ?_
      refine GO.ifnullN (tgt := 45) dX11_voyage_16 (by decide) ?_
      refine GO.iconst dX11_voyage_45 ?_
      exact GO.retz rfl rfl dX11_voyage_46 (Or.inl rfl) ⟨rfl, _, rfl, (ir_c rfl), ⟨Or.inl rfl, fun _ => trivial, fun _ => trivial⟩⟩
    ·
      refine GO.astore (ls1 := [some (.ref x), some (ti p0), some (ti p1), some (ti p2), some (ti p3), some (.null), some (.ref o5)]) dX11_voyage_12 rfl rfl ?_
      refine GO.aloadN dX11_voyage_14 rfl ?_
      refine GO.ifnullN (tgt := 45) dX11_voyage_16 (by decide) ?_
      refine GO.iconst dX11_voyage_45 ?_
      exact GO.retz rfl rfl dX11_voyage_46 (Or.inl rfl) ⟨rfl, _, rfl, (ir_c rfl), ⟨Or.inl rfl, fun _ => trivial, fun _ => trivial⟩⟩
  ·
    have hp8 : p0 ≥ 0 ∧ p0 < vi V x 10 := h3.1
    have rwp2 := h3.2
    have hq9 : o1 = vq V (vq V x 9) (p0).toNat := h3.2
    refine GO.astore (ls1 := [some (.ref x), some (ti p0), some (ti p1), some (ti p2), some (ti p3), some (.ref o1), none]) dX11_voyage_5 rfl rfl ?_
    refine GO.aload_n dX11_voyage_7 rfl rfl ?_
    refine GO.iload_n dX11_voyage_8 rfl rfl ?_
    refine GO.callV (ci := 10) (N := mX11_standingStation) dX11_voyage_9 (RX11, TX11, 20) rfl gV_RX11_195 h_x (t_X11_standingStation h_x r_p2) rfl [] rfl rfl (Nat.le_of_ble_eq_true rfl) rfl (k_rp (fun h12 => ?_) (fun o10 h11 h12 => ?_))
    ·
      refine GO.astoreN (ls1 := [some (.ref x), some (ti p0), some (ti p1), some (ti p2), some (ti p3), some (.ref o1), some (.null)]) dX11_voyage_12 rfl rfl ?_
      refine GO.aload dX11_voyage_14 rfl ?_
      refine GO.ifnull dX11_voyage_16 ?_
      refine GO.iload_n dX11_voyage_19 rfl rfl ?_
      refine GO.callS (N := mX11_isSea) dX11_voyage_20 gS_RX11_394 (t_X11_isSea r_p1) rfl [] rfl rfl (Nat.le_of_ble_eq_true rfl) rfl (k_ip fun X13 r14 h15 => ?_)
      refine GO.if_eq (tgt := 45) dX11_voyage_23 (by decide) r14 (fun c16 => ?_) (fun c16 => ?_)
      ·
        have q17 := h15.2.2 (by omega)
        refine GO.iconst dX11_voyage_45 ?_
        exact GO.retz rfl rfl dX11_voyage_46 (Or.inl rfl) ⟨rfl, _, rfl, (ir_c rfl), ⟨Or.inl rfl, fun _ => trivial, fun _ => trivial⟩⟩
      ·
        have q18 := h15.2.1 (by omega)
        refine GO.aloadN dX11_voyage_26 rfl ?_
        refine GO.ifnullN (tgt := 45) dX11_voyage_28 (by decide) ?_
        refine GO.iconst dX11_voyage_45 ?_
        exact GO.retz rfl rfl dX11_voyage_46 (Or.inl rfl) ⟨rfl, _, rfl, (ir_c rfl), ⟨Or.inl rfl, fun _ => trivial, fun _ => trivial⟩⟩
    ·
      refine GO.astore (ls1 := [some (.ref x), some (ti p0), some (ti p1), some (ti p2), some (ti p3), some (.ref o1), some (.ref o10)]) dX11_voyage_12 rfl rfl ?_
      refine GO.aload dX11_voyage_14 rfl ?_
      refine GO.ifnull dX11_voyage_16 ?_
      refine GO.iload_n dX11_voyage_19 rfl rfl ?_
      refine GO.callS (N := mX11_isSea) dX11_voyage_20 gS_RX11_394 (t_X11_isSea r_p1) rfl [] rfl rfl (Nat.le_of_ble_eq_true rfl) rfl (k_ip fun X19 r20 h21 => ?_)
      refine GO.if_eq (tgt := 45) dX11_voyage_23 (by decide) r20 (fun c22 => ?_) (fun c22 => ?_)
      ·
        have q23 := h21.2.2 (by omega)
        refine GO.iconst dX11_voyage_45 ?_
        exact GO.retz rfl rfl dX11_voyage_46 (Or.inl rfl) ⟨rfl, _, rfl, (ir_c rfl), ⟨Or.inl rfl, fun _ => trivial, fun _ => trivial⟩⟩
      ·
        have q24 := h21.2.1 (by omega)
        refine GO.aload dX11_voyage_26 rfl ?_
        refine GO.ifnull dX11_voyage_28 ?_
        refine GO.iload dX11_voyage_31 rfl ?_
        refine GO.iconst dX11_voyage_33 ?_
        refine GO.aload dX11_voyage_34 rfl ?_
        refine GO.getI h2 fl_RX11_407 rfl rfl dX11_voyage_36 (fun _ _ => ?_)
        refine GO.callS (N := mX11_between) dX11_voyage_39 gS_RX11_112 (t_X11_between r_p3 (ir_c rfl) vi_ir) rfl [] rfl rfl (Nat.le_of_ble_eq_true rfl) rfl (k_ip fun X25 r26 h27 => ?_)
        refine GO.if_ne (tgt := 47) dX11_voyage_42 (by decide) r26 (fun c28 => ?_) (fun c28 => ?_)
        ·
          have q29 := h27.2.1 (by omega)
          refine GO.aload dX11_voyage_47 rfl ?_
          refine GO.getI h2 fl_RX11_410 rfl rfl dX11_voyage_49 (fun _ _ => ?_)
          refine GO.if_ne (tgt := 70) dX11_voyage_52 (by decide) vi_ir (fun c30 => ?_) (fun c30 => ?_)
          ·
            refine GO.iconst dX11_voyage_70 ?_
            exact GO.retz rfl rfl dX11_voyage_71 (Or.inl rfl) ⟨rfl, _, rfl, (ir_c rfl), ⟨Or.inl rfl, fun _ => trivial, fun _ => trivial⟩⟩
          ·
            refine GO.aload_n dX11_voyage_55 rfl rfl ?_
            refine GO.getR h_x fl_RX11_12 rfl rfl dX11_voyage_56 (fun hv32 h31 => ?_)
            refine GO.aload dX11_voyage_59 rfl ?_
            refine GO.getI h11 fl_RX11_344 rfl rfl dX11_voyage_61 (fun _ _ => ?_)
            refine GO.callV (ci := 0) (N := mX0_isNearSea) dX11_voyage_64 (RX0, TX0, 13) rfl gV_RX11_413 h31 (t_X0_isNearSea h31 vi_ir) rfl [] rfl rfl (Nat.le_of_ble_eq_true rfl) rfl (k_ip fun X33 r34 h35 => ?_)
            refine GO.if_ne (tgt := 72) dX11_voyage_67 (by decide) r34 (fun c36 => ?_) (fun c36 => ?_)
            ·
              refine GO.aload dX11_voyage_72 rfl ?_
              refine GO.iload_n dX11_voyage_74 rfl rfl ?_
              refine GO.iload_n dX11_voyage_75 rfl rfl ?_
              refine GO.iload dX11_voyage_76 rfl ?_
              refine GO.aload_n dX11_voyage_78 rfl rfl ?_
              refine GO.getRaw h_x fl_RX11_12 hv32 dX11_voyage_79 ?_
              refine GO.getI h31 fl_RX11_145 rfl rfl dX11_voyage_82 (fun l39 u40 => ?_)
              refine GO.aload_n dX11_voyage_85 rfl rfl ?_
              refine GO.getRaw h_x fl_RX11_12 hv32 dX11_voyage_86 ?_
              refine GO.getA (n := 4) h31 fl_RX11_400 rfl rfl rfl rfl dX11_voyage_89 (fun hv44 h43 => ?_)
              refine GO.iload_n dX11_voyage_92 rfl rfl ?_
              refine GO.callS (N := mX4_get) dX11_voyage_93 gS_RX11_253 (t_X4_get rfl h43 r_p1) rfl [ti (vi V (vq V x 0) 0), ti p3, ti p2, ti p1, .ref o1] rfl rfl (Nat.le_of_ble_eq_true rfl) rfl (k_ip fun X45 r46 h47 => ?_)
              have raw_get := h47.2
              have rw93 := h47.2
              refine GO.callV (ci := 6) (N := mX7_leave) dX11_voyage_96 (RX7, TX7, 11) rfl gV_RX11_416 h2 (t_X7_leave h2 r_p1 r_p2 r_p3 vi_ir r46) rfl [] rfl rfl (Nat.le_of_ble_eq_true rfl) rfl (k_vs fun V50 h49 hF48 => ?_)
              refine GO.aload_n dX11_voyage_99 rfl rfl ?_
              refine GO.iconst dX11_voyage_100 ?_
              refine GO.iload dX11_voyage_101 rfl ?_
              refine GO.callV (ci := 10) (N := mX11_tally) dX11_voyage_103 (RX11, TX11, 20) rfl gV_RX11_192 h_x (t_X11_tally h_x (ir_c rfl) r_p3) rfl [] rfl rfl (Nat.le_of_ble_eq_true rfl) rfl (k_vs fun V53 h52 hF51 => ?_)
              refine GO.iconst dX11_voyage_106 ?_
              exact GO.retz rfl rfl dX11_voyage_107 (Or.inr rfl) ⟨rfl, _, rfl, (ir_c rfl), ⟨Or.inr rfl, fun _ => trivial, fun _ => trivial⟩⟩
            ·
              refine GO.iconst dX11_voyage_70 ?_
              exact GO.retz rfl rfl dX11_voyage_71 (Or.inl rfl) ⟨rfl, _, rfl, (ir_c rfl), ⟨Or.inl rfl, fun _ => trivial, fun _ => trivial⟩⟩
        ·
          have q54 := h27.2.2 (by omega)
          refine GO.iconst dX11_voyage_45 ?_
          exact GO.retz rfl rfl dX11_voyage_46 (Or.inl rfl) ⟨rfl, _, rfl, (ir_c rfl), ⟨Or.inl rfl, fun _ => trivial, fun _ => trivial⟩⟩

set_option maxHeartbeats 1000000 in
theorem t_X8_isFull_k27 {K : Kmap} {V : Vmap} {x : Nat} (h_x : K x = some (0, 27)) : MC mX8_isFull_k27 K V [.ref x] (IP K V (fun X => (X = 0 ∨ X = 1) ∧ (X ≠ 0 → vi V x 3 ≥ 40) ∧ (X = 0 → vi V x 3 ≤ 39))) := by
  refine MC.start 0 (by decide +kernel) rfl rfl rfl (ls0 := [some (.ref x)]) rfl ?_
  refine GO.aload_n dX8_isFull_0 rfl rfl ?_
  refine GO.getI h_x fl_RX8_9_k27 rfl rfl dX8_isFull_1 (fun l1 u2 => ?_)
  refine GO.aload_n dX8_isFull_4 rfl rfl ?_
  refine GO.getI h_x fl_RX8_18_k27 rfl rfl dX8_isFull_5 (fun l3 u4 => ?_)
  refine GO.icmp_lt (tgt := 15) dX8_isFull_8 (by decide) vi_ir vi_ir (fun c5 => ?_) (fun c5 => ?_)
  ·
    refine GO.iconst dX8_isFull_15 ?_
    exact GO.retz rfl rfl dX8_isFull_16 (Or.inl rfl) ⟨rfl, rfl, _, rfl, (ir_c rfl), ⟨Or.inl rfl, fun h => absurd rfl h, fun h => by omega⟩⟩
  ·
    refine GO.iconst dX8_isFull_11 ?_
    refine GO.goto (tgt := 16) dX8_isFull_12 (by decide) ?_
    exact GO.retz rfl rfl dX8_isFull_16 (Or.inr rfl) ⟨rfl, rfl, _, rfl, (ir_c rfl), ⟨Or.inr rfl, fun h => by omega, fun h => absurd h (by decide)⟩⟩

set_option maxHeartbeats 1000000 in
theorem t_X8_put_k27 {K : Kmap} {V : Vmap} {x : Nat} {p0 : Int} {p1 : Int} {p2 : Int} (h_x : K x = some (0, 27)) (r_p0 : ir p0) (r_p1 : ir p1) (r_p2 : ir p2) : MC mX8_put_k27 K V [.ref x, ti p0, ti p1, ti p2] (VS K (fun V1 => (True))) := by
  refine MC.start 2 (by decide +kernel) rfl rfl rfl (ls0 := [some (.ref x), some (ti p0), some (ti p1), some (ti p2), none, none]) rfl ?_
  refine GO.iload_n dX8_put_0 rfl rfl ?_
  refine GO.aload_n dX8_put_1 rfl rfl ?_
  refine GO.getI h_x fl_RX8_15_k27 rfl rfl dX8_put_2 (fun l1 u2 => ?_)
  refine GO.imul dX8_put_5 ?_
  refine GO.norm (fun z3 r4 hn5 => ?_)
  refine GO.iload_n dX8_put_6 rfl rfl ?_
  refine GO.iadd dX8_put_7 ?_
  refine GO.norm (fun z6 r7 hn8 => ?_)
  refine GO.istore (ls1 := [some (.ref x), some (ti p0), some (ti p1), some (ti p2), some (ti z6), none]) dX8_put_8 rfl rfl ?_
  refine GO.iload_n dX8_put_10 rfl rfl ?_
  have hj18 : ∀ (z17 : Int), ∀ (l19 : 0 ≤ z17), ∀ (u20 : z17 ≤ 1), GO mX8_put_k27 K V (VS K (fun V1 => (True))) K V 0 0 39 [some (.ref x), some (ti p0), some (ti p1), some (ti p2), some (ti z6), none] [ti z17] := by
    intro z17 l19 u20
    have r21 : ir z17 := ⟨by omega, by omega⟩
    refine GO.istore (ls1 := [some (.ref x), some (ti p0), some (ti p1), some (ti p2), some (ti z6), some (ti z17)]) dX8_put_39 rfl rfl ?_
    refine GO.iload dX8_put_41 rfl ?_
    refine GO.if_eq (tgt := 69) dX8_put_43 (by decide) r21 (fun c22 => ?_) (fun c22 => ?_)
    ·
      exact GO.retv rfl rfl dX8_put_69 ⟨rfl, rfl, trivial⟩
    ·
      refine GO.iload dX8_put_46 rfl ?_
      refine GO.if_lt (tgt := 69) dX8_put_48 (by decide) r7 (fun c23 => ?_) (fun c23 => ?_)
      ·
        exact GO.retv rfl rfl dX8_put_69 ⟨rfl, rfl, trivial⟩
      ·
        refine GO.iload dX8_put_51 rfl ?_
        refine GO.aload_n dX8_put_53 rfl rfl ?_
        refine GO.getA (n := 200) h_x fl_RX8_27_k27 rfl rfl rfl rfl dX8_put_54 (fun hv25 h24 => ?_)
        refine GO.alen h24 dX8_put_57 (fun h26 => ?_)
        refine GO.icmp_ge (tgt := 69) dX8_put_58 (by decide) r7 ⟨by omega, by omega⟩ (fun c27 => ?_) (fun c27 => ?_)
        ·
          exact GO.retv rfl rfl dX8_put_69 ⟨rfl, rfl, trivial⟩
        ·
          refine GO.aload_n dX8_put_61 rfl rfl ?_
          refine GO.getRaw h_x fl_RX8_27_k27 hv25 dX8_put_62 ?_
          refine GO.iload dX8_put_65 rfl ?_
          refine GO.iload_n dX8_put_67 rfl rfl ?_
          have q30 : -2147483648 ≤ z6 ∧ z6 ≤ 2147483647 := r7
          refine GO.iast (t := 149) rfl rfl (by decide +kernel) h24 r7 (by omega) (by omega) r_p2 (r_p2).1 (r_p2).2 dX8_put_68 (fun V32 e31 => ?_)
          exact GO.retv rfl rfl dX8_put_69 ⟨rfl, rfl, trivial⟩
  have hj41 : GO mX8_put_k27 K V (VS K (fun V1 => (True))) K V 0 0 38 [some (.ref x), some (ti p0), some (ti p1), some (ti p2), some (ti z6), none] [] := by
    skip
    refine GO.iconst dX8_put_38 ?_
    exact hj18 0 (by omega) (by omega)
  refine GO.if_lt (tgt := 38) dX8_put_11 (by decide) r_p0 (fun c42 => ?_) (fun c42 => ?_)
  ·
    exact hj41 
  ·
    refine GO.iload_n dX8_put_14 rfl rfl ?_
    refine GO.aload_n dX8_put_15 rfl rfl ?_
    refine GO.getI h_x fl_RX8_9_k27 rfl rfl dX8_put_16 (fun l43 u44 => ?_)
    refine GO.icmp_ge (tgt := 38) dX8_put_19 (by decide) r_p0 vi_ir (fun c45 => ?_) (fun c45 => ?_)
    ·
      exact hj41 
    ·
      refine GO.iload_n dX8_put_22 rfl rfl ?_
      refine GO.if_lt (tgt := 38) dX8_put_23 (by decide) r_p1 (fun c46 => ?_) (fun c46 => ?_)
      ·
        exact hj41 
      ·
        refine GO.iload_n dX8_put_26 rfl rfl ?_
        refine GO.aload_n dX8_put_27 rfl rfl ?_
        refine GO.getI h_x fl_RX8_15_k27 rfl rfl dX8_put_28 (fun l47 u48 => ?_)
        refine GO.icmp_ge (tgt := 38) dX8_put_31 (by decide) r_p1 vi_ir (fun c49 => ?_) (fun c49 => ?_)
        ·
          exact hj41 
        ·
          refine GO.iconst dX8_put_34 ?_
          refine GO.goto (tgt := 39) dX8_put_35 (by decide) ?_
          exact hj18 1 (by omega) (by omega)

set_option maxHeartbeats 1000000 in
theorem t_X8_append_k27 {K : Kmap} {V : Vmap} {x : Nat} {p0 : Int} {p1 : Int} {p2 : Int} {p3 : Int} {p4 : Int} (h_x : K x = some (0, 27)) (r_p0 : ir p0) (r_p1 : ir p1) (r_p2 : ir p2) (r_p3 : ir p3) (r_p4 : ir p4) : MC mX8_append_k27 K V [.ref x, ti p0, ti p1, ti p2, ti p3, ti p4] (IS K (fun X V1 => True)) := by
  refine MC.start 1 (by decide +kernel) rfl rfl rfl (ls0 := [some (.ref x), some (ti p0), some (ti p1), some (ti p2), some (ti p3), some (ti p4), none]) rfl ?_
  refine GO.aload_n dX8_append_0 rfl rfl ?_
  refine GO.callV (ci := 27) (N := mX8_isFull_k27) dX8_append_1 (RX8, TX8, 4) rfl gV_RX8_31 h_x (t_X8_isFull_k27 h_x) rfl [] rfl rfl (Nat.le_of_ble_eq_true rfl) rfl (k_ip fun X1 r2 h3 => ?_)
  refine GO.if_eq (tgt := 9) dX8_append_4 (by decide) r2 (fun c4 => ?_) (fun c4 => ?_)
  ·
    have q5 := h3.2.2 (by omega)
    refine GO.aload_n dX8_append_9 rfl rfl ?_
    refine GO.getI h_x fl_RX8_9_k27 rfl rfl dX8_append_10 (fun l6 u7 => ?_)
    refine GO.name (fun z8 hz9 => ?_)
    have r10 : ir z8 := hz9 ▸ vi_ir
    refine GO.istore (ls1 := [some (.ref x), some (ti p0), some (ti p1), some (ti p2), some (ti p3), some (ti p4), some (ti z8)]) dX8_append_13 rfl rfl ?_
    refine GO.aload_n dX8_append_15 rfl rfl ?_
    refine GO.dup dX8_append_16 rfl ?_
    refine GO.getI h_x fl_RX8_9_k27 rfl rfl dX8_append_17 (fun l11 u12 => ?_)
    refine GO.iconst dX8_append_20 ?_
    refine GO.iadd dX8_append_21 ?_
    have q14 : -2147483648 ≤ vi V x 3 ∧ vi V x 3 ≤ 2147483647 := vi_ir
    have q15 : -2147483648 ≤ z8 ∧ z8 ≤ 2147483647 := r10
    refine GO.putI h_x fp_RX8_9_k27 rfl (by decide +kernel) ⟨by omega, by omega⟩ (by omega) (by omega) dX8_append_22 (fun V16 e13 => ?_)
    refine GO.aload_n dX8_append_25 rfl rfl ?_
    refine GO.iload dX8_append_26 rfl ?_
    refine GO.iconst dX8_append_28 ?_
    refine GO.iload_n dX8_append_29 rfl rfl ?_
    refine GO.callV (ci := 27) (N := mX8_put_k27) dX8_append_30 (RX8, TX8, 4) rfl gV_RX8_35 h_x (t_X8_put_k27 h_x r10 (ir_c rfl) r_p0) rfl [] rfl rfl (Nat.le_of_ble_eq_true rfl) rfl (k_vs fun V19 h18 hF17 => ?_)
    refine GO.aload_n dX8_append_33 rfl rfl ?_
    refine GO.iload dX8_append_34 rfl ?_
    refine GO.iconst dX8_append_36 ?_
    refine GO.iload_n dX8_append_37 rfl rfl ?_
    refine GO.callV (ci := 27) (N := mX8_put_k27) dX8_append_38 (RX8, TX8, 4) rfl gV_RX8_35 h_x (t_X8_put_k27 h_x r10 (ir_c rfl) r_p1) rfl [] rfl rfl (Nat.le_of_ble_eq_true rfl) rfl (k_vs fun V22 h21 hF20 => ?_)
    refine GO.aload_n dX8_append_41 rfl rfl ?_
    refine GO.iload dX8_append_42 rfl ?_
    refine GO.iconst dX8_append_44 ?_
    refine GO.iload_n dX8_append_45 rfl rfl ?_
    refine GO.callV (ci := 27) (N := mX8_put_k27) dX8_append_46 (RX8, TX8, 4) rfl gV_RX8_35 h_x (t_X8_put_k27 h_x r10 (ir_c rfl) r_p2) rfl [] rfl rfl (Nat.le_of_ble_eq_true rfl) rfl (k_vs fun V25 h24 hF23 => ?_)
    refine GO.aload_n dX8_append_49 rfl rfl ?_
    refine GO.iload dX8_append_50 rfl ?_
    refine GO.iconst dX8_append_52 ?_
    refine GO.iload dX8_append_53 rfl ?_
    refine GO.callV (ci := 27) (N := mX8_put_k27) dX8_append_55 (RX8, TX8, 4) rfl gV_RX8_35 h_x (t_X8_put_k27 h_x r10 (ir_c rfl) r_p3) rfl [] rfl rfl (Nat.le_of_ble_eq_true rfl) rfl (k_vs fun V28 h27 hF26 => ?_)
    refine GO.aload_n dX8_append_58 rfl rfl ?_
    refine GO.iload dX8_append_59 rfl ?_
    refine GO.iconst dX8_append_61 ?_
    refine GO.iload dX8_append_62 rfl ?_
    refine GO.callV (ci := 27) (N := mX8_put_k27) dX8_append_64 (RX8, TX8, 4) rfl gV_RX8_35 h_x (t_X8_put_k27 h_x r10 (ir_c rfl) r_p4) rfl [] rfl rfl (Nat.le_of_ble_eq_true rfl) rfl (k_vs fun V31 h30 hF29 => ?_)
    refine GO.iload dX8_append_67 rfl ?_
    exact GO.reti rfl rfl dX8_append_69 ⟨rfl, _, rfl, r10, trivial⟩
  ·
    have q32 := h3.2.1 (by omega)
    refine GO.iconst dX8_append_7 ?_
    exact GO.reti rfl rfl dX8_append_8 ⟨rfl, _, rfl, (ir_c rfl), trivial⟩

set_option maxHeartbeats 1000000 in
theorem t_X11_sledge {K : Kmap} {V : Vmap} {x : Nat} {p0 : Int} {p1 : Int} {p2 : Int} (h_x : K x = some (0, 10)) (r_p0 : ir p0) (r_p1 : ir p1) (r_p2 : ir p2) : MC mX11_sledge K V [.ref x, ti p0, ti p1, ti p2] (IS K (fun X V1 => True)) := by
  refine MC.start 4 (by decide +kernel) rfl rfl rfl (ls0 := [some (.ref x), some (ti p0), some (ti p1), some (ti p2), none, none, none, none]) rfl ?_
  refine GO.aload_n dX11_sledge_0 rfl rfl ?_
  refine GO.iload_n dX11_sledge_1 rfl rfl ?_
  refine GO.callV (ci := 10) (N := mX11_standingStation) dX11_sledge_2 (RX11, TX11, 20) rfl gV_RX11_195 h_x (t_X11_standingStation h_x r_p0) rfl [] rfl rfl (Nat.le_of_ble_eq_true rfl) rfl (k_rp (fun h3 => ?_) (fun o1 h2 h3 => ?_))
  ·
    refine GO.astoreN (ls1 := [some (.ref x), some (ti p0), some (ti p1), some (ti p2), some (.null), none, none, none]) dX11_sledge_5 rfl rfl ?_
    refine GO.aload_n dX11_sledge_7 rfl rfl ?_
    refine GO.iload_n dX11_sledge_8 rfl rfl ?_
    refine GO.callV (ci := 10) (N := mX11_standingStation) dX11_sledge_9 (RX11, TX11, 20) rfl gV_RX11_195 h_x (t_X11_standingStation h_x r_p1) rfl [] rfl rfl (Nat.le_of_ble_eq_true rfl) rfl (k_rp (fun h6 => ?_) (fun o4 h5 h6 => ?_))
    ·
      refine GO.astoreN (ls1 := [some (.ref x), some (ti p0), some (ti p1), some (ti p2), some (.null), some (.null), none, none]) dX11_sledge_12 rfl rfl ?_
      refine GO.aloadN dX11_sledge_14 rfl ?_
      refine GO.ifnullN (tgt := 42) dX11_sledge_16 (by decide) ?_
      refine GO.iconst dX11_sledge_42 ?_
      exact GO.reti rfl rfl dX11_sledge_43 ⟨rfl, _, rfl, (ir_c rfl), trivial⟩
    ·
      refine GO.astore (ls1 := [some (.ref x), some (ti p0), some (ti p1), some (ti p2), some (.null), some (.ref o4), none, none]) dX11_sledge_12 rfl rfl ?_
      refine GO.aloadN dX11_sledge_14 rfl ?_
      refine GO.ifnullN (tgt := 42) dX11_sledge_16 (by decide) ?_
      refine GO.iconst dX11_sledge_42 ?_
      exact GO.reti rfl rfl dX11_sledge_43 ⟨rfl, _, rfl, (ir_c rfl), trivial⟩
  ·
    refine GO.astore (ls1 := [some (.ref x), some (ti p0), some (ti p1), some (ti p2), some (.ref o1), none, none, none]) dX11_sledge_5 rfl rfl ?_
    refine GO.aload_n dX11_sledge_7 rfl rfl ?_
    refine GO.iload_n dX11_sledge_8 rfl rfl ?_
    refine GO.callV (ci := 10) (N := mX11_standingStation) dX11_sledge_9 (RX11, TX11, 20) rfl gV_RX11_195 h_x (t_X11_standingStation h_x r_p1) rfl [] rfl rfl (Nat.le_of_ble_eq_true rfl) rfl (k_rp (fun h9 => ?_) (fun o7 h8 h9 => ?_))
    ·
      refine GO.astoreN (ls1 := [some (.ref x), some (ti p0), some (ti p1), some (ti p2), some (.ref o1), some (.null), none, none]) dX11_sledge_12 rfl rfl ?_
      refine GO.aload dX11_sledge_14 rfl ?_
      refine GO.ifnull dX11_sledge_16 ?_
      refine GO.aloadN dX11_sledge_19 rfl ?_
      refine GO.ifnullN (tgt := 42) dX11_sledge_21 (by decide) ?_
      refine GO.iconst dX11_sledge_42 ?_
      exact GO.reti rfl rfl dX11_sledge_43 ⟨rfl, _, rfl, (ir_c rfl), trivial⟩
    ·
      refine GO.astore (ls1 := [some (.ref x), some (ti p0), some (ti p1), some (ti p2), some (.ref o1), some (.ref o7), none, none]) dX11_sledge_12 rfl rfl ?_
      refine GO.aload dX11_sledge_14 rfl ?_
      refine GO.ifnull dX11_sledge_16 ?_
      refine GO.aload dX11_sledge_19 rfl ?_
      refine GO.ifnull dX11_sledge_21 ?_
      refine GO.iload_n dX11_sledge_24 rfl rfl ?_
      refine GO.iload_n dX11_sledge_25 rfl rfl ?_
      refine GO.icmp_eq (tgt := 42) dX11_sledge_26 (by decide) r_p0 r_p1 (fun c10 => ?_) (fun c10 => ?_)
      ·
        refine GO.iconst dX11_sledge_42 ?_
        exact GO.reti rfl rfl dX11_sledge_43 ⟨rfl, _, rfl, (ir_c rfl), trivial⟩
      ·
        refine GO.aload dX11_sledge_29 rfl ?_
        refine GO.getI h2 fl_RX11_173 rfl rfl dX11_sledge_31 (fun _ _ => ?_)
        refine GO.aload dX11_sledge_34 rfl ?_
        refine GO.getI h8 fl_RX11_173 rfl rfl dX11_sledge_36 (fun _ _ => ?_)
        refine GO.icmp_eq (tgt := 44) dX11_sledge_39 (by decide) vi_ir vi_ir (fun c11 => ?_) (fun c11 => ?_)
        ·
          refine GO.iload_n dX11_sledge_44 rfl rfl ?_
          refine GO.iconst dX11_sledge_45 ?_
          refine GO.sipush dX11_sledge_46 rfl ?_
          refine GO.callS (N := mX11_between) dX11_sledge_49 gS_RX11_112 (t_X11_between r_p2 (ir_c rfl) (ir_c rfl)) rfl [] rfl rfl (Nat.le_of_ble_eq_true rfl) rfl (k_ip fun X12 r13 h14 => ?_)
          refine GO.if_eq (tgt := 74) dX11_sledge_52 (by decide) r13 (fun c15 => ?_) (fun c15 => ?_)
          ·
            have q16 := h14.2.2 (by omega)
            refine GO.iconst dX11_sledge_74 ?_
            exact GO.reti rfl rfl dX11_sledge_75 ⟨rfl, _, rfl, (ir_c rfl), trivial⟩
          ·
            have q17 := h14.2.1 (by omega)
            refine GO.iload_n dX11_sledge_55 rfl rfl ?_
            refine GO.aload dX11_sledge_56 rfl ?_
            refine GO.getI h2 fl_RX11_186 rfl rfl dX11_sledge_58 (fun _ _ => ?_)
            refine GO.icmp_gt (tgt := 74) dX11_sledge_61 (by decide) r_p2 vi_ir (fun c18 => ?_) (fun c18 => ?_)
            ·
              refine GO.iconst dX11_sledge_74 ?_
              exact GO.reti rfl rfl dX11_sledge_75 ⟨rfl, _, rfl, (ir_c rfl), trivial⟩
            ·
              refine GO.aload_n dX11_sledge_64 rfl rfl ?_
              refine GO.getR h_x fl_RX11_72 rfl rfl dX11_sledge_65 (fun hv20 h19 => ?_)
              refine GO.callV (ci := 27) (N := mX8_isFull_k27) dX11_sledge_68 (RX8, TX8, 4) rfl gV_RX11_265 h19 (t_X8_isFull_k27 h19) rfl [] rfl rfl (Nat.le_of_ble_eq_true rfl) rfl (k_ip fun X21 r22 h23 => ?_)
              refine GO.if_eq (tgt := 76) dX11_sledge_71 (by decide) r22 (fun c24 => ?_) (fun c24 => ?_)
              ·
                have q25 := h23.2.2 (by omega)
                refine GO.aload_n dX11_sledge_76 rfl rfl ?_
                refine GO.getR h_x fl_RX11_12 rfl rfl dX11_sledge_77 (fun hv27 h26 => ?_)
                refine GO.aload dX11_sledge_80 rfl ?_
                refine GO.getI h2 fl_RX11_344 rfl rfl dX11_sledge_82 (fun _ _ => ?_)
                refine GO.aload dX11_sledge_85 rfl ?_
                refine GO.getI h8 fl_RX11_344 rfl rfl dX11_sledge_87 (fun _ _ => ?_)
                refine GO.callV (ci := 0) (N := mX0_leastDays) dX11_sledge_90 (RX0, TX0, 13) rfl gV_RX11_418 h26 (t_X0_leastDays h26 vi_ir vi_ir) rfl [] rfl rfl (Nat.le_of_ble_eq_true rfl) rfl (k_is fun X28 V32 r29 h30 hF31 => ?_)
                refine GO.istore (ls1 := [some (.ref x), some (ti p0), some (ti p1), some (ti p2), some (.ref o1), some (.ref o7), some (ti X28), none]) dX11_sledge_93 rfl rfl ?_
                refine GO.iload dX11_sledge_95 rfl ?_
                refine GO.iconst dX11_sledge_97 ?_
                refine GO.icmp_eq (tgt := 107) dX11_sledge_98 (by decide) r29 (ir_c rfl) (fun c33 => ?_) (fun c33 => ?_)
                ·
                  refine GO.iconst dX11_sledge_107 ?_
                  exact GO.reti rfl rfl dX11_sledge_108 ⟨rfl, _, rfl, (ir_c rfl), trivial⟩
                ·
                  refine GO.iload dX11_sledge_101 rfl ?_
                  refine GO.iload_n dX11_sledge_103 rfl rfl ?_
                  refine GO.icmp_lt (tgt := 109) dX11_sledge_104 (by decide) r29 r_p2 (fun c34 => ?_) (fun c34 => ?_)
                  ·
                    refine GO.aload dX11_sledge_109 rfl ?_
                    refine GO.dup dX11_sledge_111 rfl ?_
                    refine GO.getI h2 fl_RX11_186 rfl rfl dX11_sledge_112 (fun _ _ => ?_)
                    refine GO.iload_n dX11_sledge_115 rfl rfl ?_
                    refine GO.isub dX11_sledge_116 ?_
                    refine GO.norm (fun z35 r36 hn37 => ?_)
                    refine GO.putI h2 fp_RX11_186 rfl (by decide +kernel) r36 (r36).1 (r36).2 dX11_sledge_117 (fun V39 e38 => ?_)
                    refine GO.aload_n dX11_sledge_120 rfl rfl ?_
                    refine GO.iconst dX11_sledge_121 ?_
                    refine GO.iload dX11_sledge_122 rfl ?_
                    refine GO.callV (ci := 10) (N := mX11_tally) dX11_sledge_124 (RX11, TX11, 20) rfl gV_RX11_192 h_x (t_X11_tally h_x (ir_c rfl) r29) rfl [] rfl rfl (Nat.le_of_ble_eq_true rfl) rfl (k_vs fun V42 h41 hF40 => ?_)
                    refine GO.aload_n dX11_sledge_127 rfl rfl ?_
                    refine GO.getRaw h_x fl_RX11_12 (Eq.trans (hF40 _ _ _ h_x h_x (by decide +kernel)) (Eq.trans (uq_ne e38 (Or.inl (K_ne h_x h2 (by decide)))) (Eq.trans (hF31 _ _ _ h_x h_x (by decide +kernel)) hv27))) dX11_sledge_128 ?_
                    refine GO.getI h26 fl_RX11_145 rfl rfl dX11_sledge_131 (fun l45 u46 => ?_)
                    refine GO.iconst dX11_sledge_134 ?_
                    refine GO.iload dX11_sledge_135 rfl ?_
                    refine GO.callS (N := mJ9_max_7cf53) dX11_sledge_137 gS_RX11_296 (t_J9_max_7cf53 (ir_c rfl) r29) rfl [ti (vi V42 (vq V x 0) 0)] rfl rfl (Nat.le_of_ble_eq_true rfl) rfl (k_ip fun X47 r48 h49 => ?_)
                    have q50 : -2147483648 ≤ X28 ∧ X28 ≤ 2147483647 := r29
                    have q51 : -2147483648 ≤ X47 ∧ X47 ≤ 2147483647 := r48
                    have q52 : -2147483648 ≤ p2 ∧ p2 ≤ 2147483647 := r_p2
                    have q53 : -2147483648 ≤ vi V o1 7 ∧ vi V o1 7 ≤ 2147483647 := vi_ir
                    refine GO.iadd dX11_sledge_140 ?_
                    refine GO.name (fun z54 hz55 => ?_)
                    refine GO.istore (ls1 := [some (.ref x), some (ti p0), some (ti p1), some (ti p2), some (.ref o1), some (.ref o7), some (ti X28), some (ti z54)]) dX11_sledge_141 rfl rfl ?_
                    refine GO.aload_n dX11_sledge_143 rfl rfl ?_
                    refine GO.getRaw h_x fl_RX11_72 (Eq.trans (hF40 _ _ _ h_x h_x (by decide +kernel)) (Eq.trans (uq_ne e38 (Or.inl (K_ne h_x h2 (by decide)))) (Eq.trans (hF31 _ _ _ h_x h_x (by decide +kernel)) hv20))) dX11_sledge_144 ?_
                    refine GO.iload_n dX11_sledge_147 rfl rfl ?_
                    refine GO.aload dX11_sledge_148 rfl ?_
                    refine GO.getI h8 fl_RX11_344 rfl rfl dX11_sledge_150 (fun _ _ => ?_)
                    refine GO.iload dX11_sledge_153 rfl ?_
                    refine GO.iload_n dX11_sledge_155 rfl rfl ?_
                    refine GO.iload dX11_sledge_156 rfl ?_
                    refine GO.isub dX11_sledge_158 ?_
                    refine GO.norm (fun z58 r59 hn60 => ?_)
                    refine GO.iconst dX11_sledge_159 ?_
                    refine GO.callV (ci := 27) (N := mX8_append_k27) dX11_sledge_160 (RX8, TX8, 4) rfl gV_RX11_205 h19 (t_X8_append_k27 h19 r_p1 vi_ir ⟨by omega, by omega⟩ r59 (ir_c rfl)) rfl [] rfl rfl (Nat.le_of_ble_eq_true rfl) rfl (k_is fun X61 V65 r62 h63 hF64 => ?_)
                    refine GO.pop dX11_sledge_163 rfl ?_
                    refine GO.iload dX11_sledge_164 rfl ?_
                    exact GO.reti rfl rfl dX11_sledge_166 ⟨rfl, _, rfl, ⟨by omega, by omega⟩, trivial⟩
                  ·
                    refine GO.iconst dX11_sledge_107 ?_
                    exact GO.reti rfl rfl dX11_sledge_108 ⟨rfl, _, rfl, (ir_c rfl), trivial⟩
              ·
                have q66 := h23.2.1 (by omega)
                refine GO.iconst dX11_sledge_74 ?_
                exact GO.reti rfl rfl dX11_sledge_75 ⟨rfl, _, rfl, (ir_c rfl), trivial⟩
        ·
          refine GO.iconst dX11_sledge_42 ?_
          exact GO.reti rfl rfl dX11_sledge_43 ⟨rfl, _, rfl, (ir_c rfl), trivial⟩

set_option maxHeartbeats 1000000 in
theorem t_X11_people {K : Kmap} {V : Vmap} {x : Nat} {p0 : Int} {p1 : Int} (h_x : K x = some (0, 10)) (r_p0 : ir p0) (r_p1 : ir p1) : MC mX11_people K V [.ref x, ti p0, ti p1] (IS K (fun X V1 => (X = 0 ∨ X = 1) ∧ (X ≠ 0 → True) ∧ (X = 0 → True))) := by
  refine MC.start 1 (by decide +kernel) rfl rfl rfl (ls0 := [some (.ref x), some (ti p0), some (ti p1), none]) rfl ?_
  refine GO.aload_n dX11_people_0 rfl rfl ?_
  refine GO.iload_n dX11_people_1 rfl rfl ?_
  refine GO.callV (ci := 10) (N := mX11_standingStation) dX11_people_2 (RX11, TX11, 20) rfl gV_RX11_195 h_x (t_X11_standingStation h_x r_p0) rfl [] rfl rfl (Nat.le_of_ble_eq_true rfl) rfl (k_rp (fun h3 => ?_) (fun o1 h2 h3 => ?_))
  ·
    refine GO.astore_nN (ls1 := [some (.ref x), some (ti p0), some (ti p1), some (.null)]) dX11_people_5 rfl rfl rfl ?_
    refine GO.aload_nN dX11_people_6 rfl rfl ?_
    refine GO.ifnullN (tgt := 39) dX11_people_7 (by decide) ?_
    refine GO.iconst dX11_people_39 ?_
    exact GO.retz rfl rfl dX11_people_40 (Or.inl rfl) ⟨rfl, _, rfl, (ir_c rfl), ⟨Or.inl rfl, fun _ => trivial, fun _ => trivial⟩⟩
  ·
    refine GO.astore_n (ls1 := [some (.ref x), some (ti p0), some (ti p1), some (.ref o1)]) dX11_people_5 rfl rfl rfl ?_
    refine GO.aload_n dX11_people_6 rfl rfl ?_
    refine GO.ifnull dX11_people_7 ?_
    refine GO.iload_n dX11_people_10 rfl rfl ?_
    refine GO.sipush dX11_people_11 rfl ?_
    refine GO.sipush dX11_people_14 rfl ?_
    refine GO.callS (N := mX11_between) dX11_people_17 gS_RX11_112 (t_X11_between r_p1 (ir_c rfl) (ir_c rfl)) rfl [] rfl rfl (Nat.le_of_ble_eq_true rfl) rfl (k_ip fun X4 r5 h6 => ?_)
    refine GO.if_eq (tgt := 39) dX11_people_20 (by decide) r5 (fun c7 => ?_) (fun c7 => ?_)
    ·
      have q8 := h6.2.2 (by omega)
      refine GO.iconst dX11_people_39 ?_
      exact GO.retz rfl rfl dX11_people_40 (Or.inl rfl) ⟨rfl, _, rfl, (ir_c rfl), ⟨Or.inl rfl, fun _ => trivial, fun _ => trivial⟩⟩
    ·
      have q9 := h6.2.1 (by omega)
      refine GO.aload_n dX11_people_23 rfl rfl ?_
      refine GO.getI h2 fl_RX11_183 rfl rfl dX11_people_24 (fun _ _ => ?_)
      refine GO.iload_n dX11_people_27 rfl rfl ?_
      refine GO.iadd dX11_people_28 ?_
      refine GO.norm (fun z10 r11 hn12 => ?_)
      refine GO.iconst dX11_people_29 ?_
      refine GO.sipush dX11_people_30 rfl ?_
      refine GO.callS (N := mX11_between) dX11_people_33 gS_RX11_112 (t_X11_between r11 (ir_c rfl) (ir_c rfl)) rfl [] rfl rfl (Nat.le_of_ble_eq_true rfl) rfl (k_ip fun X13 r14 h15 => ?_)
      refine GO.if_ne (tgt := 41) dX11_people_36 (by decide) r14 (fun c16 => ?_) (fun c16 => ?_)
      ·
        have q17 := h15.2.1 (by omega)
        refine GO.aload_n dX11_people_41 rfl rfl ?_
        refine GO.dup dX11_people_42 rfl ?_
        refine GO.getI h2 fl_RX11_183 rfl rfl dX11_people_43 (fun _ _ => ?_)
        refine GO.iload_n dX11_people_46 rfl rfl ?_
        refine GO.iadd dX11_people_47 ?_
        refine GO.norm (fun z18 r19 hn20 => ?_)
        refine GO.putI h2 fp_RX11_183 rfl (by decide +kernel) r19 (r19).1 (r19).2 dX11_people_48 (fun V22 e21 => ?_)
        refine GO.iconst dX11_people_51 ?_
        exact GO.retz rfl rfl dX11_people_52 (Or.inr rfl) ⟨rfl, _, rfl, (ir_c rfl), ⟨Or.inr rfl, fun _ => trivial, fun _ => trivial⟩⟩
      ·
        have q23 := h15.2.2 (by omega)
        refine GO.iconst dX11_people_39 ?_
        exact GO.retz rfl rfl dX11_people_40 (Or.inl rfl) ⟨rfl, _, rfl, (ir_c rfl), ⟨Or.inl rfl, fun _ => trivial, fun _ => trivial⟩⟩

set_option maxHeartbeats 1000000 in
theorem t_X11_hide {K : Kmap} {V : Vmap} {x : Nat} {p0 : Int} {p1 : Int} (h_x : K x = some (0, 10)) (r_p0 : ir p0) (r_p1 : ir p1) : MC mX11_hide K V [.ref x, ti p0, ti p1] (IS K (fun X V1 => (X = 0 ∨ X = 1) ∧ (X ≠ 0 → True) ∧ (X = 0 → True))) := by
  refine MC.start 1 (by decide +kernel) rfl rfl rfl (ls0 := [some (.ref x), some (ti p0), some (ti p1), none]) rfl ?_
  refine GO.aload_n dX11_hide_0 rfl rfl ?_
  refine GO.iload_n dX11_hide_1 rfl rfl ?_
  refine GO.callV (ci := 10) (N := mX11_standingStation) dX11_hide_2 (RX11, TX11, 20) rfl gV_RX11_195 h_x (t_X11_standingStation h_x r_p0) rfl [] rfl rfl (Nat.le_of_ble_eq_true rfl) rfl (k_rp (fun h3 => ?_) (fun o1 h2 h3 => ?_))
  ·
    refine GO.astore_nN (ls1 := [some (.ref x), some (ti p0), some (ti p1), some (.null)]) dX11_hide_5 rfl rfl rfl ?_
    refine GO.aload_nN dX11_hide_6 rfl rfl ?_
    refine GO.ifnullN (tgt := 27) dX11_hide_7 (by decide) ?_
    refine GO.iconst dX11_hide_27 ?_
    exact GO.retz rfl rfl dX11_hide_28 (Or.inl rfl) ⟨rfl, _, rfl, (ir_c rfl), ⟨Or.inl rfl, fun _ => trivial, fun _ => trivial⟩⟩
  ·
    refine GO.astore_n (ls1 := [some (.ref x), some (ti p0), some (ti p1), some (.ref o1)]) dX11_hide_5 rfl rfl rfl ?_
    refine GO.aload_n dX11_hide_6 rfl rfl ?_
    refine GO.ifnull dX11_hide_7 ?_
    refine GO.iload_n dX11_hide_10 rfl rfl ?_
    refine GO.aload_n dX11_hide_11 rfl rfl ?_
    refine GO.getI h2 fl_RX11_186 rfl rfl dX11_hide_12 (fun _ _ => ?_)
    refine GO.icmp_gt (tgt := 27) dX11_hide_15 (by decide) r_p1 vi_ir (fun c4 => ?_) (fun c4 => ?_)
    ·
      refine GO.iconst dX11_hide_27 ?_
      exact GO.retz rfl rfl dX11_hide_28 (Or.inl rfl) ⟨rfl, _, rfl, (ir_c rfl), ⟨Or.inl rfl, fun _ => trivial, fun _ => trivial⟩⟩
    ·
      refine GO.iload_n dX11_hide_18 rfl rfl ?_
      refine GO.aload_n dX11_hide_19 rfl rfl ?_
      refine GO.getI h2 fl_RX11_421 rfl rfl dX11_hide_20 (fun _ _ => ?_)
      refine GO.ineg dX11_hide_23 ?_
      refine GO.norm (fun z5 r6 hn7 => ?_)
      refine GO.icmp_ge (tgt := 29) dX11_hide_24 (by decide) r_p1 r6 (fun c8 => ?_) (fun c8 => ?_)
      ·
        refine GO.aload_n dX11_hide_29 rfl rfl ?_
        refine GO.dup dX11_hide_30 rfl ?_
        refine GO.getI h2 fl_RX11_186 rfl rfl dX11_hide_31 (fun _ _ => ?_)
        refine GO.iload_n dX11_hide_34 rfl rfl ?_
        refine GO.isub dX11_hide_35 ?_
        refine GO.norm (fun z9 r10 hn11 => ?_)
        refine GO.putI h2 fp_RX11_186 rfl (by decide +kernel) r10 (r10).1 (r10).2 dX11_hide_36 (fun V13 e12 => ?_)
        refine GO.aload_n dX11_hide_39 rfl rfl ?_
        refine GO.dup dX11_hide_40 rfl ?_
        refine GO.getI h2 fl_RX11_421 rfl rfl dX11_hide_41 (fun _ _ => ?_)
        refine GO.iload_n dX11_hide_44 rfl rfl ?_
        refine GO.iadd dX11_hide_45 ?_
        refine GO.norm (fun z14 r15 hn16 => ?_)
        refine GO.putI h2 fp_RX11_421 rfl (by decide +kernel) r15 (r15).1 (r15).2 dX11_hide_46 (fun V18 e17 => ?_)
        refine GO.iconst dX11_hide_49 ?_
        exact GO.retz rfl rfl dX11_hide_50 (Or.inr rfl) ⟨rfl, _, rfl, (ir_c rfl), ⟨Or.inr rfl, fun _ => trivial, fun _ => trivial⟩⟩
      ·
        refine GO.iconst dX11_hide_27 ?_
        exact GO.retz rfl rfl dX11_hide_28 (Or.inl rfl) ⟨rfl, _, rfl, (ir_c rfl), ⟨Or.inl rfl, fun _ => trivial, fun _ => trivial⟩⟩

set_option maxHeartbeats 1000000 in
theorem t_X11_declare {K : Kmap} {V : Vmap} {x : Nat} {p0 : Int} {p1 : Int} {p2 : Int} (h_x : K x = some (0, 10)) (r_p0 : ir p0) (r_p1 : ir p1) (r_p2 : ir p2) : MC mX11_declare K V [.ref x, ti p0, ti p1, ti p2] (IS K (fun X V1 => (X = 0 ∨ X = 1) ∧ (X ≠ 0 → True) ∧ (X = 0 → True))) := by
  refine MC.start 1 (by decide +kernel) rfl rfl rfl (ls0 := [some (.ref x), some (ti p0), some (ti p1), some (ti p2), none]) rfl ?_
  refine GO.aload_n dX11_declare_0 rfl rfl ?_
  refine GO.iload_n dX11_declare_1 rfl rfl ?_
  refine GO.iconst dX11_declare_2 ?_
  refine GO.callV (ci := 10) (N := mX11_placeOf) dX11_declare_3 (RX11, TX11, 20) rfl gV_RX11_169 h_x (t_X11_placeOf h_x r_p0 (ir_c rfl)) rfl [] rfl rfl (Nat.le_of_ble_eq_true rfl) rfl (k_rp (fun h3 => ?_) (fun o1 h2 h3 => ?_))
  ·
    refine GO.astoreN (ls1 := [some (.ref x), some (ti p0), some (ti p1), some (ti p2), some (.null)]) dX11_declare_6 rfl rfl ?_
    refine GO.aloadN dX11_declare_8 rfl ?_
    refine GO.ifnullN (tgt := 35) dX11_declare_10 (by decide) ?_
    refine GO.iconst dX11_declare_35 ?_
    exact GO.retz rfl rfl dX11_declare_36 (Or.inl rfl) ⟨rfl, _, rfl, (ir_c rfl), ⟨Or.inl rfl, fun _ => trivial, fun _ => trivial⟩⟩
  ·
    refine GO.astore (ls1 := [some (.ref x), some (ti p0), some (ti p1), some (ti p2), some (.ref o1)]) dX11_declare_6 rfl rfl ?_
    refine GO.aload dX11_declare_8 rfl ?_
    refine GO.ifnull dX11_declare_10 ?_
    refine GO.iload_n dX11_declare_13 rfl rfl ?_
    refine GO.iconst dX11_declare_14 ?_
    refine GO.sipush dX11_declare_15 rfl ?_
    refine GO.callS (N := mX11_between) dX11_declare_18 gS_RX11_112 (t_X11_between r_p1 (ir_c rfl) (ir_c rfl)) rfl [] rfl rfl (Nat.le_of_ble_eq_true rfl) rfl (k_ip fun X4 r5 h6 => ?_)
    refine GO.if_eq (tgt := 35) dX11_declare_21 (by decide) r5 (fun c7 => ?_) (fun c7 => ?_)
    ·
      have q8 := h6.2.2 (by omega)
      refine GO.iconst dX11_declare_35 ?_
      exact GO.retz rfl rfl dX11_declare_36 (Or.inl rfl) ⟨rfl, _, rfl, (ir_c rfl), ⟨Or.inl rfl, fun _ => trivial, fun _ => trivial⟩⟩
    ·
      have q9 := h6.2.1 (by omega)
      refine GO.iload_n dX11_declare_24 rfl rfl ?_
      refine GO.iconst dX11_declare_25 ?_
      refine GO.ldcw (X := 1000000) dX11_declare_26 gw_1159 rfl ?_
      refine GO.callS (N := mX11_between) dX11_declare_29 gS_RX11_112 (t_X11_between r_p2 (ir_c rfl) (ir_c rfl)) rfl [] rfl rfl (Nat.le_of_ble_eq_true rfl) rfl (k_ip fun X10 r11 h12 => ?_)
      refine GO.if_ne (tgt := 37) dX11_declare_32 (by decide) r11 (fun c13 => ?_) (fun c13 => ?_)
      ·
        have q14 := h12.2.1 (by omega)
        refine GO.aload dX11_declare_37 rfl ?_
        refine GO.iload_n dX11_declare_39 rfl rfl ?_
        refine GO.putI h2 fp_RX11_425 rfl (by decide +kernel) r_p1 (r_p1).1 (r_p1).2 dX11_declare_40 (fun V16 e15 => ?_)
        refine GO.aload dX11_declare_43 rfl ?_
        refine GO.iload_n dX11_declare_45 rfl rfl ?_
        refine GO.putI h2 fp_RX11_428 rfl (by decide +kernel) r_p2 (r_p2).1 (r_p2).2 dX11_declare_46 (fun V18 e17 => ?_)
        refine GO.iconst dX11_declare_49 ?_
        exact GO.retz rfl rfl dX11_declare_50 (Or.inr rfl) ⟨rfl, _, rfl, (ir_c rfl), ⟨Or.inr rfl, fun _ => trivial, fun _ => trivial⟩⟩
      ·
        have q19 := h12.2.2 (by omega)
        refine GO.iconst dX11_declare_35 ?_
        exact GO.retz rfl rfl dX11_declare_36 (Or.inl rfl) ⟨rfl, _, rfl, (ir_c rfl), ⟨Or.inl rfl, fun _ => trivial, fun _ => trivial⟩⟩
