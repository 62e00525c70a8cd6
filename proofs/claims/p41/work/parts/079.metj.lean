def mJ1_canEncode_9a6ad : MRec := (RJ1, cJ1_canEncode_9a6ad, 1, (some .boolean), yJ1_canEncode_9a6ad, 0, 0, 0, 0, 0)
def mJ9_max_7cf53 : MRec := (RJ9, cJ9_max_7cf53, 2, (some .int), yJ9_max_7cf53, 0, 0, 0, 0, 0)
def mJ9_min_7cf53 : MRec := (RJ9, cJ9_min_7cf53, 2, (some .int), yJ9_min_7cf53, 0, 0, 0, 0, 0)
def mX4_get : MRec := (RX4, cX4_get, 2, (some .int), yX4_get, 0, 0, 0, 0, 0)
set_option maxHeartbeats 1000000 in
theorem t_J1_canEncode_9a6ad {K : Kmap} {V : Vmap} {p0 : Int} (r_p0 : ir p0) : MC mJ1_canEncode_9a6ad K V [ti p0] (IP K V (fun X => (X = 0 ∨ X = 1) ∧ (X ≠ 0 → True) ∧ (X = 0 → True) ∧ (X = 0 → ¬ (0 ≤ p0 ∧ p0 ≤ 255)))) := by
  refine MC.start 0 (by decide +kernel) rfl rfl rfl (ls0 := [some (ti p0)]) rfl ?_
  refine GO.iload_n dJ1_canEncode_9a6ad_0 rfl rfl ?_
  refine GO.if_lt (tgt := 15) dJ1_canEncode_9a6ad_1 (by decide) r_p0 (fun c1 => ?_) (fun c1 => ?_)
  ·
    refine GO.iconst dJ1_canEncode_9a6ad_15 ?_
    exact GO.retz rfl rfl dJ1_canEncode_9a6ad_16 (Or.inl rfl) ⟨rfl, rfl, _, rfl, (ir_c rfl), ⟨Or.inl rfl, fun _ => trivial, fun _ => trivial, (by first | exact fun hq => absurd hq (by omega) | exact fun _ => by omega)⟩⟩
  ·
    refine GO.iload_n dJ1_canEncode_9a6ad_4 rfl rfl ?_
    refine GO.sipush dJ1_canEncode_9a6ad_5 rfl ?_
    refine GO.icmp_gt (tgt := 15) dJ1_canEncode_9a6ad_8 (by decide) r_p0 (ir_c rfl) (fun c2 => ?_) (fun c2 => ?_)
    ·
      refine GO.iconst dJ1_canEncode_9a6ad_15 ?_
      exact GO.retz rfl rfl dJ1_canEncode_9a6ad_16 (Or.inl rfl) ⟨rfl, rfl, _, rfl, (ir_c rfl), ⟨Or.inl rfl, fun _ => trivial, fun _ => trivial, (by first | exact fun hq => absurd hq (by omega) | exact fun _ => by omega)⟩⟩
    ·
      refine GO.iconst dJ1_canEncode_9a6ad_11 ?_
      refine GO.goto (tgt := 16) dJ1_canEncode_9a6ad_12 (by decide) ?_
      exact GO.retz rfl rfl dJ1_canEncode_9a6ad_16 (Or.inr rfl) ⟨rfl, rfl, _, rfl, (ir_c rfl), ⟨Or.inr rfl, fun _ => trivial, fun _ => trivial, (by first | exact fun hq => absurd hq (by omega) | exact fun _ => by omega)⟩⟩

set_option maxHeartbeats 1000000 in
theorem t_J9_max_7cf53 {K : Kmap} {V : Vmap} {p0 : Int} {p1 : Int} (r_p0 : ir p0) (r_p1 : ir p1) : MC mJ9_max_7cf53 K V [ti p0, ti p1] (IP K V (fun X => p0 ≤ X ∧ p1 ≤ X ∧ (X = p0 ∨ X = p1))) := by
  refine MC.start 0 (by decide +kernel) rfl rfl rfl (ls0 := [some (ti p0), some (ti p1)]) rfl ?_
  refine GO.iload_n dJ9_max_7cf53_0 rfl rfl ?_
  refine GO.iload_n dJ9_max_7cf53_1 rfl rfl ?_
  refine GO.icmp_lt (tgt := 9) dJ9_max_7cf53_2 (by decide) r_p0 r_p1 (fun c1 => ?_) (fun c1 => ?_)
  ·
    refine GO.iload_n dJ9_max_7cf53_9 rfl rfl ?_
    have q2 : -2147483648 ≤ p1 ∧ p1 ≤ 2147483647 := r_p1
    have q3 : -2147483648 ≤ p0 ∧ p0 ≤ 2147483647 := r_p0
    exact GO.reti rfl rfl dJ9_max_7cf53_10 ⟨rfl, rfl, _, rfl, r_p1, ⟨by omega, by omega, by omega⟩⟩
  ·
    refine GO.iload_n dJ9_max_7cf53_5 rfl rfl ?_
    refine GO.goto (tgt := 10) dJ9_max_7cf53_6 (by decide) ?_
    have q4 : -2147483648 ≤ p0 ∧ p0 ≤ 2147483647 := r_p0
    have q5 : -2147483648 ≤ p1 ∧ p1 ≤ 2147483647 := r_p1
    exact GO.reti rfl rfl dJ9_max_7cf53_10 ⟨rfl, rfl, _, rfl, r_p0, ⟨by omega, by omega, by omega⟩⟩

set_option maxHeartbeats 1000000 in
theorem t_J9_min_7cf53 {K : Kmap} {V : Vmap} {p0 : Int} {p1 : Int} (r_p0 : ir p0) (r_p1 : ir p1) : MC mJ9_min_7cf53 K V [ti p0, ti p1] (IP K V (fun X => p0 ≥ X ∧ p1 ≥ X ∧ (X = p0 ∨ X = p1))) := by
  refine MC.start 0 (by decide +kernel) rfl rfl rfl (ls0 := [some (ti p0), some (ti p1)]) rfl ?_
  refine GO.iload_n dJ9_min_7cf53_0 rfl rfl ?_
  refine GO.iload_n dJ9_min_7cf53_1 rfl rfl ?_
  refine GO.icmp_gt (tgt := 9) dJ9_min_7cf53_2 (by decide) r_p0 r_p1 (fun c1 => ?_) (fun c1 => ?_)
  ·
    refine GO.iload_n dJ9_min_7cf53_9 rfl rfl ?_
    have q2 : -2147483648 ≤ p1 ∧ p1 ≤ 2147483647 := r_p1
    have q3 : -2147483648 ≤ p0 ∧ p0 ≤ 2147483647 := r_p0
    exact GO.reti rfl rfl dJ9_min_7cf53_10 ⟨rfl, rfl, _, rfl, r_p1, ⟨by omega, by omega, by omega⟩⟩
  ·
    refine GO.iload_n dJ9_min_7cf53_5 rfl rfl ?_
    refine GO.goto (tgt := 10) dJ9_min_7cf53_6 (by decide) ?_
    have q4 : -2147483648 ≤ p0 ∧ p0 ≤ 2147483647 := r_p0
    have q5 : -2147483648 ≤ p1 ∧ p1 ≤ 2147483647 := r_p1
    exact GO.reti rfl rfl dJ9_min_7cf53_10 ⟨rfl, rfl, _, rfl, r_p0, ⟨by omega, by omega, by omega⟩⟩

set_option maxHeartbeats 1000000 in
theorem t_X4_get {K : Kmap} {V : Vmap} {p0 t_p0 n_p0 : Nat} {p1 : Int} (ht_p0 : bt t_p0 = 0) (h_p0 : K p0 = some (t_p0 + 1, n_p0)) (r_p1 : ir p1) : MC mX4_get K V [.ref p0, ti p1] (IP K V (fun X => (X ≥ (-2147483648) ∧ X ≤ 2147483647) ∧ (X = rgv V p0 n_p0 p1))) := by
  refine MC.start 0 (by decide +kernel) rfl rfl rfl (ls0 := [some (.ref p0), some (ti p1)]) rfl ?_
  refine GO.aload_n dX4_get_0 rfl rfl ?_
  refine GO.ifnull dX4_get_1 ?_
  refine GO.iload_n dX4_get_4 rfl rfl ?_
  refine GO.if_lt (tgt := 20) dX4_get_5 (by decide) r_p1 (fun c1 => ?_) (fun c1 => ?_)
  ·
    refine GO.iconst dX4_get_20 ?_
    exact GO.reti rfl rfl dX4_get_21 ⟨rfl, rfl, _, rfl, (ir_c rfl), ⟨(by first | exact trivial | omega), (by first | exact rgv_in (by omega) (by omega) | exact rgv_out (by omega))⟩⟩
  ·
    refine GO.iload_n dX4_get_8 rfl rfl ?_
    refine GO.aload_n dX4_get_9 rfl rfl ?_
    refine GO.alen h_p0 dX4_get_10 (fun h2 => ?_)
    refine GO.icmp_ge (tgt := 20) dX4_get_11 (by decide) r_p1 ⟨by omega, by omega⟩ (fun c3 => ?_) (fun c3 => ?_)
    ·
      refine GO.iconst dX4_get_20 ?_
      exact GO.reti rfl rfl dX4_get_21 ⟨rfl, rfl, _, rfl, (ir_c rfl), ⟨(by first | exact trivial | omega), (by first | exact rgv_in (by omega) (by omega) | exact rgv_out (by omega))⟩⟩
    ·
      refine GO.aload_n dX4_get_14 rfl rfl ?_
      refine GO.iload_n dX4_get_15 rfl rfl ?_
      have q4 : -2147483648 ≤ p1 ∧ p1 ≤ 2147483647 := r_p1
      refine GO.ialdG ht_p0 h_p0 r_p1 (by omega) (by omega) dX4_get_16 ?_
      refine GO.goto (tgt := 21) dX4_get_17 (by decide) ?_
      have q5 : -2147483648 ≤ vi V p0 (p1).toNat ∧ vi V p0 (p1).toNat ≤ 2147483647 := vi_ir
      exact GO.reti rfl rfl dX4_get_21 ⟨rfl, rfl, _, rfl, vi_ir, ⟨(by first | exact trivial | omega), (by first | exact rgv_in (by omega) (by omega) | exact rgv_out (by omega))⟩⟩
