theorem fl_rb_5 : FL RX12 16 23 5 := ⟨(RX12, TX12, 151), rfl, by decide, lays_11, gw_1487⟩
theorem fl_rb_6 : FL RX12 20 23 6 := ⟨(RX12, TX12, 151), rfl, by decide, lays_11, gw_1488⟩
theorem fl_rb_7 : FL RX12 23 23 7 := ⟨(RX12, TX12, 151), rfl, by decide, lays_11, gw_1489⟩
theorem fl_rb_8 : FL RX12 26 23 8 := ⟨(RX12, TX12, 151), rfl, by decide, lays_11, gw_1490⟩
theorem fp_rb_0 : FP RX12 365 23 0 .int false := ⟨(RX12, TX12, 151), tyX12, rfl, by decide, lays_11, gw_1482, tyX12_ok, nmX12, rfl, by decide +kernel, fun h => by cases h⟩
theorem fp_rb_1 : FP RX12 368 23 1 .int false := ⟨(RX12, TX12, 151), tyX12, rfl, by decide, lays_11, gw_1483, tyX12_ok, nmX12, rfl, by decide +kernel, fun h => by cases h⟩
def mX12_begins_raw : MRec := (RX12, cX12_begins, 4, (none : Option Jvm.ClassFile.FieldType), yX12_begins, 0, 0, 0, 0, 8498207885068273579033411304839498037273489883632510771191106211206456957773635883826600036243668599842262655165880080037473871755226915466654905442358216408287446416930569582635122688)
set_option maxHeartbeats 4000000 in
theorem t_X12_begins_raw {K : Kmap} {V : Vmap} {x a5 a6 a7 a8 : Nat} {p0 p1 : Int} (h_x : K x = some (0, 23)) (v5 : V x 5 = .ref a5) (k5 : K a5 = some (10, 144)) (v6 : V x 6 = .ref a6) (k6 : K a6 = some (11, 144)) (v7 : V x 7 = .ref a7) (k7 : K a7 = some (12, 144)) (v8 : V x 8 = .ref a8) (k8 : K a8 = some (13, 144)) (r_p0 : ir p0) (r_p1 : ir p1) : MC mX12_begins_raw K V [.ref x, ti p0, ti p1] (VS K (fun V1 => (∀ j, j ≠ 0 → j ≠ 1 → V1 x j = V x j) ∧ V1 x 0 = ti p0 ∧ V1 x 1 = ti p1 ∧ BGR V1 a5 a6 a7 a8 144)) := by
  refine MC.start 1 (by decide +kernel) rfl rfl rfl (ls0 := [some (.ref x), some (ti p0), some (ti p1), none]) rfl ?_
  refine GO.aload_n dX12_begins_0 rfl rfl ?_
  refine GO.iload_n dX12_begins_1 rfl rfl ?_
  refine GO.putRW rfl (by decide +kernel) h_x fp_rb_0 rfl rfl dX12_begins_2 (fun V3 e1 => ?_)
  refine GO.aload_n dX12_begins_5 rfl rfl ?_
  refine GO.iload_n dX12_begins_6 rfl rfl ?_
  refine GO.putRW rfl (by decide +kernel) h_x fp_rb_1 rfl rfl dX12_begins_7 (fun V6 e4 => ?_)
  have hR6 : ∀ j, j ≠ 0 → j ≠ 1 → V6 x j = V x j := fun j h0 h1 => (uq_ne e4 (Or.inr h1)).trans (uq_ne e1 (Or.inr h0))
  have h06 : V6 x 0 = ti p0 := (uq_ne e4 (Or.inr (by decide))).trans (uq_same e1)
  have h16 : V6 x 1 = ti p1 := uq_same e4
  refine GO.iconst dX12_begins_10 ?_
  refine GO.istore_n (ls1 := [some (.ref x), some (ti p0), some (ti p1), some (ti 0)]) dX12_begins_11 rfl rfl rfl ?_
  refine GO.loop1 (fun i7 W => (0 ≤ i7 ∧ i7 ≤ 144) ∧ (∀ j, j ≠ 0 → j ≠ 1 → W x j = V x j) ∧ W x 0 = ti p0 ∧ W x 1 = ti p1 ∧ BGR W a5 a6 a7 a8 i7) (fun i7 => [some (.ref x), some (ti p0), some (ti p1), some (ti i7)]) (fun i7 W => (2147483647 - i7).toNat) 0 ⟨by omega, hR6, h06, h16, BGR.beg⟩ rfl (fun i7 W0 hp ih => ?_)
  obtain ⟨⟨l_i7, u_i7⟩, hR0, h00, h10, hbg⟩ := hp
  have r_i7 : ir i7 := ⟨by omega, by omega⟩
  refine GO.iload_n dX12_begins_12 rfl rfl ?_
  refine GO.sipush dX12_begins_13 rfl ?_
  refine GO.icmp_ge (tgt := 53) dX12_begins_16 (by decide) r_i7 (ir_c rfl) (fun c163 => ?_) (fun c163 => ?_)
  · exact GO.retv rfl rfl dX12_begins_53 ⟨rfl, rfl, hR0, h00, h10, by rw [show (144 : Int) = i7 by omega]; exact hbg⟩
  ·
    refine GO.aload_n dX12_begins_19 rfl rfl ?_
    refine GO.getRaw h_x fl_rb_5 ((hR0 5 (by decide) (by decide)).trans v5) dX12_begins_20 ?_
    refine GO.iload_n dX12_begins_23 rfl rfl ?_
    refine GO.iconst dX12_begins_24 ?_
    refine GO.iast (t := 9) rfl rfl (by decide +kernel) k5 r_i7 (by omega) (by omega) (ir_c rfl) (by decide) (by decide) dX12_begins_25 (fun W1 e5 => ?_)
    have hne : x ≠ a5 := K_ne h_x k5 (by decide)
    have hR1 : ∀ j, j ≠ 0 → j ≠ 1 → W1 x j = V x j := fun j g0 g1 => (uq_ne e5 (Or.inl hne)).trans (hR0 j g0 g1)
    have h01 : W1 x 0 = ti p0 := (uq_ne e5 (Or.inl hne)).trans h00
    have h11 : W1 x 1 = ti p1 := (uq_ne e5 (Or.inl hne)).trans h10
    clear hne
    refine GO.aload_n dX12_begins_26 rfl rfl ?_
    refine GO.getRaw h_x fl_rb_6 ((hR1 6 (by decide) (by decide)).trans v6) dX12_begins_27 ?_
    refine GO.iload_n dX12_begins_30 rfl rfl ?_
    refine GO.iconst dX12_begins_31 ?_
    refine GO.iast (t := 10) rfl rfl (by decide +kernel) k6 r_i7 (by omega) (by omega) (ir_c rfl) (by decide) (by decide) dX12_begins_32 (fun W2 e6 => ?_)
    have hne : x ≠ a6 := K_ne h_x k6 (by decide)
    have hR2 : ∀ j, j ≠ 0 → j ≠ 1 → W2 x j = V x j := fun j g0 g1 => (uq_ne e6 (Or.inl hne)).trans (hR1 j g0 g1)
    have h02 : W2 x 0 = ti p0 := (uq_ne e6 (Or.inl hne)).trans h01
    have h12 : W2 x 1 = ti p1 := (uq_ne e6 (Or.inl hne)).trans h11
    clear hne
    refine GO.aload_n dX12_begins_33 rfl rfl ?_
    refine GO.getRaw h_x fl_rb_7 ((hR2 7 (by decide) (by decide)).trans v7) dX12_begins_34 ?_
    refine GO.iload_n dX12_begins_37 rfl rfl ?_
    refine GO.iconst dX12_begins_38 ?_
    refine GO.iast (t := 11) rfl rfl (by decide +kernel) k7 r_i7 (by omega) (by omega) (ir_c rfl) (by decide) (by decide) dX12_begins_39 (fun W3 e7 => ?_)
    have hne : x ≠ a7 := K_ne h_x k7 (by decide)
    have hR3 : ∀ j, j ≠ 0 → j ≠ 1 → W3 x j = V x j := fun j g0 g1 => (uq_ne e7 (Or.inl hne)).trans (hR2 j g0 g1)
    have h03 : W3 x 0 = ti p0 := (uq_ne e7 (Or.inl hne)).trans h02
    have h13 : W3 x 1 = ti p1 := (uq_ne e7 (Or.inl hne)).trans h12
    clear hne
    refine GO.aload_n dX12_begins_40 rfl rfl ?_
    refine GO.getRaw h_x fl_rb_8 ((hR3 8 (by decide) (by decide)).trans v8) dX12_begins_41 ?_
    refine GO.iload_n dX12_begins_44 rfl rfl ?_
    refine GO.iconst dX12_begins_45 ?_
    refine GO.iast (t := 12) rfl rfl (by decide +kernel) k8 r_i7 (by omega) (by omega) (ir_c rfl) (by decide) (by decide) dX12_begins_46 (fun W4 e8 => ?_)
    have hne : x ≠ a8 := K_ne h_x k8 (by decide)
    have hR4 : ∀ j, j ≠ 0 → j ≠ 1 → W4 x j = V x j := fun j g0 g1 => (uq_ne e8 (Or.inl hne)).trans (hR3 j g0 g1)
    have h04 : W4 x 0 = ti p0 := (uq_ne e8 (Or.inl hne)).trans h03
    have h14 : W4 x 1 = ti p1 := (uq_ne e8 (Or.inl hne)).trans h13
    clear hne
    refine GO.iinc (X := i7) (n := 1) (Y := i7 + 1) (ls1 := [some (.ref x), some (ti p0), some (ti p1), some (ti (i7 + 1))]) dX12_begins_47 rfl rfl rfl rfl ?_
    refine GO.goto (tgt := 12) dX12_begins_50 (by decide) ?_
    exact ih (i7 + 1) W4 ⟨by omega, hR4, h04, h14, BGR.step hbg (K_ne k5 k6 (by decide)) (K_ne k5 k7 (by decide)) (K_ne k5 k8 (by decide)) (K_ne k6 k7 (by decide)) (K_ne k6 k8 (by decide)) (K_ne k7 k8 (by decide)) e5 e6 e7 e8 (by omega) (by omega)⟩ (by show (2147483647 - (i7 + 1)).toNat < (2147483647 - i7).toNat; omega)
theorem PF.two {f : Nat → Value} {V V1 : Vmap} {x : Nat} {v0 v1 : Value} {L : List (Nat × Value)} (h : PF f V x L) (hr : ∀ j, j ≠ 0 → j ≠ 1 → V1 x j = V x j) (h0 : V1 x 0 = v0) (h1 : V1 x 1 = v1) (hk : L.all (fun p => !(p.1 == 0)) = true) (hk1 : L.all (fun p => !(p.1 == 1)) = true) : PF f V1 x ((0, v0) :: (1, v1) :: L) := by
  refine ⟨fun p hp => ?_, fun j hj => ?_⟩
  · rcases List.mem_cons.mp hp with rfl | hp
    · exact h0
    · rcases List.mem_cons.mp hp with rfl | hp
      · exact h1
      · have g0 : p.1 ≠ 0 := by have := List.all_eq_true.mp hk p hp; simpa using this
        have g1 : p.1 ≠ 1 := by have := List.all_eq_true.mp hk1 p hp; simpa using this
        rw [hr p.1 g0 g1]; exact h.1 p hp
  · simp only [List.all_cons, Bool.and_eq_true] at hj
    have g0 : 0 ≠ j := by simpa using hj.1
    have g1 : 1 ≠ j := by simpa using hj.2.1
    rw [hr j (Ne.symm g0) (Ne.symm g1)]; exact h.2 j hj.2.2
