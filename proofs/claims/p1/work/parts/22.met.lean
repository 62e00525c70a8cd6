set_option maxHeartbeats 4000000 in
set_option maxRecDepth 100000 in
theorem t_X12_begins {l : Launch} {D : va_G} {dA : Nat → ClassId} {K : Kmap} {V : Vmap} {sz : Nat} {x hg gd wy fl : Nat} {w h : Int32} {w_i h_i : Int} (iz_w : w.toInt = w_i) (iz_h : h.toInt = h_i) (hp0 : K x = some (0, 11)) (hp1 : V x 5 = .ref hg) (hp2 : K hg = some (1, 144)) (hp3 : V x 6 = .ref gd) (hp4 : K gd = some (1, 144)) (hp5 : V x 7 = .ref wy) (hp6 : K wy = some (1, 144)) (hp7 : V x 8 = .ref fl) (hp8 : K fl = some (1, 144)) : Met l yX12_begins (wsOf yX12_begins cX12_begins 4 (none : Option Jvm.ClassFile.FieldType)) { frames := 0, cells := 0, slots := 0, locals := 0 } (PC D dA K V sz [.ref x, .int w, .int h]) (HQv D dA K (fun K1 V1 => K = K1 ∧ (∀ b, K b ≠ none → b ≠ x → b ≠ hg → b ≠ gd → b ≠ wy → b ≠ fl → V1 b = V b) ∧ (V1 x 0 = .int w) ∧ (V1 x 1 = .int h) ∧ (∀ k, k ≠ 0 → k ≠ 1 → V1 x k = V x k))) 0 0 (AK K sz) := by
  refine th_body (by decide +kernel) (Nat.le_of_ble_eq_true rfl) (fun pZ eZ sZ mZ belowZ methZ cZ C hR hsz hnm ls hl => ?_)
  have C : CX pZ sZ mZ [.ref x, .int w, .int h].toArray methZ cZ cX12_begins 4 (none : Option Jvm.ClassFile.FieldType) RX12 D dA := C
  have hx := C.1; have hb := C.2.1
  have hl : lv_has ls 4 [(0, .ref x), (1, .int w), (2, .int h)] := hl
  subst hsz
  have hS : ST D dA K sZ.heap K V sZ.heap [] := ST.rf hR
  have r_w := th_rng w; rw [iz_w] at r_w
  have r_h := th_rng h; rw [iz_h] at r_h
  refine lv_aload_n hx hb dX12_begins_0 rfl (lv_at hl 0 rfl) ?_
  refine lv_iload_n hx hb dX12_begins_1 rfl (lv_at hl 1 rfl) ?_
  refine th_put C hS hp0 fp_RX12_365 rfl rfl dX12_begins_2 (fun V3926 H locs1 hV3927 hS => ?_)
  refine lv_aload_n hx hb dX12_begins_5 rfl (lv_at hl 0 rfl) ?_
  refine lv_iload_n hx hb dX12_begins_6 rfl (lv_at hl 2 rfl) ?_
  refine th_put C hS hp0 fp_RX12_368 rfl rfl dX12_begins_7 (fun V3928 H locs1 hV3929 hS => ?_)
  refine lv_iconst (v := 0) hx hb dX12_begins_10 (by decide) ?_
  refine lv_istore_n (lv' := [(3, .int 0), (0, .ref x), (1, .int w), (2, .int h)]) hx hb dX12_begins_11 rfl hl (by decide) rfl (fun ls hl => ?_)
  refine th_loop (fun nMeas ls V' H' locs' => ∃ z : Int32, 0 ≤ z.toInt ∧ z.toInt ≤ 144 ∧ nMeas = (144 - z.toInt).toNat ∧ lv_has ls 4 [(0, .ref x), (1, .int w), (2, .int h), (3, .int z)] ∧ ST D dA K sZ.heap K V' H' locs' ∧ ∀ b, b ≠ hg → b ≠ gd → b ≠ wy → b ≠ fl → V' b = V3928 b) _ ⟨0, (by have := li_0; omega), (by have := li_0; omega), rfl, lv_sub hl [1, 2, 3, 0] rfl, hS, fun b _ _ _ _ => rfl⟩ (fun n3930 ls V3934 H locs1 hI3935 ih3931 => ?_)
  obtain ⟨z3932, hz3936, hz3937, hn3938, hl, hS, hinv3933⟩ := hI3935
  refine lv_iload_n hx hb dX12_begins_12 rfl (lv_at hl 3 rfl) ?_
  refine lv_sipush (v := 144) hx hb dX12_begins_13 (by decide) ?_
  refine th_icmp_ge (X := z3932.toInt) (Y := 144) (tgt := 53) hx hb dX12_begins_16 (by decide) rfl li_144 (fun c3939 => ?_) (fun c3939 => ?_)
  · have hv3940 : V3928 x 0 = .int w := Eq.trans (uq_ne hV3929 (Or.inr (by decide))) (uq_same hV3927)
    have hv3941 : V3934 x 0 = .int w := Eq.trans (congrFun (hinv3933 _ (K_ne hp0 hp2 (by decide)) (K_ne hp0 hp4 (by decide)) (K_ne hp0 hp6 (by decide)) (K_ne hp0 hp8 (by decide))) 0) hv3940
    have hv3942 : V3934 x 1 = .int h := Eq.trans (congrFun (hinv3933 _ (K_ne hp0 hp2 (by decide)) (K_ne hp0 hp4 (by decide)) (K_ne hp0 hp6 (by decide)) (K_ne hp0 hp8 (by decide))) 1) (uq_same hV3929)
    exact th_retvH (post := fun K1 V1 => K = K1 ∧ (∀ b, K b ≠ none → b ≠ x → b ≠ hg → b ≠ gd → b ≠ wy → b ≠ fl → V1 b = V b) ∧ (V1 x 0 = .int w) ∧ (V1 x 1 = .int h) ∧ (∀ k, k ≠ 0 → k ≠ 1 → V1 x k = V x k)) (cells := 0) (slots := 0) (mc := 0) (ms := 0) C hS ⟨rfl, (fun b hb hm0 hm1 hm2 hm3 hm4 => Eq.trans (hinv3933 _ hm1 hm2 hm3 hm4) (Eq.trans (uq_other hV3929 hm0) ((uq_other hV3927 hm0)))), hv3941, hv3942, (fun k hk0 hk1 => Eq.trans (congrFun (hinv3933 _ (K_ne hp0 hp2 (by decide)) (K_ne hp0 hp4 (by decide)) (K_ne hp0 hp6 (by decide)) (K_ne hp0 hp8 (by decide))) k) (Eq.trans (uq_ne hV3929 (Or.inr hk1)) ((uq_ne hV3927 (Or.inr hk0)))))⟩ (Nat.le_of_ble_eq_true rfl) (Nat.le_of_ble_eq_true rfl) dX12_begins_53
  · refine lv_aload_n hx hb dX12_begins_19 rfl (lv_at hl 0 rfl) ?_
    have hv3943 : V3926 x 5 = .ref hg := Eq.trans (uq_ne hV3927 (Or.inr (by decide))) hp1
    have hv3944 : V3928 x 5 = .ref hg := Eq.trans (uq_ne hV3929 (Or.inr (by decide))) hv3943
    have hv3945 : V3934 x 5 = .ref hg := Eq.trans (congrFun (hinv3933 _ (K_ne hp0 hp2 (by decide)) (K_ne hp0 hp4 (by decide)) (K_ne hp0 hp6 (by decide)) (K_ne hp0 hp8 (by decide))) 5) hv3944
    refine th_get C hS.1 hp0 fl_RX12_16 hv3945 dX12_begins_20 ?_
    refine lv_iload_n hx hb dX12_begins_23 rfl (lv_at hl 3 rfl) ?_
    refine lv_iconst (v := 0) hx hb dX12_begins_24 (by decide) ?_
    refine th_iast C hS hp2 (by omega) (by omega) dX12_begins_25 (fun V3946 H locs1 hV3947 hS => ?_)
    refine lv_aload_n hx hb dX12_begins_26 rfl (lv_at hl 0 rfl) ?_
    have hv3948 : V3926 x 6 = .ref gd := Eq.trans (uq_ne hV3927 (Or.inr (by decide))) hp3
    have hv3949 : V3928 x 6 = .ref gd := Eq.trans (uq_ne hV3929 (Or.inr (by decide))) hv3948
    have hv3950 : V3934 x 6 = .ref gd := Eq.trans (congrFun (hinv3933 _ (K_ne hp0 hp2 (by decide)) (K_ne hp0 hp4 (by decide)) (K_ne hp0 hp6 (by decide)) (K_ne hp0 hp8 (by decide))) 6) hv3949
    have hv3951 : V3946 x 6 = .ref gd := Eq.trans (uq_ne hV3947 (Or.inl (K_ne hp0 hp2 (by decide)))) hv3950
    refine th_get C hS.1 hp0 fl_RX12_20 hv3951 dX12_begins_27 ?_
    refine lv_iload_n hx hb dX12_begins_30 rfl (lv_at hl 3 rfl) ?_
    refine lv_iconst (v := 0) hx hb dX12_begins_31 (by decide) ?_
    refine th_iast C hS hp4 (by omega) (by omega) dX12_begins_32 (fun V3952 H locs1 hV3953 hS => ?_)
    refine lv_aload_n hx hb dX12_begins_33 rfl (lv_at hl 0 rfl) ?_
    have hv3954 : V3926 x 7 = .ref wy := Eq.trans (uq_ne hV3927 (Or.inr (by decide))) hp5
    have hv3955 : V3928 x 7 = .ref wy := Eq.trans (uq_ne hV3929 (Or.inr (by decide))) hv3954
    have hv3956 : V3934 x 7 = .ref wy := Eq.trans (congrFun (hinv3933 _ (K_ne hp0 hp2 (by decide)) (K_ne hp0 hp4 (by decide)) (K_ne hp0 hp6 (by decide)) (K_ne hp0 hp8 (by decide))) 7) hv3955
    have hv3957 : V3946 x 7 = .ref wy := Eq.trans (uq_ne hV3947 (Or.inl (K_ne hp0 hp2 (by decide)))) hv3956
    have hv3958 : V3952 x 7 = .ref wy := Eq.trans (uq_ne hV3953 (Or.inl (K_ne hp0 hp4 (by decide)))) hv3957
    refine th_get C hS.1 hp0 fl_RX12_23 hv3958 dX12_begins_34 ?_
    refine lv_iload_n hx hb dX12_begins_37 rfl (lv_at hl 3 rfl) ?_
    refine lv_iconst (v := (-1)) hx hb dX12_begins_38 (by decide) ?_
    refine th_iast C hS hp6 (by omega) (by omega) dX12_begins_39 (fun V3959 H locs1 hV3960 hS => ?_)
    refine lv_aload_n hx hb dX12_begins_40 rfl (lv_at hl 0 rfl) ?_
    have hv3961 : V3926 x 8 = .ref fl := Eq.trans (uq_ne hV3927 (Or.inr (by decide))) hp7
    have hv3962 : V3928 x 8 = .ref fl := Eq.trans (uq_ne hV3929 (Or.inr (by decide))) hv3961
    have hv3963 : V3934 x 8 = .ref fl := Eq.trans (congrFun (hinv3933 _ (K_ne hp0 hp2 (by decide)) (K_ne hp0 hp4 (by decide)) (K_ne hp0 hp6 (by decide)) (K_ne hp0 hp8 (by decide))) 8) hv3962
    have hv3964 : V3946 x 8 = .ref fl := Eq.trans (uq_ne hV3947 (Or.inl (K_ne hp0 hp2 (by decide)))) hv3963
    have hv3965 : V3952 x 8 = .ref fl := Eq.trans (uq_ne hV3953 (Or.inl (K_ne hp0 hp4 (by decide)))) hv3964
    have hv3966 : V3959 x 8 = .ref fl := Eq.trans (uq_ne hV3960 (Or.inl (K_ne hp0 hp6 (by decide)))) hv3965
    refine th_get C hS.1 hp0 fl_RX12_26 hv3966 dX12_begins_41 ?_
    refine lv_iload_n hx hb dX12_begins_44 rfl (lv_at hl 3 rfl) ?_
    refine lv_iconst (v := 0) hx hb dX12_begins_45 (by decide) ?_
    refine th_iast C hS hp8 (by omega) (by omega) dX12_begins_46 (fun V3967 H locs1 hV3968 hS => ?_)
    obtain ⟨z3969, hz3969, ez3969⟩ : ∃ y : Int32, z3932 + Int32.ofInt 1 = y ∧ y.toInt = z3932.toInt + 1 := ⟨_, rfl, th_add rfl (by decide) (by omega) (by omega)⟩
    refine lv_iinc (v := z3969) (lv' := [(3, .int z3969), (0, .ref x), (1, .int w), (2, .int h)]) hx hb dX12_begins_47 hl (k := 3) rfl hz3969 (by decide) rfl (fun ls hl => ?_)
    refine lv_goto (tgt := 12) hx hb dX12_begins_50 (by decide) ?_
    exact ih3931 _ (by rw [ez3969]; omega) _ _ _ _ ⟨z3969, (by rw [ez3969]; omega), (by rw [ez3969]; omega), rfl, lv_sub hl [1, 2, 3, 0] rfl, hS, fun b hm0 hm1 hm2 hm3 => Eq.trans (uq_other hV3968 hm3) (Eq.trans (uq_other hV3960 hm2) (Eq.trans (uq_other hV3953 hm1) (Eq.trans (uq_other hV3947 hm0) (hinv3933 b hm0 hm1 hm2 hm3))))⟩

set_option maxHeartbeats 4000000 in
set_option maxRecDepth 100000 in
theorem t_X12_place {l : Launch} {D : va_G} {dA : Nat → ClassId} {K : Kmap} {V : Vmap} {sz : Nat} {x a0 a1 a2 a3 a4 a5 : Nat} {kd p c lw n : Int32} {kd_i p_i c_i lw_i n_i : Int} (iz_kd : kd.toInt = kd_i) (iz_p : p.toInt = p_i) (iz_c : c.toInt = c_i) (iz_lw : lw.toInt = lw_i) (iz_n : n.toInt = n_i) (hp0 : K x = some (0, 11)) (hp1 : V x 10 = .int 0) (hp2 : V x 2 = .int 0) (hp3 : V x 13 = .ref a0) (hp4 : K a0 = some (1, 60)) (hp5 : V x 14 = .ref a1) (hp6 : K a1 = some (1, 60)) (hp7 : V x 15 = .ref a2) (hp8 : K a2 = some (1, 60)) (hp9 : V x 16 = .ref a3) (hp10 : K a3 = some (1, 60)) (hp11 : V x 17 = .ref a4) (hp12 : K a4 = some (1, 60)) (hp13 : V x 18 = .ref a5) (hp14 : K a5 = some (1, 60)) : Met l yX12_place (wsOf yX12_place cX12_place 6 (some .int)) { frames := 0, cells := 0, slots := 0, locals := 0 } (PC D dA K V sz [.ref x, .int kd, .int p, .int c, .int lw, .int n]) (HQi D dA K (fun r K1 V1 => ((r.toInt = 0)))) 0 0 (AK K sz) := by
  refine th_body (by decide +kernel) (Nat.le_of_ble_eq_true rfl) (fun pZ eZ sZ mZ belowZ methZ cZ C hR hsz hnm ls hl => ?_)
  have C : CX pZ sZ mZ [.ref x, .int kd, .int p, .int c, .int lw, .int n].toArray methZ cZ cX12_place 6 (some .int) RX12 D dA := C
  have hx := C.1; have hb := C.2.1
  have hl : lv_has ls 6 [(0, .ref x), (1, .int kd), (2, .int p), (3, .int c), (4, .int lw), (5, .int n)] := hl
  subst hsz
  have hS : ST D dA K sZ.heap K V sZ.heap [] := ST.rf hR
  have r_kd := th_rng kd; rw [iz_kd] at r_kd
  have r_p := th_rng p; rw [iz_p] at r_p
  have r_c := th_rng c; rw [iz_c] at r_c
  have r_lw := th_rng lw; rw [iz_lw] at r_lw
  have r_n := th_rng n; rw [iz_n] at r_n
  refine lv_aload_n hx hb dX12_place_0 rfl (lv_at hl 0 rfl) ?_
  refine th_get C hS.1 hp0 fl_RX12_35 hp3 dX12_place_1 ?_
  refine lv_aload_n hx hb dX12_place_4 rfl (lv_at hl 0 rfl) ?_
  refine th_get C hS.1 hp0 fl_RX12_375 hp1 dX12_place_5 ?_
  refine lv_iload_n hx hb dX12_place_8 rfl (lv_at hl 1 rfl) ?_
  refine th_iast C hS hp4 (by rw [li_0]; omega) (by rw [li_0]; omega) dX12_place_9 (fun V3970 H locs1 hV3971 hS => ?_)
  refine lv_aload_n hx hb dX12_place_10 rfl (lv_at hl 0 rfl) ?_
  have hv3972 : V3970 x 14 = .ref a1 := Eq.trans (uq_ne hV3971 (Or.inl (K_ne hp0 hp4 (by decide)))) hp5
  refine th_get C hS.1 hp0 fl_RX12_38 hv3972 dX12_place_11 ?_
  refine lv_aload_n hx hb dX12_place_14 rfl (lv_at hl 0 rfl) ?_
  have hv3973 : V3970 x 10 = .int 0 := Eq.trans (uq_ne hV3971 (Or.inl (K_ne hp0 hp4 (by decide)))) hp1
  refine th_get C hS.1 hp0 fl_RX12_375 hv3973 dX12_place_15 ?_
  refine lv_iload_n hx hb dX12_place_18 rfl (lv_at hl 2 rfl) ?_
  refine th_iast C hS hp6 (by rw [li_0]; omega) (by rw [li_0]; omega) dX12_place_19 (fun V3974 H locs1 hV3975 hS => ?_)
  refine lv_aload_n hx hb dX12_place_20 rfl (lv_at hl 0 rfl) ?_
  have hv3976 : V3970 x 15 = .ref a2 := Eq.trans (uq_ne hV3971 (Or.inl (K_ne hp0 hp4 (by decide)))) hp7
  have hv3977 : V3974 x 15 = .ref a2 := Eq.trans (uq_ne hV3975 (Or.inl (K_ne hp0 hp6 (by decide)))) hv3976
  refine th_get C hS.1 hp0 fl_RX12_41 hv3977 dX12_place_21 ?_
  refine lv_aload_n hx hb dX12_place_24 rfl (lv_at hl 0 rfl) ?_
  have hv3978 : V3974 x 10 = .int 0 := Eq.trans (uq_ne hV3975 (Or.inl (K_ne hp0 hp6 (by decide)))) hv3973
  refine th_get C hS.1 hp0 fl_RX12_375 hv3978 dX12_place_25 ?_
  refine lv_iload_n hx hb dX12_place_28 rfl (lv_at hl 3 rfl) ?_
  refine th_iast C hS hp8 (by rw [li_0]; omega) (by rw [li_0]; omega) dX12_place_29 (fun V3979 H locs1 hV3980 hS => ?_)
  refine lv_aload_n hx hb dX12_place_30 rfl (lv_at hl 0 rfl) ?_
  have hv3981 : V3970 x 16 = .ref a3 := Eq.trans (uq_ne hV3971 (Or.inl (K_ne hp0 hp4 (by decide)))) hp9
  have hv3982 : V3974 x 16 = .ref a3 := Eq.trans (uq_ne hV3975 (Or.inl (K_ne hp0 hp6 (by decide)))) hv3981
  have hv3983 : V3979 x 16 = .ref a3 := Eq.trans (uq_ne hV3980 (Or.inl (K_ne hp0 hp8 (by decide)))) hv3982
  refine th_get C hS.1 hp0 fl_RX12_44 hv3983 dX12_place_31 ?_
  refine lv_aload_n hx hb dX12_place_34 rfl (lv_at hl 0 rfl) ?_
  have hv3984 : V3979 x 10 = .int 0 := Eq.trans (uq_ne hV3980 (Or.inl (K_ne hp0 hp8 (by decide)))) hv3978
  refine th_get C hS.1 hp0 fl_RX12_375 hv3984 dX12_place_35 ?_
  refine lv_iload hx hb dX12_place_38 (lv_at hl 4 rfl) ?_
  refine th_iast C hS hp10 (by rw [li_0]; omega) (by rw [li_0]; omega) dX12_place_40 (fun V3985 H locs1 hV3986 hS => ?_)
  refine lv_aload_n hx hb dX12_place_41 rfl (lv_at hl 0 rfl) ?_
  have hv3987 : V3970 x 17 = .ref a4 := Eq.trans (uq_ne hV3971 (Or.inl (K_ne hp0 hp4 (by decide)))) hp11
  have hv3988 : V3974 x 17 = .ref a4 := Eq.trans (uq_ne hV3975 (Or.inl (K_ne hp0 hp6 (by decide)))) hv3987
  have hv3989 : V3979 x 17 = .ref a4 := Eq.trans (uq_ne hV3980 (Or.inl (K_ne hp0 hp8 (by decide)))) hv3988
  have hv3990 : V3985 x 17 = .ref a4 := Eq.trans (uq_ne hV3986 (Or.inl (K_ne hp0 hp10 (by decide)))) hv3989
  refine th_get C hS.1 hp0 fl_RX12_47 hv3990 dX12_place_42 ?_
  refine lv_aload_n hx hb dX12_place_45 rfl (lv_at hl 0 rfl) ?_
  have hv3991 : V3985 x 10 = .int 0 := Eq.trans (uq_ne hV3986 (Or.inl (K_ne hp0 hp10 (by decide)))) hv3984
  refine th_get C hS.1 hp0 fl_RX12_375 hv3991 dX12_place_46 ?_
  refine lv_iload hx hb dX12_place_49 (lv_at hl 5 rfl) ?_
  refine th_iast C hS hp12 (by rw [li_0]; omega) (by rw [li_0]; omega) dX12_place_51 (fun V3992 H locs1 hV3993 hS => ?_)
  refine lv_aload_n hx hb dX12_place_52 rfl (lv_at hl 0 rfl) ?_
  have hv3994 : V3970 x 18 = .ref a5 := Eq.trans (uq_ne hV3971 (Or.inl (K_ne hp0 hp4 (by decide)))) hp13
  have hv3995 : V3974 x 18 = .ref a5 := Eq.trans (uq_ne hV3975 (Or.inl (K_ne hp0 hp6 (by decide)))) hv3994
  have hv3996 : V3979 x 18 = .ref a5 := Eq.trans (uq_ne hV3980 (Or.inl (K_ne hp0 hp8 (by decide)))) hv3995
  have hv3997 : V3985 x 18 = .ref a5 := Eq.trans (uq_ne hV3986 (Or.inl (K_ne hp0 hp10 (by decide)))) hv3996
  have hv3998 : V3992 x 18 = .ref a5 := Eq.trans (uq_ne hV3993 (Or.inl (K_ne hp0 hp12 (by decide)))) hv3997
  refine th_get C hS.1 hp0 fl_RX12_50 hv3998 dX12_place_53 ?_
  refine lv_aload_n hx hb dX12_place_56 rfl (lv_at hl 0 rfl) ?_
  have hv3999 : V3992 x 10 = .int 0 := Eq.trans (uq_ne hV3993 (Or.inl (K_ne hp0 hp12 (by decide)))) hv3991
  refine th_get C hS.1 hp0 fl_RX12_375 hv3999 dX12_place_57 ?_
  refine lv_aload_n hx hb dX12_place_60 rfl (lv_at hl 0 rfl) ?_
  have hv4000 : V3970 x 2 = .int 0 := Eq.trans (uq_ne hV3971 (Or.inl (K_ne hp0 hp4 (by decide)))) hp2
  have hv4001 : V3974 x 2 = .int 0 := Eq.trans (uq_ne hV3975 (Or.inl (K_ne hp0 hp6 (by decide)))) hv4000
  have hv4002 : V3979 x 2 = .int 0 := Eq.trans (uq_ne hV3980 (Or.inl (K_ne hp0 hp8 (by decide)))) hv4001
  have hv4003 : V3985 x 2 = .int 0 := Eq.trans (uq_ne hV3986 (Or.inl (K_ne hp0 hp10 (by decide)))) hv4002
  have hv4004 : V3992 x 2 = .int 0 := Eq.trans (uq_ne hV3993 (Or.inl (K_ne hp0 hp12 (by decide)))) hv4003
  refine th_get C hS.1 hp0 fl_RX12_396 hv4004 dX12_place_61 ?_
  refine th_iast C hS hp14 (by rw [li_0]; omega) (by rw [li_0]; omega) dX12_place_64 (fun V4005 H locs1 hV4006 hS => ?_)
  refine lv_aload_n hx hb dX12_place_65 rfl (lv_at hl 0 rfl) ?_
  refine lv_aload_n hx hb dX12_place_66 rfl (lv_at hl 0 rfl) ?_
  have hv4007 : V4005 x 10 = .int 0 := Eq.trans (uq_ne hV4006 (Or.inl (K_ne hp0 hp14 (by decide)))) hv3999
  refine th_get C hS.1 hp0 fl_RX12_375 hv4007 dX12_place_67 ?_
  refine lv_iconst (v := 1) hx hb dX12_place_70 (by decide) ?_
  refine lv_iadd hx hb dX12_place_71 ?_
  refine th_is (w := .int 1) (by decide) ?_
  refine th_put C hS hp0 fp_RX12_375 rfl rfl dX12_place_72 (fun V4008 H locs1 hV4009 hS => ?_)
  refine lv_aload_n hx hb dX12_place_75 rfl (lv_at hl 0 rfl) ?_
  refine th_get C hS.1 hp0 fl_RX12_375 (uq_same hV4009) dX12_place_76 ?_
  refine lv_iconst (v := 1) hx hb dX12_place_79 (by decide) ?_
  refine lv_isub hx hb dX12_place_80 ?_
  refine th_is (w := .int 0) (by decide) ?_
  exact th_retiH (post := fun r K1 V1 => ((r.toInt = 0))) (cells := 0) (slots := 0) (mc := 0) (ms := 0) C hS (by have hfin := li_0; omega) (Nat.le_of_ble_eq_true rfl) (Nat.le_of_ble_eq_true rfl) dX12_place_81

set_option maxHeartbeats 4000000 in
set_option maxRecDepth 100000 in
theorem t_X12_types {l : Launch} {D : va_G} {dA : Nat → ClassId} {K : Kmap} {V : Vmap} {sz : Nat} {x ta : Nat} {v tp : Int32} {v_i tp_i : Int} (iz_v : v.toInt = v_i) (iz_tp : tp.toInt = tp_i) (hp0 : K x = some (0, 11)) (hp1 : V x 29 = .ref ta) (hp2 : K ta = some (3, 400)) (hp3 : V x 30 = .int tp) (hc0 : 0 ≤ tp_i) (hc1 : tp_i ≤ 396) : Met l yX12_types (wsOf yX12_types cX12_types 3 (none : Option Jvm.ClassFile.FieldType)) { frames := 0, cells := 0, slots := 0, locals := 0 } (PC D dA K V sz [.ref x, .int v]) (HQv D dA K (fun K1 V1 => K = K1 ∧ (∀ b, K b ≠ none → b ≠ x → b ≠ ta → V1 b = V b) ∧ (V1 x 29 = .ref ta) ∧ (∃ z : Int32, V1 x 30 = .int z ∧ z.toInt = (tp_i + 4)))) 0 0 (AK K sz) := by
  refine th_body (by decide +kernel) (Nat.le_of_ble_eq_true rfl) (fun pZ eZ sZ mZ belowZ methZ cZ C hR hsz hnm ls hl => ?_)
  have C : CX pZ sZ mZ [.ref x, .int v].toArray methZ cZ cX12_types 3 (none : Option Jvm.ClassFile.FieldType) RX12 D dA := C
  have hx := C.1; have hb := C.2.1
  have hl : lv_has ls 3 [(0, .ref x), (1, .int v)] := hl
  subst hsz
  have hS : ST D dA K sZ.heap K V sZ.heap [] := ST.rf hR
  have r_v := th_rng v; rw [iz_v] at r_v
  refine lv_iconst (v := 3) hx hb dX12_types_0 (by decide) ?_
  refine lv_istore_n (lv' := [(2, .int 3), (0, .ref x), (1, .int v)]) hx hb dX12_types_1 rfl hl (by decide) rfl (fun ls hl => ?_)
  refine lv_iload_n hx hb dX12_types_2 rfl (lv_at hl 0 rfl) ?_
  refine th_if_lt (X := 3) (tgt := 38) hx hb dX12_types_3 (by decide) li_3 (fun c4010 => absurd c4010 (by omega)) (fun c4010 => ?_)
  refine lv_aload_n hx hb dX12_types_6 rfl (lv_at hl 1 rfl) ?_
  refine th_get C hS.1 hp0 fl_RX12_84 hp1 dX12_types_7 ?_
  refine lv_aload_n hx hb dX12_types_10 rfl (lv_at hl 1 rfl) ?_
  refine th_get C hS.1 hp0 fl_RX12_436 hp3 dX12_types_11 ?_
  refine lv_iload_n hx hb dX12_types_14 rfl (lv_at hl 2 rfl) ?_
  refine lv_bipush (v := 8) hx hb dX12_types_15 (by decide) ?_
  refine lv_iload_n hx hb dX12_types_17 rfl (lv_at hl 0 rfl) ?_
  refine lv_imul hx hb dX12_types_18 ?_
  refine th_is (w := .int 24) (by decide) ?_
  refine lv_ishr hx hb dX12_types_19 ?_
  refine lv_topi (fun z4011 _ => ?_)
  have hrz4011 := th_rng z4011
  refine lv_i2b hx hb dX12_types_20 rfl ?_
  refine lv_topi (fun z4012 _ => ?_)
  refine th_bast C hS hp2 (by rw [iz_tp]; omega) (by rw [iz_tp]; omega) dX12_types_21 (fun V4013 H locs1 hV4014 hS => ?_)
  refine lv_aload_n hx hb dX12_types_22 rfl (lv_at hl 1 rfl) ?_
  refine lv_aload_n hx hb dX12_types_23 rfl (lv_at hl 1 rfl) ?_
  have hv4015 : V4013 x 30 = .int tp := Eq.trans (uq_ne hV4014 (Or.inl (K_ne hp0 hp2 (by decide)))) hp3
  refine th_get C hS.1 hp0 fl_RX12_436 hv4015 dX12_types_24 ?_
  refine lv_iconst (v := 1) hx hb dX12_types_27 (by decide) ?_
  refine lv_iadd hx hb dX12_types_28 ?_
  refine th_top (X := (tp_i + 1)) (th_add iz_tp li_1 (by omega) (by omega)) (fun z4016 hz4016 => ?_)
  refine th_put C hS hp0 fp_RX12_436 rfl rfl dX12_types_29 (fun V4017 H locs1 hV4018 hS => ?_)
  refine lv_iinc (v := 2) (lv' := [(2, .int 2), (0, .ref x), (1, .int v)]) hx hb dX12_types_32 hl (k := 0) rfl (by decide) (by decide) rfl (fun ls hl => ?_)
  refine lv_goto (tgt := 2) hx hb dX12_types_35 (by decide) ?_
  refine lv_iload_n hx hb dX12_types_2 rfl (lv_at hl 0 rfl) ?_
  refine th_if_lt (X := 2) (tgt := 38) hx hb dX12_types_3 (by decide) li_2 (fun c4019 => absurd c4019 (by omega)) (fun c4019 => ?_)
  refine lv_aload_n hx hb dX12_types_6 rfl (lv_at hl 1 rfl) ?_
  have hv4020 : V4013 x 29 = .ref ta := Eq.trans (uq_ne hV4014 (Or.inl (K_ne hp0 hp2 (by decide)))) hp1
  have hv4021 : V4017 x 29 = .ref ta := Eq.trans (uq_ne hV4018 (Or.inr (by decide))) hv4020
  refine th_get C hS.1 hp0 fl_RX12_84 hv4021 dX12_types_7 ?_
  refine lv_aload_n hx hb dX12_types_10 rfl (lv_at hl 1 rfl) ?_
  refine th_get C hS.1 hp0 fl_RX12_436 (uq_same hV4018) dX12_types_11 ?_
  refine lv_iload_n hx hb dX12_types_14 rfl (lv_at hl 2 rfl) ?_
  refine lv_bipush (v := 8) hx hb dX12_types_15 (by decide) ?_
  refine lv_iload_n hx hb dX12_types_17 rfl (lv_at hl 0 rfl) ?_
  refine lv_imul hx hb dX12_types_18 ?_
  refine th_is (w := .int 16) (by decide) ?_
  refine lv_ishr hx hb dX12_types_19 ?_
  refine lv_topi (fun z4022 _ => ?_)
  have hrz4022 := th_rng z4022
  refine lv_i2b hx hb dX12_types_20 rfl ?_
  refine lv_topi (fun z4023 _ => ?_)
  refine th_bast C hS hp2 (by rw [hz4016]; omega) (by rw [hz4016]; omega) dX12_types_21 (fun V4024 H locs1 hV4025 hS => ?_)
  refine lv_aload_n hx hb dX12_types_22 rfl (lv_at hl 1 rfl) ?_
  refine lv_aload_n hx hb dX12_types_23 rfl (lv_at hl 1 rfl) ?_
  have hv4026 : V4024 x 30 = .int z4016 := Eq.trans (uq_ne hV4025 (Or.inl (K_ne hp0 hp2 (by decide)))) (uq_same hV4018)
  refine th_get C hS.1 hp0 fl_RX12_436 hv4026 dX12_types_24 ?_
  refine lv_iconst (v := 1) hx hb dX12_types_27 (by decide) ?_
  refine lv_iadd hx hb dX12_types_28 ?_
  refine th_top (X := ((tp_i + 1) + 1)) (th_add hz4016 li_1 (by omega) (by omega)) (fun z4027 hz4027 => ?_)
  refine th_put C hS hp0 fp_RX12_436 rfl rfl dX12_types_29 (fun V4028 H locs1 hV4029 hS => ?_)
  refine lv_iinc (v := 1) (lv' := [(2, .int 1), (0, .ref x), (1, .int v)]) hx hb dX12_types_32 hl (k := 0) rfl (by decide) (by decide) rfl (fun ls hl => ?_)
  refine lv_goto (tgt := 2) hx hb dX12_types_35 (by decide) ?_
  refine lv_iload_n hx hb dX12_types_2 rfl (lv_at hl 0 rfl) ?_
  refine th_if_lt (X := 1) (tgt := 38) hx hb dX12_types_3 (by decide) li_1 (fun c4030 => absurd c4030 (by omega)) (fun c4030 => ?_)
  refine lv_aload_n hx hb dX12_types_6 rfl (lv_at hl 1 rfl) ?_
  have hv4031 : V4024 x 29 = .ref ta := Eq.trans (uq_ne hV4025 (Or.inl (K_ne hp0 hp2 (by decide)))) hv4021
  have hv4032 : V4028 x 29 = .ref ta := Eq.trans (uq_ne hV4029 (Or.inr (by decide))) hv4031
  refine th_get C hS.1 hp0 fl_RX12_84 hv4032 dX12_types_7 ?_
  refine lv_aload_n hx hb dX12_types_10 rfl (lv_at hl 1 rfl) ?_
  refine th_get C hS.1 hp0 fl_RX12_436 (uq_same hV4029) dX12_types_11 ?_
  refine lv_iload_n hx hb dX12_types_14 rfl (lv_at hl 2 rfl) ?_
  refine lv_bipush (v := 8) hx hb dX12_types_15 (by decide) ?_
  refine lv_iload_n hx hb dX12_types_17 rfl (lv_at hl 0 rfl) ?_
  refine lv_imul hx hb dX12_types_18 ?_
  refine th_is (w := .int 8) (by decide) ?_
  refine lv_ishr hx hb dX12_types_19 ?_
  refine lv_topi (fun z4033 _ => ?_)
  have hrz4033 := th_rng z4033
  refine lv_i2b hx hb dX12_types_20 rfl ?_
  refine lv_topi (fun z4034 _ => ?_)
  refine th_bast C hS hp2 (by rw [hz4027]; omega) (by rw [hz4027]; omega) dX12_types_21 (fun V4035 H locs1 hV4036 hS => ?_)
  refine lv_aload_n hx hb dX12_types_22 rfl (lv_at hl 1 rfl) ?_
  refine lv_aload_n hx hb dX12_types_23 rfl (lv_at hl 1 rfl) ?_
  have hv4037 : V4035 x 30 = .int z4027 := Eq.trans (uq_ne hV4036 (Or.inl (K_ne hp0 hp2 (by decide)))) (uq_same hV4029)
  refine th_get C hS.1 hp0 fl_RX12_436 hv4037 dX12_types_24 ?_
  refine lv_iconst (v := 1) hx hb dX12_types_27 (by decide) ?_
  refine lv_iadd hx hb dX12_types_28 ?_
  refine th_top (X := (((tp_i + 1) + 1) + 1)) (th_add hz4027 li_1 (by omega) (by omega)) (fun z4038 hz4038 => ?_)
  refine th_put C hS hp0 fp_RX12_436 rfl rfl dX12_types_29 (fun V4039 H locs1 hV4040 hS => ?_)
  refine lv_iinc (v := 0) (lv' := [(2, .int 0), (0, .ref x), (1, .int v)]) hx hb dX12_types_32 hl (k := 0) rfl (by decide) (by decide) rfl (fun ls hl => ?_)
  refine lv_goto (tgt := 2) hx hb dX12_types_35 (by decide) ?_
  refine lv_iload_n hx hb dX12_types_2 rfl (lv_at hl 0 rfl) ?_
  refine th_if_lt (X := 0) (tgt := 38) hx hb dX12_types_3 (by decide) li_0 (fun c4041 => absurd c4041 (by omega)) (fun c4041 => ?_)
  refine lv_aload_n hx hb dX12_types_6 rfl (lv_at hl 1 rfl) ?_
  have hv4042 : V4035 x 29 = .ref ta := Eq.trans (uq_ne hV4036 (Or.inl (K_ne hp0 hp2 (by decide)))) hv4032
  have hv4043 : V4039 x 29 = .ref ta := Eq.trans (uq_ne hV4040 (Or.inr (by decide))) hv4042
  refine th_get C hS.1 hp0 fl_RX12_84 hv4043 dX12_types_7 ?_
  refine lv_aload_n hx hb dX12_types_10 rfl (lv_at hl 1 rfl) ?_
  refine th_get C hS.1 hp0 fl_RX12_436 (uq_same hV4040) dX12_types_11 ?_
  refine lv_iload_n hx hb dX12_types_14 rfl (lv_at hl 2 rfl) ?_
  refine lv_bipush (v := 8) hx hb dX12_types_15 (by decide) ?_
  refine lv_iload_n hx hb dX12_types_17 rfl (lv_at hl 0 rfl) ?_
  refine lv_imul hx hb dX12_types_18 ?_
  refine th_is (w := .int 0) (by decide) ?_
  refine lv_ishr hx hb dX12_types_19 ?_
  refine lv_topi (fun z4044 _ => ?_)
  have hrz4044 := th_rng z4044
  refine lv_i2b hx hb dX12_types_20 rfl ?_
  refine lv_topi (fun z4045 _ => ?_)
  refine th_bast C hS hp2 (by rw [hz4038]; omega) (by rw [hz4038]; omega) dX12_types_21 (fun V4046 H locs1 hV4047 hS => ?_)
  refine lv_aload_n hx hb dX12_types_22 rfl (lv_at hl 1 rfl) ?_
  refine lv_aload_n hx hb dX12_types_23 rfl (lv_at hl 1 rfl) ?_
  have hv4048 : V4046 x 30 = .int z4038 := Eq.trans (uq_ne hV4047 (Or.inl (K_ne hp0 hp2 (by decide)))) (uq_same hV4040)
  refine th_get C hS.1 hp0 fl_RX12_436 hv4048 dX12_types_24 ?_
  refine lv_iconst (v := 1) hx hb dX12_types_27 (by decide) ?_
  refine lv_iadd hx hb dX12_types_28 ?_
  refine th_top (X := ((((tp_i + 1) + 1) + 1) + 1)) (th_add hz4038 li_1 (by omega) (by omega)) (fun z4049 hz4049 => ?_)
  refine th_put C hS hp0 fp_RX12_436 rfl rfl dX12_types_29 (fun V4050 H locs1 hV4051 hS => ?_)
  refine lv_iinc (v := (-1)) (lv' := [(2, .int (-1)), (0, .ref x), (1, .int v)]) hx hb dX12_types_32 hl (k := 0) rfl (by decide) (by decide) rfl (fun ls hl => ?_)
  refine lv_goto (tgt := 2) hx hb dX12_types_35 (by decide) ?_
  refine lv_iload_n hx hb dX12_types_2 rfl (lv_at hl 0 rfl) ?_
  refine th_if_lt (X := (-1)) (tgt := 38) hx hb dX12_types_3 (by decide) li_n1 (fun c4052 => ?_) (fun c4052 => absurd c4052 (by omega))
  have hv4053 : V4046 x 29 = .ref ta := Eq.trans (uq_ne hV4047 (Or.inl (K_ne hp0 hp2 (by decide)))) hv4043
  have hv4054 : V4050 x 29 = .ref ta := Eq.trans (uq_ne hV4051 (Or.inr (by decide))) hv4053
  exact th_retvH (post := fun K1 V1 => K = K1 ∧ (∀ b, K b ≠ none → b ≠ x → b ≠ ta → V1 b = V b) ∧ (V1 x 29 = .ref ta) ∧ (∃ z : Int32, V1 x 30 = .int z ∧ z.toInt = (tp_i + 4))) (cells := 0) (slots := 0) (mc := 0) (ms := 0) C hS ⟨rfl, (fun b hb hm0 hm1 => Eq.trans (uq_other hV4051 hm0) (Eq.trans (uq_other hV4047 hm1) (Eq.trans (uq_other hV4040 hm0) (Eq.trans (uq_other hV4036 hm1) (Eq.trans (uq_other hV4029 hm0) (Eq.trans (uq_other hV4025 hm1) (Eq.trans (uq_other hV4018 hm0) ((uq_other hV4014 hm1))))))))), hv4054, ⟨_, (uq_same hV4051), (by have hfin := hz4049; omega)⟩⟩ (Nat.le_of_ble_eq_true rfl) (Nat.le_of_ble_eq_true rfl) dX12_types_38

set_option maxHeartbeats 4000000 in
set_option maxRecDepth 100000 in
theorem t_X12_worksGo {l : Launch} {D : va_G} {dA : Nat → ClassId} {K : Kmap} {V : Vmap} {sz : Nat} {x : Nat} (hp0 : K x = some (0, 11)) (hp1 : V x 66 = .int 0) (hp2 : V x 9 = .int 0) : Met l yX12_worksGo (wsOf yX12_worksGo cX12_worksGo 3 (none : Option Jvm.ClassFile.FieldType)) { frames := 0, cells := 0, slots := 0, locals := 0 } (PC D dA K V sz [.ref x]) PQv 0 0 noFree := by
  refine th_body (by decide +kernel) (Nat.le_of_ble_eq_true rfl) (fun pZ eZ sZ mZ belowZ methZ cZ C hR hsz hnm ls hl => ?_)
  have C : CX pZ sZ mZ [.ref x].toArray methZ cZ cX12_worksGo 3 (none : Option Jvm.ClassFile.FieldType) RX12 D dA := C
  have hx := C.1; have hb := C.2.1
  have hl : lv_has ls 3 [(0, .ref x)] := hl
  subst hsz
  have hS : ST D dA K sZ.heap K V sZ.heap [] := ST.rf hR
  refine lv_iconst (v := 0) hx hb dX12_worksGo_0 (by decide) ?_
  refine lv_istore_n (lv' := [(1, .int 0), (0, .ref x)]) hx hb dX12_worksGo_1 rfl hl (by decide) rfl (fun ls hl => ?_)
  refine lv_iload_n hx hb dX12_worksGo_2 rfl (lv_at hl 0 rfl) ?_
  refine lv_aload_n hx hb dX12_worksGo_3 rfl (lv_at hl 1 rfl) ?_
  refine th_get C hS.1 hp0 fl_RX12_378 hp1 dX12_worksGo_4 ?_
  refine th_icmp_ge (X := 0) (Y := 0) (tgt := 158) hx hb dX12_worksGo_7 (by decide) li_0 li_0 (fun c4055 => ?_) (fun c4055 => absurd c4055 (by omega))
  refine lv_iconst (v := 0) hx hb dX12_worksGo_158 (by decide) ?_
  refine lv_istore_n (lv' := [(1, .int 0), (0, .ref x)]) hx hb dX12_worksGo_159 rfl hl (by decide) rfl (fun ls hl => ?_)
  refine lv_iload_n hx hb dX12_worksGo_160 rfl (lv_at hl 0 rfl) ?_
  refine lv_aload_n hx hb dX12_worksGo_161 rfl (lv_at hl 1 rfl) ?_
  refine th_get C hS.1 hp0 fl_RX12_393 hp2 dX12_worksGo_162 ?_
  refine th_icmp_ge (X := 0) (Y := 0) (tgt := 225) hx hb dX12_worksGo_165 (by decide) li_0 li_0 (fun c4056 => ?_) (fun c4056 => absurd c4056 (by omega))
  exact th_retv C dX12_worksGo_225

set_option maxHeartbeats 4000000 in
set_option maxRecDepth 100000 in
theorem t_X12_worthOf {l : Launch} {D : va_G} {dA : Nat → ClassId} {K : Kmap} {V : Vmap} {sz : Nat} {x : Nat} {set : Int32} {set_i : Int} (iz_set : set.toInt = set_i) (hp0 : K x = some (0, 11)) (hp1 : V x 133 = .int 0) : Met l yX12_worthOf (wsOf yX12_worthOf cX12_worthOf 4 (some .int)) { frames := 0, cells := 0, slots := 0, locals := 0 } (PC D dA K V sz [.ref x, .int set]) (PQi (fun r => (r.toInt = 0))) 0 0 noFree := by
  refine th_body (by decide +kernel) (Nat.le_of_ble_eq_true rfl) (fun pZ eZ sZ mZ belowZ methZ cZ C hR hsz hnm ls hl => ?_)
  have C : CX pZ sZ mZ [.ref x, .int set].toArray methZ cZ cX12_worthOf 4 (some .int) RX12 D dA := C
  have hx := C.1; have hb := C.2.1
  have hl : lv_has ls 4 [(0, .ref x), (1, .int set)] := hl
  subst hsz
  have hS : ST D dA K sZ.heap K V sZ.heap [] := ST.rf hR
  have r_set := th_rng set; rw [iz_set] at r_set
  refine lv_iconst (v := 0) hx hb dX12_worthOf_0 (by decide) ?_
  refine lv_istore_n (lv' := [(2, .int 0), (0, .ref x), (1, .int set)]) hx hb dX12_worthOf_1 rfl hl (by decide) rfl (fun ls hl => ?_)
  refine lv_iconst (v := 0) hx hb dX12_worthOf_2 (by decide) ?_
  refine lv_istore_n (lv' := [(3, .int 0), (2, .int 0), (0, .ref x), (1, .int set)]) hx hb dX12_worthOf_3 rfl hl (by decide) rfl (fun ls hl => ?_)
  refine lv_iload_n hx hb dX12_worthOf_4 rfl (lv_at hl 0 rfl) ?_
  refine lv_aload_n hx hb dX12_worthOf_5 rfl (lv_at hl 2 rfl) ?_
  refine th_get C hS.1 hp0 fl_RX12_718 hp1 dX12_worthOf_6 ?_
  refine th_icmp_ge (X := 0) (Y := 0) (tgt := 40) hx hb dX12_worthOf_9 (by decide) li_0 li_0 (fun c4057 => ?_) (fun c4057 => absurd c4057 (by omega))
  refine lv_iload_n hx hb dX12_worthOf_40 rfl (lv_at hl 1 rfl) ?_
  exact th_reti C (by have hfin := li_0; omega) dX12_worthOf_41

set_option maxHeartbeats 400000 in
set_option maxRecDepth 100000 in
theorem t_X12_ice {l : Launch} {D : va_G} {dA : Nat → ClassId} {K : Kmap} {V : Vmap} {sz : Nat} {x : Nat} {w h : Int32} {w_i h_i : Int} (iz_w : w.toInt = w_i) (iz_h : h.toInt = h_i) (F : FM K V x) : Met l yX12_ice (wsOf yX12_ice cX12_ice 3 (some .boolean)) { frames := 1, cells := 0, slots := 0, locals := 23 } (PC D dA K V sz [.ref x, .int w, .int h]) (HQi D dA K (fun r K1 V1 => ((((4 ≤ w_i ∧ w_i ≤ 12) ∧ (4 ≤ h_i ∧ h_i ≤ 12)) ∧ r.toInt = 1) ∨ (((4 > w_i ∨ w_i > 12) ∨ (4 > h_i ∨ h_i > 12)) ∧ r.toInt = 0)))) 0 0 (AK K sz) := by
  refine th_body (by decide +kernel) (Nat.le_of_ble_eq_true rfl) (fun pZ eZ sZ mZ belowZ methZ cZ C hR hsz hnm ls hl => ?_)
  have C : CX pZ sZ mZ [.ref x, .int w, .int h].toArray methZ cZ cX12_ice 3 (some .boolean) RX12 D dA := C
  have hx := C.1; have hb := C.2.1
  have hl : lv_has ls 3 [(0, .ref x), (1, .int w), (2, .int h)] := hl
  subst hsz
  have hS : ST D dA K sZ.heap K V sZ.heap [] := ST.rf hR
  have r_w := th_rng w; rw [iz_w] at r_w
  have r_h := th_rng h; rw [iz_h] at r_h
  have F0 := F
  obtain ⟨f5, hv_f5, hk_f5⟩ := F.2.1 (5, (1, 144)) (by decide)
  obtain ⟨f6, hv_f6, hk_f6⟩ := F.2.1 (6, (1, 144)) (by decide)
  obtain ⟨f7, hv_f7, hk_f7⟩ := F.2.1 (7, (1, 144)) (by decide)
  obtain ⟨f8, hv_f8, hk_f8⟩ := F.2.1 (8, (1, 144)) (by decide)
  refine lv_iload_n hx hb dX12_ice_0 rfl (lv_at hl 1 rfl) ?_
  refine lv_iconst (v := 4) hx hb dX12_ice_1 (by decide) ?_
  refine lv_bipush (v := 12) hx hb dX12_ice_2 (by decide) ?_
  refine th_goi (th_runS (As := [.int w, .int 4, .int 12]) (rest := []) C hS.1 gS_RX12_371 (t_X12_in iz_w li_4 li_12) hl rfl rfl rfl rfl ⟨Nat.le_of_ble_eq_true rfl, Nat.le_of_ble_eq_true rfl⟩ (Nat.le_of_ble_eq_true rfl) ⟨Nat.le_of_ble_eq_true rfl, Nat.le_of_ble_eq_true rfl⟩ dX12_ice_4) (fun r4058 hq4059 => ?_)
  refine th_if_eq (X := r4058.toInt) (tgt := 34) hx hb dX12_ice_7 (by decide) rfl (fun c4060 => ?_) (fun c4060 => ?_)
  · replace hq4059 := Or.resolve_left hq4059 (fun h => absurd h.2 (by omega))
    refine lv_iconst (v := 0) hx hb dX12_ice_34 (by decide) ?_
    exact th_retzH (post := fun r K1 V1 => ((((4 ≤ w_i ∧ w_i ≤ 12) ∧ (4 ≤ h_i ∧ h_i ≤ 12)) ∧ r.toInt = 1) ∨ (((4 > w_i ∨ w_i > 12) ∨ (4 > h_i ∨ h_i > 12)) ∧ r.toInt = 0))) (cells := 0) (slots := 0) (mc := 0) (ms := 0) C hS (by have hfin := li_0; omega) (Or.inr (⟨by omega, li_0⟩)) (Nat.le_of_ble_eq_true rfl) (Nat.le_of_ble_eq_true rfl) dX12_ice_35
  · replace hq4059 := Or.resolve_right hq4059 (fun h => absurd h.2 (by omega))
    refine lv_iload_n hx hb dX12_ice_10 rfl (lv_at hl 2 rfl) ?_
    refine lv_iconst (v := 4) hx hb dX12_ice_11 (by decide) ?_
    refine lv_bipush (v := 12) hx hb dX12_ice_12 (by decide) ?_
    refine th_goi (th_runS (As := [.int h, .int 4, .int 12]) (rest := []) C hS.1 gS_RX12_371 (t_X12_in iz_h li_4 li_12) hl rfl rfl rfl rfl ⟨Nat.le_of_ble_eq_true rfl, Nat.le_of_ble_eq_true rfl⟩ (Nat.le_of_ble_eq_true rfl) ⟨Nat.le_of_ble_eq_true rfl, Nat.le_of_ble_eq_true rfl⟩ dX12_ice_14) (fun r4061 hq4062 => ?_)
    refine th_if_eq (X := r4061.toInt) (tgt := 34) hx hb dX12_ice_17 (by decide) rfl (fun c4063 => ?_) (fun c4063 => ?_)
    · replace hq4062 := Or.resolve_left hq4062 (fun h => absurd h.2 (by omega))
      refine lv_iconst (v := 0) hx hb dX12_ice_34 (by decide) ?_
      exact th_retzH (post := fun r K1 V1 => ((((4 ≤ w_i ∧ w_i ≤ 12) ∧ (4 ≤ h_i ∧ h_i ≤ 12)) ∧ r.toInt = 1) ∨ (((4 > w_i ∨ w_i > 12) ∨ (4 > h_i ∨ h_i > 12)) ∧ r.toInt = 0))) (cells := 0) (slots := 0) (mc := 0) (ms := 0) C hS (by have hfin := li_0; omega) (Or.inr (⟨by omega, li_0⟩)) (Nat.le_of_ble_eq_true rfl) (Nat.le_of_ble_eq_true rfl) dX12_ice_35
    · replace hq4062 := Or.resolve_right hq4062 (fun h => absurd h.2 (by omega))
      refine lv_aload_n hx hb dX12_ice_20 rfl (lv_at hl 0 rfl) ?_
      refine th_get C hS.1 F.1 fl_RX12_375 (F.2.2.1 (10, 0) (by decide)) dX12_ice_21 ?_
      refine th_if_gt (X := 0) (tgt := 34) hx hb dX12_ice_24 (by decide) li_0 (fun c4064 => absurd c4064 (by omega)) (fun c4064 => ?_)
      refine lv_aload_n hx hb dX12_ice_27 rfl (lv_at hl 0 rfl) ?_
      refine th_get C hS.1 F.1 fl_RX12_378 (F.2.2.1 (66, 0) (by decide)) dX12_ice_28 ?_
      refine th_if_le (X := 0) (tgt := 36) hx hb dX12_ice_31 (by decide) li_0 (fun c4065 => ?_) (fun c4065 => absurd c4065 (by omega))
      refine lv_aload_n hx hb dX12_ice_36 rfl (lv_at hl 0 rfl) ?_
      refine lv_iload_n hx hb dX12_ice_37 rfl (lv_at hl 1 rfl) ?_
      refine lv_iload_n hx hb dX12_ice_38 rfl (lv_at hl 2 rfl) ?_
      refine th_govH hS rfl (th_runV (As := [.int w, .int h]) (rest := []) C hS.1 (RX12, TX12, 151) rfl gV_RX12_361 F.1 (t_X12_begins iz_w iz_h F.1 hv_f5 hk_f5 hv_f6 hk_f6 hv_f7 hk_f7 hv_f8 hk_f8) hl rfl rfl rfl rfl ⟨Nat.le_of_ble_eq_true rfl, Nat.le_of_ble_eq_true rfl⟩ (Nat.le_of_ble_eq_true rfl) ⟨Nat.le_of_ble_eq_true rfl, Nat.le_of_ble_eq_true rfl⟩ dX12_ice_39) (fun K4068 V4069 H locs1 hq4067 hE4070 hS => ?_)
      obtain ⟨rfl, hF4071, hA4072, hA4073, hA4074⟩ := hq4067
      refine lv_iconst (v := 1) hx hb dX12_ice_42 (by decide) ?_
      exact th_retzH (post := fun r K1 V1 => ((((4 ≤ w_i ∧ w_i ≤ 12) ∧ (4 ≤ h_i ∧ h_i ≤ 12)) ∧ r.toInt = 1) ∨ (((4 > w_i ∨ w_i > 12) ∨ (4 > h_i ∨ h_i > 12)) ∧ r.toInt = 0))) (cells := 0) (slots := 0) (mc := 0) (ms := 0) C hS (by have hfin := li_1; omega) (Or.inl ⟨by omega, li_1⟩) (Nat.le_of_ble_eq_true rfl) (Nat.le_of_ble_eq_true rfl) dX12_ice_43

set_option maxHeartbeats 400000 in
set_option maxRecDepth 100000 in
theorem t_X12_cell {l : Launch} {D : va_G} {dA : Nat → ClassId} {K : Kmap} {V : Vmap} {sz : Nat} {x : Nat} {c up gd way dy : Int32} {c_i up_i gd_i way_i dy_i : Int} (iz_c : c.toInt = c_i) (iz_up : up.toInt = up_i) (iz_gd : gd.toInt = gd_i) (iz_way : way.toInt = way_i) (iz_dy : dy.toInt = dy_i) (F : FM K V x) : Met l yX12_cell (wsOf yX12_cell cX12_cell 6 (some .boolean)) { frames := 1, cells := 0, slots := 0, locals := 22 } (PC D dA K V sz [.ref x, .int c, .int up, .int gd, .int way, .int dy]) (HQi D dA K (fun r K1 V1 => ((((0 ≤ c_i ∧ c_i ≤ 63) ∧ (0 ≤ up_i ∧ up_i ≤ 40) ∧ (0 ≤ gd_i ∧ gd_i ≤ 3) ∧ ((way_i = (-1) ∧ dy_i = 0) ∨ ((0 ≤ way_i ∧ way_i ≤ 7) ∧ (10 ≤ dy_i ∧ dy_i ≤ 3600)))) ∧ r.toInt = 1) ∨ (((0 > c_i ∨ c_i > 63) ∨ (0 > up_i ∨ up_i > 40) ∨ (0 > gd_i ∨ gd_i > 3) ∨ ((way_i ≠ (-1) ∨ dy_i ≠ 0) ∧ ((0 > way_i ∨ way_i > 7) ∨ (10 > dy_i ∨ dy_i > 3600)))) ∧ r.toInt = 0)))) 0 0 (AK K sz) := by
  refine th_body (by decide +kernel) (Nat.le_of_ble_eq_true rfl) (fun pZ eZ sZ mZ belowZ methZ cZ C hR hsz hnm ls hl => ?_)
  have C : CX pZ sZ mZ [.ref x, .int c, .int up, .int gd, .int way, .int dy].toArray methZ cZ cX12_cell 6 (some .boolean) RX12 D dA := C
  have hx := C.1; have hb := C.2.1
  have hl : lv_has ls 6 [(0, .ref x), (1, .int c), (2, .int up), (3, .int gd), (4, .int way), (5, .int dy)] := hl
  subst hsz
  have hS : ST D dA K sZ.heap K V sZ.heap [] := ST.rf hR
  have r_c := th_rng c; rw [iz_c] at r_c
  have r_up := th_rng up; rw [iz_up] at r_up
  have r_gd := th_rng gd; rw [iz_gd] at r_gd
  have r_way := th_rng way; rw [iz_way] at r_way
  have r_dy := th_rng dy; rw [iz_dy] at r_dy
  have F0 := F
  obtain ⟨f5, hv_f5, hk_f5⟩ := F.2.1 (5, (1, 144)) (by decide)
  obtain ⟨f6, hv_f6, hk_f6⟩ := F.2.1 (6, (1, 144)) (by decide)
  obtain ⟨f7, hv_f7, hk_f7⟩ := F.2.1 (7, (1, 144)) (by decide)
  obtain ⟨f8, hv_f8, hk_f8⟩ := F.2.1 (8, (1, 144)) (by decide)
  refine lv_aload_n hx hb dX12_cell_0 rfl (lv_at hl 0 rfl) ?_
  refine lv_iload_n hx hb dX12_cell_1 rfl (lv_at hl 1 rfl) ?_
  refine th_goi (th_runV (As := [.int c]) (rest := []) C hS.1 (RX12, TX12, 151) rfl gV_RX12_381 F.1 (t_X12_isCell iz_c F.1 (F.2.2.1 (0, 8) (by decide)) (F.2.2.1 (1, 8) (by decide))) hl rfl rfl rfl rfl ⟨Nat.le_of_ble_eq_true rfl, Nat.le_of_ble_eq_true rfl⟩ (Nat.le_of_ble_eq_true rfl) ⟨Nat.le_of_ble_eq_true rfl, Nat.le_of_ble_eq_true rfl⟩ dX12_cell_2) (fun r4076 hq4077 => ?_)
  refine th_if_eq (X := r4076.toInt) (tgt := 38) hx hb dX12_cell_5 (by decide) rfl (fun c4078 => ?_) (fun c4078 => ?_)
  · replace hq4077 := Or.resolve_left hq4077 (fun h => absurd h.2 (by omega))
    refine lv_iconst (v := 0) hx hb dX12_cell_38 (by decide) ?_
    exact th_retzH (post := fun r K1 V1 => ((((0 ≤ c_i ∧ c_i ≤ 63) ∧ (0 ≤ up_i ∧ up_i ≤ 40) ∧ (0 ≤ gd_i ∧ gd_i ≤ 3) ∧ ((way_i = (-1) ∧ dy_i = 0) ∨ ((0 ≤ way_i ∧ way_i ≤ 7) ∧ (10 ≤ dy_i ∧ dy_i ≤ 3600)))) ∧ r.toInt = 1) ∨ (((0 > c_i ∨ c_i > 63) ∨ (0 > up_i ∨ up_i > 40) ∨ (0 > gd_i ∨ gd_i > 3) ∨ ((way_i ≠ (-1) ∨ dy_i ≠ 0) ∧ ((0 > way_i ∨ way_i > 7) ∨ (10 > dy_i ∨ dy_i > 3600)))) ∧ r.toInt = 0))) (cells := 0) (slots := 0) (mc := 0) (ms := 0) C hS (by have hfin := li_0; omega) (Or.inr (⟨by omega, li_0⟩)) (Nat.le_of_ble_eq_true rfl) (Nat.le_of_ble_eq_true rfl) dX12_cell_39
  · replace hq4077 := Or.resolve_right hq4077 (fun h => absurd h.2 (by omega))
    refine lv_iload_n hx hb dX12_cell_8 rfl (lv_at hl 2 rfl) ?_
    refine lv_iconst (v := 0) hx hb dX12_cell_9 (by decide) ?_
    refine lv_bipush (v := 40) hx hb dX12_cell_10 (by decide) ?_
    refine th_goi (th_runS (As := [.int up, .int 0, .int 40]) (rest := []) C hS.1 gS_RX12_371 (t_X12_in iz_up li_0 li_40) hl rfl rfl rfl rfl ⟨Nat.le_of_ble_eq_true rfl, Nat.le_of_ble_eq_true rfl⟩ (Nat.le_of_ble_eq_true rfl) ⟨Nat.le_of_ble_eq_true rfl, Nat.le_of_ble_eq_true rfl⟩ dX12_cell_12) (fun r4079 hq4080 => ?_)
    refine th_if_eq (X := r4079.toInt) (tgt := 38) hx hb dX12_cell_15 (by decide) rfl (fun c4081 => ?_) (fun c4081 => ?_)
    · replace hq4080 := Or.resolve_left hq4080 (fun h => absurd h.2 (by omega))
      refine lv_iconst (v := 0) hx hb dX12_cell_38 (by decide) ?_
      exact th_retzH (post := fun r K1 V1 => ((((0 ≤ c_i ∧ c_i ≤ 63) ∧ (0 ≤ up_i ∧ up_i ≤ 40) ∧ (0 ≤ gd_i ∧ gd_i ≤ 3) ∧ ((way_i = (-1) ∧ dy_i = 0) ∨ ((0 ≤ way_i ∧ way_i ≤ 7) ∧ (10 ≤ dy_i ∧ dy_i ≤ 3600)))) ∧ r.toInt = 1) ∨ (((0 > c_i ∨ c_i > 63) ∨ (0 > up_i ∨ up_i > 40) ∨ (0 > gd_i ∨ gd_i > 3) ∨ ((way_i ≠ (-1) ∨ dy_i ≠ 0) ∧ ((0 > way_i ∨ way_i > 7) ∨ (10 > dy_i ∨ dy_i > 3600)))) ∧ r.toInt = 0))) (cells := 0) (slots := 0) (mc := 0) (ms := 0) C hS (by have hfin := li_0; omega) (Or.inr (⟨by omega, li_0⟩)) (Nat.le_of_ble_eq_true rfl) (Nat.le_of_ble_eq_true rfl) dX12_cell_39
    · replace hq4080 := Or.resolve_right hq4080 (fun h => absurd h.2 (by omega))
      refine lv_iload_n hx hb dX12_cell_18 rfl (lv_at hl 3 rfl) ?_
      refine lv_iconst (v := 0) hx hb dX12_cell_19 (by decide) ?_
      refine lv_iconst (v := 3) hx hb dX12_cell_20 (by decide) ?_
      refine th_goi (th_runS (As := [.int gd, .int 0, .int 3]) (rest := []) C hS.1 gS_RX12_371 (t_X12_in iz_gd li_0 li_3) hl rfl rfl rfl rfl ⟨Nat.le_of_ble_eq_true rfl, Nat.le_of_ble_eq_true rfl⟩ (Nat.le_of_ble_eq_true rfl) ⟨Nat.le_of_ble_eq_true rfl, Nat.le_of_ble_eq_true rfl⟩ dX12_cell_21) (fun r4082 hq4083 => ?_)
      refine th_if_eq (X := r4082.toInt) (tgt := 38) hx hb dX12_cell_24 (by decide) rfl (fun c4084 => ?_) (fun c4084 => ?_)
      · replace hq4083 := Or.resolve_left hq4083 (fun h => absurd h.2 (by omega))
        refine lv_iconst (v := 0) hx hb dX12_cell_38 (by decide) ?_
        exact th_retzH (post := fun r K1 V1 => ((((0 ≤ c_i ∧ c_i ≤ 63) ∧ (0 ≤ up_i ∧ up_i ≤ 40) ∧ (0 ≤ gd_i ∧ gd_i ≤ 3) ∧ ((way_i = (-1) ∧ dy_i = 0) ∨ ((0 ≤ way_i ∧ way_i ≤ 7) ∧ (10 ≤ dy_i ∧ dy_i ≤ 3600)))) ∧ r.toInt = 1) ∨ (((0 > c_i ∨ c_i > 63) ∨ (0 > up_i ∨ up_i > 40) ∨ (0 > gd_i ∨ gd_i > 3) ∨ ((way_i ≠ (-1) ∨ dy_i ≠ 0) ∧ ((0 > way_i ∨ way_i > 7) ∨ (10 > dy_i ∨ dy_i > 3600)))) ∧ r.toInt = 0))) (cells := 0) (slots := 0) (mc := 0) (ms := 0) C hS (by have hfin := li_0; omega) (Or.inr (⟨by omega, li_0⟩)) (Nat.le_of_ble_eq_true rfl) (Nat.le_of_ble_eq_true rfl) dX12_cell_39
      · replace hq4083 := Or.resolve_right hq4083 (fun h => absurd h.2 (by omega))
        refine lv_iload hx hb dX12_cell_27 (lv_at hl 4 rfl) ?_
        refine lv_iconst (v := (-1)) hx hb dX12_cell_29 (by decide) ?_
        refine lv_bipush (v := 7) hx hb dX12_cell_30 (by decide) ?_
        refine th_goi (th_runS (As := [.int way, .int (-1), .int 7]) (rest := []) C hS.1 gS_RX12_371 (t_X12_in iz_way li_n1 li_7) hl rfl rfl rfl rfl ⟨Nat.le_of_ble_eq_true rfl, Nat.le_of_ble_eq_true rfl⟩ (Nat.le_of_ble_eq_true rfl) ⟨Nat.le_of_ble_eq_true rfl, Nat.le_of_ble_eq_true rfl⟩ dX12_cell_32) (fun r4085 hq4086 => ?_)
        refine th_if_ne (X := r4085.toInt) (tgt := 40) hx hb dX12_cell_35 (by decide) rfl (fun c4087 => ?_) (fun c4087 => ?_)
        · replace hq4086 := Or.resolve_right hq4086 (fun h => absurd h.2 (by omega))
          refine lv_iload hx hb dX12_cell_40 (lv_at hl 4 rfl) ?_
          refine lv_iconst (v := (-1)) hx hb dX12_cell_42 (by decide) ?_
          refine th_icmp_ne (X := way_i) (Y := (-1)) (tgt := 54) hx hb dX12_cell_43 (by decide) iz_way li_n1 (fun c4088 => ?_) (fun c4088 => ?_)
          · refine lv_iload hx hb dX12_cell_54 (lv_at hl 5 rfl) ?_
            refine lv_bipush (v := 10) hx hb dX12_cell_56 (by decide) ?_
            refine lv_sipush (v := 3600) hx hb dX12_cell_58 (by decide) ?_
            refine th_goi (th_runS (As := [.int dy, .int 10, .int 3600]) (rest := []) C hS.1 gS_RX12_371 (t_X12_in iz_dy li_10 li_3600) hl rfl rfl rfl rfl ⟨Nat.le_of_ble_eq_true rfl, Nat.le_of_ble_eq_true rfl⟩ (Nat.le_of_ble_eq_true rfl) ⟨Nat.le_of_ble_eq_true rfl, Nat.le_of_ble_eq_true rfl⟩ dX12_cell_61) (fun r4089 hq4090 => ?_)
            refine th_if_ne (X := r4089.toInt) (tgt := 69) hx hb dX12_cell_64 (by decide) rfl (fun c4091 => ?_) (fun c4091 => ?_)
            · replace hq4090 := Or.resolve_right hq4090 (fun h => absurd h.2 (by omega))
              refine lv_aload_n hx hb dX12_cell_69 rfl (lv_at hl 0 rfl) ?_
              refine th_get C hS.1 F.1 fl_RX12_16 hv_f5 dX12_cell_70 ?_
              refine lv_iload_n hx hb dX12_cell_73 rfl (lv_at hl 1 rfl) ?_
              refine lv_iload_n hx hb dX12_cell_74 rfl (lv_at hl 2 rfl) ?_
              refine th_iast C hS hk_f5 (by rw [iz_c]; omega) (by rw [iz_c]; omega) dX12_cell_75 (fun V4092 H locs1 hV4093 hS => ?_)
              refine lv_aload_n hx hb dX12_cell_76 rfl (lv_at hl 0 rfl) ?_
              have hv4094 : V4092 x 6 = .ref f6 := Eq.trans (uq_ne hV4093 (Or.inl (K_ne F.1 hk_f5 (by decide)))) hv_f6
              refine th_get C hS.1 F.1 fl_RX12_20 hv4094 dX12_cell_77 ?_
              refine lv_iload_n hx hb dX12_cell_80 rfl (lv_at hl 1 rfl) ?_
              refine lv_iload_n hx hb dX12_cell_81 rfl (lv_at hl 3 rfl) ?_
              refine th_iast C hS hk_f6 (by rw [iz_c]; omega) (by rw [iz_c]; omega) dX12_cell_82 (fun V4095 H locs1 hV4096 hS => ?_)
              refine lv_aload_n hx hb dX12_cell_83 rfl (lv_at hl 0 rfl) ?_
              have hv4097 : V4092 x 7 = .ref f7 := Eq.trans (uq_ne hV4093 (Or.inl (K_ne F.1 hk_f5 (by decide)))) hv_f7
              have hv4098 : V4095 x 7 = .ref f7 := Eq.trans (uq_ne hV4096 (Or.inl (K_ne F.1 hk_f6 (by decide)))) hv4097
              refine th_get C hS.1 F.1 fl_RX12_23 hv4098 dX12_cell_84 ?_
              refine lv_iload_n hx hb dX12_cell_87 rfl (lv_at hl 1 rfl) ?_
              refine lv_iload hx hb dX12_cell_88 (lv_at hl 4 rfl) ?_
              refine th_iast C hS hk_f7 (by rw [iz_c]; omega) (by rw [iz_c]; omega) dX12_cell_90 (fun V4099 H locs1 hV4100 hS => ?_)
              refine lv_aload_n hx hb dX12_cell_91 rfl (lv_at hl 0 rfl) ?_
              have hv4101 : V4092 x 8 = .ref f8 := Eq.trans (uq_ne hV4093 (Or.inl (K_ne F.1 hk_f5 (by decide)))) hv_f8
              have hv4102 : V4095 x 8 = .ref f8 := Eq.trans (uq_ne hV4096 (Or.inl (K_ne F.1 hk_f6 (by decide)))) hv4101
              have hv4103 : V4099 x 8 = .ref f8 := Eq.trans (uq_ne hV4100 (Or.inl (K_ne F.1 hk_f7 (by decide)))) hv4102
              refine th_get C hS.1 F.1 fl_RX12_26 hv4103 dX12_cell_92 ?_
              refine lv_iload_n hx hb dX12_cell_95 rfl (lv_at hl 1 rfl) ?_
              refine lv_iload hx hb dX12_cell_96 (lv_at hl 5 rfl) ?_
              refine th_iast C hS hk_f8 (by rw [iz_c]; omega) (by rw [iz_c]; omega) dX12_cell_98 (fun V4104 H locs1 hV4105 hS => ?_)
              refine lv_iconst (v := 1) hx hb dX12_cell_99 (by decide) ?_
              exact th_retzH (post := fun r K1 V1 => ((((0 ≤ c_i ∧ c_i ≤ 63) ∧ (0 ≤ up_i ∧ up_i ≤ 40) ∧ (0 ≤ gd_i ∧ gd_i ≤ 3) ∧ ((way_i = (-1) ∧ dy_i = 0) ∨ ((0 ≤ way_i ∧ way_i ≤ 7) ∧ (10 ≤ dy_i ∧ dy_i ≤ 3600)))) ∧ r.toInt = 1) ∨ (((0 > c_i ∨ c_i > 63) ∨ (0 > up_i ∨ up_i > 40) ∨ (0 > gd_i ∨ gd_i > 3) ∨ ((way_i ≠ (-1) ∨ dy_i ≠ 0) ∧ ((0 > way_i ∨ way_i > 7) ∨ (10 > dy_i ∨ dy_i > 3600)))) ∧ r.toInt = 0))) (cells := 0) (slots := 0) (mc := 0) (ms := 0) C hS (by have hfin := li_1; omega) (Or.inl ⟨by omega, li_1⟩) (Nat.le_of_ble_eq_true rfl) (Nat.le_of_ble_eq_true rfl) dX12_cell_100
            · replace hq4090 := Or.resolve_left hq4090 (fun h => absurd h.2 (by omega))
              refine lv_iconst (v := 0) hx hb dX12_cell_67 (by decide) ?_
              exact th_retzH (post := fun r K1 V1 => ((((0 ≤ c_i ∧ c_i ≤ 63) ∧ (0 ≤ up_i ∧ up_i ≤ 40) ∧ (0 ≤ gd_i ∧ gd_i ≤ 3) ∧ ((way_i = (-1) ∧ dy_i = 0) ∨ ((0 ≤ way_i ∧ way_i ≤ 7) ∧ (10 ≤ dy_i ∧ dy_i ≤ 3600)))) ∧ r.toInt = 1) ∨ (((0 > c_i ∨ c_i > 63) ∨ (0 > up_i ∨ up_i > 40) ∨ (0 > gd_i ∨ gd_i > 3) ∨ ((way_i ≠ (-1) ∨ dy_i ≠ 0) ∧ ((0 > way_i ∨ way_i > 7) ∨ (10 > dy_i ∨ dy_i > 3600)))) ∧ r.toInt = 0))) (cells := 0) (slots := 0) (mc := 0) (ms := 0) C hS (by have hfin := li_0; omega) (Or.inr (⟨by omega, li_0⟩)) (Nat.le_of_ble_eq_true rfl) (Nat.le_of_ble_eq_true rfl) dX12_cell_68
          · refine lv_iload hx hb dX12_cell_46 (lv_at hl 5 rfl) ?_
            refine th_if_eq (X := dy_i) (tgt := 69) hx hb dX12_cell_48 (by decide) iz_dy (fun c4106 => ?_) (fun c4106 => ?_)
            · refine lv_aload_n hx hb dX12_cell_69 rfl (lv_at hl 0 rfl) ?_
              refine th_get C hS.1 F.1 fl_RX12_16 hv_f5 dX12_cell_70 ?_
              refine lv_iload_n hx hb dX12_cell_73 rfl (lv_at hl 1 rfl) ?_
              refine lv_iload_n hx hb dX12_cell_74 rfl (lv_at hl 2 rfl) ?_
              refine th_iast C hS hk_f5 (by rw [iz_c]; omega) (by rw [iz_c]; omega) dX12_cell_75 (fun V4107 H locs1 hV4108 hS => ?_)
              refine lv_aload_n hx hb dX12_cell_76 rfl (lv_at hl 0 rfl) ?_
              have hv4109 : V4107 x 6 = .ref f6 := Eq.trans (uq_ne hV4108 (Or.inl (K_ne F.1 hk_f5 (by decide)))) hv_f6
              refine th_get C hS.1 F.1 fl_RX12_20 hv4109 dX12_cell_77 ?_
              refine lv_iload_n hx hb dX12_cell_80 rfl (lv_at hl 1 rfl) ?_
              refine lv_iload_n hx hb dX12_cell_81 rfl (lv_at hl 3 rfl) ?_
              refine th_iast C hS hk_f6 (by rw [iz_c]; omega) (by rw [iz_c]; omega) dX12_cell_82 (fun V4110 H locs1 hV4111 hS => ?_)
              refine lv_aload_n hx hb dX12_cell_83 rfl (lv_at hl 0 rfl) ?_
              have hv4112 : V4107 x 7 = .ref f7 := Eq.trans (uq_ne hV4108 (Or.inl (K_ne F.1 hk_f5 (by decide)))) hv_f7
              have hv4113 : V4110 x 7 = .ref f7 := Eq.trans (uq_ne hV4111 (Or.inl (K_ne F.1 hk_f6 (by decide)))) hv4112
              refine th_get C hS.1 F.1 fl_RX12_23 hv4113 dX12_cell_84 ?_
              refine lv_iload_n hx hb dX12_cell_87 rfl (lv_at hl 1 rfl) ?_
              refine lv_iload hx hb dX12_cell_88 (lv_at hl 4 rfl) ?_
              refine th_iast C hS hk_f7 (by rw [iz_c]; omega) (by rw [iz_c]; omega) dX12_cell_90 (fun V4114 H locs1 hV4115 hS => ?_)
              refine lv_aload_n hx hb dX12_cell_91 rfl (lv_at hl 0 rfl) ?_
              have hv4116 : V4107 x 8 = .ref f8 := Eq.trans (uq_ne hV4108 (Or.inl (K_ne F.1 hk_f5 (by decide)))) hv_f8
              have hv4117 : V4110 x 8 = .ref f8 := Eq.trans (uq_ne hV4111 (Or.inl (K_ne F.1 hk_f6 (by decide)))) hv4116
              have hv4118 : V4114 x 8 = .ref f8 := Eq.trans (uq_ne hV4115 (Or.inl (K_ne F.1 hk_f7 (by decide)))) hv4117
              refine th_get C hS.1 F.1 fl_RX12_26 hv4118 dX12_cell_92 ?_
              refine lv_iload_n hx hb dX12_cell_95 rfl (lv_at hl 1 rfl) ?_
              refine lv_iload hx hb dX12_cell_96 (lv_at hl 5 rfl) ?_
              refine th_iast C hS hk_f8 (by rw [iz_c]; omega) (by rw [iz_c]; omega) dX12_cell_98 (fun V4119 H locs1 hV4120 hS => ?_)
              refine lv_iconst (v := 1) hx hb dX12_cell_99 (by decide) ?_
              exact th_retzH (post := fun r K1 V1 => ((((0 ≤ c_i ∧ c_i ≤ 63) ∧ (0 ≤ up_i ∧ up_i ≤ 40) ∧ (0 ≤ gd_i ∧ gd_i ≤ 3) ∧ ((way_i = (-1) ∧ dy_i = 0) ∨ ((0 ≤ way_i ∧ way_i ≤ 7) ∧ (10 ≤ dy_i ∧ dy_i ≤ 3600)))) ∧ r.toInt = 1) ∨ (((0 > c_i ∨ c_i > 63) ∨ (0 > up_i ∨ up_i > 40) ∨ (0 > gd_i ∨ gd_i > 3) ∨ ((way_i ≠ (-1) ∨ dy_i ≠ 0) ∧ ((0 > way_i ∨ way_i > 7) ∨ (10 > dy_i ∨ dy_i > 3600)))) ∧ r.toInt = 0))) (cells := 0) (slots := 0) (mc := 0) (ms := 0) C hS (by have hfin := li_1; omega) (Or.inl ⟨by omega, li_1⟩) (Nat.le_of_ble_eq_true rfl) (Nat.le_of_ble_eq_true rfl) dX12_cell_100
            · refine lv_goto (tgt := 67) hx hb dX12_cell_51 (by decide) ?_
              refine lv_iconst (v := 0) hx hb dX12_cell_67 (by decide) ?_
              exact th_retzH (post := fun r K1 V1 => ((((0 ≤ c_i ∧ c_i ≤ 63) ∧ (0 ≤ up_i ∧ up_i ≤ 40) ∧ (0 ≤ gd_i ∧ gd_i ≤ 3) ∧ ((way_i = (-1) ∧ dy_i = 0) ∨ ((0 ≤ way_i ∧ way_i ≤ 7) ∧ (10 ≤ dy_i ∧ dy_i ≤ 3600)))) ∧ r.toInt = 1) ∨ (((0 > c_i ∨ c_i > 63) ∨ (0 > up_i ∨ up_i > 40) ∨ (0 > gd_i ∨ gd_i > 3) ∨ ((way_i ≠ (-1) ∨ dy_i ≠ 0) ∧ ((0 > way_i ∨ way_i > 7) ∨ (10 > dy_i ∨ dy_i > 3600)))) ∧ r.toInt = 0))) (cells := 0) (slots := 0) (mc := 0) (ms := 0) C hS (by have hfin := li_0; omega) (Or.inr (⟨by omega, li_0⟩)) (Nat.le_of_ble_eq_true rfl) (Nat.le_of_ble_eq_true rfl) dX12_cell_68
        · replace hq4086 := Or.resolve_left hq4086 (fun h => absurd h.2 (by omega))
          refine lv_iconst (v := 0) hx hb dX12_cell_38 (by decide) ?_
          exact th_retzH (post := fun r K1 V1 => ((((0 ≤ c_i ∧ c_i ≤ 63) ∧ (0 ≤ up_i ∧ up_i ≤ 40) ∧ (0 ≤ gd_i ∧ gd_i ≤ 3) ∧ ((way_i = (-1) ∧ dy_i = 0) ∨ ((0 ≤ way_i ∧ way_i ≤ 7) ∧ (10 ≤ dy_i ∧ dy_i ≤ 3600)))) ∧ r.toInt = 1) ∨ (((0 > c_i ∨ c_i > 63) ∨ (0 > up_i ∨ up_i > 40) ∨ (0 > gd_i ∨ gd_i > 3) ∨ ((way_i ≠ (-1) ∨ dy_i ≠ 0) ∧ ((0 > way_i ∨ way_i > 7) ∨ (10 > dy_i ∨ dy_i > 3600)))) ∧ r.toInt = 0))) (cells := 0) (slots := 0) (mc := 0) (ms := 0) C hS (by have hfin := li_0; omega) (Or.inr (⟨by omega, li_0⟩)) (Nat.le_of_ble_eq_true rfl) (Nat.le_of_ble_eq_true rfl) dX12_cell_39

set_option maxHeartbeats 400000 in
set_option maxRecDepth 100000 in
theorem t_X12_dark {l : Launch} {D : va_G} {dA : Nat → ClassId} {K : Kmap} {V : Vmap} {sz : Nat} {x : Nat} {a b : Int32} {a_i b_i : Int} (iz_a : a.toInt = a_i) (iz_b : b.toInt = b_i) (F : FM K V x) : Met l yX12_dark (wsOf yX12_dark cX12_dark 3 (some .boolean)) { frames := 1, cells := 0, slots := 0, locals := 22 } (PC D dA K V sz [.ref x, .int a, .int b]) (HQi D dA K (fun r K1 V1 => (((0 ≤ a_i ∧ a_i ≤ b_i ∧ b_i < 360) ∧ r.toInt = 1) ∨ ((0 > a_i ∨ a_i > b_i ∨ b_i ≥ 360) ∧ r.toInt = 0)))) 0 0 (AK K sz) := by
  refine th_body (by decide +kernel) (Nat.le_of_ble_eq_true rfl) (fun pZ eZ sZ mZ belowZ methZ cZ C hR hsz hnm ls hl => ?_)
  have C : CX pZ sZ mZ [.ref x, .int a, .int b].toArray methZ cZ cX12_dark 3 (some .boolean) RX12 D dA := C
  have hx := C.1; have hb := C.2.1
  have hl : lv_has ls 3 [(0, .ref x), (1, .int a), (2, .int b)] := hl
  subst hsz
  have hS : ST D dA K sZ.heap K V sZ.heap [] := ST.rf hR
  have r_a := th_rng a; rw [iz_a] at r_a
  have r_b := th_rng b; rw [iz_b] at r_b
  have F0 := F
  refine lv_iload_n hx hb dX12_dark_0 rfl (lv_at hl 1 rfl) ?_
  refine lv_iconst (v := 0) hx hb dX12_dark_1 (by decide) ?_
  refine lv_sipush (v := 359) hx hb dX12_dark_2 (by decide) ?_
  refine th_goi (th_runS (As := [.int a, .int 0, .int 359]) (rest := []) C hS.1 gS_RX12_371 (t_X12_in iz_a li_0 li_359) hl rfl rfl rfl rfl ⟨Nat.le_of_ble_eq_true rfl, Nat.le_of_ble_eq_true rfl⟩ (Nat.le_of_ble_eq_true rfl) ⟨Nat.le_of_ble_eq_true rfl, Nat.le_of_ble_eq_true rfl⟩ dX12_dark_5) (fun r4121 hq4122 => ?_)
  refine th_if_eq (X := r4121.toInt) (tgt := 22) hx hb dX12_dark_8 (by decide) rfl (fun c4123 => ?_) (fun c4123 => ?_)
  · replace hq4122 := Or.resolve_left hq4122 (fun h => absurd h.2 (by omega))
    refine lv_iconst (v := 0) hx hb dX12_dark_22 (by decide) ?_
    exact th_retzH (post := fun r K1 V1 => (((0 ≤ a_i ∧ a_i ≤ b_i ∧ b_i < 360) ∧ r.toInt = 1) ∨ ((0 > a_i ∨ a_i > b_i ∨ b_i ≥ 360) ∧ r.toInt = 0))) (cells := 0) (slots := 0) (mc := 0) (ms := 0) C hS (by have hfin := li_0; omega) (Or.inr (⟨by omega, li_0⟩)) (Nat.le_of_ble_eq_true rfl) (Nat.le_of_ble_eq_true rfl) dX12_dark_23
  · replace hq4122 := Or.resolve_right hq4122 (fun h => absurd h.2 (by omega))
    refine lv_iload_n hx hb dX12_dark_11 rfl (lv_at hl 2 rfl) ?_
    refine lv_iload_n hx hb dX12_dark_12 rfl (lv_at hl 1 rfl) ?_
    refine lv_sipush (v := 359) hx hb dX12_dark_13 (by decide) ?_
    refine th_goi (th_runS (As := [.int b, .int a, .int 359]) (rest := []) C hS.1 gS_RX12_371 (t_X12_in iz_b iz_a li_359) hl rfl rfl rfl rfl ⟨Nat.le_of_ble_eq_true rfl, Nat.le_of_ble_eq_true rfl⟩ (Nat.le_of_ble_eq_true rfl) ⟨Nat.le_of_ble_eq_true rfl, Nat.le_of_ble_eq_true rfl⟩ dX12_dark_16) (fun r4124 hq4125 => ?_)
    refine th_if_ne (X := r4124.toInt) (tgt := 24) hx hb dX12_dark_19 (by decide) rfl (fun c4126 => ?_) (fun c4126 => ?_)
    · replace hq4125 := Or.resolve_right hq4125 (fun h => absurd h.2 (by omega))
      refine lv_aload_n hx hb dX12_dark_24 rfl (lv_at hl 0 rfl) ?_
      refine lv_iload_n hx hb dX12_dark_25 rfl (lv_at hl 1 rfl) ?_
      refine th_put C hS F.1 fp_RX12_7 rfl rfl dX12_dark_26 (fun V4127 H locs1 hV4128 hS => ?_)
      refine lv_aload_n hx hb dX12_dark_29 rfl (lv_at hl 0 rfl) ?_
      refine lv_iload_n hx hb dX12_dark_30 rfl (lv_at hl 2 rfl) ?_
      refine th_put C hS F.1 fp_RX12_13 rfl rfl dX12_dark_31 (fun V4129 H locs1 hV4130 hS => ?_)
      refine lv_iconst (v := 1) hx hb dX12_dark_34 (by decide) ?_
      exact th_retzH (post := fun r K1 V1 => (((0 ≤ a_i ∧ a_i ≤ b_i ∧ b_i < 360) ∧ r.toInt = 1) ∨ ((0 > a_i ∨ a_i > b_i ∨ b_i ≥ 360) ∧ r.toInt = 0))) (cells := 0) (slots := 0) (mc := 0) (ms := 0) C hS (by have hfin := li_1; omega) (Or.inl ⟨by omega, li_1⟩) (Nat.le_of_ble_eq_true rfl) (Nat.le_of_ble_eq_true rfl) dX12_dark_35
    · replace hq4125 := Or.resolve_left hq4125 (fun h => absurd h.2 (by omega))
      refine lv_iconst (v := 0) hx hb dX12_dark_22 (by decide) ?_
      exact th_retzH (post := fun r K1 V1 => (((0 ≤ a_i ∧ a_i ≤ b_i ∧ b_i < 360) ∧ r.toInt = 1) ∨ ((0 > a_i ∨ a_i > b_i ∨ b_i ≥ 360) ∧ r.toInt = 0))) (cells := 0) (slots := 0) (mc := 0) (ms := 0) C hS (by have hfin := li_0; omega) (Or.inr (⟨by omega, li_0⟩)) (Nat.le_of_ble_eq_true rfl) (Nat.le_of_ble_eq_true rfl) dX12_dark_23

set_option maxHeartbeats 400000 in
set_option maxRecDepth 100000 in
theorem t_X12_party {l : Launch} {D : va_G} {dA : Nat → ClassId} {K : Kmap} {V : Vmap} {sz : Nat} {x : Nat} {dc : Int32} {dc_i : Int} (iz_dc : dc.toInt = dc_i) (F : FM K V x) : Met l yX12_party (wsOf yX12_party cX12_party 2 (some .int)) { frames := 0, cells := 0, slots := 0, locals := 0 } (PC D dA K V sz [.ref x, .int dc]) (HQi D dA K (fun r K1 V1 => ((r.toInt = 0)))) 0 0 (AK K sz) := by
  refine th_body (by decide +kernel) (Nat.le_of_ble_eq_true rfl) (fun pZ eZ sZ mZ belowZ methZ cZ C hR hsz hnm ls hl => ?_)
  have C : CX pZ sZ mZ [.ref x, .int dc].toArray methZ cZ cX12_party 2 (some .int) RX12 D dA := C
  have hx := C.1; have hb := C.2.1
  have hl : lv_has ls 2 [(0, .ref x), (1, .int dc)] := hl
  subst hsz
  have hS : ST D dA K sZ.heap K V sZ.heap [] := ST.rf hR
  have r_dc := th_rng dc; rw [iz_dc] at r_dc
  have F0 := F
  obtain ⟨f11, hv_f11, hk_f11⟩ := F.2.1 (11, (1, 9)) (by decide)
  refine lv_aload_n hx hb dX12_party_0 rfl (lv_at hl 0 rfl) ?_
  refine th_get C hS.1 F.1 fl_RX12_393 (F.2.2.1 (9, 0) (by decide)) dX12_party_1 ?_
  refine lv_bipush (v := 9) hx hb dX12_party_4 (by decide) ?_
  refine th_icmp_ne (X := 0) (Y := 9) (tgt := 11) hx hb dX12_party_6 (by decide) li_0 li_9 (fun c4131 => ?_) (fun c4131 => absurd c4131 (by omega))
  refine lv_aload_n hx hb dX12_party_11 rfl (lv_at hl 0 rfl) ?_
  refine th_get C hS.1 F.1 fl_RX12_29 hv_f11 dX12_party_12 ?_
  refine lv_aload_n hx hb dX12_party_15 rfl (lv_at hl 0 rfl) ?_
  refine th_get C hS.1 F.1 fl_RX12_393 (F.2.2.1 (9, 0) (by decide)) dX12_party_16 ?_
  refine lv_iload_n hx hb dX12_party_19 rfl (lv_at hl 1 rfl) ?_
  refine th_if_eq (X := dc_i) (tgt := 30) hx hb dX12_party_20 (by decide) iz_dc (fun c4132 => ?_) (fun c4132 => ?_)
  · refine lv_iconst (v := (-1)) hx hb dX12_party_30 (by decide) ?_
    refine th_iast C hS hk_f11 (by rw [li_0]; omega) (by rw [li_0]; omega) dX12_party_31 (fun V4133 H locs1 hV4134 hS => ?_)
    refine lv_aload_n hx hb dX12_party_32 rfl (lv_at hl 0 rfl) ?_
    refine lv_aload_n hx hb dX12_party_33 rfl (lv_at hl 0 rfl) ?_
    have hv4135 : V4133 x 9 = .int 0 := Eq.trans (uq_ne hV4134 (Or.inl (K_ne F.1 hk_f11 (by decide)))) (F.2.2.1 (9, 0) (by decide))
    refine th_get C hS.1 F.1 fl_RX12_393 hv4135 dX12_party_34 ?_
    refine lv_iconst (v := 1) hx hb dX12_party_37 (by decide) ?_
    refine lv_iadd hx hb dX12_party_38 ?_
    refine th_is (w := .int 1) (by decide) ?_
    refine th_put C hS F.1 fp_RX12_393 rfl rfl dX12_party_39 (fun V4136 H locs1 hV4137 hS => ?_)
    refine lv_aload_n hx hb dX12_party_42 rfl (lv_at hl 0 rfl) ?_
    refine th_get C hS.1 F.1 fl_RX12_393 (uq_same hV4137) dX12_party_43 ?_
    refine lv_iconst (v := 1) hx hb dX12_party_46 (by decide) ?_
    refine lv_isub hx hb dX12_party_47 ?_
    refine th_is (w := .int 0) (by decide) ?_
    exact th_retiH (post := fun r K1 V1 => ((r.toInt = 0))) (cells := 0) (slots := 0) (mc := 0) (ms := 0) C hS (by have hfin := li_0; omega) (Nat.le_of_ble_eq_true rfl) (Nat.le_of_ble_eq_true rfl) dX12_party_48
  · refine lv_aload_n hx hb dX12_party_23 rfl (lv_at hl 0 rfl) ?_
    refine th_get C hS.1 F.1 fl_RX12_396 (F.2.2.1 (2, 0) (by decide)) dX12_party_24 ?_
    refine lv_goto (tgt := 31) hx hb dX12_party_27 (by decide) ?_
    refine th_iast C hS hk_f11 (by rw [li_0]; omega) (by rw [li_0]; omega) dX12_party_31 (fun V4138 H locs1 hV4139 hS => ?_)
    refine lv_aload_n hx hb dX12_party_32 rfl (lv_at hl 0 rfl) ?_
    refine lv_aload_n hx hb dX12_party_33 rfl (lv_at hl 0 rfl) ?_
    have hv4140 : V4138 x 9 = .int 0 := Eq.trans (uq_ne hV4139 (Or.inl (K_ne F.1 hk_f11 (by decide)))) (F.2.2.1 (9, 0) (by decide))
    refine th_get C hS.1 F.1 fl_RX12_393 hv4140 dX12_party_34 ?_
    refine lv_iconst (v := 1) hx hb dX12_party_37 (by decide) ?_
    refine lv_iadd hx hb dX12_party_38 ?_
    refine th_is (w := .int 1) (by decide) ?_
    refine th_put C hS F.1 fp_RX12_393 rfl rfl dX12_party_39 (fun V4141 H locs1 hV4142 hS => ?_)
    refine lv_aload_n hx hb dX12_party_42 rfl (lv_at hl 0 rfl) ?_
    refine th_get C hS.1 F.1 fl_RX12_393 (uq_same hV4142) dX12_party_43 ?_
    refine lv_iconst (v := 1) hx hb dX12_party_46 (by decide) ?_
    refine lv_isub hx hb dX12_party_47 ?_
    refine th_is (w := .int 0) (by decide) ?_
    exact th_retiH (post := fun r K1 V1 => ((r.toInt = 0))) (cells := 0) (slots := 0) (mc := 0) (ms := 0) C hS (by have hfin := li_0; omega) (Nat.le_of_ble_eq_true rfl) (Nat.le_of_ble_eq_true rfl) dX12_party_48

set_option maxHeartbeats 400000 in
set_option maxRecDepth 100000 in
theorem t_X12_claim {l : Launch} {D : va_G} {dA : Nat → ClassId} {K : Kmap} {V : Vmap} {sz : Nat} {x : Nat} {p a b ti : Int32} {p_i a_i b_i ti_i : Int} (iz_p : p.toInt = p_i) (iz_a : a.toInt = a_i) (iz_b : b.toInt = b_i) (iz_ti : ti.toInt = ti_i) (F : FM K V x) : Met l yX12_claim (wsOf yX12_claim cX12_claim 5 (some .int)) { frames := 1, cells := 0, slots := 0, locals := 21 } (PC D dA K V sz [.ref x, .int p, .int a, .int b, .int ti]) (PQi (fun r => (r.toInt = (-1)))) 0 0 noFree := by
  refine th_body (by decide +kernel) (Nat.le_of_ble_eq_true rfl) (fun pZ eZ sZ mZ belowZ methZ cZ C hR hsz hnm ls hl => ?_)
  have C : CX pZ sZ mZ [.ref x, .int p, .int a, .int b, .int ti].toArray methZ cZ cX12_claim 5 (some .int) RX12 D dA := C
  have hx := C.1; have hb := C.2.1
  have hl : lv_has ls 5 [(0, .ref x), (1, .int p), (2, .int a), (3, .int b), (4, .int ti)] := hl
  subst hsz
  have hS : ST D dA K sZ.heap K V sZ.heap [] := ST.rf hR
  have r_p := th_rng p; rw [iz_p] at r_p
  have r_a := th_rng a; rw [iz_a] at r_a
  have r_b := th_rng b; rw [iz_b] at r_b
  have r_ti := th_rng ti; rw [iz_ti] at r_ti
  have F0 := F
  refine lv_aload_n hx hb dX12_claim_0 rfl (lv_at hl 0 rfl) ?_
  refine lv_iload_n hx hb dX12_claim_1 rfl (lv_at hl 1 rfl) ?_
  refine th_goi (th_runV (As := [.int p]) (rest := []) C hS.1 (RX12, TX12, 151) rfl gV_RX12_406 F.1 (t_X12_isParty iz_p F.1 (F.2.2.1 (9, 0) (by decide))) hl rfl rfl rfl rfl ⟨Nat.le_of_ble_eq_true rfl, Nat.le_of_ble_eq_true rfl⟩ (Nat.le_of_ble_eq_true rfl) ⟨Nat.le_of_ble_eq_true rfl, Nat.le_of_ble_eq_true rfl⟩ dX12_claim_2) (fun r4143 hq4144 => ?_)
  refine th_if_eq (X := r4143.toInt) (tgt := 50) hx hb dX12_claim_5 (by decide) rfl (fun c4145 => ?_) (fun c4145 => absurd c4145 (by omega))
  refine lv_iconst (v := (-1)) hx hb dX12_claim_50 (by decide) ?_
  exact th_reti C (by have hfin := li_n1; omega) dX12_claim_51

set_option maxHeartbeats 400000 in
set_option maxRecDepth 100000 in
theorem t_X12_title {l : Launch} {D : va_G} {dA : Nat → ClassId} {K : Kmap} {V : Vmap} {sz : Nat} {x : Nat} {k n : Int32} {k_i n_i : Int} (iz_k : k.toInt = k_i) (iz_n : n.toInt = n_i) (F : FM K V x) : Met l yX12_title (wsOf yX12_title cX12_title 3 (some .boolean)) { frames := 1, cells := 0, slots := 0, locals := 22 } (PC D dA K V sz [.ref x, .int k, .int n]) (PQi (fun r => (r.toInt = 0))) 0 0 noFree := by
  refine th_body (by decide +kernel) (Nat.le_of_ble_eq_true rfl) (fun pZ eZ sZ mZ belowZ methZ cZ C hR hsz hnm ls hl => ?_)
  have C : CX pZ sZ mZ [.ref x, .int k, .int n].toArray methZ cZ cX12_title 3 (some .boolean) RX12 D dA := C
  have hx := C.1; have hb := C.2.1
  have hl : lv_has ls 3 [(0, .ref x), (1, .int k), (2, .int n)] := hl
  subst hsz
  have hS : ST D dA K sZ.heap K V sZ.heap [] := ST.rf hR
  have r_k := th_rng k; rw [iz_k] at r_k
  have r_n := th_rng n; rw [iz_n] at r_n
  have F0 := F
  refine lv_aload_n hx hb dX12_title_0 rfl (lv_at hl 0 rfl) ?_
  refine lv_iload_n hx hb dX12_title_1 rfl (lv_at hl 1 rfl) ?_
  refine lv_iconst (v := 0) hx hb dX12_title_2 (by decide) ?_
  refine th_goi (th_runV (As := [.int k, .int 0]) (rest := []) C hS.1 (RX12, TX12, 151) rfl gV_RX12_399 F.1 (t_X12_isPlace iz_k li_0 F.1 (F.2.2.1 (10, 0) (by decide))) hl rfl rfl rfl rfl ⟨Nat.le_of_ble_eq_true rfl, Nat.le_of_ble_eq_true rfl⟩ (Nat.le_of_ble_eq_true rfl) ⟨Nat.le_of_ble_eq_true rfl, Nat.le_of_ble_eq_true rfl⟩ dX12_title_3) (fun r4146 hq4147 => ?_)
  refine th_if_eq (X := r4146.toInt) (tgt := 47) hx hb dX12_title_6 (by decide) rfl (fun c4148 => ?_) (fun c4148 => absurd c4148 (by omega))
  refine lv_iconst (v := 0) hx hb dX12_title_47 (by decide) ?_
  exact th_retz C (by have hfin := li_0; omega) (by have hfin := li_0; omega) dX12_title_48

set_option maxHeartbeats 400000 in
set_option maxRecDepth 100000 in
theorem t_X12_station {l : Launch} {D : va_G} {dA : Nat → ClassId} {K : Kmap} {V : Vmap} {sz : Nat} {x : Nat} {p c pe dr : Int32} {p_i c_i pe_i dr_i : Int} (iz_p : p.toInt = p_i) (iz_c : c.toInt = c_i) (iz_pe : pe.toInt = pe_i) (iz_dr : dr.toInt = dr_i) (F : FM K V x) : Met l yX12_station (wsOf yX12_station cX12_station 5 (some .int)) { frames := 1, cells := 0, slots := 0, locals := 21 } (PC D dA K V sz [.ref x, .int p, .int c, .int pe, .int dr]) (PQi (fun r => (r.toInt = (-1)))) 0 0 noFree := by
  refine th_body (by decide +kernel) (Nat.le_of_ble_eq_true rfl) (fun pZ eZ sZ mZ belowZ methZ cZ C hR hsz hnm ls hl => ?_)
  have C : CX pZ sZ mZ [.ref x, .int p, .int c, .int pe, .int dr].toArray methZ cZ cX12_station 5 (some .int) RX12 D dA := C
  have hx := C.1; have hb := C.2.1
  have hl : lv_has ls 5 [(0, .ref x), (1, .int p), (2, .int c), (3, .int pe), (4, .int dr)] := hl
  subst hsz
  have hS : ST D dA K sZ.heap K V sZ.heap [] := ST.rf hR
  have r_p := th_rng p; rw [iz_p] at r_p
  have r_c := th_rng c; rw [iz_c] at r_c
  have r_pe := th_rng pe; rw [iz_pe] at r_pe
  have r_dr := th_rng dr; rw [iz_dr] at r_dr
  have F0 := F
  refine lv_aload_n hx hb dX12_station_0 rfl (lv_at hl 0 rfl) ?_
  refine lv_iload_n hx hb dX12_station_1 rfl (lv_at hl 1 rfl) ?_
  refine th_goi (th_runV (As := [.int p]) (rest := []) C hS.1 (RX12, TX12, 151) rfl gV_RX12_406 F.1 (t_X12_isParty iz_p F.1 (F.2.2.1 (9, 0) (by decide))) hl rfl rfl rfl rfl ⟨Nat.le_of_ble_eq_true rfl, Nat.le_of_ble_eq_true rfl⟩ (Nat.le_of_ble_eq_true rfl) ⟨Nat.le_of_ble_eq_true rfl, Nat.le_of_ble_eq_true rfl⟩ dX12_station_2) (fun r4149 hq4150 => ?_)
  refine th_if_eq (X := r4149.toInt) (tgt := 56) hx hb dX12_station_5 (by decide) rfl (fun c4151 => ?_) (fun c4151 => absurd c4151 (by omega))
  refine lv_iconst (v := (-1)) hx hb dX12_station_56 (by decide) ?_
  exact th_reti C (by have hfin := li_n1; omega) dX12_station_57

set_option maxHeartbeats 400000 in
set_option maxRecDepth 100000 in
theorem t_X12_field {l : Launch} {D : va_G} {dA : Nat → ClassId} {K : Kmap} {V : Vmap} {sz : Nat} {x : Nat} {k c : Int32} {k_i c_i : Int} (iz_k : k.toInt = k_i) (iz_c : c.toInt = c_i) (F : FM K V x) : Met l yX12_field (wsOf yX12_field cX12_field 3 (some .int)) { frames := 3, cells := 0, slots := 0, locals := 64 } (PC D dA K V sz [.ref x, .int k, .int c]) (PQi (fun r => (r.toInt = (-1)))) 0 0 noFree := by
  refine th_body (by decide +kernel) (Nat.le_of_ble_eq_true rfl) (fun pZ eZ sZ mZ belowZ methZ cZ C hR hsz hnm ls hl => ?_)
  have C : CX pZ sZ mZ [.ref x, .int k, .int c].toArray methZ cZ cX12_field 3 (some .int) RX12 D dA := C
  have hx := C.1; have hb := C.2.1
  have hl : lv_has ls 3 [(0, .ref x), (1, .int k), (2, .int c)] := hl
  subst hsz
  have hS : ST D dA K sZ.heap K V sZ.heap [] := ST.rf hR
  have r_k := th_rng k; rw [iz_k] at r_k
  have r_c := th_rng c; rw [iz_c] at r_c
  have F0 := F
  refine lv_aload_n hx hb dX12_field_0 rfl (lv_at hl 0 rfl) ?_
  refine lv_iload_n hx hb dX12_field_1 rfl (lv_at hl 1 rfl) ?_
  refine th_goi (th_runV (As := [.int k]) (rest := []) C hS.1 (RX12, TX12, 151) rfl gV_RX12_433 F.1 (t_X12_stands iz_k F.1 (F.2.2.1 (10, 0) (by decide))) hl rfl rfl rfl rfl ⟨Nat.le_of_ble_eq_true rfl, Nat.le_of_ble_eq_true rfl⟩ (Nat.le_of_ble_eq_true rfl) ⟨Nat.le_of_ble_eq_true rfl, Nat.le_of_ble_eq_true rfl⟩ dX12_field_2) (fun r4152 hq4153 => ?_)
  refine th_if_eq (X := r4152.toInt) (tgt := 33) hx hb dX12_field_5 (by decide) rfl (fun c4154 => ?_) (fun c4154 => absurd c4154 (by omega))
  refine lv_iconst (v := (-1)) hx hb dX12_field_33 (by decide) ?_
  exact th_reti C (by have hfin := li_n1; omega) dX12_field_34

set_option maxHeartbeats 400000 in
set_option maxRecDepth 100000 in
theorem t_X12_reserve {l : Launch} {D : va_G} {dA : Nat → ClassId} {K : Kmap} {V : Vmap} {sz : Nat} {x : Nat} {a b rk : Int32} {a_i b_i rk_i : Int} (iz_a : a.toInt = a_i) (iz_b : b.toInt = b_i) (iz_rk : rk.toInt = rk_i) (F : FM K V x) : Met l yX12_reserve (wsOf yX12_reserve cX12_reserve 4 (some .int)) { frames := 2, cells := 0, slots := 0, locals := 43 } (PC D dA K V sz [.ref x, .int a, .int b, .int rk]) (HQi D dA K (fun r K1 V1 => (((((0 ≤ a_i ∧ a_i ≤ 63) ∧ (0 ≤ b_i ∧ b_i ≤ 63) ∧ (a_i / 8) ≤ (b_i / 8) ∧ (a_i % 8) ≤ (b_i % 8)) ∧ (1 ≤ rk_i ∧ rk_i ≤ 9)) ∧ r.toInt = 0) ∨ ((((0 > a_i ∨ a_i > 63) ∨ (0 > b_i ∨ b_i > 63) ∨ (a_i / 8) > (b_i / 8) ∨ (a_i % 8) > (b_i % 8)) ∨ (1 > rk_i ∨ rk_i > 9)) ∧ r.toInt = (-1))))) 0 0 (AK K sz) := by
  refine th_body (by decide +kernel) (Nat.le_of_ble_eq_true rfl) (fun pZ eZ sZ mZ belowZ methZ cZ C hR hsz hnm ls hl => ?_)
  have C : CX pZ sZ mZ [.ref x, .int a, .int b, .int rk].toArray methZ cZ cX12_reserve 4 (some .int) RX12 D dA := C
  have hx := C.1; have hb := C.2.1
  have hl : lv_has ls 4 [(0, .ref x), (1, .int a), (2, .int b), (3, .int rk)] := hl
  subst hsz
  have hS : ST D dA K sZ.heap K V sZ.heap [] := ST.rf hR
  have r_a := th_rng a; rw [iz_a] at r_a
  have r_b := th_rng b; rw [iz_b] at r_b
  have r_rk := th_rng rk; rw [iz_rk] at r_rk
  have F0 := F
  obtain ⟨f13, hv_f13, hk_f13⟩ := F.2.1 (13, (1, 60)) (by decide)
  obtain ⟨f14, hv_f14, hk_f14⟩ := F.2.1 (14, (1, 60)) (by decide)
  obtain ⟨f15, hv_f15, hk_f15⟩ := F.2.1 (15, (1, 60)) (by decide)
  obtain ⟨f16, hv_f16, hk_f16⟩ := F.2.1 (16, (1, 60)) (by decide)
  obtain ⟨f17, hv_f17, hk_f17⟩ := F.2.1 (17, (1, 60)) (by decide)
  obtain ⟨f18, hv_f18, hk_f18⟩ := F.2.1 (18, (1, 60)) (by decide)
  refine lv_aload_n hx hb dX12_reserve_0 rfl (lv_at hl 0 rfl) ?_
  refine lv_iload_n hx hb dX12_reserve_1 rfl (lv_at hl 1 rfl) ?_
  refine lv_iload_n hx hb dX12_reserve_2 rfl (lv_at hl 2 rfl) ?_
  refine th_goi (th_runV (As := [.int a, .int b]) (rest := []) C hS.1 (RX12, TX12, 151) rfl gV_RX12_415 F.1 (t_X12_isRectangle iz_a iz_b F.1 (F.2.2.1 (0, 8) (by decide)) (F.2.2.1 (1, 8) (by decide))) hl rfl rfl rfl rfl ⟨Nat.le_of_ble_eq_true rfl, Nat.le_of_ble_eq_true rfl⟩ (Nat.le_of_ble_eq_true rfl) ⟨Nat.le_of_ble_eq_true rfl, Nat.le_of_ble_eq_true rfl⟩ dX12_reserve_3) (fun r4155 hq4156 => ?_)
  refine th_if_eq (X := r4155.toInt) (tgt := 28) hx hb dX12_reserve_6 (by decide) rfl (fun c4157 => ?_) (fun c4157 => ?_)
  · replace hq4156 := Or.resolve_left hq4156 (fun h => absurd h.2 (by omega))
    refine lv_iconst (v := (-1)) hx hb dX12_reserve_28 (by decide) ?_
    exact th_retiH (post := fun r K1 V1 => (((((0 ≤ a_i ∧ a_i ≤ 63) ∧ (0 ≤ b_i ∧ b_i ≤ 63) ∧ (a_i / 8) ≤ (b_i / 8) ∧ (a_i % 8) ≤ (b_i % 8)) ∧ (1 ≤ rk_i ∧ rk_i ≤ 9)) ∧ r.toInt = 0) ∨ ((((0 > a_i ∨ a_i > 63) ∨ (0 > b_i ∨ b_i > 63) ∨ (a_i / 8) > (b_i / 8) ∨ (a_i % 8) > (b_i % 8)) ∨ (1 > rk_i ∨ rk_i > 9)) ∧ r.toInt = (-1)))) (cells := 0) (slots := 0) (mc := 0) (ms := 0) C hS (Or.inr (⟨by omega, li_n1⟩)) (Nat.le_of_ble_eq_true rfl) (Nat.le_of_ble_eq_true rfl) dX12_reserve_29
  · replace hq4156 := Or.resolve_right hq4156 (fun h => absurd h.2 (by omega))
    refine lv_iload_n hx hb dX12_reserve_9 rfl (lv_at hl 3 rfl) ?_
    refine lv_iconst (v := 1) hx hb dX12_reserve_10 (by decide) ?_
    refine lv_bipush (v := 9) hx hb dX12_reserve_11 (by decide) ?_
    refine th_goi (th_runS (As := [.int rk, .int 1, .int 9]) (rest := []) C hS.1 gS_RX12_371 (t_X12_in iz_rk li_1 li_9) hl rfl rfl rfl rfl ⟨Nat.le_of_ble_eq_true rfl, Nat.le_of_ble_eq_true rfl⟩ (Nat.le_of_ble_eq_true rfl) ⟨Nat.le_of_ble_eq_true rfl, Nat.le_of_ble_eq_true rfl⟩ dX12_reserve_13) (fun r4158 hq4159 => ?_)
    refine th_if_eq (X := r4158.toInt) (tgt := 28) hx hb dX12_reserve_16 (by decide) rfl (fun c4160 => ?_) (fun c4160 => ?_)
    · replace hq4159 := Or.resolve_left hq4159 (fun h => absurd h.2 (by omega))
      refine lv_iconst (v := (-1)) hx hb dX12_reserve_28 (by decide) ?_
      exact th_retiH (post := fun r K1 V1 => (((((0 ≤ a_i ∧ a_i ≤ 63) ∧ (0 ≤ b_i ∧ b_i ≤ 63) ∧ (a_i / 8) ≤ (b_i / 8) ∧ (a_i % 8) ≤ (b_i % 8)) ∧ (1 ≤ rk_i ∧ rk_i ≤ 9)) ∧ r.toInt = 0) ∨ ((((0 > a_i ∨ a_i > 63) ∨ (0 > b_i ∨ b_i > 63) ∨ (a_i / 8) > (b_i / 8) ∨ (a_i % 8) > (b_i % 8)) ∨ (1 > rk_i ∨ rk_i > 9)) ∧ r.toInt = (-1)))) (cells := 0) (slots := 0) (mc := 0) (ms := 0) C hS (Or.inr (⟨by omega, li_n1⟩)) (Nat.le_of_ble_eq_true rfl) (Nat.le_of_ble_eq_true rfl) dX12_reserve_29
    · replace hq4159 := Or.resolve_right hq4159 (fun h => absurd h.2 (by omega))
      refine lv_aload_n hx hb dX12_reserve_19 rfl (lv_at hl 0 rfl) ?_
      refine th_get C hS.1 F.1 fl_RX12_375 (F.2.2.1 (10, 0) (by decide)) dX12_reserve_20 ?_
      refine lv_bipush (v := 60) hx hb dX12_reserve_23 (by decide) ?_
      refine th_icmp_ne (X := 0) (Y := 60) (tgt := 30) hx hb dX12_reserve_25 (by decide) li_0 li_60 (fun c4161 => ?_) (fun c4161 => absurd c4161 (by omega))
      refine lv_aload_n hx hb dX12_reserve_30 rfl (lv_at hl 0 rfl) ?_
      refine lv_iconst (v := 3) hx hb dX12_reserve_31 (by decide) ?_
      refine lv_iconst (v := (-1)) hx hb dX12_reserve_32 (by decide) ?_
      refine lv_iload_n hx hb dX12_reserve_33 rfl (lv_at hl 1 rfl) ?_
      refine lv_iload_n hx hb dX12_reserve_34 rfl (lv_at hl 2 rfl) ?_
      refine lv_iload_n hx hb dX12_reserve_35 rfl (lv_at hl 3 rfl) ?_
      refine th_goiH hS rfl (th_runV (As := [.int 3, .int (-1), .int a, .int b, .int rk]) (rest := []) C hS.1 (RX12, TX12, 151) rfl gV_RX12_421 F.1 (t_X12_place li_3 li_n1 iz_a iz_b iz_rk F.1 (F.2.2.1 (10, 0) (by decide)) (F.2.2.1 (2, 0) (by decide)) hv_f13 hk_f13 hv_f14 hk_f14 hv_f15 hk_f15 hv_f16 hk_f16 hv_f17 hk_f17 hv_f18 hk_f18) hl rfl rfl rfl rfl ⟨Nat.le_of_ble_eq_true rfl, Nat.le_of_ble_eq_true rfl⟩ (Nat.le_of_ble_eq_true rfl) ⟨Nat.le_of_ble_eq_true rfl, Nat.le_of_ble_eq_true rfl⟩ dX12_reserve_36) (fun r4162 K4164 V4165 H locs1 hq4163 hE4166 hS => ?_)
      have hr4168 := hq4163
      exact th_retiH (post := fun r K1 V1 => (((((0 ≤ a_i ∧ a_i ≤ 63) ∧ (0 ≤ b_i ∧ b_i ≤ 63) ∧ (a_i / 8) ≤ (b_i / 8) ∧ (a_i % 8) ≤ (b_i % 8)) ∧ (1 ≤ rk_i ∧ rk_i ≤ 9)) ∧ r.toInt = 0) ∨ ((((0 > a_i ∨ a_i > 63) ∨ (0 > b_i ∨ b_i > 63) ∨ (a_i / 8) > (b_i / 8) ∨ (a_i % 8) > (b_i % 8)) ∨ (1 > rk_i ∨ rk_i > 9)) ∧ r.toInt = (-1)))) (cells := 0) (slots := 0) (mc := 0) (ms := 0) C hS (Or.inl ⟨by omega, by omega⟩) (Nat.le_of_ble_eq_true rfl) (Nat.le_of_ble_eq_true rfl) dX12_reserve_39
