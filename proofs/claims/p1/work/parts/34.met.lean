set_option maxHeartbeats 4000000 in
set_option maxRecDepth 100000 in
theorem t_X12_types {l : Launch} {D : va_G} {dA : Nat → ClassId} {K : Kmap} {V : Vmap} {sz : Nat} {x ta : Nat} {v tp : Int32} {v_i tp_i : Int} (iz_v : v.toInt = v_i) (iz_tp : tp.toInt = tp_i) (hp0 : K x = some (0, 11)) (hp1 : V x 29 = .ref ta) (hp2 : K ta = some (3, 400)) (hp3 : V x 30 = .int tp) (hc0 : 0 ≤ tp_i) (hc1 : tp_i ≤ 396) : Met l yX12_types (wsOf yX12_types cX12_types 3 (none : Option Jvm.ClassFile.FieldType)) { frames := 0, cells := 0, slots := 0, locals := 0 } (PC D dA K V sz [.ref x, .int v]) (HQv D dA K (fun K1 V1 => K = K1 ∧ (∀ b, K b ≠ none → b ≠ x → b ≠ ta → V1 b = V b) ∧ (V1 x 29 = .ref ta) ∧ (∃ z : Int32, V1 x 30 = .int z ∧ z.toInt = (tp_i + 4)))) 0 0 (AK K sz) := by
  refine th_body (by decide +kernel) (Nat.le_of_ble_eq_true rfl) (fun pZ eZ sZ mZ belowZ methZ cZ C hR hsz hnm ls hl => ?_)
  have C : CX pZ sZ mZ [.ref x, .int v].toArray methZ cZ cX12_types 3 (none : Option Jvm.ClassFile.FieldType) RX12 D dA := C
  have hx := C.1; have hb := C.2.1
  have hl : lv_has ls 3 [(0, .ref x), (1, .int v)] := hl
  subst hsz
  have hS : ST D dA K sZ.heap K V sZ.heap [] := ST.rf hR
  have r_v := th_rng v; rw [iz_v] at r_v
  refine lv_iconst (v := 3) hx hb dX12_types_0 (by decide) ?_
  refine lv_istore_n (lv' := [(2, .int 3), (0, .ref x), (1, .int v)]) hx hb dX12_types_1 rfl hl (by decide) rfl (fun ls hl => ?_)
  refine lv_iload_n hx hb dX12_types_2 rfl (lv_at hl 0 rfl) ?_
  refine th_if_lt (X := 3) (tgt := 38) hx hb dX12_types_3 (by decide) li_3 (fun c4010 => absurd c4010 (by omega)) (fun c4010 => ?_)
  refine lv_aload_n hx hb dX12_types_6 rfl (lv_at hl 1 rfl) ?_
  refine th_get C hS.1 hp0 fl_RX12_84 hp1 dX12_types_7 ?_
  refine lv_aload_n hx hb dX12_types_10 rfl (lv_at hl 1 rfl) ?_
  refine th_get C hS.1 hp0 fl_RX12_436 hp3 dX12_types_11 ?_
  refine lv_iload_n hx hb dX12_types_14 rfl (lv_at hl 2 rfl) ?_
  refine lv_bipush (v := 8) hx hb dX12_types_15 (by decide) ?_
  refine lv_iload_n hx hb dX12_types_17 rfl (lv_at hl 0 rfl) ?_
  refine lv_imul hx hb dX12_types_18 ?_
  refine th_is (w := .int 24) (by decide) ?_
  refine lv_ishr hx hb dX12_types_19 ?_
  refine lv_topi (fun z4011 _ => ?_)
  have hrz4011 := th_rng z4011
  refine lv_i2b hx hb dX12_types_20 rfl ?_
  refine lv_topi (fun z4012 _ => ?_)
  refine th_bast C hS hp2 (by rw [iz_tp]; omega) (by rw [iz_tp]; omega) dX12_types_21 (fun V4013 H locs1 hV4014 hS => ?_)
  refine lv_aload_n hx hb dX12_types_22 rfl (lv_at hl 1 rfl) ?_
  refine lv_aload_n hx hb dX12_types_23 rfl (lv_at hl 1 rfl) ?_
  have hv4015 : V4013 x 30 = .int tp := Eq.trans (uq_ne hV4014 (Or.inl (K_ne hp0 hp2 (by decide)))) hp3
  refine th_get C hS.1 hp0 fl_RX12_436 hv4015 dX12_types_24 ?_
  refine lv_iconst (v := 1) hx hb dX12_types_27 (by decide) ?_
  refine lv_iadd hx hb dX12_types_28 ?_
  refine th_top (X := (tp_i + 1)) (th_add iz_tp li_1 (by omega) (by omega)) (fun z4016 hz4016 => ?_)
  refine th_put C hS hp0 fp_RX12_436 rfl rfl dX12_types_29 (fun V4017 H locs1 hV4018 hS => ?_)
  refine lv_iinc (v := 2) (lv' := [(2, .int 2), (0, .ref x), (1, .int v)]) hx hb dX12_types_32 hl (k := 0) rfl (by decide) (by decide) rfl (fun ls hl => ?_)
  refine lv_goto (tgt := 2) hx hb dX12_types_35 (by decide) ?_
  refine lv_iload_n hx hb dX12_types_2 rfl (lv_at hl 0 rfl) ?_
  refine th_if_lt (X := 2) (tgt := 38) hx hb dX12_types_3 (by decide) li_2 (fun c4019 => absurd c4019 (by omega)) (fun c4019 => ?_)
  refine lv_aload_n hx hb dX12_types_6 rfl (lv_at hl 1 rfl) ?_
  have hv4020 : V4013 x 29 = .ref ta := Eq.trans (uq_ne hV4014 (Or.inl (K_ne hp0 hp2 (by decide)))) hp1
  have hv4021 : V4017 x 29 = .ref ta := Eq.trans (uq_ne hV4018 (Or.inr (by decide))) hv4020
  refine th_get C hS.1 hp0 fl_RX12_84 hv4021 dX12_types_7 ?_
  refine lv_aload_n hx hb dX12_types_10 rfl (lv_at hl 1 rfl) ?_
  refine th_get C hS.1 hp0 fl_RX12_436 (uq_same hV4018) dX12_types_11 ?_
  refine lv_iload_n hx hb dX12_types_14 rfl (lv_at hl 2 rfl) ?_
  refine lv_bipush (v := 8) hx hb dX12_types_15 (by decide) ?_
  refine lv_iload_n hx hb dX12_types_17 rfl (lv_at hl 0 rfl) ?_
  refine lv_imul hx hb dX12_types_18 ?_
  refine th_is (w := .int 16) (by decide) ?_
  refine lv_ishr hx hb dX12_types_19 ?_
  refine lv_topi (fun z4022 _ => ?_)
  have hrz4022 := th_rng z4022
  refine lv_i2b hx hb dX12_types_20 rfl ?_
  refine lv_topi (fun z4023 _ => ?_)
  refine th_bast C hS hp2 (by rw [hz4016]; omega) (by rw [hz4016]; omega) dX12_types_21 (fun V4024 H locs1 hV4025 hS => ?_)
  refine lv_aload_n hx hb dX12_types_22 rfl (lv_at hl 1 rfl) ?_
  refine lv_aload_n hx hb dX12_types_23 rfl (lv_at hl 1 rfl) ?_
  have hv4026 : V4024 x 30 = .int z4016 := Eq.trans (uq_ne hV4025 (Or.inl (K_ne hp0 hp2 (by decide)))) (uq_same hV4018)
  refine th_get C hS.1 hp0 fl_RX12_436 hv4026 dX12_types_24 ?_
  refine lv_iconst (v := 1) hx hb dX12_types_27 (by decide) ?_
  refine lv_iadd hx hb dX12_types_28 ?_
  refine th_top (X := ((tp_i + 1) + 1)) (th_add hz4016 li_1 (by omega) (by omega)) (fun z4027 hz4027 => ?_)
  refine th_put C hS hp0 fp_RX12_436 rfl rfl dX12_types_29 (fun V4028 H locs1 hV4029 hS => ?_)
  refine lv_iinc (v := 1) (lv' := [(2, .int 1), (0, .ref x), (1, .int v)]) hx hb dX12_types_32 hl (k := 0) rfl (by decide) (by decide) rfl (fun ls hl => ?_)
  refine lv_goto (tgt := 2) hx hb dX12_types_35 (by decide) ?_
  refine lv_iload_n hx hb dX12_types_2 rfl (lv_at hl 0 rfl) ?_
  refine th_if_lt (X := 1) (tgt := 38) hx hb dX12_types_3 (by decide) li_1 (fun c4030 => absurd c4030 (by omega)) (fun c4030 => ?_)
  refine lv_aload_n hx hb dX12_types_6 rfl (lv_at hl 1 rfl) ?_
  have hv4031 : V4024 x 29 = .ref ta := Eq.trans (uq_ne hV4025 (Or.inl (K_ne hp0 hp2 (by decide)))) hv4021
  have hv4032 : V4028 x 29 = .ref ta := Eq.trans (uq_ne hV4029 (Or.inr (by decide))) hv4031
  refine th_get C hS.1 hp0 fl_RX12_84 hv4032 dX12_types_7 ?_
  refine lv_aload_n hx hb dX12_types_10 rfl (lv_at hl 1 rfl) ?_
  refine th_get C hS.1 hp0 fl_RX12_436 (uq_same hV4029) dX12_types_11 ?_
  refine lv_iload_n hx hb dX12_types_14 rfl (lv_at hl 2 rfl) ?_
  refine lv_bipush (v := 8) hx hb dX12_types_15 (by decide) ?_
  refine lv_iload_n hx hb dX12_types_17 rfl (lv_at hl 0 rfl) ?_
  refine lv_imul hx hb dX12_types_18 ?_
  refine th_is (w := .int 8) (by decide) ?_
  refine lv_ishr hx hb dX12_types_19 ?_
  refine lv_topi (fun z4033 _ => ?_)
  have hrz4033 := th_rng z4033
  refine lv_i2b hx hb dX12_types_20 rfl ?_
  refine lv_topi (fun z4034 _ => ?_)
  refine th_bast C hS hp2 (by rw [hz4027]; omega) (by rw [hz4027]; omega) dX12_types_21 (fun V4035 H locs1 hV4036 hS => ?_)
  refine lv_aload_n hx hb dX12_types_22 rfl (lv_at hl 1 rfl) ?_
  refine lv_aload_n hx hb dX12_types_23 rfl (lv_at hl 1 rfl) ?_
  have hv4037 : V4035 x 30 = .int z4027 := Eq.trans (uq_ne hV4036 (Or.inl (K_ne hp0 hp2 (by decide)))) (uq_same hV4029)
  refine th_get C hS.1 hp0 fl_RX12_436 hv4037 dX12_types_24 ?_
  refine lv_iconst (v := 1) hx hb dX12_types_27 (by decide) ?_
  refine lv_iadd hx hb dX12_types_28 ?_
  refine th_top (X := (((tp_i + 1) + 1) + 1)) (th_add hz4027 li_1 (by omega) (by omega)) (fun z4038 hz4038 => ?_)
  refine th_put C hS hp0 fp_RX12_436 rfl rfl dX12_types_29 (fun V4039 H locs1 hV4040 hS => ?_)
  refine lv_iinc (v := 0) (lv' := [(2, .int 0), (0, .ref x), (1, .int v)]) hx hb dX12_types_32 hl (k := 0) rfl (by decide) (by decide) rfl (fun ls hl => ?_)
  refine lv_goto (tgt := 2) hx hb dX12_types_35 (by decide) ?_
  refine lv_iload_n hx hb dX12_types_2 rfl (lv_at hl 0 rfl) ?_
  refine th_if_lt (X := 0) (tgt := 38) hx hb dX12_types_3 (by decide) li_0 (fun c4041 => absurd c4041 (by omega)) (fun c4041 => ?_)
  refine lv_aload_n hx hb dX12_types_6 rfl (lv_at hl 1 rfl) ?_
  have hv4042 : V4035 x 29 = .ref ta := Eq.trans (uq_ne hV4036 (Or.inl (K_ne hp0 hp2 (by decide)))) hv4032
  have hv4043 : V4039 x 29 = .ref ta := Eq.trans (uq_ne hV4040 (Or.inr (by decide))) hv4042
  refine th_get C hS.1 hp0 fl_RX12_84 hv4043 dX12_types_7 ?_
  refine lv_aload_n hx hb dX12_types_10 rfl (lv_at hl 1 rfl) ?_
  refine th_get C hS.1 hp0 fl_RX12_436 (uq_same hV4040) dX12_types_11 ?_
  refine lv_iload_n hx hb dX12_types_14 rfl (lv_at hl 2 rfl) ?_
  refine lv_bipush (v := 8) hx hb dX12_types_15 (by decide) ?_
  refine lv_iload_n hx hb dX12_types_17 rfl (lv_at hl 0 rfl) ?_
  refine lv_imul hx hb dX12_types_18 ?_
  refine th_is (w := .int 0) (by decide) ?_
  refine lv_ishr hx hb dX12_types_19 ?_
  refine lv_topi (fun z4044 _ => ?_)
  have hrz4044 := th_rng z4044
  refine lv_i2b hx hb dX12_types_20 rfl ?_
  refine lv_topi (fun z4045 _ => ?_)
  refine th_bast C hS hp2 (by rw [hz4038]; omega) (by rw [hz4038]; omega) dX12_types_21 (fun V4046 H locs1 hV4047 hS => ?_)
  refine lv_aload_n hx hb dX12_types_22 rfl (lv_at hl 1 rfl) ?_
  refine lv_aload_n hx hb dX12_types_23 rfl (lv_at hl 1 rfl) ?_
  have hv4048 : V4046 x 30 = .int z4038 := Eq.trans (uq_ne hV4047 (Or.inl (K_ne hp0 hp2 (by decide)))) (uq_same hV4040)
  refine th_get C hS.1 hp0 fl_RX12_436 hv4048 dX12_types_24 ?_
  refine lv_iconst (v := 1) hx hb dX12_types_27 (by decide) ?_
  refine lv_iadd hx hb dX12_types_28 ?_
  refine th_top (X := ((((tp_i + 1) + 1) + 1) + 1)) (th_add hz4038 li_1 (by omega) (by omega)) (fun z4049 hz4049 => ?_)
  refine th_put C hS hp0 fp_RX12_436 rfl rfl dX12_types_29 (fun V4050 H locs1 hV4051 hS => ?_)
  refine lv_iinc (v := (-1)) (lv' := [(2, .int (-1)), (0, .ref x), (1, .int v)]) hx hb dX12_types_32 hl (k := 0) rfl (by decide) (by decide) rfl (fun ls hl => ?_)
  refine lv_goto (tgt := 2) hx hb dX12_types_35 (by decide) ?_
  refine lv_iload_n hx hb dX12_types_2 rfl (lv_at hl 0 rfl) ?_
  refine th_if_lt (X := (-1)) (tgt := 38) hx hb dX12_types_3 (by decide) li_n1 (fun c4052 => ?_) (fun c4052 => absurd c4052 (by omega))
  have hv4053 : V4046 x 29 = .ref ta := Eq.trans (uq_ne hV4047 (Or.inl (K_ne hp0 hp2 (by decide)))) hv4043
  have hv4054 : V4050 x 29 = .ref ta := Eq.trans (uq_ne hV4051 (Or.inr (by decide))) hv4053
  exact th_retvH (post := fun K1 V1 => K = K1 ∧ (∀ b, K b ≠ none → b ≠ x → b ≠ ta → V1 b = V b) ∧ (V1 x 29 = .ref ta) ∧ (∃ z : Int32, V1 x 30 = .int z ∧ z.toInt = (tp_i + 4))) (cells := 0) (slots := 0) (mc := 0) (ms := 0) C hS ⟨rfl, (fun b hb hm0 hm1 => Eq.trans (uq_other hV4051 hm0) (Eq.trans (uq_other hV4047 hm1) (Eq.trans (uq_other hV4040 hm0) (Eq.trans (uq_other hV4036 hm1) (Eq.trans (uq_other hV4029 hm0) (Eq.trans (uq_other hV4025 hm1) (Eq.trans (uq_other hV4018 hm0) ((uq_other hV4014 hm1))))))))), hv4054, ⟨_, (uq_same hV4051), (by have hfin := hz4049; omega)⟩⟩ (Nat.le_of_ble_eq_true rfl) (Nat.le_of_ble_eq_true rfl) dX12_types_38

set_option maxHeartbeats 4000000 in
set_option maxRecDepth 100000 in
theorem t_X12_worksGo {l : Launch} {D : va_G} {dA : Nat → ClassId} {K : Kmap} {V : Vmap} {sz : Nat} {x : Nat} (hp0 : K x = some (0, 11)) (hp1 : V x 66 = .int 0) (hp2 : V x 9 = .int 0) : Met l yX12_worksGo (wsOf yX12_worksGo cX12_worksGo 3 (none : Option Jvm.ClassFile.FieldType)) { frames := 0, cells := 0, slots := 0, locals := 0 } (PC D dA K V sz [.ref x]) PQv 0 0 noFree := by
  refine th_body (by decide +kernel) (Nat.le_of_ble_eq_true rfl) (fun pZ eZ sZ mZ belowZ methZ cZ C hR hsz hnm ls hl => ?_)
  have C : CX pZ sZ mZ [.ref x].toArray methZ cZ cX12_worksGo 3 (none : Option Jvm.ClassFile.FieldType) RX12 D dA := C
  have hx := C.1; have hb := C.2.1
  have hl : lv_has ls 3 [(0, .ref x)] := hl
  subst hsz
  have hS : ST D dA K sZ.heap K V sZ.heap [] := ST.rf hR
  refine lv_iconst (v := 0) hx hb dX12_worksGo_0 (by decide) ?_
  refine lv_istore_n (lv' := [(1, .int 0), (0, .ref x)]) hx hb dX12_worksGo_1 rfl hl (by decide) rfl (fun ls hl => ?_)
  refine lv_iload_n hx hb dX12_worksGo_2 rfl (lv_at hl 0 rfl) ?_
  refine lv_aload_n hx hb dX12_worksGo_3 rfl (lv_at hl 1 rfl) ?_
  refine th_get C hS.1 hp0 fl_RX12_378 hp1 dX12_worksGo_4 ?_
  refine th_icmp_ge (X := 0) (Y := 0) (tgt := 158) hx hb dX12_worksGo_7 (by decide) li_0 li_0 (fun c4055 => ?_) (fun c4055 => absurd c4055 (by omega))
  refine lv_iconst (v := 0) hx hb dX12_worksGo_158 (by decide) ?_
  refine lv_istore_n (lv' := [(1, .int 0), (0, .ref x)]) hx hb dX12_worksGo_159 rfl hl (by decide) rfl (fun ls hl => ?_)
  refine lv_iload_n hx hb dX12_worksGo_160 rfl (lv_at hl 0 rfl) ?_
  refine lv_aload_n hx hb dX12_worksGo_161 rfl (lv_at hl 1 rfl) ?_
  refine th_get C hS.1 hp0 fl_RX12_393 hp2 dX12_worksGo_162 ?_
  refine th_icmp_ge (X := 0) (Y := 0) (tgt := 225) hx hb dX12_worksGo_165 (by decide) li_0 li_0 (fun c4056 => ?_) (fun c4056 => absurd c4056 (by omega))
  exact th_retv C dX12_worksGo_225

set_option maxHeartbeats 4000000 in
set_option maxRecDepth 100000 in
theorem t_X12_worthOf {l : Launch} {D : va_G} {dA : Nat → ClassId} {K : Kmap} {V : Vmap} {sz : Nat} {x : Nat} {set : Int32} {set_i : Int} (iz_set : set.toInt = set_i) (hp0 : K x = some (0, 11)) (hp1 : V x 133 = .int 0) : Met l yX12_worthOf (wsOf yX12_worthOf cX12_worthOf 4 (some .int)) { frames := 0, cells := 0, slots := 0, locals := 0 } (PC D dA K V sz [.ref x, .int set]) (PQi (fun r => (r.toInt = 0))) 0 0 noFree := by
  refine th_body (by decide +kernel) (Nat.le_of_ble_eq_true rfl) (fun pZ eZ sZ mZ belowZ methZ cZ C hR hsz hnm ls hl => ?_)
  have C : CX pZ sZ mZ [.ref x, .int set].toArray methZ cZ cX12_worthOf 4 (some .int) RX12 D dA := C
  have hx := C.1; have hb := C.2.1
  have hl : lv_has ls 4 [(0, .ref x), (1, .int set)] := hl
  subst hsz
  have hS : ST D dA K sZ.heap K V sZ.heap [] := ST.rf hR
  have r_set := th_rng set; rw [iz_set] at r_set
  refine lv_iconst (v := 0) hx hb dX12_worthOf_0 (by decide) ?_
  refine lv_istore_n (lv' := [(2, .int 0), (0, .ref x), (1, .int set)]) hx hb dX12_worthOf_1 rfl hl (by decide) rfl (fun ls hl => ?_)
  refine lv_iconst (v := 0) hx hb dX12_worthOf_2 (by decide) ?_
  refine lv_istore_n (lv' := [(3, .int 0), (2, .int 0), (0, .ref x), (1, .int set)]) hx hb dX12_worthOf_3 rfl hl (by decide) rfl (fun ls hl => ?_)
  refine lv_iload_n hx hb dX12_worthOf_4 rfl (lv_at hl 0 rfl) ?_
  refine lv_aload_n hx hb dX12_worthOf_5 rfl (lv_at hl 2 rfl) ?_
  refine th_get C hS.1 hp0 fl_RX12_718 hp1 dX12_worthOf_6 ?_
  refine th_icmp_ge (X := 0) (Y := 0) (tgt := 40) hx hb dX12_worthOf_9 (by decide) li_0 li_0 (fun c4057 => ?_) (fun c4057 => absurd c4057 (by omega))
  refine lv_iload_n hx hb dX12_worthOf_40 rfl (lv_at hl 1 rfl) ?_
  exact th_reti C (by have hfin := li_0; omega) dX12_worthOf_41

set_option maxHeartbeats 400000 in
set_option maxRecDepth 100000 in
theorem t_X12_ice {l : Launch} {D : va_G} {dA : Nat → ClassId} {K : Kmap} {V : Vmap} {sz : Nat} {x : Nat} {w h : Int32} {w_i h_i : Int} (iz_w : w.toInt = w_i) (iz_h : h.toInt = h_i) (F : FM K V x) : Met l yX12_ice (wsOf yX12_ice cX12_ice 3 (some .boolean)) { frames := 1, cells := 0, slots := 0, locals := 23 } (PC D dA K V sz [.ref x, .int w, .int h]) (HQi D dA K (fun r K1 V1 => ((((4 ≤ w_i ∧ w_i ≤ 12) ∧ (4 ≤ h_i ∧ h_i ≤ 12)) ∧ r.toInt = 1) ∨ (((4 > w_i ∨ w_i > 12) ∨ (4 > h_i ∨ h_i > 12)) ∧ r.toInt = 0)))) 0 0 (AK K sz) := by
  refine th_body (by decide +kernel) (Nat.le_of_ble_eq_true rfl) (fun pZ eZ sZ mZ belowZ methZ cZ C hR hsz hnm ls hl => ?_)
  have C : CX pZ sZ mZ [.ref x, .int w, .int h].toArray methZ cZ cX12_ice 3 (some .boolean) RX12 D dA := C
  have hx := C.1; have hb := C.2.1
  have hl : lv_has ls 3 [(0, .ref x), (1, .int w), (2, .int h)] := hl
  subst hsz
  have hS : ST D dA K sZ.heap K V sZ.heap [] := ST.rf hR
  have r_w := th_rng w; rw [iz_w] at r_w
  have r_h := th_rng h; rw [iz_h] at r_h
  have F0 := F
  obtain ⟨f5, hv_f5, hk_f5⟩ := F.2.1 (5, (1, 144)) (by decide)
  obtain ⟨f6, hv_f6, hk_f6⟩ := F.2.1 (6, (1, 144)) (by decide)
  obtain ⟨f7, hv_f7, hk_f7⟩ := F.2.1 (7, (1, 144)) (by decide)
  obtain ⟨f8, hv_f8, hk_f8⟩ := F.2.1 (8, (1, 144)) (by decide)
  refine lv_iload_n hx hb dX12_ice_0 rfl (lv_at hl 1 rfl) ?_
  refine lv_iconst (v := 4) hx hb dX12_ice_1 (by decide) ?_
  refine lv_bipush (v := 12) hx hb dX12_ice_2 (by decide) ?_
  refine th_goi (th_runS (As := [.int w, .int 4, .int 12]) (rest := []) C hS.1 gS_RX12_371 (t_X12_in iz_w li_4 li_12) hl rfl rfl rfl rfl ⟨Nat.le_of_ble_eq_true rfl, Nat.le_of_ble_eq_true rfl⟩ (Nat.le_of_ble_eq_true rfl) ⟨Nat.le_of_ble_eq_true rfl, Nat.le_of_ble_eq_true rfl⟩ dX12_ice_4) (fun r4058 hq4059 => ?_)
  refine th_if_eq (X := r4058.toInt) (tgt := 34) hx hb dX12_ice_7 (by decide) rfl (fun c4060 => ?_) (fun c4060 => ?_)
  · replace hq4059 := Or.resolve_left hq4059 (fun h => absurd h.2 (by omega))
    refine lv_iconst (v := 0) hx hb dX12_ice_34 (by decide) ?_
    exact th_retzH (post := fun r K1 V1 => ((((4 ≤ w_i ∧ w_i ≤ 12) ∧ (4 ≤ h_i ∧ h_i ≤ 12)) ∧ r.toInt = 1) ∨ (((4 > w_i ∨ w_i > 12) ∨ (4 > h_i ∨ h_i > 12)) ∧ r.toInt = 0))) (cells := 0) (slots := 0) (mc := 0) (ms := 0) C hS (by have hfin := li_0; omega) (Or.inr (⟨by omega, li_0⟩)) (Nat.le_of_ble_eq_true rfl) (Nat.le_of_ble_eq_true rfl) dX12_ice_35
  · replace hq4059 := Or.resolve_right hq4059 (fun h => absurd h.2 (by omega))
    refine lv_iload_n hx hb dX12_ice_10 rfl (lv_at hl 2 rfl) ?_
    refine lv_iconst (v := 4) hx hb dX12_ice_11 (by decide) ?_
    refine lv_bipush (v := 12) hx hb dX12_ice_12 (by decide) ?_
    refine th_goi (th_runS (As := [.int h, .int 4, .int 12]) (rest := []) C hS.1 gS_RX12_371 (t_X12_in iz_h li_4 li_12) hl rfl rfl rfl rfl ⟨Nat.le_of_ble_eq_true rfl, Nat.le_of_ble_eq_true rfl⟩ (Nat.le_of_ble_eq_true rfl) ⟨Nat.le_of_ble_eq_true rfl, Nat.le_of_ble_eq_true rfl⟩ dX12_ice_14) (fun r4061 hq4062 => ?_)
    refine th_if_eq (X := r4061.toInt) (tgt := 34) hx hb dX12_ice_17 (by decide) rfl (fun c4063 => ?_) (fun c4063 => ?_)
    · replace hq4062 := Or.resolve_left hq4062 (fun h => absurd h.2 (by omega))
      refine lv_iconst (v := 0) hx hb dX12_ice_34 (by decide) ?_
      exact th_retzH (post := fun r K1 V1 => ((((4 ≤ w_i ∧ w_i ≤ 12) ∧ (4 ≤ h_i ∧ h_i ≤ 12)) ∧ r.toInt = 1) ∨ (((4 > w_i ∨ w_i > 12) ∨ (4 > h_i ∨ h_i > 12)) ∧ r.toInt = 0))) (cells := 0) (slots := 0) (mc := 0) (ms := 0) C hS (by have hfin := li_0; omega) (Or.inr (⟨by omega, li_0⟩)) (Nat.le_of_ble_eq_true rfl) (Nat.le_of_ble_eq_true rfl) dX12_ice_35
    · replace hq4062 := Or.resolve_right hq4062 (fun h => absurd h.2 (by omega))
      refine lv_aload_n hx hb dX12_ice_20 rfl (lv_at hl 0 rfl) ?_
      refine th_get C hS.1 F.1 fl_RX12_375 (F.2.2.1 (10, 0) (by decide)) dX12_ice_21 ?_
      refine th_if_gt (X := 0) (tgt := 34) hx hb dX12_ice_24 (by decide) li_0 (fun c4064 => absurd c4064 (by omega)) (fun c4064 => ?_)
      refine lv_aload_n hx hb dX12_ice_27 rfl (lv_at hl 0 rfl) ?_
      refine th_get C hS.1 F.1 fl_RX12_378 (F.2.2.1 (66, 0) (by decide)) dX12_ice_28 ?_
      refine th_if_le (X := 0) (tgt := 36) hx hb dX12_ice_31 (by decide) li_0 (fun c4065 => ?_) (fun c4065 => absurd c4065 (by omega))
      refine lv_aload_n hx hb dX12_ice_36 rfl (lv_at hl 0 rfl) ?_
      refine lv_iload_n hx hb dX12_ice_37 rfl (lv_at hl 1 rfl) ?_
      refine lv_iload_n hx hb dX12_ice_38 rfl (lv_at hl 2 rfl) ?_
      refine th_govH hS rfl (th_runV (As := [.int w, .int h]) (rest := []) C hS.1 (RX12, TX12, 151) rfl gV_RX12_361 F.1 (t_X12_begins iz_w iz_h F.1 hv_f5 hk_f5 hv_f6 hk_f6 hv_f7 hk_f7 hv_f8 hk_f8) hl rfl rfl rfl rfl ⟨Nat.le_of_ble_eq_true rfl, Nat.le_of_ble_eq_true rfl⟩ (Nat.le_of_ble_eq_true rfl) ⟨Nat.le_of_ble_eq_true rfl, Nat.le_of_ble_eq_true rfl⟩ dX12_ice_39) (fun K4068 V4069 H locs1 hq4067 hE4070 hS => ?_)
      obtain ⟨rfl, hF4071, hA4072, hA4073, hA4074⟩ := hq4067
      refine lv_iconst (v := 1) hx hb dX12_ice_42 (by decide) ?_
      exact th_retzH (post := fun r K1 V1 => ((((4 ≤ w_i ∧ w_i ≤ 12) ∧ (4 ≤ h_i ∧ h_i ≤ 12)) ∧ r.toInt = 1) ∨ (((4 > w_i ∨ w_i > 12) ∨ (4 > h_i ∨ h_i > 12)) ∧ r.toInt = 0))) (cells := 0) (slots := 0) (mc := 0) (ms := 0) C hS (by have hfin := li_1; omega) (Or.inl ⟨by omega, li_1⟩) (Nat.le_of_ble_eq_true rfl) (Nat.le_of_ble_eq_true rfl) dX12_ice_43

set_option maxHeartbeats 400000 in
set_option maxRecDepth 100000 in
theorem t_X12_cell {l : Launch} {D : va_G} {dA : Nat → ClassId} {K : Kmap} {V : Vmap} {sz : Nat} {x : Nat} {c up gd way dy : Int32} {c_i up_i gd_i way_i dy_i : Int} (iz_c : c.toInt = c_i) (iz_up : up.toInt = up_i) (iz_gd : gd.toInt = gd_i) (iz_way : way.toInt = way_i) (iz_dy : dy.toInt = dy_i) (F : FM K V x) : Met l yX12_cell (wsOf yX12_cell cX12_cell 6 (some .boolean)) { frames := 1, cells := 0, slots := 0, locals := 22 } (PC D dA K V sz [.ref x, .int c, .int up, .int gd, .int way, .int dy]) (HQi D dA K (fun r K1 V1 => ((((0 ≤ c_i ∧ c_i ≤ 63) ∧ (0 ≤ up_i ∧ up_i ≤ 40) ∧ (0 ≤ gd_i ∧ gd_i ≤ 3) ∧ ((way_i = (-1) ∧ dy_i = 0) ∨ ((0 ≤ way_i ∧ way_i ≤ 7) ∧ (10 ≤ dy_i ∧ dy_i ≤ 3600)))) ∧ r.toInt = 1) ∨ (((0 > c_i ∨ c_i > 63) ∨ (0 > up_i ∨ up_i > 40) ∨ (0 > gd_i ∨ gd_i > 3) ∨ ((way_i ≠ (-1) ∨ dy_i ≠ 0) ∧ ((0 > way_i ∨ way_i > 7) ∨ (10 > dy_i ∨ dy_i > 3600)))) ∧ r.toInt = 0)))) 0 0 (AK K sz) := by
  refine th_body (by decide +kernel) (Nat.le_of_ble_eq_true rfl) (fun pZ eZ sZ mZ belowZ methZ cZ C hR hsz hnm ls hl => ?_)
  have C : CX pZ sZ mZ [.ref x, .int c, .int up, .int gd, .int way, .int dy].toArray methZ cZ cX12_cell 6 (some .boolean) RX12 D dA := C
  have hx := C.1; have hb := C.2.1
  have hl : lv_has ls 6 [(0, .ref x), (1, .int c), (2, .int up), (3, .int gd), (4, .int way), (5, .int dy)] := hl
  subst hsz
  have hS : ST D dA K sZ.heap K V sZ.heap [] := ST.rf hR
  have r_c := th_rng c; rw [iz_c] at r_c
  have r_up := th_rng up; rw [iz_up] at r_up
  have r_gd := th_rng gd; rw [iz_gd] at r_gd
  have r_way := th_rng way; rw [iz_way] at r_way
  have r_dy := th_rng dy; rw [iz_dy] at r_dy
  have F0 := F
  obtain ⟨f5, hv_f5, hk_f5⟩ := F.2.1 (5, (1, 144)) (by decide)
  obtain ⟨f6, hv_f6, hk_f6⟩ := F.2.1 (6, (1, 144)) (by decide)
  obtain ⟨f7, hv_f7, hk_f7⟩ := F.2.1 (7, (1, 144)) (by decide)
  obtain ⟨f8, hv_f8, hk_f8⟩ := F.2.1 (8, (1, 144)) (by decide)
  refine lv_aload_n hx hb dX12_cell_0 rfl (lv_at hl 0 rfl) ?_
  refine lv_iload_n hx hb dX12_cell_1 rfl (lv_at hl 1 rfl) ?_
  refine th_goi (th_runV (As := [.int c]) (rest := []) C hS.1 (RX12, TX12, 151) rfl gV_RX12_381 F.1 (t_X12_isCell iz_c F.1 (F.2.2.1 (0, 8) (by decide)) (F.2.2.1 (1, 8) (by decide))) hl rfl rfl rfl rfl ⟨Nat.le_of_ble_eq_true rfl, Nat.le_of_ble_eq_true rfl⟩ (Nat.le_of_ble_eq_true rfl) ⟨Nat.le_of_ble_eq_true rfl, Nat.le_of_ble_eq_true rfl⟩ dX12_cell_2) (fun r4076 hq4077 => ?_)
  refine th_if_eq (X := r4076.toInt) (tgt := 38) hx hb dX12_cell_5 (by decide) rfl (fun c4078 => ?_) (fun c4078 => ?_)
  · replace hq4077 := Or.resolve_left hq4077 (fun h => absurd h.2 (by omega))
    refine lv_iconst (v := 0) hx hb dX12_cell_38 (by decide) ?_
    exact th_retzH (post := fun r K1 V1 => ((((0 ≤ c_i ∧ c_i ≤ 63) ∧ (0 ≤ up_i ∧ up_i ≤ 40) ∧ (0 ≤ gd_i ∧ gd_i ≤ 3) ∧ ((way_i = (-1) ∧ dy_i = 0) ∨ ((0 ≤ way_i ∧ way_i ≤ 7) ∧ (10 ≤ dy_i ∧ dy_i ≤ 3600)))) ∧ r.toInt = 1) ∨ (((0 > c_i ∨ c_i > 63) ∨ (0 > up_i ∨ up_i > 40) ∨ (0 > gd_i ∨ gd_i > 3) ∨ ((way_i ≠ (-1) ∨ dy_i ≠ 0) ∧ ((0 > way_i ∨ way_i > 7) ∨ (10 > dy_i ∨ dy_i > 3600)))) ∧ r.toInt = 0))) (cells := 0) (slots := 0) (mc := 0) (ms := 0) C hS (by have hfin := li_0; omega) (Or.inr (⟨by omega, li_0⟩)) (Nat.le_of_ble_eq_true rfl) (Nat.le_of_ble_eq_true rfl) dX12_cell_39
  · replace hq4077 := Or.resolve_right hq4077 (fun h => absurd h.2 (by omega))
    refine lv_iload_n hx hb dX12_cell_8 rfl (lv_at hl 2 rfl) ?_
    refine lv_iconst (v := 0) hx hb dX12_cell_9 (by decide) ?_
    refine lv_bipush (v := 40) hx hb dX12_cell_10 (by decide) ?_
    refine th_goi (th_runS (As := [.int up, .int 0, .int 40]) (rest := []) C hS.1 gS_RX12_371 (t_X12_in iz_up li_0 li_40) hl rfl rfl rfl rfl ⟨Nat.le_of_ble_eq_true rfl, Nat.le_of_ble_eq_true rfl⟩ (Nat.le_of_ble_eq_true rfl) ⟨Nat.le_of_ble_eq_true rfl, Nat.le_of_ble_eq_true rfl⟩ dX12_cell_12) (fun r4079 hq4080 => ?_)
    refine th_if_eq (X := r4079.toInt) (tgt := 38) hx hb dX12_cell_15 (by decide) rfl (fun c4081 => ?_) (fun c4081 => ?_)
    · replace hq4080 := Or.resolve_left hq4080 (fun h => absurd h.2 (by omega))
      refine lv_iconst (v := 0) hx hb dX12_cell_38 (by decide) ?_
      exact th_retzH (post := fun r K1 V1 => ((((0 ≤ c_i ∧ c_i ≤ 63) ∧ (0 ≤ up_i ∧ up_i ≤ 40) ∧ (0 ≤ gd_i ∧ gd_i ≤ 3) ∧ ((way_i = (-1) ∧ dy_i = 0) ∨ ((0 ≤ way_i ∧ way_i ≤ 7) ∧ (10 ≤ dy_i ∧ dy_i ≤ 3600)))) ∧ r.toInt = 1) ∨ (((0 > c_i ∨ c_i > 63) ∨ (0 > up_i ∨ up_i > 40) ∨ (0 > gd_i ∨ gd_i > 3) ∨ ((way_i ≠ (-1) ∨ dy_i ≠ 0) ∧ ((0 > way_i ∨ way_i > 7) ∨ (10 > dy_i ∨ dy_i > 3600)))) ∧ r.toInt = 0))) (cells := 0) (slots := 0) (mc := 0) (ms := 0) C hS (by have hfin := li_0; omega) (Or.inr (⟨by omega, li_0⟩)) (Nat.le_of_ble_eq_true rfl) (Nat.le_of_ble_eq_true rfl) dX12_cell_39
    · replace hq4080 := Or.resolve_right hq4080 (fun h => absurd h.2 (by omega))
      refine lv_iload_n hx hb dX12_cell_18 rfl (lv_at hl 3 rfl) ?_
      refine lv_iconst (v := 0) hx hb dX12_cell_19 (by decide) ?_
      refine lv_iconst (v := 3) hx hb dX12_cell_20 (by decide) ?_
      refine th_goi (th_runS (As := [.int gd, .int 0, .int 3]) (rest := []) C hS.1 gS_RX12_371 (t_X12_in iz_gd li_0 li_3) hl rfl rfl rfl rfl ⟨Nat.le_of_ble_eq_true rfl, Nat.le_of_ble_eq_true rfl⟩ (Nat.le_of_ble_eq_true rfl) ⟨Nat.le_of_ble_eq_true rfl, Nat.le_of_ble_eq_true rfl⟩ dX12_cell_21) (fun r4082 hq4083 => ?_)
      refine th_if_eq (X := r4082.toInt) (tgt := 38) hx hb dX12_cell_24 (by decide) rfl (fun c4084 => ?_) (fun c4084 => ?_)
      · replace hq4083 := Or.resolve_left hq4083 (fun h => absurd h.2 (by omega))
        refine lv_iconst (v := 0) hx hb dX12_cell_38 (by decide) ?_
        exact th_retzH (post := fun r K1 V1 => ((((0 ≤ c_i ∧ c_i ≤ 63) ∧ (0 ≤ up_i ∧ up_i ≤ 40) ∧ (0 ≤ gd_i ∧ gd_i ≤ 3) ∧ ((way_i = (-1) ∧ dy_i = 0) ∨ ((0 ≤ way_i ∧ way_i ≤ 7) ∧ (10 ≤ dy_i ∧ dy_i ≤ 3600)))) ∧ r.toInt = 1) ∨ (((0 > c_i ∨ c_i > 63) ∨ (0 > up_i ∨ up_i > 40) ∨ (0 > gd_i ∨ gd_i > 3) ∨ ((way_i ≠ (-1) ∨ dy_i ≠ 0) ∧ ((0 > way_i ∨ way_i > 7) ∨ (10 > dy_i ∨ dy_i > 3600)))) ∧ r.toInt = 0))) (cells := 0) (slots := 0) (mc := 0) (ms := 0) C hS (by have hfin := li_0; omega) (Or.inr (⟨by omega, li_0⟩)) (Nat.le_of_ble_eq_true rfl) (Nat.le_of_ble_eq_true rfl) dX12_cell_39
      · replace hq4083 := Or.resolve_right hq4083 (fun h => absurd h.2 (by omega))
        refine lv_iload hx hb dX12_cell_27 (lv_at hl 4 rfl) ?_
        refine lv_iconst (v := (-1)) hx hb dX12_cell_29 (by decide) ?_
        refine lv_bipush (v := 7) hx hb dX12_cell_30 (by decide) ?_
        refine th_goi (th_runS (As := [.int way, .int (-1), .int 7]) (rest := []) C hS.1 gS_RX12_371 (t_X12_in iz_way li_n1 li_7) hl rfl rfl rfl rfl ⟨Nat.le_of_ble_eq_true rfl, Nat.le_of_ble_eq_true rfl⟩ (Nat.le_of_ble_eq_true rfl) ⟨Nat.le_of_ble_eq_true rfl, Nat.le_of_ble_eq_true rfl⟩ dX12_cell_32) (fun r4085 hq4086 => ?_)
        refine th_if_ne (X := r4085.toInt) (tgt := 40) hx hb dX12_cell_35 (by decide) rfl (fun c4087 => ?_) (fun c4087 => ?_)
        · replace hq4086 := Or.resolve_right hq4086 (fun h => absurd h.2 (by omega))
          refine lv_iload hx hb dX12_cell_40 (lv_at hl 4 rfl) ?_
          refine lv_iconst (v := (-1)) hx hb dX12_cell_42 (by decide) ?_
          refine th_icmp_ne (X := way_i) (Y := (-1)) (tgt := 54) hx hb dX12_cell_43 (by decide) iz_way li_n1 (fun c4088 => ?_) (fun c4088 => ?_)
          · refine lv_iload hx hb dX12_cell_54 (lv_at hl 5 rfl) ?_
            refine lv_bipush (v := 10) hx hb dX12_cell_56 (by decide) ?_
            refine lv_sipush (v := 3600) hx hb dX12_cell_58 (by decide) ?_
            refine th_goi (th_runS (As := [.int dy, .int 10, .int 3600]) (rest := []) C hS.1 gS_RX12_371 (t_X12_in iz_dy li_10 li_3600) hl rfl rfl rfl rfl ⟨Nat.le_of_ble_eq_true rfl, Nat.le_of_ble_eq_true rfl⟩ (Nat.le_of_ble_eq_true rfl) ⟨Nat.le_of_ble_eq_true rfl, Nat.le_of_ble_eq_true rfl⟩ dX12_cell_61) (fun r4089 hq4090 => ?_)
            refine th_if_ne (X := r4089.toInt) (tgt := 69) hx hb dX12_cell_64 (by decide) rfl (fun c4091 => ?_) (fun c4091 => ?_)
            · replace hq4090 := Or.resolve_right hq4090 (fun h => absurd h.2 (by omega))
              refine lv_aload_n hx hb dX12_cell_69 rfl (lv_at hl 0 rfl) ?_
              refine th_get C hS.1 F.1 fl_RX12_16 hv_f5 dX12_cell_70 ?_
              refine lv_iload_n hx hb dX12_cell_73 rfl (lv_at hl 1 rfl) ?_
              refine lv_iload_n hx hb dX12_cell_74 rfl (lv_at hl 2 rfl) ?_
              refine th_iast C hS hk_f5 (by rw [iz_c]; omega) (by rw [iz_c]; omega) dX12_cell_75 (fun V4092 H locs1 hV4093 hS => ?_)
              refine lv_aload_n hx hb dX12_cell_76 rfl (lv_at hl 0 rfl) ?_
              have hv4094 : V4092 x 6 = .ref f6 := Eq.trans (uq_ne hV4093 (Or.inl (K_ne F.1 hk_f5 (by decide)))) hv_f6
              refine th_get C hS.1 F.1 fl_RX12_20 hv4094 dX12_cell_77 ?_
              refine lv_iload_n hx hb dX12_cell_80 rfl (lv_at hl 1 rfl) ?_
              refine lv_iload_n hx hb dX12_cell_81 rfl (lv_at hl 3 rfl) ?_
              refine th_iast C hS hk_f6 (by rw [iz_c]; omega) (by rw [iz_c]; omega) dX12_cell_82 (fun V4095 H locs1 hV4096 hS => ?_)
              refine lv_aload_n hx hb dX12_cell_83 rfl (lv_at hl 0 rfl) ?_
              have hv4097 : V4092 x 7 = .ref f7 := Eq.trans (uq_ne hV4093 (Or.inl (K_ne F.1 hk_f5 (by decide)))) hv_f7
              have hv4098 : V4095 x 7 = .ref f7 := Eq.trans (uq_ne hV4096 (Or.inl (K_ne F.1 hk_f6 (by decide)))) hv4097
              refine th_get C hS.1 F.1 fl_RX12_23 hv4098 dX12_cell_84 ?_
              refine lv_iload_n hx hb dX12_cell_87 rfl (lv_at hl 1 rfl) ?_
              refine lv_iload hx hb dX12_cell_88 (lv_at hl 4 rfl) ?_
              refine th_iast C hS hk_f7 (by rw [iz_c]; omega) (by rw [iz_c]; omega) dX12_cell_90 (fun V4099 H locs1 hV4100 hS => ?_)
              refine lv_aload_n hx hb dX12_cell_91 rfl (lv_at hl 0 rfl) ?_
              have hv4101 : V4092 x 8 = .ref f8 := Eq.trans (uq_ne hV4093 (Or.inl (K_ne F.1 hk_f5 (by decide)))) hv_f8
              have hv4102 : V4095 x 8 = .ref f8 := Eq.trans (uq_ne hV4096 (Or.inl (K_ne F.1 hk_f6 (by decide)))) hv4101
              have hv4103 : V4099 x 8 = .ref f8 := Eq.trans (uq_ne hV4100 (Or.inl (K_ne F.1 hk_f7 (by decide)))) hv4102
              refine th_get C hS.1 F.1 fl_RX12_26 hv4103 dX12_cell_92 ?_
              refine lv_iload_n hx hb dX12_cell_95 rfl (lv_at hl 1 rfl) ?_
              refine lv_iload hx hb dX12_cell_96 (lv_at hl 5 rfl) ?_
              refine th_iast C hS hk_f8 (by rw [iz_c]; omega) (by rw [iz_c]; omega) dX12_cell_98 (fun V4104 H locs1 hV4105 hS => ?_)
              refine lv_iconst (v := 1) hx hb dX12_cell_99 (by decide) ?_
              exact th_retzH (post := fun r K1 V1 => ((((0 ≤ c_i ∧ c_i ≤ 63) ∧ (0 ≤ up_i ∧ up_i ≤ 40) ∧ (0 ≤ gd_i ∧ gd_i ≤ 3) ∧ ((way_i = (-1) ∧ dy_i = 0) ∨ ((0 ≤ way_i ∧ way_i ≤ 7) ∧ (10 ≤ dy_i ∧ dy_i ≤ 3600)))) ∧ r.toInt = 1) ∨ (((0 > c_i ∨ c_i > 63) ∨ (0 > up_i ∨ up_i > 40) ∨ (0 > gd_i ∨ gd_i > 3) ∨ ((way_i ≠ (-1) ∨ dy_i ≠ 0) ∧ ((0 > way_i ∨ way_i > 7) ∨ (10 > dy_i ∨ dy_i > 3600)))) ∧ r.toInt = 0))) (cells := 0) (slots := 0) (mc := 0) (ms := 0) C hS (by have hfin := li_1; omega) (Or.inl ⟨by omega, li_1⟩) (Nat.le_of_ble_eq_true rfl) (Nat.le_of_ble_eq_true rfl) dX12_cell_100
            · replace hq4090 := Or.resolve_left hq4090 (fun h => absurd h.2 (by omega))
              refine lv_iconst (v := 0) hx hb dX12_cell_67 (by decide) ?_
              exact th_retzH (post := fun r K1 V1 => ((((0 ≤ c_i ∧ c_i ≤ 63) ∧ (0 ≤ up_i ∧ up_i ≤ 40) ∧ (0 ≤ gd_i ∧ gd_i ≤ 3) ∧ ((way_i = (-1) ∧ dy_i = 0) ∨ ((0 ≤ way_i ∧ way_i ≤ 7) ∧ (10 ≤ dy_i ∧ dy_i ≤ 3600)))) ∧ r.toInt = 1) ∨ (((0 > c_i ∨ c_i > 63) ∨ (0 > up_i ∨ up_i > 40) ∨ (0 > gd_i ∨ gd_i > 3) ∨ ((way_i ≠ (-1) ∨ dy_i ≠ 0) ∧ ((0 > way_i ∨ way_i > 7) ∨ (10 > dy_i ∨ dy_i > 3600)))) ∧ r.toInt = 0))) (cells := 0) (slots := 0) (mc := 0) (ms := 0) C hS (by have hfin := li_0; omega) (Or.inr (⟨by omega, li_0⟩)) (Nat.le_of_ble_eq_true rfl) (Nat.le_of_ble_eq_true rfl) dX12_cell_68
          · refine lv_iload hx hb dX12_cell_46 (lv_at hl 5 rfl) ?_
            refine th_if_eq (X := dy_i) (tgt := 69) hx hb dX12_cell_48 (by decide) iz_dy (fun c4106 => ?_) (fun c4106 => ?_)
            · refine lv_aload_n hx hb dX12_cell_69 rfl (lv_at hl 0 rfl) ?_
              refine th_get C hS.1 F.1 fl_RX12_16 hv_f5 dX12_cell_70 ?_
              refine lv_iload_n hx hb dX12_cell_73 rfl (lv_at hl 1 rfl) ?_
              refine lv_iload_n hx hb dX12_cell_74 rfl (lv_at hl 2 rfl) ?_
              refine th_iast C hS hk_f5 (by rw [iz_c]; omega) (by rw [iz_c]; omega) dX12_cell_75 (fun V4107 H locs1 hV4108 hS => ?_)
              refine lv_aload_n hx hb dX12_cell_76 rfl (lv_at hl 0 rfl) ?_
              have hv4109 : V4107 x 6 = .ref f6 := Eq.trans (uq_ne hV4108 (Or.inl (K_ne F.1 hk_f5 (by decide)))) hv_f6
              refine th_get C hS.1 F.1 fl_RX12_20 hv4109 dX12_cell_77 ?_
              refine lv_iload_n hx hb dX12_cell_80 rfl (lv_at hl 1 rfl) ?_
              refine lv_iload_n hx hb dX12_cell_81 rfl (lv_at hl 3 rfl) ?_
              refine th_iast C hS hk_f6 (by rw [iz_c]; omega) (by rw [iz_c]; omega) dX12_cell_82 (fun V4110 H locs1 hV4111 hS => ?_)
              refine lv_aload_n hx hb dX12_cell_83 rfl (lv_at hl 0 rfl) ?_
              have hv4112 : V4107 x 7 = .ref f7 := Eq.trans (uq_ne hV4108 (Or.inl (K_ne F.1 hk_f5 (by decide)))) hv_f7
              have hv4113 : V4110 x 7 = .ref f7 := Eq.trans (uq_ne hV4111 (Or.inl (K_ne F.1 hk_f6 (by decide)))) hv4112
              refine th_get C hS.1 F.1 fl_RX12_23 hv4113 dX12_cell_84 ?_
              refine lv_iload_n hx hb dX12_cell_87 rfl (lv_at hl 1 rfl) ?_
              refine lv_iload hx hb dX12_cell_88 (lv_at hl 4 rfl) ?_
              refine th_iast C hS hk_f7 (by rw [iz_c]; omega) (by rw [iz_c]; omega) dX12_cell_90 (fun V4114 H locs1 hV4115 hS => ?_)
              refine lv_aload_n hx hb dX12_cell_91 rfl (lv_at hl 0 rfl) ?_
              have hv4116 : V4107 x 8 = .ref f8 := Eq.trans (uq_ne hV4108 (Or.inl (K_ne F.1 hk_f5 (by decide)))) hv_f8
              have hv4117 : V4110 x 8 = .ref f8 := Eq.trans (uq_ne hV4111 (Or.inl (K_ne F.1 hk_f6 (by decide)))) hv4116
              have hv4118 : V4114 x 8 = .ref f8 := Eq.trans (uq_ne hV4115 (Or.inl (K_ne F.1 hk_f7 (by decide)))) hv4117
              refine th_get C hS.1 F.1 fl_RX12_26 hv4118 dX12_cell_92 ?_
              refine lv_iload_n hx hb dX12_cell_95 rfl (lv_at hl 1 rfl) ?_
              refine lv_iload hx hb dX12_cell_96 (lv_at hl 5 rfl) ?_
              refine th_iast C hS hk_f8 (by rw [iz_c]; omega) (by rw [iz_c]; omega) dX12_cell_98 (fun V4119 H locs1 hV4120 hS => ?_)
              refine lv_iconst (v := 1) hx hb dX12_cell_99 (by decide) ?_
              exact th_retzH (post := fun r K1 V1 => ((((0 ≤ c_i ∧ c_i ≤ 63) ∧ (0 ≤ up_i ∧ up_i ≤ 40) ∧ (0 ≤ gd_i ∧ gd_i ≤ 3) ∧ ((way_i = (-1) ∧ dy_i = 0) ∨ ((0 ≤ way_i ∧ way_i ≤ 7) ∧ (10 ≤ dy_i ∧ dy_i ≤ 3600)))) ∧ r.toInt = 1) ∨ (((0 > c_i ∨ c_i > 63) ∨ (0 > up_i ∨ up_i > 40) ∨ (0 > gd_i ∨ gd_i > 3) ∨ ((way_i ≠ (-1) ∨ dy_i ≠ 0) ∧ ((0 > way_i ∨ way_i > 7) ∨ (10 > dy_i ∨ dy_i > 3600)))) ∧ r.toInt = 0))) (cells := 0) (slots := 0) (mc := 0) (ms := 0) C hS (by have hfin := li_1; omega) (Or.inl ⟨by omega, li_1⟩) (Nat.le_of_ble_eq_true rfl) (Nat.le_of_ble_eq_true rfl) dX12_cell_100
            · refine lv_goto (tgt := 67) hx hb dX12_cell_51 (by decide) ?_
              refine lv_iconst (v := 0) hx hb dX12_cell_67 (by decide) ?_
              exact th_retzH (post := fun r K1 V1 => ((((0 ≤ c_i ∧ c_i ≤ 63) ∧ (0 ≤ up_i ∧ up_i ≤ 40) ∧ (0 ≤ gd_i ∧ gd_i ≤ 3) ∧ ((way_i = (-1) ∧ dy_i = 0) ∨ ((0 ≤ way_i ∧ way_i ≤ 7) ∧ (10 ≤ dy_i ∧ dy_i ≤ 3600)))) ∧ r.toInt = 1) ∨ (((0 > c_i ∨ c_i > 63) ∨ (0 > up_i ∨ up_i > 40) ∨ (0 > gd_i ∨ gd_i > 3) ∨ ((way_i ≠ (-1) ∨ dy_i ≠ 0) ∧ ((0 > way_i ∨ way_i > 7) ∨ (10 > dy_i ∨ dy_i > 3600)))) ∧ r.toInt = 0))) (cells := 0) (slots := 0) (mc := 0) (ms := 0) C hS (by have hfin := li_0; omega) (Or.inr (⟨by omega, li_0⟩)) (Nat.le_of_ble_eq_true rfl) (Nat.le_of_ble_eq_true rfl) dX12_cell_68
        · replace hq4086 := Or.resolve_left hq4086 (fun h => absurd h.2 (by omega))
          refine lv_iconst (v := 0) hx hb dX12_cell_38 (by decide) ?_
          exact th_retzH (post := fun r K1 V1 => ((((0 ≤ c_i ∧ c_i ≤ 63) ∧ (0 ≤ up_i ∧ up_i ≤ 40) ∧ (0 ≤ gd_i ∧ gd_i ≤ 3) ∧ ((way_i = (-1) ∧ dy_i = 0) ∨ ((0 ≤ way_i ∧ way_i ≤ 7) ∧ (10 ≤ dy_i ∧ dy_i ≤ 3600)))) ∧ r.toInt = 1) ∨ (((0 > c_i ∨ c_i > 63) ∨ (0 > up_i ∨ up_i > 40) ∨ (0 > gd_i ∨ gd_i > 3) ∨ ((way_i ≠ (-1) ∨ dy_i ≠ 0) ∧ ((0 > way_i ∨ way_i > 7) ∨ (10 > dy_i ∨ dy_i > 3600)))) ∧ r.toInt = 0))) (cells := 0) (slots := 0) (mc := 0) (ms := 0) C hS (by have hfin := li_0; omega) (Or.inr (⟨by omega, li_0⟩)) (Nat.le_of_ble_eq_true rfl) (Nat.le_of_ble_eq_true rfl) dX12_cell_39
