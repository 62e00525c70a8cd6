set_option maxHeartbeats 4000000 in
set_option maxRecDepth 100000 in
theorem law_case_16 {p : Program} {l : Launch} {e : Env} {s : State} {m : MethodId} {below : List Frame} {meth : Method} {c : Code} {b L : Nat} {xs : Nat → Int32} {D : va_G} {dA : Nat → ClassId} {K : Kmap} {V : Vmap} {H : Heap} {locs : List Loc} {ls : Array Slot} {x m0 : Nat} (hat : lw_At p s m meth c b L xs) (hKN : KN D dA s) (hL : L = 8) (hS : ST D dA kNone s.heap K V H locs) (FXh : FX K V x) (FMh : FM K V m0) (hl : lv_has ls 4 [(3, .int 0), (2, .ref m0), (1, .ref x), (0, .ref b)]) : W p l e room_1 s m #[Value.ref b] below meth c H locs 163 25899 (lw_Z below #[Value.ref b] s) (F0 m 1002 ls []) := by
  have hx := hat.1; have hb := hat.2.1
  have C := law_cx hat hKN
  have hKx : K x = some (0, 10) := FX.kind FXh
  refine lv_aload_n hx hb dL_law_1002 rfl (lv_at hl 2 rfl) ?_
  refine lv_aload_n hx hb dL_law_1003 rfl (lv_at hl 3 rfl) ?_
  refine lv_iload_n hx hb dL_law_1004 rfl (lv_at hl 0 rfl) ?_
  refine lv_iconst (v := 1) hx hb dL_law_1005 (by decide) ?_
  refine lv_iadd hx hb dL_law_1006 ?_
  refine th_is (w := .int 1) (by decide) ?_
  refine va_sld hx hb hat.2.2.2.2.2.2.1 hat.2.2.2.2.2.2.2.1 (law_nb hat) hS.2.1 (i := 1) (by rw [hL]; exact vp_in_iff.mpr (by decide +kernel)) dL_law_1007 ?_
  refine th_is (w := .int (xs 1)) (congrArg (fun j => Value.int (xs j)) (by decide)) ?_
  refine lv_aload_n hx hb dL_law_1008 rfl (lv_at hl 3 rfl) ?_
  refine lv_iload_n hx hb dL_law_1009 rfl (lv_at hl 0 rfl) ?_
  refine lv_iconst (v := 2) hx hb dL_law_1010 (by decide) ?_
  refine lv_iadd hx hb dL_law_1011 ?_
  refine th_is (w := .int 2) (by decide) ?_
  refine va_sld hx hb hat.2.2.2.2.2.2.1 hat.2.2.2.2.2.2.2.1 (law_nb hat) hS.2.1 (i := 2) (by rw [hL]; exact vp_in_iff.mpr (by decide +kernel)) dL_law_1012 ?_
  refine th_is (w := .int (xs 2)) (congrArg (fun j => Value.int (xs j)) (by decide)) ?_
  refine th_goi (th_runV (As := [.int (xs 1), .int (xs 2)]) (rest := []) C hS.1 (RX11, TX11, 20) rfl gV_RL_85 hKx (t_X11_decides rfl rfl FXh) hl rfl rfl rfl rfl ⟨Nat.le_of_ble_eq_true rfl, Nat.le_of_ble_eq_true rfl⟩ (Nat.le_of_ble_eq_true rfl) ⟨Nat.le_of_ble_eq_true rfl, Nat.le_of_ble_eq_true rfl⟩ dL_law_1013) (fun r5818 hq5819 => ?_)
  refine lv_aload_n hx hb dL_law_1016 rfl (lv_at hl 1 rfl) ?_
  refine lv_aload_n hx hb dL_law_1017 rfl (lv_at hl 3 rfl) ?_
  refine lv_iload_n hx hb dL_law_1018 rfl (lv_at hl 0 rfl) ?_
  refine lv_iconst (v := 1) hx hb dL_law_1019 (by decide) ?_
  refine lv_iadd hx hb dL_law_1020 ?_
  refine th_is (w := .int 1) (by decide) ?_
  refine va_sld hx hb hat.2.2.2.2.2.2.1 hat.2.2.2.2.2.2.2.1 (law_nb hat) hS.2.1 (i := 1) (by rw [hL]; exact vp_in_iff.mpr (by decide +kernel)) dL_law_1021 ?_
  refine th_is (w := .int (xs 1)) (congrArg (fun j => Value.int (xs j)) (by decide)) ?_
  refine lv_aload_n hx hb dL_law_1022 rfl (lv_at hl 3 rfl) ?_
  refine lv_iload_n hx hb dL_law_1023 rfl (lv_at hl 0 rfl) ?_
  refine lv_iconst (v := 2) hx hb dL_law_1024 (by decide) ?_
  refine lv_iadd hx hb dL_law_1025 ?_
  refine th_is (w := .int 2) (by decide) ?_
  refine va_sld hx hb hat.2.2.2.2.2.2.1 hat.2.2.2.2.2.2.2.1 (law_nb hat) hS.2.1 (i := 2) (by rw [hL]; exact vp_in_iff.mpr (by decide +kernel)) dL_law_1026 ?_
  refine th_is (w := .int (xs 2)) (congrArg (fun j => Value.int (xs j)) (by decide)) ?_
  refine th_goi (th_runV (As := [.int (xs 1), .int (xs 2)]) (rest := [.int r5818]) C hS.1 (RX12, TX12, 151) rfl gV_RL_88 FMh.1 (t_X12_decides rfl rfl FMh) hl rfl rfl rfl rfl ⟨Nat.le_of_ble_eq_true rfl, Nat.le_of_ble_eq_true rfl⟩ (Nat.le_of_ble_eq_true rfl) ⟨Nat.le_of_ble_eq_true rfl, Nat.le_of_ble_eq_true rfl⟩ dL_law_1027) (fun r5820 hq5821 => ?_)
  refine th_icmp_eq (X := r5818.toInt) (Y := r5820.toInt) (tgt := 2746) hx hb dL_law_1030 (by decide) rfl rfl (fun c5822 => ?_) (fun c5822 => absurd (by omega) c5822)
  exact law_next hat hKN (Nat.le_of_eq hL) hS (lv_sub hl [0, 3] rfl) (Nat.le_of_ble_eq_true rfl) (Nat.le_of_ble_eq_true rfl)

set_option maxHeartbeats 4000000 in
set_option maxRecDepth 100000 in
theorem law_case_17 {p : Program} {l : Launch} {e : Env} {s : State} {m : MethodId} {below : List Frame} {meth : Method} {c : Code} {b L : Nat} {xs : Nat → Int32} {D : va_G} {dA : Nat → ClassId} {K : Kmap} {V : Vmap} {H : Heap} {locs : List Loc} {ls : Array Slot} {x m0 : Nat} (hat : lw_At p s m meth c b L xs) (hKN : KN D dA s) (hL : L = 8) (hS : ST D dA kNone s.heap K V H locs) (FXh : FX K V x) (FMh : FM K V m0) (hl : lv_has ls 4 [(3, .int 0), (2, .ref m0), (1, .ref x), (0, .ref b)]) : W p l e room_1 s m #[Value.ref b] below meth c H locs 163 25899 (lw_Z below #[Value.ref b] s) (F0 m 1035 ls []) := by
  have hx := hat.1; have hb := hat.2.1
  have C := law_cx hat hKN
  have hKx : K x = some (0, 10) := FX.kind FXh
  refine lv_aload_n hx hb dL_law_1035 rfl (lv_at hl 2 rfl) ?_
  refine lv_aload_n hx hb dL_law_1036 rfl (lv_at hl 3 rfl) ?_
  refine lv_iload_n hx hb dL_law_1037 rfl (lv_at hl 0 rfl) ?_
  refine lv_iconst (v := 1) hx hb dL_law_1038 (by decide) ?_
  refine lv_iadd hx hb dL_law_1039 ?_
  refine th_is (w := .int 1) (by decide) ?_
  refine va_sld hx hb hat.2.2.2.2.2.2.1 hat.2.2.2.2.2.2.2.1 (law_nb hat) hS.2.1 (i := 1) (by rw [hL]; exact vp_in_iff.mpr (by decide +kernel)) dL_law_1040 ?_
  refine th_is (w := .int (xs 1)) (congrArg (fun j => Value.int (xs j)) (by decide)) ?_
  refine lv_aload_n hx hb dL_law_1041 rfl (lv_at hl 3 rfl) ?_
  refine lv_iload_n hx hb dL_law_1042 rfl (lv_at hl 0 rfl) ?_
  refine lv_iconst (v := 2) hx hb dL_law_1043 (by decide) ?_
  refine lv_iadd hx hb dL_law_1044 ?_
  refine th_is (w := .int 2) (by decide) ?_
  refine va_sld hx hb hat.2.2.2.2.2.2.1 hat.2.2.2.2.2.2.2.1 (law_nb hat) hS.2.1 (i := 2) (by rw [hL]; exact vp_in_iff.mpr (by decide +kernel)) dL_law_1045 ?_
  refine th_is (w := .int (xs 2)) (congrArg (fun j => Value.int (xs j)) (by decide)) ?_
  refine lv_aload_n hx hb dL_law_1046 rfl (lv_at hl 3 rfl) ?_
  refine lv_iload_n hx hb dL_law_1047 rfl (lv_at hl 0 rfl) ?_
  refine lv_iconst (v := 3) hx hb dL_law_1048 (by decide) ?_
  refine lv_iadd hx hb dL_law_1049 ?_
  refine th_is (w := .int 3) (by decide) ?_
  refine va_sld hx hb hat.2.2.2.2.2.2.1 hat.2.2.2.2.2.2.2.1 (law_nb hat) hS.2.1 (i := 3) (by rw [hL]; exact vp_in_iff.mpr (by decide +kernel)) dL_law_1050 ?_
  refine th_is (w := .int (xs 3)) (congrArg (fun j => Value.int (xs j)) (by decide)) ?_
  refine lv_aload_n hx hb dL_law_1051 rfl (lv_at hl 3 rfl) ?_
  refine lv_iload_n hx hb dL_law_1052 rfl (lv_at hl 0 rfl) ?_
  refine lv_iconst (v := 4) hx hb dL_law_1053 (by decide) ?_
  refine lv_iadd hx hb dL_law_1054 ?_
  refine th_is (w := .int 4) (by decide) ?_
  refine va_sld hx hb hat.2.2.2.2.2.2.1 hat.2.2.2.2.2.2.2.1 (law_nb hat) hS.2.1 (i := 4) (by rw [hL]; exact vp_in_iff.mpr (by decide +kernel)) dL_law_1055 ?_
  refine th_is (w := .int (xs 4)) (congrArg (fun j => Value.int (xs j)) (by decide)) ?_
  refine lv_aload_n hx hb dL_law_1056 rfl (lv_at hl 3 rfl) ?_
  refine lv_iload_n hx hb dL_law_1057 rfl (lv_at hl 0 rfl) ?_
  refine lv_iconst (v := 5) hx hb dL_law_1058 (by decide) ?_
  refine lv_iadd hx hb dL_law_1059 ?_
  refine th_is (w := .int 5) (by decide) ?_
  refine va_sld hx hb hat.2.2.2.2.2.2.1 hat.2.2.2.2.2.2.2.1 (law_nb hat) hS.2.1 (i := 5) (by rw [hL]; exact vp_in_iff.mpr (by decide +kernel)) dL_law_1060 ?_
  refine th_is (w := .int (xs 5)) (congrArg (fun j => Value.int (xs j)) (by decide)) ?_
  refine lv_aload_n hx hb dL_law_1061 rfl (lv_at hl 3 rfl) ?_
  refine lv_iload_n hx hb dL_law_1062 rfl (lv_at hl 0 rfl) ?_
  refine lv_bipush (v := 6) hx hb dL_law_1063 (by decide) ?_
  refine lv_iadd hx hb dL_law_1065 ?_
  refine th_is (w := .int 6) (by decide) ?_
  refine va_sld hx hb hat.2.2.2.2.2.2.1 hat.2.2.2.2.2.2.2.1 (law_nb hat) hS.2.1 (i := 6) (by rw [hL]; exact vp_in_iff.mpr (by decide +kernel)) dL_law_1066 ?_
  refine th_is (w := .int (xs 6)) (congrArg (fun j => Value.int (xs j)) (by decide)) ?_
  refine lv_aload_n hx hb dL_law_1067 rfl (lv_at hl 3 rfl) ?_
  refine lv_iload_n hx hb dL_law_1068 rfl (lv_at hl 0 rfl) ?_
  refine lv_bipush (v := 7) hx hb dL_law_1069 (by decide) ?_
  refine lv_iadd hx hb dL_law_1071 ?_
  refine th_is (w := .int 7) (by decide) ?_
  refine va_sld hx hb hat.2.2.2.2.2.2.1 hat.2.2.2.2.2.2.2.1 (law_nb hat) hS.2.1 (i := 7) (by rw [hL]; exact vp_in_iff.mpr (by decide +kernel)) dL_law_1072 ?_
  refine th_is (w := .int (xs 7)) (congrArg (fun j => Value.int (xs j)) (by decide)) ?_
  refine th_goi (th_runV (As := [.int (xs 1), .int (xs 2), .int (xs 3), .int (xs 4), .int (xs 5), .int (xs 6), .int (xs 7)]) (rest := []) C hS.1 (RX11, TX11, 20) rfl gV_RL_89 hKx (t_X11_work rfl rfl rfl rfl rfl rfl rfl FXh) hl rfl rfl rfl rfl ⟨Nat.le_of_ble_eq_true rfl, Nat.le_of_ble_eq_true rfl⟩ (Nat.le_of_ble_eq_true rfl) ⟨Nat.le_of_ble_eq_true rfl, Nat.le_of_ble_eq_true rfl⟩ dL_law_1073) (fun r5823 hq5824 => ?_)
  refine lv_aload_n hx hb dL_law_1076 rfl (lv_at hl 1 rfl) ?_
  refine lv_aload_n hx hb dL_law_1077 rfl (lv_at hl 3 rfl) ?_
  refine lv_iload_n hx hb dL_law_1078 rfl (lv_at hl 0 rfl) ?_
  refine lv_iconst (v := 1) hx hb dL_law_1079 (by decide) ?_
  refine lv_iadd hx hb dL_law_1080 ?_
  refine th_is (w := .int 1) (by decide) ?_
  refine va_sld hx hb hat.2.2.2.2.2.2.1 hat.2.2.2.2.2.2.2.1 (law_nb hat) hS.2.1 (i := 1) (by rw [hL]; exact vp_in_iff.mpr (by decide +kernel)) dL_law_1081 ?_
  refine th_is (w := .int (xs 1)) (congrArg (fun j => Value.int (xs j)) (by decide)) ?_
  refine lv_aload_n hx hb dL_law_1082 rfl (lv_at hl 3 rfl) ?_
  refine lv_iload_n hx hb dL_law_1083 rfl (lv_at hl 0 rfl) ?_
  refine lv_iconst (v := 2) hx hb dL_law_1084 (by decide) ?_
  refine lv_iadd hx hb dL_law_1085 ?_
  refine th_is (w := .int 2) (by decide) ?_
  refine va_sld hx hb hat.2.2.2.2.2.2.1 hat.2.2.2.2.2.2.2.1 (law_nb hat) hS.2.1 (i := 2) (by rw [hL]; exact vp_in_iff.mpr (by decide +kernel)) dL_law_1086 ?_
  refine th_is (w := .int (xs 2)) (congrArg (fun j => Value.int (xs j)) (by decide)) ?_
  refine lv_aload_n hx hb dL_law_1087 rfl (lv_at hl 3 rfl) ?_
  refine lv_iload_n hx hb dL_law_1088 rfl (lv_at hl 0 rfl) ?_
  refine lv_iconst (v := 3) hx hb dL_law_1089 (by decide) ?_
  refine lv_iadd hx hb dL_law_1090 ?_
  refine th_is (w := .int 3) (by decide) ?_
  refine va_sld hx hb hat.2.2.2.2.2.2.1 hat.2.2.2.2.2.2.2.1 (law_nb hat) hS.2.1 (i := 3) (by rw [hL]; exact vp_in_iff.mpr (by decide +kernel)) dL_law_1091 ?_
  refine th_is (w := .int (xs 3)) (congrArg (fun j => Value.int (xs j)) (by decide)) ?_
  refine lv_aload_n hx hb dL_law_1092 rfl (lv_at hl 3 rfl) ?_
  refine lv_iload_n hx hb dL_law_1093 rfl (lv_at hl 0 rfl) ?_
  refine lv_iconst (v := 4) hx hb dL_law_1094 (by decide) ?_
  refine lv_iadd hx hb dL_law_1095 ?_
  refine th_is (w := .int 4) (by decide) ?_
  refine va_sld hx hb hat.2.2.2.2.2.2.1 hat.2.2.2.2.2.2.2.1 (law_nb hat) hS.2.1 (i := 4) (by rw [hL]; exact vp_in_iff.mpr (by decide +kernel)) dL_law_1096 ?_
  refine th_is (w := .int (xs 4)) (congrArg (fun j => Value.int (xs j)) (by decide)) ?_
  refine lv_aload_n hx hb dL_law_1097 rfl (lv_at hl 3 rfl) ?_
  refine lv_iload_n hx hb dL_law_1098 rfl (lv_at hl 0 rfl) ?_
  refine lv_iconst (v := 5) hx hb dL_law_1099 (by decide) ?_
  refine lv_iadd hx hb dL_law_1100 ?_
  refine th_is (w := .int 5) (by decide) ?_
  refine va_sld hx hb hat.2.2.2.2.2.2.1 hat.2.2.2.2.2.2.2.1 (law_nb hat) hS.2.1 (i := 5) (by rw [hL]; exact vp_in_iff.mpr (by decide +kernel)) dL_law_1101 ?_
  refine th_is (w := .int (xs 5)) (congrArg (fun j => Value.int (xs j)) (by decide)) ?_
  refine lv_aload_n hx hb dL_law_1102 rfl (lv_at hl 3 rfl) ?_
  refine lv_iload_n hx hb dL_law_1103 rfl (lv_at hl 0 rfl) ?_
  refine lv_bipush (v := 6) hx hb dL_law_1104 (by decide) ?_
  refine lv_iadd hx hb dL_law_1106 ?_
  refine th_is (w := .int 6) (by decide) ?_
  refine va_sld hx hb hat.2.2.2.2.2.2.1 hat.2.2.2.2.2.2.2.1 (law_nb hat) hS.2.1 (i := 6) (by rw [hL]; exact vp_in_iff.mpr (by decide +kernel)) dL_law_1107 ?_
  refine th_is (w := .int (xs 6)) (congrArg (fun j => Value.int (xs j)) (by decide)) ?_
  refine lv_aload_n hx hb dL_law_1108 rfl (lv_at hl 3 rfl) ?_
  refine lv_iload_n hx hb dL_law_1109 rfl (lv_at hl 0 rfl) ?_
  refine lv_bipush (v := 7) hx hb dL_law_1110 (by decide) ?_
  refine lv_iadd hx hb dL_law_1112 ?_
  refine th_is (w := .int 7) (by decide) ?_
  refine va_sld hx hb hat.2.2.2.2.2.2.1 hat.2.2.2.2.2.2.2.1 (law_nb hat) hS.2.1 (i := 7) (by rw [hL]; exact vp_in_iff.mpr (by decide +kernel)) dL_law_1113 ?_
  refine th_is (w := .int (xs 7)) (congrArg (fun j => Value.int (xs j)) (by decide)) ?_
  refine th_goi (th_runV (As := [.int (xs 1), .int (xs 2), .int (xs 3), .int (xs 4), .int (xs 5), .int (xs 6), .int (xs 7)]) (rest := [.int r5823]) C hS.1 (RX12, TX12, 151) rfl gV_RL_93 FMh.1 (t_X12_work rfl rfl rfl rfl rfl rfl rfl FMh) hl rfl rfl rfl rfl ⟨Nat.le_of_ble_eq_true rfl, Nat.le_of_ble_eq_true rfl⟩ (Nat.le_of_ble_eq_true rfl) ⟨Nat.le_of_ble_eq_true rfl, Nat.le_of_ble_eq_true rfl⟩ dL_law_1114) (fun r5825 hq5826 => ?_)
  refine th_icmp_eq (X := r5823.toInt) (Y := r5825.toInt) (tgt := 2746) hx hb dL_law_1117 (by decide) rfl rfl (fun c5827 => ?_) (fun c5827 => absurd (by omega) c5827)
  exact law_next hat hKN (Nat.le_of_eq hL) hS (lv_sub hl [0, 3] rfl) (Nat.le_of_ble_eq_true rfl) (Nat.le_of_ble_eq_true rfl)

set_option maxHeartbeats 4000000 in
set_option maxRecDepth 100000 in
theorem law_case_18 {p : Program} {l : Launch} {e : Env} {s : State} {m : MethodId} {below : List Frame} {meth : Method} {c : Code} {b L : Nat} {xs : Nat → Int32} {D : va_G} {dA : Nat → ClassId} {K : Kmap} {V : Vmap} {H : Heap} {locs : List Loc} {ls : Array Slot} {x m0 : Nat} (hat : lw_At p s m meth c b L xs) (hKN : KN D dA s) (hL : L = 8) (hS : ST D dA kNone s.heap K V H locs) (FXh : FX K V x) (FMh : FM K V m0) (hl : lv_has ls 4 [(3, .int 0), (2, .ref m0), (1, .ref x), (0, .ref b)]) : W p l e room_1 s m #[Value.ref b] below meth c H locs 163 25899 (lw_Z below #[Value.ref b] s) (F0 m 1122 ls []) := by
  have hx := hat.1; have hb := hat.2.1
  have C := law_cx hat hKN
  have hKx : K x = some (0, 10) := FX.kind FXh
  refine lv_aload_n hx hb dL_law_1122 rfl (lv_at hl 2 rfl) ?_
  refine lv_aload_n hx hb dL_law_1123 rfl (lv_at hl 3 rfl) ?_
  refine lv_iload_n hx hb dL_law_1124 rfl (lv_at hl 0 rfl) ?_
  refine lv_iconst (v := 1) hx hb dL_law_1125 (by decide) ?_
  refine lv_iadd hx hb dL_law_1126 ?_
  refine th_is (w := .int 1) (by decide) ?_
  refine va_sld hx hb hat.2.2.2.2.2.2.1 hat.2.2.2.2.2.2.2.1 (law_nb hat) hS.2.1 (i := 1) (by rw [hL]; exact vp_in_iff.mpr (by decide +kernel)) dL_law_1127 ?_
  refine th_is (w := .int (xs 1)) (congrArg (fun j => Value.int (xs j)) (by decide)) ?_
  refine lv_aload_n hx hb dL_law_1128 rfl (lv_at hl 3 rfl) ?_
  refine lv_iload_n hx hb dL_law_1129 rfl (lv_at hl 0 rfl) ?_
  refine lv_iconst (v := 2) hx hb dL_law_1130 (by decide) ?_
  refine lv_iadd hx hb dL_law_1131 ?_
  refine th_is (w := .int 2) (by decide) ?_
  refine va_sld hx hb hat.2.2.2.2.2.2.1 hat.2.2.2.2.2.2.2.1 (law_nb hat) hS.2.1 (i := 2) (by rw [hL]; exact vp_in_iff.mpr (by decide +kernel)) dL_law_1132 ?_
  refine th_is (w := .int (xs 2)) (congrArg (fun j => Value.int (xs j)) (by decide)) ?_
  refine th_goi (th_runV (As := [.int (xs 1), .int (xs 2)]) (rest := []) C hS.1 (RX11, TX11, 20) rfl gV_RL_94 hKx (t_X11_tell rfl rfl FXh) hl rfl rfl rfl rfl ⟨Nat.le_of_ble_eq_true rfl, Nat.le_of_ble_eq_true rfl⟩ (Nat.le_of_ble_eq_true rfl) ⟨Nat.le_of_ble_eq_true rfl, Nat.le_of_ble_eq_true rfl⟩ dL_law_1133) (fun r5828 hq5829 => ?_)
  refine lv_aload_n hx hb dL_law_1136 rfl (lv_at hl 1 rfl) ?_
  refine lv_aload_n hx hb dL_law_1137 rfl (lv_at hl 3 rfl) ?_
  refine lv_iload_n hx hb dL_law_1138 rfl (lv_at hl 0 rfl) ?_
  refine lv_iconst (v := 1) hx hb dL_law_1139 (by decide) ?_
  refine lv_iadd hx hb dL_law_1140 ?_
  refine th_is (w := .int 1) (by decide) ?_
  refine va_sld hx hb hat.2.2.2.2.2.2.1 hat.2.2.2.2.2.2.2.1 (law_nb hat) hS.2.1 (i := 1) (by rw [hL]; exact vp_in_iff.mpr (by decide +kernel)) dL_law_1141 ?_
  refine th_is (w := .int (xs 1)) (congrArg (fun j => Value.int (xs j)) (by decide)) ?_
  refine lv_aload_n hx hb dL_law_1142 rfl (lv_at hl 3 rfl) ?_
  refine lv_iload_n hx hb dL_law_1143 rfl (lv_at hl 0 rfl) ?_
  refine lv_iconst (v := 2) hx hb dL_law_1144 (by decide) ?_
  refine lv_iadd hx hb dL_law_1145 ?_
  refine th_is (w := .int 2) (by decide) ?_
  refine va_sld hx hb hat.2.2.2.2.2.2.1 hat.2.2.2.2.2.2.2.1 (law_nb hat) hS.2.1 (i := 2) (by rw [hL]; exact vp_in_iff.mpr (by decide +kernel)) dL_law_1146 ?_
  refine th_is (w := .int (xs 2)) (congrArg (fun j => Value.int (xs j)) (by decide)) ?_
  refine th_goi (th_runV (As := [.int (xs 1), .int (xs 2)]) (rest := [.int r5828]) C hS.1 (RX12, TX12, 151) rfl gV_RL_97 FMh.1 (t_X12_tell rfl rfl FMh) hl rfl rfl rfl rfl ⟨Nat.le_of_ble_eq_true rfl, Nat.le_of_ble_eq_true rfl⟩ (Nat.le_of_ble_eq_true rfl) ⟨Nat.le_of_ble_eq_true rfl, Nat.le_of_ble_eq_true rfl⟩ dL_law_1147) (fun r5830 hq5831 => ?_)
  refine th_icmp_eq (X := r5828.toInt) (Y := r5830.toInt) (tgt := 2746) hx hb dL_law_1150 (by decide) rfl rfl (fun c5832 => ?_) (fun c5832 => absurd (by omega) c5832)
  exact law_next hat hKN (Nat.le_of_eq hL) hS (lv_sub hl [0, 3] rfl) (Nat.le_of_ble_eq_true rfl) (Nat.le_of_ble_eq_true rfl)

set_option maxHeartbeats 4000000 in
set_option maxRecDepth 100000 in
theorem law_case_19 {p : Program} {l : Launch} {e : Env} {s : State} {m : MethodId} {below : List Frame} {meth : Method} {c : Code} {b L : Nat} {xs : Nat → Int32} {D : va_G} {dA : Nat → ClassId} {K : Kmap} {V : Vmap} {H : Heap} {locs : List Loc} {ls : Array Slot} {x m0 : Nat} (hat : lw_At p s m meth c b L xs) (hKN : KN D dA s) (hL : L = 8) (hS : ST D dA kNone s.heap K V H locs) (FXh : FX K V x) (FMh : FM K V m0) (hl : lv_has ls 4 [(3, .int 0), (2, .ref m0), (1, .ref x), (0, .ref b)]) : W p l e room_1 s m #[Value.ref b] below meth c H locs 163 25899 (lw_Z below #[Value.ref b] s) (F0 m 1155 ls []) := by
  have hx := hat.1; have hb := hat.2.1
  have C := law_cx hat hKN
  have hKx : K x = some (0, 10) := FX.kind FXh
  refine lv_aload_n hx hb dL_law_1155 rfl (lv_at hl 2 rfl) ?_
  refine lv_aload_n hx hb dL_law_1156 rfl (lv_at hl 3 rfl) ?_
  refine lv_iload_n hx hb dL_law_1157 rfl (lv_at hl 0 rfl) ?_
  refine lv_iconst (v := 1) hx hb dL_law_1158 (by decide) ?_
  refine lv_iadd hx hb dL_law_1159 ?_
  refine th_is (w := .int 1) (by decide) ?_
  refine va_sld hx hb hat.2.2.2.2.2.2.1 hat.2.2.2.2.2.2.2.1 (law_nb hat) hS.2.1 (i := 1) (by rw [hL]; exact vp_in_iff.mpr (by decide +kernel)) dL_law_1160 ?_
  refine th_is (w := .int (xs 1)) (congrArg (fun j => Value.int (xs j)) (by decide)) ?_
  refine lv_aload_n hx hb dL_law_1161 rfl (lv_at hl 3 rfl) ?_
  refine lv_iload_n hx hb dL_law_1162 rfl (lv_at hl 0 rfl) ?_
  refine lv_iconst (v := 2) hx hb dL_law_1163 (by decide) ?_
  refine lv_iadd hx hb dL_law_1164 ?_
  refine th_is (w := .int 2) (by decide) ?_
  refine va_sld hx hb hat.2.2.2.2.2.2.1 hat.2.2.2.2.2.2.2.1 (law_nb hat) hS.2.1 (i := 2) (by rw [hL]; exact vp_in_iff.mpr (by decide +kernel)) dL_law_1165 ?_
  refine th_is (w := .int (xs 2)) (congrArg (fun j => Value.int (xs j)) (by decide)) ?_
  refine th_goi (th_runV (As := [.int (xs 1), .int (xs 2)]) (rest := []) C hS.1 (RX11, TX11, 20) rfl gV_RL_98 hKx (t_X11_study rfl rfl FXh) hl rfl rfl rfl rfl ⟨Nat.le_of_ble_eq_true rfl, Nat.le_of_ble_eq_true rfl⟩ (Nat.le_of_ble_eq_true rfl) ⟨Nat.le_of_ble_eq_true rfl, Nat.le_of_ble_eq_true rfl⟩ dL_law_1166) (fun r5833 hq5834 => ?_)
  refine lv_aload_n hx hb dL_law_1169 rfl (lv_at hl 1 rfl) ?_
  refine lv_aload_n hx hb dL_law_1170 rfl (lv_at hl 3 rfl) ?_
  refine lv_iload_n hx hb dL_law_1171 rfl (lv_at hl 0 rfl) ?_
  refine lv_iconst (v := 1) hx hb dL_law_1172 (by decide) ?_
  refine lv_iadd hx hb dL_law_1173 ?_
  refine th_is (w := .int 1) (by decide) ?_
  refine va_sld hx hb hat.2.2.2.2.2.2.1 hat.2.2.2.2.2.2.2.1 (law_nb hat) hS.2.1 (i := 1) (by rw [hL]; exact vp_in_iff.mpr (by decide +kernel)) dL_law_1174 ?_
  refine th_is (w := .int (xs 1)) (congrArg (fun j => Value.int (xs j)) (by decide)) ?_
  refine lv_aload_n hx hb dL_law_1175 rfl (lv_at hl 3 rfl) ?_
  refine lv_iload_n hx hb dL_law_1176 rfl (lv_at hl 0 rfl) ?_
  refine lv_iconst (v := 2) hx hb dL_law_1177 (by decide) ?_
  refine lv_iadd hx hb dL_law_1178 ?_
  refine th_is (w := .int 2) (by decide) ?_
  refine va_sld hx hb hat.2.2.2.2.2.2.1 hat.2.2.2.2.2.2.2.1 (law_nb hat) hS.2.1 (i := 2) (by rw [hL]; exact vp_in_iff.mpr (by decide +kernel)) dL_law_1179 ?_
  refine th_is (w := .int (xs 2)) (congrArg (fun j => Value.int (xs j)) (by decide)) ?_
  refine th_goi (th_runV (As := [.int (xs 1), .int (xs 2)]) (rest := [.int r5833]) C hS.1 (RX12, TX12, 151) rfl gV_RL_101 FMh.1 (t_X12_study rfl rfl FMh) hl rfl rfl rfl rfl ⟨Nat.le_of_ble_eq_true rfl, Nat.le_of_ble_eq_true rfl⟩ (Nat.le_of_ble_eq_true rfl) ⟨Nat.le_of_ble_eq_true rfl, Nat.le_of_ble_eq_true rfl⟩ dL_law_1180) (fun r5835 hq5836 => ?_)
  refine th_icmp_eq (X := r5833.toInt) (Y := r5835.toInt) (tgt := 2746) hx hb dL_law_1183 (by decide) rfl rfl (fun c5837 => ?_) (fun c5837 => absurd (by omega) c5837)
  exact law_next hat hKN (Nat.le_of_eq hL) hS (lv_sub hl [0, 3] rfl) (Nat.le_of_ble_eq_true rfl) (Nat.le_of_ble_eq_true rfl)

set_option maxHeartbeats 4000000 in
set_option maxRecDepth 100000 in
theorem law_case_20 {p : Program} {l : Launch} {e : Env} {s : State} {m : MethodId} {below : List Frame} {meth : Method} {c : Code} {b L : Nat} {xs : Nat → Int32} {D : va_G} {dA : Nat → ClassId} {K : Kmap} {V : Vmap} {H : Heap} {locs : List Loc} {ls : Array Slot} {x m0 : Nat} (hat : lw_At p s m meth c b L xs) (hKN : KN D dA s) (hL : L = 8) (hS : ST D dA kNone s.heap K V H locs) (FXh : FX K V x) (FMh : FM K V m0) (hl : lv_has ls 4 [(3, .int 0), (2, .ref m0), (1, .ref x), (0, .ref b)]) : W p l e room_1 s m #[Value.ref b] below meth c H locs 163 25899 (lw_Z below #[Value.ref b] s) (F0 m 1188 ls []) := by
  have hx := hat.1; have hb := hat.2.1
  have C := law_cx hat hKN
  have hKx : K x = some (0, 10) := FX.kind FXh
  refine lv_aload_n hx hb dL_law_1188 rfl (lv_at hl 2 rfl) ?_
  refine lv_aload_n hx hb dL_law_1189 rfl (lv_at hl 3 rfl) ?_
  refine lv_iload_n hx hb dL_law_1190 rfl (lv_at hl 0 rfl) ?_
  refine lv_iconst (v := 1) hx hb dL_law_1191 (by decide) ?_
  refine lv_iadd hx hb dL_law_1192 ?_
  refine th_is (w := .int 1) (by decide) ?_
  refine va_sld hx hb hat.2.2.2.2.2.2.1 hat.2.2.2.2.2.2.2.1 (law_nb hat) hS.2.1 (i := 1) (by rw [hL]; exact vp_in_iff.mpr (by decide +kernel)) dL_law_1193 ?_
  refine th_is (w := .int (xs 1)) (congrArg (fun j => Value.int (xs j)) (by decide)) ?_
  refine lv_aload_n hx hb dL_law_1194 rfl (lv_at hl 3 rfl) ?_
  refine lv_iload_n hx hb dL_law_1195 rfl (lv_at hl 0 rfl) ?_
  refine lv_iconst (v := 2) hx hb dL_law_1196 (by decide) ?_
  refine lv_iadd hx hb dL_law_1197 ?_
  refine th_is (w := .int 2) (by decide) ?_
  refine va_sld hx hb hat.2.2.2.2.2.2.1 hat.2.2.2.2.2.2.2.1 (law_nb hat) hS.2.1 (i := 2) (by rw [hL]; exact vp_in_iff.mpr (by decide +kernel)) dL_law_1198 ?_
  refine th_is (w := .int (xs 2)) (congrArg (fun j => Value.int (xs j)) (by decide)) ?_
  refine lv_aload_n hx hb dL_law_1199 rfl (lv_at hl 3 rfl) ?_
  refine lv_iload_n hx hb dL_law_1200 rfl (lv_at hl 0 rfl) ?_
  refine lv_iconst (v := 3) hx hb dL_law_1201 (by decide) ?_
  refine lv_iadd hx hb dL_law_1202 ?_
  refine th_is (w := .int 3) (by decide) ?_
  refine va_sld hx hb hat.2.2.2.2.2.2.1 hat.2.2.2.2.2.2.2.1 (law_nb hat) hS.2.1 (i := 3) (by rw [hL]; exact vp_in_iff.mpr (by decide +kernel)) dL_law_1203 ?_
  refine th_is (w := .int (xs 3)) (congrArg (fun j => Value.int (xs j)) (by decide)) ?_
  refine th_if_eq (X := (xs 3).toInt) (tgt := 1211) hx hb dL_law_1204 (by decide) rfl (fun c5838 => ?_) (fun c5838 => ?_)
  · refine lv_iconst (v := 0) hx hb dL_law_1211 (by decide) ?_
    refine th_goi (th_runV (As := [.int (xs 1), .int (xs 2), .int 0]) (rest := []) C hS.1 (RX11, TX11, 20) rfl gV_RL_102 hKx (t_X11_say rfl rfl li_0 FXh) hl rfl rfl rfl rfl ⟨Nat.le_of_ble_eq_true rfl, Nat.le_of_ble_eq_true rfl⟩ (Nat.le_of_ble_eq_true rfl) ⟨Nat.le_of_ble_eq_true rfl, Nat.le_of_ble_eq_true rfl⟩ dL_law_1212) (fun r5839 hq5840 => ?_)
    refine lv_aload_n hx hb dL_law_1215 rfl (lv_at hl 1 rfl) ?_
    refine lv_aload_n hx hb dL_law_1216 rfl (lv_at hl 3 rfl) ?_
    refine lv_iload_n hx hb dL_law_1217 rfl (lv_at hl 0 rfl) ?_
    refine lv_iconst (v := 1) hx hb dL_law_1218 (by decide) ?_
    refine lv_iadd hx hb dL_law_1219 ?_
    refine th_is (w := .int 1) (by decide) ?_
    refine va_sld hx hb hat.2.2.2.2.2.2.1 hat.2.2.2.2.2.2.2.1 (law_nb hat) hS.2.1 (i := 1) (by rw [hL]; exact vp_in_iff.mpr (by decide +kernel)) dL_law_1220 ?_
    refine th_is (w := .int (xs 1)) (congrArg (fun j => Value.int (xs j)) (by decide)) ?_
    refine lv_aload_n hx hb dL_law_1221 rfl (lv_at hl 3 rfl) ?_
    refine lv_iload_n hx hb dL_law_1222 rfl (lv_at hl 0 rfl) ?_
    refine lv_iconst (v := 2) hx hb dL_law_1223 (by decide) ?_
    refine lv_iadd hx hb dL_law_1224 ?_
    refine th_is (w := .int 2) (by decide) ?_
    refine va_sld hx hb hat.2.2.2.2.2.2.1 hat.2.2.2.2.2.2.2.1 (law_nb hat) hS.2.1 (i := 2) (by rw [hL]; exact vp_in_iff.mpr (by decide +kernel)) dL_law_1225 ?_
    refine th_is (w := .int (xs 2)) (congrArg (fun j => Value.int (xs j)) (by decide)) ?_
    refine lv_aload_n hx hb dL_law_1226 rfl (lv_at hl 3 rfl) ?_
    refine lv_iload_n hx hb dL_law_1227 rfl (lv_at hl 0 rfl) ?_
    refine lv_iconst (v := 3) hx hb dL_law_1228 (by decide) ?_
    refine lv_iadd hx hb dL_law_1229 ?_
    refine th_is (w := .int 3) (by decide) ?_
    refine va_sld hx hb hat.2.2.2.2.2.2.1 hat.2.2.2.2.2.2.2.1 (law_nb hat) hS.2.1 (i := 3) (by rw [hL]; exact vp_in_iff.mpr (by decide +kernel)) dL_law_1230 ?_
    refine th_is (w := .int (xs 3)) (congrArg (fun j => Value.int (xs j)) (by decide)) ?_
    refine th_if_eq (X := (xs 3).toInt) (tgt := 1238) hx hb dL_law_1231 (by decide) rfl (fun c5841 => ?_) (fun c5841 => absurd c5841 (by omega))
    refine lv_iconst (v := 0) hx hb dL_law_1238 (by decide) ?_
    refine th_goi (th_runV (As := [.int (xs 1), .int (xs 2), .int 0]) (rest := [.int r5839]) C hS.1 (RX12, TX12, 151) rfl gV_RL_106 FMh.1 (t_X12_say rfl rfl li_0 FMh) hl rfl rfl rfl rfl ⟨Nat.le_of_ble_eq_true rfl, Nat.le_of_ble_eq_true rfl⟩ (Nat.le_of_ble_eq_true rfl) ⟨Nat.le_of_ble_eq_true rfl, Nat.le_of_ble_eq_true rfl⟩ dL_law_1239) (fun r5842 hq5843 => ?_)
    refine th_icmp_eq (X := r5839.toInt) (Y := r5842.toInt) (tgt := 2746) hx hb dL_law_1242 (by decide) rfl rfl (fun c5844 => ?_) (fun c5844 => absurd (by omega) c5844)
    exact law_next hat hKN (Nat.le_of_eq hL) hS (lv_sub hl [0, 3] rfl) (Nat.le_of_ble_eq_true rfl) (Nat.le_of_ble_eq_true rfl)
  · refine lv_iconst (v := 1) hx hb dL_law_1207 (by decide) ?_
    refine lv_goto (tgt := 1212) hx hb dL_law_1208 (by decide) ?_
    refine th_goi (th_runV (As := [.int (xs 1), .int (xs 2), .int 1]) (rest := []) C hS.1 (RX11, TX11, 20) rfl gV_RL_102 hKx (t_X11_say rfl rfl li_1 FXh) hl rfl rfl rfl rfl ⟨Nat.le_of_ble_eq_true rfl, Nat.le_of_ble_eq_true rfl⟩ (Nat.le_of_ble_eq_true rfl) ⟨Nat.le_of_ble_eq_true rfl, Nat.le_of_ble_eq_true rfl⟩ dL_law_1212) (fun r5845 hq5846 => ?_)
    refine lv_aload_n hx hb dL_law_1215 rfl (lv_at hl 1 rfl) ?_
    refine lv_aload_n hx hb dL_law_1216 rfl (lv_at hl 3 rfl) ?_
    refine lv_iload_n hx hb dL_law_1217 rfl (lv_at hl 0 rfl) ?_
    refine lv_iconst (v := 1) hx hb dL_law_1218 (by decide) ?_
    refine lv_iadd hx hb dL_law_1219 ?_
    refine th_is (w := .int 1) (by decide) ?_
    refine va_sld hx hb hat.2.2.2.2.2.2.1 hat.2.2.2.2.2.2.2.1 (law_nb hat) hS.2.1 (i := 1) (by rw [hL]; exact vp_in_iff.mpr (by decide +kernel)) dL_law_1220 ?_
    refine th_is (w := .int (xs 1)) (congrArg (fun j => Value.int (xs j)) (by decide)) ?_
    refine lv_aload_n hx hb dL_law_1221 rfl (lv_at hl 3 rfl) ?_
    refine lv_iload_n hx hb dL_law_1222 rfl (lv_at hl 0 rfl) ?_
    refine lv_iconst (v := 2) hx hb dL_law_1223 (by decide) ?_
    refine lv_iadd hx hb dL_law_1224 ?_
    refine th_is (w := .int 2) (by decide) ?_
    refine va_sld hx hb hat.2.2.2.2.2.2.1 hat.2.2.2.2.2.2.2.1 (law_nb hat) hS.2.1 (i := 2) (by rw [hL]; exact vp_in_iff.mpr (by decide +kernel)) dL_law_1225 ?_
    refine th_is (w := .int (xs 2)) (congrArg (fun j => Value.int (xs j)) (by decide)) ?_
    refine lv_aload_n hx hb dL_law_1226 rfl (lv_at hl 3 rfl) ?_
    refine lv_iload_n hx hb dL_law_1227 rfl (lv_at hl 0 rfl) ?_
    refine lv_iconst (v := 3) hx hb dL_law_1228 (by decide) ?_
    refine lv_iadd hx hb dL_law_1229 ?_
    refine th_is (w := .int 3) (by decide) ?_
    refine va_sld hx hb hat.2.2.2.2.2.2.1 hat.2.2.2.2.2.2.2.1 (law_nb hat) hS.2.1 (i := 3) (by rw [hL]; exact vp_in_iff.mpr (by decide +kernel)) dL_law_1230 ?_
    refine th_is (w := .int (xs 3)) (congrArg (fun j => Value.int (xs j)) (by decide)) ?_
    refine th_if_eq (X := (xs 3).toInt) (tgt := 1238) hx hb dL_law_1231 (by decide) rfl (fun c5847 => absurd c5847 (by omega)) (fun c5847 => ?_)
    refine lv_iconst (v := 1) hx hb dL_law_1234 (by decide) ?_
    refine lv_goto (tgt := 1239) hx hb dL_law_1235 (by decide) ?_
    refine th_goi (th_runV (As := [.int (xs 1), .int (xs 2), .int 1]) (rest := [.int r5845]) C hS.1 (RX12, TX12, 151) rfl gV_RL_106 FMh.1 (t_X12_say rfl rfl li_1 FMh) hl rfl rfl rfl rfl ⟨Nat.le_of_ble_eq_true rfl, Nat.le_of_ble_eq_true rfl⟩ (Nat.le_of_ble_eq_true rfl) ⟨Nat.le_of_ble_eq_true rfl, Nat.le_of_ble_eq_true rfl⟩ dL_law_1239) (fun r5848 hq5849 => ?_)
    refine th_icmp_eq (X := r5845.toInt) (Y := r5848.toInt) (tgt := 2746) hx hb dL_law_1242 (by decide) rfl rfl (fun c5850 => ?_) (fun c5850 => absurd (by omega) c5850)
    exact law_next hat hKN (Nat.le_of_eq hL) hS (lv_sub hl [0, 3] rfl) (Nat.le_of_ble_eq_true rfl) (Nat.le_of_ble_eq_true rfl)

set_option maxHeartbeats 4000000 in
set_option maxRecDepth 100000 in
theorem law_case_21 {p : Program} {l : Launch} {e : Env} {s : State} {m : MethodId} {below : List Frame} {meth : Method} {c : Code} {b L : Nat} {xs : Nat → Int32} {D : va_G} {dA : Nat → ClassId} {K : Kmap} {V : Vmap} {H : Heap} {locs : List Loc} {ls : Array Slot} {x m0 : Nat} (hat : lw_At p s m meth c b L xs) (hKN : KN D dA s) (hL : L = 8) (hS : ST D dA kNone s.heap K V H locs) (FXh : FX K V x) (FMh : FM K V m0) (hl : lv_has ls 4 [(3, .int 0), (2, .ref m0), (1, .ref x), (0, .ref b)]) : W p l e room_1 s m #[Value.ref b] below meth c H locs 163 25899 (lw_Z below #[Value.ref b] s) (F0 m 1247 ls []) := by
  have hx := hat.1; have hb := hat.2.1
  have C := law_cx hat hKN
  have hKx : K x = some (0, 10) := FX.kind FXh
  refine lv_aload_n hx hb dL_law_1247 rfl (lv_at hl 2 rfl) ?_
  refine lv_aload_n hx hb dL_law_1248 rfl (lv_at hl 3 rfl) ?_
  refine lv_iload_n hx hb dL_law_1249 rfl (lv_at hl 0 rfl) ?_
  refine lv_iconst (v := 1) hx hb dL_law_1250 (by decide) ?_
  refine lv_iadd hx hb dL_law_1251 ?_
  refine th_is (w := .int 1) (by decide) ?_
  refine va_sld hx hb hat.2.2.2.2.2.2.1 hat.2.2.2.2.2.2.2.1 (law_nb hat) hS.2.1 (i := 1) (by rw [hL]; exact vp_in_iff.mpr (by decide +kernel)) dL_law_1252 ?_
  refine th_is (w := .int (xs 1)) (congrArg (fun j => Value.int (xs j)) (by decide)) ?_
  refine lv_aload_n hx hb dL_law_1253 rfl (lv_at hl 3 rfl) ?_
  refine lv_iload_n hx hb dL_law_1254 rfl (lv_at hl 0 rfl) ?_
  refine lv_iconst (v := 2) hx hb dL_law_1255 (by decide) ?_
  refine lv_iadd hx hb dL_law_1256 ?_
  refine th_is (w := .int 2) (by decide) ?_
  refine va_sld hx hb hat.2.2.2.2.2.2.1 hat.2.2.2.2.2.2.2.1 (law_nb hat) hS.2.1 (i := 2) (by rw [hL]; exact vp_in_iff.mpr (by decide +kernel)) dL_law_1257 ?_
  refine th_is (w := .int (xs 2)) (congrArg (fun j => Value.int (xs j)) (by decide)) ?_
  refine lv_aload_n hx hb dL_law_1258 rfl (lv_at hl 3 rfl) ?_
  refine lv_iload_n hx hb dL_law_1259 rfl (lv_at hl 0 rfl) ?_
  refine lv_iconst (v := 3) hx hb dL_law_1260 (by decide) ?_
  refine lv_iadd hx hb dL_law_1261 ?_
  refine th_is (w := .int 3) (by decide) ?_
  refine va_sld hx hb hat.2.2.2.2.2.2.1 hat.2.2.2.2.2.2.2.1 (law_nb hat) hS.2.1 (i := 3) (by rw [hL]; exact vp_in_iff.mpr (by decide +kernel)) dL_law_1262 ?_
  refine th_is (w := .int (xs 3)) (congrArg (fun j => Value.int (xs j)) (by decide)) ?_
  refine th_if_eq (X := (xs 3).toInt) (tgt := 1270) hx hb dL_law_1263 (by decide) rfl (fun c5851 => ?_) (fun c5851 => ?_)
  · refine lv_iconst (v := 0) hx hb dL_law_1270 (by decide) ?_
    refine th_goi (th_runV (As := [.int (xs 1), .int (xs 2), .int 0]) (rest := []) C hS.1 (RX11, TX11, 20) rfl gV_RL_107 hKx (t_X11_may rfl rfl li_0 FXh) hl rfl rfl rfl rfl ⟨Nat.le_of_ble_eq_true rfl, Nat.le_of_ble_eq_true rfl⟩ (Nat.le_of_ble_eq_true rfl) ⟨Nat.le_of_ble_eq_true rfl, Nat.le_of_ble_eq_true rfl⟩ dL_law_1271) (fun r5852 hq5853 => ?_)
    refine lv_aload_n hx hb dL_law_1274 rfl (lv_at hl 1 rfl) ?_
    refine lv_aload_n hx hb dL_law_1275 rfl (lv_at hl 3 rfl) ?_
    refine lv_iload_n hx hb dL_law_1276 rfl (lv_at hl 0 rfl) ?_
    refine lv_iconst (v := 1) hx hb dL_law_1277 (by decide) ?_
    refine lv_iadd hx hb dL_law_1278 ?_
    refine th_is (w := .int 1) (by decide) ?_
    refine va_sld hx hb hat.2.2.2.2.2.2.1 hat.2.2.2.2.2.2.2.1 (law_nb hat) hS.2.1 (i := 1) (by rw [hL]; exact vp_in_iff.mpr (by decide +kernel)) dL_law_1279 ?_
    refine th_is (w := .int (xs 1)) (congrArg (fun j => Value.int (xs j)) (by decide)) ?_
    refine lv_aload_n hx hb dL_law_1280 rfl (lv_at hl 3 rfl) ?_
    refine lv_iload_n hx hb dL_law_1281 rfl (lv_at hl 0 rfl) ?_
    refine lv_iconst (v := 2) hx hb dL_law_1282 (by decide) ?_
    refine lv_iadd hx hb dL_law_1283 ?_
    refine th_is (w := .int 2) (by decide) ?_
    refine va_sld hx hb hat.2.2.2.2.2.2.1 hat.2.2.2.2.2.2.2.1 (law_nb hat) hS.2.1 (i := 2) (by rw [hL]; exact vp_in_iff.mpr (by decide +kernel)) dL_law_1284 ?_
    refine th_is (w := .int (xs 2)) (congrArg (fun j => Value.int (xs j)) (by decide)) ?_
    refine lv_aload_n hx hb dL_law_1285 rfl (lv_at hl 3 rfl) ?_
    refine lv_iload_n hx hb dL_law_1286 rfl (lv_at hl 0 rfl) ?_
    refine lv_iconst (v := 3) hx hb dL_law_1287 (by decide) ?_
    refine lv_iadd hx hb dL_law_1288 ?_
    refine th_is (w := .int 3) (by decide) ?_
    refine va_sld hx hb hat.2.2.2.2.2.2.1 hat.2.2.2.2.2.2.2.1 (law_nb hat) hS.2.1 (i := 3) (by rw [hL]; exact vp_in_iff.mpr (by decide +kernel)) dL_law_1289 ?_
    refine th_is (w := .int (xs 3)) (congrArg (fun j => Value.int (xs j)) (by decide)) ?_
    refine th_if_eq (X := (xs 3).toInt) (tgt := 1297) hx hb dL_law_1290 (by decide) rfl (fun c5854 => ?_) (fun c5854 => absurd c5854 (by omega))
    refine lv_iconst (v := 0) hx hb dL_law_1297 (by decide) ?_
    refine th_goi (th_runV (As := [.int (xs 1), .int (xs 2), .int 0]) (rest := [.int r5852]) C hS.1 (RX12, TX12, 151) rfl gV_RL_111 FMh.1 (t_X12_may rfl rfl li_0 FMh) hl rfl rfl rfl rfl ⟨Nat.le_of_ble_eq_true rfl, Nat.le_of_ble_eq_true rfl⟩ (Nat.le_of_ble_eq_true rfl) ⟨Nat.le_of_ble_eq_true rfl, Nat.le_of_ble_eq_true rfl⟩ dL_law_1298) (fun r5855 hq5856 => ?_)
    refine th_icmp_eq (X := r5852.toInt) (Y := r5855.toInt) (tgt := 2746) hx hb dL_law_1301 (by decide) rfl rfl (fun c5857 => ?_) (fun c5857 => absurd (by omega) c5857)
    exact law_next hat hKN (Nat.le_of_eq hL) hS (lv_sub hl [0, 3] rfl) (Nat.le_of_ble_eq_true rfl) (Nat.le_of_ble_eq_true rfl)
  · refine lv_iconst (v := 1) hx hb dL_law_1266 (by decide) ?_
    refine lv_goto (tgt := 1271) hx hb dL_law_1267 (by decide) ?_
    refine th_goi (th_runV (As := [.int (xs 1), .int (xs 2), .int 1]) (rest := []) C hS.1 (RX11, TX11, 20) rfl gV_RL_107 hKx (t_X11_may rfl rfl li_1 FXh) hl rfl rfl rfl rfl ⟨Nat.le_of_ble_eq_true rfl, Nat.le_of_ble_eq_true rfl⟩ (Nat.le_of_ble_eq_true rfl) ⟨Nat.le_of_ble_eq_true rfl, Nat.le_of_ble_eq_true rfl⟩ dL_law_1271) (fun r5858 hq5859 => ?_)
    refine lv_aload_n hx hb dL_law_1274 rfl (lv_at hl 1 rfl) ?_
    refine lv_aload_n hx hb dL_law_1275 rfl (lv_at hl 3 rfl) ?_
    refine lv_iload_n hx hb dL_law_1276 rfl (lv_at hl 0 rfl) ?_
    refine lv_iconst (v := 1) hx hb dL_law_1277 (by decide) ?_
    refine lv_iadd hx hb dL_law_1278 ?_
    refine th_is (w := .int 1) (by decide) ?_
    refine va_sld hx hb hat.2.2.2.2.2.2.1 hat.2.2.2.2.2.2.2.1 (law_nb hat) hS.2.1 (i := 1) (by rw [hL]; exact vp_in_iff.mpr (by decide +kernel)) dL_law_1279 ?_
    refine th_is (w := .int (xs 1)) (congrArg (fun j => Value.int (xs j)) (by decide)) ?_
    refine lv_aload_n hx hb dL_law_1280 rfl (lv_at hl 3 rfl) ?_
    refine lv_iload_n hx hb dL_law_1281 rfl (lv_at hl 0 rfl) ?_
    refine lv_iconst (v := 2) hx hb dL_law_1282 (by decide) ?_
    refine lv_iadd hx hb dL_law_1283 ?_
    refine th_is (w := .int 2) (by decide) ?_
    refine va_sld hx hb hat.2.2.2.2.2.2.1 hat.2.2.2.2.2.2.2.1 (law_nb hat) hS.2.1 (i := 2) (by rw [hL]; exact vp_in_iff.mpr (by decide +kernel)) dL_law_1284 ?_
    refine th_is (w := .int (xs 2)) (congrArg (fun j => Value.int (xs j)) (by decide)) ?_
    refine lv_aload_n hx hb dL_law_1285 rfl (lv_at hl 3 rfl) ?_
    refine lv_iload_n hx hb dL_law_1286 rfl (lv_at hl 0 rfl) ?_
    refine lv_iconst (v := 3) hx hb dL_law_1287 (by decide) ?_
    refine lv_iadd hx hb dL_law_1288 ?_
    refine th_is (w := .int 3) (by decide) ?_
    refine va_sld hx hb hat.2.2.2.2.2.2.1 hat.2.2.2.2.2.2.2.1 (law_nb hat) hS.2.1 (i := 3) (by rw [hL]; exact vp_in_iff.mpr (by decide +kernel)) dL_law_1289 ?_
    refine th_is (w := .int (xs 3)) (congrArg (fun j => Value.int (xs j)) (by decide)) ?_
    refine th_if_eq (X := (xs 3).toInt) (tgt := 1297) hx hb dL_law_1290 (by decide) rfl (fun c5860 => absurd c5860 (by omega)) (fun c5860 => ?_)
    refine lv_iconst (v := 1) hx hb dL_law_1293 (by decide) ?_
    refine lv_goto (tgt := 1298) hx hb dL_law_1294 (by decide) ?_
    refine th_goi (th_runV (As := [.int (xs 1), .int (xs 2), .int 1]) (rest := [.int r5858]) C hS.1 (RX12, TX12, 151) rfl gV_RL_111 FMh.1 (t_X12_may rfl rfl li_1 FMh) hl rfl rfl rfl rfl ⟨Nat.le_of_ble_eq_true rfl, Nat.le_of_ble_eq_true rfl⟩ (Nat.le_of_ble_eq_true rfl) ⟨Nat.le_of_ble_eq_true rfl, Nat.le_of_ble_eq_true rfl⟩ dL_law_1298) (fun r5861 hq5862 => ?_)
    refine th_icmp_eq (X := r5858.toInt) (Y := r5861.toInt) (tgt := 2746) hx hb dL_law_1301 (by decide) rfl rfl (fun c5863 => ?_) (fun c5863 => absurd (by omega) c5863)
    exact law_next hat hKN (Nat.le_of_eq hL) hS (lv_sub hl [0, 3] rfl) (Nat.le_of_ble_eq_true rfl) (Nat.le_of_ble_eq_true rfl)

set_option maxHeartbeats 4000000 in
set_option maxRecDepth 100000 in
theorem law_case_22 {p : Program} {l : Launch} {e : Env} {s : State} {m : MethodId} {below : List Frame} {meth : Method} {c : Code} {b L : Nat} {xs : Nat → Int32} {D : va_G} {dA : Nat → ClassId} {K : Kmap} {V : Vmap} {H : Heap} {locs : List Loc} {ls : Array Slot} {x m0 : Nat} (hat : lw_At p s m meth c b L xs) (hKN : KN D dA s) (hL : L = 8) (hS : ST D dA kNone s.heap K V H locs) (FXh : FX K V x) (FMh : FM K V m0) (hl : lv_has ls 4 [(3, .int 0), (2, .ref m0), (1, .ref x), (0, .ref b)]) : W p l e room_1 s m #[Value.ref b] below meth c H locs 163 25899 (lw_Z below #[Value.ref b] s) (F0 m 1306 ls []) := by
  have hx := hat.1; have hb := hat.2.1
  have C := law_cx hat hKN
  have hKx : K x = some (0, 10) := FX.kind FXh
  refine lv_aload_n hx hb dL_law_1306 rfl (lv_at hl 2 rfl) ?_
  refine lv_aload_n hx hb dL_law_1307 rfl (lv_at hl 3 rfl) ?_
  refine lv_iload_n hx hb dL_law_1308 rfl (lv_at hl 0 rfl) ?_
  refine lv_iconst (v := 1) hx hb dL_law_1309 (by decide) ?_
  refine lv_iadd hx hb dL_law_1310 ?_
  refine th_is (w := .int 1) (by decide) ?_
  refine va_sld hx hb hat.2.2.2.2.2.2.1 hat.2.2.2.2.2.2.2.1 (law_nb hat) hS.2.1 (i := 1) (by rw [hL]; exact vp_in_iff.mpr (by decide +kernel)) dL_law_1311 ?_
  refine th_is (w := .int (xs 1)) (congrArg (fun j => Value.int (xs j)) (by decide)) ?_
  refine lv_aload_n hx hb dL_law_1312 rfl (lv_at hl 3 rfl) ?_
  refine lv_iload_n hx hb dL_law_1313 rfl (lv_at hl 0 rfl) ?_
  refine lv_iconst (v := 2) hx hb dL_law_1314 (by decide) ?_
  refine lv_iadd hx hb dL_law_1315 ?_
  refine th_is (w := .int 2) (by decide) ?_
  refine va_sld hx hb hat.2.2.2.2.2.2.1 hat.2.2.2.2.2.2.2.1 (law_nb hat) hS.2.1 (i := 2) (by rw [hL]; exact vp_in_iff.mpr (by decide +kernel)) dL_law_1316 ?_
  refine th_is (w := .int (xs 2)) (congrArg (fun j => Value.int (xs j)) (by decide)) ?_
  refine lv_aload_n hx hb dL_law_1317 rfl (lv_at hl 3 rfl) ?_
  refine lv_iload_n hx hb dL_law_1318 rfl (lv_at hl 0 rfl) ?_
  refine lv_iconst (v := 3) hx hb dL_law_1319 (by decide) ?_
  refine lv_iadd hx hb dL_law_1320 ?_
  refine th_is (w := .int 3) (by decide) ?_
  refine va_sld hx hb hat.2.2.2.2.2.2.1 hat.2.2.2.2.2.2.2.1 (law_nb hat) hS.2.1 (i := 3) (by rw [hL]; exact vp_in_iff.mpr (by decide +kernel)) dL_law_1321 ?_
  refine th_is (w := .int (xs 3)) (congrArg (fun j => Value.int (xs j)) (by decide)) ?_
  refine th_if_eq (X := (xs 3).toInt) (tgt := 1329) hx hb dL_law_1322 (by decide) rfl (fun c5864 => ?_) (fun c5864 => ?_)
  · refine lv_iconst (v := 0) hx hb dL_law_1329 (by decide) ?_
    refine lv_aload_n hx hb dL_law_1330 rfl (lv_at hl 3 rfl) ?_
    refine lv_iload_n hx hb dL_law_1331 rfl (lv_at hl 0 rfl) ?_
    refine lv_iconst (v := 4) hx hb dL_law_1332 (by decide) ?_
    refine lv_iadd hx hb dL_law_1333 ?_
    refine th_is (w := .int 4) (by decide) ?_
    refine va_sld hx hb hat.2.2.2.2.2.2.1 hat.2.2.2.2.2.2.2.1 (law_nb hat) hS.2.1 (i := 4) (by rw [hL]; exact vp_in_iff.mpr (by decide +kernel)) dL_law_1334 ?_
    refine th_is (w := .int (xs 4)) (congrArg (fun j => Value.int (xs j)) (by decide)) ?_
    refine th_goi (th_runV (As := [.int (xs 1), .int (xs 2), .int 0, .int (xs 4)]) (rest := []) C hS.1 (RX11, TX11, 20) rfl gV_RL_112 hKx (t_X11_why rfl rfl li_0 rfl FXh) hl rfl rfl rfl rfl ⟨Nat.le_of_ble_eq_true rfl, Nat.le_of_ble_eq_true rfl⟩ (Nat.le_of_ble_eq_true rfl) ⟨Nat.le_of_ble_eq_true rfl, Nat.le_of_ble_eq_true rfl⟩ dL_law_1335) (fun r5865 hq5866 => ?_)
    refine lv_aload_n hx hb dL_law_1338 rfl (lv_at hl 1 rfl) ?_
    refine lv_aload_n hx hb dL_law_1339 rfl (lv_at hl 3 rfl) ?_
    refine lv_iload_n hx hb dL_law_1340 rfl (lv_at hl 0 rfl) ?_
    refine lv_iconst (v := 1) hx hb dL_law_1341 (by decide) ?_
    refine lv_iadd hx hb dL_law_1342 ?_
    refine th_is (w := .int 1) (by decide) ?_
    refine va_sld hx hb hat.2.2.2.2.2.2.1 hat.2.2.2.2.2.2.2.1 (law_nb hat) hS.2.1 (i := 1) (by rw [hL]; exact vp_in_iff.mpr (by decide +kernel)) dL_law_1343 ?_
    refine th_is (w := .int (xs 1)) (congrArg (fun j => Value.int (xs j)) (by decide)) ?_
    refine lv_aload_n hx hb dL_law_1344 rfl (lv_at hl 3 rfl) ?_
    refine lv_iload_n hx hb dL_law_1345 rfl (lv_at hl 0 rfl) ?_
    refine lv_iconst (v := 2) hx hb dL_law_1346 (by decide) ?_
    refine lv_iadd hx hb dL_law_1347 ?_
    refine th_is (w := .int 2) (by decide) ?_
    refine va_sld hx hb hat.2.2.2.2.2.2.1 hat.2.2.2.2.2.2.2.1 (law_nb hat) hS.2.1 (i := 2) (by rw [hL]; exact vp_in_iff.mpr (by decide +kernel)) dL_law_1348 ?_
    refine th_is (w := .int (xs 2)) (congrArg (fun j => Value.int (xs j)) (by decide)) ?_
    refine lv_aload_n hx hb dL_law_1349 rfl (lv_at hl 3 rfl) ?_
    refine lv_iload_n hx hb dL_law_1350 rfl (lv_at hl 0 rfl) ?_
    refine lv_iconst (v := 3) hx hb dL_law_1351 (by decide) ?_
    refine lv_iadd hx hb dL_law_1352 ?_
    refine th_is (w := .int 3) (by decide) ?_
    refine va_sld hx hb hat.2.2.2.2.2.2.1 hat.2.2.2.2.2.2.2.1 (law_nb hat) hS.2.1 (i := 3) (by rw [hL]; exact vp_in_iff.mpr (by decide +kernel)) dL_law_1353 ?_
    refine th_is (w := .int (xs 3)) (congrArg (fun j => Value.int (xs j)) (by decide)) ?_
    refine th_if_eq (X := (xs 3).toInt) (tgt := 1361) hx hb dL_law_1354 (by decide) rfl (fun c5867 => ?_) (fun c5867 => absurd c5867 (by omega))
    refine lv_iconst (v := 0) hx hb dL_law_1361 (by decide) ?_
    refine lv_aload_n hx hb dL_law_1362 rfl (lv_at hl 3 rfl) ?_
    refine lv_iload_n hx hb dL_law_1363 rfl (lv_at hl 0 rfl) ?_
    refine lv_iconst (v := 4) hx hb dL_law_1364 (by decide) ?_
    refine lv_iadd hx hb dL_law_1365 ?_
    refine th_is (w := .int 4) (by decide) ?_
    refine va_sld hx hb hat.2.2.2.2.2.2.1 hat.2.2.2.2.2.2.2.1 (law_nb hat) hS.2.1 (i := 4) (by rw [hL]; exact vp_in_iff.mpr (by decide +kernel)) dL_law_1366 ?_
    refine th_is (w := .int (xs 4)) (congrArg (fun j => Value.int (xs j)) (by decide)) ?_
    refine th_goi (th_runV (As := [.int (xs 1), .int (xs 2), .int 0, .int (xs 4)]) (rest := [.int r5865]) C hS.1 (RX12, TX12, 151) rfl gV_RL_116 FMh.1 (t_X12_why rfl rfl li_0 rfl FMh) hl rfl rfl rfl rfl ⟨Nat.le_of_ble_eq_true rfl, Nat.le_of_ble_eq_true rfl⟩ (Nat.le_of_ble_eq_true rfl) ⟨Nat.le_of_ble_eq_true rfl, Nat.le_of_ble_eq_true rfl⟩ dL_law_1367) (fun r5868 hq5869 => ?_)
    refine th_icmp_eq (X := r5865.toInt) (Y := r5868.toInt) (tgt := 2746) hx hb dL_law_1370 (by decide) rfl rfl (fun c5870 => ?_) (fun c5870 => absurd (by omega) c5870)
    exact law_next hat hKN (Nat.le_of_eq hL) hS (lv_sub hl [0, 3] rfl) (Nat.le_of_ble_eq_true rfl) (Nat.le_of_ble_eq_true rfl)
  · refine lv_iconst (v := 1) hx hb dL_law_1325 (by decide) ?_
    refine lv_goto (tgt := 1330) hx hb dL_law_1326 (by decide) ?_
    refine lv_aload_n hx hb dL_law_1330 rfl (lv_at hl 3 rfl) ?_
    refine lv_iload_n hx hb dL_law_1331 rfl (lv_at hl 0 rfl) ?_
    refine lv_iconst (v := 4) hx hb dL_law_1332 (by decide) ?_
    refine lv_iadd hx hb dL_law_1333 ?_
    refine th_is (w := .int 4) (by decide) ?_
    refine va_sld hx hb hat.2.2.2.2.2.2.1 hat.2.2.2.2.2.2.2.1 (law_nb hat) hS.2.1 (i := 4) (by rw [hL]; exact vp_in_iff.mpr (by decide +kernel)) dL_law_1334 ?_
    refine th_is (w := .int (xs 4)) (congrArg (fun j => Value.int (xs j)) (by decide)) ?_
    refine th_goi (th_runV (As := [.int (xs 1), .int (xs 2), .int 1, .int (xs 4)]) (rest := []) C hS.1 (RX11, TX11, 20) rfl gV_RL_112 hKx (t_X11_why rfl rfl li_1 rfl FXh) hl rfl rfl rfl rfl ⟨Nat.le_of_ble_eq_true rfl, Nat.le_of_ble_eq_true rfl⟩ (Nat.le_of_ble_eq_true rfl) ⟨Nat.le_of_ble_eq_true rfl, Nat.le_of_ble_eq_true rfl⟩ dL_law_1335) (fun r5871 hq5872 => ?_)
    refine lv_aload_n hx hb dL_law_1338 rfl (lv_at hl 1 rfl) ?_
    refine lv_aload_n hx hb dL_law_1339 rfl (lv_at hl 3 rfl) ?_
    refine lv_iload_n hx hb dL_law_1340 rfl (lv_at hl 0 rfl) ?_
    refine lv_iconst (v := 1) hx hb dL_law_1341 (by decide) ?_
    refine lv_iadd hx hb dL_law_1342 ?_
    refine th_is (w := .int 1) (by decide) ?_
    refine va_sld hx hb hat.2.2.2.2.2.2.1 hat.2.2.2.2.2.2.2.1 (law_nb hat) hS.2.1 (i := 1) (by rw [hL]; exact vp_in_iff.mpr (by decide +kernel)) dL_law_1343 ?_
    refine th_is (w := .int (xs 1)) (congrArg (fun j => Value.int (xs j)) (by decide)) ?_
    refine lv_aload_n hx hb dL_law_1344 rfl (lv_at hl 3 rfl) ?_
    refine lv_iload_n hx hb dL_law_1345 rfl (lv_at hl 0 rfl) ?_
    refine lv_iconst (v := 2) hx hb dL_law_1346 (by decide) ?_
    refine lv_iadd hx hb dL_law_1347 ?_
    refine th_is (w := .int 2) (by decide) ?_
    refine va_sld hx hb hat.2.2.2.2.2.2.1 hat.2.2.2.2.2.2.2.1 (law_nb hat) hS.2.1 (i := 2) (by rw [hL]; exact vp_in_iff.mpr (by decide +kernel)) dL_law_1348 ?_
    refine th_is (w := .int (xs 2)) (congrArg (fun j => Value.int (xs j)) (by decide)) ?_
    refine lv_aload_n hx hb dL_law_1349 rfl (lv_at hl 3 rfl) ?_
    refine lv_iload_n hx hb dL_law_1350 rfl (lv_at hl 0 rfl) ?_
    refine lv_iconst (v := 3) hx hb dL_law_1351 (by decide) ?_
    refine lv_iadd hx hb dL_law_1352 ?_
    refine th_is (w := .int 3) (by decide) ?_
    refine va_sld hx hb hat.2.2.2.2.2.2.1 hat.2.2.2.2.2.2.2.1 (law_nb hat) hS.2.1 (i := 3) (by rw [hL]; exact vp_in_iff.mpr (by decide +kernel)) dL_law_1353 ?_
    refine th_is (w := .int (xs 3)) (congrArg (fun j => Value.int (xs j)) (by decide)) ?_
    refine th_if_eq (X := (xs 3).toInt) (tgt := 1361) hx hb dL_law_1354 (by decide) rfl (fun c5873 => absurd c5873 (by omega)) (fun c5873 => ?_)
    refine lv_iconst (v := 1) hx hb dL_law_1357 (by decide) ?_
    refine lv_goto (tgt := 1362) hx hb dL_law_1358 (by decide) ?_
    refine lv_aload_n hx hb dL_law_1362 rfl (lv_at hl 3 rfl) ?_
    refine lv_iload_n hx hb dL_law_1363 rfl (lv_at hl 0 rfl) ?_
    refine lv_iconst (v := 4) hx hb dL_law_1364 (by decide) ?_
    refine lv_iadd hx hb dL_law_1365 ?_
    refine th_is (w := .int 4) (by decide) ?_
    refine va_sld hx hb hat.2.2.2.2.2.2.1 hat.2.2.2.2.2.2.2.1 (law_nb hat) hS.2.1 (i := 4) (by rw [hL]; exact vp_in_iff.mpr (by decide +kernel)) dL_law_1366 ?_
    refine th_is (w := .int (xs 4)) (congrArg (fun j => Value.int (xs j)) (by decide)) ?_
    refine th_goi (th_runV (As := [.int (xs 1), .int (xs 2), .int 1, .int (xs 4)]) (rest := [.int r5871]) C hS.1 (RX12, TX12, 151) rfl gV_RL_116 FMh.1 (t_X12_why rfl rfl li_1 rfl FMh) hl rfl rfl rfl rfl ⟨Nat.le_of_ble_eq_true rfl, Nat.le_of_ble_eq_true rfl⟩ (Nat.le_of_ble_eq_true rfl) ⟨Nat.le_of_ble_eq_true rfl, Nat.le_of_ble_eq_true rfl⟩ dL_law_1367) (fun r5874 hq5875 => ?_)
    refine th_icmp_eq (X := r5871.toInt) (Y := r5874.toInt) (tgt := 2746) hx hb dL_law_1370 (by decide) rfl rfl (fun c5876 => ?_) (fun c5876 => absurd (by omega) c5876)
    exact law_next hat hKN (Nat.le_of_eq hL) hS (lv_sub hl [0, 3] rfl) (Nat.le_of_ble_eq_true rfl) (Nat.le_of_ble_eq_true rfl)

set_option maxHeartbeats 4000000 in
set_option maxRecDepth 100000 in
theorem law_case_23 {p : Program} {l : Launch} {e : Env} {s : State} {m : MethodId} {below : List Frame} {meth : Method} {c : Code} {b L : Nat} {xs : Nat → Int32} {D : va_G} {dA : Nat → ClassId} {K : Kmap} {V : Vmap} {H : Heap} {locs : List Loc} {ls : Array Slot} {x m0 : Nat} (hat : lw_At p s m meth c b L xs) (hKN : KN D dA s) (hL : L = 8) (hS : ST D dA kNone s.heap K V H locs) (FXh : FX K V x) (FMh : FM K V m0) (hl : lv_has ls 4 [(3, .int 0), (2, .ref m0), (1, .ref x), (0, .ref b)]) : W p l e room_1 s m #[Value.ref b] below meth c H locs 163 25899 (lw_Z below #[Value.ref b] s) (F0 m 1375 ls []) := by
  have hx := hat.1; have hb := hat.2.1
  have C := law_cx hat hKN
  have hKx : K x = some (0, 10) := FX.kind FXh
  refine lv_aload_n hx hb dL_law_1375 rfl (lv_at hl 2 rfl) ?_
  refine lv_aload_n hx hb dL_law_1376 rfl (lv_at hl 3 rfl) ?_
  refine lv_iload_n hx hb dL_law_1377 rfl (lv_at hl 0 rfl) ?_
  refine lv_iconst (v := 1) hx hb dL_law_1378 (by decide) ?_
  refine lv_iadd hx hb dL_law_1379 ?_
  refine th_is (w := .int 1) (by decide) ?_
  refine va_sld hx hb hat.2.2.2.2.2.2.1 hat.2.2.2.2.2.2.2.1 (law_nb hat) hS.2.1 (i := 1) (by rw [hL]; exact vp_in_iff.mpr (by decide +kernel)) dL_law_1380 ?_
  refine th_is (w := .int (xs 1)) (congrArg (fun j => Value.int (xs j)) (by decide)) ?_
  refine lv_aload_n hx hb dL_law_1381 rfl (lv_at hl 3 rfl) ?_
  refine lv_iload_n hx hb dL_law_1382 rfl (lv_at hl 0 rfl) ?_
  refine lv_iconst (v := 2) hx hb dL_law_1383 (by decide) ?_
  refine lv_iadd hx hb dL_law_1384 ?_
  refine th_is (w := .int 2) (by decide) ?_
  refine va_sld hx hb hat.2.2.2.2.2.2.1 hat.2.2.2.2.2.2.2.1 (law_nb hat) hS.2.1 (i := 2) (by rw [hL]; exact vp_in_iff.mpr (by decide +kernel)) dL_law_1385 ?_
  refine th_is (w := .int (xs 2)) (congrArg (fun j => Value.int (xs j)) (by decide)) ?_
  refine th_goi (th_runV (As := [.int (xs 1), .int (xs 2)]) (rest := []) C hS.1 (RX11, TX11, 20) rfl gV_RL_117 hKx (t_X11_whose rfl rfl FXh) hl rfl rfl rfl rfl ⟨Nat.le_of_ble_eq_true rfl, Nat.le_of_ble_eq_true rfl⟩ (Nat.le_of_ble_eq_true rfl) ⟨Nat.le_of_ble_eq_true rfl, Nat.le_of_ble_eq_true rfl⟩ dL_law_1386) (fun r5877 hq5878 => ?_)
  refine lv_aload_n hx hb dL_law_1389 rfl (lv_at hl 1 rfl) ?_
  refine lv_aload_n hx hb dL_law_1390 rfl (lv_at hl 3 rfl) ?_
  refine lv_iload_n hx hb dL_law_1391 rfl (lv_at hl 0 rfl) ?_
  refine lv_iconst (v := 1) hx hb dL_law_1392 (by decide) ?_
  refine lv_iadd hx hb dL_law_1393 ?_
  refine th_is (w := .int 1) (by decide) ?_
  refine va_sld hx hb hat.2.2.2.2.2.2.1 hat.2.2.2.2.2.2.2.1 (law_nb hat) hS.2.1 (i := 1) (by rw [hL]; exact vp_in_iff.mpr (by decide +kernel)) dL_law_1394 ?_
  refine th_is (w := .int (xs 1)) (congrArg (fun j => Value.int (xs j)) (by decide)) ?_
  refine lv_aload_n hx hb dL_law_1395 rfl (lv_at hl 3 rfl) ?_
  refine lv_iload_n hx hb dL_law_1396 rfl (lv_at hl 0 rfl) ?_
  refine lv_iconst (v := 2) hx hb dL_law_1397 (by decide) ?_
  refine lv_iadd hx hb dL_law_1398 ?_
  refine th_is (w := .int 2) (by decide) ?_
  refine va_sld hx hb hat.2.2.2.2.2.2.1 hat.2.2.2.2.2.2.2.1 (law_nb hat) hS.2.1 (i := 2) (by rw [hL]; exact vp_in_iff.mpr (by decide +kernel)) dL_law_1399 ?_
  refine th_is (w := .int (xs 2)) (congrArg (fun j => Value.int (xs j)) (by decide)) ?_
  refine th_goi (th_runV (As := [.int (xs 1), .int (xs 2)]) (rest := [.int r5877]) C hS.1 (RX12, TX12, 151) rfl gV_RL_120 FMh.1 (t_X12_whose rfl rfl FMh) hl rfl rfl rfl rfl ⟨Nat.le_of_ble_eq_true rfl, Nat.le_of_ble_eq_true rfl⟩ (Nat.le_of_ble_eq_true rfl) ⟨Nat.le_of_ble_eq_true rfl, Nat.le_of_ble_eq_true rfl⟩ dL_law_1400) (fun r5879 hq5880 => ?_)
  refine th_icmp_eq (X := r5877.toInt) (Y := r5879.toInt) (tgt := 2746) hx hb dL_law_1403 (by decide) rfl rfl (fun c5881 => ?_) (fun c5881 => absurd (by omega) c5881)
  exact law_next hat hKN (Nat.le_of_eq hL) hS (lv_sub hl [0, 3] rfl) (Nat.le_of_ble_eq_true rfl) (Nat.le_of_ble_eq_true rfl)

set_option maxHeartbeats 4000000 in
set_option maxRecDepth 100000 in
theorem law_case_24 {p : Program} {l : Launch} {e : Env} {s : State} {m : MethodId} {below : List Frame} {meth : Method} {c : Code} {b L : Nat} {xs : Nat → Int32} {D : va_G} {dA : Nat → ClassId} {K : Kmap} {V : Vmap} {H : Heap} {locs : List Loc} {ls : Array Slot} {x m0 : Nat} (hat : lw_At p s m meth c b L xs) (hKN : KN D dA s) (hL : L = 8) (hS : ST D dA kNone s.heap K V H locs) (FXh : FX K V x) (FMh : FM K V m0) (hl : lv_has ls 4 [(3, .int 0), (2, .ref m0), (1, .ref x), (0, .ref b)]) : W p l e room_1 s m #[Value.ref b] below meth c H locs 163 25899 (lw_Z below #[Value.ref b] s) (F0 m 1408 ls []) := by
  have hx := hat.1; have hb := hat.2.1
  have C := law_cx hat hKN
  have hKx : K x = some (0, 10) := FX.kind FXh
  refine lv_aload_n hx hb dL_law_1408 rfl (lv_at hl 2 rfl) ?_
  refine lv_aload_n hx hb dL_law_1409 rfl (lv_at hl 3 rfl) ?_
  refine lv_iload_n hx hb dL_law_1410 rfl (lv_at hl 0 rfl) ?_
  refine lv_iconst (v := 1) hx hb dL_law_1411 (by decide) ?_
  refine lv_iadd hx hb dL_law_1412 ?_
  refine th_is (w := .int 1) (by decide) ?_
  refine va_sld hx hb hat.2.2.2.2.2.2.1 hat.2.2.2.2.2.2.2.1 (law_nb hat) hS.2.1 (i := 1) (by rw [hL]; exact vp_in_iff.mpr (by decide +kernel)) dL_law_1413 ?_
  refine th_is (w := .int (xs 1)) (congrArg (fun j => Value.int (xs j)) (by decide)) ?_
  refine lv_aload_n hx hb dL_law_1414 rfl (lv_at hl 3 rfl) ?_
  refine lv_iload_n hx hb dL_law_1415 rfl (lv_at hl 0 rfl) ?_
  refine lv_iconst (v := 2) hx hb dL_law_1416 (by decide) ?_
  refine lv_iadd hx hb dL_law_1417 ?_
  refine th_is (w := .int 2) (by decide) ?_
  refine va_sld hx hb hat.2.2.2.2.2.2.1 hat.2.2.2.2.2.2.2.1 (law_nb hat) hS.2.1 (i := 2) (by rw [hL]; exact vp_in_iff.mpr (by decide +kernel)) dL_law_1418 ?_
  refine th_is (w := .int (xs 2)) (congrArg (fun j => Value.int (xs j)) (by decide)) ?_
  refine lv_aload_n hx hb dL_law_1419 rfl (lv_at hl 3 rfl) ?_
  refine lv_iload_n hx hb dL_law_1420 rfl (lv_at hl 0 rfl) ?_
  refine lv_iconst (v := 3) hx hb dL_law_1421 (by decide) ?_
  refine lv_iadd hx hb dL_law_1422 ?_
  refine th_is (w := .int 3) (by decide) ?_
  refine va_sld hx hb hat.2.2.2.2.2.2.1 hat.2.2.2.2.2.2.2.1 (law_nb hat) hS.2.1 (i := 3) (by rw [hL]; exact vp_in_iff.mpr (by decide +kernel)) dL_law_1423 ?_
  refine th_is (w := .int (xs 3)) (congrArg (fun j => Value.int (xs j)) (by decide)) ?_
  refine th_goi (th_runV (As := [.int (xs 1), .int (xs 2), .int (xs 3)]) (rest := []) C hS.1 (RX11, TX11, 20) rfl gV_RL_121 hKx (t_X11_ship rfl rfl rfl FXh) hl rfl rfl rfl rfl ⟨Nat.le_of_ble_eq_true rfl, Nat.le_of_ble_eq_true rfl⟩ (Nat.le_of_ble_eq_true rfl) ⟨Nat.le_of_ble_eq_true rfl, Nat.le_of_ble_eq_true rfl⟩ dL_law_1424) (fun r5882 hq5883 => ?_)
  refine lv_aload_n hx hb dL_law_1427 rfl (lv_at hl 1 rfl) ?_
  refine lv_aload_n hx hb dL_law_1428 rfl (lv_at hl 3 rfl) ?_
  refine lv_iload_n hx hb dL_law_1429 rfl (lv_at hl 0 rfl) ?_
  refine lv_iconst (v := 1) hx hb dL_law_1430 (by decide) ?_
  refine lv_iadd hx hb dL_law_1431 ?_
  refine th_is (w := .int 1) (by decide) ?_
  refine va_sld hx hb hat.2.2.2.2.2.2.1 hat.2.2.2.2.2.2.2.1 (law_nb hat) hS.2.1 (i := 1) (by rw [hL]; exact vp_in_iff.mpr (by decide +kernel)) dL_law_1432 ?_
  refine th_is (w := .int (xs 1)) (congrArg (fun j => Value.int (xs j)) (by decide)) ?_
  refine lv_aload_n hx hb dL_law_1433 rfl (lv_at hl 3 rfl) ?_
  refine lv_iload_n hx hb dL_law_1434 rfl (lv_at hl 0 rfl) ?_
  refine lv_iconst (v := 2) hx hb dL_law_1435 (by decide) ?_
  refine lv_iadd hx hb dL_law_1436 ?_
  refine th_is (w := .int 2) (by decide) ?_
  refine va_sld hx hb hat.2.2.2.2.2.2.1 hat.2.2.2.2.2.2.2.1 (law_nb hat) hS.2.1 (i := 2) (by rw [hL]; exact vp_in_iff.mpr (by decide +kernel)) dL_law_1437 ?_
  refine th_is (w := .int (xs 2)) (congrArg (fun j => Value.int (xs j)) (by decide)) ?_
  refine lv_aload_n hx hb dL_law_1438 rfl (lv_at hl 3 rfl) ?_
  refine lv_iload_n hx hb dL_law_1439 rfl (lv_at hl 0 rfl) ?_
  refine lv_iconst (v := 3) hx hb dL_law_1440 (by decide) ?_
  refine lv_iadd hx hb dL_law_1441 ?_
  refine th_is (w := .int 3) (by decide) ?_
  refine va_sld hx hb hat.2.2.2.2.2.2.1 hat.2.2.2.2.2.2.2.1 (law_nb hat) hS.2.1 (i := 3) (by rw [hL]; exact vp_in_iff.mpr (by decide +kernel)) dL_law_1442 ?_
  refine th_is (w := .int (xs 3)) (congrArg (fun j => Value.int (xs j)) (by decide)) ?_
  refine th_goi (th_runV (As := [.int (xs 1), .int (xs 2), .int (xs 3)]) (rest := [.int r5882]) C hS.1 (RX12, TX12, 151) rfl gV_RL_124 FMh.1 (t_X12_ship rfl rfl rfl FMh) hl rfl rfl rfl rfl ⟨Nat.le_of_ble_eq_true rfl, Nat.le_of_ble_eq_true rfl⟩ (Nat.le_of_ble_eq_true rfl) ⟨Nat.le_of_ble_eq_true rfl, Nat.le_of_ble_eq_true rfl⟩ dL_law_1443) (fun r5884 hq5885 => ?_)
  refine th_icmp_eq (X := r5882.toInt) (Y := r5884.toInt) (tgt := 2746) hx hb dL_law_1446 (by decide) rfl rfl (fun c5886 => ?_) (fun c5886 => absurd (by omega) c5886)
  exact law_next hat hKN (Nat.le_of_eq hL) hS (lv_sub hl [0, 3] rfl) (Nat.le_of_ble_eq_true rfl) (Nat.le_of_ble_eq_true rfl)

set_option maxHeartbeats 4000000 in
set_option maxRecDepth 100000 in
theorem law_case_25 {p : Program} {l : Launch} {e : Env} {s : State} {m : MethodId} {below : List Frame} {meth : Method} {c : Code} {b L : Nat} {xs : Nat → Int32} {D : va_G} {dA : Nat → ClassId} {K : Kmap} {V : Vmap} {H : Heap} {locs : List Loc} {ls : Array Slot} {x m0 : Nat} (hat : lw_At p s m meth c b L xs) (hKN : KN D dA s) (hL : L = 8) (hS : ST D dA kNone s.heap K V H locs) (FXh : FX K V x) (FMh : FM K V m0) (hl : lv_has ls 4 [(3, .int 0), (2, .ref m0), (1, .ref x), (0, .ref b)]) : W p l e room_1 s m #[Value.ref b] below meth c H locs 163 25899 (lw_Z below #[Value.ref b] s) (F0 m 1451 ls []) := by
  have hx := hat.1; have hb := hat.2.1
  have C := law_cx hat hKN
  have hKx : K x = some (0, 10) := FX.kind FXh
  refine lv_aload_n hx hb dL_law_1451 rfl (lv_at hl 2 rfl) ?_
  refine lv_aload_n hx hb dL_law_1452 rfl (lv_at hl 3 rfl) ?_
  refine lv_iload_n hx hb dL_law_1453 rfl (lv_at hl 0 rfl) ?_
  refine lv_iconst (v := 1) hx hb dL_law_1454 (by decide) ?_
  refine lv_iadd hx hb dL_law_1455 ?_
  refine th_is (w := .int 1) (by decide) ?_
  refine va_sld hx hb hat.2.2.2.2.2.2.1 hat.2.2.2.2.2.2.2.1 (law_nb hat) hS.2.1 (i := 1) (by rw [hL]; exact vp_in_iff.mpr (by decide +kernel)) dL_law_1456 ?_
  refine th_is (w := .int (xs 1)) (congrArg (fun j => Value.int (xs j)) (by decide)) ?_
  refine lv_aload_n hx hb dL_law_1457 rfl (lv_at hl 3 rfl) ?_
  refine lv_iload_n hx hb dL_law_1458 rfl (lv_at hl 0 rfl) ?_
  refine lv_iconst (v := 2) hx hb dL_law_1459 (by decide) ?_
  refine lv_iadd hx hb dL_law_1460 ?_
  refine th_is (w := .int 2) (by decide) ?_
  refine va_sld hx hb hat.2.2.2.2.2.2.1 hat.2.2.2.2.2.2.2.1 (law_nb hat) hS.2.1 (i := 2) (by rw [hL]; exact vp_in_iff.mpr (by decide +kernel)) dL_law_1461 ?_
  refine th_is (w := .int (xs 2)) (congrArg (fun j => Value.int (xs j)) (by decide)) ?_
  refine lv_aload_n hx hb dL_law_1462 rfl (lv_at hl 3 rfl) ?_
  refine lv_iload_n hx hb dL_law_1463 rfl (lv_at hl 0 rfl) ?_
  refine lv_iconst (v := 3) hx hb dL_law_1464 (by decide) ?_
  refine lv_iadd hx hb dL_law_1465 ?_
  refine th_is (w := .int 3) (by decide) ?_
  refine va_sld hx hb hat.2.2.2.2.2.2.1 hat.2.2.2.2.2.2.2.1 (law_nb hat) hS.2.1 (i := 3) (by rw [hL]; exact vp_in_iff.mpr (by decide +kernel)) dL_law_1466 ?_
  refine th_is (w := .int (xs 3)) (congrArg (fun j => Value.int (xs j)) (by decide)) ?_
  refine th_goiH hS rfl (th_runV (As := [.int (xs 1), .int (xs 2), .int (xs 3)]) (rest := []) C hS.1 (RX11, TX11, 20) rfl gV_RL_125 hKx (t_X11_cover rfl rfl rfl FXh) hl rfl rfl rfl rfl ⟨Nat.le_of_ble_eq_true rfl, Nat.le_of_ble_eq_true rfl⟩ (Nat.le_of_ble_eq_true rfl) ⟨Nat.le_of_ble_eq_true rfl, Nat.le_of_ble_eq_true rfl⟩ dL_law_1467) (fun r5887 K5889 V5890 H locs1 hq5888 hE5891 hS => ?_)
  obtain ⟨hF5892, hr5893⟩ := hq5888
  have FM5894 := FM.moved FMh hE5891 (hF5892 _ FMh.1)
  refine lv_aload_n hx hb dL_law_1470 rfl (lv_at hl 1 rfl) ?_
  refine lv_aload_n hx hb dL_law_1471 rfl (lv_at hl 3 rfl) ?_
  refine lv_iload_n hx hb dL_law_1472 rfl (lv_at hl 0 rfl) ?_
  refine lv_iconst (v := 1) hx hb dL_law_1473 (by decide) ?_
  refine lv_iadd hx hb dL_law_1474 ?_
  refine th_is (w := .int 1) (by decide) ?_
  refine va_sld hx hb hat.2.2.2.2.2.2.1 hat.2.2.2.2.2.2.2.1 (law_nb hat) hS.2.1 (i := 1) (by rw [hL]; exact vp_in_iff.mpr (by decide +kernel)) dL_law_1475 ?_
  refine th_is (w := .int (xs 1)) (congrArg (fun j => Value.int (xs j)) (by decide)) ?_
  refine lv_aload_n hx hb dL_law_1476 rfl (lv_at hl 3 rfl) ?_
  refine lv_iload_n hx hb dL_law_1477 rfl (lv_at hl 0 rfl) ?_
  refine lv_iconst (v := 2) hx hb dL_law_1478 (by decide) ?_
  refine lv_iadd hx hb dL_law_1479 ?_
  refine th_is (w := .int 2) (by decide) ?_
  refine va_sld hx hb hat.2.2.2.2.2.2.1 hat.2.2.2.2.2.2.2.1 (law_nb hat) hS.2.1 (i := 2) (by rw [hL]; exact vp_in_iff.mpr (by decide +kernel)) dL_law_1480 ?_
  refine th_is (w := .int (xs 2)) (congrArg (fun j => Value.int (xs j)) (by decide)) ?_
  refine lv_aload_n hx hb dL_law_1481 rfl (lv_at hl 3 rfl) ?_
  refine lv_iload_n hx hb dL_law_1482 rfl (lv_at hl 0 rfl) ?_
  refine lv_iconst (v := 3) hx hb dL_law_1483 (by decide) ?_
  refine lv_iadd hx hb dL_law_1484 ?_
  refine th_is (w := .int 3) (by decide) ?_
  refine va_sld hx hb hat.2.2.2.2.2.2.1 hat.2.2.2.2.2.2.2.1 (law_nb hat) hS.2.1 (i := 3) (by rw [hL]; exact vp_in_iff.mpr (by decide +kernel)) dL_law_1485 ?_
  refine th_is (w := .int (xs 3)) (congrArg (fun j => Value.int (xs j)) (by decide)) ?_
  refine th_goiH hS rfl (th_runV (As := [.int (xs 1), .int (xs 2), .int (xs 3)]) (rest := [.int r5887]) C hS.1 (RX12, TX12, 151) rfl gV_RL_129 FM5894.1 (t_X12_cover rfl rfl rfl FM5894) hl rfl rfl rfl rfl ⟨Nat.le_of_ble_eq_true rfl, Nat.le_of_ble_eq_true rfl⟩ (Nat.le_of_ble_eq_true rfl) ⟨Nat.le_of_ble_eq_true rfl, Nat.le_of_ble_eq_true rfl⟩ dL_law_1486) (fun r5895 K5897 V5898 H locs1 hq5896 hE5899 hS => ?_)
  refine th_icmp_eq (X := r5887.toInt) (Y := r5895.toInt) (tgt := 2746) hx hb dL_law_1489 (by decide) rfl rfl (fun c5900 => ?_) (fun c5900 => absurd (by rcases hr5893 with ⟨_, b1⟩ | ⟨_, b1⟩ <;> rcases hq5896 with ⟨_, b2⟩ | ⟨_, b2⟩ <;> first | exact b1.trans b2.symm | (exfalso; omega)) c5900)
  exact law_next hat hKN (Nat.le_of_eq hL) hS (lv_sub hl [0, 3] rfl) (Nat.le_of_ble_eq_true rfl) (Nat.le_of_ble_eq_true rfl)

set_option maxHeartbeats 4000000 in
set_option maxRecDepth 100000 in
theorem law_case_26 {p : Program} {l : Launch} {e : Env} {s : State} {m : MethodId} {below : List Frame} {meth : Method} {c : Code} {b L : Nat} {xs : Nat → Int32} {D : va_G} {dA : Nat → ClassId} {K : Kmap} {V : Vmap} {H : Heap} {locs : List Loc} {ls : Array Slot} {x m0 : Nat} (hat : lw_At p s m meth c b L xs) (hKN : KN D dA s) (hL : L = 8) (hS : ST D dA kNone s.heap K V H locs) (FXh : FX K V x) (FMh : FM K V m0) (hl : lv_has ls 4 [(3, .int 0), (2, .ref m0), (1, .ref x), (0, .ref b)]) : W p l e room_1 s m #[Value.ref b] below meth c H locs 163 25899 (lw_Z below #[Value.ref b] s) (F0 m 1494 ls []) := by
  have hx := hat.1; have hb := hat.2.1
  have C := law_cx hat hKN
  have hKx : K x = some (0, 10) := FX.kind FXh
  refine lv_aload_n hx hb dL_law_1494 rfl (lv_at hl 2 rfl) ?_
  refine lv_aload_n hx hb dL_law_1495 rfl (lv_at hl 3 rfl) ?_
  refine lv_iload_n hx hb dL_law_1496 rfl (lv_at hl 0 rfl) ?_
  refine lv_iconst (v := 1) hx hb dL_law_1497 (by decide) ?_
  refine lv_iadd hx hb dL_law_1498 ?_
  refine th_is (w := .int 1) (by decide) ?_
  refine va_sld hx hb hat.2.2.2.2.2.2.1 hat.2.2.2.2.2.2.2.1 (law_nb hat) hS.2.1 (i := 1) (by rw [hL]; exact vp_in_iff.mpr (by decide +kernel)) dL_law_1499 ?_
  refine th_is (w := .int (xs 1)) (congrArg (fun j => Value.int (xs j)) (by decide)) ?_
  refine lv_aload_n hx hb dL_law_1500 rfl (lv_at hl 3 rfl) ?_
  refine lv_iload_n hx hb dL_law_1501 rfl (lv_at hl 0 rfl) ?_
  refine lv_iconst (v := 2) hx hb dL_law_1502 (by decide) ?_
  refine lv_iadd hx hb dL_law_1503 ?_
  refine th_is (w := .int 2) (by decide) ?_
  refine va_sld hx hb hat.2.2.2.2.2.2.1 hat.2.2.2.2.2.2.2.1 (law_nb hat) hS.2.1 (i := 2) (by rw [hL]; exact vp_in_iff.mpr (by decide +kernel)) dL_law_1504 ?_
  refine th_is (w := .int (xs 2)) (congrArg (fun j => Value.int (xs j)) (by decide)) ?_
  refine th_goiH hS rfl (th_runV (As := [.int (xs 1), .int (xs 2)]) (rest := []) C hS.1 (RX11, TX11, 20) rfl gV_RL_130 hKx (t_X11_sea rfl rfl FXh) hl rfl rfl rfl rfl ⟨Nat.le_of_ble_eq_true rfl, Nat.le_of_ble_eq_true rfl⟩ (Nat.le_of_ble_eq_true rfl) ⟨Nat.le_of_ble_eq_true rfl, Nat.le_of_ble_eq_true rfl⟩ dL_law_1505) (fun r5901 K5903 V5904 H locs1 hq5902 hE5905 hS => ?_)
  obtain ⟨hF5906, hr5907⟩ := hq5902
  have FM5908 := FM.moved FMh hE5905 (hF5906 _ FMh.1)
  refine lv_aload_n hx hb dL_law_1508 rfl (lv_at hl 1 rfl) ?_
  refine lv_aload_n hx hb dL_law_1509 rfl (lv_at hl 3 rfl) ?_
  refine lv_iload_n hx hb dL_law_1510 rfl (lv_at hl 0 rfl) ?_
  refine lv_iconst (v := 1) hx hb dL_law_1511 (by decide) ?_
  refine lv_iadd hx hb dL_law_1512 ?_
  refine th_is (w := .int 1) (by decide) ?_
  refine va_sld hx hb hat.2.2.2.2.2.2.1 hat.2.2.2.2.2.2.2.1 (law_nb hat) hS.2.1 (i := 1) (by rw [hL]; exact vp_in_iff.mpr (by decide +kernel)) dL_law_1513 ?_
  refine th_is (w := .int (xs 1)) (congrArg (fun j => Value.int (xs j)) (by decide)) ?_
  refine lv_aload_n hx hb dL_law_1514 rfl (lv_at hl 3 rfl) ?_
  refine lv_iload_n hx hb dL_law_1515 rfl (lv_at hl 0 rfl) ?_
  refine lv_iconst (v := 2) hx hb dL_law_1516 (by decide) ?_
  refine lv_iadd hx hb dL_law_1517 ?_
  refine th_is (w := .int 2) (by decide) ?_
  refine va_sld hx hb hat.2.2.2.2.2.2.1 hat.2.2.2.2.2.2.2.1 (law_nb hat) hS.2.1 (i := 2) (by rw [hL]; exact vp_in_iff.mpr (by decide +kernel)) dL_law_1518 ?_
  refine th_is (w := .int (xs 2)) (congrArg (fun j => Value.int (xs j)) (by decide)) ?_
  refine th_goiH hS rfl (th_runV (As := [.int (xs 1), .int (xs 2)]) (rest := [.int r5901]) C hS.1 (RX12, TX12, 151) rfl gV_RL_133 FM5908.1 (t_X12_sea rfl rfl FM5908) hl rfl rfl rfl rfl ⟨Nat.le_of_ble_eq_true rfl, Nat.le_of_ble_eq_true rfl⟩ (Nat.le_of_ble_eq_true rfl) ⟨Nat.le_of_ble_eq_true rfl, Nat.le_of_ble_eq_true rfl⟩ dL_law_1519) (fun r5909 K5911 V5912 H locs1 hq5910 hE5913 hS => ?_)
  refine th_icmp_eq (X := r5901.toInt) (Y := r5909.toInt) (tgt := 2746) hx hb dL_law_1522 (by decide) rfl rfl (fun c5914 => ?_) (fun c5914 => absurd (by rcases hr5907 with ⟨_, b1⟩ | ⟨_, b1⟩ <;> rcases hq5910 with ⟨_, b2⟩ | ⟨_, b2⟩ <;> first | exact b1.trans b2.symm | (exfalso; omega)) c5914)
  exact law_next hat hKN (Nat.le_of_eq hL) hS (lv_sub hl [0, 3] rfl) (Nat.le_of_ble_eq_true rfl) (Nat.le_of_ble_eq_true rfl)

set_option maxHeartbeats 4000000 in
set_option maxRecDepth 100000 in
theorem law_case_27 {p : Program} {l : Launch} {e : Env} {s : State} {m : MethodId} {below : List Frame} {meth : Method} {c : Code} {b L : Nat} {xs : Nat → Int32} {D : va_G} {dA : Nat → ClassId} {K : Kmap} {V : Vmap} {H : Heap} {locs : List Loc} {ls : Array Slot} {x m0 : Nat} (hat : lw_At p s m meth c b L xs) (hKN : KN D dA s) (hL : L = 8) (hS : ST D dA kNone s.heap K V H locs) (FXh : FX K V x) (FMh : FM K V m0) (hl : lv_has ls 4 [(3, .int 0), (2, .ref m0), (1, .ref x), (0, .ref b)]) : W p l e room_1 s m #[Value.ref b] below meth c H locs 163 25899 (lw_Z below #[Value.ref b] s) (F0 m 1527 ls []) := by
  have hx := hat.1; have hb := hat.2.1
  have C := law_cx hat hKN
  have hKx : K x = some (0, 10) := FX.kind FXh
  refine lv_aload_n hx hb dL_law_1527 rfl (lv_at hl 2 rfl) ?_
  refine lv_aload_n hx hb dL_law_1528 rfl (lv_at hl 3 rfl) ?_
  refine lv_iload_n hx hb dL_law_1529 rfl (lv_at hl 0 rfl) ?_
  refine lv_iconst (v := 1) hx hb dL_law_1530 (by decide) ?_
  refine lv_iadd hx hb dL_law_1531 ?_
  refine th_is (w := .int 1) (by decide) ?_
  refine va_sld hx hb hat.2.2.2.2.2.2.1 hat.2.2.2.2.2.2.2.1 (law_nb hat) hS.2.1 (i := 1) (by rw [hL]; exact vp_in_iff.mpr (by decide +kernel)) dL_law_1532 ?_
  refine th_is (w := .int (xs 1)) (congrArg (fun j => Value.int (xs j)) (by decide)) ?_
  refine lv_aload_n hx hb dL_law_1533 rfl (lv_at hl 3 rfl) ?_
  refine lv_iload_n hx hb dL_law_1534 rfl (lv_at hl 0 rfl) ?_
  refine lv_iconst (v := 2) hx hb dL_law_1535 (by decide) ?_
  refine lv_iadd hx hb dL_law_1536 ?_
  refine th_is (w := .int 2) (by decide) ?_
  refine va_sld hx hb hat.2.2.2.2.2.2.1 hat.2.2.2.2.2.2.2.1 (law_nb hat) hS.2.1 (i := 2) (by rw [hL]; exact vp_in_iff.mpr (by decide +kernel)) dL_law_1537 ?_
  refine th_is (w := .int (xs 2)) (congrArg (fun j => Value.int (xs j)) (by decide)) ?_
  refine lv_aload_n hx hb dL_law_1538 rfl (lv_at hl 3 rfl) ?_
  refine lv_iload_n hx hb dL_law_1539 rfl (lv_at hl 0 rfl) ?_
  refine lv_iconst (v := 3) hx hb dL_law_1540 (by decide) ?_
  refine lv_iadd hx hb dL_law_1541 ?_
  refine th_is (w := .int 3) (by decide) ?_
  refine va_sld hx hb hat.2.2.2.2.2.2.1 hat.2.2.2.2.2.2.2.1 (law_nb hat) hS.2.1 (i := 3) (by rw [hL]; exact vp_in_iff.mpr (by decide +kernel)) dL_law_1542 ?_
  refine th_is (w := .int (xs 3)) (congrArg (fun j => Value.int (xs j)) (by decide)) ?_
  refine lv_aload_n hx hb dL_law_1543 rfl (lv_at hl 3 rfl) ?_
  refine lv_iload_n hx hb dL_law_1544 rfl (lv_at hl 0 rfl) ?_
  refine lv_iconst (v := 4) hx hb dL_law_1545 (by decide) ?_
  refine lv_iadd hx hb dL_law_1546 ?_
  refine th_is (w := .int 4) (by decide) ?_
  refine va_sld hx hb hat.2.2.2.2.2.2.1 hat.2.2.2.2.2.2.2.1 (law_nb hat) hS.2.1 (i := 4) (by rw [hL]; exact vp_in_iff.mpr (by decide +kernel)) dL_law_1547 ?_
  refine th_is (w := .int (xs 4)) (congrArg (fun j => Value.int (xs j)) (by decide)) ?_
  refine th_goi (th_runV (As := [.int (xs 1), .int (xs 2), .int (xs 3), .int (xs 4)]) (rest := []) C hS.1 (RX11, TX11, 20) rfl gV_RL_134 hKx (t_X11_voyage rfl rfl rfl rfl FXh) hl rfl rfl rfl rfl ⟨Nat.le_of_ble_eq_true rfl, Nat.le_of_ble_eq_true rfl⟩ (Nat.le_of_ble_eq_true rfl) ⟨Nat.le_of_ble_eq_true rfl, Nat.le_of_ble_eq_true rfl⟩ dL_law_1548) (fun r5915 hq5916 => ?_)
  refine lv_aload_n hx hb dL_law_1551 rfl (lv_at hl 1 rfl) ?_
  refine lv_aload_n hx hb dL_law_1552 rfl (lv_at hl 3 rfl) ?_
  refine lv_iload_n hx hb dL_law_1553 rfl (lv_at hl 0 rfl) ?_
  refine lv_iconst (v := 1) hx hb dL_law_1554 (by decide) ?_
  refine lv_iadd hx hb dL_law_1555 ?_
  refine th_is (w := .int 1) (by decide) ?_
  refine va_sld hx hb hat.2.2.2.2.2.2.1 hat.2.2.2.2.2.2.2.1 (law_nb hat) hS.2.1 (i := 1) (by rw [hL]; exact vp_in_iff.mpr (by decide +kernel)) dL_law_1556 ?_
  refine th_is (w := .int (xs 1)) (congrArg (fun j => Value.int (xs j)) (by decide)) ?_
  refine lv_aload_n hx hb dL_law_1557 rfl (lv_at hl 3 rfl) ?_
  refine lv_iload_n hx hb dL_law_1558 rfl (lv_at hl 0 rfl) ?_
  refine lv_iconst (v := 2) hx hb dL_law_1559 (by decide) ?_
  refine lv_iadd hx hb dL_law_1560 ?_
  refine th_is (w := .int 2) (by decide) ?_
  refine va_sld hx hb hat.2.2.2.2.2.2.1 hat.2.2.2.2.2.2.2.1 (law_nb hat) hS.2.1 (i := 2) (by rw [hL]; exact vp_in_iff.mpr (by decide +kernel)) dL_law_1561 ?_
  refine th_is (w := .int (xs 2)) (congrArg (fun j => Value.int (xs j)) (by decide)) ?_
  refine lv_aload_n hx hb dL_law_1562 rfl (lv_at hl 3 rfl) ?_
  refine lv_iload_n hx hb dL_law_1563 rfl (lv_at hl 0 rfl) ?_
  refine lv_iconst (v := 3) hx hb dL_law_1564 (by decide) ?_
  refine lv_iadd hx hb dL_law_1565 ?_
  refine th_is (w := .int 3) (by decide) ?_
  refine va_sld hx hb hat.2.2.2.2.2.2.1 hat.2.2.2.2.2.2.2.1 (law_nb hat) hS.2.1 (i := 3) (by rw [hL]; exact vp_in_iff.mpr (by decide +kernel)) dL_law_1566 ?_
  refine th_is (w := .int (xs 3)) (congrArg (fun j => Value.int (xs j)) (by decide)) ?_
  refine lv_aload_n hx hb dL_law_1567 rfl (lv_at hl 3 rfl) ?_
  refine lv_iload_n hx hb dL_law_1568 rfl (lv_at hl 0 rfl) ?_
  refine lv_iconst (v := 4) hx hb dL_law_1569 (by decide) ?_
  refine lv_iadd hx hb dL_law_1570 ?_
  refine th_is (w := .int 4) (by decide) ?_
  refine va_sld hx hb hat.2.2.2.2.2.2.1 hat.2.2.2.2.2.2.2.1 (law_nb hat) hS.2.1 (i := 4) (by rw [hL]; exact vp_in_iff.mpr (by decide +kernel)) dL_law_1571 ?_
  refine th_is (w := .int (xs 4)) (congrArg (fun j => Value.int (xs j)) (by decide)) ?_
  refine th_goi (th_runV (As := [.int (xs 1), .int (xs 2), .int (xs 3), .int (xs 4)]) (rest := [.int r5915]) C hS.1 (RX12, TX12, 151) rfl gV_RL_138 FMh.1 (t_X12_voyage rfl rfl rfl rfl FMh) hl rfl rfl rfl rfl ⟨Nat.le_of_ble_eq_true rfl, Nat.le_of_ble_eq_true rfl⟩ (Nat.le_of_ble_eq_true rfl) ⟨Nat.le_of_ble_eq_true rfl, Nat.le_of_ble_eq_true rfl⟩ dL_law_1572) (fun r5917 hq5918 => ?_)
  refine th_icmp_eq (X := r5915.toInt) (Y := r5917.toInt) (tgt := 2746) hx hb dL_law_1575 (by decide) rfl rfl (fun c5919 => ?_) (fun c5919 => absurd (by omega) c5919)
  exact law_next hat hKN (Nat.le_of_eq hL) hS (lv_sub hl [0, 3] rfl) (Nat.le_of_ble_eq_true rfl) (Nat.le_of_ble_eq_true rfl)

set_option maxHeartbeats 4000000 in
set_option maxRecDepth 100000 in
theorem law_case_28 {p : Program} {l : Launch} {e : Env} {s : State} {m : MethodId} {below : List Frame} {meth : Method} {c : Code} {b L : Nat} {xs : Nat → Int32} {D : va_G} {dA : Nat → ClassId} {K : Kmap} {V : Vmap} {H : Heap} {locs : List Loc} {ls : Array Slot} {x m0 : Nat} (hat : lw_At p s m meth c b L xs) (hKN : KN D dA s) (hL : L = 8) (hS : ST D dA kNone s.heap K V H locs) (FXh : FX K V x) (FMh : FM K V m0) (hl : lv_has ls 4 [(3, .int 0), (2, .ref m0), (1, .ref x), (0, .ref b)]) : W p l e room_1 s m #[Value.ref b] below meth c H locs 163 25899 (lw_Z below #[Value.ref b] s) (F0 m 1580 ls []) := by
  have hx := hat.1; have hb := hat.2.1
  have C := law_cx hat hKN
  have hKx : K x = some (0, 10) := FX.kind FXh
  refine lv_aload_n hx hb dL_law_1580 rfl (lv_at hl 2 rfl) ?_
  refine lv_aload_n hx hb dL_law_1581 rfl (lv_at hl 3 rfl) ?_
  refine lv_iload_n hx hb dL_law_1582 rfl (lv_at hl 0 rfl) ?_
  refine lv_iconst (v := 1) hx hb dL_law_1583 (by decide) ?_
  refine lv_iadd hx hb dL_law_1584 ?_
  refine th_is (w := .int 1) (by decide) ?_
  refine va_sld hx hb hat.2.2.2.2.2.2.1 hat.2.2.2.2.2.2.2.1 (law_nb hat) hS.2.1 (i := 1) (by rw [hL]; exact vp_in_iff.mpr (by decide +kernel)) dL_law_1585 ?_
  refine th_is (w := .int (xs 1)) (congrArg (fun j => Value.int (xs j)) (by decide)) ?_
  refine lv_aload_n hx hb dL_law_1586 rfl (lv_at hl 3 rfl) ?_
  refine lv_iload_n hx hb dL_law_1587 rfl (lv_at hl 0 rfl) ?_
  refine lv_iconst (v := 2) hx hb dL_law_1588 (by decide) ?_
  refine lv_iadd hx hb dL_law_1589 ?_
  refine th_is (w := .int 2) (by decide) ?_
  refine va_sld hx hb hat.2.2.2.2.2.2.1 hat.2.2.2.2.2.2.2.1 (law_nb hat) hS.2.1 (i := 2) (by rw [hL]; exact vp_in_iff.mpr (by decide +kernel)) dL_law_1590 ?_
  refine th_is (w := .int (xs 2)) (congrArg (fun j => Value.int (xs j)) (by decide)) ?_
  refine lv_aload_n hx hb dL_law_1591 rfl (lv_at hl 3 rfl) ?_
  refine lv_iload_n hx hb dL_law_1592 rfl (lv_at hl 0 rfl) ?_
  refine lv_iconst (v := 3) hx hb dL_law_1593 (by decide) ?_
  refine lv_iadd hx hb dL_law_1594 ?_
  refine th_is (w := .int 3) (by decide) ?_
  refine va_sld hx hb hat.2.2.2.2.2.2.1 hat.2.2.2.2.2.2.2.1 (law_nb hat) hS.2.1 (i := 3) (by rw [hL]; exact vp_in_iff.mpr (by decide +kernel)) dL_law_1595 ?_
  refine th_is (w := .int (xs 3)) (congrArg (fun j => Value.int (xs j)) (by decide)) ?_
  refine th_goi (th_runV (As := [.int (xs 1), .int (xs 2), .int (xs 3)]) (rest := []) C hS.1 (RX11, TX11, 20) rfl gV_RL_139 hKx (t_X11_sledge rfl rfl rfl FXh) hl rfl rfl rfl rfl ⟨Nat.le_of_ble_eq_true rfl, Nat.le_of_ble_eq_true rfl⟩ (Nat.le_of_ble_eq_true rfl) ⟨Nat.le_of_ble_eq_true rfl, Nat.le_of_ble_eq_true rfl⟩ dL_law_1596) (fun r5920 hq5921 => ?_)
  refine lv_aload_n hx hb dL_law_1599 rfl (lv_at hl 1 rfl) ?_
  refine lv_aload_n hx hb dL_law_1600 rfl (lv_at hl 3 rfl) ?_
  refine lv_iload_n hx hb dL_law_1601 rfl (lv_at hl 0 rfl) ?_
  refine lv_iconst (v := 1) hx hb dL_law_1602 (by decide) ?_
  refine lv_iadd hx hb dL_law_1603 ?_
  refine th_is (w := .int 1) (by decide) ?_
  refine va_sld hx hb hat.2.2.2.2.2.2.1 hat.2.2.2.2.2.2.2.1 (law_nb hat) hS.2.1 (i := 1) (by rw [hL]; exact vp_in_iff.mpr (by decide +kernel)) dL_law_1604 ?_
  refine th_is (w := .int (xs 1)) (congrArg (fun j => Value.int (xs j)) (by decide)) ?_
  refine lv_aload_n hx hb dL_law_1605 rfl (lv_at hl 3 rfl) ?_
  refine lv_iload_n hx hb dL_law_1606 rfl (lv_at hl 0 rfl) ?_
  refine lv_iconst (v := 2) hx hb dL_law_1607 (by decide) ?_
  refine lv_iadd hx hb dL_law_1608 ?_
  refine th_is (w := .int 2) (by decide) ?_
  refine va_sld hx hb hat.2.2.2.2.2.2.1 hat.2.2.2.2.2.2.2.1 (law_nb hat) hS.2.1 (i := 2) (by rw [hL]; exact vp_in_iff.mpr (by decide +kernel)) dL_law_1609 ?_
  refine th_is (w := .int (xs 2)) (congrArg (fun j => Value.int (xs j)) (by decide)) ?_
  refine lv_aload_n hx hb dL_law_1610 rfl (lv_at hl 3 rfl) ?_
  refine lv_iload_n hx hb dL_law_1611 rfl (lv_at hl 0 rfl) ?_
  refine lv_iconst (v := 3) hx hb dL_law_1612 (by decide) ?_
  refine lv_iadd hx hb dL_law_1613 ?_
  refine th_is (w := .int 3) (by decide) ?_
  refine va_sld hx hb hat.2.2.2.2.2.2.1 hat.2.2.2.2.2.2.2.1 (law_nb hat) hS.2.1 (i := 3) (by rw [hL]; exact vp_in_iff.mpr (by decide +kernel)) dL_law_1614 ?_
  refine th_is (w := .int (xs 3)) (congrArg (fun j => Value.int (xs j)) (by decide)) ?_
  refine th_goi (th_runV (As := [.int (xs 1), .int (xs 2), .int (xs 3)]) (rest := [.int r5920]) C hS.1 (RX12, TX12, 151) rfl gV_RL_142 FMh.1 (t_X12_sledge rfl rfl rfl FMh) hl rfl rfl rfl rfl ⟨Nat.le_of_ble_eq_true rfl, Nat.le_of_ble_eq_true rfl⟩ (Nat.le_of_ble_eq_true rfl) ⟨Nat.le_of_ble_eq_true rfl, Nat.le_of_ble_eq_true rfl⟩ dL_law_1615) (fun r5922 hq5923 => ?_)
  refine th_icmp_eq (X := r5920.toInt) (Y := r5922.toInt) (tgt := 2746) hx hb dL_law_1618 (by decide) rfl rfl (fun c5924 => ?_) (fun c5924 => absurd (by omega) c5924)
  exact law_next hat hKN (Nat.le_of_eq hL) hS (lv_sub hl [0, 3] rfl) (Nat.le_of_ble_eq_true rfl) (Nat.le_of_ble_eq_true rfl)

set_option maxHeartbeats 4000000 in
set_option maxRecDepth 100000 in
theorem law_case_29 {p : Program} {l : Launch} {e : Env} {s : State} {m : MethodId} {below : List Frame} {meth : Method} {c : Code} {b L : Nat} {xs : Nat → Int32} {D : va_G} {dA : Nat → ClassId} {K : Kmap} {V : Vmap} {H : Heap} {locs : List Loc} {ls : Array Slot} {x m0 : Nat} (hat : lw_At p s m meth c b L xs) (hKN : KN D dA s) (hL : L = 8) (hS : ST D dA kNone s.heap K V H locs) (FXh : FX K V x) (FMh : FM K V m0) (hl : lv_has ls 4 [(3, .int 0), (2, .ref m0), (1, .ref x), (0, .ref b)]) : W p l e room_1 s m #[Value.ref b] below meth c H locs 163 25899 (lw_Z below #[Value.ref b] s) (F0 m 1623 ls []) := by
  have hx := hat.1; have hb := hat.2.1
  have C := law_cx hat hKN
  have hKx : K x = some (0, 10) := FX.kind FXh
  refine lv_aload_n hx hb dL_law_1623 rfl (lv_at hl 2 rfl) ?_
  refine lv_aload_n hx hb dL_law_1624 rfl (lv_at hl 3 rfl) ?_
  refine lv_iload_n hx hb dL_law_1625 rfl (lv_at hl 0 rfl) ?_
  refine lv_iconst (v := 1) hx hb dL_law_1626 (by decide) ?_
  refine lv_iadd hx hb dL_law_1627 ?_
  refine th_is (w := .int 1) (by decide) ?_
  refine va_sld hx hb hat.2.2.2.2.2.2.1 hat.2.2.2.2.2.2.2.1 (law_nb hat) hS.2.1 (i := 1) (by rw [hL]; exact vp_in_iff.mpr (by decide +kernel)) dL_law_1628 ?_
  refine th_is (w := .int (xs 1)) (congrArg (fun j => Value.int (xs j)) (by decide)) ?_
  refine lv_aload_n hx hb dL_law_1629 rfl (lv_at hl 3 rfl) ?_
  refine lv_iload_n hx hb dL_law_1630 rfl (lv_at hl 0 rfl) ?_
  refine lv_iconst (v := 2) hx hb dL_law_1631 (by decide) ?_
  refine lv_iadd hx hb dL_law_1632 ?_
  refine th_is (w := .int 2) (by decide) ?_
  refine va_sld hx hb hat.2.2.2.2.2.2.1 hat.2.2.2.2.2.2.2.1 (law_nb hat) hS.2.1 (i := 2) (by rw [hL]; exact vp_in_iff.mpr (by decide +kernel)) dL_law_1633 ?_
  refine th_is (w := .int (xs 2)) (congrArg (fun j => Value.int (xs j)) (by decide)) ?_
  refine th_goi (th_runV (As := [.int (xs 1), .int (xs 2)]) (rest := []) C hS.1 (RX11, TX11, 20) rfl gV_RL_143 hKx (t_X11_people rfl rfl FXh) hl rfl rfl rfl rfl ⟨Nat.le_of_ble_eq_true rfl, Nat.le_of_ble_eq_true rfl⟩ (Nat.le_of_ble_eq_true rfl) ⟨Nat.le_of_ble_eq_true rfl, Nat.le_of_ble_eq_true rfl⟩ dL_law_1634) (fun r5925 hq5926 => ?_)
  refine lv_aload_n hx hb dL_law_1637 rfl (lv_at hl 1 rfl) ?_
  refine lv_aload_n hx hb dL_law_1638 rfl (lv_at hl 3 rfl) ?_
  refine lv_iload_n hx hb dL_law_1639 rfl (lv_at hl 0 rfl) ?_
  refine lv_iconst (v := 1) hx hb dL_law_1640 (by decide) ?_
  refine lv_iadd hx hb dL_law_1641 ?_
  refine th_is (w := .int 1) (by decide) ?_
  refine va_sld hx hb hat.2.2.2.2.2.2.1 hat.2.2.2.2.2.2.2.1 (law_nb hat) hS.2.1 (i := 1) (by rw [hL]; exact vp_in_iff.mpr (by decide +kernel)) dL_law_1642 ?_
  refine th_is (w := .int (xs 1)) (congrArg (fun j => Value.int (xs j)) (by decide)) ?_
  refine lv_aload_n hx hb dL_law_1643 rfl (lv_at hl 3 rfl) ?_
  refine lv_iload_n hx hb dL_law_1644 rfl (lv_at hl 0 rfl) ?_
  refine lv_iconst (v := 2) hx hb dL_law_1645 (by decide) ?_
  refine lv_iadd hx hb dL_law_1646 ?_
  refine th_is (w := .int 2) (by decide) ?_
  refine va_sld hx hb hat.2.2.2.2.2.2.1 hat.2.2.2.2.2.2.2.1 (law_nb hat) hS.2.1 (i := 2) (by rw [hL]; exact vp_in_iff.mpr (by decide +kernel)) dL_law_1647 ?_
  refine th_is (w := .int (xs 2)) (congrArg (fun j => Value.int (xs j)) (by decide)) ?_
  refine th_goi (th_runV (As := [.int (xs 1), .int (xs 2)]) (rest := [.int r5925]) C hS.1 (RX12, TX12, 151) rfl gV_RL_146 FMh.1 (t_X12_people rfl rfl FMh) hl rfl rfl rfl rfl ⟨Nat.le_of_ble_eq_true rfl, Nat.le_of_ble_eq_true rfl⟩ (Nat.le_of_ble_eq_true rfl) ⟨Nat.le_of_ble_eq_true rfl, Nat.le_of_ble_eq_true rfl⟩ dL_law_1648) (fun r5927 hq5928 => ?_)
  refine th_icmp_eq (X := r5925.toInt) (Y := r5927.toInt) (tgt := 2746) hx hb dL_law_1651 (by decide) rfl rfl (fun c5929 => ?_) (fun c5929 => absurd (by omega) c5929)
  exact law_next hat hKN (Nat.le_of_eq hL) hS (lv_sub hl [0, 3] rfl) (Nat.le_of_ble_eq_true rfl) (Nat.le_of_ble_eq_true rfl)

set_option maxHeartbeats 4000000 in
set_option maxRecDepth 100000 in
theorem law_case_30 {p : Program} {l : Launch} {e : Env} {s : State} {m : MethodId} {below : List Frame} {meth : Method} {c : Code} {b L : Nat} {xs : Nat → Int32} {D : va_G} {dA : Nat → ClassId} {K : Kmap} {V : Vmap} {H : Heap} {locs : List Loc} {ls : Array Slot} {x m0 : Nat} (hat : lw_At p s m meth c b L xs) (hKN : KN D dA s) (hL : L = 8) (hS : ST D dA kNone s.heap K V H locs) (FXh : FX K V x) (FMh : FM K V m0) (hl : lv_has ls 4 [(3, .int 0), (2, .ref m0), (1, .ref x), (0, .ref b)]) : W p l e room_1 s m #[Value.ref b] below meth c H locs 163 25899 (lw_Z below #[Value.ref b] s) (F0 m 1656 ls []) := by
  have hx := hat.1; have hb := hat.2.1
  have C := law_cx hat hKN
  have hKx : K x = some (0, 10) := FX.kind FXh
  refine lv_aload_n hx hb dL_law_1656 rfl (lv_at hl 2 rfl) ?_
  refine lv_aload_n hx hb dL_law_1657 rfl (lv_at hl 3 rfl) ?_
  refine lv_iload_n hx hb dL_law_1658 rfl (lv_at hl 0 rfl) ?_
  refine lv_iconst (v := 1) hx hb dL_law_1659 (by decide) ?_
  refine lv_iadd hx hb dL_law_1660 ?_
  refine th_is (w := .int 1) (by decide) ?_
  refine va_sld hx hb hat.2.2.2.2.2.2.1 hat.2.2.2.2.2.2.2.1 (law_nb hat) hS.2.1 (i := 1) (by rw [hL]; exact vp_in_iff.mpr (by decide +kernel)) dL_law_1661 ?_
  refine th_is (w := .int (xs 1)) (congrArg (fun j => Value.int (xs j)) (by decide)) ?_
  refine lv_aload_n hx hb dL_law_1662 rfl (lv_at hl 3 rfl) ?_
  refine lv_iload_n hx hb dL_law_1663 rfl (lv_at hl 0 rfl) ?_
  refine lv_iconst (v := 2) hx hb dL_law_1664 (by decide) ?_
  refine lv_iadd hx hb dL_law_1665 ?_
  refine th_is (w := .int 2) (by decide) ?_
  refine va_sld hx hb hat.2.2.2.2.2.2.1 hat.2.2.2.2.2.2.2.1 (law_nb hat) hS.2.1 (i := 2) (by rw [hL]; exact vp_in_iff.mpr (by decide +kernel)) dL_law_1666 ?_
  refine th_is (w := .int (xs 2)) (congrArg (fun j => Value.int (xs j)) (by decide)) ?_
  refine th_goi (th_runV (As := [.int (xs 1), .int (xs 2)]) (rest := []) C hS.1 (RX11, TX11, 20) rfl gV_RL_147 hKx (t_X11_hide rfl rfl FXh) hl rfl rfl rfl rfl ⟨Nat.le_of_ble_eq_true rfl, Nat.le_of_ble_eq_true rfl⟩ (Nat.le_of_ble_eq_true rfl) ⟨Nat.le_of_ble_eq_true rfl, Nat.le_of_ble_eq_true rfl⟩ dL_law_1667) (fun r5930 hq5931 => ?_)
  refine lv_aload_n hx hb dL_law_1670 rfl (lv_at hl 1 rfl) ?_
  refine lv_aload_n hx hb dL_law_1671 rfl (lv_at hl 3 rfl) ?_
  refine lv_iload_n hx hb dL_law_1672 rfl (lv_at hl 0 rfl) ?_
  refine lv_iconst (v := 1) hx hb dL_law_1673 (by decide) ?_
  refine lv_iadd hx hb dL_law_1674 ?_
  refine th_is (w := .int 1) (by decide) ?_
  refine va_sld hx hb hat.2.2.2.2.2.2.1 hat.2.2.2.2.2.2.2.1 (law_nb hat) hS.2.1 (i := 1) (by rw [hL]; exact vp_in_iff.mpr (by decide +kernel)) dL_law_1675 ?_
  refine th_is (w := .int (xs 1)) (congrArg (fun j => Value.int (xs j)) (by decide)) ?_
  refine lv_aload_n hx hb dL_law_1676 rfl (lv_at hl 3 rfl) ?_
  refine lv_iload_n hx hb dL_law_1677 rfl (lv_at hl 0 rfl) ?_
  refine lv_iconst (v := 2) hx hb dL_law_1678 (by decide) ?_
  refine lv_iadd hx hb dL_law_1679 ?_
  refine th_is (w := .int 2) (by decide) ?_
  refine va_sld hx hb hat.2.2.2.2.2.2.1 hat.2.2.2.2.2.2.2.1 (law_nb hat) hS.2.1 (i := 2) (by rw [hL]; exact vp_in_iff.mpr (by decide +kernel)) dL_law_1680 ?_
  refine th_is (w := .int (xs 2)) (congrArg (fun j => Value.int (xs j)) (by decide)) ?_
  refine th_goi (th_runV (As := [.int (xs 1), .int (xs 2)]) (rest := [.int r5930]) C hS.1 (RX12, TX12, 151) rfl gV_RL_150 FMh.1 (t_X12_hide rfl rfl FMh) hl rfl rfl rfl rfl ⟨Nat.le_of_ble_eq_true rfl, Nat.le_of_ble_eq_true rfl⟩ (Nat.le_of_ble_eq_true rfl) ⟨Nat.le_of_ble_eq_true rfl, Nat.le_of_ble_eq_true rfl⟩ dL_law_1681) (fun r5932 hq5933 => ?_)
  refine th_icmp_eq (X := r5930.toInt) (Y := r5932.toInt) (tgt := 2746) hx hb dL_law_1684 (by decide) rfl rfl (fun c5934 => ?_) (fun c5934 => absurd (by omega) c5934)
  exact law_next hat hKN (Nat.le_of_eq hL) hS (lv_sub hl [0, 3] rfl) (Nat.le_of_ble_eq_true rfl) (Nat.le_of_ble_eq_true rfl)

set_option maxHeartbeats 4000000 in
set_option maxRecDepth 100000 in
theorem law_case_31 {p : Program} {l : Launch} {e : Env} {s : State} {m : MethodId} {below : List Frame} {meth : Method} {c : Code} {b L : Nat} {xs : Nat → Int32} {D : va_G} {dA : Nat → ClassId} {K : Kmap} {V : Vmap} {H : Heap} {locs : List Loc} {ls : Array Slot} {x m0 : Nat} (hat : lw_At p s m meth c b L xs) (hKN : KN D dA s) (hL : L = 8) (hS : ST D dA kNone s.heap K V H locs) (FXh : FX K V x) (FMh : FM K V m0) (hl : lv_has ls 4 [(3, .int 0), (2, .ref m0), (1, .ref x), (0, .ref b)]) : W p l e room_1 s m #[Value.ref b] below meth c H locs 163 25899 (lw_Z below #[Value.ref b] s) (F0 m 1689 ls []) := by
  have hx := hat.1; have hb := hat.2.1
  have C := law_cx hat hKN
  have hKx : K x = some (0, 10) := FX.kind FXh
  refine lv_aload_n hx hb dL_law_1689 rfl (lv_at hl 2 rfl) ?_
  refine lv_aload_n hx hb dL_law_1690 rfl (lv_at hl 3 rfl) ?_
  refine lv_iload_n hx hb dL_law_1691 rfl (lv_at hl 0 rfl) ?_
  refine lv_iconst (v := 1) hx hb dL_law_1692 (by decide) ?_
  refine lv_iadd hx hb dL_law_1693 ?_
  refine th_is (w := .int 1) (by decide) ?_
  refine va_sld hx hb hat.2.2.2.2.2.2.1 hat.2.2.2.2.2.2.2.1 (law_nb hat) hS.2.1 (i := 1) (by rw [hL]; exact vp_in_iff.mpr (by decide +kernel)) dL_law_1694 ?_
  refine th_is (w := .int (xs 1)) (congrArg (fun j => Value.int (xs j)) (by decide)) ?_
  refine lv_aload_n hx hb dL_law_1695 rfl (lv_at hl 3 rfl) ?_
  refine lv_iload_n hx hb dL_law_1696 rfl (lv_at hl 0 rfl) ?_
  refine lv_iconst (v := 2) hx hb dL_law_1697 (by decide) ?_
  refine lv_iadd hx hb dL_law_1698 ?_
  refine th_is (w := .int 2) (by decide) ?_
  refine va_sld hx hb hat.2.2.2.2.2.2.1 hat.2.2.2.2.2.2.2.1 (law_nb hat) hS.2.1 (i := 2) (by rw [hL]; exact vp_in_iff.mpr (by decide +kernel)) dL_law_1699 ?_
  refine th_is (w := .int (xs 2)) (congrArg (fun j => Value.int (xs j)) (by decide)) ?_
  refine lv_aload_n hx hb dL_law_1700 rfl (lv_at hl 3 rfl) ?_
  refine lv_iload_n hx hb dL_law_1701 rfl (lv_at hl 0 rfl) ?_
  refine lv_iconst (v := 3) hx hb dL_law_1702 (by decide) ?_
  refine lv_iadd hx hb dL_law_1703 ?_
  refine th_is (w := .int 3) (by decide) ?_
  refine va_sld hx hb hat.2.2.2.2.2.2.1 hat.2.2.2.2.2.2.2.1 (law_nb hat) hS.2.1 (i := 3) (by rw [hL]; exact vp_in_iff.mpr (by decide +kernel)) dL_law_1704 ?_
  refine th_is (w := .int (xs 3)) (congrArg (fun j => Value.int (xs j)) (by decide)) ?_
  refine th_goi (th_runV (As := [.int (xs 1), .int (xs 2), .int (xs 3)]) (rest := []) C hS.1 (RX11, TX11, 20) rfl gV_RL_151 hKx (t_X11_declare rfl rfl rfl FXh) hl rfl rfl rfl rfl ⟨Nat.le_of_ble_eq_true rfl, Nat.le_of_ble_eq_true rfl⟩ (Nat.le_of_ble_eq_true rfl) ⟨Nat.le_of_ble_eq_true rfl, Nat.le_of_ble_eq_true rfl⟩ dL_law_1705) (fun r5935 hq5936 => ?_)
  refine lv_aload_n hx hb dL_law_1708 rfl (lv_at hl 1 rfl) ?_
  refine lv_aload_n hx hb dL_law_1709 rfl (lv_at hl 3 rfl) ?_
  refine lv_iload_n hx hb dL_law_1710 rfl (lv_at hl 0 rfl) ?_
  refine lv_iconst (v := 1) hx hb dL_law_1711 (by decide) ?_
  refine lv_iadd hx hb dL_law_1712 ?_
  refine th_is (w := .int 1) (by decide) ?_
  refine va_sld hx hb hat.2.2.2.2.2.2.1 hat.2.2.2.2.2.2.2.1 (law_nb hat) hS.2.1 (i := 1) (by rw [hL]; exact vp_in_iff.mpr (by decide +kernel)) dL_law_1713 ?_
  refine th_is (w := .int (xs 1)) (congrArg (fun j => Value.int (xs j)) (by decide)) ?_
  refine lv_aload_n hx hb dL_law_1714 rfl (lv_at hl 3 rfl) ?_
  refine lv_iload_n hx hb dL_law_1715 rfl (lv_at hl 0 rfl) ?_
  refine lv_iconst (v := 2) hx hb dL_law_1716 (by decide) ?_
  refine lv_iadd hx hb dL_law_1717 ?_
  refine th_is (w := .int 2) (by decide) ?_
  refine va_sld hx hb hat.2.2.2.2.2.2.1 hat.2.2.2.2.2.2.2.1 (law_nb hat) hS.2.1 (i := 2) (by rw [hL]; exact vp_in_iff.mpr (by decide +kernel)) dL_law_1718 ?_
  refine th_is (w := .int (xs 2)) (congrArg (fun j => Value.int (xs j)) (by decide)) ?_
  refine lv_aload_n hx hb dL_law_1719 rfl (lv_at hl 3 rfl) ?_
  refine lv_iload_n hx hb dL_law_1720 rfl (lv_at hl 0 rfl) ?_
  refine lv_iconst (v := 3) hx hb dL_law_1721 (by decide) ?_
  refine lv_iadd hx hb dL_law_1722 ?_
  refine th_is (w := .int 3) (by decide) ?_
  refine va_sld hx hb hat.2.2.2.2.2.2.1 hat.2.2.2.2.2.2.2.1 (law_nb hat) hS.2.1 (i := 3) (by rw [hL]; exact vp_in_iff.mpr (by decide +kernel)) dL_law_1723 ?_
  refine th_is (w := .int (xs 3)) (congrArg (fun j => Value.int (xs j)) (by decide)) ?_
  refine th_goi (th_runV (As := [.int (xs 1), .int (xs 2), .int (xs 3)]) (rest := [.int r5935]) C hS.1 (RX12, TX12, 151) rfl gV_RL_154 FMh.1 (t_X12_declare rfl rfl rfl FMh) hl rfl rfl rfl rfl ⟨Nat.le_of_ble_eq_true rfl, Nat.le_of_ble_eq_true rfl⟩ (Nat.le_of_ble_eq_true rfl) ⟨Nat.le_of_ble_eq_true rfl, Nat.le_of_ble_eq_true rfl⟩ dL_law_1724) (fun r5937 hq5938 => ?_)
  refine th_icmp_eq (X := r5935.toInt) (Y := r5937.toInt) (tgt := 2746) hx hb dL_law_1727 (by decide) rfl rfl (fun c5939 => ?_) (fun c5939 => absurd (by omega) c5939)
  exact law_next hat hKN (Nat.le_of_eq hL) hS (lv_sub hl [0, 3] rfl) (Nat.le_of_ble_eq_true rfl) (Nat.le_of_ble_eq_true rfl)
