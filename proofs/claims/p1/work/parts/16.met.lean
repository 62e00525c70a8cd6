set_option maxHeartbeats 4000000 in
set_option maxRecDepth 100000 in
theorem t_X8_append_400 {l : Launch} {D : va_G} {dA : Nat → ClassId} {K : Kmap} {V : Vmap} {sz : Nat} {t ce : Nat} {a b c d e size : Int32} {a_i b_i c_i d_i e_i size_i : Int} (iz_a : a.toInt = a_i) (iz_b : b.toInt = b_i) (iz_c : c.toInt = c_i) (iz_d : d.toInt = d_i) (iz_e : e.toInt = e_i) (iz_size : size.toInt = size_i) (hp0 : K t = some (0, 7)) (hp1 : V t 0 = .int 1) (hp2 : V t 1 = .int 400) (hp3 : V t 2 = .ref ce) (hp4 : K ce = some (1, 400)) (hp5 : V t 3 = .int size) (hc0 : 0 ≤ size_i) (hc1 : size_i < 400) : Met l yX8_append (wsOf yX8_append cX8_append 7 (some .int)) { frames := 1, cells := 0, slots := 0, locals := 25 } (PC D dA K V sz [.ref t, .int a, .int b, .int c, .int d, .int e]) (HQi D dA K (fun r K1 V1 => K = K1 ∧ (∀ b, K b ≠ none → b ≠ ce → b ≠ t → V1 b = V b) ∧ (V1 t 0 = .int 1) ∧ (V1 t 1 = .int 400) ∧ (V1 t 2 = .ref ce) ∧ (∃ z : Int32, V1 t 3 = .int z ∧ z.toInt = (size_i + 1)) ∧ ((r.toInt = size_i)))) 0 0 (AK K sz) := by
  refine th_body (by decide +kernel) (Nat.le_of_ble_eq_true rfl) (fun pZ eZ sZ mZ belowZ methZ cZ C hR hsz hnm ls hl => ?_)
  have C : CX pZ sZ mZ [.ref t, .int a, .int b, .int c, .int d, .int e].toArray methZ cZ cX8_append 7 (some .int) RX8 D dA := C
  have hx := C.1; have hb := C.2.1
  have hl : lv_has ls 7 [(0, .ref t), (1, .int a), (2, .int b), (3, .int c), (4, .int d), (5, .int e)] := hl
  subst hsz
  have hS : ST D dA K sZ.heap K V sZ.heap [] := ST.rf hR
  have r_a := th_rng a; rw [iz_a] at r_a
  have r_b := th_rng b; rw [iz_b] at r_b
  have r_c := th_rng c; rw [iz_c] at r_c
  have r_d := th_rng d; rw [iz_d] at r_d
  have r_e := th_rng e; rw [iz_e] at r_e
  refine lv_aload_n hx hb dX8_append_0 rfl (lv_at hl 0 rfl) ?_
  refine th_goi (th_runV (As := []) (rest := []) C hS.1 (RX8, TX8, 4) rfl gV_RX8_31 hp0 (t_X8_isFull_400 iz_size hp0 hp2 hp5) hl rfl rfl rfl rfl ⟨Nat.le_of_ble_eq_true rfl, Nat.le_of_ble_eq_true rfl⟩ (Nat.le_of_ble_eq_true rfl) ⟨Nat.le_of_ble_eq_true rfl, Nat.le_of_ble_eq_true rfl⟩ dX8_append_1) (fun r168 hq169 => ?_)
  refine th_if_eq (X := r168.toInt) (tgt := 9) hx hb dX8_append_4 (by decide) rfl (fun c170 => ?_) (fun c170 => absurd c170 (by omega))
  refine lv_aload_n hx hb dX8_append_9 rfl (lv_at hl 0 rfl) ?_
  refine th_get C hS.1 hp0 fl_RX8_9 hp5 dX8_append_10 ?_
  refine lv_istore (lv' := [(6, .int size), (0, .ref t), (1, .int a), (2, .int b), (3, .int c), (4, .int d), (5, .int e)]) hx hb dX8_append_13 hl (by decide) rfl (fun ls hl => ?_)
  refine lv_aload_n hx hb dX8_append_15 rfl (lv_at hl 1 rfl) ?_
  refine lv_dup hx hb dX8_append_16 rfl ?_
  refine th_get C hS.1 hp0 fl_RX8_9 hp5 dX8_append_17 ?_
  refine lv_iconst (v := 1) hx hb dX8_append_20 (by decide) ?_
  refine lv_iadd hx hb dX8_append_21 ?_
  refine th_top (X := (size_i + 1)) (th_add iz_size li_1 (by omega) (by omega)) (fun z171 hz171 => ?_)
  refine th_put C hS hp0 fp_RX8_9 rfl rfl dX8_append_22 (fun V172 H locs1 hV173 hS => ?_)
  refine lv_aload_n hx hb dX8_append_25 rfl (lv_at hl 1 rfl) ?_
  refine lv_iload hx hb dX8_append_26 (lv_at hl 0 rfl) ?_
  refine lv_iconst (v := 0) hx hb dX8_append_28 (by decide) ?_
  refine lv_iload_n hx hb dX8_append_29 rfl (lv_at hl 2 rfl) ?_
  have hv174 : V172 t 0 = .int 1 := Eq.trans (uq_ne hV173 (Or.inr (by decide))) hp1
  have hv175 : V172 t 1 = .int 400 := Eq.trans (uq_ne hV173 (Or.inr (by decide))) hp2
  have hv176 : V172 t 2 = .ref ce := Eq.trans (uq_ne hV173 (Or.inr (by decide))) hp3
  refine th_govH hS rfl (th_runV (As := [.int size, .int 0, .int a]) (rest := []) C hS.1 (RX8, TX8, 4) rfl gV_RX8_35 hp0 (t_X8_put_400 iz_size li_0 iz_a hz171 hp0 hv174 hv175 hv176 hp4 (uq_same hV173)) hl rfl rfl rfl rfl ⟨Nat.le_of_ble_eq_true rfl, Nat.le_of_ble_eq_true rfl⟩ (Nat.le_of_ble_eq_true rfl) ⟨Nat.le_of_ble_eq_true rfl, Nat.le_of_ble_eq_true rfl⟩ dX8_append_30) (fun K179 V180 H locs1 hq178 hE181 hS => ?_)
  obtain ⟨rfl, hF182⟩ := hq178
  refine lv_aload_n hx hb dX8_append_33 rfl (lv_at hl 1 rfl) ?_
  refine lv_iload hx hb dX8_append_34 (lv_at hl 0 rfl) ?_
  refine lv_iconst (v := 1) hx hb dX8_append_36 (by decide) ?_
  refine lv_iload_n hx hb dX8_append_37 rfl (lv_at hl 3 rfl) ?_
  have hv184 : V180 t 0 = .int 1 := Eq.trans (congrFun (hF182 _ (by rw [hp0]; exact fun h => by cases h) (K_ne hp0 hp4 (by decide))) 0) hv174
  have hv185 : V180 t 1 = .int 400 := Eq.trans (congrFun (hF182 _ (by rw [hp0]; exact fun h => by cases h) (K_ne hp0 hp4 (by decide))) 1) hv175
  have hv186 : V180 t 2 = .ref ce := Eq.trans (congrFun (hF182 _ (by rw [hp0]; exact fun h => by cases h) (K_ne hp0 hp4 (by decide))) 2) hv176
  have hv187 : V180 t 3 = .int z171 := Eq.trans (congrFun (hF182 _ (by rw [hp0]; exact fun h => by cases h) (K_ne hp0 hp4 (by decide))) 3) (uq_same hV173)
  refine th_govH hS rfl (th_runV (As := [.int size, .int 1, .int b]) (rest := []) C hS.1 (RX8, TX8, 4) rfl gV_RX8_35 hp0 (t_X8_put_400 iz_size li_1 iz_b hz171 hp0 hv184 hv185 hv186 hp4 hv187) hl rfl rfl rfl rfl ⟨Nat.le_of_ble_eq_true rfl, Nat.le_of_ble_eq_true rfl⟩ (Nat.le_of_ble_eq_true rfl) ⟨Nat.le_of_ble_eq_true rfl, Nat.le_of_ble_eq_true rfl⟩ dX8_append_38) (fun K190 V191 H locs1 hq189 hE192 hS => ?_)
  obtain ⟨rfl, hF193⟩ := hq189
  refine lv_aload_n hx hb dX8_append_41 rfl (lv_at hl 1 rfl) ?_
  refine lv_iload hx hb dX8_append_42 (lv_at hl 0 rfl) ?_
  refine lv_iconst (v := 2) hx hb dX8_append_44 (by decide) ?_
  refine lv_iload_n hx hb dX8_append_45 rfl (lv_at hl 4 rfl) ?_
  have hv195 : V191 t 0 = .int 1 := Eq.trans (congrFun (hF193 _ (by rw [hp0]; exact fun h => by cases h) (K_ne hp0 hp4 (by decide))) 0) hv184
  have hv196 : V191 t 1 = .int 400 := Eq.trans (congrFun (hF193 _ (by rw [hp0]; exact fun h => by cases h) (K_ne hp0 hp4 (by decide))) 1) hv185
  have hv197 : V191 t 2 = .ref ce := Eq.trans (congrFun (hF193 _ (by rw [hp0]; exact fun h => by cases h) (K_ne hp0 hp4 (by decide))) 2) hv186
  have hv198 : V191 t 3 = .int z171 := Eq.trans (congrFun (hF193 _ (by rw [hp0]; exact fun h => by cases h) (K_ne hp0 hp4 (by decide))) 3) hv187
  refine th_govH hS rfl (th_runV (As := [.int size, .int 2, .int c]) (rest := []) C hS.1 (RX8, TX8, 4) rfl gV_RX8_35 hp0 (t_X8_put_400 iz_size li_2 iz_c hz171 hp0 hv195 hv196 hv197 hp4 hv198) hl rfl rfl rfl rfl ⟨Nat.le_of_ble_eq_true rfl, Nat.le_of_ble_eq_true rfl⟩ (Nat.le_of_ble_eq_true rfl) ⟨Nat.le_of_ble_eq_true rfl, Nat.le_of_ble_eq_true rfl⟩ dX8_append_46) (fun K201 V202 H locs1 hq200 hE203 hS => ?_)
  obtain ⟨rfl, hF204⟩ := hq200
  refine lv_aload_n hx hb dX8_append_49 rfl (lv_at hl 1 rfl) ?_
  refine lv_iload hx hb dX8_append_50 (lv_at hl 0 rfl) ?_
  refine lv_iconst (v := 3) hx hb dX8_append_52 (by decide) ?_
  refine lv_iload hx hb dX8_append_53 (lv_at hl 5 rfl) ?_
  have hv206 : V202 t 0 = .int 1 := Eq.trans (congrFun (hF204 _ (by rw [hp0]; exact fun h => by cases h) (K_ne hp0 hp4 (by decide))) 0) hv195
  have hv207 : V202 t 1 = .int 400 := Eq.trans (congrFun (hF204 _ (by rw [hp0]; exact fun h => by cases h) (K_ne hp0 hp4 (by decide))) 1) hv196
  have hv208 : V202 t 2 = .ref ce := Eq.trans (congrFun (hF204 _ (by rw [hp0]; exact fun h => by cases h) (K_ne hp0 hp4 (by decide))) 2) hv197
  have hv209 : V202 t 3 = .int z171 := Eq.trans (congrFun (hF204 _ (by rw [hp0]; exact fun h => by cases h) (K_ne hp0 hp4 (by decide))) 3) hv198
  refine th_govH hS rfl (th_runV (As := [.int size, .int 3, .int d]) (rest := []) C hS.1 (RX8, TX8, 4) rfl gV_RX8_35 hp0 (t_X8_put_400 iz_size li_3 iz_d hz171 hp0 hv206 hv207 hv208 hp4 hv209) hl rfl rfl rfl rfl ⟨Nat.le_of_ble_eq_true rfl, Nat.le_of_ble_eq_true rfl⟩ (Nat.le_of_ble_eq_true rfl) ⟨Nat.le_of_ble_eq_true rfl, Nat.le_of_ble_eq_true rfl⟩ dX8_append_55) (fun K212 V213 H locs1 hq211 hE214 hS => ?_)
  obtain ⟨rfl, hF215⟩ := hq211
  refine lv_aload_n hx hb dX8_append_58 rfl (lv_at hl 1 rfl) ?_
  refine lv_iload hx hb dX8_append_59 (lv_at hl 0 rfl) ?_
  refine lv_iconst (v := 4) hx hb dX8_append_61 (by decide) ?_
  refine lv_iload hx hb dX8_append_62 (lv_at hl 6 rfl) ?_
  have hv217 : V213 t 0 = .int 1 := Eq.trans (congrFun (hF215 _ (by rw [hp0]; exact fun h => by cases h) (K_ne hp0 hp4 (by decide))) 0) hv206
  have hv218 : V213 t 1 = .int 400 := Eq.trans (congrFun (hF215 _ (by rw [hp0]; exact fun h => by cases h) (K_ne hp0 hp4 (by decide))) 1) hv207
  have hv219 : V213 t 2 = .ref ce := Eq.trans (congrFun (hF215 _ (by rw [hp0]; exact fun h => by cases h) (K_ne hp0 hp4 (by decide))) 2) hv208
  have hv220 : V213 t 3 = .int z171 := Eq.trans (congrFun (hF215 _ (by rw [hp0]; exact fun h => by cases h) (K_ne hp0 hp4 (by decide))) 3) hv209
  refine th_govH hS rfl (th_runV (As := [.int size, .int 4, .int e]) (rest := []) C hS.1 (RX8, TX8, 4) rfl gV_RX8_35 hp0 (t_X8_put_400 iz_size li_4 iz_e hz171 hp0 hv217 hv218 hv219 hp4 hv220) hl rfl rfl rfl rfl ⟨Nat.le_of_ble_eq_true rfl, Nat.le_of_ble_eq_true rfl⟩ (Nat.le_of_ble_eq_true rfl) ⟨Nat.le_of_ble_eq_true rfl, Nat.le_of_ble_eq_true rfl⟩ dX8_append_64) (fun K223 V224 H locs1 hq222 hE225 hS => ?_)
  obtain ⟨rfl, hF226⟩ := hq222
  refine lv_iload hx hb dX8_append_67 (lv_at hl 0 rfl) ?_
  have hv228 : V224 t 0 = .int 1 := Eq.trans (congrFun (hF226 _ (by rw [hp0]; exact fun h => by cases h) (K_ne hp0 hp4 (by decide))) 0) hv217
  have hv229 : V224 t 1 = .int 400 := Eq.trans (congrFun (hF226 _ (by rw [hp0]; exact fun h => by cases h) (K_ne hp0 hp4 (by decide))) 1) hv218
  have hv230 : V224 t 2 = .ref ce := Eq.trans (congrFun (hF226 _ (by rw [hp0]; exact fun h => by cases h) (K_ne hp0 hp4 (by decide))) 2) hv219
  have hv231 : V224 t 3 = .int z171 := Eq.trans (congrFun (hF226 _ (by rw [hp0]; exact fun h => by cases h) (K_ne hp0 hp4 (by decide))) 3) hv220
  exact th_retiH (post := fun r K1 V1 => K = K1 ∧ (∀ b, K b ≠ none → b ≠ ce → b ≠ t → V1 b = V b) ∧ (V1 t 0 = .int 1) ∧ (V1 t 1 = .int 400) ∧ (V1 t 2 = .ref ce) ∧ (∃ z : Int32, V1 t 3 = .int z ∧ z.toInt = (size_i + 1)) ∧ ((r.toInt = size_i))) (cells := 0) (slots := 0) (mc := 0) (ms := 0) C hS ⟨rfl, (fun b hb hm0 hm1 => Eq.trans (hF226 _ hb hm0) (Eq.trans (hF215 _ hb hm0) (Eq.trans (hF204 _ hb hm0) (Eq.trans (hF193 _ hb hm0) (Eq.trans (hF182 _ hb hm0) ((uq_other hV173 hm1))))))), hv228, hv229, hv230, ⟨_, hv231, (by have hfin := hz171; omega)⟩, (by have hfin := iz_size; omega)⟩ (Nat.le_of_ble_eq_true rfl) (Nat.le_of_ble_eq_true rfl) dX8_append_69

set_option maxHeartbeats 4000000 in
set_option maxRecDepth 100000 in
theorem t_X8_init_5_40 {l : Launch} {D : va_G} {dA : Nat → ClassId} {K : Kmap} {V : Vmap} {sz : Nat} {t : Nat} (hp0 : K t = some (0, 7)) : Met l yX8_init (wsOf yX8_init cX8_init 3 (none : Option Jvm.ClassFile.FieldType)) { frames := 1, cells := 1, slots := 200, locals := 15 } (PC D dA K V sz [.ref t, .int 5, .int 40]) (HQv D dA K (fun K1 V1 => (∀ b, K b ≠ none → b ≠ t → V1 b = V b) ∧ (V1 t 0 = .int 5) ∧ (V1 t 1 = .int 40) ∧ (∃ q, V1 t 2 = .ref q ∧ K1 q = some (1, 200)) ∧ (V1 t 3 = .int 0))) 1 200 (AK K sz) := by
  refine th_body (by decide +kernel) (Nat.le_of_ble_eq_true rfl) (fun pZ eZ sZ mZ belowZ methZ cZ C hR hsz hnm ls hl => ?_)
  have C : CX pZ sZ mZ [.ref t, .int 5, .int 40].toArray methZ cZ cX8_init 3 (none : Option Jvm.ClassFile.FieldType) RX8 D dA := C
  have hx := C.1; have hb := C.2.1
  have hl : lv_has ls 3 [(0, .ref t), (1, .int 5), (2, .int 40)] := hl
  subst hsz
  have hS : ST D dA K sZ.heap K V sZ.heap [] := ST.rf hR
  refine lv_aload_n hx hb dX8_init_0 rfl (lv_at hl 0 rfl) ?_
  refine W.objInit hx hb C.2.2.2.2.2.1 (C.2.2.2.2.2.2.1 _ gw_103) (C.2.2.2.2.2.2.1 _ gw_27) (C.2.2.2.2.2.2.1 _ gw_28) rfl (by rw [C.2.2.1]; exact hl.1) rfl dX8_init_1 (Nat.le_of_ble_eq_true rfl) (Nat.le_of_ble_eq_true rfl) ?_
  refine W.eq (g2 := F0 mZ 4 ls []) rfl ?_
  refine lv_aload_n hx hb dX8_init_4 rfl (lv_at hl 0 rfl) ?_
  refine lv_iconst (v := 0) hx hb dX8_init_5 (by decide) ?_
  refine th_put C hS hp0 fp_RX8_9 rfl rfl dX8_init_6 (fun V232 H locs1 hV233 hS => ?_)
  refine lv_aload_n hx hb dX8_init_9 rfl (lv_at hl 0 rfl) ?_
  refine lv_iload_n hx hb dX8_init_10 rfl (lv_at hl 1 rfl) ?_
  refine th_putF C hS hnm hp0 fp_RX8_15 rfl rfl dX8_init_11 (fun V234 H locs1 hV235 hS => ?_)
  refine lv_aload_n hx hb dX8_init_14 rfl (lv_at hl 0 rfl) ?_
  refine lv_iload_n hx hb dX8_init_15 rfl (lv_at hl 2 rfl) ?_
  refine th_putF C hS hnm hp0 fp_RX8_18 rfl rfl dX8_init_16 (fun V236 H locs1 hV237 hS => ?_)
  refine lv_aload_n hx hb dX8_init_19 rfl (lv_at hl 0 rfl) ?_
  refine lv_iconst (v := 0) hx hb dX8_init_20 (by decide) ?_
  refine lv_iload_n hx hb dX8_init_21 rfl (lv_at hl 1 rfl) ?_
  refine lv_iload_n hx hb dX8_init_22 rfl (lv_at hl 2 rfl) ?_
  refine lv_imul hx hb dX8_init_23 ?_
  refine th_is (w := .int 200) (by decide) ?_
  refine va_mmax hx hb (C.2.2.1.trans hl.1.symm) C.2.2.2.2.2.1 (C.2.2.2.2.2.2.1 _ gw_104) (C.2.2.2.2.2.2.1 _ gw_105) (C.2.2.2.2.2.2.1 _ gw_6) (C.2.2.2.2.2.2.1 _ gw_106) (Nat.le_of_ble_eq_true rfl) (Nat.le_of_ble_eq_true rfl) (Nat.le_of_ble_eq_true rfl) (Nat.le_of_ble_eq_true rfl) dX8_init_24 ?_
  refine th_is (w := .int 200) (by decide) ?_
  refine th_newa (atype := .int) C hS 0 (by decide) rfl gw_89 (fun _ _ h => h) (N := 200) li_200 (Nat.le_of_ble_eq_true rfl) (Nat.le_of_ble_eq_true rfl) (Nat.le_of_ble_eq_true rfl) dX8_init_27 (fun q238 K239 V240 H hq241 hK242 hVn243 hVo244 hS => ?_)
  have hE245 : ∀ a k, K a = some k → K239 a = some k := fun a k h => by rw [hK242, updK_ne (K_old h hq241)]; exact h
  have hK246 : K239 q238 = some (1, 200) := by rw [hK242]; exact updK_same
  refine W.widen (k := 1) (n := 200) (Nat.le_of_ble_eq_true rfl) (Nat.le_of_ble_eq_true rfl) ?_
  refine th_putF C hS hnm (hE245 _ _ hp0) fp_RX8_27 rfl rfl dX8_init_29 (fun V247 H locs1 hV248 hS => ?_)
  have hv249 : V236 t 0 = .int 5 := Eq.trans (uq_ne hV237 (Or.inr (by decide))) (uq_same hV235)
  have hv250 : V240 t 0 = .int 5 := Eq.trans (congrFun (hVo244 _ (K_ne (hE245 _ _ hp0) hK246 (by decide))) 0) hv249
  have hv251 : V247 t 0 = .int 5 := Eq.trans (uq_ne hV248 (Or.inr (by decide))) hv250
  have hv252 : V240 t 1 = .int 40 := Eq.trans (congrFun (hVo244 _ (K_ne (hE245 _ _ hp0) hK246 (by decide))) 1) (uq_same hV237)
  have hv253 : V247 t 1 = .int 40 := Eq.trans (uq_ne hV248 (Or.inr (by decide))) hv252
  have hv254 : V234 t 3 = .int 0 := Eq.trans (uq_ne hV235 (Or.inr (by decide))) (uq_same hV233)
  have hv255 : V236 t 3 = .int 0 := Eq.trans (uq_ne hV237 (Or.inr (by decide))) hv254
  have hv256 : V240 t 3 = .int 0 := Eq.trans (congrFun (hVo244 _ (K_ne (hE245 _ _ hp0) hK246 (by decide))) 3) hv255
  have hv257 : V247 t 3 = .int 0 := Eq.trans (uq_ne hV248 (Or.inr (by decide))) hv256
  exact th_retvH (post := fun K1 V1 => (∀ b, K b ≠ none → b ≠ t → V1 b = V b) ∧ (V1 t 0 = .int 5) ∧ (V1 t 1 = .int 40) ∧ (∃ q, V1 t 2 = .ref q ∧ K1 q = some (1, 200)) ∧ (V1 t 3 = .int 0)) (cells := 1) (slots := 200) (mc := 1) (ms := 200) C hS ⟨(fun b hb hm0 => Eq.trans (uq_other hV248 hm0) (Eq.trans (hVo244 _ (th_bold hb hq241)) (Eq.trans (uq_other hV237 hm0) (Eq.trans (uq_other hV235 hm0) ((uq_other hV233 hm0)))))), hv251, hv253, ⟨_, (uq_same hV248), hK246⟩, hv257⟩ (Nat.le_of_ble_eq_true rfl) (Nat.le_of_ble_eq_true rfl) dX8_init_32

set_option maxHeartbeats 4000000 in
set_option maxRecDepth 100000 in
theorem t_X8_init_5_60 {l : Launch} {D : va_G} {dA : Nat → ClassId} {K : Kmap} {V : Vmap} {sz : Nat} {t : Nat} (hp0 : K t = some (0, 7)) : Met l yX8_init (wsOf yX8_init cX8_init 3 (none : Option Jvm.ClassFile.FieldType)) { frames := 1, cells := 1, slots := 300, locals := 15 } (PC D dA K V sz [.ref t, .int 5, .int 60]) (HQv D dA K (fun K1 V1 => (∀ b, K b ≠ none → b ≠ t → V1 b = V b) ∧ (V1 t 0 = .int 5) ∧ (V1 t 1 = .int 60) ∧ (∃ q, V1 t 2 = .ref q ∧ K1 q = some (1, 300)) ∧ (V1 t 3 = .int 0))) 1 300 (AK K sz) := by
  refine th_body (by decide +kernel) (Nat.le_of_ble_eq_true rfl) (fun pZ eZ sZ mZ belowZ methZ cZ C hR hsz hnm ls hl => ?_)
  have C : CX pZ sZ mZ [.ref t, .int 5, .int 60].toArray methZ cZ cX8_init 3 (none : Option Jvm.ClassFile.FieldType) RX8 D dA := C
  have hx := C.1; have hb := C.2.1
  have hl : lv_has ls 3 [(0, .ref t), (1, .int 5), (2, .int 60)] := hl
  subst hsz
  have hS : ST D dA K sZ.heap K V sZ.heap [] := ST.rf hR
  refine lv_aload_n hx hb dX8_init_0 rfl (lv_at hl 0 rfl) ?_
  refine W.objInit hx hb C.2.2.2.2.2.1 (C.2.2.2.2.2.2.1 _ gw_103) (C.2.2.2.2.2.2.1 _ gw_27) (C.2.2.2.2.2.2.1 _ gw_28) rfl (by rw [C.2.2.1]; exact hl.1) rfl dX8_init_1 (Nat.le_of_ble_eq_true rfl) (Nat.le_of_ble_eq_true rfl) ?_
  refine W.eq (g2 := F0 mZ 4 ls []) rfl ?_
  refine lv_aload_n hx hb dX8_init_4 rfl (lv_at hl 0 rfl) ?_
  refine lv_iconst (v := 0) hx hb dX8_init_5 (by decide) ?_
  refine th_put C hS hp0 fp_RX8_9 rfl rfl dX8_init_6 (fun V258 H locs1 hV259 hS => ?_)
  refine lv_aload_n hx hb dX8_init_9 rfl (lv_at hl 0 rfl) ?_
  refine lv_iload_n hx hb dX8_init_10 rfl (lv_at hl 1 rfl) ?_
  refine th_putF C hS hnm hp0 fp_RX8_15 rfl rfl dX8_init_11 (fun V260 H locs1 hV261 hS => ?_)
  refine lv_aload_n hx hb dX8_init_14 rfl (lv_at hl 0 rfl) ?_
  refine lv_iload_n hx hb dX8_init_15 rfl (lv_at hl 2 rfl) ?_
  refine th_putF C hS hnm hp0 fp_RX8_18 rfl rfl dX8_init_16 (fun V262 H locs1 hV263 hS => ?_)
  refine lv_aload_n hx hb dX8_init_19 rfl (lv_at hl 0 rfl) ?_
  refine lv_iconst (v := 0) hx hb dX8_init_20 (by decide) ?_
  refine lv_iload_n hx hb dX8_init_21 rfl (lv_at hl 1 rfl) ?_
  refine lv_iload_n hx hb dX8_init_22 rfl (lv_at hl 2 rfl) ?_
  refine lv_imul hx hb dX8_init_23 ?_
  refine th_is (w := .int 300) (by decide) ?_
  refine va_mmax hx hb (C.2.2.1.trans hl.1.symm) C.2.2.2.2.2.1 (C.2.2.2.2.2.2.1 _ gw_104) (C.2.2.2.2.2.2.1 _ gw_105) (C.2.2.2.2.2.2.1 _ gw_6) (C.2.2.2.2.2.2.1 _ gw_106) (Nat.le_of_ble_eq_true rfl) (Nat.le_of_ble_eq_true rfl) (Nat.le_of_ble_eq_true rfl) (Nat.le_of_ble_eq_true rfl) dX8_init_24 ?_
  refine th_is (w := .int 300) (by decide) ?_
  refine th_newa (atype := .int) C hS 0 (by decide) rfl gw_89 (fun _ _ h => h) (N := 300) li_300 (Nat.le_of_ble_eq_true rfl) (Nat.le_of_ble_eq_true rfl) (Nat.le_of_ble_eq_true rfl) dX8_init_27 (fun q264 K265 V266 H hq267 hK268 hVn269 hVo270 hS => ?_)
  have hE271 : ∀ a k, K a = some k → K265 a = some k := fun a k h => by rw [hK268, updK_ne (K_old h hq267)]; exact h
  have hK272 : K265 q264 = some (1, 300) := by rw [hK268]; exact updK_same
  refine W.widen (k := 1) (n := 300) (Nat.le_of_ble_eq_true rfl) (Nat.le_of_ble_eq_true rfl) ?_
  refine th_putF C hS hnm (hE271 _ _ hp0) fp_RX8_27 rfl rfl dX8_init_29 (fun V273 H locs1 hV274 hS => ?_)
  have hv275 : V262 t 0 = .int 5 := Eq.trans (uq_ne hV263 (Or.inr (by decide))) (uq_same hV261)
  have hv276 : V266 t 0 = .int 5 := Eq.trans (congrFun (hVo270 _ (K_ne (hE271 _ _ hp0) hK272 (by decide))) 0) hv275
  have hv277 : V273 t 0 = .int 5 := Eq.trans (uq_ne hV274 (Or.inr (by decide))) hv276
  have hv278 : V266 t 1 = .int 60 := Eq.trans (congrFun (hVo270 _ (K_ne (hE271 _ _ hp0) hK272 (by decide))) 1) (uq_same hV263)
  have hv279 : V273 t 1 = .int 60 := Eq.trans (uq_ne hV274 (Or.inr (by decide))) hv278
  have hv280 : V260 t 3 = .int 0 := Eq.trans (uq_ne hV261 (Or.inr (by decide))) (uq_same hV259)
  have hv281 : V262 t 3 = .int 0 := Eq.trans (uq_ne hV263 (Or.inr (by decide))) hv280
  have hv282 : V266 t 3 = .int 0 := Eq.trans (congrFun (hVo270 _ (K_ne (hE271 _ _ hp0) hK272 (by decide))) 3) hv281
  have hv283 : V273 t 3 = .int 0 := Eq.trans (uq_ne hV274 (Or.inr (by decide))) hv282
  exact th_retvH (post := fun K1 V1 => (∀ b, K b ≠ none → b ≠ t → V1 b = V b) ∧ (V1 t 0 = .int 5) ∧ (V1 t 1 = .int 60) ∧ (∃ q, V1 t 2 = .ref q ∧ K1 q = some (1, 300)) ∧ (V1 t 3 = .int 0)) (cells := 1) (slots := 300) (mc := 1) (ms := 300) C hS ⟨(fun b hb hm0 => Eq.trans (uq_other hV274 hm0) (Eq.trans (hVo270 _ (th_bold hb hq267)) (Eq.trans (uq_other hV263 hm0) (Eq.trans (uq_other hV261 hm0) ((uq_other hV259 hm0)))))), hv277, hv279, ⟨_, (uq_same hV274), hK272⟩, hv283⟩ (Nat.le_of_ble_eq_true rfl) (Nat.le_of_ble_eq_true rfl) dX8_init_32

set_option maxHeartbeats 4000000 in
set_option maxRecDepth 100000 in
theorem t_X8_init_3_10 {l : Launch} {D : va_G} {dA : Nat → ClassId} {K : Kmap} {V : Vmap} {sz : Nat} {t : Nat} (hp0 : K t = some (0, 7)) : Met l yX8_init (wsOf yX8_init cX8_init 3 (none : Option Jvm.ClassFile.FieldType)) { frames := 1, cells := 1, slots := 30, locals := 15 } (PC D dA K V sz [.ref t, .int 3, .int 10]) (HQv D dA K (fun K1 V1 => (∀ b, K b ≠ none → b ≠ t → V1 b = V b) ∧ (V1 t 0 = .int 3) ∧ (V1 t 1 = .int 10) ∧ (∃ q, V1 t 2 = .ref q ∧ K1 q = some (1, 30)) ∧ (V1 t 3 = .int 0))) 1 30 (AK K sz) := by
  refine th_body (by decide +kernel) (Nat.le_of_ble_eq_true rfl) (fun pZ eZ sZ mZ belowZ methZ cZ C hR hsz hnm ls hl => ?_)
  have C : CX pZ sZ mZ [.ref t, .int 3, .int 10].toArray methZ cZ cX8_init 3 (none : Option Jvm.ClassFile.FieldType) RX8 D dA := C
  have hx := C.1; have hb := C.2.1
  have hl : lv_has ls 3 [(0, .ref t), (1, .int 3), (2, .int 10)] := hl
  subst hsz
  have hS : ST D dA K sZ.heap K V sZ.heap [] := ST.rf hR
  refine lv_aload_n hx hb dX8_init_0 rfl (lv_at hl 0 rfl) ?_
  refine W.objInit hx hb C.2.2.2.2.2.1 (C.2.2.2.2.2.2.1 _ gw_103) (C.2.2.2.2.2.2.1 _ gw_27) (C.2.2.2.2.2.2.1 _ gw_28) rfl (by rw [C.2.2.1]; exact hl.1) rfl dX8_init_1 (Nat.le_of_ble_eq_true rfl) (Nat.le_of_ble_eq_true rfl) ?_
  refine W.eq (g2 := F0 mZ 4 ls []) rfl ?_
  refine lv_aload_n hx hb dX8_init_4 rfl (lv_at hl 0 rfl) ?_
  refine lv_iconst (v := 0) hx hb dX8_init_5 (by decide) ?_
  refine th_put C hS hp0 fp_RX8_9 rfl rfl dX8_init_6 (fun V284 H locs1 hV285 hS => ?_)
  refine lv_aload_n hx hb dX8_init_9 rfl (lv_at hl 0 rfl) ?_
  refine lv_iload_n hx hb dX8_init_10 rfl (lv_at hl 1 rfl) ?_
  refine th_putF C hS hnm hp0 fp_RX8_15 rfl rfl dX8_init_11 (fun V286 H locs1 hV287 hS => ?_)
  refine lv_aload_n hx hb dX8_init_14 rfl (lv_at hl 0 rfl) ?_
  refine lv_iload_n hx hb dX8_init_15 rfl (lv_at hl 2 rfl) ?_
  refine th_putF C hS hnm hp0 fp_RX8_18 rfl rfl dX8_init_16 (fun V288 H locs1 hV289 hS => ?_)
  refine lv_aload_n hx hb dX8_init_19 rfl (lv_at hl 0 rfl) ?_
  refine lv_iconst (v := 0) hx hb dX8_init_20 (by decide) ?_
  refine lv_iload_n hx hb dX8_init_21 rfl (lv_at hl 1 rfl) ?_
  refine lv_iload_n hx hb dX8_init_22 rfl (lv_at hl 2 rfl) ?_
  refine lv_imul hx hb dX8_init_23 ?_
  refine th_is (w := .int 30) (by decide) ?_
  refine va_mmax hx hb (C.2.2.1.trans hl.1.symm) C.2.2.2.2.2.1 (C.2.2.2.2.2.2.1 _ gw_104) (C.2.2.2.2.2.2.1 _ gw_105) (C.2.2.2.2.2.2.1 _ gw_6) (C.2.2.2.2.2.2.1 _ gw_106) (Nat.le_of_ble_eq_true rfl) (Nat.le_of_ble_eq_true rfl) (Nat.le_of_ble_eq_true rfl) (Nat.le_of_ble_eq_true rfl) dX8_init_24 ?_
  refine th_is (w := .int 30) (by decide) ?_
  refine th_newa (atype := .int) C hS 0 (by decide) rfl gw_89 (fun _ _ h => h) (N := 30) li_30 (Nat.le_of_ble_eq_true rfl) (Nat.le_of_ble_eq_true rfl) (Nat.le_of_ble_eq_true rfl) dX8_init_27 (fun q290 K291 V292 H hq293 hK294 hVn295 hVo296 hS => ?_)
  have hE297 : ∀ a k, K a = some k → K291 a = some k := fun a k h => by rw [hK294, updK_ne (K_old h hq293)]; exact h
  have hK298 : K291 q290 = some (1, 30) := by rw [hK294]; exact updK_same
  refine W.widen (k := 1) (n := 30) (Nat.le_of_ble_eq_true rfl) (Nat.le_of_ble_eq_true rfl) ?_
  refine th_putF C hS hnm (hE297 _ _ hp0) fp_RX8_27 rfl rfl dX8_init_29 (fun V299 H locs1 hV300 hS => ?_)
  have hv301 : V288 t 0 = .int 3 := Eq.trans (uq_ne hV289 (Or.inr (by decide))) (uq_same hV287)
  have hv302 : V292 t 0 = .int 3 := Eq.trans (congrFun (hVo296 _ (K_ne (hE297 _ _ hp0) hK298 (by decide))) 0) hv301
  have hv303 : V299 t 0 = .int 3 := Eq.trans (uq_ne hV300 (Or.inr (by decide))) hv302
  have hv304 : V292 t 1 = .int 10 := Eq.trans (congrFun (hVo296 _ (K_ne (hE297 _ _ hp0) hK298 (by decide))) 1) (uq_same hV289)
  have hv305 : V299 t 1 = .int 10 := Eq.trans (uq_ne hV300 (Or.inr (by decide))) hv304
  have hv306 : V286 t 3 = .int 0 := Eq.trans (uq_ne hV287 (Or.inr (by decide))) (uq_same hV285)
  have hv307 : V288 t 3 = .int 0 := Eq.trans (uq_ne hV289 (Or.inr (by decide))) hv306
  have hv308 : V292 t 3 = .int 0 := Eq.trans (congrFun (hVo296 _ (K_ne (hE297 _ _ hp0) hK298 (by decide))) 3) hv307
  have hv309 : V299 t 3 = .int 0 := Eq.trans (uq_ne hV300 (Or.inr (by decide))) hv308
  exact th_retvH (post := fun K1 V1 => (∀ b, K b ≠ none → b ≠ t → V1 b = V b) ∧ (V1 t 0 = .int 3) ∧ (V1 t 1 = .int 10) ∧ (∃ q, V1 t 2 = .ref q ∧ K1 q = some (1, 30)) ∧ (V1 t 3 = .int 0)) (cells := 1) (slots := 30) (mc := 1) (ms := 30) C hS ⟨(fun b hb hm0 => Eq.trans (uq_other hV300 hm0) (Eq.trans (hVo296 _ (th_bold hb hq293)) (Eq.trans (uq_other hV289 hm0) (Eq.trans (uq_other hV287 hm0) ((uq_other hV285 hm0)))))), hv303, hv305, ⟨_, (uq_same hV300), hK298⟩, hv309⟩ (Nat.le_of_ble_eq_true rfl) (Nat.le_of_ble_eq_true rfl) dX8_init_32

set_option maxHeartbeats 4000000 in
set_option maxRecDepth 100000 in
theorem t_X8_init_5_200 {l : Launch} {D : va_G} {dA : Nat → ClassId} {K : Kmap} {V : Vmap} {sz : Nat} {t : Nat} (hp0 : K t = some (0, 7)) : Met l yX8_init (wsOf yX8_init cX8_init 3 (none : Option Jvm.ClassFile.FieldType)) { frames := 1, cells := 1, slots := 1000, locals := 15 } (PC D dA K V sz [.ref t, .int 5, .int 200]) (HQv D dA K (fun K1 V1 => (∀ b, K b ≠ none → b ≠ t → V1 b = V b) ∧ (V1 t 0 = .int 5) ∧ (V1 t 1 = .int 200) ∧ (∃ q, V1 t 2 = .ref q ∧ K1 q = some (1, 1000)) ∧ (V1 t 3 = .int 0))) 1 1000 (AK K sz) := by
  refine th_body (by decide +kernel) (Nat.le_of_ble_eq_true rfl) (fun pZ eZ sZ mZ belowZ methZ cZ C hR hsz hnm ls hl => ?_)
  have C : CX pZ sZ mZ [.ref t, .int 5, .int 200].toArray methZ cZ cX8_init 3 (none : Option Jvm.ClassFile.FieldType) RX8 D dA := C
  have hx := C.1; have hb := C.2.1
  have hl : lv_has ls 3 [(0, .ref t), (1, .int 5), (2, .int 200)] := hl
  subst hsz
  have hS : ST D dA K sZ.heap K V sZ.heap [] := ST.rf hR
  refine lv_aload_n hx hb dX8_init_0 rfl (lv_at hl 0 rfl) ?_
  refine W.objInit hx hb C.2.2.2.2.2.1 (C.2.2.2.2.2.2.1 _ gw_103) (C.2.2.2.2.2.2.1 _ gw_27) (C.2.2.2.2.2.2.1 _ gw_28) rfl (by rw [C.2.2.1]; exact hl.1) rfl dX8_init_1 (Nat.le_of_ble_eq_true rfl) (Nat.le_of_ble_eq_true rfl) ?_
  refine W.eq (g2 := F0 mZ 4 ls []) rfl ?_
  refine lv_aload_n hx hb dX8_init_4 rfl (lv_at hl 0 rfl) ?_
  refine lv_iconst (v := 0) hx hb dX8_init_5 (by decide) ?_
  refine th_put C hS hp0 fp_RX8_9 rfl rfl dX8_init_6 (fun V310 H locs1 hV311 hS => ?_)
  refine lv_aload_n hx hb dX8_init_9 rfl (lv_at hl 0 rfl) ?_
  refine lv_iload_n hx hb dX8_init_10 rfl (lv_at hl 1 rfl) ?_
  refine th_putF C hS hnm hp0 fp_RX8_15 rfl rfl dX8_init_11 (fun V312 H locs1 hV313 hS => ?_)
  refine lv_aload_n hx hb dX8_init_14 rfl (lv_at hl 0 rfl) ?_
  refine lv_iload_n hx hb dX8_init_15 rfl (lv_at hl 2 rfl) ?_
  refine th_putF C hS hnm hp0 fp_RX8_18 rfl rfl dX8_init_16 (fun V314 H locs1 hV315 hS => ?_)
  refine lv_aload_n hx hb dX8_init_19 rfl (lv_at hl 0 rfl) ?_
  refine lv_iconst (v := 0) hx hb dX8_init_20 (by decide) ?_
  refine lv_iload_n hx hb dX8_init_21 rfl (lv_at hl 1 rfl) ?_
  refine lv_iload_n hx hb dX8_init_22 rfl (lv_at hl 2 rfl) ?_
  refine lv_imul hx hb dX8_init_23 ?_
  refine th_is (w := .int 1000) (by decide) ?_
  refine va_mmax hx hb (C.2.2.1.trans hl.1.symm) C.2.2.2.2.2.1 (C.2.2.2.2.2.2.1 _ gw_104) (C.2.2.2.2.2.2.1 _ gw_105) (C.2.2.2.2.2.2.1 _ gw_6) (C.2.2.2.2.2.2.1 _ gw_106) (Nat.le_of_ble_eq_true rfl) (Nat.le_of_ble_eq_true rfl) (Nat.le_of_ble_eq_true rfl) (Nat.le_of_ble_eq_true rfl) dX8_init_24 ?_
  refine th_is (w := .int 1000) (by decide) ?_
  refine th_newa (atype := .int) C hS 0 (by decide) rfl gw_89 (fun _ _ h => h) (N := 1000) li_1000 (Nat.le_of_ble_eq_true rfl) (Nat.le_of_ble_eq_true rfl) (Nat.le_of_ble_eq_true rfl) dX8_init_27 (fun q316 K317 V318 H hq319 hK320 hVn321 hVo322 hS => ?_)
  have hE323 : ∀ a k, K a = some k → K317 a = some k := fun a k h => by rw [hK320, updK_ne (K_old h hq319)]; exact h
  have hK324 : K317 q316 = some (1, 1000) := by rw [hK320]; exact updK_same
  refine W.widen (k := 1) (n := 1000) (Nat.le_of_ble_eq_true rfl) (Nat.le_of_ble_eq_true rfl) ?_
  refine th_putF C hS hnm (hE323 _ _ hp0) fp_RX8_27 rfl rfl dX8_init_29 (fun V325 H locs1 hV326 hS => ?_)
  have hv327 : V314 t 0 = .int 5 := Eq.trans (uq_ne hV315 (Or.inr (by decide))) (uq_same hV313)
  have hv328 : V318 t 0 = .int 5 := Eq.trans (congrFun (hVo322 _ (K_ne (hE323 _ _ hp0) hK324 (by decide))) 0) hv327
  have hv329 : V325 t 0 = .int 5 := Eq.trans (uq_ne hV326 (Or.inr (by decide))) hv328
  have hv330 : V318 t 1 = .int 200 := Eq.trans (congrFun (hVo322 _ (K_ne (hE323 _ _ hp0) hK324 (by decide))) 1) (uq_same hV315)
  have hv331 : V325 t 1 = .int 200 := Eq.trans (uq_ne hV326 (Or.inr (by decide))) hv330
  have hv332 : V312 t 3 = .int 0 := Eq.trans (uq_ne hV313 (Or.inr (by decide))) (uq_same hV311)
  have hv333 : V314 t 3 = .int 0 := Eq.trans (uq_ne hV315 (Or.inr (by decide))) hv332
  have hv334 : V318 t 3 = .int 0 := Eq.trans (congrFun (hVo322 _ (K_ne (hE323 _ _ hp0) hK324 (by decide))) 3) hv333
  have hv335 : V325 t 3 = .int 0 := Eq.trans (uq_ne hV326 (Or.inr (by decide))) hv334
  exact th_retvH (post := fun K1 V1 => (∀ b, K b ≠ none → b ≠ t → V1 b = V b) ∧ (V1 t 0 = .int 5) ∧ (V1 t 1 = .int 200) ∧ (∃ q, V1 t 2 = .ref q ∧ K1 q = some (1, 1000)) ∧ (V1 t 3 = .int 0)) (cells := 1) (slots := 1000) (mc := 1) (ms := 1000) C hS ⟨(fun b hb hm0 => Eq.trans (uq_other hV326 hm0) (Eq.trans (hVo322 _ (th_bold hb hq319)) (Eq.trans (uq_other hV315 hm0) (Eq.trans (uq_other hV313 hm0) ((uq_other hV311 hm0)))))), hv329, hv331, ⟨_, (uq_same hV326), hK324⟩, hv335⟩ (Nat.le_of_ble_eq_true rfl) (Nat.le_of_ble_eq_true rfl) dX8_init_32

set_option maxHeartbeats 4000000 in
set_option maxRecDepth 100000 in
theorem t_X8_init_1_7 {l : Launch} {D : va_G} {dA : Nat → ClassId} {K : Kmap} {V : Vmap} {sz : Nat} {t : Nat} (hp0 : K t = some (0, 7)) : Met l yX8_init (wsOf yX8_init cX8_init 3 (none : Option Jvm.ClassFile.FieldType)) { frames := 1, cells := 1, slots := 7, locals := 15 } (PC D dA K V sz [.ref t, .int 1, .int 7]) (HQv D dA K (fun K1 V1 => (∀ b, K b ≠ none → b ≠ t → V1 b = V b) ∧ (V1 t 0 = .int 1) ∧ (V1 t 1 = .int 7) ∧ (∃ q, V1 t 2 = .ref q ∧ K1 q = some (1, 7)) ∧ (V1 t 3 = .int 0))) 1 7 (AK K sz) := by
  refine th_body (by decide +kernel) (Nat.le_of_ble_eq_true rfl) (fun pZ eZ sZ mZ belowZ methZ cZ C hR hsz hnm ls hl => ?_)
  have C : CX pZ sZ mZ [.ref t, .int 1, .int 7].toArray methZ cZ cX8_init 3 (none : Option Jvm.ClassFile.FieldType) RX8 D dA := C
  have hx := C.1; have hb := C.2.1
  have hl : lv_has ls 3 [(0, .ref t), (1, .int 1), (2, .int 7)] := hl
  subst hsz
  have hS : ST D dA K sZ.heap K V sZ.heap [] := ST.rf hR
  refine lv_aload_n hx hb dX8_init_0 rfl (lv_at hl 0 rfl) ?_
  refine W.objInit hx hb C.2.2.2.2.2.1 (C.2.2.2.2.2.2.1 _ gw_103) (C.2.2.2.2.2.2.1 _ gw_27) (C.2.2.2.2.2.2.1 _ gw_28) rfl (by rw [C.2.2.1]; exact hl.1) rfl dX8_init_1 (Nat.le_of_ble_eq_true rfl) (Nat.le_of_ble_eq_true rfl) ?_
  refine W.eq (g2 := F0 mZ 4 ls []) rfl ?_
  refine lv_aload_n hx hb dX8_init_4 rfl (lv_at hl 0 rfl) ?_
  refine lv_iconst (v := 0) hx hb dX8_init_5 (by decide) ?_
  refine th_put C hS hp0 fp_RX8_9 rfl rfl dX8_init_6 (fun V336 H locs1 hV337 hS => ?_)
  refine lv_aload_n hx hb dX8_init_9 rfl (lv_at hl 0 rfl) ?_
  refine lv_iload_n hx hb dX8_init_10 rfl (lv_at hl 1 rfl) ?_
  refine th_putF C hS hnm hp0 fp_RX8_15 rfl rfl dX8_init_11 (fun V338 H locs1 hV339 hS => ?_)
  refine lv_aload_n hx hb dX8_init_14 rfl (lv_at hl 0 rfl) ?_
  refine lv_iload_n hx hb dX8_init_15 rfl (lv_at hl 2 rfl) ?_
  refine th_putF C hS hnm hp0 fp_RX8_18 rfl rfl dX8_init_16 (fun V340 H locs1 hV341 hS => ?_)
  refine lv_aload_n hx hb dX8_init_19 rfl (lv_at hl 0 rfl) ?_
  refine lv_iconst (v := 0) hx hb dX8_init_20 (by decide) ?_
  refine lv_iload_n hx hb dX8_init_21 rfl (lv_at hl 1 rfl) ?_
  refine lv_iload_n hx hb dX8_init_22 rfl (lv_at hl 2 rfl) ?_
  refine lv_imul hx hb dX8_init_23 ?_
  refine th_is (w := .int 7) (by decide) ?_
  refine va_mmax hx hb (C.2.2.1.trans hl.1.symm) C.2.2.2.2.2.1 (C.2.2.2.2.2.2.1 _ gw_104) (C.2.2.2.2.2.2.1 _ gw_105) (C.2.2.2.2.2.2.1 _ gw_6) (C.2.2.2.2.2.2.1 _ gw_106) (Nat.le_of_ble_eq_true rfl) (Nat.le_of_ble_eq_true rfl) (Nat.le_of_ble_eq_true rfl) (Nat.le_of_ble_eq_true rfl) dX8_init_24 ?_
  refine th_is (w := .int 7) (by decide) ?_
  refine th_newa (atype := .int) C hS 0 (by decide) rfl gw_89 (fun _ _ h => h) (N := 7) li_7 (Nat.le_of_ble_eq_true rfl) (Nat.le_of_ble_eq_true rfl) (Nat.le_of_ble_eq_true rfl) dX8_init_27 (fun q342 K343 V344 H hq345 hK346 hVn347 hVo348 hS => ?_)
  have hE349 : ∀ a k, K a = some k → K343 a = some k := fun a k h => by rw [hK346, updK_ne (K_old h hq345)]; exact h
  have hK350 : K343 q342 = some (1, 7) := by rw [hK346]; exact updK_same
  refine W.widen (k := 1) (n := 7) (Nat.le_of_ble_eq_true rfl) (Nat.le_of_ble_eq_true rfl) ?_
  refine th_putF C hS hnm (hE349 _ _ hp0) fp_RX8_27 rfl rfl dX8_init_29 (fun V351 H locs1 hV352 hS => ?_)
  have hv353 : V340 t 0 = .int 1 := Eq.trans (uq_ne hV341 (Or.inr (by decide))) (uq_same hV339)
  have hv354 : V344 t 0 = .int 1 := Eq.trans (congrFun (hVo348 _ (K_ne (hE349 _ _ hp0) hK350 (by decide))) 0) hv353
  have hv355 : V351 t 0 = .int 1 := Eq.trans (uq_ne hV352 (Or.inr (by decide))) hv354
  have hv356 : V344 t 1 = .int 7 := Eq.trans (congrFun (hVo348 _ (K_ne (hE349 _ _ hp0) hK350 (by decide))) 1) (uq_same hV341)
  have hv357 : V351 t 1 = .int 7 := Eq.trans (uq_ne hV352 (Or.inr (by decide))) hv356
  have hv358 : V338 t 3 = .int 0 := Eq.trans (uq_ne hV339 (Or.inr (by decide))) (uq_same hV337)
  have hv359 : V340 t 3 = .int 0 := Eq.trans (uq_ne hV341 (Or.inr (by decide))) hv358
  have hv360 : V344 t 3 = .int 0 := Eq.trans (congrFun (hVo348 _ (K_ne (hE349 _ _ hp0) hK350 (by decide))) 3) hv359
  have hv361 : V351 t 3 = .int 0 := Eq.trans (uq_ne hV352 (Or.inr (by decide))) hv360
  exact th_retvH (post := fun K1 V1 => (∀ b, K b ≠ none → b ≠ t → V1 b = V b) ∧ (V1 t 0 = .int 1) ∧ (V1 t 1 = .int 7) ∧ (∃ q, V1 t 2 = .ref q ∧ K1 q = some (1, 7)) ∧ (V1 t 3 = .int 0)) (cells := 1) (slots := 7) (mc := 1) (ms := 7) C hS ⟨(fun b hb hm0 => Eq.trans (uq_other hV352 hm0) (Eq.trans (hVo348 _ (th_bold hb hq345)) (Eq.trans (uq_other hV341 hm0) (Eq.trans (uq_other hV339 hm0) ((uq_other hV337 hm0)))))), hv355, hv357, ⟨_, (uq_same hV352), hK350⟩, hv361⟩ (Nat.le_of_ble_eq_true rfl) (Nat.le_of_ble_eq_true rfl) dX8_init_32

set_option maxHeartbeats 4000000 in
set_option maxRecDepth 100000 in
theorem t_X8_init_1_400 {l : Launch} {D : va_G} {dA : Nat → ClassId} {K : Kmap} {V : Vmap} {sz : Nat} {t : Nat} (hp0 : K t = some (0, 7)) : Met l yX8_init (wsOf yX8_init cX8_init 3 (none : Option Jvm.ClassFile.FieldType)) { frames := 1, cells := 1, slots := 400, locals := 15 } (PC D dA K V sz [.ref t, .int 1, .int 400]) (HQv D dA K (fun K1 V1 => (∀ b, K b ≠ none → b ≠ t → V1 b = V b) ∧ (V1 t 0 = .int 1) ∧ (V1 t 1 = .int 400) ∧ (∃ q, V1 t 2 = .ref q ∧ K1 q = some (1, 400)) ∧ (V1 t 3 = .int 0))) 1 400 (AK K sz) := by
  refine th_body (by decide +kernel) (Nat.le_of_ble_eq_true rfl) (fun pZ eZ sZ mZ belowZ methZ cZ C hR hsz hnm ls hl => ?_)
  have C : CX pZ sZ mZ [.ref t, .int 1, .int 400].toArray methZ cZ cX8_init 3 (none : Option Jvm.ClassFile.FieldType) RX8 D dA := C
  have hx := C.1; have hb := C.2.1
  have hl : lv_has ls 3 [(0, .ref t), (1, .int 1), (2, .int 400)] := hl
  subst hsz
  have hS : ST D dA K sZ.heap K V sZ.heap [] := ST.rf hR
  refine lv_aload_n hx hb dX8_init_0 rfl (lv_at hl 0 rfl) ?_
  refine W.objInit hx hb C.2.2.2.2.2.1 (C.2.2.2.2.2.2.1 _ gw_103) (C.2.2.2.2.2.2.1 _ gw_27) (C.2.2.2.2.2.2.1 _ gw_28) rfl (by rw [C.2.2.1]; exact hl.1) rfl dX8_init_1 (Nat.le_of_ble_eq_true rfl) (Nat.le_of_ble_eq_true rfl) ?_
  refine W.eq (g2 := F0 mZ 4 ls []) rfl ?_
  refine lv_aload_n hx hb dX8_init_4 rfl (lv_at hl 0 rfl) ?_
  refine lv_iconst (v := 0) hx hb dX8_init_5 (by decide) ?_
  refine th_put C hS hp0 fp_RX8_9 rfl rfl dX8_init_6 (fun V362 H locs1 hV363 hS => ?_)
  refine lv_aload_n hx hb dX8_init_9 rfl (lv_at hl 0 rfl) ?_
  refine lv_iload_n hx hb dX8_init_10 rfl (lv_at hl 1 rfl) ?_
  refine th_putF C hS hnm hp0 fp_RX8_15 rfl rfl dX8_init_11 (fun V364 H locs1 hV365 hS => ?_)
  refine lv_aload_n hx hb dX8_init_14 rfl (lv_at hl 0 rfl) ?_
  refine lv_iload_n hx hb dX8_init_15 rfl (lv_at hl 2 rfl) ?_
  refine th_putF C hS hnm hp0 fp_RX8_18 rfl rfl dX8_init_16 (fun V366 H locs1 hV367 hS => ?_)
  refine lv_aload_n hx hb dX8_init_19 rfl (lv_at hl 0 rfl) ?_
  refine lv_iconst (v := 0) hx hb dX8_init_20 (by decide) ?_
  refine lv_iload_n hx hb dX8_init_21 rfl (lv_at hl 1 rfl) ?_
  refine lv_iload_n hx hb dX8_init_22 rfl (lv_at hl 2 rfl) ?_
  refine lv_imul hx hb dX8_init_23 ?_
  refine th_is (w := .int 400) (by decide) ?_
  refine va_mmax hx hb (C.2.2.1.trans hl.1.symm) C.2.2.2.2.2.1 (C.2.2.2.2.2.2.1 _ gw_104) (C.2.2.2.2.2.2.1 _ gw_105) (C.2.2.2.2.2.2.1 _ gw_6) (C.2.2.2.2.2.2.1 _ gw_106) (Nat.le_of_ble_eq_true rfl) (Nat.le_of_ble_eq_true rfl) (Nat.le_of_ble_eq_true rfl) (Nat.le_of_ble_eq_true rfl) dX8_init_24 ?_
  refine th_is (w := .int 400) (by decide) ?_
  refine th_newa (atype := .int) C hS 0 (by decide) rfl gw_89 (fun _ _ h => h) (N := 400) li_400 (Nat.le_of_ble_eq_true rfl) (Nat.le_of_ble_eq_true rfl) (Nat.le_of_ble_eq_true rfl) dX8_init_27 (fun q368 K369 V370 H hq371 hK372 hVn373 hVo374 hS => ?_)
  have hE375 : ∀ a k, K a = some k → K369 a = some k := fun a k h => by rw [hK372, updK_ne (K_old h hq371)]; exact h
  have hK376 : K369 q368 = some (1, 400) := by rw [hK372]; exact updK_same
  refine W.widen (k := 1) (n := 400) (Nat.le_of_ble_eq_true rfl) (Nat.le_of_ble_eq_true rfl) ?_
  refine th_putF C hS hnm (hE375 _ _ hp0) fp_RX8_27 rfl rfl dX8_init_29 (fun V377 H locs1 hV378 hS => ?_)
  have hv379 : V366 t 0 = .int 1 := Eq.trans (uq_ne hV367 (Or.inr (by decide))) (uq_same hV365)
  have hv380 : V370 t 0 = .int 1 := Eq.trans (congrFun (hVo374 _ (K_ne (hE375 _ _ hp0) hK376 (by decide))) 0) hv379
  have hv381 : V377 t 0 = .int 1 := Eq.trans (uq_ne hV378 (Or.inr (by decide))) hv380
  have hv382 : V370 t 1 = .int 400 := Eq.trans (congrFun (hVo374 _ (K_ne (hE375 _ _ hp0) hK376 (by decide))) 1) (uq_same hV367)
  have hv383 : V377 t 1 = .int 400 := Eq.trans (uq_ne hV378 (Or.inr (by decide))) hv382
  have hv384 : V364 t 3 = .int 0 := Eq.trans (uq_ne hV365 (Or.inr (by decide))) (uq_same hV363)
  have hv385 : V366 t 3 = .int 0 := Eq.trans (uq_ne hV367 (Or.inr (by decide))) hv384
  have hv386 : V370 t 3 = .int 0 := Eq.trans (congrFun (hVo374 _ (K_ne (hE375 _ _ hp0) hK376 (by decide))) 3) hv385
  have hv387 : V377 t 3 = .int 0 := Eq.trans (uq_ne hV378 (Or.inr (by decide))) hv386
  exact th_retvH (post := fun K1 V1 => (∀ b, K b ≠ none → b ≠ t → V1 b = V b) ∧ (V1 t 0 = .int 1) ∧ (V1 t 1 = .int 400) ∧ (∃ q, V1 t 2 = .ref q ∧ K1 q = some (1, 400)) ∧ (V1 t 3 = .int 0)) (cells := 1) (slots := 400) (mc := 1) (ms := 400) C hS ⟨(fun b hb hm0 => Eq.trans (uq_other hV378 hm0) (Eq.trans (hVo374 _ (th_bold hb hq371)) (Eq.trans (uq_other hV367 hm0) (Eq.trans (uq_other hV365 hm0) ((uq_other hV363 hm0)))))), hv381, hv383, ⟨_, (uq_same hV378), hK376⟩, hv387⟩ (Nat.le_of_ble_eq_true rfl) (Nat.le_of_ble_eq_true rfl) dX8_init_32

set_option maxHeartbeats 4000000 in
set_option maxRecDepth 100000 in
theorem t_X8_init_2_8 {l : Launch} {D : va_G} {dA : Nat → ClassId} {K : Kmap} {V : Vmap} {sz : Nat} {t : Nat} (hp0 : K t = some (0, 7)) : Met l yX8_init (wsOf yX8_init cX8_init 3 (none : Option Jvm.ClassFile.FieldType)) { frames := 1, cells := 1, slots := 16, locals := 15 } (PC D dA K V sz [.ref t, .int 2, .int 8]) (HQv D dA K (fun K1 V1 => (∀ b, K b ≠ none → b ≠ t → V1 b = V b) ∧ (V1 t 0 = .int 2) ∧ (V1 t 1 = .int 8) ∧ (∃ q, V1 t 2 = .ref q ∧ K1 q = some (1, 16)) ∧ (V1 t 3 = .int 0))) 1 16 (AK K sz) := by
  refine th_body (by decide +kernel) (Nat.le_of_ble_eq_true rfl) (fun pZ eZ sZ mZ belowZ methZ cZ C hR hsz hnm ls hl => ?_)
  have C : CX pZ sZ mZ [.ref t, .int 2, .int 8].toArray methZ cZ cX8_init 3 (none : Option Jvm.ClassFile.FieldType) RX8 D dA := C
  have hx := C.1; have hb := C.2.1
  have hl : lv_has ls 3 [(0, .ref t), (1, .int 2), (2, .int 8)] := hl
  subst hsz
  have hS : ST D dA K sZ.heap K V sZ.heap [] := ST.rf hR
  refine lv_aload_n hx hb dX8_init_0 rfl (lv_at hl 0 rfl) ?_
  refine W.objInit hx hb C.2.2.2.2.2.1 (C.2.2.2.2.2.2.1 _ gw_103) (C.2.2.2.2.2.2.1 _ gw_27) (C.2.2.2.2.2.2.1 _ gw_28) rfl (by rw [C.2.2.1]; exact hl.1) rfl dX8_init_1 (Nat.le_of_ble_eq_true rfl) (Nat.le_of_ble_eq_true rfl) ?_
  refine W.eq (g2 := F0 mZ 4 ls []) rfl ?_
  refine lv_aload_n hx hb dX8_init_4 rfl (lv_at hl 0 rfl) ?_
  refine lv_iconst (v := 0) hx hb dX8_init_5 (by decide) ?_
  refine th_put C hS hp0 fp_RX8_9 rfl rfl dX8_init_6 (fun V388 H locs1 hV389 hS => ?_)
  refine lv_aload_n hx hb dX8_init_9 rfl (lv_at hl 0 rfl) ?_
  refine lv_iload_n hx hb dX8_init_10 rfl (lv_at hl 1 rfl) ?_
  refine th_putF C hS hnm hp0 fp_RX8_15 rfl rfl dX8_init_11 (fun V390 H locs1 hV391 hS => ?_)
  refine lv_aload_n hx hb dX8_init_14 rfl (lv_at hl 0 rfl) ?_
  refine lv_iload_n hx hb dX8_init_15 rfl (lv_at hl 2 rfl) ?_
  refine th_putF C hS hnm hp0 fp_RX8_18 rfl rfl dX8_init_16 (fun V392 H locs1 hV393 hS => ?_)
  refine lv_aload_n hx hb dX8_init_19 rfl (lv_at hl 0 rfl) ?_
  refine lv_iconst (v := 0) hx hb dX8_init_20 (by decide) ?_
  refine lv_iload_n hx hb dX8_init_21 rfl (lv_at hl 1 rfl) ?_
  refine lv_iload_n hx hb dX8_init_22 rfl (lv_at hl 2 rfl) ?_
  refine lv_imul hx hb dX8_init_23 ?_
  refine th_is (w := .int 16) (by decide) ?_
  refine va_mmax hx hb (C.2.2.1.trans hl.1.symm) C.2.2.2.2.2.1 (C.2.2.2.2.2.2.1 _ gw_104) (C.2.2.2.2.2.2.1 _ gw_105) (C.2.2.2.2.2.2.1 _ gw_6) (C.2.2.2.2.2.2.1 _ gw_106) (Nat.le_of_ble_eq_true rfl) (Nat.le_of_ble_eq_true rfl) (Nat.le_of_ble_eq_true rfl) (Nat.le_of_ble_eq_true rfl) dX8_init_24 ?_
  refine th_is (w := .int 16) (by decide) ?_
  refine th_newa (atype := .int) C hS 0 (by decide) rfl gw_89 (fun _ _ h => h) (N := 16) li_16 (Nat.le_of_ble_eq_true rfl) (Nat.le_of_ble_eq_true rfl) (Nat.le_of_ble_eq_true rfl) dX8_init_27 (fun q394 K395 V396 H hq397 hK398 hVn399 hVo400 hS => ?_)
  have hE401 : ∀ a k, K a = some k → K395 a = some k := fun a k h => by rw [hK398, updK_ne (K_old h hq397)]; exact h
  have hK402 : K395 q394 = some (1, 16) := by rw [hK398]; exact updK_same
  refine W.widen (k := 1) (n := 16) (Nat.le_of_ble_eq_true rfl) (Nat.le_of_ble_eq_true rfl) ?_
  refine th_putF C hS hnm (hE401 _ _ hp0) fp_RX8_27 rfl rfl dX8_init_29 (fun V403 H locs1 hV404 hS => ?_)
  have hv405 : V392 t 0 = .int 2 := Eq.trans (uq_ne hV393 (Or.inr (by decide))) (uq_same hV391)
  have hv406 : V396 t 0 = .int 2 := Eq.trans (congrFun (hVo400 _ (K_ne (hE401 _ _ hp0) hK402 (by decide))) 0) hv405
  have hv407 : V403 t 0 = .int 2 := Eq.trans (uq_ne hV404 (Or.inr (by decide))) hv406
  have hv408 : V396 t 1 = .int 8 := Eq.trans (congrFun (hVo400 _ (K_ne (hE401 _ _ hp0) hK402 (by decide))) 1) (uq_same hV393)
  have hv409 : V403 t 1 = .int 8 := Eq.trans (uq_ne hV404 (Or.inr (by decide))) hv408
  have hv410 : V390 t 3 = .int 0 := Eq.trans (uq_ne hV391 (Or.inr (by decide))) (uq_same hV389)
  have hv411 : V392 t 3 = .int 0 := Eq.trans (uq_ne hV393 (Or.inr (by decide))) hv410
  have hv412 : V396 t 3 = .int 0 := Eq.trans (congrFun (hVo400 _ (K_ne (hE401 _ _ hp0) hK402 (by decide))) 3) hv411
  have hv413 : V403 t 3 = .int 0 := Eq.trans (uq_ne hV404 (Or.inr (by decide))) hv412
  exact th_retvH (post := fun K1 V1 => (∀ b, K b ≠ none → b ≠ t → V1 b = V b) ∧ (V1 t 0 = .int 2) ∧ (V1 t 1 = .int 8) ∧ (∃ q, V1 t 2 = .ref q ∧ K1 q = some (1, 16)) ∧ (V1 t 3 = .int 0)) (cells := 1) (slots := 16) (mc := 1) (ms := 16) C hS ⟨(fun b hb hm0 => Eq.trans (uq_other hV404 hm0) (Eq.trans (hVo400 _ (th_bold hb hq397)) (Eq.trans (uq_other hV393 hm0) (Eq.trans (uq_other hV391 hm0) ((uq_other hV389 hm0)))))), hv407, hv409, ⟨_, (uq_same hV404), hK402⟩, hv413⟩ (Nat.le_of_ble_eq_true rfl) (Nat.le_of_ble_eq_true rfl) dX8_init_32

set_option maxHeartbeats 4000000 in
set_option maxRecDepth 100000 in
theorem t_X8_init_3_20 {l : Launch} {D : va_G} {dA : Nat → ClassId} {K : Kmap} {V : Vmap} {sz : Nat} {t : Nat} (hp0 : K t = some (0, 7)) : Met l yX8_init (wsOf yX8_init cX8_init 3 (none : Option Jvm.ClassFile.FieldType)) { frames := 1, cells := 1, slots := 60, locals := 15 } (PC D dA K V sz [.ref t, .int 3, .int 20]) (HQv D dA K (fun K1 V1 => (∀ b, K b ≠ none → b ≠ t → V1 b = V b) ∧ (V1 t 0 = .int 3) ∧ (V1 t 1 = .int 20) ∧ (∃ q, V1 t 2 = .ref q ∧ K1 q = some (1, 60)) ∧ (V1 t 3 = .int 0))) 1 60 (AK K sz) := by
  refine th_body (by decide +kernel) (Nat.le_of_ble_eq_true rfl) (fun pZ eZ sZ mZ belowZ methZ cZ C hR hsz hnm ls hl => ?_)
  have C : CX pZ sZ mZ [.ref t, .int 3, .int 20].toArray methZ cZ cX8_init 3 (none : Option Jvm.ClassFile.FieldType) RX8 D dA := C
  have hx := C.1; have hb := C.2.1
  have hl : lv_has ls 3 [(0, .ref t), (1, .int 3), (2, .int 20)] := hl
  subst hsz
  have hS : ST D dA K sZ.heap K V sZ.heap [] := ST.rf hR
  refine lv_aload_n hx hb dX8_init_0 rfl (lv_at hl 0 rfl) ?_
  refine W.objInit hx hb C.2.2.2.2.2.1 (C.2.2.2.2.2.2.1 _ gw_103) (C.2.2.2.2.2.2.1 _ gw_27) (C.2.2.2.2.2.2.1 _ gw_28) rfl (by rw [C.2.2.1]; exact hl.1) rfl dX8_init_1 (Nat.le_of_ble_eq_true rfl) (Nat.le_of_ble_eq_true rfl) ?_
  refine W.eq (g2 := F0 mZ 4 ls []) rfl ?_
  refine lv_aload_n hx hb dX8_init_4 rfl (lv_at hl 0 rfl) ?_
  refine lv_iconst (v := 0) hx hb dX8_init_5 (by decide) ?_
  refine th_put C hS hp0 fp_RX8_9 rfl rfl dX8_init_6 (fun V414 H locs1 hV415 hS => ?_)
  refine lv_aload_n hx hb dX8_init_9 rfl (lv_at hl 0 rfl) ?_
  refine lv_iload_n hx hb dX8_init_10 rfl (lv_at hl 1 rfl) ?_
  refine th_putF C hS hnm hp0 fp_RX8_15 rfl rfl dX8_init_11 (fun V416 H locs1 hV417 hS => ?_)
  refine lv_aload_n hx hb dX8_init_14 rfl (lv_at hl 0 rfl) ?_
  refine lv_iload_n hx hb dX8_init_15 rfl (lv_at hl 2 rfl) ?_
  refine th_putF C hS hnm hp0 fp_RX8_18 rfl rfl dX8_init_16 (fun V418 H locs1 hV419 hS => ?_)
  refine lv_aload_n hx hb dX8_init_19 rfl (lv_at hl 0 rfl) ?_
  refine lv_iconst (v := 0) hx hb dX8_init_20 (by decide) ?_
  refine lv_iload_n hx hb dX8_init_21 rfl (lv_at hl 1 rfl) ?_
  refine lv_iload_n hx hb dX8_init_22 rfl (lv_at hl 2 rfl) ?_
  refine lv_imul hx hb dX8_init_23 ?_
  refine th_is (w := .int 60) (by decide) ?_
  refine va_mmax hx hb (C.2.2.1.trans hl.1.symm) C.2.2.2.2.2.1 (C.2.2.2.2.2.2.1 _ gw_104) (C.2.2.2.2.2.2.1 _ gw_105) (C.2.2.2.2.2.2.1 _ gw_6) (C.2.2.2.2.2.2.1 _ gw_106) (Nat.le_of_ble_eq_true rfl) (Nat.le_of_ble_eq_true rfl) (Nat.le_of_ble_eq_true rfl) (Nat.le_of_ble_eq_true rfl) dX8_init_24 ?_
  refine th_is (w := .int 60) (by decide) ?_
  refine th_newa (atype := .int) C hS 0 (by decide) rfl gw_89 (fun _ _ h => h) (N := 60) li_60 (Nat.le_of_ble_eq_true rfl) (Nat.le_of_ble_eq_true rfl) (Nat.le_of_ble_eq_true rfl) dX8_init_27 (fun q420 K421 V422 H hq423 hK424 hVn425 hVo426 hS => ?_)
  have hE427 : ∀ a k, K a = some k → K421 a = some k := fun a k h => by rw [hK424, updK_ne (K_old h hq423)]; exact h
  have hK428 : K421 q420 = some (1, 60) := by rw [hK424]; exact updK_same
  refine W.widen (k := 1) (n := 60) (Nat.le_of_ble_eq_true rfl) (Nat.le_of_ble_eq_true rfl) ?_
  refine th_putF C hS hnm (hE427 _ _ hp0) fp_RX8_27 rfl rfl dX8_init_29 (fun V429 H locs1 hV430 hS => ?_)
  have hv431 : V418 t 0 = .int 3 := Eq.trans (uq_ne hV419 (Or.inr (by decide))) (uq_same hV417)
  have hv432 : V422 t 0 = .int 3 := Eq.trans (congrFun (hVo426 _ (K_ne (hE427 _ _ hp0) hK428 (by decide))) 0) hv431
  have hv433 : V429 t 0 = .int 3 := Eq.trans (uq_ne hV430 (Or.inr (by decide))) hv432
  have hv434 : V422 t 1 = .int 20 := Eq.trans (congrFun (hVo426 _ (K_ne (hE427 _ _ hp0) hK428 (by decide))) 1) (uq_same hV419)
  have hv435 : V429 t 1 = .int 20 := Eq.trans (uq_ne hV430 (Or.inr (by decide))) hv434
  have hv436 : V416 t 3 = .int 0 := Eq.trans (uq_ne hV417 (Or.inr (by decide))) (uq_same hV415)
  have hv437 : V418 t 3 = .int 0 := Eq.trans (uq_ne hV419 (Or.inr (by decide))) hv436
  have hv438 : V422 t 3 = .int 0 := Eq.trans (congrFun (hVo426 _ (K_ne (hE427 _ _ hp0) hK428 (by decide))) 3) hv437
  have hv439 : V429 t 3 = .int 0 := Eq.trans (uq_ne hV430 (Or.inr (by decide))) hv438
  exact th_retvH (post := fun K1 V1 => (∀ b, K b ≠ none → b ≠ t → V1 b = V b) ∧ (V1 t 0 = .int 3) ∧ (V1 t 1 = .int 20) ∧ (∃ q, V1 t 2 = .ref q ∧ K1 q = some (1, 60)) ∧ (V1 t 3 = .int 0)) (cells := 1) (slots := 60) (mc := 1) (ms := 60) C hS ⟨(fun b hb hm0 => Eq.trans (uq_other hV430 hm0) (Eq.trans (hVo426 _ (th_bold hb hq423)) (Eq.trans (uq_other hV419 hm0) (Eq.trans (uq_other hV417 hm0) ((uq_other hV415 hm0)))))), hv433, hv435, ⟨_, (uq_same hV430), hK428⟩, hv439⟩ (Nat.le_of_ble_eq_true rfl) (Nat.le_of_ble_eq_true rfl) dX8_init_32

set_option maxHeartbeats 4000000 in
set_option maxRecDepth 100000 in
theorem t_X2_init {l : Launch} {D : va_G} {dA : Nat → ClassId} {K : Kmap} {V : Vmap} {sz : Nat} {p1 : Nat} {d : Int32} {d_i : Int} (iz_d : d.toInt = d_i) (hp0 : K p1 = some (0, 2)) : Met l yX2_init (wsOf yX2_init cX2_init 2 (none : Option Jvm.ClassFile.FieldType)) { frames := 1, cells := 2, slots := 27, locals := 22 } (PC D dA K V sz [.ref p1, .int d]) (HQv D dA K (fun K1 V1 => (∀ b, K b ≠ none → b ≠ p1 → V1 b = V b))) 2 27 (AK K sz) := by
  refine th_body (by decide +kernel) (Nat.le_of_ble_eq_true rfl) (fun pZ eZ sZ mZ belowZ methZ cZ C hR hsz hnm ls hl => ?_)
  have C : CX pZ sZ mZ [.ref p1, .int d].toArray methZ cZ cX2_init 2 (none : Option Jvm.ClassFile.FieldType) RX2 D dA := C
  have hx := C.1; have hb := C.2.1
  have hl : lv_has ls 2 [(0, .ref p1), (1, .int d)] := hl
  subst hsz
  have hS : ST D dA K sZ.heap K V sZ.heap [] := ST.rf hR
  have r_d := th_rng d; rw [iz_d] at r_d
  refine lv_aload_n hx hb dX2_init_0 rfl (lv_at hl 0 rfl) ?_
  refine W.objInit hx hb C.2.2.2.2.2.1 (C.2.2.2.2.2.2.1 _ gw_329) (C.2.2.2.2.2.2.1 _ gw_27) (C.2.2.2.2.2.2.1 _ gw_28) rfl (by rw [C.2.2.1]; exact hl.1) rfl dX2_init_1 (Nat.le_of_ble_eq_true rfl) (Nat.le_of_ble_eq_true rfl) ?_
  refine W.eq (g2 := F0 mZ 4 ls []) rfl ?_
  refine lv_aload_n hx hb dX2_init_4 rfl (lv_at hl 0 rfl) ?_
  refine lv_iconst (v := 0) hx hb dX2_init_5 (by decide) ?_
  refine th_put C hS hp0 fp_RX2_9 rfl rfl dX2_init_6 (fun V440 H locs1 hV441 hS => ?_)
  refine lv_aload_n hx hb dX2_init_9 rfl (lv_at hl 0 rfl) ?_
  refine lv_iconst (v := 0) hx hb dX2_init_10 (by decide) ?_
  refine th_put C hS hp0 fp_RX2_15 rfl rfl dX2_init_11 (fun V442 H locs1 hV443 hS => ?_)
  refine lv_aload_n hx hb dX2_init_14 rfl (lv_at hl 0 rfl) ?_
  refine lv_bipush (v := 20) hx hb dX2_init_15 (by decide) ?_
  refine th_newa (atype := .int) C hS 0 (by decide) rfl gw_89 (fun _ _ h => h) (N := 20) li_20 (Nat.le_of_ble_eq_true rfl) (Nat.le_of_ble_eq_true rfl) (Nat.le_of_ble_eq_true rfl) dX2_init_17 (fun q444 K445 V446 H hq447 hK448 hVn449 hVo450 hS => ?_)
  have hE451 : ∀ a k, K a = some k → K445 a = some k := fun a k h => by rw [hK448, updK_ne (K_old h hq447)]; exact h
  have hK452 : K445 q444 = some (1, 20) := by rw [hK448]; exact updK_same
  refine W.widen (k := 1) (n := 20) (Nat.le_of_ble_eq_true rfl) (Nat.le_of_ble_eq_true rfl) ?_
  refine th_putF C hS hnm (hE451 _ _ hp0) fp_RX2_18 rfl rfl dX2_init_19 (fun V453 H locs1 hV454 hS => ?_)
  refine lv_aload_n hx hb dX2_init_22 rfl (lv_at hl 0 rfl) ?_
  refine lv_bipush (v := 7) hx hb dX2_init_23 (by decide) ?_
  refine th_newa (atype := .int) C hS 0 (by decide) rfl gw_89 (fun _ _ h => h) (N := 7) li_7 (Nat.le_of_ble_eq_true rfl) (Nat.le_of_ble_eq_true rfl) (Nat.le_of_ble_eq_true rfl) dX2_init_25 (fun q455 K456 V457 H hq458 hK459 hVn460 hVo461 hS => ?_)
  have hE462 : ∀ a k, K445 a = some k → K456 a = some k := fun a k h => by rw [hK459, updK_ne (K_old h hq458)]; exact h
  have hK463 : K456 q455 = some (1, 7) := by rw [hK459]; exact updK_same
  refine W.widen (k := 2) (n := 27) (Nat.le_of_ble_eq_true rfl) (Nat.le_of_ble_eq_true rfl) ?_
  refine th_putF C hS hnm (hE462 _ _ (hE451 _ _ hp0)) fp_RX2_22 rfl rfl dX2_init_27 (fun V464 H locs1 hV465 hS => ?_)
  refine lv_aload_n hx hb dX2_init_30 rfl (lv_at hl 0 rfl) ?_
  refine lv_iload_n hx hb dX2_init_31 rfl (lv_at hl 1 rfl) ?_
  refine th_put C hS (hE462 _ _ (hE451 _ _ hp0)) fp_RX2_25 rfl rfl dX2_init_32 (fun V466 H locs1 hV467 hS => ?_)
  refine lv_aload_n hx hb dX2_init_35 rfl (lv_at hl 0 rfl) ?_
  have hv468 : V457 p1 3 = .ref q444 := Eq.trans (congrFun (hVo461 _ (K_ne (hE462 _ _ (hE451 _ _ hp0)) hK463 (by decide))) 3) (uq_same hV454)
  have hv469 : V464 p1 3 = .ref q444 := Eq.trans (uq_ne hV465 (Or.inr (by decide))) hv468
  have hv470 : V466 p1 3 = .ref q444 := Eq.trans (uq_ne hV467 (Or.inr (by decide))) hv469
  refine th_get C hS.1 (hE462 _ _ (hE451 _ _ hp0)) fl_RX2_18 hv470 dX2_init_36 ?_
  refine lv_iconst (v := (-1)) hx hb dX2_init_39 (by decide) ?_
  refine th_govH hS rfl (th_runS (As := [.ref q444, .int (-1)]) (rest := []) C hS.1 gS_RX2_28 (t_X4_fill li_n1 (hE462 _ _ hK452) (by decide)) hl rfl rfl rfl rfl ⟨Nat.le_of_ble_eq_true rfl, Nat.le_of_ble_eq_true rfl⟩ (Nat.le_of_ble_eq_true rfl) ⟨Nat.le_of_ble_eq_true rfl, Nat.le_of_ble_eq_true rfl⟩ dX2_init_40) (fun K473 V474 H locs1 hq472 hE475 hS => ?_)
  obtain ⟨rfl, hF476⟩ := hq472
  exact th_retvH (post := fun K1 V1 => (∀ b, K b ≠ none → b ≠ p1 → V1 b = V b)) (cells := 2) (slots := 27) (mc := 2) (ms := 27) C hS (fun b hb hm0 => Eq.trans (hF476 _ (th_some hE462 (th_some hE451 hb)) (th_bold hb hq447)) (Eq.trans (uq_other hV467 hm0) (Eq.trans (uq_other hV465 hm0) (Eq.trans (hVo461 _ (th_bold (th_some hE451 hb) hq458)) (Eq.trans (uq_other hV454 hm0) (Eq.trans (hVo450 _ (th_bold hb hq447)) (Eq.trans (uq_other hV443 hm0) ((uq_other hV441 hm0))))))))) (Nat.le_of_ble_eq_true rfl) (Nat.le_of_ble_eq_true rfl) dX2_init_43

set_option maxHeartbeats 4000000 in
set_option maxRecDepth 100000 in
theorem t_X3_init_3 {l : Launch} {D : va_G} {dA : Nat → ClassId} {K : Kmap} {V : Vmap} {sz : Nat} {p1 : Nat} {owner first last rank : Int32} {owner_i first_i last_i rank_i : Int} (iz_owner : owner.toInt = owner_i) (iz_first : first.toInt = first_i) (iz_last : last.toInt = last_i) (iz_rank : rank.toInt = rank_i) (hp0 : K p1 = some (0, 3)) : Met l yX3_init (wsOf yX3_init cX3_init 6 (none : Option Jvm.ClassFile.FieldType)) { frames := 1, cells := 0, slots := 0, locals := 12 } (PC D dA K V sz [.ref p1, .int 3, .int owner, .int first, .int last, .int rank]) (HQv D dA K (fun K1 V1 => (∀ b, K b ≠ none → b ≠ p1 → V1 b = V b))) 0 0 (AK K sz) := by
  refine th_body (by decide +kernel) (Nat.le_of_ble_eq_true rfl) (fun pZ eZ sZ mZ belowZ methZ cZ C hR hsz hnm ls hl => ?_)
  have C : CX pZ sZ mZ [.ref p1, .int 3, .int owner, .int first, .int last, .int rank].toArray methZ cZ cX3_init 6 (none : Option Jvm.ClassFile.FieldType) RX3 D dA := C
  have hx := C.1; have hb := C.2.1
  have hl : lv_has ls 6 [(0, .ref p1), (1, .int 3), (2, .int owner), (3, .int first), (4, .int last), (5, .int rank)] := hl
  subst hsz
  have hS : ST D dA K sZ.heap K V sZ.heap [] := ST.rf hR
  have r_owner := th_rng owner; rw [iz_owner] at r_owner
  have r_first := th_rng first; rw [iz_first] at r_first
  have r_last := th_rng last; rw [iz_last] at r_last
  have r_rank := th_rng rank; rw [iz_rank] at r_rank
  refine lv_aload_n hx hb dX3_init_0 rfl (lv_at hl 0 rfl) ?_
  refine W.objInit hx hb C.2.2.2.2.2.1 (C.2.2.2.2.2.2.1 _ gw_429) (C.2.2.2.2.2.2.1 _ gw_27) (C.2.2.2.2.2.2.1 _ gw_28) rfl (by rw [C.2.2.1]; exact hl.1) rfl dX3_init_1 (Nat.le_of_ble_eq_true rfl) (Nat.le_of_ble_eq_true rfl) ?_
  refine W.eq (g2 := F0 mZ 4 ls []) rfl ?_
  refine lv_aload_n hx hb dX3_init_4 rfl (lv_at hl 0 rfl) ?_
  refine lv_iconst (v := 0) hx hb dX3_init_5 (by decide) ?_
  refine th_put C hS hp0 fp_RX3_9 rfl rfl dX3_init_6 (fun V478 H locs1 hV479 hS => ?_)
  refine lv_aload_n hx hb dX3_init_9 rfl (lv_at hl 0 rfl) ?_
  refine lv_iconst (v := 0) hx hb dX3_init_10 (by decide) ?_
  refine th_put C hS hp0 fp_RX3_15 rfl rfl dX3_init_11 (fun V480 H locs1 hV481 hS => ?_)
  refine lv_aload_n hx hb dX3_init_14 rfl (lv_at hl 0 rfl) ?_
  refine lv_iconst (v := 0) hx hb dX3_init_15 (by decide) ?_
  refine th_put C hS hp0 fp_RX3_19 rfl rfl dX3_init_16 (fun V482 H locs1 hV483 hS => ?_)
  refine lv_aload_n hx hb dX3_init_19 rfl (lv_at hl 0 rfl) ?_
  refine lv_iconst (v := 0) hx hb dX3_init_20 (by decide) ?_
  refine th_put C hS hp0 fp_RX3_22 rfl rfl dX3_init_21 (fun V484 H locs1 hV485 hS => ?_)
  refine lv_aload_n hx hb dX3_init_24 rfl (lv_at hl 0 rfl) ?_
  refine lv_iconst (v := 0) hx hb dX3_init_25 (by decide) ?_
  refine th_put C hS hp0 fp_RX3_25 rfl rfl dX3_init_26 (fun V486 H locs1 hV487 hS => ?_)
  refine lv_aload_n hx hb dX3_init_29 rfl (lv_at hl 0 rfl) ?_
  refine lv_iconst (v := 0) hx hb dX3_init_30 (by decide) ?_
  refine th_put C hS hp0 fp_RX3_28 rfl rfl dX3_init_31 (fun V488 H locs1 hV489 hS => ?_)
  refine lv_aload_n hx hb dX3_init_34 rfl (lv_at hl 0 rfl) ?_
  refine lv_iconst (v := 0) hx hb dX3_init_35 (by decide) ?_
  refine th_put C hS hp0 fp_RX3_31 rfl rfl dX3_init_36 (fun V490 H locs1 hV491 hS => ?_)
  refine lv_aload_n hx hb dX3_init_39 rfl (lv_at hl 0 rfl) ?_
  refine lv_iconst (v := 0) hx hb dX3_init_40 (by decide) ?_
  refine th_put C hS hp0 fp_RX3_34 rfl rfl dX3_init_41 (fun V492 H locs1 hV493 hS => ?_)
  refine lv_aload_n hx hb dX3_init_44 rfl (lv_at hl 0 rfl) ?_
  refine lv_iload_n hx hb dX3_init_45 rfl (lv_at hl 1 rfl) ?_
  refine th_putF C hS hnm hp0 fp_RX3_37 rfl rfl dX3_init_46 (fun V494 H locs1 hV495 hS => ?_)
  refine lv_aload_n hx hb dX3_init_49 rfl (lv_at hl 0 rfl) ?_
  refine lv_iload_n hx hb dX3_init_50 rfl (lv_at hl 2 rfl) ?_
  refine th_putF C hS hnm hp0 fp_RX3_40 rfl rfl dX3_init_51 (fun V496 H locs1 hV497 hS => ?_)
  refine lv_aload_n hx hb dX3_init_54 rfl (lv_at hl 0 rfl) ?_
  refine lv_iload_n hx hb dX3_init_55 rfl (lv_at hl 3 rfl) ?_
  refine th_put C hS hp0 fp_RX3_43 rfl rfl dX3_init_56 (fun V498 H locs1 hV499 hS => ?_)
  refine lv_aload_n hx hb dX3_init_59 rfl (lv_at hl 0 rfl) ?_
  refine lv_iload hx hb dX3_init_60 (lv_at hl 4 rfl) ?_
  refine th_putF C hS hnm hp0 fp_RX3_46 rfl rfl dX3_init_62 (fun V500 H locs1 hV501 hS => ?_)
  refine lv_aload_n hx hb dX3_init_65 rfl (lv_at hl 0 rfl) ?_
  refine lv_iload hx hb dX3_init_66 (lv_at hl 5 rfl) ?_
  refine th_put C hS hp0 fp_RX3_49 rfl rfl dX3_init_68 (fun V502 H locs1 hV503 hS => ?_)
  refine lv_aload_n hx hb dX3_init_71 rfl (lv_at hl 0 rfl) ?_
  refine lv_iload_n hx hb dX3_init_72 rfl (lv_at hl 1 rfl) ?_
  refine lv_iconst (v := 1) hx hb dX3_init_73 (by decide) ?_
  refine th_icmp_ne (X := 3) (Y := 1) (tgt := 83) hx hb dX3_init_74 (by decide) li_3 li_1 (fun c504 => ?_) (fun c504 => absurd c504 (by omega))
  refine lv_iload_n hx hb dX3_init_83 rfl (lv_at hl 1 rfl) ?_
  refine lv_iconst (v := 5) hx hb dX3_init_84 (by decide) ?_
  refine th_icmp_ne (X := 3) (Y := 5) (tgt := 95) hx hb dX3_init_85 (by decide) li_3 li_5 (fun c505 => ?_) (fun c505 => absurd c505 (by omega))
  refine lv_null hx hb dX3_init_95 ?_
  refine th_putF C hS hnm hp0 fp_RX3_52 rfl rfl dX3_init_96 (fun V506 H locs1 hV507 hS => ?_)
  refine lv_aload_n hx hb dX3_init_99 rfl (lv_at hl 0 rfl) ?_
  refine lv_iload_n hx hb dX3_init_100 rfl (lv_at hl 1 rfl) ?_
  refine lv_iconst (v := 5) hx hb dX3_init_101 (by decide) ?_
  refine th_icmp_ne (X := 3) (Y := 5) (tgt := 112) hx hb dX3_init_102 (by decide) li_3 li_5 (fun c508 => ?_) (fun c508 => absurd c508 (by omega))
  refine lv_null hx hb dX3_init_112 ?_
  refine th_putF C hS hnm hp0 fp_RX3_56 rfl rfl dX3_init_113 (fun V509 H locs1 hV510 hS => ?_)
  refine lv_aload_n hx hb dX3_init_116 rfl (lv_at hl 0 rfl) ?_
  refine lv_iload_n hx hb dX3_init_117 rfl (lv_at hl 1 rfl) ?_
  refine lv_iconst (v := 4) hx hb dX3_init_118 (by decide) ?_
  refine th_icmp_ne (X := 3) (Y := 4) (tgt := 135) hx hb dX3_init_119 (by decide) li_3 li_4 (fun c511 => ?_) (fun c511 => absurd c511 (by omega))
  refine lv_null hx hb dX3_init_135 ?_
  refine th_putF C hS hnm hp0 fp_RX3_64 rfl rfl dX3_init_136 (fun V512 H locs1 hV513 hS => ?_)
  refine lv_iload_n hx hb dX3_init_139 rfl (lv_at hl 1 rfl) ?_
  refine lv_iconst (v := 5) hx hb dX3_init_140 (by decide) ?_
  refine th_icmp_ne (X := 3) (Y := 5) (tgt := 152) hx hb dX3_init_141 (by decide) li_3 li_5 (fun c514 => ?_) (fun c514 => absurd c514 (by omega))
  exact th_retvH (post := fun K1 V1 => (∀ b, K b ≠ none → b ≠ p1 → V1 b = V b)) (cells := 0) (slots := 0) (mc := 0) (ms := 0) C hS (fun b hb hm0 => Eq.trans (uq_other hV513 hm0) (Eq.trans (uq_other hV510 hm0) (Eq.trans (uq_other hV507 hm0) (Eq.trans (uq_other hV503 hm0) (Eq.trans (uq_other hV501 hm0) (Eq.trans (uq_other hV499 hm0) (Eq.trans (uq_other hV497 hm0) (Eq.trans (uq_other hV495 hm0) (Eq.trans (uq_other hV493 hm0) (Eq.trans (uq_other hV491 hm0) (Eq.trans (uq_other hV489 hm0) (Eq.trans (uq_other hV487 hm0) (Eq.trans (uq_other hV485 hm0) (Eq.trans (uq_other hV483 hm0) (Eq.trans (uq_other hV481 hm0) ((uq_other hV479 hm0))))))))))))))))) (Nat.le_of_ble_eq_true rfl) (Nat.le_of_ble_eq_true rfl) dX3_init_152

set_option maxHeartbeats 4000000 in
set_option maxRecDepth 100000 in
theorem t_X3_init_4 {l : Launch} {D : va_G} {dA : Nat → ClassId} {K : Kmap} {V : Vmap} {sz : Nat} {p1 : Nat} {owner first last rank : Int32} {owner_i first_i last_i rank_i : Int} (iz_owner : owner.toInt = owner_i) (iz_first : first.toInt = first_i) (iz_last : last.toInt = last_i) (iz_rank : rank.toInt = rank_i) (hp0 : K p1 = some (0, 3)) : Met l yX3_init (wsOf yX3_init cX3_init 6 (none : Option Jvm.ClassFile.FieldType)) { frames := 2, cells := 2, slots := 20, locals := 37 } (PC D dA K V sz [.ref p1, .int 4, .int owner, .int first, .int last, .int rank]) (HQv D dA K (fun K1 V1 => (∀ b, K b ≠ none → b ≠ p1 → V1 b = V b))) 2 20 (AK K sz) := by
  refine th_body (by decide +kernel) (Nat.le_of_ble_eq_true rfl) (fun pZ eZ sZ mZ belowZ methZ cZ C hR hsz hnm ls hl => ?_)
  have C : CX pZ sZ mZ [.ref p1, .int 4, .int owner, .int first, .int last, .int rank].toArray methZ cZ cX3_init 6 (none : Option Jvm.ClassFile.FieldType) RX3 D dA := C
  have hx := C.1; have hb := C.2.1
  have hl : lv_has ls 6 [(0, .ref p1), (1, .int 4), (2, .int owner), (3, .int first), (4, .int last), (5, .int rank)] := hl
  subst hsz
  have hS : ST D dA K sZ.heap K V sZ.heap [] := ST.rf hR
  have r_owner := th_rng owner; rw [iz_owner] at r_owner
  have r_first := th_rng first; rw [iz_first] at r_first
  have r_last := th_rng last; rw [iz_last] at r_last
  have r_rank := th_rng rank; rw [iz_rank] at r_rank
  refine lv_aload_n hx hb dX3_init_0 rfl (lv_at hl 0 rfl) ?_
  refine W.objInit hx hb C.2.2.2.2.2.1 (C.2.2.2.2.2.2.1 _ gw_429) (C.2.2.2.2.2.2.1 _ gw_27) (C.2.2.2.2.2.2.1 _ gw_28) rfl (by rw [C.2.2.1]; exact hl.1) rfl dX3_init_1 (Nat.le_of_ble_eq_true rfl) (Nat.le_of_ble_eq_true rfl) ?_
  refine W.eq (g2 := F0 mZ 4 ls []) rfl ?_
  refine lv_aload_n hx hb dX3_init_4 rfl (lv_at hl 0 rfl) ?_
  refine lv_iconst (v := 0) hx hb dX3_init_5 (by decide) ?_
  refine th_put C hS hp0 fp_RX3_9 rfl rfl dX3_init_6 (fun V515 H locs1 hV516 hS => ?_)
  refine lv_aload_n hx hb dX3_init_9 rfl (lv_at hl 0 rfl) ?_
  refine lv_iconst (v := 0) hx hb dX3_init_10 (by decide) ?_
  refine th_put C hS hp0 fp_RX3_15 rfl rfl dX3_init_11 (fun V517 H locs1 hV518 hS => ?_)
  refine lv_aload_n hx hb dX3_init_14 rfl (lv_at hl 0 rfl) ?_
  refine lv_iconst (v := 0) hx hb dX3_init_15 (by decide) ?_
  refine th_put C hS hp0 fp_RX3_19 rfl rfl dX3_init_16 (fun V519 H locs1 hV520 hS => ?_)
  refine lv_aload_n hx hb dX3_init_19 rfl (lv_at hl 0 rfl) ?_
  refine lv_iconst (v := 0) hx hb dX3_init_20 (by decide) ?_
  refine th_put C hS hp0 fp_RX3_22 rfl rfl dX3_init_21 (fun V521 H locs1 hV522 hS => ?_)
  refine lv_aload_n hx hb dX3_init_24 rfl (lv_at hl 0 rfl) ?_
  refine lv_iconst (v := 0) hx hb dX3_init_25 (by decide) ?_
  refine th_put C hS hp0 fp_RX3_25 rfl rfl dX3_init_26 (fun V523 H locs1 hV524 hS => ?_)
  refine lv_aload_n hx hb dX3_init_29 rfl (lv_at hl 0 rfl) ?_
  refine lv_iconst (v := 0) hx hb dX3_init_30 (by decide) ?_
  refine th_put C hS hp0 fp_RX3_28 rfl rfl dX3_init_31 (fun V525 H locs1 hV526 hS => ?_)
  refine lv_aload_n hx hb dX3_init_34 rfl (lv_at hl 0 rfl) ?_
  refine lv_iconst (v := 0) hx hb dX3_init_35 (by decide) ?_
  refine th_put C hS hp0 fp_RX3_31 rfl rfl dX3_init_36 (fun V527 H locs1 hV528 hS => ?_)
  refine lv_aload_n hx hb dX3_init_39 rfl (lv_at hl 0 rfl) ?_
  refine lv_iconst (v := 0) hx hb dX3_init_40 (by decide) ?_
  refine th_put C hS hp0 fp_RX3_34 rfl rfl dX3_init_41 (fun V529 H locs1 hV530 hS => ?_)
  refine lv_aload_n hx hb dX3_init_44 rfl (lv_at hl 0 rfl) ?_
  refine lv_iload_n hx hb dX3_init_45 rfl (lv_at hl 1 rfl) ?_
  refine th_putF C hS hnm hp0 fp_RX3_37 rfl rfl dX3_init_46 (fun V531 H locs1 hV532 hS => ?_)
  refine lv_aload_n hx hb dX3_init_49 rfl (lv_at hl 0 rfl) ?_
  refine lv_iload_n hx hb dX3_init_50 rfl (lv_at hl 2 rfl) ?_
  refine th_putF C hS hnm hp0 fp_RX3_40 rfl rfl dX3_init_51 (fun V533 H locs1 hV534 hS => ?_)
  refine lv_aload_n hx hb dX3_init_54 rfl (lv_at hl 0 rfl) ?_
  refine lv_iload_n hx hb dX3_init_55 rfl (lv_at hl 3 rfl) ?_
  refine th_put C hS hp0 fp_RX3_43 rfl rfl dX3_init_56 (fun V535 H locs1 hV536 hS => ?_)
  refine lv_aload_n hx hb dX3_init_59 rfl (lv_at hl 0 rfl) ?_
  refine lv_iload hx hb dX3_init_60 (lv_at hl 4 rfl) ?_
  refine th_putF C hS hnm hp0 fp_RX3_46 rfl rfl dX3_init_62 (fun V537 H locs1 hV538 hS => ?_)
  refine lv_aload_n hx hb dX3_init_65 rfl (lv_at hl 0 rfl) ?_
  refine lv_iload hx hb dX3_init_66 (lv_at hl 5 rfl) ?_
  refine th_put C hS hp0 fp_RX3_49 rfl rfl dX3_init_68 (fun V539 H locs1 hV540 hS => ?_)
  refine lv_aload_n hx hb dX3_init_71 rfl (lv_at hl 0 rfl) ?_
  refine lv_iload_n hx hb dX3_init_72 rfl (lv_at hl 1 rfl) ?_
  refine lv_iconst (v := 1) hx hb dX3_init_73 (by decide) ?_
  refine th_icmp_ne (X := 4) (Y := 1) (tgt := 83) hx hb dX3_init_74 (by decide) li_4 li_1 (fun c541 => ?_) (fun c541 => absurd c541 (by omega))
  refine lv_iload_n hx hb dX3_init_83 rfl (lv_at hl 1 rfl) ?_
  refine lv_iconst (v := 5) hx hb dX3_init_84 (by decide) ?_
  refine th_icmp_ne (X := 4) (Y := 5) (tgt := 95) hx hb dX3_init_85 (by decide) li_4 li_5 (fun c542 => ?_) (fun c542 => absurd c542 (by omega))
  refine lv_null hx hb dX3_init_95 ?_
  refine th_putF C hS hnm hp0 fp_RX3_52 rfl rfl dX3_init_96 (fun V543 H locs1 hV544 hS => ?_)
  refine lv_aload_n hx hb dX3_init_99 rfl (lv_at hl 0 rfl) ?_
  refine lv_iload_n hx hb dX3_init_100 rfl (lv_at hl 1 rfl) ?_
  refine lv_iconst (v := 5) hx hb dX3_init_101 (by decide) ?_
  refine th_icmp_ne (X := 4) (Y := 5) (tgt := 112) hx hb dX3_init_102 (by decide) li_4 li_5 (fun c545 => ?_) (fun c545 => absurd c545 (by omega))
  refine lv_null hx hb dX3_init_112 ?_
  refine th_putF C hS hnm hp0 fp_RX3_56 rfl rfl dX3_init_113 (fun V546 H locs1 hV547 hS => ?_)
  refine lv_aload_n hx hb dX3_init_116 rfl (lv_at hl 0 rfl) ?_
  refine lv_iload_n hx hb dX3_init_117 rfl (lv_at hl 1 rfl) ?_
  refine lv_iconst (v := 4) hx hb dX3_init_118 (by decide) ?_
  refine th_icmp_ne (X := 4) (Y := 4) (tgt := 135) hx hb dX3_init_119 (by decide) li_4 li_4 (fun c548 => ?_) (fun c548 => ?_)
  · refine lv_null hx hb dX3_init_135 ?_
    refine th_putF C hS hnm hp0 fp_RX3_64 rfl rfl dX3_init_136 (fun V549 H locs1 hV550 hS => ?_)
    refine lv_iload_n hx hb dX3_init_139 rfl (lv_at hl 1 rfl) ?_
    refine lv_iconst (v := 5) hx hb dX3_init_140 (by decide) ?_
    refine th_icmp_ne (X := 4) (Y := 5) (tgt := 152) hx hb dX3_init_141 (by decide) li_4 li_5 (fun c551 => ?_) (fun c551 => absurd c551 (by omega))
    exact th_retvH (post := fun K1 V1 => (∀ b, K b ≠ none → b ≠ p1 → V1 b = V b)) (cells := 0) (slots := 0) (mc := 2) (ms := 20) C hS (fun b hb hm0 => Eq.trans (uq_other hV550 hm0) (Eq.trans (uq_other hV547 hm0) (Eq.trans (uq_other hV544 hm0) (Eq.trans (uq_other hV540 hm0) (Eq.trans (uq_other hV538 hm0) (Eq.trans (uq_other hV536 hm0) (Eq.trans (uq_other hV534 hm0) (Eq.trans (uq_other hV532 hm0) (Eq.trans (uq_other hV530 hm0) (Eq.trans (uq_other hV528 hm0) (Eq.trans (uq_other hV526 hm0) (Eq.trans (uq_other hV524 hm0) (Eq.trans (uq_other hV522 hm0) (Eq.trans (uq_other hV520 hm0) (Eq.trans (uq_other hV518 hm0) ((uq_other hV516 hm0))))))))))))))))) (Nat.le_of_ble_eq_true rfl) (Nat.le_of_ble_eq_true rfl) dX3_init_152
  · refine th_new (ci := 7) C hS (RX8, TX8, 4) tyX8 rfl lays_7 tyX8_ok gw_430 gw_99 gw_5 (Nat.le_of_ble_eq_true rfl) (Nat.le_of_ble_eq_true rfl) dX3_init_122 (fun q552 K553 V554 H hq555 hK556 hVn557 hVo558 hS => ?_)
    have hE559 : ∀ a k, K a = some k → K553 a = some k := fun a k h => by rw [hK556, updK_ne (K_old h hq555)]; exact h
    have hK560 : K553 q552 = some (0, 7) := by rw [hK556]; exact updK_same
    refine W.widen (k := 1) (n := 4) (Nat.le_of_ble_eq_true rfl) (Nat.le_of_ble_eq_true rfl) ?_
    refine lv_dup hx hb dX3_init_125 rfl ?_
    refine lv_iconst (v := 2) hx hb dX3_init_126 (by decide) ?_
    refine lv_bipush (v := 8) hx hb dX3_init_127 (by decide) ?_
    refine th_govH hS rfl (th_runI (As := [.int 2, .int 8]) (rest := [.ref q552, .ref p1]) C hS.1 gI_RX3_61 (t_X8_init_2_8 hK560) hl rfl rfl rfl rfl ⟨Nat.le_of_ble_eq_true rfl, Nat.le_of_ble_eq_true rfl⟩ (Nat.le_of_ble_eq_true rfl) ⟨Nat.le_of_ble_eq_true rfl, Nat.le_of_ble_eq_true rfl⟩ dX3_init_129) (fun K563 V564 H locs1 hq562 hE565 hS => ?_)
    obtain ⟨hF566, hA567, hA568, ⟨q570, hA569, hK571⟩, hA572⟩ := hq562
    refine W.widen (k := 2) (n := 20) (Nat.le_of_ble_eq_true rfl) (Nat.le_of_ble_eq_true rfl) ?_
    refine lv_goto (tgt := 136) hx hb dX3_init_132 (by decide) ?_
    refine th_putF C hS hnm (hE565 _ _ (hE559 _ _ hp0)) fp_RX3_64 rfl rfl dX3_init_136 (fun V574 H locs1 hV575 hS => ?_)
    refine lv_iload_n hx hb dX3_init_139 rfl (lv_at hl 1 rfl) ?_
    refine lv_iconst (v := 5) hx hb dX3_init_140 (by decide) ?_
    refine th_icmp_ne (X := 4) (Y := 5) (tgt := 152) hx hb dX3_init_141 (by decide) li_4 li_5 (fun c576 => ?_) (fun c576 => absurd c576 (by omega))
    exact th_retvH (post := fun K1 V1 => (∀ b, K b ≠ none → b ≠ p1 → V1 b = V b)) (cells := 2) (slots := 20) (mc := 2) (ms := 20) C hS (fun b hb hm0 => Eq.trans (uq_other hV575 hm0) (Eq.trans (hF566 _ (th_some hE559 hb) (th_bold hb hq555)) (Eq.trans (hVo558 _ (th_bold hb hq555)) (Eq.trans (uq_other hV547 hm0) (Eq.trans (uq_other hV544 hm0) (Eq.trans (uq_other hV540 hm0) (Eq.trans (uq_other hV538 hm0) (Eq.trans (uq_other hV536 hm0) (Eq.trans (uq_other hV534 hm0) (Eq.trans (uq_other hV532 hm0) (Eq.trans (uq_other hV530 hm0) (Eq.trans (uq_other hV528 hm0) (Eq.trans (uq_other hV526 hm0) (Eq.trans (uq_other hV524 hm0) (Eq.trans (uq_other hV522 hm0) (Eq.trans (uq_other hV520 hm0) (Eq.trans (uq_other hV518 hm0) ((uq_other hV516 hm0))))))))))))))))))) (Nat.le_of_ble_eq_true rfl) (Nat.le_of_ble_eq_true rfl) dX3_init_152

set_option maxHeartbeats 4000000 in
set_option maxRecDepth 100000 in
theorem t_X3_init_5 {l : Launch} {D : va_G} {dA : Nat → ClassId} {K : Kmap} {V : Vmap} {sz : Nat} {p1 : Nat} {owner first last rank : Int32} {owner_i first_i last_i rank_i : Int} (iz_owner : owner.toInt = owner_i) (iz_first : first.toInt = first_i) (iz_last : last.toInt = last_i) (iz_rank : rank.toInt = rank_i) (hp0 : K p1 = some (0, 3)) : Met l yX3_init (wsOf yX3_init cX3_init 6 (none : Option Jvm.ClassFile.FieldType)) { frames := 1, cells := 2, slots := 20, locals := 22 } (PC D dA K V sz [.ref p1, .int 5, .int owner, .int first, .int last, .int rank]) (HQv D dA K (fun K1 V1 => (∀ b, K b ≠ none → b ≠ p1 → V1 b = V b))) 2 20 (AK K sz) := by
  refine th_body (by decide +kernel) (Nat.le_of_ble_eq_true rfl) (fun pZ eZ sZ mZ belowZ methZ cZ C hR hsz hnm ls hl => ?_)
  have C : CX pZ sZ mZ [.ref p1, .int 5, .int owner, .int first, .int last, .int rank].toArray methZ cZ cX3_init 6 (none : Option Jvm.ClassFile.FieldType) RX3 D dA := C
  have hx := C.1; have hb := C.2.1
  have hl : lv_has ls 6 [(0, .ref p1), (1, .int 5), (2, .int owner), (3, .int first), (4, .int last), (5, .int rank)] := hl
  subst hsz
  have hS : ST D dA K sZ.heap K V sZ.heap [] := ST.rf hR
  have r_owner := th_rng owner; rw [iz_owner] at r_owner
  have r_first := th_rng first; rw [iz_first] at r_first
  have r_last := th_rng last; rw [iz_last] at r_last
  have r_rank := th_rng rank; rw [iz_rank] at r_rank
  refine lv_aload_n hx hb dX3_init_0 rfl (lv_at hl 0 rfl) ?_
  refine W.objInit hx hb C.2.2.2.2.2.1 (C.2.2.2.2.2.2.1 _ gw_429) (C.2.2.2.2.2.2.1 _ gw_27) (C.2.2.2.2.2.2.1 _ gw_28) rfl (by rw [C.2.2.1]; exact hl.1) rfl dX3_init_1 (Nat.le_of_ble_eq_true rfl) (Nat.le_of_ble_eq_true rfl) ?_
  refine W.eq (g2 := F0 mZ 4 ls []) rfl ?_
  refine lv_aload_n hx hb dX3_init_4 rfl (lv_at hl 0 rfl) ?_
  refine lv_iconst (v := 0) hx hb dX3_init_5 (by decide) ?_
  refine th_put C hS hp0 fp_RX3_9 rfl rfl dX3_init_6 (fun V577 H locs1 hV578 hS => ?_)
  refine lv_aload_n hx hb dX3_init_9 rfl (lv_at hl 0 rfl) ?_
  refine lv_iconst (v := 0) hx hb dX3_init_10 (by decide) ?_
  refine th_put C hS hp0 fp_RX3_15 rfl rfl dX3_init_11 (fun V579 H locs1 hV580 hS => ?_)
  refine lv_aload_n hx hb dX3_init_14 rfl (lv_at hl 0 rfl) ?_
  refine lv_iconst (v := 0) hx hb dX3_init_15 (by decide) ?_
  refine th_put C hS hp0 fp_RX3_19 rfl rfl dX3_init_16 (fun V581 H locs1 hV582 hS => ?_)
  refine lv_aload_n hx hb dX3_init_19 rfl (lv_at hl 0 rfl) ?_
  refine lv_iconst (v := 0) hx hb dX3_init_20 (by decide) ?_
  refine th_put C hS hp0 fp_RX3_22 rfl rfl dX3_init_21 (fun V583 H locs1 hV584 hS => ?_)
  refine lv_aload_n hx hb dX3_init_24 rfl (lv_at hl 0 rfl) ?_
  refine lv_iconst (v := 0) hx hb dX3_init_25 (by decide) ?_
  refine th_put C hS hp0 fp_RX3_25 rfl rfl dX3_init_26 (fun V585 H locs1 hV586 hS => ?_)
  refine lv_aload_n hx hb dX3_init_29 rfl (lv_at hl 0 rfl) ?_
  refine lv_iconst (v := 0) hx hb dX3_init_30 (by decide) ?_
  refine th_put C hS hp0 fp_RX3_28 rfl rfl dX3_init_31 (fun V587 H locs1 hV588 hS => ?_)
  refine lv_aload_n hx hb dX3_init_34 rfl (lv_at hl 0 rfl) ?_
  refine lv_iconst (v := 0) hx hb dX3_init_35 (by decide) ?_
  refine th_put C hS hp0 fp_RX3_31 rfl rfl dX3_init_36 (fun V589 H locs1 hV590 hS => ?_)
  refine lv_aload_n hx hb dX3_init_39 rfl (lv_at hl 0 rfl) ?_
  refine lv_iconst (v := 0) hx hb dX3_init_40 (by decide) ?_
  refine th_put C hS hp0 fp_RX3_34 rfl rfl dX3_init_41 (fun V591 H locs1 hV592 hS => ?_)
  refine lv_aload_n hx hb dX3_init_44 rfl (lv_at hl 0 rfl) ?_
  refine lv_iload_n hx hb dX3_init_45 rfl (lv_at hl 1 rfl) ?_
  refine th_putF C hS hnm hp0 fp_RX3_37 rfl rfl dX3_init_46 (fun V593 H locs1 hV594 hS => ?_)
  refine lv_aload_n hx hb dX3_init_49 rfl (lv_at hl 0 rfl) ?_
  refine lv_iload_n hx hb dX3_init_50 rfl (lv_at hl 2 rfl) ?_
  refine th_putF C hS hnm hp0 fp_RX3_40 rfl rfl dX3_init_51 (fun V595 H locs1 hV596 hS => ?_)
  refine lv_aload_n hx hb dX3_init_54 rfl (lv_at hl 0 rfl) ?_
  refine lv_iload_n hx hb dX3_init_55 rfl (lv_at hl 3 rfl) ?_
  refine th_put C hS hp0 fp_RX3_43 rfl rfl dX3_init_56 (fun V597 H locs1 hV598 hS => ?_)
  refine lv_aload_n hx hb dX3_init_59 rfl (lv_at hl 0 rfl) ?_
  refine lv_iload hx hb dX3_init_60 (lv_at hl 4 rfl) ?_
  refine th_putF C hS hnm hp0 fp_RX3_46 rfl rfl dX3_init_62 (fun V599 H locs1 hV600 hS => ?_)
  refine lv_aload_n hx hb dX3_init_65 rfl (lv_at hl 0 rfl) ?_
  refine lv_iload hx hb dX3_init_66 (lv_at hl 5 rfl) ?_
  refine th_put C hS hp0 fp_RX3_49 rfl rfl dX3_init_68 (fun V601 H locs1 hV602 hS => ?_)
  refine lv_aload_n hx hb dX3_init_71 rfl (lv_at hl 0 rfl) ?_
  refine lv_iload_n hx hb dX3_init_72 rfl (lv_at hl 1 rfl) ?_
  refine lv_iconst (v := 1) hx hb dX3_init_73 (by decide) ?_
  refine th_icmp_ne (X := 5) (Y := 1) (tgt := 83) hx hb dX3_init_74 (by decide) li_5 li_1 (fun c603 => ?_) (fun c603 => absurd c603 (by omega))
  refine lv_iload_n hx hb dX3_init_83 rfl (lv_at hl 1 rfl) ?_
  refine lv_iconst (v := 5) hx hb dX3_init_84 (by decide) ?_
  refine th_icmp_ne (X := 5) (Y := 5) (tgt := 95) hx hb dX3_init_85 (by decide) li_5 li_5 (fun c604 => absurd c604 (by omega)) (fun c604 => ?_)
  refine lv_bipush (v := 10) hx hb dX3_init_88 (by decide) ?_
  refine th_newa (atype := .int) C hS 0 (by decide) rfl gw_89 (fun _ _ h => h) (N := 10) li_10 (Nat.le_of_ble_eq_true rfl) (Nat.le_of_ble_eq_true rfl) (Nat.le_of_ble_eq_true rfl) dX3_init_90 (fun q605 K606 V607 H hq608 hK609 hVn610 hVo611 hS => ?_)
  have hE612 : ∀ a k, K a = some k → K606 a = some k := fun a k h => by rw [hK609, updK_ne (K_old h hq608)]; exact h
  have hK613 : K606 q605 = some (1, 10) := by rw [hK609]; exact updK_same
  refine W.widen (k := 1) (n := 10) (Nat.le_of_ble_eq_true rfl) (Nat.le_of_ble_eq_true rfl) ?_
  refine lv_goto (tgt := 96) hx hb dX3_init_92 (by decide) ?_
  refine th_putF C hS hnm (hE612 _ _ hp0) fp_RX3_52 rfl rfl dX3_init_96 (fun V614 H locs1 hV615 hS => ?_)
  refine lv_aload_n hx hb dX3_init_99 rfl (lv_at hl 0 rfl) ?_
  refine lv_iload_n hx hb dX3_init_100 rfl (lv_at hl 1 rfl) ?_
  refine lv_iconst (v := 5) hx hb dX3_init_101 (by decide) ?_
  refine th_icmp_ne (X := 5) (Y := 5) (tgt := 112) hx hb dX3_init_102 (by decide) li_5 li_5 (fun c616 => absurd c616 (by omega)) (fun c616 => ?_)
  refine lv_bipush (v := 10) hx hb dX3_init_105 (by decide) ?_
  refine th_newa (atype := .int) C hS 0 (by decide) rfl gw_89 (fun _ _ h => h) (N := 10) li_10 (Nat.le_of_ble_eq_true rfl) (Nat.le_of_ble_eq_true rfl) (Nat.le_of_ble_eq_true rfl) dX3_init_107 (fun q617 K618 V619 H hq620 hK621 hVn622 hVo623 hS => ?_)
  have hn625 : q605 ≠ q617 := K_old hK613 hq620
  have hE624 : ∀ a k, K606 a = some k → K618 a = some k := fun a k h => by rw [hK621, updK_ne (K_old h hq620)]; exact h
  have hK626 : K618 q617 = some (1, 10) := by rw [hK621]; exact updK_same
  refine W.widen (k := 2) (n := 20) (Nat.le_of_ble_eq_true rfl) (Nat.le_of_ble_eq_true rfl) ?_
  refine lv_goto (tgt := 113) hx hb dX3_init_109 (by decide) ?_
  refine th_putF C hS hnm (hE624 _ _ (hE612 _ _ hp0)) fp_RX3_56 rfl rfl dX3_init_113 (fun V627 H locs1 hV628 hS => ?_)
  refine lv_aload_n hx hb dX3_init_116 rfl (lv_at hl 0 rfl) ?_
  refine lv_iload_n hx hb dX3_init_117 rfl (lv_at hl 1 rfl) ?_
  refine lv_iconst (v := 4) hx hb dX3_init_118 (by decide) ?_
  refine th_icmp_ne (X := 5) (Y := 4) (tgt := 135) hx hb dX3_init_119 (by decide) li_5 li_4 (fun c629 => ?_) (fun c629 => absurd c629 (by omega))
  refine lv_null hx hb dX3_init_135 ?_
  refine th_putF C hS hnm (hE624 _ _ (hE612 _ _ hp0)) fp_RX3_64 rfl rfl dX3_init_136 (fun V630 H locs1 hV631 hS => ?_)
  refine lv_iload_n hx hb dX3_init_139 rfl (lv_at hl 1 rfl) ?_
  refine lv_iconst (v := 5) hx hb dX3_init_140 (by decide) ?_
  refine th_icmp_ne (X := 5) (Y := 5) (tgt := 152) hx hb dX3_init_141 (by decide) li_5 li_5 (fun c632 => absurd c632 (by omega)) (fun c632 => ?_)
  refine lv_aload_n hx hb dX3_init_144 rfl (lv_at hl 0 rfl) ?_
  have hv633 : V619 p1 13 = .ref q605 := Eq.trans (congrFun (hVo623 _ (K_ne (hE624 _ _ (hE612 _ _ hp0)) hK626 (by decide))) 13) (uq_same hV615)
  have hv634 : V627 p1 13 = .ref q605 := Eq.trans (uq_ne hV628 (Or.inr (by decide))) hv633
  have hv635 : V630 p1 13 = .ref q605 := Eq.trans (uq_ne hV631 (Or.inr (by decide))) hv634
  refine th_get C hS.1 (hE624 _ _ (hE612 _ _ hp0)) fl_RX3_52 hv635 dX3_init_145 ?_
  refine lv_iconst (v := (-1)) hx hb dX3_init_148 (by decide) ?_
  refine th_govH hS rfl (th_runS (As := [.ref q605, .int (-1)]) (rest := []) C hS.1 gS_RX3_68 (t_X4_fill li_n1 (hE624 _ _ hK613) (by decide)) hl rfl rfl rfl rfl ⟨Nat.le_of_ble_eq_true rfl, Nat.le_of_ble_eq_true rfl⟩ (Nat.le_of_ble_eq_true rfl) ⟨Nat.le_of_ble_eq_true rfl, Nat.le_of_ble_eq_true rfl⟩ dX3_init_149) (fun K638 V639 H locs1 hq637 hE640 hS => ?_)
  obtain ⟨rfl, hF641⟩ := hq637
  exact th_retvH (post := fun K1 V1 => (∀ b, K b ≠ none → b ≠ p1 → V1 b = V b)) (cells := 2) (slots := 20) (mc := 2) (ms := 20) C hS (fun b hb hm0 => Eq.trans (hF641 _ (th_some hE624 (th_some hE612 hb)) (th_bold hb hq608)) (Eq.trans (uq_other hV631 hm0) (Eq.trans (uq_other hV628 hm0) (Eq.trans (hVo623 _ (th_bold (th_some hE612 hb) hq620)) (Eq.trans (uq_other hV615 hm0) (Eq.trans (hVo611 _ (th_bold hb hq608)) (Eq.trans (uq_other hV602 hm0) (Eq.trans (uq_other hV600 hm0) (Eq.trans (uq_other hV598 hm0) (Eq.trans (uq_other hV596 hm0) (Eq.trans (uq_other hV594 hm0) (Eq.trans (uq_other hV592 hm0) (Eq.trans (uq_other hV590 hm0) (Eq.trans (uq_other hV588 hm0) (Eq.trans (uq_other hV586 hm0) (Eq.trans (uq_other hV584 hm0) (Eq.trans (uq_other hV582 hm0) (Eq.trans (uq_other hV580 hm0) ((uq_other hV578 hm0)))))))))))))))))))) (Nat.le_of_ble_eq_true rfl) (Nat.le_of_ble_eq_true rfl) dX3_init_152
