set_option maxHeartbeats 4000000 in
set_option maxRecDepth 100000 in
theorem law_case_0 {p : Program} {l : Launch} {e : Env} {s : State} {m : MethodId} {below : List Frame} {meth : Method} {c : Code} {b L : Nat} {xs : Nat → Int32} {D : va_G} {dA : Nat → ClassId} {K : Kmap} {V : Vmap} {H : Heap} {locs : List Loc} {ls : Array Slot} {x m0 : Nat} (hat : lw_At p s m meth c b L xs) (hKN : KN D dA s) (hL : L = 8) (hS : ST D dA kNone s.heap K V H locs) (FXh : FX K V x) (FMh : FM K V m0) (hl : lv_has ls 4 [(3, .int 0), (2, .ref m0), (1, .ref x), (0, .ref b)]) : W p l e room_1 s m #[Value.ref b] below meth c H locs 163 25899 (lw_Z below #[Value.ref b] s) (F0 m 292 ls []) := by
  have hx := hat.1; have hb := hat.2.1
  have C := law_cx hat hKN
  have hKx : K x = some (0, 10) := FX.kind FXh
  refine lv_aload_n hx hb dL_law_292 rfl (lv_at hl 2 rfl) ?_
  refine lv_aload_n hx hb dL_law_293 rfl (lv_at hl 3 rfl) ?_
  refine lv_iload_n hx hb dL_law_294 rfl (lv_at hl 0 rfl) ?_
  refine lv_iconst (v := 1) hx hb dL_law_295 (by decide) ?_
  refine lv_iadd hx hb dL_law_296 ?_
  refine th_is (w := .int 1) (by decide) ?_
  refine va_sld hx hb hat.2.2.2.2.2.2.1 hat.2.2.2.2.2.2.2.1 (law_nb hat) hS.2.1 (i := 1) (by rw [hL]; exact vp_in_iff.mpr (by decide +kernel)) dL_law_297 ?_
  refine th_is (w := .int (xs 1)) (congrArg (fun j => Value.int (xs j)) (by decide)) ?_
  refine lv_aload_n hx hb dL_law_298 rfl (lv_at hl 3 rfl) ?_
  refine lv_iload_n hx hb dL_law_299 rfl (lv_at hl 0 rfl) ?_
  refine lv_iconst (v := 2) hx hb dL_law_300 (by decide) ?_
  refine lv_iadd hx hb dL_law_301 ?_
  refine th_is (w := .int 2) (by decide) ?_
  refine va_sld hx hb hat.2.2.2.2.2.2.1 hat.2.2.2.2.2.2.2.1 (law_nb hat) hS.2.1 (i := 2) (by rw [hL]; exact vp_in_iff.mpr (by decide +kernel)) dL_law_302 ?_
  refine th_is (w := .int (xs 2)) (congrArg (fun j => Value.int (xs j)) (by decide)) ?_
  refine th_goiH hS rfl (th_runV (As := [.int (xs 1), .int (xs 2)]) (rest := []) C hS.1 (RX11, TX11, 20) rfl gV_RL_13 hKx (t_X11_ice rfl rfl FXh) hl rfl rfl rfl rfl ⟨Nat.le_of_ble_eq_true rfl, Nat.le_of_ble_eq_true rfl⟩ (Nat.le_of_ble_eq_true rfl) ⟨Nat.le_of_ble_eq_true rfl, Nat.le_of_ble_eq_true rfl⟩ dL_law_303) (fun r5641 K5643 V5644 H locs1 hq5642 hE5645 hS => ?_)
  obtain ⟨hF5646, hr5647⟩ := hq5642
  have FM5648 := FM.moved FMh hE5645 (hF5646 _ FMh.1)
  refine lv_aload_n hx hb dL_law_306 rfl (lv_at hl 1 rfl) ?_
  refine lv_aload_n hx hb dL_law_307 rfl (lv_at hl 3 rfl) ?_
  refine lv_iload_n hx hb dL_law_308 rfl (lv_at hl 0 rfl) ?_
  refine lv_iconst (v := 1) hx hb dL_law_309 (by decide) ?_
  refine lv_iadd hx hb dL_law_310 ?_
  refine th_is (w := .int 1) (by decide) ?_
  refine va_sld hx hb hat.2.2.2.2.2.2.1 hat.2.2.2.2.2.2.2.1 (law_nb hat) hS.2.1 (i := 1) (by rw [hL]; exact vp_in_iff.mpr (by decide +kernel)) dL_law_311 ?_
  refine th_is (w := .int (xs 1)) (congrArg (fun j => Value.int (xs j)) (by decide)) ?_
  refine lv_aload_n hx hb dL_law_312 rfl (lv_at hl 3 rfl) ?_
  refine lv_iload_n hx hb dL_law_313 rfl (lv_at hl 0 rfl) ?_
  refine lv_iconst (v := 2) hx hb dL_law_314 (by decide) ?_
  refine lv_iadd hx hb dL_law_315 ?_
  refine th_is (w := .int 2) (by decide) ?_
  refine va_sld hx hb hat.2.2.2.2.2.2.1 hat.2.2.2.2.2.2.2.1 (law_nb hat) hS.2.1 (i := 2) (by rw [hL]; exact vp_in_iff.mpr (by decide +kernel)) dL_law_316 ?_
  refine th_is (w := .int (xs 2)) (congrArg (fun j => Value.int (xs j)) (by decide)) ?_
  refine th_goiH hS rfl (th_runV (As := [.int (xs 1), .int (xs 2)]) (rest := [.int r5641]) C hS.1 (RX12, TX12, 151) rfl gV_RL_17 FM5648.1 (t_X12_ice rfl rfl FM5648) hl rfl rfl rfl rfl ⟨Nat.le_of_ble_eq_true rfl, Nat.le_of_ble_eq_true rfl⟩ (Nat.le_of_ble_eq_true rfl) ⟨Nat.le_of_ble_eq_true rfl, Nat.le_of_ble_eq_true rfl⟩ dL_law_317) (fun r5649 K5651 V5652 H locs1 hq5650 hE5653 hS => ?_)
  refine th_icmp_eq (X := r5641.toInt) (Y := r5649.toInt) (tgt := 2746) hx hb dL_law_320 (by decide) rfl rfl (fun c5654 => ?_) (fun c5654 => absurd (by rcases hr5647 with ⟨_, b1⟩ | ⟨_, b1⟩ <;> rcases hq5650 with ⟨_, b2⟩ | ⟨_, b2⟩ <;> first | exact b1.trans b2.symm | (exfalso; omega)) c5654)
  exact law_next hat hKN (Nat.le_of_eq hL) hS (lv_sub hl [0, 3] rfl) (Nat.le_of_ble_eq_true rfl) (Nat.le_of_ble_eq_true rfl)

set_option maxHeartbeats 4000000 in
set_option maxRecDepth 100000 in
theorem law_case_1 {p : Program} {l : Launch} {e : Env} {s : State} {m : MethodId} {below : List Frame} {meth : Method} {c : Code} {b L : Nat} {xs : Nat → Int32} {D : va_G} {dA : Nat → ClassId} {K : Kmap} {V : Vmap} {H : Heap} {locs : List Loc} {ls : Array Slot} {x m0 : Nat} (hat : lw_At p s m meth c b L xs) (hKN : KN D dA s) (hL : L = 8) (hS : ST D dA kNone s.heap K V H locs) (FXh : FX K V x) (FMh : FM K V m0) (hl : lv_has ls 4 [(3, .int 0), (2, .ref m0), (1, .ref x), (0, .ref b)]) : W p l e room_1 s m #[Value.ref b] below meth c H locs 163 25899 (lw_Z below #[Value.ref b] s) (F0 m 325 ls []) := by
  have hx := hat.1; have hb := hat.2.1
  have C := law_cx hat hKN
  have hKx : K x = some (0, 10) := FX.kind FXh
  refine lv_aload_n hx hb dL_law_325 rfl (lv_at hl 2 rfl) ?_
  refine lv_aload_n hx hb dL_law_326 rfl (lv_at hl 3 rfl) ?_
  refine lv_iload_n hx hb dL_law_327 rfl (lv_at hl 0 rfl) ?_
  refine lv_iconst (v := 1) hx hb dL_law_328 (by decide) ?_
  refine lv_iadd hx hb dL_law_329 ?_
  refine th_is (w := .int 1) (by decide) ?_
  refine va_sld hx hb hat.2.2.2.2.2.2.1 hat.2.2.2.2.2.2.2.1 (law_nb hat) hS.2.1 (i := 1) (by rw [hL]; exact vp_in_iff.mpr (by decide +kernel)) dL_law_330 ?_
  refine th_is (w := .int (xs 1)) (congrArg (fun j => Value.int (xs j)) (by decide)) ?_
  refine lv_aload_n hx hb dL_law_331 rfl (lv_at hl 3 rfl) ?_
  refine lv_iload_n hx hb dL_law_332 rfl (lv_at hl 0 rfl) ?_
  refine lv_iconst (v := 2) hx hb dL_law_333 (by decide) ?_
  refine lv_iadd hx hb dL_law_334 ?_
  refine th_is (w := .int 2) (by decide) ?_
  refine va_sld hx hb hat.2.2.2.2.2.2.1 hat.2.2.2.2.2.2.2.1 (law_nb hat) hS.2.1 (i := 2) (by rw [hL]; exact vp_in_iff.mpr (by decide +kernel)) dL_law_335 ?_
  refine th_is (w := .int (xs 2)) (congrArg (fun j => Value.int (xs j)) (by decide)) ?_
  refine lv_aload_n hx hb dL_law_336 rfl (lv_at hl 3 rfl) ?_
  refine lv_iload_n hx hb dL_law_337 rfl (lv_at hl 0 rfl) ?_
  refine lv_iconst (v := 3) hx hb dL_law_338 (by decide) ?_
  refine lv_iadd hx hb dL_law_339 ?_
  refine th_is (w := .int 3) (by decide) ?_
  refine va_sld hx hb hat.2.2.2.2.2.2.1 hat.2.2.2.2.2.2.2.1 (law_nb hat) hS.2.1 (i := 3) (by rw [hL]; exact vp_in_iff.mpr (by decide +kernel)) dL_law_340 ?_
  refine th_is (w := .int (xs 3)) (congrArg (fun j => Value.int (xs j)) (by decide)) ?_
  refine lv_aload_n hx hb dL_law_341 rfl (lv_at hl 3 rfl) ?_
  refine lv_iload_n hx hb dL_law_342 rfl (lv_at hl 0 rfl) ?_
  refine lv_iconst (v := 4) hx hb dL_law_343 (by decide) ?_
  refine lv_iadd hx hb dL_law_344 ?_
  refine th_is (w := .int 4) (by decide) ?_
  refine va_sld hx hb hat.2.2.2.2.2.2.1 hat.2.2.2.2.2.2.2.1 (law_nb hat) hS.2.1 (i := 4) (by rw [hL]; exact vp_in_iff.mpr (by decide +kernel)) dL_law_345 ?_
  refine th_is (w := .int (xs 4)) (congrArg (fun j => Value.int (xs j)) (by decide)) ?_
  refine lv_aload_n hx hb dL_law_346 rfl (lv_at hl 3 rfl) ?_
  refine lv_iload_n hx hb dL_law_347 rfl (lv_at hl 0 rfl) ?_
  refine lv_iconst (v := 5) hx hb dL_law_348 (by decide) ?_
  refine lv_iadd hx hb dL_law_349 ?_
  refine th_is (w := .int 5) (by decide) ?_
  refine va_sld hx hb hat.2.2.2.2.2.2.1 hat.2.2.2.2.2.2.2.1 (law_nb hat) hS.2.1 (i := 5) (by rw [hL]; exact vp_in_iff.mpr (by decide +kernel)) dL_law_350 ?_
  refine th_is (w := .int (xs 5)) (congrArg (fun j => Value.int (xs j)) (by decide)) ?_
  refine th_goiH hS rfl (th_runV (As := [.int (xs 1), .int (xs 2), .int (xs 3), .int (xs 4), .int (xs 5)]) (rest := []) C hS.1 (RX11, TX11, 20) rfl gV_RL_18 hKx (t_X11_cell rfl rfl rfl rfl rfl FXh) hl rfl rfl rfl rfl ⟨Nat.le_of_ble_eq_true rfl, Nat.le_of_ble_eq_true rfl⟩ (Nat.le_of_ble_eq_true rfl) ⟨Nat.le_of_ble_eq_true rfl, Nat.le_of_ble_eq_true rfl⟩ dL_law_351) (fun r5655 K5657 V5658 H locs1 hq5656 hE5659 hS => ?_)
  obtain ⟨hF5660, hr5661⟩ := hq5656
  have FM5662 := FM.moved FMh hE5659 (hF5660 _ FMh.1)
  refine lv_aload_n hx hb dL_law_354 rfl (lv_at hl 1 rfl) ?_
  refine lv_aload_n hx hb dL_law_355 rfl (lv_at hl 3 rfl) ?_
  refine lv_iload_n hx hb dL_law_356 rfl (lv_at hl 0 rfl) ?_
  refine lv_iconst (v := 1) hx hb dL_law_357 (by decide) ?_
  refine lv_iadd hx hb dL_law_358 ?_
  refine th_is (w := .int 1) (by decide) ?_
  refine va_sld hx hb hat.2.2.2.2.2.2.1 hat.2.2.2.2.2.2.2.1 (law_nb hat) hS.2.1 (i := 1) (by rw [hL]; exact vp_in_iff.mpr (by decide +kernel)) dL_law_359 ?_
  refine th_is (w := .int (xs 1)) (congrArg (fun j => Value.int (xs j)) (by decide)) ?_
  refine lv_aload_n hx hb dL_law_360 rfl (lv_at hl 3 rfl) ?_
  refine lv_iload_n hx hb dL_law_361 rfl (lv_at hl 0 rfl) ?_
  refine lv_iconst (v := 2) hx hb dL_law_362 (by decide) ?_
  refine lv_iadd hx hb dL_law_363 ?_
  refine th_is (w := .int 2) (by decide) ?_
  refine va_sld hx hb hat.2.2.2.2.2.2.1 hat.2.2.2.2.2.2.2.1 (law_nb hat) hS.2.1 (i := 2) (by rw [hL]; exact vp_in_iff.mpr (by decide +kernel)) dL_law_364 ?_
  refine th_is (w := .int (xs 2)) (congrArg (fun j => Value.int (xs j)) (by decide)) ?_
  refine lv_aload_n hx hb dL_law_365 rfl (lv_at hl 3 rfl) ?_
  refine lv_iload_n hx hb dL_law_366 rfl (lv_at hl 0 rfl) ?_
  refine lv_iconst (v := 3) hx hb dL_law_367 (by decide) ?_
  refine lv_iadd hx hb dL_law_368 ?_
  refine th_is (w := .int 3) (by decide) ?_
  refine va_sld hx hb hat.2.2.2.2.2.2.1 hat.2.2.2.2.2.2.2.1 (law_nb hat) hS.2.1 (i := 3) (by rw [hL]; exact vp_in_iff.mpr (by decide +kernel)) dL_law_369 ?_
  refine th_is (w := .int (xs 3)) (congrArg (fun j => Value.int (xs j)) (by decide)) ?_
  refine lv_aload_n hx hb dL_law_370 rfl (lv_at hl 3 rfl) ?_
  refine lv_iload_n hx hb dL_law_371 rfl (lv_at hl 0 rfl) ?_
  refine lv_iconst (v := 4) hx hb dL_law_372 (by decide) ?_
  refine lv_iadd hx hb dL_law_373 ?_
  refine th_is (w := .int 4) (by decide) ?_
  refine va_sld hx hb hat.2.2.2.2.2.2.1 hat.2.2.2.2.2.2.2.1 (law_nb hat) hS.2.1 (i := 4) (by rw [hL]; exact vp_in_iff.mpr (by decide +kernel)) dL_law_374 ?_
  refine th_is (w := .int (xs 4)) (congrArg (fun j => Value.int (xs j)) (by decide)) ?_
  refine lv_aload_n hx hb dL_law_375 rfl (lv_at hl 3 rfl) ?_
  refine lv_iload_n hx hb dL_law_376 rfl (lv_at hl 0 rfl) ?_
  refine lv_iconst (v := 5) hx hb dL_law_377 (by decide) ?_
  refine lv_iadd hx hb dL_law_378 ?_
  refine th_is (w := .int 5) (by decide) ?_
  refine va_sld hx hb hat.2.2.2.2.2.2.1 hat.2.2.2.2.2.2.2.1 (law_nb hat) hS.2.1 (i := 5) (by rw [hL]; exact vp_in_iff.mpr (by decide +kernel)) dL_law_379 ?_
  refine th_is (w := .int (xs 5)) (congrArg (fun j => Value.int (xs j)) (by decide)) ?_
  refine th_goiH hS rfl (th_runV (As := [.int (xs 1), .int (xs 2), .int (xs 3), .int (xs 4), .int (xs 5)]) (rest := [.int r5655]) C hS.1 (RX12, TX12, 151) rfl gV_RL_22 FM5662.1 (t_X12_cell rfl rfl rfl rfl rfl FM5662) hl rfl rfl rfl rfl ⟨Nat.le_of_ble_eq_true rfl, Nat.le_of_ble_eq_true rfl⟩ (Nat.le_of_ble_eq_true rfl) ⟨Nat.le_of_ble_eq_true rfl, Nat.le_of_ble_eq_true rfl⟩ dL_law_380) (fun r5663 K5665 V5666 H locs1 hq5664 hE5667 hS => ?_)
  refine th_icmp_eq (X := r5655.toInt) (Y := r5663.toInt) (tgt := 2746) hx hb dL_law_383 (by decide) rfl rfl (fun c5668 => ?_) (fun c5668 => absurd (by rcases hr5661 with ⟨_, b1⟩ | ⟨_, b1⟩ <;> rcases hq5664 with ⟨_, b2⟩ | ⟨_, b2⟩ <;> first | exact b1.trans b2.symm | (exfalso; omega)) c5668)
  exact law_next hat hKN (Nat.le_of_eq hL) hS (lv_sub hl [0, 3] rfl) (Nat.le_of_ble_eq_true rfl) (Nat.le_of_ble_eq_true rfl)

set_option maxHeartbeats 4000000 in
set_option maxRecDepth 100000 in
theorem law_case_2 {p : Program} {l : Launch} {e : Env} {s : State} {m : MethodId} {below : List Frame} {meth : Method} {c : Code} {b L : Nat} {xs : Nat → Int32} {D : va_G} {dA : Nat → ClassId} {K : Kmap} {V : Vmap} {H : Heap} {locs : List Loc} {ls : Array Slot} {x m0 : Nat} (hat : lw_At p s m meth c b L xs) (hKN : KN D dA s) (hL : L = 8) (hS : ST D dA kNone s.heap K V H locs) (FXh : FX K V x) (FMh : FM K V m0) (hl : lv_has ls 4 [(3, .int 0), (2, .ref m0), (1, .ref x), (0, .ref b)]) : W p l e room_1 s m #[Value.ref b] below meth c H locs 163 25899 (lw_Z below #[Value.ref b] s) (F0 m 388 ls []) := by
  have hx := hat.1; have hb := hat.2.1
  have C := law_cx hat hKN
  have hKx : K x = some (0, 10) := FX.kind FXh
  refine lv_aload_n hx hb dL_law_388 rfl (lv_at hl 2 rfl) ?_
  refine lv_aload_n hx hb dL_law_389 rfl (lv_at hl 3 rfl) ?_
  refine lv_iload_n hx hb dL_law_390 rfl (lv_at hl 0 rfl) ?_
  refine lv_iconst (v := 1) hx hb dL_law_391 (by decide) ?_
  refine lv_iadd hx hb dL_law_392 ?_
  refine th_is (w := .int 1) (by decide) ?_
  refine va_sld hx hb hat.2.2.2.2.2.2.1 hat.2.2.2.2.2.2.2.1 (law_nb hat) hS.2.1 (i := 1) (by rw [hL]; exact vp_in_iff.mpr (by decide +kernel)) dL_law_393 ?_
  refine th_is (w := .int (xs 1)) (congrArg (fun j => Value.int (xs j)) (by decide)) ?_
  refine lv_aload_n hx hb dL_law_394 rfl (lv_at hl 3 rfl) ?_
  refine lv_iload_n hx hb dL_law_395 rfl (lv_at hl 0 rfl) ?_
  refine lv_iconst (v := 2) hx hb dL_law_396 (by decide) ?_
  refine lv_iadd hx hb dL_law_397 ?_
  refine th_is (w := .int 2) (by decide) ?_
  refine va_sld hx hb hat.2.2.2.2.2.2.1 hat.2.2.2.2.2.2.2.1 (law_nb hat) hS.2.1 (i := 2) (by rw [hL]; exact vp_in_iff.mpr (by decide +kernel)) dL_law_398 ?_
  refine th_is (w := .int (xs 2)) (congrArg (fun j => Value.int (xs j)) (by decide)) ?_
  refine th_goiH hS rfl (th_runV (As := [.int (xs 1), .int (xs 2)]) (rest := []) C hS.1 (RX11, TX11, 20) rfl gV_RL_23 hKx (t_X11_dark rfl rfl FXh) hl rfl rfl rfl rfl ⟨Nat.le_of_ble_eq_true rfl, Nat.le_of_ble_eq_true rfl⟩ (Nat.le_of_ble_eq_true rfl) ⟨Nat.le_of_ble_eq_true rfl, Nat.le_of_ble_eq_true rfl⟩ dL_law_399) (fun r5669 K5671 V5672 H locs1 hq5670 hE5673 hS => ?_)
  obtain ⟨hF5674, hr5675⟩ := hq5670
  have FM5676 := FM.moved FMh hE5673 (hF5674 _ FMh.1)
  refine lv_aload_n hx hb dL_law_402 rfl (lv_at hl 1 rfl) ?_
  refine lv_aload_n hx hb dL_law_403 rfl (lv_at hl 3 rfl) ?_
  refine lv_iload_n hx hb dL_law_404 rfl (lv_at hl 0 rfl) ?_
  refine lv_iconst (v := 1) hx hb dL_law_405 (by decide) ?_
  refine lv_iadd hx hb dL_law_406 ?_
  refine th_is (w := .int 1) (by decide) ?_
  refine va_sld hx hb hat.2.2.2.2.2.2.1 hat.2.2.2.2.2.2.2.1 (law_nb hat) hS.2.1 (i := 1) (by rw [hL]; exact vp_in_iff.mpr (by decide +kernel)) dL_law_407 ?_
  refine th_is (w := .int (xs 1)) (congrArg (fun j => Value.int (xs j)) (by decide)) ?_
  refine lv_aload_n hx hb dL_law_408 rfl (lv_at hl 3 rfl) ?_
  refine lv_iload_n hx hb dL_law_409 rfl (lv_at hl 0 rfl) ?_
  refine lv_iconst (v := 2) hx hb dL_law_410 (by decide) ?_
  refine lv_iadd hx hb dL_law_411 ?_
  refine th_is (w := .int 2) (by decide) ?_
  refine va_sld hx hb hat.2.2.2.2.2.2.1 hat.2.2.2.2.2.2.2.1 (law_nb hat) hS.2.1 (i := 2) (by rw [hL]; exact vp_in_iff.mpr (by decide +kernel)) dL_law_412 ?_
  refine th_is (w := .int (xs 2)) (congrArg (fun j => Value.int (xs j)) (by decide)) ?_
  refine th_goiH hS rfl (th_runV (As := [.int (xs 1), .int (xs 2)]) (rest := [.int r5669]) C hS.1 (RX12, TX12, 151) rfl gV_RL_26 FM5676.1 (t_X12_dark rfl rfl FM5676) hl rfl rfl rfl rfl ⟨Nat.le_of_ble_eq_true rfl, Nat.le_of_ble_eq_true rfl⟩ (Nat.le_of_ble_eq_true rfl) ⟨Nat.le_of_ble_eq_true rfl, Nat.le_of_ble_eq_true rfl⟩ dL_law_413) (fun r5677 K5679 V5680 H locs1 hq5678 hE5681 hS => ?_)
  refine th_icmp_eq (X := r5669.toInt) (Y := r5677.toInt) (tgt := 2746) hx hb dL_law_416 (by decide) rfl rfl (fun c5682 => ?_) (fun c5682 => absurd (by rcases hr5675 with ⟨_, b1⟩ | ⟨_, b1⟩ <;> rcases hq5678 with ⟨_, b2⟩ | ⟨_, b2⟩ <;> first | exact b1.trans b2.symm | (exfalso; omega)) c5682)
  exact law_next hat hKN (Nat.le_of_eq hL) hS (lv_sub hl [0, 3] rfl) (Nat.le_of_ble_eq_true rfl) (Nat.le_of_ble_eq_true rfl)

set_option maxHeartbeats 4000000 in
set_option maxRecDepth 100000 in
theorem law_case_3 {p : Program} {l : Launch} {e : Env} {s : State} {m : MethodId} {below : List Frame} {meth : Method} {c : Code} {b L : Nat} {xs : Nat → Int32} {D : va_G} {dA : Nat → ClassId} {K : Kmap} {V : Vmap} {H : Heap} {locs : List Loc} {ls : Array Slot} {x m0 : Nat} (hat : lw_At p s m meth c b L xs) (hKN : KN D dA s) (hL : L = 8) (hS : ST D dA kNone s.heap K V H locs) (FXh : FX K V x) (FMh : FM K V m0) (hl : lv_has ls 4 [(3, .int 0), (2, .ref m0), (1, .ref x), (0, .ref b)]) : W p l e room_1 s m #[Value.ref b] below meth c H locs 163 25899 (lw_Z below #[Value.ref b] s) (F0 m 421 ls []) := by
  have hx := hat.1; have hb := hat.2.1
  have C := law_cx hat hKN
  have hKx : K x = some (0, 10) := FX.kind FXh
  refine lv_aload_n hx hb dL_law_421 rfl (lv_at hl 2 rfl) ?_
  refine lv_aload_n hx hb dL_law_422 rfl (lv_at hl 3 rfl) ?_
  refine lv_iload_n hx hb dL_law_423 rfl (lv_at hl 0 rfl) ?_
  refine lv_iconst (v := 1) hx hb dL_law_424 (by decide) ?_
  refine lv_iadd hx hb dL_law_425 ?_
  refine th_is (w := .int 1) (by decide) ?_
  refine va_sld hx hb hat.2.2.2.2.2.2.1 hat.2.2.2.2.2.2.2.1 (law_nb hat) hS.2.1 (i := 1) (by rw [hL]; exact vp_in_iff.mpr (by decide +kernel)) dL_law_426 ?_
  refine th_is (w := .int (xs 1)) (congrArg (fun j => Value.int (xs j)) (by decide)) ?_
  refine th_if_eq (X := (xs 1).toInt) (tgt := 434) hx hb dL_law_427 (by decide) rfl (fun c5683 => ?_) (fun c5683 => ?_)
  · refine lv_iconst (v := 0) hx hb dL_law_434 (by decide) ?_
    refine th_goiH hS rfl (th_runV (As := [.int 0]) (rest := []) C hS.1 (RX11, TX11, 20) rfl gV_RL_27 hKx (t_X11_party li_0 FXh) hl rfl rfl rfl rfl ⟨Nat.le_of_ble_eq_true rfl, Nat.le_of_ble_eq_true rfl⟩ (Nat.le_of_ble_eq_true rfl) ⟨Nat.le_of_ble_eq_true rfl, Nat.le_of_ble_eq_true rfl⟩ dL_law_435) (fun r5684 K5686 V5687 H locs1 hq5685 hE5688 hS => ?_)
    obtain ⟨hF5689, hr5690⟩ := hq5685
    have FM5691 := FM.moved FMh hE5688 (hF5689 _ FMh.1)
    refine W.widen (k := 166) (n := 25931) (Nat.le_of_ble_eq_true rfl) (Nat.le_of_ble_eq_true rfl) ?_
    refine lv_aload_n hx hb dL_law_438 rfl (lv_at hl 1 rfl) ?_
    refine lv_aload_n hx hb dL_law_439 rfl (lv_at hl 3 rfl) ?_
    refine lv_iload_n hx hb dL_law_440 rfl (lv_at hl 0 rfl) ?_
    refine lv_iconst (v := 1) hx hb dL_law_441 (by decide) ?_
    refine lv_iadd hx hb dL_law_442 ?_
    refine th_is (w := .int 1) (by decide) ?_
    refine va_sld hx hb hat.2.2.2.2.2.2.1 hat.2.2.2.2.2.2.2.1 (law_nb hat) hS.2.1 (i := 1) (by rw [hL]; exact vp_in_iff.mpr (by decide +kernel)) dL_law_443 ?_
    refine th_is (w := .int (xs 1)) (congrArg (fun j => Value.int (xs j)) (by decide)) ?_
    refine th_if_eq (X := (xs 1).toInt) (tgt := 451) hx hb dL_law_444 (by decide) rfl (fun c5692 => ?_) (fun c5692 => absurd c5692 (by omega))
    refine lv_iconst (v := 0) hx hb dL_law_451 (by decide) ?_
    refine th_goiH hS rfl (th_runV (As := [.int 0]) (rest := [.int r5684]) C hS.1 (RX12, TX12, 151) rfl gV_RL_31 FM5691.1 (t_X12_party li_0 FM5691) hl rfl rfl rfl rfl ⟨Nat.le_of_ble_eq_true rfl, Nat.le_of_ble_eq_true rfl⟩ (Nat.le_of_ble_eq_true rfl) ⟨Nat.le_of_ble_eq_true rfl, Nat.le_of_ble_eq_true rfl⟩ dL_law_452) (fun r5693 K5695 V5696 H locs1 hq5694 hE5697 hS => ?_)
    refine th_icmp_eq (X := r5684.toInt) (Y := r5693.toInt) (tgt := 2746) hx hb dL_law_455 (by decide) rfl rfl (fun c5698 => ?_) (fun c5698 => absurd (by omega) c5698)
    exact law_next hat hKN (Nat.le_of_eq hL) hS (lv_sub hl [0, 3] rfl) (Nat.le_of_ble_eq_true rfl) (Nat.le_of_ble_eq_true rfl)
  · refine lv_iconst (v := 1) hx hb dL_law_430 (by decide) ?_
    refine lv_goto (tgt := 435) hx hb dL_law_431 (by decide) ?_
    refine th_goiH hS rfl (th_runV (As := [.int 1]) (rest := []) C hS.1 (RX11, TX11, 20) rfl gV_RL_27 hKx (t_X11_party li_1 FXh) hl rfl rfl rfl rfl ⟨Nat.le_of_ble_eq_true rfl, Nat.le_of_ble_eq_true rfl⟩ (Nat.le_of_ble_eq_true rfl) ⟨Nat.le_of_ble_eq_true rfl, Nat.le_of_ble_eq_true rfl⟩ dL_law_435) (fun r5699 K5701 V5702 H locs1 hq5700 hE5703 hS => ?_)
    obtain ⟨hF5704, hr5705⟩ := hq5700
    have FM5706 := FM.moved FMh hE5703 (hF5704 _ FMh.1)
    refine W.widen (k := 166) (n := 25931) (Nat.le_of_ble_eq_true rfl) (Nat.le_of_ble_eq_true rfl) ?_
    refine lv_aload_n hx hb dL_law_438 rfl (lv_at hl 1 rfl) ?_
    refine lv_aload_n hx hb dL_law_439 rfl (lv_at hl 3 rfl) ?_
    refine lv_iload_n hx hb dL_law_440 rfl (lv_at hl 0 rfl) ?_
    refine lv_iconst (v := 1) hx hb dL_law_441 (by decide) ?_
    refine lv_iadd hx hb dL_law_442 ?_
    refine th_is (w := .int 1) (by decide) ?_
    refine va_sld hx hb hat.2.2.2.2.2.2.1 hat.2.2.2.2.2.2.2.1 (law_nb hat) hS.2.1 (i := 1) (by rw [hL]; exact vp_in_iff.mpr (by decide +kernel)) dL_law_443 ?_
    refine th_is (w := .int (xs 1)) (congrArg (fun j => Value.int (xs j)) (by decide)) ?_
    refine th_if_eq (X := (xs 1).toInt) (tgt := 451) hx hb dL_law_444 (by decide) rfl (fun c5707 => absurd c5707 (by omega)) (fun c5707 => ?_)
    refine lv_iconst (v := 1) hx hb dL_law_447 (by decide) ?_
    refine lv_goto (tgt := 452) hx hb dL_law_448 (by decide) ?_
    refine th_goiH hS rfl (th_runV (As := [.int 1]) (rest := [.int r5699]) C hS.1 (RX12, TX12, 151) rfl gV_RL_31 FM5706.1 (t_X12_party li_1 FM5706) hl rfl rfl rfl rfl ⟨Nat.le_of_ble_eq_true rfl, Nat.le_of_ble_eq_true rfl⟩ (Nat.le_of_ble_eq_true rfl) ⟨Nat.le_of_ble_eq_true rfl, Nat.le_of_ble_eq_true rfl⟩ dL_law_452) (fun r5708 K5710 V5711 H locs1 hq5709 hE5712 hS => ?_)
    refine th_icmp_eq (X := r5699.toInt) (Y := r5708.toInt) (tgt := 2746) hx hb dL_law_455 (by decide) rfl rfl (fun c5713 => ?_) (fun c5713 => absurd (by omega) c5713)
    exact law_next hat hKN (Nat.le_of_eq hL) hS (lv_sub hl [0, 3] rfl) (Nat.le_of_ble_eq_true rfl) (Nat.le_of_ble_eq_true rfl)

set_option maxHeartbeats 4000000 in
set_option maxRecDepth 100000 in
theorem law_case_4 {p : Program} {l : Launch} {e : Env} {s : State} {m : MethodId} {below : List Frame} {meth : Method} {c : Code} {b L : Nat} {xs : Nat → Int32} {D : va_G} {dA : Nat → ClassId} {K : Kmap} {V : Vmap} {H : Heap} {locs : List Loc} {ls : Array Slot} {x m0 : Nat} (hat : lw_At p s m meth c b L xs) (hKN : KN D dA s) (hL : L = 8) (hS : ST D dA kNone s.heap K V H locs) (FXh : FX K V x) (FMh : FM K V m0) (hl : lv_has ls 4 [(3, .int 0), (2, .ref m0), (1, .ref x), (0, .ref b)]) : W p l e room_1 s m #[Value.ref b] below meth c H locs 163 25899 (lw_Z below #[Value.ref b] s) (F0 m 460 ls []) := by
  have hx := hat.1; have hb := hat.2.1
  have C := law_cx hat hKN
  have hKx : K x = some (0, 10) := FX.kind FXh
  refine lv_aload_n hx hb dL_law_460 rfl (lv_at hl 2 rfl) ?_
  refine lv_aload_n hx hb dL_law_461 rfl (lv_at hl 3 rfl) ?_
  refine lv_iload_n hx hb dL_law_462 rfl (lv_at hl 0 rfl) ?_
  refine lv_iconst (v := 1) hx hb dL_law_463 (by decide) ?_
  refine lv_iadd hx hb dL_law_464 ?_
  refine th_is (w := .int 1) (by decide) ?_
  refine va_sld hx hb hat.2.2.2.2.2.2.1 hat.2.2.2.2.2.2.2.1 (law_nb hat) hS.2.1 (i := 1) (by rw [hL]; exact vp_in_iff.mpr (by decide +kernel)) dL_law_465 ?_
  refine th_is (w := .int (xs 1)) (congrArg (fun j => Value.int (xs j)) (by decide)) ?_
  refine lv_aload_n hx hb dL_law_466 rfl (lv_at hl 3 rfl) ?_
  refine lv_iload_n hx hb dL_law_467 rfl (lv_at hl 0 rfl) ?_
  refine lv_iconst (v := 2) hx hb dL_law_468 (by decide) ?_
  refine lv_iadd hx hb dL_law_469 ?_
  refine th_is (w := .int 2) (by decide) ?_
  refine va_sld hx hb hat.2.2.2.2.2.2.1 hat.2.2.2.2.2.2.2.1 (law_nb hat) hS.2.1 (i := 2) (by rw [hL]; exact vp_in_iff.mpr (by decide +kernel)) dL_law_470 ?_
  refine th_is (w := .int (xs 2)) (congrArg (fun j => Value.int (xs j)) (by decide)) ?_
  refine lv_aload_n hx hb dL_law_471 rfl (lv_at hl 3 rfl) ?_
  refine lv_iload_n hx hb dL_law_472 rfl (lv_at hl 0 rfl) ?_
  refine lv_iconst (v := 3) hx hb dL_law_473 (by decide) ?_
  refine lv_iadd hx hb dL_law_474 ?_
  refine th_is (w := .int 3) (by decide) ?_
  refine va_sld hx hb hat.2.2.2.2.2.2.1 hat.2.2.2.2.2.2.2.1 (law_nb hat) hS.2.1 (i := 3) (by rw [hL]; exact vp_in_iff.mpr (by decide +kernel)) dL_law_475 ?_
  refine th_is (w := .int (xs 3)) (congrArg (fun j => Value.int (xs j)) (by decide)) ?_
  refine lv_aload_n hx hb dL_law_476 rfl (lv_at hl 3 rfl) ?_
  refine lv_iload_n hx hb dL_law_477 rfl (lv_at hl 0 rfl) ?_
  refine lv_iconst (v := 4) hx hb dL_law_478 (by decide) ?_
  refine lv_iadd hx hb dL_law_479 ?_
  refine th_is (w := .int 4) (by decide) ?_
  refine va_sld hx hb hat.2.2.2.2.2.2.1 hat.2.2.2.2.2.2.2.1 (law_nb hat) hS.2.1 (i := 4) (by rw [hL]; exact vp_in_iff.mpr (by decide +kernel)) dL_law_480 ?_
  refine th_is (w := .int (xs 4)) (congrArg (fun j => Value.int (xs j)) (by decide)) ?_
  refine th_goi (th_runV (As := [.int (xs 1), .int (xs 2), .int (xs 3), .int (xs 4)]) (rest := []) C hS.1 (RX11, TX11, 20) rfl gV_RL_32 hKx (t_X11_claim rfl rfl rfl rfl FXh) hl rfl rfl rfl rfl ⟨Nat.le_of_ble_eq_true rfl, Nat.le_of_ble_eq_true rfl⟩ (Nat.le_of_ble_eq_true rfl) ⟨Nat.le_of_ble_eq_true rfl, Nat.le_of_ble_eq_true rfl⟩ dL_law_481) (fun r5714 hq5715 => ?_)
  refine lv_aload_n hx hb dL_law_484 rfl (lv_at hl 1 rfl) ?_
  refine lv_aload_n hx hb dL_law_485 rfl (lv_at hl 3 rfl) ?_
  refine lv_iload_n hx hb dL_law_486 rfl (lv_at hl 0 rfl) ?_
  refine lv_iconst (v := 1) hx hb dL_law_487 (by decide) ?_
  refine lv_iadd hx hb dL_law_488 ?_
  refine th_is (w := .int 1) (by decide) ?_
  refine va_sld hx hb hat.2.2.2.2.2.2.1 hat.2.2.2.2.2.2.2.1 (law_nb hat) hS.2.1 (i := 1) (by rw [hL]; exact vp_in_iff.mpr (by decide +kernel)) dL_law_489 ?_
  refine th_is (w := .int (xs 1)) (congrArg (fun j => Value.int (xs j)) (by decide)) ?_
  refine lv_aload_n hx hb dL_law_490 rfl (lv_at hl 3 rfl) ?_
  refine lv_iload_n hx hb dL_law_491 rfl (lv_at hl 0 rfl) ?_
  refine lv_iconst (v := 2) hx hb dL_law_492 (by decide) ?_
  refine lv_iadd hx hb dL_law_493 ?_
  refine th_is (w := .int 2) (by decide) ?_
  refine va_sld hx hb hat.2.2.2.2.2.2.1 hat.2.2.2.2.2.2.2.1 (law_nb hat) hS.2.1 (i := 2) (by rw [hL]; exact vp_in_iff.mpr (by decide +kernel)) dL_law_494 ?_
  refine th_is (w := .int (xs 2)) (congrArg (fun j => Value.int (xs j)) (by decide)) ?_
  refine lv_aload_n hx hb dL_law_495 rfl (lv_at hl 3 rfl) ?_
  refine lv_iload_n hx hb dL_law_496 rfl (lv_at hl 0 rfl) ?_
  refine lv_iconst (v := 3) hx hb dL_law_497 (by decide) ?_
  refine lv_iadd hx hb dL_law_498 ?_
  refine th_is (w := .int 3) (by decide) ?_
  refine va_sld hx hb hat.2.2.2.2.2.2.1 hat.2.2.2.2.2.2.2.1 (law_nb hat) hS.2.1 (i := 3) (by rw [hL]; exact vp_in_iff.mpr (by decide +kernel)) dL_law_499 ?_
  refine th_is (w := .int (xs 3)) (congrArg (fun j => Value.int (xs j)) (by decide)) ?_
  refine lv_aload_n hx hb dL_law_500 rfl (lv_at hl 3 rfl) ?_
  refine lv_iload_n hx hb dL_law_501 rfl (lv_at hl 0 rfl) ?_
  refine lv_iconst (v := 4) hx hb dL_law_502 (by decide) ?_
  refine lv_iadd hx hb dL_law_503 ?_
  refine th_is (w := .int 4) (by decide) ?_
  refine va_sld hx hb hat.2.2.2.2.2.2.1 hat.2.2.2.2.2.2.2.1 (law_nb hat) hS.2.1 (i := 4) (by rw [hL]; exact vp_in_iff.mpr (by decide +kernel)) dL_law_504 ?_
  refine th_is (w := .int (xs 4)) (congrArg (fun j => Value.int (xs j)) (by decide)) ?_
  refine th_goi (th_runV (As := [.int (xs 1), .int (xs 2), .int (xs 3), .int (xs 4)]) (rest := [.int r5714]) C hS.1 (RX12, TX12, 151) rfl gV_RL_36 FMh.1 (t_X12_claim rfl rfl rfl rfl FMh) hl rfl rfl rfl rfl ⟨Nat.le_of_ble_eq_true rfl, Nat.le_of_ble_eq_true rfl⟩ (Nat.le_of_ble_eq_true rfl) ⟨Nat.le_of_ble_eq_true rfl, Nat.le_of_ble_eq_true rfl⟩ dL_law_505) (fun r5716 hq5717 => ?_)
  refine th_icmp_eq (X := r5714.toInt) (Y := r5716.toInt) (tgt := 2746) hx hb dL_law_508 (by decide) rfl rfl (fun c5718 => ?_) (fun c5718 => absurd (by omega) c5718)
  exact law_next hat hKN (Nat.le_of_eq hL) hS (lv_sub hl [0, 3] rfl) (Nat.le_of_ble_eq_true rfl) (Nat.le_of_ble_eq_true rfl)

set_option maxHeartbeats 4000000 in
set_option maxRecDepth 100000 in
theorem law_case_5 {p : Program} {l : Launch} {e : Env} {s : State} {m : MethodId} {below : List Frame} {meth : Method} {c : Code} {b L : Nat} {xs : Nat → Int32} {D : va_G} {dA : Nat → ClassId} {K : Kmap} {V : Vmap} {H : Heap} {locs : List Loc} {ls : Array Slot} {x m0 : Nat} (hat : lw_At p s m meth c b L xs) (hKN : KN D dA s) (hL : L = 8) (hS : ST D dA kNone s.heap K V H locs) (FXh : FX K V x) (FMh : FM K V m0) (hl : lv_has ls 4 [(3, .int 0), (2, .ref m0), (1, .ref x), (0, .ref b)]) : W p l e room_1 s m #[Value.ref b] below meth c H locs 163 25899 (lw_Z below #[Value.ref b] s) (F0 m 513 ls []) := by
  have hx := hat.1; have hb := hat.2.1
  have C := law_cx hat hKN
  have hKx : K x = some (0, 10) := FX.kind FXh
  refine lv_aload_n hx hb dL_law_513 rfl (lv_at hl 2 rfl) ?_
  refine lv_aload_n hx hb dL_law_514 rfl (lv_at hl 3 rfl) ?_
  refine lv_iload_n hx hb dL_law_515 rfl (lv_at hl 0 rfl) ?_
  refine lv_iconst (v := 1) hx hb dL_law_516 (by decide) ?_
  refine lv_iadd hx hb dL_law_517 ?_
  refine th_is (w := .int 1) (by decide) ?_
  refine va_sld hx hb hat.2.2.2.2.2.2.1 hat.2.2.2.2.2.2.2.1 (law_nb hat) hS.2.1 (i := 1) (by rw [hL]; exact vp_in_iff.mpr (by decide +kernel)) dL_law_518 ?_
  refine th_is (w := .int (xs 1)) (congrArg (fun j => Value.int (xs j)) (by decide)) ?_
  refine lv_aload_n hx hb dL_law_519 rfl (lv_at hl 3 rfl) ?_
  refine lv_iload_n hx hb dL_law_520 rfl (lv_at hl 0 rfl) ?_
  refine lv_iconst (v := 2) hx hb dL_law_521 (by decide) ?_
  refine lv_iadd hx hb dL_law_522 ?_
  refine th_is (w := .int 2) (by decide) ?_
  refine va_sld hx hb hat.2.2.2.2.2.2.1 hat.2.2.2.2.2.2.2.1 (law_nb hat) hS.2.1 (i := 2) (by rw [hL]; exact vp_in_iff.mpr (by decide +kernel)) dL_law_523 ?_
  refine th_is (w := .int (xs 2)) (congrArg (fun j => Value.int (xs j)) (by decide)) ?_
  refine th_goi (th_runV (As := [.int (xs 1), .int (xs 2)]) (rest := []) C hS.1 (RX11, TX11, 20) rfl gV_RL_37 hKx (t_X11_title rfl rfl FXh) hl rfl rfl rfl rfl ⟨Nat.le_of_ble_eq_true rfl, Nat.le_of_ble_eq_true rfl⟩ (Nat.le_of_ble_eq_true rfl) ⟨Nat.le_of_ble_eq_true rfl, Nat.le_of_ble_eq_true rfl⟩ dL_law_524) (fun r5719 hq5720 => ?_)
  refine lv_aload_n hx hb dL_law_527 rfl (lv_at hl 1 rfl) ?_
  refine lv_aload_n hx hb dL_law_528 rfl (lv_at hl 3 rfl) ?_
  refine lv_iload_n hx hb dL_law_529 rfl (lv_at hl 0 rfl) ?_
  refine lv_iconst (v := 1) hx hb dL_law_530 (by decide) ?_
  refine lv_iadd hx hb dL_law_531 ?_
  refine th_is (w := .int 1) (by decide) ?_
  refine va_sld hx hb hat.2.2.2.2.2.2.1 hat.2.2.2.2.2.2.2.1 (law_nb hat) hS.2.1 (i := 1) (by rw [hL]; exact vp_in_iff.mpr (by decide +kernel)) dL_law_532 ?_
  refine th_is (w := .int (xs 1)) (congrArg (fun j => Value.int (xs j)) (by decide)) ?_
  refine lv_aload_n hx hb dL_law_533 rfl (lv_at hl 3 rfl) ?_
  refine lv_iload_n hx hb dL_law_534 rfl (lv_at hl 0 rfl) ?_
  refine lv_iconst (v := 2) hx hb dL_law_535 (by decide) ?_
  refine lv_iadd hx hb dL_law_536 ?_
  refine th_is (w := .int 2) (by decide) ?_
  refine va_sld hx hb hat.2.2.2.2.2.2.1 hat.2.2.2.2.2.2.2.1 (law_nb hat) hS.2.1 (i := 2) (by rw [hL]; exact vp_in_iff.mpr (by decide +kernel)) dL_law_537 ?_
  refine th_is (w := .int (xs 2)) (congrArg (fun j => Value.int (xs j)) (by decide)) ?_
  refine th_goi (th_runV (As := [.int (xs 1), .int (xs 2)]) (rest := [.int r5719]) C hS.1 (RX12, TX12, 151) rfl gV_RL_40 FMh.1 (t_X12_title rfl rfl FMh) hl rfl rfl rfl rfl ⟨Nat.le_of_ble_eq_true rfl, Nat.le_of_ble_eq_true rfl⟩ (Nat.le_of_ble_eq_true rfl) ⟨Nat.le_of_ble_eq_true rfl, Nat.le_of_ble_eq_true rfl⟩ dL_law_538) (fun r5721 hq5722 => ?_)
  refine th_icmp_eq (X := r5719.toInt) (Y := r5721.toInt) (tgt := 2746) hx hb dL_law_541 (by decide) rfl rfl (fun c5723 => ?_) (fun c5723 => absurd (by omega) c5723)
  exact law_next hat hKN (Nat.le_of_eq hL) hS (lv_sub hl [0, 3] rfl) (Nat.le_of_ble_eq_true rfl) (Nat.le_of_ble_eq_true rfl)

set_option maxHeartbeats 4000000 in
set_option maxRecDepth 100000 in
theorem law_case_6 {p : Program} {l : Launch} {e : Env} {s : State} {m : MethodId} {below : List Frame} {meth : Method} {c : Code} {b L : Nat} {xs : Nat → Int32} {D : va_G} {dA : Nat → ClassId} {K : Kmap} {V : Vmap} {H : Heap} {locs : List Loc} {ls : Array Slot} {x m0 : Nat} (hat : lw_At p s m meth c b L xs) (hKN : KN D dA s) (hL : L = 8) (hS : ST D dA kNone s.heap K V H locs) (FXh : FX K V x) (FMh : FM K V m0) (hl : lv_has ls 4 [(3, .int 0), (2, .ref m0), (1, .ref x), (0, .ref b)]) : W p l e room_1 s m #[Value.ref b] below meth c H locs 163 25899 (lw_Z below #[Value.ref b] s) (F0 m 546 ls []) := by
  have hx := hat.1; have hb := hat.2.1
  have C := law_cx hat hKN
  have hKx : K x = some (0, 10) := FX.kind FXh
  refine lv_aload_n hx hb dL_law_546 rfl (lv_at hl 2 rfl) ?_
  refine lv_aload_n hx hb dL_law_547 rfl (lv_at hl 3 rfl) ?_
  refine lv_iload_n hx hb dL_law_548 rfl (lv_at hl 0 rfl) ?_
  refine lv_iconst (v := 1) hx hb dL_law_549 (by decide) ?_
  refine lv_iadd hx hb dL_law_550 ?_
  refine th_is (w := .int 1) (by decide) ?_
  refine va_sld hx hb hat.2.2.2.2.2.2.1 hat.2.2.2.2.2.2.2.1 (law_nb hat) hS.2.1 (i := 1) (by rw [hL]; exact vp_in_iff.mpr (by decide +kernel)) dL_law_551 ?_
  refine th_is (w := .int (xs 1)) (congrArg (fun j => Value.int (xs j)) (by decide)) ?_
  refine lv_aload_n hx hb dL_law_552 rfl (lv_at hl 3 rfl) ?_
  refine lv_iload_n hx hb dL_law_553 rfl (lv_at hl 0 rfl) ?_
  refine lv_iconst (v := 2) hx hb dL_law_554 (by decide) ?_
  refine lv_iadd hx hb dL_law_555 ?_
  refine th_is (w := .int 2) (by decide) ?_
  refine va_sld hx hb hat.2.2.2.2.2.2.1 hat.2.2.2.2.2.2.2.1 (law_nb hat) hS.2.1 (i := 2) (by rw [hL]; exact vp_in_iff.mpr (by decide +kernel)) dL_law_556 ?_
  refine th_is (w := .int (xs 2)) (congrArg (fun j => Value.int (xs j)) (by decide)) ?_
  refine lv_aload_n hx hb dL_law_557 rfl (lv_at hl 3 rfl) ?_
  refine lv_iload_n hx hb dL_law_558 rfl (lv_at hl 0 rfl) ?_
  refine lv_iconst (v := 3) hx hb dL_law_559 (by decide) ?_
  refine lv_iadd hx hb dL_law_560 ?_
  refine th_is (w := .int 3) (by decide) ?_
  refine va_sld hx hb hat.2.2.2.2.2.2.1 hat.2.2.2.2.2.2.2.1 (law_nb hat) hS.2.1 (i := 3) (by rw [hL]; exact vp_in_iff.mpr (by decide +kernel)) dL_law_561 ?_
  refine th_is (w := .int (xs 3)) (congrArg (fun j => Value.int (xs j)) (by decide)) ?_
  refine lv_aload_n hx hb dL_law_562 rfl (lv_at hl 3 rfl) ?_
  refine lv_iload_n hx hb dL_law_563 rfl (lv_at hl 0 rfl) ?_
  refine lv_iconst (v := 4) hx hb dL_law_564 (by decide) ?_
  refine lv_iadd hx hb dL_law_565 ?_
  refine th_is (w := .int 4) (by decide) ?_
  refine va_sld hx hb hat.2.2.2.2.2.2.1 hat.2.2.2.2.2.2.2.1 (law_nb hat) hS.2.1 (i := 4) (by rw [hL]; exact vp_in_iff.mpr (by decide +kernel)) dL_law_566 ?_
  refine th_is (w := .int (xs 4)) (congrArg (fun j => Value.int (xs j)) (by decide)) ?_
  refine th_goi (th_runV (As := [.int (xs 1), .int (xs 2), .int (xs 3), .int (xs 4)]) (rest := []) C hS.1 (RX11, TX11, 20) rfl gV_RL_41 hKx (t_X11_station rfl rfl rfl rfl FXh) hl rfl rfl rfl rfl ⟨Nat.le_of_ble_eq_true rfl, Nat.le_of_ble_eq_true rfl⟩ (Nat.le_of_ble_eq_true rfl) ⟨Nat.le_of_ble_eq_true rfl, Nat.le_of_ble_eq_true rfl⟩ dL_law_567) (fun r5724 hq5725 => ?_)
  refine lv_aload_n hx hb dL_law_570 rfl (lv_at hl 1 rfl) ?_
  refine lv_aload_n hx hb dL_law_571 rfl (lv_at hl 3 rfl) ?_
  refine lv_iload_n hx hb dL_law_572 rfl (lv_at hl 0 rfl) ?_
  refine lv_iconst (v := 1) hx hb dL_law_573 (by decide) ?_
  refine lv_iadd hx hb dL_law_574 ?_
  refine th_is (w := .int 1) (by decide) ?_
  refine va_sld hx hb hat.2.2.2.2.2.2.1 hat.2.2.2.2.2.2.2.1 (law_nb hat) hS.2.1 (i := 1) (by rw [hL]; exact vp_in_iff.mpr (by decide +kernel)) dL_law_575 ?_
  refine th_is (w := .int (xs 1)) (congrArg (fun j => Value.int (xs j)) (by decide)) ?_
  refine lv_aload_n hx hb dL_law_576 rfl (lv_at hl 3 rfl) ?_
  refine lv_iload_n hx hb dL_law_577 rfl (lv_at hl 0 rfl) ?_
  refine lv_iconst (v := 2) hx hb dL_law_578 (by decide) ?_
  refine lv_iadd hx hb dL_law_579 ?_
  refine th_is (w := .int 2) (by decide) ?_
  refine va_sld hx hb hat.2.2.2.2.2.2.1 hat.2.2.2.2.2.2.2.1 (law_nb hat) hS.2.1 (i := 2) (by rw [hL]; exact vp_in_iff.mpr (by decide +kernel)) dL_law_580 ?_
  refine th_is (w := .int (xs 2)) (congrArg (fun j => Value.int (xs j)) (by decide)) ?_
  refine lv_aload_n hx hb dL_law_581 rfl (lv_at hl 3 rfl) ?_
  refine lv_iload_n hx hb dL_law_582 rfl (lv_at hl 0 rfl) ?_
  refine lv_iconst (v := 3) hx hb dL_law_583 (by decide) ?_
  refine lv_iadd hx hb dL_law_584 ?_
  refine th_is (w := .int 3) (by decide) ?_
  refine va_sld hx hb hat.2.2.2.2.2.2.1 hat.2.2.2.2.2.2.2.1 (law_nb hat) hS.2.1 (i := 3) (by rw [hL]; exact vp_in_iff.mpr (by decide +kernel)) dL_law_585 ?_
  refine th_is (w := .int (xs 3)) (congrArg (fun j => Value.int (xs j)) (by decide)) ?_
  refine lv_aload_n hx hb dL_law_586 rfl (lv_at hl 3 rfl) ?_
  refine lv_iload_n hx hb dL_law_587 rfl (lv_at hl 0 rfl) ?_
  refine lv_iconst (v := 4) hx hb dL_law_588 (by decide) ?_
  refine lv_iadd hx hb dL_law_589 ?_
  refine th_is (w := .int 4) (by decide) ?_
  refine va_sld hx hb hat.2.2.2.2.2.2.1 hat.2.2.2.2.2.2.2.1 (law_nb hat) hS.2.1 (i := 4) (by rw [hL]; exact vp_in_iff.mpr (by decide +kernel)) dL_law_590 ?_
  refine th_is (w := .int (xs 4)) (congrArg (fun j => Value.int (xs j)) (by decide)) ?_
  refine th_goi (th_runV (As := [.int (xs 1), .int (xs 2), .int (xs 3), .int (xs 4)]) (rest := [.int r5724]) C hS.1 (RX12, TX12, 151) rfl gV_RL_44 FMh.1 (t_X12_station rfl rfl rfl rfl FMh) hl rfl rfl rfl rfl ⟨Nat.le_of_ble_eq_true rfl, Nat.le_of_ble_eq_true rfl⟩ (Nat.le_of_ble_eq_true rfl) ⟨Nat.le_of_ble_eq_true rfl, Nat.le_of_ble_eq_true rfl⟩ dL_law_591) (fun r5726 hq5727 => ?_)
  refine th_icmp_eq (X := r5724.toInt) (Y := r5726.toInt) (tgt := 2746) hx hb dL_law_594 (by decide) rfl rfl (fun c5728 => ?_) (fun c5728 => absurd (by omega) c5728)
  exact law_next hat hKN (Nat.le_of_eq hL) hS (lv_sub hl [0, 3] rfl) (Nat.le_of_ble_eq_true rfl) (Nat.le_of_ble_eq_true rfl)

set_option maxHeartbeats 4000000 in
set_option maxRecDepth 100000 in
theorem law_case_7 {p : Program} {l : Launch} {e : Env} {s : State} {m : MethodId} {below : List Frame} {meth : Method} {c : Code} {b L : Nat} {xs : Nat → Int32} {D : va_G} {dA : Nat → ClassId} {K : Kmap} {V : Vmap} {H : Heap} {locs : List Loc} {ls : Array Slot} {x m0 : Nat} (hat : lw_At p s m meth c b L xs) (hKN : KN D dA s) (hL : L = 8) (hS : ST D dA kNone s.heap K V H locs) (FXh : FX K V x) (FMh : FM K V m0) (hl : lv_has ls 4 [(3, .int 0), (2, .ref m0), (1, .ref x), (0, .ref b)]) : W p l e room_1 s m #[Value.ref b] below meth c H locs 163 25899 (lw_Z below #[Value.ref b] s) (F0 m 599 ls []) := by
  have hx := hat.1; have hb := hat.2.1
  have C := law_cx hat hKN
  have hKx : K x = some (0, 10) := FX.kind FXh
  refine lv_aload_n hx hb dL_law_599 rfl (lv_at hl 2 rfl) ?_
  refine lv_aload_n hx hb dL_law_600 rfl (lv_at hl 3 rfl) ?_
  refine lv_iload_n hx hb dL_law_601 rfl (lv_at hl 0 rfl) ?_
  refine lv_iconst (v := 1) hx hb dL_law_602 (by decide) ?_
  refine lv_iadd hx hb dL_law_603 ?_
  refine th_is (w := .int 1) (by decide) ?_
  refine va_sld hx hb hat.2.2.2.2.2.2.1 hat.2.2.2.2.2.2.2.1 (law_nb hat) hS.2.1 (i := 1) (by rw [hL]; exact vp_in_iff.mpr (by decide +kernel)) dL_law_604 ?_
  refine th_is (w := .int (xs 1)) (congrArg (fun j => Value.int (xs j)) (by decide)) ?_
  refine lv_aload_n hx hb dL_law_605 rfl (lv_at hl 3 rfl) ?_
  refine lv_iload_n hx hb dL_law_606 rfl (lv_at hl 0 rfl) ?_
  refine lv_iconst (v := 2) hx hb dL_law_607 (by decide) ?_
  refine lv_iadd hx hb dL_law_608 ?_
  refine th_is (w := .int 2) (by decide) ?_
  refine va_sld hx hb hat.2.2.2.2.2.2.1 hat.2.2.2.2.2.2.2.1 (law_nb hat) hS.2.1 (i := 2) (by rw [hL]; exact vp_in_iff.mpr (by decide +kernel)) dL_law_609 ?_
  refine th_is (w := .int (xs 2)) (congrArg (fun j => Value.int (xs j)) (by decide)) ?_
  refine th_goi (th_runV (As := [.int (xs 1), .int (xs 2)]) (rest := []) C hS.1 (RX11, TX11, 20) rfl gV_RL_45 hKx (t_X11_field rfl rfl FXh) hl rfl rfl rfl rfl ⟨Nat.le_of_ble_eq_true rfl, Nat.le_of_ble_eq_true rfl⟩ (Nat.le_of_ble_eq_true rfl) ⟨Nat.le_of_ble_eq_true rfl, Nat.le_of_ble_eq_true rfl⟩ dL_law_610) (fun r5729 hq5730 => ?_)
  refine lv_aload_n hx hb dL_law_613 rfl (lv_at hl 1 rfl) ?_
  refine lv_aload_n hx hb dL_law_614 rfl (lv_at hl 3 rfl) ?_
  refine lv_iload_n hx hb dL_law_615 rfl (lv_at hl 0 rfl) ?_
  refine lv_iconst (v := 1) hx hb dL_law_616 (by decide) ?_
  refine lv_iadd hx hb dL_law_617 ?_
  refine th_is (w := .int 1) (by decide) ?_
  refine va_sld hx hb hat.2.2.2.2.2.2.1 hat.2.2.2.2.2.2.2.1 (law_nb hat) hS.2.1 (i := 1) (by rw [hL]; exact vp_in_iff.mpr (by decide +kernel)) dL_law_618 ?_
  refine th_is (w := .int (xs 1)) (congrArg (fun j => Value.int (xs j)) (by decide)) ?_
  refine lv_aload_n hx hb dL_law_619 rfl (lv_at hl 3 rfl) ?_
  refine lv_iload_n hx hb dL_law_620 rfl (lv_at hl 0 rfl) ?_
  refine lv_iconst (v := 2) hx hb dL_law_621 (by decide) ?_
  refine lv_iadd hx hb dL_law_622 ?_
  refine th_is (w := .int 2) (by decide) ?_
  refine va_sld hx hb hat.2.2.2.2.2.2.1 hat.2.2.2.2.2.2.2.1 (law_nb hat) hS.2.1 (i := 2) (by rw [hL]; exact vp_in_iff.mpr (by decide +kernel)) dL_law_623 ?_
  refine th_is (w := .int (xs 2)) (congrArg (fun j => Value.int (xs j)) (by decide)) ?_
  refine th_goi (th_runV (As := [.int (xs 1), .int (xs 2)]) (rest := [.int r5729]) C hS.1 (RX12, TX12, 151) rfl gV_RL_49 FMh.1 (t_X12_field rfl rfl FMh) hl rfl rfl rfl rfl ⟨Nat.le_of_ble_eq_true rfl, Nat.le_of_ble_eq_true rfl⟩ (Nat.le_of_ble_eq_true rfl) ⟨Nat.le_of_ble_eq_true rfl, Nat.le_of_ble_eq_true rfl⟩ dL_law_624) (fun r5731 hq5732 => ?_)
  refine th_icmp_eq (X := r5729.toInt) (Y := r5731.toInt) (tgt := 2746) hx hb dL_law_627 (by decide) rfl rfl (fun c5733 => ?_) (fun c5733 => absurd (by omega) c5733)
  exact law_next hat hKN (Nat.le_of_eq hL) hS (lv_sub hl [0, 3] rfl) (Nat.le_of_ble_eq_true rfl) (Nat.le_of_ble_eq_true rfl)

set_option maxHeartbeats 4000000 in
set_option maxRecDepth 100000 in
theorem law_case_8 {p : Program} {l : Launch} {e : Env} {s : State} {m : MethodId} {below : List Frame} {meth : Method} {c : Code} {b L : Nat} {xs : Nat → Int32} {D : va_G} {dA : Nat → ClassId} {K : Kmap} {V : Vmap} {H : Heap} {locs : List Loc} {ls : Array Slot} {x m0 : Nat} (hat : lw_At p s m meth c b L xs) (hKN : KN D dA s) (hL : L = 8) (hS : ST D dA kNone s.heap K V H locs) (FXh : FX K V x) (FMh : FM K V m0) (hl : lv_has ls 4 [(3, .int 0), (2, .ref m0), (1, .ref x), (0, .ref b)]) : W p l e room_1 s m #[Value.ref b] below meth c H locs 163 25899 (lw_Z below #[Value.ref b] s) (F0 m 632 ls []) := by
  have hx := hat.1; have hb := hat.2.1
  have C := law_cx hat hKN
  have hKx : K x = some (0, 10) := FX.kind FXh
  refine lv_aload_n hx hb dL_law_632 rfl (lv_at hl 2 rfl) ?_
  refine lv_aload_n hx hb dL_law_633 rfl (lv_at hl 3 rfl) ?_
  refine lv_iload_n hx hb dL_law_634 rfl (lv_at hl 0 rfl) ?_
  refine lv_iconst (v := 1) hx hb dL_law_635 (by decide) ?_
  refine lv_iadd hx hb dL_law_636 ?_
  refine th_is (w := .int 1) (by decide) ?_
  refine va_sld hx hb hat.2.2.2.2.2.2.1 hat.2.2.2.2.2.2.2.1 (law_nb hat) hS.2.1 (i := 1) (by rw [hL]; exact vp_in_iff.mpr (by decide +kernel)) dL_law_637 ?_
  refine th_is (w := .int (xs 1)) (congrArg (fun j => Value.int (xs j)) (by decide)) ?_
  refine lv_aload_n hx hb dL_law_638 rfl (lv_at hl 3 rfl) ?_
  refine lv_iload_n hx hb dL_law_639 rfl (lv_at hl 0 rfl) ?_
  refine lv_iconst (v := 2) hx hb dL_law_640 (by decide) ?_
  refine lv_iadd hx hb dL_law_641 ?_
  refine th_is (w := .int 2) (by decide) ?_
  refine va_sld hx hb hat.2.2.2.2.2.2.1 hat.2.2.2.2.2.2.2.1 (law_nb hat) hS.2.1 (i := 2) (by rw [hL]; exact vp_in_iff.mpr (by decide +kernel)) dL_law_642 ?_
  refine th_is (w := .int (xs 2)) (congrArg (fun j => Value.int (xs j)) (by decide)) ?_
  refine lv_aload_n hx hb dL_law_643 rfl (lv_at hl 3 rfl) ?_
  refine lv_iload_n hx hb dL_law_644 rfl (lv_at hl 0 rfl) ?_
  refine lv_iconst (v := 3) hx hb dL_law_645 (by decide) ?_
  refine lv_iadd hx hb dL_law_646 ?_
  refine th_is (w := .int 3) (by decide) ?_
  refine va_sld hx hb hat.2.2.2.2.2.2.1 hat.2.2.2.2.2.2.2.1 (law_nb hat) hS.2.1 (i := 3) (by rw [hL]; exact vp_in_iff.mpr (by decide +kernel)) dL_law_647 ?_
  refine th_is (w := .int (xs 3)) (congrArg (fun j => Value.int (xs j)) (by decide)) ?_
  refine th_goiH hS rfl (th_runV (As := [.int (xs 1), .int (xs 2), .int (xs 3)]) (rest := []) C hS.1 (RX11, TX11, 20) rfl gV_RL_50 hKx (t_X11_reserve rfl rfl rfl FXh) hl rfl rfl rfl rfl ⟨Nat.le_of_ble_eq_true rfl, Nat.le_of_ble_eq_true rfl⟩ (Nat.le_of_ble_eq_true rfl) ⟨Nat.le_of_ble_eq_true rfl, Nat.le_of_ble_eq_true rfl⟩ dL_law_648) (fun r5734 K5736 V5737 H locs1 hq5735 hE5738 hS => ?_)
  obtain ⟨hF5739, hr5740⟩ := hq5735
  have FM5741 := FM.moved FMh hE5738 (hF5739 _ FMh.1)
  refine W.widen (k := 164) (n := 25915) (Nat.le_of_ble_eq_true rfl) (Nat.le_of_ble_eq_true rfl) ?_
  refine lv_aload_n hx hb dL_law_651 rfl (lv_at hl 1 rfl) ?_
  refine lv_aload_n hx hb dL_law_652 rfl (lv_at hl 3 rfl) ?_
  refine lv_iload_n hx hb dL_law_653 rfl (lv_at hl 0 rfl) ?_
  refine lv_iconst (v := 1) hx hb dL_law_654 (by decide) ?_
  refine lv_iadd hx hb dL_law_655 ?_
  refine th_is (w := .int 1) (by decide) ?_
  refine va_sld hx hb hat.2.2.2.2.2.2.1 hat.2.2.2.2.2.2.2.1 (law_nb hat) hS.2.1 (i := 1) (by rw [hL]; exact vp_in_iff.mpr (by decide +kernel)) dL_law_656 ?_
  refine th_is (w := .int (xs 1)) (congrArg (fun j => Value.int (xs j)) (by decide)) ?_
  refine lv_aload_n hx hb dL_law_657 rfl (lv_at hl 3 rfl) ?_
  refine lv_iload_n hx hb dL_law_658 rfl (lv_at hl 0 rfl) ?_
  refine lv_iconst (v := 2) hx hb dL_law_659 (by decide) ?_
  refine lv_iadd hx hb dL_law_660 ?_
  refine th_is (w := .int 2) (by decide) ?_
  refine va_sld hx hb hat.2.2.2.2.2.2.1 hat.2.2.2.2.2.2.2.1 (law_nb hat) hS.2.1 (i := 2) (by rw [hL]; exact vp_in_iff.mpr (by decide +kernel)) dL_law_661 ?_
  refine th_is (w := .int (xs 2)) (congrArg (fun j => Value.int (xs j)) (by decide)) ?_
  refine lv_aload_n hx hb dL_law_662 rfl (lv_at hl 3 rfl) ?_
  refine lv_iload_n hx hb dL_law_663 rfl (lv_at hl 0 rfl) ?_
  refine lv_iconst (v := 3) hx hb dL_law_664 (by decide) ?_
  refine lv_iadd hx hb dL_law_665 ?_
  refine th_is (w := .int 3) (by decide) ?_
  refine va_sld hx hb hat.2.2.2.2.2.2.1 hat.2.2.2.2.2.2.2.1 (law_nb hat) hS.2.1 (i := 3) (by rw [hL]; exact vp_in_iff.mpr (by decide +kernel)) dL_law_666 ?_
  refine th_is (w := .int (xs 3)) (congrArg (fun j => Value.int (xs j)) (by decide)) ?_
  refine th_goiH hS rfl (th_runV (As := [.int (xs 1), .int (xs 2), .int (xs 3)]) (rest := [.int r5734]) C hS.1 (RX12, TX12, 151) rfl gV_RL_54 FM5741.1 (t_X12_reserve rfl rfl rfl FM5741) hl rfl rfl rfl rfl ⟨Nat.le_of_ble_eq_true rfl, Nat.le_of_ble_eq_true rfl⟩ (Nat.le_of_ble_eq_true rfl) ⟨Nat.le_of_ble_eq_true rfl, Nat.le_of_ble_eq_true rfl⟩ dL_law_667) (fun r5742 K5744 V5745 H locs1 hq5743 hE5746 hS => ?_)
  refine th_icmp_eq (X := r5734.toInt) (Y := r5742.toInt) (tgt := 2746) hx hb dL_law_670 (by decide) rfl rfl (fun c5747 => ?_) (fun c5747 => absurd (by rcases hr5740 with ⟨_, b1⟩ | ⟨_, b1⟩ <;> rcases hq5743 with ⟨_, b2⟩ | ⟨_, b2⟩ <;> first | exact b1.trans b2.symm | (exfalso; omega)) c5747)
  exact law_next hat hKN (Nat.le_of_eq hL) hS (lv_sub hl [0, 3] rfl) (Nat.le_of_ble_eq_true rfl) (Nat.le_of_ble_eq_true rfl)

set_option maxHeartbeats 4000000 in
set_option maxRecDepth 100000 in
theorem law_case_9 {p : Program} {l : Launch} {e : Env} {s : State} {m : MethodId} {below : List Frame} {meth : Method} {c : Code} {b L : Nat} {xs : Nat → Int32} {D : va_G} {dA : Nat → ClassId} {K : Kmap} {V : Vmap} {H : Heap} {locs : List Loc} {ls : Array Slot} {x m0 : Nat} (hat : lw_At p s m meth c b L xs) (hKN : KN D dA s) (hL : L = 8) (hS : ST D dA kNone s.heap K V H locs) (FXh : FX K V x) (FMh : FM K V m0) (hl : lv_has ls 4 [(3, .int 0), (2, .ref m0), (1, .ref x), (0, .ref b)]) : W p l e room_1 s m #[Value.ref b] below meth c H locs 163 25899 (lw_Z below #[Value.ref b] s) (F0 m 675 ls []) := by
  have hx := hat.1; have hb := hat.2.1
  have C := law_cx hat hKN
  have hKx : K x = some (0, 10) := FX.kind FXh
  refine lv_aload_n hx hb dL_law_675 rfl (lv_at hl 2 rfl) ?_
  refine lv_aload_n hx hb dL_law_676 rfl (lv_at hl 3 rfl) ?_
  refine lv_iload_n hx hb dL_law_677 rfl (lv_at hl 0 rfl) ?_
  refine lv_iconst (v := 1) hx hb dL_law_678 (by decide) ?_
  refine lv_iadd hx hb dL_law_679 ?_
  refine th_is (w := .int 1) (by decide) ?_
  refine va_sld hx hb hat.2.2.2.2.2.2.1 hat.2.2.2.2.2.2.2.1 (law_nb hat) hS.2.1 (i := 1) (by rw [hL]; exact vp_in_iff.mpr (by decide +kernel)) dL_law_680 ?_
  refine th_is (w := .int (xs 1)) (congrArg (fun j => Value.int (xs j)) (by decide)) ?_
  refine lv_aload_n hx hb dL_law_681 rfl (lv_at hl 3 rfl) ?_
  refine lv_iload_n hx hb dL_law_682 rfl (lv_at hl 0 rfl) ?_
  refine lv_iconst (v := 2) hx hb dL_law_683 (by decide) ?_
  refine lv_iadd hx hb dL_law_684 ?_
  refine th_is (w := .int 2) (by decide) ?_
  refine va_sld hx hb hat.2.2.2.2.2.2.1 hat.2.2.2.2.2.2.2.1 (law_nb hat) hS.2.1 (i := 2) (by rw [hL]; exact vp_in_iff.mpr (by decide +kernel)) dL_law_685 ?_
  refine th_is (w := .int (xs 2)) (congrArg (fun j => Value.int (xs j)) (by decide)) ?_
  refine th_if_eq (X := (xs 2).toInt) (tgt := 693) hx hb dL_law_686 (by decide) rfl (fun c5748 => ?_) (fun c5748 => ?_)
  · refine lv_iconst (v := 0) hx hb dL_law_693 (by decide) ?_
    refine th_goiH hS rfl (th_runV (As := [.int (xs 1), .int 0]) (rest := []) C hS.1 (RX11, TX11, 20) rfl gV_RL_55 hKx (t_X11_site rfl li_0 FXh) hl rfl rfl rfl rfl ⟨Nat.le_of_ble_eq_true rfl, Nat.le_of_ble_eq_true rfl⟩ (Nat.le_of_ble_eq_true rfl) ⟨Nat.le_of_ble_eq_true rfl, Nat.le_of_ble_eq_true rfl⟩ dL_law_694) (fun r5749 K5751 V5752 H locs1 hq5750 hE5753 hS => ?_)
    obtain ⟨hF5754, hr5755⟩ := hq5750
    have FM5756 := FM.moved FMh hE5753 (hF5754 _ FMh.1)
    refine W.widen (k := 166) (n := 25935) (Nat.le_of_ble_eq_true rfl) (Nat.le_of_ble_eq_true rfl) ?_
    refine lv_aload_n hx hb dL_law_697 rfl (lv_at hl 1 rfl) ?_
    refine lv_aload_n hx hb dL_law_698 rfl (lv_at hl 3 rfl) ?_
    refine lv_iload_n hx hb dL_law_699 rfl (lv_at hl 0 rfl) ?_
    refine lv_iconst (v := 1) hx hb dL_law_700 (by decide) ?_
    refine lv_iadd hx hb dL_law_701 ?_
    refine th_is (w := .int 1) (by decide) ?_
    refine va_sld hx hb hat.2.2.2.2.2.2.1 hat.2.2.2.2.2.2.2.1 (law_nb hat) hS.2.1 (i := 1) (by rw [hL]; exact vp_in_iff.mpr (by decide +kernel)) dL_law_702 ?_
    refine th_is (w := .int (xs 1)) (congrArg (fun j => Value.int (xs j)) (by decide)) ?_
    refine lv_aload_n hx hb dL_law_703 rfl (lv_at hl 3 rfl) ?_
    refine lv_iload_n hx hb dL_law_704 rfl (lv_at hl 0 rfl) ?_
    refine lv_iconst (v := 2) hx hb dL_law_705 (by decide) ?_
    refine lv_iadd hx hb dL_law_706 ?_
    refine th_is (w := .int 2) (by decide) ?_
    refine va_sld hx hb hat.2.2.2.2.2.2.1 hat.2.2.2.2.2.2.2.1 (law_nb hat) hS.2.1 (i := 2) (by rw [hL]; exact vp_in_iff.mpr (by decide +kernel)) dL_law_707 ?_
    refine th_is (w := .int (xs 2)) (congrArg (fun j => Value.int (xs j)) (by decide)) ?_
    refine th_if_eq (X := (xs 2).toInt) (tgt := 715) hx hb dL_law_708 (by decide) rfl (fun c5757 => ?_) (fun c5757 => absurd c5757 (by omega))
    refine lv_iconst (v := 0) hx hb dL_law_715 (by decide) ?_
    refine th_goiH hS rfl (th_runV (As := [.int (xs 1), .int 0]) (rest := [.int r5749]) C hS.1 (RX12, TX12, 151) rfl gV_RL_59 FM5756.1 (t_X12_site rfl li_0 FM5756) hl rfl rfl rfl rfl ⟨Nat.le_of_ble_eq_true rfl, Nat.le_of_ble_eq_true rfl⟩ (Nat.le_of_ble_eq_true rfl) ⟨Nat.le_of_ble_eq_true rfl, Nat.le_of_ble_eq_true rfl⟩ dL_law_716) (fun r5758 K5760 V5761 H locs1 hq5759 hE5762 hS => ?_)
    refine th_icmp_eq (X := r5749.toInt) (Y := r5758.toInt) (tgt := 2746) hx hb dL_law_719 (by decide) rfl rfl (fun c5763 => ?_) (fun c5763 => absurd (by rcases hr5755 with ⟨_, b1⟩ | ⟨_, b1⟩ <;> rcases hq5759 with ⟨_, b2⟩ | ⟨_, b2⟩ <;> first | exact b1.trans b2.symm | (exfalso; omega)) c5763)
    exact law_next hat hKN (Nat.le_of_eq hL) hS (lv_sub hl [0, 3] rfl) (Nat.le_of_ble_eq_true rfl) (Nat.le_of_ble_eq_true rfl)
  · refine lv_iconst (v := 1) hx hb dL_law_689 (by decide) ?_
    refine lv_goto (tgt := 694) hx hb dL_law_690 (by decide) ?_
    refine th_goiH hS rfl (th_runV (As := [.int (xs 1), .int 1]) (rest := []) C hS.1 (RX11, TX11, 20) rfl gV_RL_55 hKx (t_X11_site rfl li_1 FXh) hl rfl rfl rfl rfl ⟨Nat.le_of_ble_eq_true rfl, Nat.le_of_ble_eq_true rfl⟩ (Nat.le_of_ble_eq_true rfl) ⟨Nat.le_of_ble_eq_true rfl, Nat.le_of_ble_eq_true rfl⟩ dL_law_694) (fun r5764 K5766 V5767 H locs1 hq5765 hE5768 hS => ?_)
    obtain ⟨hF5769, hr5770⟩ := hq5765
    have FM5771 := FM.moved FMh hE5768 (hF5769 _ FMh.1)
    refine W.widen (k := 166) (n := 25935) (Nat.le_of_ble_eq_true rfl) (Nat.le_of_ble_eq_true rfl) ?_
    refine lv_aload_n hx hb dL_law_697 rfl (lv_at hl 1 rfl) ?_
    refine lv_aload_n hx hb dL_law_698 rfl (lv_at hl 3 rfl) ?_
    refine lv_iload_n hx hb dL_law_699 rfl (lv_at hl 0 rfl) ?_
    refine lv_iconst (v := 1) hx hb dL_law_700 (by decide) ?_
    refine lv_iadd hx hb dL_law_701 ?_
    refine th_is (w := .int 1) (by decide) ?_
    refine va_sld hx hb hat.2.2.2.2.2.2.1 hat.2.2.2.2.2.2.2.1 (law_nb hat) hS.2.1 (i := 1) (by rw [hL]; exact vp_in_iff.mpr (by decide +kernel)) dL_law_702 ?_
    refine th_is (w := .int (xs 1)) (congrArg (fun j => Value.int (xs j)) (by decide)) ?_
    refine lv_aload_n hx hb dL_law_703 rfl (lv_at hl 3 rfl) ?_
    refine lv_iload_n hx hb dL_law_704 rfl (lv_at hl 0 rfl) ?_
    refine lv_iconst (v := 2) hx hb dL_law_705 (by decide) ?_
    refine lv_iadd hx hb dL_law_706 ?_
    refine th_is (w := .int 2) (by decide) ?_
    refine va_sld hx hb hat.2.2.2.2.2.2.1 hat.2.2.2.2.2.2.2.1 (law_nb hat) hS.2.1 (i := 2) (by rw [hL]; exact vp_in_iff.mpr (by decide +kernel)) dL_law_707 ?_
    refine th_is (w := .int (xs 2)) (congrArg (fun j => Value.int (xs j)) (by decide)) ?_
    refine th_if_eq (X := (xs 2).toInt) (tgt := 715) hx hb dL_law_708 (by decide) rfl (fun c5772 => absurd c5772 (by omega)) (fun c5772 => ?_)
    refine lv_iconst (v := 1) hx hb dL_law_711 (by decide) ?_
    refine lv_goto (tgt := 716) hx hb dL_law_712 (by decide) ?_
    refine th_goiH hS rfl (th_runV (As := [.int (xs 1), .int 1]) (rest := [.int r5764]) C hS.1 (RX12, TX12, 151) rfl gV_RL_59 FM5771.1 (t_X12_site rfl li_1 FM5771) hl rfl rfl rfl rfl ⟨Nat.le_of_ble_eq_true rfl, Nat.le_of_ble_eq_true rfl⟩ (Nat.le_of_ble_eq_true rfl) ⟨Nat.le_of_ble_eq_true rfl, Nat.le_of_ble_eq_true rfl⟩ dL_law_716) (fun r5773 K5775 V5776 H locs1 hq5774 hE5777 hS => ?_)
    refine th_icmp_eq (X := r5764.toInt) (Y := r5773.toInt) (tgt := 2746) hx hb dL_law_719 (by decide) rfl rfl (fun c5778 => ?_) (fun c5778 => absurd (by rcases hr5770 with ⟨_, b1⟩ | ⟨_, b1⟩ <;> rcases hq5774 with ⟨_, b2⟩ | ⟨_, b2⟩ <;> first | exact b1.trans b2.symm | (exfalso; omega)) c5778)
    exact law_next hat hKN (Nat.le_of_eq hL) hS (lv_sub hl [0, 3] rfl) (Nat.le_of_ble_eq_true rfl) (Nat.le_of_ble_eq_true rfl)

set_option maxHeartbeats 4000000 in
set_option maxRecDepth 100000 in
theorem law_case_10 {p : Program} {l : Launch} {e : Env} {s : State} {m : MethodId} {below : List Frame} {meth : Method} {c : Code} {b L : Nat} {xs : Nat → Int32} {D : va_G} {dA : Nat → ClassId} {K : Kmap} {V : Vmap} {H : Heap} {locs : List Loc} {ls : Array Slot} {x m0 : Nat} (hat : lw_At p s m meth c b L xs) (hKN : KN D dA s) (hL : L = 8) (hS : ST D dA kNone s.heap K V H locs) (FXh : FX K V x) (FMh : FM K V m0) (hl : lv_has ls 4 [(3, .int 0), (2, .ref m0), (1, .ref x), (0, .ref b)]) : W p l e room_1 s m #[Value.ref b] below meth c H locs 163 25899 (lw_Z below #[Value.ref b] s) (F0 m 724 ls []) := by
  have hx := hat.1; have hb := hat.2.1
  have C := law_cx hat hKN
  have hKx : K x = some (0, 10) := FX.kind FXh
  refine lv_aload_n hx hb dL_law_724 rfl (lv_at hl 2 rfl) ?_
  refine lv_aload_n hx hb dL_law_725 rfl (lv_at hl 3 rfl) ?_
  refine lv_iload_n hx hb dL_law_726 rfl (lv_at hl 0 rfl) ?_
  refine lv_iconst (v := 1) hx hb dL_law_727 (by decide) ?_
  refine lv_iadd hx hb dL_law_728 ?_
  refine th_is (w := .int 1) (by decide) ?_
  refine va_sld hx hb hat.2.2.2.2.2.2.1 hat.2.2.2.2.2.2.2.1 (law_nb hat) hS.2.1 (i := 1) (by rw [hL]; exact vp_in_iff.mpr (by decide +kernel)) dL_law_729 ?_
  refine th_is (w := .int (xs 1)) (congrArg (fun j => Value.int (xs j)) (by decide)) ?_
  refine lv_aload_n hx hb dL_law_730 rfl (lv_at hl 3 rfl) ?_
  refine lv_iload_n hx hb dL_law_731 rfl (lv_at hl 0 rfl) ?_
  refine lv_iconst (v := 2) hx hb dL_law_732 (by decide) ?_
  refine lv_iadd hx hb dL_law_733 ?_
  refine th_is (w := .int 2) (by decide) ?_
  refine va_sld hx hb hat.2.2.2.2.2.2.1 hat.2.2.2.2.2.2.2.1 (law_nb hat) hS.2.1 (i := 2) (by rw [hL]; exact vp_in_iff.mpr (by decide +kernel)) dL_law_734 ?_
  refine th_is (w := .int (xs 2)) (congrArg (fun j => Value.int (xs j)) (by decide)) ?_
  refine lv_aload_n hx hb dL_law_735 rfl (lv_at hl 3 rfl) ?_
  refine lv_iload_n hx hb dL_law_736 rfl (lv_at hl 0 rfl) ?_
  refine lv_iconst (v := 3) hx hb dL_law_737 (by decide) ?_
  refine lv_iadd hx hb dL_law_738 ?_
  refine th_is (w := .int 3) (by decide) ?_
  refine va_sld hx hb hat.2.2.2.2.2.2.1 hat.2.2.2.2.2.2.2.1 (law_nb hat) hS.2.1 (i := 3) (by rw [hL]; exact vp_in_iff.mpr (by decide +kernel)) dL_law_739 ?_
  refine th_is (w := .int (xs 3)) (congrArg (fun j => Value.int (xs j)) (by decide)) ?_
  refine lv_aload_n hx hb dL_law_740 rfl (lv_at hl 3 rfl) ?_
  refine lv_iload_n hx hb dL_law_741 rfl (lv_at hl 0 rfl) ?_
  refine lv_iconst (v := 4) hx hb dL_law_742 (by decide) ?_
  refine lv_iadd hx hb dL_law_743 ?_
  refine th_is (w := .int 4) (by decide) ?_
  refine va_sld hx hb hat.2.2.2.2.2.2.1 hat.2.2.2.2.2.2.2.1 (law_nb hat) hS.2.1 (i := 4) (by rw [hL]; exact vp_in_iff.mpr (by decide +kernel)) dL_law_744 ?_
  refine th_is (w := .int (xs 4)) (congrArg (fun j => Value.int (xs j)) (by decide)) ?_
  refine lv_aload_n hx hb dL_law_745 rfl (lv_at hl 3 rfl) ?_
  refine lv_iload_n hx hb dL_law_746 rfl (lv_at hl 0 rfl) ?_
  refine lv_iconst (v := 5) hx hb dL_law_747 (by decide) ?_
  refine lv_iadd hx hb dL_law_748 ?_
  refine th_is (w := .int 5) (by decide) ?_
  refine va_sld hx hb hat.2.2.2.2.2.2.1 hat.2.2.2.2.2.2.2.1 (law_nb hat) hS.2.1 (i := 5) (by rw [hL]; exact vp_in_iff.mpr (by decide +kernel)) dL_law_749 ?_
  refine th_is (w := .int (xs 5)) (congrArg (fun j => Value.int (xs j)) (by decide)) ?_
  refine th_goiH hS rfl (th_runV (As := [.int (xs 1), .int (xs 2), .int (xs 3), .int (xs 4), .int (xs 5)]) (rest := []) C hS.1 (RX11, TX11, 20) rfl gV_RL_60 hKx (t_X11_feed rfl rfl rfl rfl rfl FXh) hl rfl rfl rfl rfl ⟨Nat.le_of_ble_eq_true rfl, Nat.le_of_ble_eq_true rfl⟩ (Nat.le_of_ble_eq_true rfl) ⟨Nat.le_of_ble_eq_true rfl, Nat.le_of_ble_eq_true rfl⟩ dL_law_750) (fun r5779 K5781 V5782 H locs1 hq5780 hE5783 hS => ?_)
  obtain ⟨hF5784, hr5785⟩ := hq5780
  have FM5786 := FM.moved FMh hE5783 (hF5784 _ FMh.1)
  refine lv_aload_n hx hb dL_law_753 rfl (lv_at hl 1 rfl) ?_
  refine lv_aload_n hx hb dL_law_754 rfl (lv_at hl 3 rfl) ?_
  refine lv_iload_n hx hb dL_law_755 rfl (lv_at hl 0 rfl) ?_
  refine lv_iconst (v := 1) hx hb dL_law_756 (by decide) ?_
  refine lv_iadd hx hb dL_law_757 ?_
  refine th_is (w := .int 1) (by decide) ?_
  refine va_sld hx hb hat.2.2.2.2.2.2.1 hat.2.2.2.2.2.2.2.1 (law_nb hat) hS.2.1 (i := 1) (by rw [hL]; exact vp_in_iff.mpr (by decide +kernel)) dL_law_758 ?_
  refine th_is (w := .int (xs 1)) (congrArg (fun j => Value.int (xs j)) (by decide)) ?_
  refine lv_aload_n hx hb dL_law_759 rfl (lv_at hl 3 rfl) ?_
  refine lv_iload_n hx hb dL_law_760 rfl (lv_at hl 0 rfl) ?_
  refine lv_iconst (v := 2) hx hb dL_law_761 (by decide) ?_
  refine lv_iadd hx hb dL_law_762 ?_
  refine th_is (w := .int 2) (by decide) ?_
  refine va_sld hx hb hat.2.2.2.2.2.2.1 hat.2.2.2.2.2.2.2.1 (law_nb hat) hS.2.1 (i := 2) (by rw [hL]; exact vp_in_iff.mpr (by decide +kernel)) dL_law_763 ?_
  refine th_is (w := .int (xs 2)) (congrArg (fun j => Value.int (xs j)) (by decide)) ?_
  refine lv_aload_n hx hb dL_law_764 rfl (lv_at hl 3 rfl) ?_
  refine lv_iload_n hx hb dL_law_765 rfl (lv_at hl 0 rfl) ?_
  refine lv_iconst (v := 3) hx hb dL_law_766 (by decide) ?_
  refine lv_iadd hx hb dL_law_767 ?_
  refine th_is (w := .int 3) (by decide) ?_
  refine va_sld hx hb hat.2.2.2.2.2.2.1 hat.2.2.2.2.2.2.2.1 (law_nb hat) hS.2.1 (i := 3) (by rw [hL]; exact vp_in_iff.mpr (by decide +kernel)) dL_law_768 ?_
  refine th_is (w := .int (xs 3)) (congrArg (fun j => Value.int (xs j)) (by decide)) ?_
  refine lv_aload_n hx hb dL_law_769 rfl (lv_at hl 3 rfl) ?_
  refine lv_iload_n hx hb dL_law_770 rfl (lv_at hl 0 rfl) ?_
  refine lv_iconst (v := 4) hx hb dL_law_771 (by decide) ?_
  refine lv_iadd hx hb dL_law_772 ?_
  refine th_is (w := .int 4) (by decide) ?_
  refine va_sld hx hb hat.2.2.2.2.2.2.1 hat.2.2.2.2.2.2.2.1 (law_nb hat) hS.2.1 (i := 4) (by rw [hL]; exact vp_in_iff.mpr (by decide +kernel)) dL_law_773 ?_
  refine th_is (w := .int (xs 4)) (congrArg (fun j => Value.int (xs j)) (by decide)) ?_
  refine lv_aload_n hx hb dL_law_774 rfl (lv_at hl 3 rfl) ?_
  refine lv_iload_n hx hb dL_law_775 rfl (lv_at hl 0 rfl) ?_
  refine lv_iconst (v := 5) hx hb dL_law_776 (by decide) ?_
  refine lv_iadd hx hb dL_law_777 ?_
  refine th_is (w := .int 5) (by decide) ?_
  refine va_sld hx hb hat.2.2.2.2.2.2.1 hat.2.2.2.2.2.2.2.1 (law_nb hat) hS.2.1 (i := 5) (by rw [hL]; exact vp_in_iff.mpr (by decide +kernel)) dL_law_778 ?_
  refine th_is (w := .int (xs 5)) (congrArg (fun j => Value.int (xs j)) (by decide)) ?_
  refine th_goiH hS rfl (th_runV (As := [.int (xs 1), .int (xs 2), .int (xs 3), .int (xs 4), .int (xs 5)]) (rest := [.int r5779]) C hS.1 (RX12, TX12, 151) rfl gV_RL_64 FM5786.1 (t_X12_feed rfl rfl rfl rfl rfl FM5786) hl rfl rfl rfl rfl ⟨Nat.le_of_ble_eq_true rfl, Nat.le_of_ble_eq_true rfl⟩ (Nat.le_of_ble_eq_true rfl) ⟨Nat.le_of_ble_eq_true rfl, Nat.le_of_ble_eq_true rfl⟩ dL_law_779) (fun r5787 K5789 V5790 H locs1 hq5788 hE5791 hS => ?_)
  refine th_icmp_eq (X := r5779.toInt) (Y := r5787.toInt) (tgt := 2746) hx hb dL_law_782 (by decide) rfl rfl (fun c5792 => ?_) (fun c5792 => absurd (by omega) c5792)
  exact law_next hat hKN (Nat.le_of_eq hL) hS (lv_sub hl [0, 3] rfl) (Nat.le_of_ble_eq_true rfl) (Nat.le_of_ble_eq_true rfl)

set_option maxHeartbeats 4000000 in
set_option maxRecDepth 100000 in
theorem law_case_11 {p : Program} {l : Launch} {e : Env} {s : State} {m : MethodId} {below : List Frame} {meth : Method} {c : Code} {b L : Nat} {xs : Nat → Int32} {D : va_G} {dA : Nat → ClassId} {K : Kmap} {V : Vmap} {H : Heap} {locs : List Loc} {ls : Array Slot} {x m0 : Nat} (hat : lw_At p s m meth c b L xs) (hKN : KN D dA s) (hL : L = 8) (hS : ST D dA kNone s.heap K V H locs) (FXh : FX K V x) (FMh : FM K V m0) (hl : lv_has ls 4 [(3, .int 0), (2, .ref m0), (1, .ref x), (0, .ref b)]) : W p l e room_1 s m #[Value.ref b] below meth c H locs 163 25899 (lw_Z below #[Value.ref b] s) (F0 m 787 ls []) := by
  have hx := hat.1; have hb := hat.2.1
  have C := law_cx hat hKN
  have hKx : K x = some (0, 10) := FX.kind FXh
  refine lv_aload_n hx hb dL_law_787 rfl (lv_at hl 2 rfl) ?_
  refine lv_aload_n hx hb dL_law_788 rfl (lv_at hl 3 rfl) ?_
  refine lv_iload_n hx hb dL_law_789 rfl (lv_at hl 0 rfl) ?_
  refine lv_iconst (v := 1) hx hb dL_law_790 (by decide) ?_
  refine lv_iadd hx hb dL_law_791 ?_
  refine th_is (w := .int 1) (by decide) ?_
  refine va_sld hx hb hat.2.2.2.2.2.2.1 hat.2.2.2.2.2.2.2.1 (law_nb hat) hS.2.1 (i := 1) (by rw [hL]; exact vp_in_iff.mpr (by decide +kernel)) dL_law_792 ?_
  refine th_is (w := .int (xs 1)) (congrArg (fun j => Value.int (xs j)) (by decide)) ?_
  refine lv_aload_n hx hb dL_law_793 rfl (lv_at hl 3 rfl) ?_
  refine lv_iload_n hx hb dL_law_794 rfl (lv_at hl 0 rfl) ?_
  refine lv_iconst (v := 2) hx hb dL_law_795 (by decide) ?_
  refine lv_iadd hx hb dL_law_796 ?_
  refine th_is (w := .int 2) (by decide) ?_
  refine va_sld hx hb hat.2.2.2.2.2.2.1 hat.2.2.2.2.2.2.2.1 (law_nb hat) hS.2.1 (i := 2) (by rw [hL]; exact vp_in_iff.mpr (by decide +kernel)) dL_law_797 ?_
  refine th_is (w := .int (xs 2)) (congrArg (fun j => Value.int (xs j)) (by decide)) ?_
  refine lv_aload_n hx hb dL_law_798 rfl (lv_at hl 3 rfl) ?_
  refine lv_iload_n hx hb dL_law_799 rfl (lv_at hl 0 rfl) ?_
  refine lv_iconst (v := 3) hx hb dL_law_800 (by decide) ?_
  refine lv_iadd hx hb dL_law_801 ?_
  refine th_is (w := .int 3) (by decide) ?_
  refine va_sld hx hb hat.2.2.2.2.2.2.1 hat.2.2.2.2.2.2.2.1 (law_nb hat) hS.2.1 (i := 3) (by rw [hL]; exact vp_in_iff.mpr (by decide +kernel)) dL_law_802 ?_
  refine th_is (w := .int (xs 3)) (congrArg (fun j => Value.int (xs j)) (by decide)) ?_
  refine th_goi (th_runV (As := [.int (xs 1), .int (xs 2), .int (xs 3)]) (rest := []) C hS.1 (RX11, TX11, 20) rfl gV_RL_65 hKx (t_X11_text rfl rfl rfl FXh) hl rfl rfl rfl rfl ⟨Nat.le_of_ble_eq_true rfl, Nat.le_of_ble_eq_true rfl⟩ (Nat.le_of_ble_eq_true rfl) ⟨Nat.le_of_ble_eq_true rfl, Nat.le_of_ble_eq_true rfl⟩ dL_law_803) (fun r5793 hq5794 => ?_)
  refine lv_aload_n hx hb dL_law_806 rfl (lv_at hl 1 rfl) ?_
  refine lv_aload_n hx hb dL_law_807 rfl (lv_at hl 3 rfl) ?_
  refine lv_iload_n hx hb dL_law_808 rfl (lv_at hl 0 rfl) ?_
  refine lv_iconst (v := 1) hx hb dL_law_809 (by decide) ?_
  refine lv_iadd hx hb dL_law_810 ?_
  refine th_is (w := .int 1) (by decide) ?_
  refine va_sld hx hb hat.2.2.2.2.2.2.1 hat.2.2.2.2.2.2.2.1 (law_nb hat) hS.2.1 (i := 1) (by rw [hL]; exact vp_in_iff.mpr (by decide +kernel)) dL_law_811 ?_
  refine th_is (w := .int (xs 1)) (congrArg (fun j => Value.int (xs j)) (by decide)) ?_
  refine lv_aload_n hx hb dL_law_812 rfl (lv_at hl 3 rfl) ?_
  refine lv_iload_n hx hb dL_law_813 rfl (lv_at hl 0 rfl) ?_
  refine lv_iconst (v := 2) hx hb dL_law_814 (by decide) ?_
  refine lv_iadd hx hb dL_law_815 ?_
  refine th_is (w := .int 2) (by decide) ?_
  refine va_sld hx hb hat.2.2.2.2.2.2.1 hat.2.2.2.2.2.2.2.1 (law_nb hat) hS.2.1 (i := 2) (by rw [hL]; exact vp_in_iff.mpr (by decide +kernel)) dL_law_816 ?_
  refine th_is (w := .int (xs 2)) (congrArg (fun j => Value.int (xs j)) (by decide)) ?_
  refine lv_aload_n hx hb dL_law_817 rfl (lv_at hl 3 rfl) ?_
  refine lv_iload_n hx hb dL_law_818 rfl (lv_at hl 0 rfl) ?_
  refine lv_iconst (v := 3) hx hb dL_law_819 (by decide) ?_
  refine lv_iadd hx hb dL_law_820 ?_
  refine th_is (w := .int 3) (by decide) ?_
  refine va_sld hx hb hat.2.2.2.2.2.2.1 hat.2.2.2.2.2.2.2.1 (law_nb hat) hS.2.1 (i := 3) (by rw [hL]; exact vp_in_iff.mpr (by decide +kernel)) dL_law_821 ?_
  refine th_is (w := .int (xs 3)) (congrArg (fun j => Value.int (xs j)) (by decide)) ?_
  refine th_goi (th_runV (As := [.int (xs 1), .int (xs 2), .int (xs 3)]) (rest := [.int r5793]) C hS.1 (RX12, TX12, 151) rfl gV_RL_68 FMh.1 (t_X12_text rfl rfl rfl FMh) hl rfl rfl rfl rfl ⟨Nat.le_of_ble_eq_true rfl, Nat.le_of_ble_eq_true rfl⟩ (Nat.le_of_ble_eq_true rfl) ⟨Nat.le_of_ble_eq_true rfl, Nat.le_of_ble_eq_true rfl⟩ dL_law_822) (fun r5795 hq5796 => ?_)
  refine th_icmp_eq (X := r5793.toInt) (Y := r5795.toInt) (tgt := 2746) hx hb dL_law_825 (by decide) rfl rfl (fun c5797 => ?_) (fun c5797 => absurd (by omega) c5797)
  exact law_next hat hKN (Nat.le_of_eq hL) hS (lv_sub hl [0, 3] rfl) (Nat.le_of_ble_eq_true rfl) (Nat.le_of_ble_eq_true rfl)

set_option maxHeartbeats 4000000 in
set_option maxRecDepth 100000 in
theorem law_case_12 {p : Program} {l : Launch} {e : Env} {s : State} {m : MethodId} {below : List Frame} {meth : Method} {c : Code} {b L : Nat} {xs : Nat → Int32} {D : va_G} {dA : Nat → ClassId} {K : Kmap} {V : Vmap} {H : Heap} {locs : List Loc} {ls : Array Slot} {x m0 : Nat} (hat : lw_At p s m meth c b L xs) (hKN : KN D dA s) (hL : L = 8) (hS : ST D dA kNone s.heap K V H locs) (FXh : FX K V x) (FMh : FM K V m0) (hl : lv_has ls 4 [(3, .int 0), (2, .ref m0), (1, .ref x), (0, .ref b)]) : W p l e room_1 s m #[Value.ref b] below meth c H locs 163 25899 (lw_Z below #[Value.ref b] s) (F0 m 830 ls []) := by
  have hx := hat.1; have hb := hat.2.1
  have C := law_cx hat hKN
  have hKx : K x = some (0, 10) := FX.kind FXh
  refine lv_aload_n hx hb dL_law_830 rfl (lv_at hl 2 rfl) ?_
  refine lv_aload_n hx hb dL_law_831 rfl (lv_at hl 3 rfl) ?_
  refine lv_iload_n hx hb dL_law_832 rfl (lv_at hl 0 rfl) ?_
  refine lv_iconst (v := 1) hx hb dL_law_833 (by decide) ?_
  refine lv_iadd hx hb dL_law_834 ?_
  refine th_is (w := .int 1) (by decide) ?_
  refine va_sld hx hb hat.2.2.2.2.2.2.1 hat.2.2.2.2.2.2.2.1 (law_nb hat) hS.2.1 (i := 1) (by rw [hL]; exact vp_in_iff.mpr (by decide +kernel)) dL_law_835 ?_
  refine th_is (w := .int (xs 1)) (congrArg (fun j => Value.int (xs j)) (by decide)) ?_
  refine lv_aload_n hx hb dL_law_836 rfl (lv_at hl 3 rfl) ?_
  refine lv_iload_n hx hb dL_law_837 rfl (lv_at hl 0 rfl) ?_
  refine lv_iconst (v := 2) hx hb dL_law_838 (by decide) ?_
  refine lv_iadd hx hb dL_law_839 ?_
  refine th_is (w := .int 2) (by decide) ?_
  refine va_sld hx hb hat.2.2.2.2.2.2.1 hat.2.2.2.2.2.2.2.1 (law_nb hat) hS.2.1 (i := 2) (by rw [hL]; exact vp_in_iff.mpr (by decide +kernel)) dL_law_840 ?_
  refine th_is (w := .int (xs 2)) (congrArg (fun j => Value.int (xs j)) (by decide)) ?_
  refine th_goi (th_runV (As := [.int (xs 1), .int (xs 2)]) (rest := []) C hS.1 (RX11, TX11, 20) rfl gV_RL_69 hKx (t_X11_yes rfl rfl FXh) hl rfl rfl rfl rfl ⟨Nat.le_of_ble_eq_true rfl, Nat.le_of_ble_eq_true rfl⟩ (Nat.le_of_ble_eq_true rfl) ⟨Nat.le_of_ble_eq_true rfl, Nat.le_of_ble_eq_true rfl⟩ dL_law_841) (fun r5798 hq5799 => ?_)
  refine lv_aload_n hx hb dL_law_844 rfl (lv_at hl 1 rfl) ?_
  refine lv_aload_n hx hb dL_law_845 rfl (lv_at hl 3 rfl) ?_
  refine lv_iload_n hx hb dL_law_846 rfl (lv_at hl 0 rfl) ?_
  refine lv_iconst (v := 1) hx hb dL_law_847 (by decide) ?_
  refine lv_iadd hx hb dL_law_848 ?_
  refine th_is (w := .int 1) (by decide) ?_
  refine va_sld hx hb hat.2.2.2.2.2.2.1 hat.2.2.2.2.2.2.2.1 (law_nb hat) hS.2.1 (i := 1) (by rw [hL]; exact vp_in_iff.mpr (by decide +kernel)) dL_law_849 ?_
  refine th_is (w := .int (xs 1)) (congrArg (fun j => Value.int (xs j)) (by decide)) ?_
  refine lv_aload_n hx hb dL_law_850 rfl (lv_at hl 3 rfl) ?_
  refine lv_iload_n hx hb dL_law_851 rfl (lv_at hl 0 rfl) ?_
  refine lv_iconst (v := 2) hx hb dL_law_852 (by decide) ?_
  refine lv_iadd hx hb dL_law_853 ?_
  refine th_is (w := .int 2) (by decide) ?_
  refine va_sld hx hb hat.2.2.2.2.2.2.1 hat.2.2.2.2.2.2.2.1 (law_nb hat) hS.2.1 (i := 2) (by rw [hL]; exact vp_in_iff.mpr (by decide +kernel)) dL_law_854 ?_
  refine th_is (w := .int (xs 2)) (congrArg (fun j => Value.int (xs j)) (by decide)) ?_
  refine th_goi (th_runV (As := [.int (xs 1), .int (xs 2)]) (rest := [.int r5798]) C hS.1 (RX12, TX12, 151) rfl gV_RL_72 FMh.1 (t_X12_yes rfl rfl FMh) hl rfl rfl rfl rfl ⟨Nat.le_of_ble_eq_true rfl, Nat.le_of_ble_eq_true rfl⟩ (Nat.le_of_ble_eq_true rfl) ⟨Nat.le_of_ble_eq_true rfl, Nat.le_of_ble_eq_true rfl⟩ dL_law_855) (fun r5800 hq5801 => ?_)
  refine th_icmp_eq (X := r5798.toInt) (Y := r5800.toInt) (tgt := 2746) hx hb dL_law_858 (by decide) rfl rfl (fun c5802 => ?_) (fun c5802 => absurd (by omega) c5802)
  exact law_next hat hKN (Nat.le_of_eq hL) hS (lv_sub hl [0, 3] rfl) (Nat.le_of_ble_eq_true rfl) (Nat.le_of_ble_eq_true rfl)

set_option maxHeartbeats 4000000 in
set_option maxRecDepth 100000 in
theorem law_case_13 {p : Program} {l : Launch} {e : Env} {s : State} {m : MethodId} {below : List Frame} {meth : Method} {c : Code} {b L : Nat} {xs : Nat → Int32} {D : va_G} {dA : Nat → ClassId} {K : Kmap} {V : Vmap} {H : Heap} {locs : List Loc} {ls : Array Slot} {x m0 : Nat} (hat : lw_At p s m meth c b L xs) (hKN : KN D dA s) (hL : L = 8) (hS : ST D dA kNone s.heap K V H locs) (FXh : FX K V x) (FMh : FM K V m0) (hl : lv_has ls 4 [(3, .int 0), (2, .ref m0), (1, .ref x), (0, .ref b)]) : W p l e room_1 s m #[Value.ref b] below meth c H locs 163 25899 (lw_Z below #[Value.ref b] s) (F0 m 863 ls []) := by
  have hx := hat.1; have hb := hat.2.1
  have C := law_cx hat hKN
  have hKx : K x = some (0, 10) := FX.kind FXh
  refine lv_aload_n hx hb dL_law_863 rfl (lv_at hl 2 rfl) ?_
  refine lv_aload_n hx hb dL_law_864 rfl (lv_at hl 3 rfl) ?_
  refine lv_iload_n hx hb dL_law_865 rfl (lv_at hl 0 rfl) ?_
  refine lv_iconst (v := 1) hx hb dL_law_866 (by decide) ?_
  refine lv_iadd hx hb dL_law_867 ?_
  refine th_is (w := .int 1) (by decide) ?_
  refine va_sld hx hb hat.2.2.2.2.2.2.1 hat.2.2.2.2.2.2.2.1 (law_nb hat) hS.2.1 (i := 1) (by rw [hL]; exact vp_in_iff.mpr (by decide +kernel)) dL_law_868 ?_
  refine th_is (w := .int (xs 1)) (congrArg (fun j => Value.int (xs j)) (by decide)) ?_
  refine lv_aload_n hx hb dL_law_869 rfl (lv_at hl 3 rfl) ?_
  refine lv_iload_n hx hb dL_law_870 rfl (lv_at hl 0 rfl) ?_
  refine lv_iconst (v := 2) hx hb dL_law_871 (by decide) ?_
  refine lv_iadd hx hb dL_law_872 ?_
  refine th_is (w := .int 2) (by decide) ?_
  refine va_sld hx hb hat.2.2.2.2.2.2.1 hat.2.2.2.2.2.2.2.1 (law_nb hat) hS.2.1 (i := 2) (by rw [hL]; exact vp_in_iff.mpr (by decide +kernel)) dL_law_873 ?_
  refine th_is (w := .int (xs 2)) (congrArg (fun j => Value.int (xs j)) (by decide)) ?_
  refine lv_aload_n hx hb dL_law_874 rfl (lv_at hl 3 rfl) ?_
  refine lv_iload_n hx hb dL_law_875 rfl (lv_at hl 0 rfl) ?_
  refine lv_iconst (v := 3) hx hb dL_law_876 (by decide) ?_
  refine lv_iadd hx hb dL_law_877 ?_
  refine th_is (w := .int 3) (by decide) ?_
  refine va_sld hx hb hat.2.2.2.2.2.2.1 hat.2.2.2.2.2.2.2.1 (law_nb hat) hS.2.1 (i := 3) (by rw [hL]; exact vp_in_iff.mpr (by decide +kernel)) dL_law_878 ?_
  refine th_is (w := .int (xs 3)) (congrArg (fun j => Value.int (xs j)) (by decide)) ?_
  refine lv_aload_n hx hb dL_law_879 rfl (lv_at hl 3 rfl) ?_
  refine lv_iload_n hx hb dL_law_880 rfl (lv_at hl 0 rfl) ?_
  refine lv_iconst (v := 4) hx hb dL_law_881 (by decide) ?_
  refine lv_iadd hx hb dL_law_882 ?_
  refine th_is (w := .int 4) (by decide) ?_
  refine va_sld hx hb hat.2.2.2.2.2.2.1 hat.2.2.2.2.2.2.2.1 (law_nb hat) hS.2.1 (i := 4) (by rw [hL]; exact vp_in_iff.mpr (by decide +kernel)) dL_law_883 ?_
  refine th_is (w := .int (xs 4)) (congrArg (fun j => Value.int (xs j)) (by decide)) ?_
  refine th_goi (th_runV (As := [.int (xs 1), .int (xs 2), .int (xs 3), .int (xs 4)]) (rest := []) C hS.1 (RX11, TX11, 20) rfl gV_RL_73 hKx (t_X11_reading rfl rfl rfl rfl FXh) hl rfl rfl rfl rfl ⟨Nat.le_of_ble_eq_true rfl, Nat.le_of_ble_eq_true rfl⟩ (Nat.le_of_ble_eq_true rfl) ⟨Nat.le_of_ble_eq_true rfl, Nat.le_of_ble_eq_true rfl⟩ dL_law_884) (fun r5803 hq5804 => ?_)
  refine lv_aload_n hx hb dL_law_887 rfl (lv_at hl 1 rfl) ?_
  refine lv_aload_n hx hb dL_law_888 rfl (lv_at hl 3 rfl) ?_
  refine lv_iload_n hx hb dL_law_889 rfl (lv_at hl 0 rfl) ?_
  refine lv_iconst (v := 1) hx hb dL_law_890 (by decide) ?_
  refine lv_iadd hx hb dL_law_891 ?_
  refine th_is (w := .int 1) (by decide) ?_
  refine va_sld hx hb hat.2.2.2.2.2.2.1 hat.2.2.2.2.2.2.2.1 (law_nb hat) hS.2.1 (i := 1) (by rw [hL]; exact vp_in_iff.mpr (by decide +kernel)) dL_law_892 ?_
  refine th_is (w := .int (xs 1)) (congrArg (fun j => Value.int (xs j)) (by decide)) ?_
  refine lv_aload_n hx hb dL_law_893 rfl (lv_at hl 3 rfl) ?_
  refine lv_iload_n hx hb dL_law_894 rfl (lv_at hl 0 rfl) ?_
  refine lv_iconst (v := 2) hx hb dL_law_895 (by decide) ?_
  refine lv_iadd hx hb dL_law_896 ?_
  refine th_is (w := .int 2) (by decide) ?_
  refine va_sld hx hb hat.2.2.2.2.2.2.1 hat.2.2.2.2.2.2.2.1 (law_nb hat) hS.2.1 (i := 2) (by rw [hL]; exact vp_in_iff.mpr (by decide +kernel)) dL_law_897 ?_
  refine th_is (w := .int (xs 2)) (congrArg (fun j => Value.int (xs j)) (by decide)) ?_
  refine lv_aload_n hx hb dL_law_898 rfl (lv_at hl 3 rfl) ?_
  refine lv_iload_n hx hb dL_law_899 rfl (lv_at hl 0 rfl) ?_
  refine lv_iconst (v := 3) hx hb dL_law_900 (by decide) ?_
  refine lv_iadd hx hb dL_law_901 ?_
  refine th_is (w := .int 3) (by decide) ?_
  refine va_sld hx hb hat.2.2.2.2.2.2.1 hat.2.2.2.2.2.2.2.1 (law_nb hat) hS.2.1 (i := 3) (by rw [hL]; exact vp_in_iff.mpr (by decide +kernel)) dL_law_902 ?_
  refine th_is (w := .int (xs 3)) (congrArg (fun j => Value.int (xs j)) (by decide)) ?_
  refine lv_aload_n hx hb dL_law_903 rfl (lv_at hl 3 rfl) ?_
  refine lv_iload_n hx hb dL_law_904 rfl (lv_at hl 0 rfl) ?_
  refine lv_iconst (v := 4) hx hb dL_law_905 (by decide) ?_
  refine lv_iadd hx hb dL_law_906 ?_
  refine th_is (w := .int 4) (by decide) ?_
  refine va_sld hx hb hat.2.2.2.2.2.2.1 hat.2.2.2.2.2.2.2.1 (law_nb hat) hS.2.1 (i := 4) (by rw [hL]; exact vp_in_iff.mpr (by decide +kernel)) dL_law_907 ?_
  refine th_is (w := .int (xs 4)) (congrArg (fun j => Value.int (xs j)) (by decide)) ?_
  refine th_goi (th_runV (As := [.int (xs 1), .int (xs 2), .int (xs 3), .int (xs 4)]) (rest := [.int r5803]) C hS.1 (RX12, TX12, 151) rfl gV_RL_76 FMh.1 (t_X12_reading rfl rfl rfl rfl FMh) hl rfl rfl rfl rfl ⟨Nat.le_of_ble_eq_true rfl, Nat.le_of_ble_eq_true rfl⟩ (Nat.le_of_ble_eq_true rfl) ⟨Nat.le_of_ble_eq_true rfl, Nat.le_of_ble_eq_true rfl⟩ dL_law_908) (fun r5805 hq5806 => ?_)
  refine th_icmp_eq (X := r5803.toInt) (Y := r5805.toInt) (tgt := 2746) hx hb dL_law_911 (by decide) rfl rfl (fun c5807 => ?_) (fun c5807 => absurd (by omega) c5807)
  exact law_next hat hKN (Nat.le_of_eq hL) hS (lv_sub hl [0, 3] rfl) (Nat.le_of_ble_eq_true rfl) (Nat.le_of_ble_eq_true rfl)

set_option maxHeartbeats 4000000 in
set_option maxRecDepth 100000 in
theorem law_case_14 {p : Program} {l : Launch} {e : Env} {s : State} {m : MethodId} {below : List Frame} {meth : Method} {c : Code} {b L : Nat} {xs : Nat → Int32} {D : va_G} {dA : Nat → ClassId} {K : Kmap} {V : Vmap} {H : Heap} {locs : List Loc} {ls : Array Slot} {x m0 : Nat} (hat : lw_At p s m meth c b L xs) (hKN : KN D dA s) (hL : L = 8) (hS : ST D dA kNone s.heap K V H locs) (FXh : FX K V x) (FMh : FM K V m0) (hl : lv_has ls 4 [(3, .int 0), (2, .ref m0), (1, .ref x), (0, .ref b)]) : W p l e room_1 s m #[Value.ref b] below meth c H locs 163 25899 (lw_Z below #[Value.ref b] s) (F0 m 916 ls []) := by
  have hx := hat.1; have hb := hat.2.1
  have C := law_cx hat hKN
  have hKx : K x = some (0, 10) := FX.kind FXh
  refine lv_aload_n hx hb dL_law_916 rfl (lv_at hl 2 rfl) ?_
  refine lv_aload_n hx hb dL_law_917 rfl (lv_at hl 3 rfl) ?_
  refine lv_iload_n hx hb dL_law_918 rfl (lv_at hl 0 rfl) ?_
  refine lv_iconst (v := 1) hx hb dL_law_919 (by decide) ?_
  refine lv_iadd hx hb dL_law_920 ?_
  refine th_is (w := .int 1) (by decide) ?_
  refine va_sld hx hb hat.2.2.2.2.2.2.1 hat.2.2.2.2.2.2.2.1 (law_nb hat) hS.2.1 (i := 1) (by rw [hL]; exact vp_in_iff.mpr (by decide +kernel)) dL_law_921 ?_
  refine th_is (w := .int (xs 1)) (congrArg (fun j => Value.int (xs j)) (by decide)) ?_
  refine lv_aload_n hx hb dL_law_922 rfl (lv_at hl 3 rfl) ?_
  refine lv_iload_n hx hb dL_law_923 rfl (lv_at hl 0 rfl) ?_
  refine lv_iconst (v := 2) hx hb dL_law_924 (by decide) ?_
  refine lv_iadd hx hb dL_law_925 ?_
  refine th_is (w := .int 2) (by decide) ?_
  refine va_sld hx hb hat.2.2.2.2.2.2.1 hat.2.2.2.2.2.2.2.1 (law_nb hat) hS.2.1 (i := 2) (by rw [hL]; exact vp_in_iff.mpr (by decide +kernel)) dL_law_926 ?_
  refine th_is (w := .int (xs 2)) (congrArg (fun j => Value.int (xs j)) (by decide)) ?_
  refine lv_aload_n hx hb dL_law_927 rfl (lv_at hl 3 rfl) ?_
  refine lv_iload_n hx hb dL_law_928 rfl (lv_at hl 0 rfl) ?_
  refine lv_iconst (v := 3) hx hb dL_law_929 (by decide) ?_
  refine lv_iadd hx hb dL_law_930 ?_
  refine th_is (w := .int 3) (by decide) ?_
  refine va_sld hx hb hat.2.2.2.2.2.2.1 hat.2.2.2.2.2.2.2.1 (law_nb hat) hS.2.1 (i := 3) (by rw [hL]; exact vp_in_iff.mpr (by decide +kernel)) dL_law_931 ?_
  refine th_is (w := .int (xs 3)) (congrArg (fun j => Value.int (xs j)) (by decide)) ?_
  refine th_goi (th_runV (As := [.int (xs 1), .int (xs 2), .int (xs 3)]) (rest := []) C hS.1 (RX11, TX11, 20) rfl gV_RL_77 hKx (t_X11_counts rfl rfl rfl FXh) hl rfl rfl rfl rfl ⟨Nat.le_of_ble_eq_true rfl, Nat.le_of_ble_eq_true rfl⟩ (Nat.le_of_ble_eq_true rfl) ⟨Nat.le_of_ble_eq_true rfl, Nat.le_of_ble_eq_true rfl⟩ dL_law_932) (fun r5808 hq5809 => ?_)
  refine lv_aload_n hx hb dL_law_935 rfl (lv_at hl 1 rfl) ?_
  refine lv_aload_n hx hb dL_law_936 rfl (lv_at hl 3 rfl) ?_
  refine lv_iload_n hx hb dL_law_937 rfl (lv_at hl 0 rfl) ?_
  refine lv_iconst (v := 1) hx hb dL_law_938 (by decide) ?_
  refine lv_iadd hx hb dL_law_939 ?_
  refine th_is (w := .int 1) (by decide) ?_
  refine va_sld hx hb hat.2.2.2.2.2.2.1 hat.2.2.2.2.2.2.2.1 (law_nb hat) hS.2.1 (i := 1) (by rw [hL]; exact vp_in_iff.mpr (by decide +kernel)) dL_law_940 ?_
  refine th_is (w := .int (xs 1)) (congrArg (fun j => Value.int (xs j)) (by decide)) ?_
  refine lv_aload_n hx hb dL_law_941 rfl (lv_at hl 3 rfl) ?_
  refine lv_iload_n hx hb dL_law_942 rfl (lv_at hl 0 rfl) ?_
  refine lv_iconst (v := 2) hx hb dL_law_943 (by decide) ?_
  refine lv_iadd hx hb dL_law_944 ?_
  refine th_is (w := .int 2) (by decide) ?_
  refine va_sld hx hb hat.2.2.2.2.2.2.1 hat.2.2.2.2.2.2.2.1 (law_nb hat) hS.2.1 (i := 2) (by rw [hL]; exact vp_in_iff.mpr (by decide +kernel)) dL_law_945 ?_
  refine th_is (w := .int (xs 2)) (congrArg (fun j => Value.int (xs j)) (by decide)) ?_
  refine lv_aload_n hx hb dL_law_946 rfl (lv_at hl 3 rfl) ?_
  refine lv_iload_n hx hb dL_law_947 rfl (lv_at hl 0 rfl) ?_
  refine lv_iconst (v := 3) hx hb dL_law_948 (by decide) ?_
  refine lv_iadd hx hb dL_law_949 ?_
  refine th_is (w := .int 3) (by decide) ?_
  refine va_sld hx hb hat.2.2.2.2.2.2.1 hat.2.2.2.2.2.2.2.1 (law_nb hat) hS.2.1 (i := 3) (by rw [hL]; exact vp_in_iff.mpr (by decide +kernel)) dL_law_950 ?_
  refine th_is (w := .int (xs 3)) (congrArg (fun j => Value.int (xs j)) (by decide)) ?_
  refine th_goi (th_runV (As := [.int (xs 1), .int (xs 2), .int (xs 3)]) (rest := [.int r5808]) C hS.1 (RX12, TX12, 151) rfl gV_RL_80 FMh.1 (t_X12_counts rfl rfl rfl FMh) hl rfl rfl rfl rfl ⟨Nat.le_of_ble_eq_true rfl, Nat.le_of_ble_eq_true rfl⟩ (Nat.le_of_ble_eq_true rfl) ⟨Nat.le_of_ble_eq_true rfl, Nat.le_of_ble_eq_true rfl⟩ dL_law_951) (fun r5810 hq5811 => ?_)
  refine th_icmp_eq (X := r5808.toInt) (Y := r5810.toInt) (tgt := 2746) hx hb dL_law_954 (by decide) rfl rfl (fun c5812 => ?_) (fun c5812 => absurd (by omega) c5812)
  exact law_next hat hKN (Nat.le_of_eq hL) hS (lv_sub hl [0, 3] rfl) (Nat.le_of_ble_eq_true rfl) (Nat.le_of_ble_eq_true rfl)

set_option maxHeartbeats 4000000 in
set_option maxRecDepth 100000 in
theorem law_case_15 {p : Program} {l : Launch} {e : Env} {s : State} {m : MethodId} {below : List Frame} {meth : Method} {c : Code} {b L : Nat} {xs : Nat → Int32} {D : va_G} {dA : Nat → ClassId} {K : Kmap} {V : Vmap} {H : Heap} {locs : List Loc} {ls : Array Slot} {x m0 : Nat} (hat : lw_At p s m meth c b L xs) (hKN : KN D dA s) (hL : L = 8) (hS : ST D dA kNone s.heap K V H locs) (FXh : FX K V x) (FMh : FM K V m0) (hl : lv_has ls 4 [(3, .int 0), (2, .ref m0), (1, .ref x), (0, .ref b)]) : W p l e room_1 s m #[Value.ref b] below meth c H locs 163 25899 (lw_Z below #[Value.ref b] s) (F0 m 959 ls []) := by
  have hx := hat.1; have hb := hat.2.1
  have C := law_cx hat hKN
  have hKx : K x = some (0, 10) := FX.kind FXh
  refine lv_aload_n hx hb dL_law_959 rfl (lv_at hl 2 rfl) ?_
  refine lv_aload_n hx hb dL_law_960 rfl (lv_at hl 3 rfl) ?_
  refine lv_iload_n hx hb dL_law_961 rfl (lv_at hl 0 rfl) ?_
  refine lv_iconst (v := 1) hx hb dL_law_962 (by decide) ?_
  refine lv_iadd hx hb dL_law_963 ?_
  refine th_is (w := .int 1) (by decide) ?_
  refine va_sld hx hb hat.2.2.2.2.2.2.1 hat.2.2.2.2.2.2.2.1 (law_nb hat) hS.2.1 (i := 1) (by rw [hL]; exact vp_in_iff.mpr (by decide +kernel)) dL_law_964 ?_
  refine th_is (w := .int (xs 1)) (congrArg (fun j => Value.int (xs j)) (by decide)) ?_
  refine lv_aload_n hx hb dL_law_965 rfl (lv_at hl 3 rfl) ?_
  refine lv_iload_n hx hb dL_law_966 rfl (lv_at hl 0 rfl) ?_
  refine lv_iconst (v := 2) hx hb dL_law_967 (by decide) ?_
  refine lv_iadd hx hb dL_law_968 ?_
  refine th_is (w := .int 2) (by decide) ?_
  refine va_sld hx hb hat.2.2.2.2.2.2.1 hat.2.2.2.2.2.2.2.1 (law_nb hat) hS.2.1 (i := 2) (by rw [hL]; exact vp_in_iff.mpr (by decide +kernel)) dL_law_969 ?_
  refine th_is (w := .int (xs 2)) (congrArg (fun j => Value.int (xs j)) (by decide)) ?_
  refine lv_aload_n hx hb dL_law_970 rfl (lv_at hl 3 rfl) ?_
  refine lv_iload_n hx hb dL_law_971 rfl (lv_at hl 0 rfl) ?_
  refine lv_iconst (v := 3) hx hb dL_law_972 (by decide) ?_
  refine lv_iadd hx hb dL_law_973 ?_
  refine th_is (w := .int 3) (by decide) ?_
  refine va_sld hx hb hat.2.2.2.2.2.2.1 hat.2.2.2.2.2.2.2.1 (law_nb hat) hS.2.1 (i := 3) (by rw [hL]; exact vp_in_iff.mpr (by decide +kernel)) dL_law_974 ?_
  refine th_is (w := .int (xs 3)) (congrArg (fun j => Value.int (xs j)) (by decide)) ?_
  refine th_goi (th_runV (As := [.int (xs 1), .int (xs 2), .int (xs 3)]) (rest := []) C hS.1 (RX11, TX11, 20) rfl gV_RL_81 hKx (t_X11_number rfl rfl rfl FXh) hl rfl rfl rfl rfl ⟨Nat.le_of_ble_eq_true rfl, Nat.le_of_ble_eq_true rfl⟩ (Nat.le_of_ble_eq_true rfl) ⟨Nat.le_of_ble_eq_true rfl, Nat.le_of_ble_eq_true rfl⟩ dL_law_975) (fun r5813 hq5814 => ?_)
  refine lv_aload_n hx hb dL_law_978 rfl (lv_at hl 1 rfl) ?_
  refine lv_aload_n hx hb dL_law_979 rfl (lv_at hl 3 rfl) ?_
  refine lv_iload_n hx hb dL_law_980 rfl (lv_at hl 0 rfl) ?_
  refine lv_iconst (v := 1) hx hb dL_law_981 (by decide) ?_
  refine lv_iadd hx hb dL_law_982 ?_
  refine th_is (w := .int 1) (by decide) ?_
  refine va_sld hx hb hat.2.2.2.2.2.2.1 hat.2.2.2.2.2.2.2.1 (law_nb hat) hS.2.1 (i := 1) (by rw [hL]; exact vp_in_iff.mpr (by decide +kernel)) dL_law_983 ?_
  refine th_is (w := .int (xs 1)) (congrArg (fun j => Value.int (xs j)) (by decide)) ?_
  refine lv_aload_n hx hb dL_law_984 rfl (lv_at hl 3 rfl) ?_
  refine lv_iload_n hx hb dL_law_985 rfl (lv_at hl 0 rfl) ?_
  refine lv_iconst (v := 2) hx hb dL_law_986 (by decide) ?_
  refine lv_iadd hx hb dL_law_987 ?_
  refine th_is (w := .int 2) (by decide) ?_
  refine va_sld hx hb hat.2.2.2.2.2.2.1 hat.2.2.2.2.2.2.2.1 (law_nb hat) hS.2.1 (i := 2) (by rw [hL]; exact vp_in_iff.mpr (by decide +kernel)) dL_law_988 ?_
  refine th_is (w := .int (xs 2)) (congrArg (fun j => Value.int (xs j)) (by decide)) ?_
  refine lv_aload_n hx hb dL_law_989 rfl (lv_at hl 3 rfl) ?_
  refine lv_iload_n hx hb dL_law_990 rfl (lv_at hl 0 rfl) ?_
  refine lv_iconst (v := 3) hx hb dL_law_991 (by decide) ?_
  refine lv_iadd hx hb dL_law_992 ?_
  refine th_is (w := .int 3) (by decide) ?_
  refine va_sld hx hb hat.2.2.2.2.2.2.1 hat.2.2.2.2.2.2.2.1 (law_nb hat) hS.2.1 (i := 3) (by rw [hL]; exact vp_in_iff.mpr (by decide +kernel)) dL_law_993 ?_
  refine th_is (w := .int (xs 3)) (congrArg (fun j => Value.int (xs j)) (by decide)) ?_
  refine th_goi (th_runV (As := [.int (xs 1), .int (xs 2), .int (xs 3)]) (rest := [.int r5813]) C hS.1 (RX12, TX12, 151) rfl gV_RL_84 FMh.1 (t_X12_number rfl rfl rfl FMh) hl rfl rfl rfl rfl ⟨Nat.le_of_ble_eq_true rfl, Nat.le_of_ble_eq_true rfl⟩ (Nat.le_of_ble_eq_true rfl) ⟨Nat.le_of_ble_eq_true rfl, Nat.le_of_ble_eq_true rfl⟩ dL_law_994) (fun r5815 hq5816 => ?_)
  refine th_icmp_eq (X := r5813.toInt) (Y := r5815.toInt) (tgt := 2746) hx hb dL_law_997 (by decide) rfl rfl (fun c5817 => ?_) (fun c5817 => absurd (by omega) c5817)
  exact law_next hat hKN (Nat.le_of_eq hL) hS (lv_sub hl [0, 3] rfl) (Nat.le_of_ble_eq_true rfl) (Nat.le_of_ble_eq_true rfl)
