set_option maxHeartbeats 4000000 in
set_option maxRecDepth 100000 in
theorem law_case_48 {p : Program} {l : Launch} {e : Env} {s : State} {m : MethodId} {below : List Frame} {meth : Method} {c : Code} {b L : Nat} {xs : Nat → Int32} {D : va_G} {dA : Nat → ClassId} {K : Kmap} {V : Vmap} {H : Heap} {locs : List Loc} {ls : Array Slot} {x m0 : Nat} (hat : lw_At p s m meth c b L xs) (hKN : KN D dA s) (hL : L = 8) (hS : ST D dA kNone s.heap K V H locs) (FXh : FX K V x) (FMh : FM K V m0) (hl : lv_has ls 4 [(3, .int 0), (2, .ref m0), (1, .ref x), (0, .ref b)]) : W p l e room_1 s m #[Value.ref b] below meth c H locs 163 25899 (lw_Z below #[Value.ref b] s) (F0 m 2270 ls []) := by
  have hx := hat.1; have hb := hat.2.1
  have C := law_cx hat hKN
  have hKx : K x = some (0, 10) := FX.kind FXh
  refine lv_aload_n hx hb dL_law_2270 rfl (lv_at hl 2 rfl) ?_
  refine th_goi (th_runV (As := []) (rest := []) C hS.1 (RX11, TX11, 20) rfl gV_RL_221 hKx (t_X11_best FXh) hl rfl rfl rfl rfl ⟨Nat.le_of_ble_eq_true rfl, Nat.le_of_ble_eq_true rfl⟩ (Nat.le_of_ble_eq_true rfl) ⟨Nat.le_of_ble_eq_true rfl, Nat.le_of_ble_eq_true rfl⟩ dL_law_2271) (fun r6047 hq6048 => ?_)
  refine lv_aload_n hx hb dL_law_2274 rfl (lv_at hl 1 rfl) ?_
  refine th_goi (th_runV (As := []) (rest := [.int r6047]) C hS.1 (RX12, TX12, 151) rfl gV_RL_224 FMh.1 (t_X12_best FMh) hl rfl rfl rfl rfl ⟨Nat.le_of_ble_eq_true rfl, Nat.le_of_ble_eq_true rfl⟩ (Nat.le_of_ble_eq_true rfl) ⟨Nat.le_of_ble_eq_true rfl, Nat.le_of_ble_eq_true rfl⟩ dL_law_2275) (fun r6049 hq6050 => ?_)
  refine th_icmp_eq (X := r6047.toInt) (Y := r6049.toInt) (tgt := 2746) hx hb dL_law_2278 (by decide) rfl rfl (fun c6051 => ?_) (fun c6051 => absurd (by omega) c6051)
  exact law_next hat hKN (Nat.le_of_eq hL) hS (lv_sub hl [0, 3] rfl) (Nat.le_of_ble_eq_true rfl) (Nat.le_of_ble_eq_true rfl)

set_option maxHeartbeats 4000000 in
set_option maxRecDepth 100000 in
theorem law_case_49 {p : Program} {l : Launch} {e : Env} {s : State} {m : MethodId} {below : List Frame} {meth : Method} {c : Code} {b L : Nat} {xs : Nat → Int32} {D : va_G} {dA : Nat → ClassId} {K : Kmap} {V : Vmap} {H : Heap} {locs : List Loc} {ls : Array Slot} {x m0 : Nat} (hat : lw_At p s m meth c b L xs) (hKN : KN D dA s) (hL : L = 8) (hS : ST D dA kNone s.heap K V H locs) (FXh : FX K V x) (FMh : FM K V m0) (hl : lv_has ls 4 [(3, .int 0), (2, .ref m0), (1, .ref x), (0, .ref b)]) : W p l e room_1 s m #[Value.ref b] below meth c H locs 163 25899 (lw_Z below #[Value.ref b] s) (F0 m 2283 ls []) := by
  have hx := hat.1; have hb := hat.2.1
  have C := law_cx hat hKN
  have hKx : K x = some (0, 10) := FX.kind FXh
  refine lv_aload_n hx hb dL_law_2283 rfl (lv_at hl 2 rfl) ?_
  refine lv_aload_n hx hb dL_law_2284 rfl (lv_at hl 3 rfl) ?_
  refine lv_iload_n hx hb dL_law_2285 rfl (lv_at hl 0 rfl) ?_
  refine lv_iconst (v := 1) hx hb dL_law_2286 (by decide) ?_
  refine lv_iadd hx hb dL_law_2287 ?_
  refine th_is (w := .int 1) (by decide) ?_
  refine va_sld hx hb hat.2.2.2.2.2.2.1 hat.2.2.2.2.2.2.2.1 (law_nb hat) hS.2.1 (i := 1) (by rw [hL]; exact vp_in_iff.mpr (by decide +kernel)) dL_law_2288 ?_
  refine th_is (w := .int (xs 1)) (congrArg (fun j => Value.int (xs j)) (by decide)) ?_
  refine lv_aload_n hx hb dL_law_2289 rfl (lv_at hl 3 rfl) ?_
  refine lv_iload_n hx hb dL_law_2290 rfl (lv_at hl 0 rfl) ?_
  refine lv_iconst (v := 2) hx hb dL_law_2291 (by decide) ?_
  refine lv_iadd hx hb dL_law_2292 ?_
  refine th_is (w := .int 2) (by decide) ?_
  refine va_sld hx hb hat.2.2.2.2.2.2.1 hat.2.2.2.2.2.2.2.1 (law_nb hat) hS.2.1 (i := 2) (by rw [hL]; exact vp_in_iff.mpr (by decide +kernel)) dL_law_2293 ?_
  refine th_is (w := .int (xs 2)) (congrArg (fun j => Value.int (xs j)) (by decide)) ?_
  refine th_goi (th_runV (As := [.int (xs 1), .int (xs 2)]) (rest := []) C hS.1 (RX11, TX11, 20) rfl gV_RL_225 hKx (t_X11_stop rfl rfl FXh) hl rfl rfl rfl rfl ⟨Nat.le_of_ble_eq_true rfl, Nat.le_of_ble_eq_true rfl⟩ (Nat.le_of_ble_eq_true rfl) ⟨Nat.le_of_ble_eq_true rfl, Nat.le_of_ble_eq_true rfl⟩ dL_law_2294) (fun r6052 hq6053 => ?_)
  refine lv_aload_n hx hb dL_law_2297 rfl (lv_at hl 1 rfl) ?_
  refine lv_aload_n hx hb dL_law_2298 rfl (lv_at hl 3 rfl) ?_
  refine lv_iload_n hx hb dL_law_2299 rfl (lv_at hl 0 rfl) ?_
  refine lv_iconst (v := 1) hx hb dL_law_2300 (by decide) ?_
  refine lv_iadd hx hb dL_law_2301 ?_
  refine th_is (w := .int 1) (by decide) ?_
  refine va_sld hx hb hat.2.2.2.2.2.2.1 hat.2.2.2.2.2.2.2.1 (law_nb hat) hS.2.1 (i := 1) (by rw [hL]; exact vp_in_iff.mpr (by decide +kernel)) dL_law_2302 ?_
  refine th_is (w := .int (xs 1)) (congrArg (fun j => Value.int (xs j)) (by decide)) ?_
  refine lv_aload_n hx hb dL_law_2303 rfl (lv_at hl 3 rfl) ?_
  refine lv_iload_n hx hb dL_law_2304 rfl (lv_at hl 0 rfl) ?_
  refine lv_iconst (v := 2) hx hb dL_law_2305 (by decide) ?_
  refine lv_iadd hx hb dL_law_2306 ?_
  refine th_is (w := .int 2) (by decide) ?_
  refine va_sld hx hb hat.2.2.2.2.2.2.1 hat.2.2.2.2.2.2.2.1 (law_nb hat) hS.2.1 (i := 2) (by rw [hL]; exact vp_in_iff.mpr (by decide +kernel)) dL_law_2307 ?_
  refine th_is (w := .int (xs 2)) (congrArg (fun j => Value.int (xs j)) (by decide)) ?_
  refine th_goi (th_runV (As := [.int (xs 1), .int (xs 2)]) (rest := [.int r6052]) C hS.1 (RX12, TX12, 151) rfl gV_RL_228 FMh.1 (t_X12_stop rfl rfl FMh) hl rfl rfl rfl rfl ⟨Nat.le_of_ble_eq_true rfl, Nat.le_of_ble_eq_true rfl⟩ (Nat.le_of_ble_eq_true rfl) ⟨Nat.le_of_ble_eq_true rfl, Nat.le_of_ble_eq_true rfl⟩ dL_law_2308) (fun r6054 hq6055 => ?_)
  refine th_icmp_eq (X := r6052.toInt) (Y := r6054.toInt) (tgt := 2746) hx hb dL_law_2311 (by decide) rfl rfl (fun c6056 => ?_) (fun c6056 => absurd (by omega) c6056)
  exact law_next hat hKN (Nat.le_of_eq hL) hS (lv_sub hl [0, 3] rfl) (Nat.le_of_ble_eq_true rfl) (Nat.le_of_ble_eq_true rfl)

set_option maxHeartbeats 4000000 in
set_option maxRecDepth 100000 in
theorem law_case_50 {p : Program} {l : Launch} {e : Env} {s : State} {m : MethodId} {below : List Frame} {meth : Method} {c : Code} {b L : Nat} {xs : Nat → Int32} {D : va_G} {dA : Nat → ClassId} {K : Kmap} {V : Vmap} {H : Heap} {locs : List Loc} {ls : Array Slot} {x m0 : Nat} (hat : lw_At p s m meth c b L xs) (hKN : KN D dA s) (hL : L = 8) (hS : ST D dA kNone s.heap K V H locs) (FXh : FX K V x) (FMh : FM K V m0) (hl : lv_has ls 4 [(3, .int 0), (2, .ref m0), (1, .ref x), (0, .ref b)]) : W p l e room_1 s m #[Value.ref b] below meth c H locs 163 25899 (lw_Z below #[Value.ref b] s) (F0 m 2316 ls []) := by
  have hx := hat.1; have hb := hat.2.1
  have C := law_cx hat hKN
  have hKx : K x = some (0, 10) := FX.kind FXh
  refine lv_aload_n hx hb dL_law_2316 rfl (lv_at hl 2 rfl) ?_
  refine lv_aload_n hx hb dL_law_2317 rfl (lv_at hl 3 rfl) ?_
  refine lv_iload_n hx hb dL_law_2318 rfl (lv_at hl 0 rfl) ?_
  refine lv_iconst (v := 1) hx hb dL_law_2319 (by decide) ?_
  refine lv_iadd hx hb dL_law_2320 ?_
  refine th_is (w := .int 1) (by decide) ?_
  refine va_sld hx hb hat.2.2.2.2.2.2.1 hat.2.2.2.2.2.2.2.1 (law_nb hat) hS.2.1 (i := 1) (by rw [hL]; exact vp_in_iff.mpr (by decide +kernel)) dL_law_2321 ?_
  refine th_is (w := .int (xs 1)) (congrArg (fun j => Value.int (xs j)) (by decide)) ?_
  refine lv_aload_n hx hb dL_law_2322 rfl (lv_at hl 3 rfl) ?_
  refine lv_iload_n hx hb dL_law_2323 rfl (lv_at hl 0 rfl) ?_
  refine lv_iconst (v := 2) hx hb dL_law_2324 (by decide) ?_
  refine lv_iadd hx hb dL_law_2325 ?_
  refine th_is (w := .int 2) (by decide) ?_
  refine va_sld hx hb hat.2.2.2.2.2.2.1 hat.2.2.2.2.2.2.2.1 (law_nb hat) hS.2.1 (i := 2) (by rw [hL]; exact vp_in_iff.mpr (by decide +kernel)) dL_law_2326 ?_
  refine th_is (w := .int (xs 2)) (congrArg (fun j => Value.int (xs j)) (by decide)) ?_
  refine lv_aload_n hx hb dL_law_2327 rfl (lv_at hl 3 rfl) ?_
  refine lv_iload_n hx hb dL_law_2328 rfl (lv_at hl 0 rfl) ?_
  refine lv_iconst (v := 3) hx hb dL_law_2329 (by decide) ?_
  refine lv_iadd hx hb dL_law_2330 ?_
  refine th_is (w := .int 3) (by decide) ?_
  refine va_sld hx hb hat.2.2.2.2.2.2.1 hat.2.2.2.2.2.2.2.1 (law_nb hat) hS.2.1 (i := 3) (by rw [hL]; exact vp_in_iff.mpr (by decide +kernel)) dL_law_2331 ?_
  refine th_is (w := .int (xs 3)) (congrArg (fun j => Value.int (xs j)) (by decide)) ?_
  refine lv_aload_n hx hb dL_law_2332 rfl (lv_at hl 3 rfl) ?_
  refine lv_iload_n hx hb dL_law_2333 rfl (lv_at hl 0 rfl) ?_
  refine lv_iconst (v := 4) hx hb dL_law_2334 (by decide) ?_
  refine lv_iadd hx hb dL_law_2335 ?_
  refine th_is (w := .int 4) (by decide) ?_
  refine va_sld hx hb hat.2.2.2.2.2.2.1 hat.2.2.2.2.2.2.2.1 (law_nb hat) hS.2.1 (i := 4) (by rw [hL]; exact vp_in_iff.mpr (by decide +kernel)) dL_law_2336 ?_
  refine th_is (w := .int (xs 4)) (congrArg (fun j => Value.int (xs j)) (by decide)) ?_
  refine th_goi (th_runV (As := [.int (xs 1), .int (xs 2), .int (xs 3), .int (xs 4)]) (rest := []) C hS.1 (RX11, TX11, 20) rfl gV_RL_229 hKx (t_X11_open rfl rfl rfl rfl FXh) hl rfl rfl rfl rfl ⟨Nat.le_of_ble_eq_true rfl, Nat.le_of_ble_eq_true rfl⟩ (Nat.le_of_ble_eq_true rfl) ⟨Nat.le_of_ble_eq_true rfl, Nat.le_of_ble_eq_true rfl⟩ dL_law_2337) (fun r6057 hq6058 => ?_)
  refine lv_aload_n hx hb dL_law_2340 rfl (lv_at hl 1 rfl) ?_
  refine lv_aload_n hx hb dL_law_2341 rfl (lv_at hl 3 rfl) ?_
  refine lv_iload_n hx hb dL_law_2342 rfl (lv_at hl 0 rfl) ?_
  refine lv_iconst (v := 1) hx hb dL_law_2343 (by decide) ?_
  refine lv_iadd hx hb dL_law_2344 ?_
  refine th_is (w := .int 1) (by decide) ?_
  refine va_sld hx hb hat.2.2.2.2.2.2.1 hat.2.2.2.2.2.2.2.1 (law_nb hat) hS.2.1 (i := 1) (by rw [hL]; exact vp_in_iff.mpr (by decide +kernel)) dL_law_2345 ?_
  refine th_is (w := .int (xs 1)) (congrArg (fun j => Value.int (xs j)) (by decide)) ?_
  refine lv_aload_n hx hb dL_law_2346 rfl (lv_at hl 3 rfl) ?_
  refine lv_iload_n hx hb dL_law_2347 rfl (lv_at hl 0 rfl) ?_
  refine lv_iconst (v := 2) hx hb dL_law_2348 (by decide) ?_
  refine lv_iadd hx hb dL_law_2349 ?_
  refine th_is (w := .int 2) (by decide) ?_
  refine va_sld hx hb hat.2.2.2.2.2.2.1 hat.2.2.2.2.2.2.2.1 (law_nb hat) hS.2.1 (i := 2) (by rw [hL]; exact vp_in_iff.mpr (by decide +kernel)) dL_law_2350 ?_
  refine th_is (w := .int (xs 2)) (congrArg (fun j => Value.int (xs j)) (by decide)) ?_
  refine lv_aload_n hx hb dL_law_2351 rfl (lv_at hl 3 rfl) ?_
  refine lv_iload_n hx hb dL_law_2352 rfl (lv_at hl 0 rfl) ?_
  refine lv_iconst (v := 3) hx hb dL_law_2353 (by decide) ?_
  refine lv_iadd hx hb dL_law_2354 ?_
  refine th_is (w := .int 3) (by decide) ?_
  refine va_sld hx hb hat.2.2.2.2.2.2.1 hat.2.2.2.2.2.2.2.1 (law_nb hat) hS.2.1 (i := 3) (by rw [hL]; exact vp_in_iff.mpr (by decide +kernel)) dL_law_2355 ?_
  refine th_is (w := .int (xs 3)) (congrArg (fun j => Value.int (xs j)) (by decide)) ?_
  refine lv_aload_n hx hb dL_law_2356 rfl (lv_at hl 3 rfl) ?_
  refine lv_iload_n hx hb dL_law_2357 rfl (lv_at hl 0 rfl) ?_
  refine lv_iconst (v := 4) hx hb dL_law_2358 (by decide) ?_
  refine lv_iadd hx hb dL_law_2359 ?_
  refine th_is (w := .int 4) (by decide) ?_
  refine va_sld hx hb hat.2.2.2.2.2.2.1 hat.2.2.2.2.2.2.2.1 (law_nb hat) hS.2.1 (i := 4) (by rw [hL]; exact vp_in_iff.mpr (by decide +kernel)) dL_law_2360 ?_
  refine th_is (w := .int (xs 4)) (congrArg (fun j => Value.int (xs j)) (by decide)) ?_
  refine th_goi (th_runV (As := [.int (xs 1), .int (xs 2), .int (xs 3), .int (xs 4)]) (rest := [.int r6057]) C hS.1 (RX12, TX12, 151) rfl gV_RL_232 FMh.1 (t_X12_open rfl rfl rfl rfl FMh) hl rfl rfl rfl rfl ⟨Nat.le_of_ble_eq_true rfl, Nat.le_of_ble_eq_true rfl⟩ (Nat.le_of_ble_eq_true rfl) ⟨Nat.le_of_ble_eq_true rfl, Nat.le_of_ble_eq_true rfl⟩ dL_law_2361) (fun r6059 hq6060 => ?_)
  refine th_icmp_eq (X := r6057.toInt) (Y := r6059.toInt) (tgt := 2746) hx hb dL_law_2364 (by decide) rfl rfl (fun c6061 => ?_) (fun c6061 => absurd (by omega) c6061)
  exact law_next hat hKN (Nat.le_of_eq hL) hS (lv_sub hl [0, 3] rfl) (Nat.le_of_ble_eq_true rfl) (Nat.le_of_ble_eq_true rfl)

set_option maxHeartbeats 4000000 in
set_option maxRecDepth 100000 in
theorem law_case_51 {p : Program} {l : Launch} {e : Env} {s : State} {m : MethodId} {below : List Frame} {meth : Method} {c : Code} {b L : Nat} {xs : Nat → Int32} {D : va_G} {dA : Nat → ClassId} {K : Kmap} {V : Vmap} {H : Heap} {locs : List Loc} {ls : Array Slot} {x m0 : Nat} (hat : lw_At p s m meth c b L xs) (hKN : KN D dA s) (hL : L = 8) (hS : ST D dA kNone s.heap K V H locs) (FXh : FX K V x) (FMh : FM K V m0) (hl : lv_has ls 4 [(3, .int 0), (2, .ref m0), (1, .ref x), (0, .ref b)]) : W p l e room_1 s m #[Value.ref b] below meth c H locs 163 25899 (lw_Z below #[Value.ref b] s) (F0 m 2369 ls []) := by
  have hx := hat.1; have hb := hat.2.1
  have C := law_cx hat hKN
  have hKx : K x = some (0, 10) := FX.kind FXh
  refine lv_aload_n hx hb dL_law_2369 rfl (lv_at hl 2 rfl) ?_
  refine lv_aload_n hx hb dL_law_2370 rfl (lv_at hl 3 rfl) ?_
  refine lv_iload_n hx hb dL_law_2371 rfl (lv_at hl 0 rfl) ?_
  refine lv_iconst (v := 1) hx hb dL_law_2372 (by decide) ?_
  refine lv_iadd hx hb dL_law_2373 ?_
  refine th_is (w := .int 1) (by decide) ?_
  refine va_sld hx hb hat.2.2.2.2.2.2.1 hat.2.2.2.2.2.2.2.1 (law_nb hat) hS.2.1 (i := 1) (by rw [hL]; exact vp_in_iff.mpr (by decide +kernel)) dL_law_2374 ?_
  refine th_is (w := .int (xs 1)) (congrArg (fun j => Value.int (xs j)) (by decide)) ?_
  refine lv_aload_n hx hb dL_law_2375 rfl (lv_at hl 3 rfl) ?_
  refine lv_iload_n hx hb dL_law_2376 rfl (lv_at hl 0 rfl) ?_
  refine lv_iconst (v := 2) hx hb dL_law_2377 (by decide) ?_
  refine lv_iadd hx hb dL_law_2378 ?_
  refine th_is (w := .int 2) (by decide) ?_
  refine va_sld hx hb hat.2.2.2.2.2.2.1 hat.2.2.2.2.2.2.2.1 (law_nb hat) hS.2.1 (i := 2) (by rw [hL]; exact vp_in_iff.mpr (by decide +kernel)) dL_law_2379 ?_
  refine th_is (w := .int (xs 2)) (congrArg (fun j => Value.int (xs j)) (by decide)) ?_
  refine lv_aload_n hx hb dL_law_2380 rfl (lv_at hl 3 rfl) ?_
  refine lv_iload_n hx hb dL_law_2381 rfl (lv_at hl 0 rfl) ?_
  refine lv_iconst (v := 3) hx hb dL_law_2382 (by decide) ?_
  refine lv_iadd hx hb dL_law_2383 ?_
  refine th_is (w := .int 3) (by decide) ?_
  refine va_sld hx hb hat.2.2.2.2.2.2.1 hat.2.2.2.2.2.2.2.1 (law_nb hat) hS.2.1 (i := 3) (by rw [hL]; exact vp_in_iff.mpr (by decide +kernel)) dL_law_2384 ?_
  refine th_is (w := .int (xs 3)) (congrArg (fun j => Value.int (xs j)) (by decide)) ?_
  refine th_goi (th_runV (As := [.int (xs 1), .int (xs 2), .int (xs 3)]) (rest := []) C hS.1 (RX11, TX11, 20) rfl gV_RL_233 hKx (t_X11_plan rfl rfl rfl FXh) hl rfl rfl rfl rfl ⟨Nat.le_of_ble_eq_true rfl, Nat.le_of_ble_eq_true rfl⟩ (Nat.le_of_ble_eq_true rfl) ⟨Nat.le_of_ble_eq_true rfl, Nat.le_of_ble_eq_true rfl⟩ dL_law_2385) (fun r6062 hq6063 => ?_)
  refine lv_aload_n hx hb dL_law_2388 rfl (lv_at hl 1 rfl) ?_
  refine lv_aload_n hx hb dL_law_2389 rfl (lv_at hl 3 rfl) ?_
  refine lv_iload_n hx hb dL_law_2390 rfl (lv_at hl 0 rfl) ?_
  refine lv_iconst (v := 1) hx hb dL_law_2391 (by decide) ?_
  refine lv_iadd hx hb dL_law_2392 ?_
  refine th_is (w := .int 1) (by decide) ?_
  refine va_sld hx hb hat.2.2.2.2.2.2.1 hat.2.2.2.2.2.2.2.1 (law_nb hat) hS.2.1 (i := 1) (by rw [hL]; exact vp_in_iff.mpr (by decide +kernel)) dL_law_2393 ?_
  refine th_is (w := .int (xs 1)) (congrArg (fun j => Value.int (xs j)) (by decide)) ?_
  refine lv_aload_n hx hb dL_law_2394 rfl (lv_at hl 3 rfl) ?_
  refine lv_iload_n hx hb dL_law_2395 rfl (lv_at hl 0 rfl) ?_
  refine lv_iconst (v := 2) hx hb dL_law_2396 (by decide) ?_
  refine lv_iadd hx hb dL_law_2397 ?_
  refine th_is (w := .int 2) (by decide) ?_
  refine va_sld hx hb hat.2.2.2.2.2.2.1 hat.2.2.2.2.2.2.2.1 (law_nb hat) hS.2.1 (i := 2) (by rw [hL]; exact vp_in_iff.mpr (by decide +kernel)) dL_law_2398 ?_
  refine th_is (w := .int (xs 2)) (congrArg (fun j => Value.int (xs j)) (by decide)) ?_
  refine lv_aload_n hx hb dL_law_2399 rfl (lv_at hl 3 rfl) ?_
  refine lv_iload_n hx hb dL_law_2400 rfl (lv_at hl 0 rfl) ?_
  refine lv_iconst (v := 3) hx hb dL_law_2401 (by decide) ?_
  refine lv_iadd hx hb dL_law_2402 ?_
  refine th_is (w := .int 3) (by decide) ?_
  refine va_sld hx hb hat.2.2.2.2.2.2.1 hat.2.2.2.2.2.2.2.1 (law_nb hat) hS.2.1 (i := 3) (by rw [hL]; exact vp_in_iff.mpr (by decide +kernel)) dL_law_2403 ?_
  refine th_is (w := .int (xs 3)) (congrArg (fun j => Value.int (xs j)) (by decide)) ?_
  refine th_goi (th_runV (As := [.int (xs 1), .int (xs 2), .int (xs 3)]) (rest := [.int r6062]) C hS.1 (RX12, TX12, 151) rfl gV_RL_236 FMh.1 (t_X12_plan rfl rfl rfl FMh) hl rfl rfl rfl rfl ⟨Nat.le_of_ble_eq_true rfl, Nat.le_of_ble_eq_true rfl⟩ (Nat.le_of_ble_eq_true rfl) ⟨Nat.le_of_ble_eq_true rfl, Nat.le_of_ble_eq_true rfl⟩ dL_law_2404) (fun r6064 hq6065 => ?_)
  refine th_icmp_eq (X := r6062.toInt) (Y := r6064.toInt) (tgt := 2746) hx hb dL_law_2407 (by decide) rfl rfl (fun c6066 => ?_) (fun c6066 => absurd (by omega) c6066)
  exact law_next hat hKN (Nat.le_of_eq hL) hS (lv_sub hl [0, 3] rfl) (Nat.le_of_ble_eq_true rfl) (Nat.le_of_ble_eq_true rfl)

set_option maxHeartbeats 4000000 in
set_option maxRecDepth 100000 in
theorem law_case_52 {p : Program} {l : Launch} {e : Env} {s : State} {m : MethodId} {below : List Frame} {meth : Method} {c : Code} {b L : Nat} {xs : Nat → Int32} {D : va_G} {dA : Nat → ClassId} {K : Kmap} {V : Vmap} {H : Heap} {locs : List Loc} {ls : Array Slot} {x m0 : Nat} (hat : lw_At p s m meth c b L xs) (hKN : KN D dA s) (hL : L = 8) (hS : ST D dA kNone s.heap K V H locs) (FXh : FX K V x) (FMh : FM K V m0) (hl : lv_has ls 4 [(3, .int 0), (2, .ref m0), (1, .ref x), (0, .ref b)]) : W p l e room_1 s m #[Value.ref b] below meth c H locs 163 25899 (lw_Z below #[Value.ref b] s) (F0 m 2412 ls []) := by
  have hx := hat.1; have hb := hat.2.1
  have C := law_cx hat hKN
  have hKx : K x = some (0, 10) := FX.kind FXh
  refine lv_aload_n hx hb dL_law_2412 rfl (lv_at hl 2 rfl) ?_
  refine lv_aload_n hx hb dL_law_2413 rfl (lv_at hl 3 rfl) ?_
  refine lv_iload_n hx hb dL_law_2414 rfl (lv_at hl 0 rfl) ?_
  refine lv_iconst (v := 1) hx hb dL_law_2415 (by decide) ?_
  refine lv_iadd hx hb dL_law_2416 ?_
  refine th_is (w := .int 1) (by decide) ?_
  refine va_sld hx hb hat.2.2.2.2.2.2.1 hat.2.2.2.2.2.2.2.1 (law_nb hat) hS.2.1 (i := 1) (by rw [hL]; exact vp_in_iff.mpr (by decide +kernel)) dL_law_2417 ?_
  refine th_is (w := .int (xs 1)) (congrArg (fun j => Value.int (xs j)) (by decide)) ?_
  refine lv_aload_n hx hb dL_law_2418 rfl (lv_at hl 3 rfl) ?_
  refine lv_iload_n hx hb dL_law_2419 rfl (lv_at hl 0 rfl) ?_
  refine lv_iconst (v := 2) hx hb dL_law_2420 (by decide) ?_
  refine lv_iadd hx hb dL_law_2421 ?_
  refine th_is (w := .int 2) (by decide) ?_
  refine va_sld hx hb hat.2.2.2.2.2.2.1 hat.2.2.2.2.2.2.2.1 (law_nb hat) hS.2.1 (i := 2) (by rw [hL]; exact vp_in_iff.mpr (by decide +kernel)) dL_law_2422 ?_
  refine th_is (w := .int (xs 2)) (congrArg (fun j => Value.int (xs j)) (by decide)) ?_
  refine lv_aload_n hx hb dL_law_2423 rfl (lv_at hl 3 rfl) ?_
  refine lv_iload_n hx hb dL_law_2424 rfl (lv_at hl 0 rfl) ?_
  refine lv_iconst (v := 3) hx hb dL_law_2425 (by decide) ?_
  refine lv_iadd hx hb dL_law_2426 ?_
  refine th_is (w := .int 3) (by decide) ?_
  refine va_sld hx hb hat.2.2.2.2.2.2.1 hat.2.2.2.2.2.2.2.1 (law_nb hat) hS.2.1 (i := 3) (by rw [hL]; exact vp_in_iff.mpr (by decide +kernel)) dL_law_2427 ?_
  refine th_is (w := .int (xs 3)) (congrArg (fun j => Value.int (xs j)) (by decide)) ?_
  refine lv_aload_n hx hb dL_law_2428 rfl (lv_at hl 3 rfl) ?_
  refine lv_iload_n hx hb dL_law_2429 rfl (lv_at hl 0 rfl) ?_
  refine lv_iconst (v := 4) hx hb dL_law_2430 (by decide) ?_
  refine lv_iadd hx hb dL_law_2431 ?_
  refine th_is (w := .int 4) (by decide) ?_
  refine va_sld hx hb hat.2.2.2.2.2.2.1 hat.2.2.2.2.2.2.2.1 (law_nb hat) hS.2.1 (i := 4) (by rw [hL]; exact vp_in_iff.mpr (by decide +kernel)) dL_law_2432 ?_
  refine th_is (w := .int (xs 4)) (congrArg (fun j => Value.int (xs j)) (by decide)) ?_
  refine th_goi (th_runV (As := [.int (xs 1), .int (xs 2), .int (xs 3), .int (xs 4)]) (rest := []) C hS.1 (RX11, TX11, 20) rfl gV_RL_237 hKx (t_X11_planned rfl rfl rfl rfl FXh) hl rfl rfl rfl rfl ⟨Nat.le_of_ble_eq_true rfl, Nat.le_of_ble_eq_true rfl⟩ (Nat.le_of_ble_eq_true rfl) ⟨Nat.le_of_ble_eq_true rfl, Nat.le_of_ble_eq_true rfl⟩ dL_law_2433) (fun r6067 hq6068 => ?_)
  refine lv_aload_n hx hb dL_law_2436 rfl (lv_at hl 1 rfl) ?_
  refine lv_aload_n hx hb dL_law_2437 rfl (lv_at hl 3 rfl) ?_
  refine lv_iload_n hx hb dL_law_2438 rfl (lv_at hl 0 rfl) ?_
  refine lv_iconst (v := 1) hx hb dL_law_2439 (by decide) ?_
  refine lv_iadd hx hb dL_law_2440 ?_
  refine th_is (w := .int 1) (by decide) ?_
  refine va_sld hx hb hat.2.2.2.2.2.2.1 hat.2.2.2.2.2.2.2.1 (law_nb hat) hS.2.1 (i := 1) (by rw [hL]; exact vp_in_iff.mpr (by decide +kernel)) dL_law_2441 ?_
  refine th_is (w := .int (xs 1)) (congrArg (fun j => Value.int (xs j)) (by decide)) ?_
  refine lv_aload_n hx hb dL_law_2442 rfl (lv_at hl 3 rfl) ?_
  refine lv_iload_n hx hb dL_law_2443 rfl (lv_at hl 0 rfl) ?_
  refine lv_iconst (v := 2) hx hb dL_law_2444 (by decide) ?_
  refine lv_iadd hx hb dL_law_2445 ?_
  refine th_is (w := .int 2) (by decide) ?_
  refine va_sld hx hb hat.2.2.2.2.2.2.1 hat.2.2.2.2.2.2.2.1 (law_nb hat) hS.2.1 (i := 2) (by rw [hL]; exact vp_in_iff.mpr (by decide +kernel)) dL_law_2446 ?_
  refine th_is (w := .int (xs 2)) (congrArg (fun j => Value.int (xs j)) (by decide)) ?_
  refine lv_aload_n hx hb dL_law_2447 rfl (lv_at hl 3 rfl) ?_
  refine lv_iload_n hx hb dL_law_2448 rfl (lv_at hl 0 rfl) ?_
  refine lv_iconst (v := 3) hx hb dL_law_2449 (by decide) ?_
  refine lv_iadd hx hb dL_law_2450 ?_
  refine th_is (w := .int 3) (by decide) ?_
  refine va_sld hx hb hat.2.2.2.2.2.2.1 hat.2.2.2.2.2.2.2.1 (law_nb hat) hS.2.1 (i := 3) (by rw [hL]; exact vp_in_iff.mpr (by decide +kernel)) dL_law_2451 ?_
  refine th_is (w := .int (xs 3)) (congrArg (fun j => Value.int (xs j)) (by decide)) ?_
  refine lv_aload_n hx hb dL_law_2452 rfl (lv_at hl 3 rfl) ?_
  refine lv_iload_n hx hb dL_law_2453 rfl (lv_at hl 0 rfl) ?_
  refine lv_iconst (v := 4) hx hb dL_law_2454 (by decide) ?_
  refine lv_iadd hx hb dL_law_2455 ?_
  refine th_is (w := .int 4) (by decide) ?_
  refine va_sld hx hb hat.2.2.2.2.2.2.1 hat.2.2.2.2.2.2.2.1 (law_nb hat) hS.2.1 (i := 4) (by rw [hL]; exact vp_in_iff.mpr (by decide +kernel)) dL_law_2456 ?_
  refine th_is (w := .int (xs 4)) (congrArg (fun j => Value.int (xs j)) (by decide)) ?_
  refine th_goi (th_runV (As := [.int (xs 1), .int (xs 2), .int (xs 3), .int (xs 4)]) (rest := [.int r6067]) C hS.1 (RX12, TX12, 151) rfl gV_RL_240 FMh.1 (t_X12_planned rfl rfl rfl rfl FMh) hl rfl rfl rfl rfl ⟨Nat.le_of_ble_eq_true rfl, Nat.le_of_ble_eq_true rfl⟩ (Nat.le_of_ble_eq_true rfl) ⟨Nat.le_of_ble_eq_true rfl, Nat.le_of_ble_eq_true rfl⟩ dL_law_2457) (fun r6069 hq6070 => ?_)
  refine th_icmp_eq (X := r6067.toInt) (Y := r6069.toInt) (tgt := 2746) hx hb dL_law_2460 (by decide) rfl rfl (fun c6071 => ?_) (fun c6071 => absurd (by omega) c6071)
  exact law_next hat hKN (Nat.le_of_eq hL) hS (lv_sub hl [0, 3] rfl) (Nat.le_of_ble_eq_true rfl) (Nat.le_of_ble_eq_true rfl)

set_option maxHeartbeats 4000000 in
set_option maxRecDepth 100000 in
theorem law_case_53 {p : Program} {l : Launch} {e : Env} {s : State} {m : MethodId} {below : List Frame} {meth : Method} {c : Code} {b L : Nat} {xs : Nat → Int32} {D : va_G} {dA : Nat → ClassId} {K : Kmap} {V : Vmap} {H : Heap} {locs : List Loc} {ls : Array Slot} {x m0 : Nat} (hat : lw_At p s m meth c b L xs) (hKN : KN D dA s) (hL : L = 8) (hS : ST D dA kNone s.heap K V H locs) (FXh : FX K V x) (FMh : FM K V m0) (hl : lv_has ls 4 [(3, .int 0), (2, .ref m0), (1, .ref x), (0, .ref b)]) : W p l e room_1 s m #[Value.ref b] below meth c H locs 163 25899 (lw_Z below #[Value.ref b] s) (F0 m 2465 ls []) := by
  have hx := hat.1; have hb := hat.2.1
  have C := law_cx hat hKN
  have hKx : K x = some (0, 10) := FX.kind FXh
  refine lv_aload_n hx hb dL_law_2465 rfl (lv_at hl 2 rfl) ?_
  refine lv_aload_n hx hb dL_law_2466 rfl (lv_at hl 3 rfl) ?_
  refine lv_iload_n hx hb dL_law_2467 rfl (lv_at hl 0 rfl) ?_
  refine lv_iconst (v := 1) hx hb dL_law_2468 (by decide) ?_
  refine lv_iadd hx hb dL_law_2469 ?_
  refine th_is (w := .int 1) (by decide) ?_
  refine va_sld hx hb hat.2.2.2.2.2.2.1 hat.2.2.2.2.2.2.2.1 (law_nb hat) hS.2.1 (i := 1) (by rw [hL]; exact vp_in_iff.mpr (by decide +kernel)) dL_law_2470 ?_
  refine th_is (w := .int (xs 1)) (congrArg (fun j => Value.int (xs j)) (by decide)) ?_
  refine lv_aload_n hx hb dL_law_2471 rfl (lv_at hl 3 rfl) ?_
  refine lv_iload_n hx hb dL_law_2472 rfl (lv_at hl 0 rfl) ?_
  refine lv_iconst (v := 2) hx hb dL_law_2473 (by decide) ?_
  refine lv_iadd hx hb dL_law_2474 ?_
  refine th_is (w := .int 2) (by decide) ?_
  refine va_sld hx hb hat.2.2.2.2.2.2.1 hat.2.2.2.2.2.2.2.1 (law_nb hat) hS.2.1 (i := 2) (by rw [hL]; exact vp_in_iff.mpr (by decide +kernel)) dL_law_2475 ?_
  refine th_is (w := .int (xs 2)) (congrArg (fun j => Value.int (xs j)) (by decide)) ?_
  refine lv_aload_n hx hb dL_law_2476 rfl (lv_at hl 3 rfl) ?_
  refine lv_iload_n hx hb dL_law_2477 rfl (lv_at hl 0 rfl) ?_
  refine lv_iconst (v := 3) hx hb dL_law_2478 (by decide) ?_
  refine lv_iadd hx hb dL_law_2479 ?_
  refine th_is (w := .int 3) (by decide) ?_
  refine va_sld hx hb hat.2.2.2.2.2.2.1 hat.2.2.2.2.2.2.2.1 (law_nb hat) hS.2.1 (i := 3) (by rw [hL]; exact vp_in_iff.mpr (by decide +kernel)) dL_law_2480 ?_
  refine th_is (w := .int (xs 3)) (congrArg (fun j => Value.int (xs j)) (by decide)) ?_
  refine lv_aload_n hx hb dL_law_2481 rfl (lv_at hl 3 rfl) ?_
  refine lv_iload_n hx hb dL_law_2482 rfl (lv_at hl 0 rfl) ?_
  refine lv_iconst (v := 4) hx hb dL_law_2483 (by decide) ?_
  refine lv_iadd hx hb dL_law_2484 ?_
  refine th_is (w := .int 4) (by decide) ?_
  refine va_sld hx hb hat.2.2.2.2.2.2.1 hat.2.2.2.2.2.2.2.1 (law_nb hat) hS.2.1 (i := 4) (by rw [hL]; exact vp_in_iff.mpr (by decide +kernel)) dL_law_2485 ?_
  refine th_is (w := .int (xs 4)) (congrArg (fun j => Value.int (xs j)) (by decide)) ?_
  refine th_if_eq (X := (xs 4).toInt) (tgt := 2493) hx hb dL_law_2486 (by decide) rfl (fun c6072 => ?_) (fun c6072 => ?_)
  · refine lv_iconst (v := 0) hx hb dL_law_2493 (by decide) ?_
    refine th_goi (th_runV (As := [.int (xs 1), .int (xs 2), .int (xs 3), .int 0]) (rest := []) C hS.1 (RX11, TX11, 20) rfl gV_RL_241 hKx (t_X11_report rfl rfl rfl li_0 FXh) hl rfl rfl rfl rfl ⟨Nat.le_of_ble_eq_true rfl, Nat.le_of_ble_eq_true rfl⟩ (Nat.le_of_ble_eq_true rfl) ⟨Nat.le_of_ble_eq_true rfl, Nat.le_of_ble_eq_true rfl⟩ dL_law_2494) (fun r6073 hq6074 => ?_)
    refine lv_aload_n hx hb dL_law_2497 rfl (lv_at hl 1 rfl) ?_
    refine lv_aload_n hx hb dL_law_2498 rfl (lv_at hl 3 rfl) ?_
    refine lv_iload_n hx hb dL_law_2499 rfl (lv_at hl 0 rfl) ?_
    refine lv_iconst (v := 1) hx hb dL_law_2500 (by decide) ?_
    refine lv_iadd hx hb dL_law_2501 ?_
    refine th_is (w := .int 1) (by decide) ?_
    refine va_sld hx hb hat.2.2.2.2.2.2.1 hat.2.2.2.2.2.2.2.1 (law_nb hat) hS.2.1 (i := 1) (by rw [hL]; exact vp_in_iff.mpr (by decide +kernel)) dL_law_2502 ?_
    refine th_is (w := .int (xs 1)) (congrArg (fun j => Value.int (xs j)) (by decide)) ?_
    refine lv_aload_n hx hb dL_law_2503 rfl (lv_at hl 3 rfl) ?_
    refine lv_iload_n hx hb dL_law_2504 rfl (lv_at hl 0 rfl) ?_
    refine lv_iconst (v := 2) hx hb dL_law_2505 (by decide) ?_
    refine lv_iadd hx hb dL_law_2506 ?_
    refine th_is (w := .int 2) (by decide) ?_
    refine va_sld hx hb hat.2.2.2.2.2.2.1 hat.2.2.2.2.2.2.2.1 (law_nb hat) hS.2.1 (i := 2) (by rw [hL]; exact vp_in_iff.mpr (by decide +kernel)) dL_law_2507 ?_
    refine th_is (w := .int (xs 2)) (congrArg (fun j => Value.int (xs j)) (by decide)) ?_
    refine lv_aload_n hx hb dL_law_2508 rfl (lv_at hl 3 rfl) ?_
    refine lv_iload_n hx hb dL_law_2509 rfl (lv_at hl 0 rfl) ?_
    refine lv_iconst (v := 3) hx hb dL_law_2510 (by decide) ?_
    refine lv_iadd hx hb dL_law_2511 ?_
    refine th_is (w := .int 3) (by decide) ?_
    refine va_sld hx hb hat.2.2.2.2.2.2.1 hat.2.2.2.2.2.2.2.1 (law_nb hat) hS.2.1 (i := 3) (by rw [hL]; exact vp_in_iff.mpr (by decide +kernel)) dL_law_2512 ?_
    refine th_is (w := .int (xs 3)) (congrArg (fun j => Value.int (xs j)) (by decide)) ?_
    refine lv_aload_n hx hb dL_law_2513 rfl (lv_at hl 3 rfl) ?_
    refine lv_iload_n hx hb dL_law_2514 rfl (lv_at hl 0 rfl) ?_
    refine lv_iconst (v := 4) hx hb dL_law_2515 (by decide) ?_
    refine lv_iadd hx hb dL_law_2516 ?_
    refine th_is (w := .int 4) (by decide) ?_
    refine va_sld hx hb hat.2.2.2.2.2.2.1 hat.2.2.2.2.2.2.2.1 (law_nb hat) hS.2.1 (i := 4) (by rw [hL]; exact vp_in_iff.mpr (by decide +kernel)) dL_law_2517 ?_
    refine th_is (w := .int (xs 4)) (congrArg (fun j => Value.int (xs j)) (by decide)) ?_
    refine th_if_eq (X := (xs 4).toInt) (tgt := 2525) hx hb dL_law_2518 (by decide) rfl (fun c6075 => ?_) (fun c6075 => absurd c6075 (by omega))
    refine lv_iconst (v := 0) hx hb dL_law_2525 (by decide) ?_
    refine th_goi (th_runV (As := [.int (xs 1), .int (xs 2), .int (xs 3), .int 0]) (rest := [.int r6073]) C hS.1 (RX12, TX12, 151) rfl gV_RL_245 FMh.1 (t_X12_report rfl rfl rfl li_0 FMh) hl rfl rfl rfl rfl ⟨Nat.le_of_ble_eq_true rfl, Nat.le_of_ble_eq_true rfl⟩ (Nat.le_of_ble_eq_true rfl) ⟨Nat.le_of_ble_eq_true rfl, Nat.le_of_ble_eq_true rfl⟩ dL_law_2526) (fun r6076 hq6077 => ?_)
    refine th_icmp_eq (X := r6073.toInt) (Y := r6076.toInt) (tgt := 2746) hx hb dL_law_2529 (by decide) rfl rfl (fun c6078 => ?_) (fun c6078 => absurd (by omega) c6078)
    exact law_next hat hKN (Nat.le_of_eq hL) hS (lv_sub hl [0, 3] rfl) (Nat.le_of_ble_eq_true rfl) (Nat.le_of_ble_eq_true rfl)
  · refine lv_iconst (v := 1) hx hb dL_law_2489 (by decide) ?_
    refine lv_goto (tgt := 2494) hx hb dL_law_2490 (by decide) ?_
    refine th_goi (th_runV (As := [.int (xs 1), .int (xs 2), .int (xs 3), .int 1]) (rest := []) C hS.1 (RX11, TX11, 20) rfl gV_RL_241 hKx (t_X11_report rfl rfl rfl li_1 FXh) hl rfl rfl rfl rfl ⟨Nat.le_of_ble_eq_true rfl, Nat.le_of_ble_eq_true rfl⟩ (Nat.le_of_ble_eq_true rfl) ⟨Nat.le_of_ble_eq_true rfl, Nat.le_of_ble_eq_true rfl⟩ dL_law_2494) (fun r6079 hq6080 => ?_)
    refine lv_aload_n hx hb dL_law_2497 rfl (lv_at hl 1 rfl) ?_
    refine lv_aload_n hx hb dL_law_2498 rfl (lv_at hl 3 rfl) ?_
    refine lv_iload_n hx hb dL_law_2499 rfl (lv_at hl 0 rfl) ?_
    refine lv_iconst (v := 1) hx hb dL_law_2500 (by decide) ?_
    refine lv_iadd hx hb dL_law_2501 ?_
    refine th_is (w := .int 1) (by decide) ?_
    refine va_sld hx hb hat.2.2.2.2.2.2.1 hat.2.2.2.2.2.2.2.1 (law_nb hat) hS.2.1 (i := 1) (by rw [hL]; exact vp_in_iff.mpr (by decide +kernel)) dL_law_2502 ?_
    refine th_is (w := .int (xs 1)) (congrArg (fun j => Value.int (xs j)) (by decide)) ?_
    refine lv_aload_n hx hb dL_law_2503 rfl (lv_at hl 3 rfl) ?_
    refine lv_iload_n hx hb dL_law_2504 rfl (lv_at hl 0 rfl) ?_
    refine lv_iconst (v := 2) hx hb dL_law_2505 (by decide) ?_
    refine lv_iadd hx hb dL_law_2506 ?_
    refine th_is (w := .int 2) (by decide) ?_
    refine va_sld hx hb hat.2.2.2.2.2.2.1 hat.2.2.2.2.2.2.2.1 (law_nb hat) hS.2.1 (i := 2) (by rw [hL]; exact vp_in_iff.mpr (by decide +kernel)) dL_law_2507 ?_
    refine th_is (w := .int (xs 2)) (congrArg (fun j => Value.int (xs j)) (by decide)) ?_
    refine lv_aload_n hx hb dL_law_2508 rfl (lv_at hl 3 rfl) ?_
    refine lv_iload_n hx hb dL_law_2509 rfl (lv_at hl 0 rfl) ?_
    refine lv_iconst (v := 3) hx hb dL_law_2510 (by decide) ?_
    refine lv_iadd hx hb dL_law_2511 ?_
    refine th_is (w := .int 3) (by decide) ?_
    refine va_sld hx hb hat.2.2.2.2.2.2.1 hat.2.2.2.2.2.2.2.1 (law_nb hat) hS.2.1 (i := 3) (by rw [hL]; exact vp_in_iff.mpr (by decide +kernel)) dL_law_2512 ?_
    refine th_is (w := .int (xs 3)) (congrArg (fun j => Value.int (xs j)) (by decide)) ?_
    refine lv_aload_n hx hb dL_law_2513 rfl (lv_at hl 3 rfl) ?_
    refine lv_iload_n hx hb dL_law_2514 rfl (lv_at hl 0 rfl) ?_
    refine lv_iconst (v := 4) hx hb dL_law_2515 (by decide) ?_
    refine lv_iadd hx hb dL_law_2516 ?_
    refine th_is (w := .int 4) (by decide) ?_
    refine va_sld hx hb hat.2.2.2.2.2.2.1 hat.2.2.2.2.2.2.2.1 (law_nb hat) hS.2.1 (i := 4) (by rw [hL]; exact vp_in_iff.mpr (by decide +kernel)) dL_law_2517 ?_
    refine th_is (w := .int (xs 4)) (congrArg (fun j => Value.int (xs j)) (by decide)) ?_
    refine th_if_eq (X := (xs 4).toInt) (tgt := 2525) hx hb dL_law_2518 (by decide) rfl (fun c6081 => absurd c6081 (by omega)) (fun c6081 => ?_)
    refine lv_iconst (v := 1) hx hb dL_law_2521 (by decide) ?_
    refine lv_goto (tgt := 2526) hx hb dL_law_2522 (by decide) ?_
    refine th_goi (th_runV (As := [.int (xs 1), .int (xs 2), .int (xs 3), .int 1]) (rest := [.int r6079]) C hS.1 (RX12, TX12, 151) rfl gV_RL_245 FMh.1 (t_X12_report rfl rfl rfl li_1 FMh) hl rfl rfl rfl rfl ⟨Nat.le_of_ble_eq_true rfl, Nat.le_of_ble_eq_true rfl⟩ (Nat.le_of_ble_eq_true rfl) ⟨Nat.le_of_ble_eq_true rfl, Nat.le_of_ble_eq_true rfl⟩ dL_law_2526) (fun r6082 hq6083 => ?_)
    refine th_icmp_eq (X := r6079.toInt) (Y := r6082.toInt) (tgt := 2746) hx hb dL_law_2529 (by decide) rfl rfl (fun c6084 => ?_) (fun c6084 => absurd (by omega) c6084)
    exact law_next hat hKN (Nat.le_of_eq hL) hS (lv_sub hl [0, 3] rfl) (Nat.le_of_ble_eq_true rfl) (Nat.le_of_ble_eq_true rfl)

set_option maxHeartbeats 4000000 in
set_option maxRecDepth 100000 in
theorem law_case_54 {p : Program} {l : Launch} {e : Env} {s : State} {m : MethodId} {below : List Frame} {meth : Method} {c : Code} {b L : Nat} {xs : Nat → Int32} {D : va_G} {dA : Nat → ClassId} {K : Kmap} {V : Vmap} {H : Heap} {locs : List Loc} {ls : Array Slot} {x m0 : Nat} (hat : lw_At p s m meth c b L xs) (hKN : KN D dA s) (hL : L = 8) (hS : ST D dA kNone s.heap K V H locs) (FXh : FX K V x) (FMh : FM K V m0) (hl : lv_has ls 4 [(3, .int 0), (2, .ref m0), (1, .ref x), (0, .ref b)]) : W p l e room_1 s m #[Value.ref b] below meth c H locs 163 25899 (lw_Z below #[Value.ref b] s) (F0 m 2534 ls []) := by
  have hx := hat.1; have hb := hat.2.1
  have C := law_cx hat hKN
  have hKx : K x = some (0, 10) := FX.kind FXh
  refine lv_aload_n hx hb dL_law_2534 rfl (lv_at hl 2 rfl) ?_
  refine lv_aload_n hx hb dL_law_2535 rfl (lv_at hl 3 rfl) ?_
  refine lv_iload_n hx hb dL_law_2536 rfl (lv_at hl 0 rfl) ?_
  refine lv_iconst (v := 1) hx hb dL_law_2537 (by decide) ?_
  refine lv_iadd hx hb dL_law_2538 ?_
  refine th_is (w := .int 1) (by decide) ?_
  refine va_sld hx hb hat.2.2.2.2.2.2.1 hat.2.2.2.2.2.2.2.1 (law_nb hat) hS.2.1 (i := 1) (by rw [hL]; exact vp_in_iff.mpr (by decide +kernel)) dL_law_2539 ?_
  refine th_is (w := .int (xs 1)) (congrArg (fun j => Value.int (xs j)) (by decide)) ?_
  refine lv_aload_n hx hb dL_law_2540 rfl (lv_at hl 3 rfl) ?_
  refine lv_iload_n hx hb dL_law_2541 rfl (lv_at hl 0 rfl) ?_
  refine lv_iconst (v := 2) hx hb dL_law_2542 (by decide) ?_
  refine lv_iadd hx hb dL_law_2543 ?_
  refine th_is (w := .int 2) (by decide) ?_
  refine va_sld hx hb hat.2.2.2.2.2.2.1 hat.2.2.2.2.2.2.2.1 (law_nb hat) hS.2.1 (i := 2) (by rw [hL]; exact vp_in_iff.mpr (by decide +kernel)) dL_law_2544 ?_
  refine th_is (w := .int (xs 2)) (congrArg (fun j => Value.int (xs j)) (by decide)) ?_
  refine lv_aload_n hx hb dL_law_2545 rfl (lv_at hl 3 rfl) ?_
  refine lv_iload_n hx hb dL_law_2546 rfl (lv_at hl 0 rfl) ?_
  refine lv_iconst (v := 3) hx hb dL_law_2547 (by decide) ?_
  refine lv_iadd hx hb dL_law_2548 ?_
  refine th_is (w := .int 3) (by decide) ?_
  refine va_sld hx hb hat.2.2.2.2.2.2.1 hat.2.2.2.2.2.2.2.1 (law_nb hat) hS.2.1 (i := 3) (by rw [hL]; exact vp_in_iff.mpr (by decide +kernel)) dL_law_2549 ?_
  refine th_is (w := .int (xs 3)) (congrArg (fun j => Value.int (xs j)) (by decide)) ?_
  refine th_goi (th_runV (As := [.int (xs 1), .int (xs 2), .int (xs 3)]) (rest := []) C hS.1 (RX11, TX11, 20) rfl gV_RL_246 hKx (t_X11_known rfl rfl rfl FXh) hl rfl rfl rfl rfl ⟨Nat.le_of_ble_eq_true rfl, Nat.le_of_ble_eq_true rfl⟩ (Nat.le_of_ble_eq_true rfl) ⟨Nat.le_of_ble_eq_true rfl, Nat.le_of_ble_eq_true rfl⟩ dL_law_2550) (fun r6085 hq6086 => ?_)
  refine lv_aload_n hx hb dL_law_2553 rfl (lv_at hl 1 rfl) ?_
  refine lv_aload_n hx hb dL_law_2554 rfl (lv_at hl 3 rfl) ?_
  refine lv_iload_n hx hb dL_law_2555 rfl (lv_at hl 0 rfl) ?_
  refine lv_iconst (v := 1) hx hb dL_law_2556 (by decide) ?_
  refine lv_iadd hx hb dL_law_2557 ?_
  refine th_is (w := .int 1) (by decide) ?_
  refine va_sld hx hb hat.2.2.2.2.2.2.1 hat.2.2.2.2.2.2.2.1 (law_nb hat) hS.2.1 (i := 1) (by rw [hL]; exact vp_in_iff.mpr (by decide +kernel)) dL_law_2558 ?_
  refine th_is (w := .int (xs 1)) (congrArg (fun j => Value.int (xs j)) (by decide)) ?_
  refine lv_aload_n hx hb dL_law_2559 rfl (lv_at hl 3 rfl) ?_
  refine lv_iload_n hx hb dL_law_2560 rfl (lv_at hl 0 rfl) ?_
  refine lv_iconst (v := 2) hx hb dL_law_2561 (by decide) ?_
  refine lv_iadd hx hb dL_law_2562 ?_
  refine th_is (w := .int 2) (by decide) ?_
  refine va_sld hx hb hat.2.2.2.2.2.2.1 hat.2.2.2.2.2.2.2.1 (law_nb hat) hS.2.1 (i := 2) (by rw [hL]; exact vp_in_iff.mpr (by decide +kernel)) dL_law_2563 ?_
  refine th_is (w := .int (xs 2)) (congrArg (fun j => Value.int (xs j)) (by decide)) ?_
  refine lv_aload_n hx hb dL_law_2564 rfl (lv_at hl 3 rfl) ?_
  refine lv_iload_n hx hb dL_law_2565 rfl (lv_at hl 0 rfl) ?_
  refine lv_iconst (v := 3) hx hb dL_law_2566 (by decide) ?_
  refine lv_iadd hx hb dL_law_2567 ?_
  refine th_is (w := .int 3) (by decide) ?_
  refine va_sld hx hb hat.2.2.2.2.2.2.1 hat.2.2.2.2.2.2.2.1 (law_nb hat) hS.2.1 (i := 3) (by rw [hL]; exact vp_in_iff.mpr (by decide +kernel)) dL_law_2568 ?_
  refine th_is (w := .int (xs 3)) (congrArg (fun j => Value.int (xs j)) (by decide)) ?_
  refine th_goi (th_runV (As := [.int (xs 1), .int (xs 2), .int (xs 3)]) (rest := [.int r6085]) C hS.1 (RX12, TX12, 151) rfl gV_RL_249 FMh.1 (t_X12_known rfl rfl rfl FMh) hl rfl rfl rfl rfl ⟨Nat.le_of_ble_eq_true rfl, Nat.le_of_ble_eq_true rfl⟩ (Nat.le_of_ble_eq_true rfl) ⟨Nat.le_of_ble_eq_true rfl, Nat.le_of_ble_eq_true rfl⟩ dL_law_2569) (fun r6087 hq6088 => ?_)
  refine th_icmp_eq (X := r6085.toInt) (Y := r6087.toInt) (tgt := 2746) hx hb dL_law_2572 (by decide) rfl rfl (fun c6089 => ?_) (fun c6089 => absurd (by omega) c6089)
  exact law_next hat hKN (Nat.le_of_eq hL) hS (lv_sub hl [0, 3] rfl) (Nat.le_of_ble_eq_true rfl) (Nat.le_of_ble_eq_true rfl)

set_option maxHeartbeats 4000000 in
set_option maxRecDepth 100000 in
theorem law_case_55 {p : Program} {l : Launch} {e : Env} {s : State} {m : MethodId} {below : List Frame} {meth : Method} {c : Code} {b L : Nat} {xs : Nat → Int32} {D : va_G} {dA : Nat → ClassId} {K : Kmap} {V : Vmap} {H : Heap} {locs : List Loc} {ls : Array Slot} {x m0 : Nat} (hat : lw_At p s m meth c b L xs) (hKN : KN D dA s) (hL : L = 8) (hS : ST D dA kNone s.heap K V H locs) (FXh : FX K V x) (FMh : FM K V m0) (hl : lv_has ls 4 [(3, .int 0), (2, .ref m0), (1, .ref x), (0, .ref b)]) : W p l e room_1 s m #[Value.ref b] below meth c H locs 163 25899 (lw_Z below #[Value.ref b] s) (F0 m 2577 ls []) := by
  have hx := hat.1; have hb := hat.2.1
  have C := law_cx hat hKN
  have hKx : K x = some (0, 10) := FX.kind FXh
  refine lv_aload_n hx hb dL_law_2577 rfl (lv_at hl 2 rfl) ?_
  refine lv_aload_n hx hb dL_law_2578 rfl (lv_at hl 3 rfl) ?_
  refine lv_iload_n hx hb dL_law_2579 rfl (lv_at hl 0 rfl) ?_
  refine lv_iconst (v := 1) hx hb dL_law_2580 (by decide) ?_
  refine lv_iadd hx hb dL_law_2581 ?_
  refine th_is (w := .int 1) (by decide) ?_
  refine va_sld hx hb hat.2.2.2.2.2.2.1 hat.2.2.2.2.2.2.2.1 (law_nb hat) hS.2.1 (i := 1) (by rw [hL]; exact vp_in_iff.mpr (by decide +kernel)) dL_law_2582 ?_
  refine th_is (w := .int (xs 1)) (congrArg (fun j => Value.int (xs j)) (by decide)) ?_
  refine th_goiH hS rfl (th_runV (As := [.int (xs 1)]) (rest := []) C hS.1 (RX11, TX11, 20) rfl gV_RL_250 hKx (t_X11_check rfl FXh) hl rfl rfl rfl rfl ⟨Nat.le_of_ble_eq_true rfl, Nat.le_of_ble_eq_true rfl⟩ (Nat.le_of_ble_eq_true rfl) ⟨Nat.le_of_ble_eq_true rfl, Nat.le_of_ble_eq_true rfl⟩ dL_law_2583) (fun r6090 K6092 V6093 H locs1 hq6091 hE6094 hS => ?_)
  obtain ⟨hF6095, hr6096⟩ := hq6091
  have FM6097 := FM.moved FMh hE6094 (hF6095 _ FMh.1)
  refine lv_aload_n hx hb dL_law_2586 rfl (lv_at hl 1 rfl) ?_
  refine lv_aload_n hx hb dL_law_2587 rfl (lv_at hl 3 rfl) ?_
  refine lv_iload_n hx hb dL_law_2588 rfl (lv_at hl 0 rfl) ?_
  refine lv_iconst (v := 1) hx hb dL_law_2589 (by decide) ?_
  refine lv_iadd hx hb dL_law_2590 ?_
  refine th_is (w := .int 1) (by decide) ?_
  refine va_sld hx hb hat.2.2.2.2.2.2.1 hat.2.2.2.2.2.2.2.1 (law_nb hat) hS.2.1 (i := 1) (by rw [hL]; exact vp_in_iff.mpr (by decide +kernel)) dL_law_2591 ?_
  refine th_is (w := .int (xs 1)) (congrArg (fun j => Value.int (xs j)) (by decide)) ?_
  refine th_goiH hS rfl (th_runV (As := [.int (xs 1)]) (rest := [.int r6090]) C hS.1 (RX12, TX12, 151) rfl gV_RL_253 FM6097.1 (t_X12_check rfl FM6097) hl rfl rfl rfl rfl ⟨Nat.le_of_ble_eq_true rfl, Nat.le_of_ble_eq_true rfl⟩ (Nat.le_of_ble_eq_true rfl) ⟨Nat.le_of_ble_eq_true rfl, Nat.le_of_ble_eq_true rfl⟩ dL_law_2592) (fun r6098 K6100 V6101 H locs1 hq6099 hE6102 hS => ?_)
  refine th_icmp_eq (X := r6090.toInt) (Y := r6098.toInt) (tgt := 2746) hx hb dL_law_2595 (by decide) rfl rfl (fun c6103 => ?_) (fun c6103 => absurd (by rcases hr6096 with ⟨_, b1⟩ | ⟨_, b1⟩ <;> rcases hq6099 with ⟨_, b2⟩ | ⟨_, b2⟩ <;> first | exact b1.trans b2.symm | (exfalso; omega)) c6103)
  exact law_next hat hKN (Nat.le_of_eq hL) hS (lv_sub hl [0, 3] rfl) (Nat.le_of_ble_eq_true rfl) (Nat.le_of_ble_eq_true rfl)

set_option maxHeartbeats 4000000 in
set_option maxRecDepth 100000 in
theorem law_case_56 {p : Program} {l : Launch} {e : Env} {s : State} {m : MethodId} {below : List Frame} {meth : Method} {c : Code} {b L : Nat} {xs : Nat → Int32} {D : va_G} {dA : Nat → ClassId} {K : Kmap} {V : Vmap} {H : Heap} {locs : List Loc} {ls : Array Slot} {x m0 : Nat} (hat : lw_At p s m meth c b L xs) (hKN : KN D dA s) (hL : L = 8) (hS : ST D dA kNone s.heap K V H locs) (FXh : FX K V x) (FMh : FM K V m0) (hl : lv_has ls 4 [(3, .int 0), (2, .ref m0), (1, .ref x), (0, .ref b)]) : W p l e room_1 s m #[Value.ref b] below meth c H locs 163 25899 (lw_Z below #[Value.ref b] s) (F0 m 2600 ls []) := by
  have hx := hat.1; have hb := hat.2.1
  have C := law_cx hat hKN
  have hKx : K x = some (0, 10) := FX.kind FXh
  refine lv_aload_n hx hb dL_law_2600 rfl (lv_at hl 2 rfl) ?_
  refine lv_aload_n hx hb dL_law_2601 rfl (lv_at hl 3 rfl) ?_
  refine lv_iload_n hx hb dL_law_2602 rfl (lv_at hl 0 rfl) ?_
  refine lv_iconst (v := 1) hx hb dL_law_2603 (by decide) ?_
  refine lv_iadd hx hb dL_law_2604 ?_
  refine th_is (w := .int 1) (by decide) ?_
  refine va_sld hx hb hat.2.2.2.2.2.2.1 hat.2.2.2.2.2.2.2.1 (law_nb hat) hS.2.1 (i := 1) (by rw [hL]; exact vp_in_iff.mpr (by decide +kernel)) dL_law_2605 ?_
  refine th_is (w := .int (xs 1)) (congrArg (fun j => Value.int (xs j)) (by decide)) ?_
  refine lv_aload_n hx hb dL_law_2606 rfl (lv_at hl 3 rfl) ?_
  refine lv_iload_n hx hb dL_law_2607 rfl (lv_at hl 0 rfl) ?_
  refine lv_iconst (v := 2) hx hb dL_law_2608 (by decide) ?_
  refine lv_iadd hx hb dL_law_2609 ?_
  refine th_is (w := .int 2) (by decide) ?_
  refine va_sld hx hb hat.2.2.2.2.2.2.1 hat.2.2.2.2.2.2.2.1 (law_nb hat) hS.2.1 (i := 2) (by rw [hL]; exact vp_in_iff.mpr (by decide +kernel)) dL_law_2610 ?_
  refine th_is (w := .int (xs 2)) (congrArg (fun j => Value.int (xs j)) (by decide)) ?_
  refine th_goi (th_runV (As := [.int (xs 1), .int (xs 2)]) (rest := []) C hS.1 (RX11, TX11, 20) rfl gV_RL_254 hKx (t_X11_look rfl rfl FXh) hl rfl rfl rfl rfl ⟨Nat.le_of_ble_eq_true rfl, Nat.le_of_ble_eq_true rfl⟩ (Nat.le_of_ble_eq_true rfl) ⟨Nat.le_of_ble_eq_true rfl, Nat.le_of_ble_eq_true rfl⟩ dL_law_2611) (fun r6104 hq6105 => ?_)
  refine lv_aload_n hx hb dL_law_2614 rfl (lv_at hl 1 rfl) ?_
  refine lv_aload_n hx hb dL_law_2615 rfl (lv_at hl 3 rfl) ?_
  refine lv_iload_n hx hb dL_law_2616 rfl (lv_at hl 0 rfl) ?_
  refine lv_iconst (v := 1) hx hb dL_law_2617 (by decide) ?_
  refine lv_iadd hx hb dL_law_2618 ?_
  refine th_is (w := .int 1) (by decide) ?_
  refine va_sld hx hb hat.2.2.2.2.2.2.1 hat.2.2.2.2.2.2.2.1 (law_nb hat) hS.2.1 (i := 1) (by rw [hL]; exact vp_in_iff.mpr (by decide +kernel)) dL_law_2619 ?_
  refine th_is (w := .int (xs 1)) (congrArg (fun j => Value.int (xs j)) (by decide)) ?_
  refine lv_aload_n hx hb dL_law_2620 rfl (lv_at hl 3 rfl) ?_
  refine lv_iload_n hx hb dL_law_2621 rfl (lv_at hl 0 rfl) ?_
  refine lv_iconst (v := 2) hx hb dL_law_2622 (by decide) ?_
  refine lv_iadd hx hb dL_law_2623 ?_
  refine th_is (w := .int 2) (by decide) ?_
  refine va_sld hx hb hat.2.2.2.2.2.2.1 hat.2.2.2.2.2.2.2.1 (law_nb hat) hS.2.1 (i := 2) (by rw [hL]; exact vp_in_iff.mpr (by decide +kernel)) dL_law_2624 ?_
  refine th_is (w := .int (xs 2)) (congrArg (fun j => Value.int (xs j)) (by decide)) ?_
  refine th_goi (th_runV (As := [.int (xs 1), .int (xs 2)]) (rest := [.int r6104]) C hS.1 (RX12, TX12, 151) rfl gV_RL_257 FMh.1 (t_X12_look rfl rfl FMh) hl rfl rfl rfl rfl ⟨Nat.le_of_ble_eq_true rfl, Nat.le_of_ble_eq_true rfl⟩ (Nat.le_of_ble_eq_true rfl) ⟨Nat.le_of_ble_eq_true rfl, Nat.le_of_ble_eq_true rfl⟩ dL_law_2625) (fun r6106 hq6107 => ?_)
  refine th_icmp_eq (X := r6104.toInt) (Y := r6106.toInt) (tgt := 2746) hx hb dL_law_2628 (by decide) rfl rfl (fun c6108 => ?_) (fun c6108 => absurd (by omega) c6108)
  exact law_next hat hKN (Nat.le_of_eq hL) hS (lv_sub hl [0, 3] rfl) (Nat.le_of_ble_eq_true rfl) (Nat.le_of_ble_eq_true rfl)

set_option maxHeartbeats 4000000 in
set_option maxRecDepth 100000 in
theorem law_case_57 {p : Program} {l : Launch} {e : Env} {s : State} {m : MethodId} {below : List Frame} {meth : Method} {c : Code} {b L : Nat} {xs : Nat → Int32} {D : va_G} {dA : Nat → ClassId} {K : Kmap} {V : Vmap} {H : Heap} {locs : List Loc} {ls : Array Slot} {x m0 : Nat} (hat : lw_At p s m meth c b L xs) (hKN : KN D dA s) (hL : L = 8) (hS : ST D dA kNone s.heap K V H locs) (FXh : FX K V x) (FMh : FM K V m0) (hl : lv_has ls 4 [(3, .int 0), (2, .ref m0), (1, .ref x), (0, .ref b)]) : W p l e room_1 s m #[Value.ref b] below meth c H locs 163 25899 (lw_Z below #[Value.ref b] s) (F0 m 2633 ls []) := by
  have hx := hat.1; have hb := hat.2.1
  have C := law_cx hat hKN
  have hKx : K x = some (0, 10) := FX.kind FXh
  refine lv_aload_n hx hb dL_law_2633 rfl (lv_at hl 2 rfl) ?_
  refine lv_aload_n hx hb dL_law_2634 rfl (lv_at hl 3 rfl) ?_
  refine lv_iload_n hx hb dL_law_2635 rfl (lv_at hl 0 rfl) ?_
  refine lv_iconst (v := 1) hx hb dL_law_2636 (by decide) ?_
  refine lv_iadd hx hb dL_law_2637 ?_
  refine th_is (w := .int 1) (by decide) ?_
  refine va_sld hx hb hat.2.2.2.2.2.2.1 hat.2.2.2.2.2.2.2.1 (law_nb hat) hS.2.1 (i := 1) (by rw [hL]; exact vp_in_iff.mpr (by decide +kernel)) dL_law_2638 ?_
  refine th_is (w := .int (xs 1)) (congrArg (fun j => Value.int (xs j)) (by decide)) ?_
  refine lv_aload_n hx hb dL_law_2639 rfl (lv_at hl 3 rfl) ?_
  refine lv_iload_n hx hb dL_law_2640 rfl (lv_at hl 0 rfl) ?_
  refine lv_iconst (v := 2) hx hb dL_law_2641 (by decide) ?_
  refine lv_iadd hx hb dL_law_2642 ?_
  refine th_is (w := .int 2) (by decide) ?_
  refine va_sld hx hb hat.2.2.2.2.2.2.1 hat.2.2.2.2.2.2.2.1 (law_nb hat) hS.2.1 (i := 2) (by rw [hL]; exact vp_in_iff.mpr (by decide +kernel)) dL_law_2643 ?_
  refine th_is (w := .int (xs 2)) (congrArg (fun j => Value.int (xs j)) (by decide)) ?_
  refine th_goi (th_runV (As := [.int (xs 1), .int (xs 2)]) (rest := []) C hS.1 (RX11, TX11, 20) rfl gV_RL_258 hKx (t_X11_at rfl rfl FXh) hl rfl rfl rfl rfl ⟨Nat.le_of_ble_eq_true rfl, Nat.le_of_ble_eq_true rfl⟩ (Nat.le_of_ble_eq_true rfl) ⟨Nat.le_of_ble_eq_true rfl, Nat.le_of_ble_eq_true rfl⟩ dL_law_2644) (fun r6109 hq6110 => ?_)
  refine lv_aload_n hx hb dL_law_2647 rfl (lv_at hl 1 rfl) ?_
  refine lv_aload_n hx hb dL_law_2648 rfl (lv_at hl 3 rfl) ?_
  refine lv_iload_n hx hb dL_law_2649 rfl (lv_at hl 0 rfl) ?_
  refine lv_iconst (v := 1) hx hb dL_law_2650 (by decide) ?_
  refine lv_iadd hx hb dL_law_2651 ?_
  refine th_is (w := .int 1) (by decide) ?_
  refine va_sld hx hb hat.2.2.2.2.2.2.1 hat.2.2.2.2.2.2.2.1 (law_nb hat) hS.2.1 (i := 1) (by rw [hL]; exact vp_in_iff.mpr (by decide +kernel)) dL_law_2652 ?_
  refine th_is (w := .int (xs 1)) (congrArg (fun j => Value.int (xs j)) (by decide)) ?_
  refine lv_aload_n hx hb dL_law_2653 rfl (lv_at hl 3 rfl) ?_
  refine lv_iload_n hx hb dL_law_2654 rfl (lv_at hl 0 rfl) ?_
  refine lv_iconst (v := 2) hx hb dL_law_2655 (by decide) ?_
  refine lv_iadd hx hb dL_law_2656 ?_
  refine th_is (w := .int 2) (by decide) ?_
  refine va_sld hx hb hat.2.2.2.2.2.2.1 hat.2.2.2.2.2.2.2.1 (law_nb hat) hS.2.1 (i := 2) (by rw [hL]; exact vp_in_iff.mpr (by decide +kernel)) dL_law_2657 ?_
  refine th_is (w := .int (xs 2)) (congrArg (fun j => Value.int (xs j)) (by decide)) ?_
  refine th_goi (th_runV (As := [.int (xs 1), .int (xs 2)]) (rest := [.int r6109]) C hS.1 (RX12, TX12, 151) rfl gV_RL_261 FMh.1 (t_X12_at rfl rfl FMh) hl rfl rfl rfl rfl ⟨Nat.le_of_ble_eq_true rfl, Nat.le_of_ble_eq_true rfl⟩ (Nat.le_of_ble_eq_true rfl) ⟨Nat.le_of_ble_eq_true rfl, Nat.le_of_ble_eq_true rfl⟩ dL_law_2658) (fun r6111 hq6112 => ?_)
  refine th_icmp_eq (X := r6109.toInt) (Y := r6111.toInt) (tgt := 2746) hx hb dL_law_2661 (by decide) rfl rfl (fun c6113 => ?_) (fun c6113 => absurd (by omega) c6113)
  exact law_next hat hKN (Nat.le_of_eq hL) hS (lv_sub hl [0, 3] rfl) (Nat.le_of_ble_eq_true rfl) (Nat.le_of_ble_eq_true rfl)

set_option maxHeartbeats 4000000 in
set_option maxRecDepth 100000 in
theorem law_case_58 {p : Program} {l : Launch} {e : Env} {s : State} {m : MethodId} {below : List Frame} {meth : Method} {c : Code} {b L : Nat} {xs : Nat → Int32} {D : va_G} {dA : Nat → ClassId} {K : Kmap} {V : Vmap} {H : Heap} {locs : List Loc} {ls : Array Slot} {x m0 : Nat} (hat : lw_At p s m meth c b L xs) (hKN : KN D dA s) (hL : L = 8) (hS : ST D dA kNone s.heap K V H locs) (FXh : FX K V x) (FMh : FM K V m0) (hl : lv_has ls 4 [(3, .int 0), (2, .ref m0), (1, .ref x), (0, .ref b)]) : W p l e room_1 s m #[Value.ref b] below meth c H locs 163 25899 (lw_Z below #[Value.ref b] s) (F0 m 2666 ls []) := by
  have hx := hat.1; have hb := hat.2.1
  have C := law_cx hat hKN
  have hKx : K x = some (0, 10) := FX.kind FXh
  refine lv_aload_n hx hb dL_law_2666 rfl (lv_at hl 2 rfl) ?_
  refine lv_aload_n hx hb dL_law_2667 rfl (lv_at hl 3 rfl) ?_
  refine lv_iload_n hx hb dL_law_2668 rfl (lv_at hl 0 rfl) ?_
  refine lv_iconst (v := 1) hx hb dL_law_2669 (by decide) ?_
  refine lv_iadd hx hb dL_law_2670 ?_
  refine th_is (w := .int 1) (by decide) ?_
  refine va_sld hx hb hat.2.2.2.2.2.2.1 hat.2.2.2.2.2.2.2.1 (law_nb hat) hS.2.1 (i := 1) (by rw [hL]; exact vp_in_iff.mpr (by decide +kernel)) dL_law_2671 ?_
  refine th_is (w := .int (xs 1)) (congrArg (fun j => Value.int (xs j)) (by decide)) ?_
  refine lv_aload_n hx hb dL_law_2672 rfl (lv_at hl 3 rfl) ?_
  refine lv_iload_n hx hb dL_law_2673 rfl (lv_at hl 0 rfl) ?_
  refine lv_iconst (v := 2) hx hb dL_law_2674 (by decide) ?_
  refine lv_iadd hx hb dL_law_2675 ?_
  refine th_is (w := .int 2) (by decide) ?_
  refine va_sld hx hb hat.2.2.2.2.2.2.1 hat.2.2.2.2.2.2.2.1 (law_nb hat) hS.2.1 (i := 2) (by rw [hL]; exact vp_in_iff.mpr (by decide +kernel)) dL_law_2676 ?_
  refine th_is (w := .int (xs 2)) (congrArg (fun j => Value.int (xs j)) (by decide)) ?_
  refine th_goi (th_runV (As := [.int (xs 1), .int (xs 2)]) (rest := []) C hS.1 (RX11, TX11, 20) rfl gV_RL_262 hKx (t_X11_about rfl rfl FXh) hl rfl rfl rfl rfl ⟨Nat.le_of_ble_eq_true rfl, Nat.le_of_ble_eq_true rfl⟩ (Nat.le_of_ble_eq_true rfl) ⟨Nat.le_of_ble_eq_true rfl, Nat.le_of_ble_eq_true rfl⟩ dL_law_2677) (fun r6114 hq6115 => ?_)
  refine lv_aload_n hx hb dL_law_2680 rfl (lv_at hl 1 rfl) ?_
  refine lv_aload_n hx hb dL_law_2681 rfl (lv_at hl 3 rfl) ?_
  refine lv_iload_n hx hb dL_law_2682 rfl (lv_at hl 0 rfl) ?_
  refine lv_iconst (v := 1) hx hb dL_law_2683 (by decide) ?_
  refine lv_iadd hx hb dL_law_2684 ?_
  refine th_is (w := .int 1) (by decide) ?_
  refine va_sld hx hb hat.2.2.2.2.2.2.1 hat.2.2.2.2.2.2.2.1 (law_nb hat) hS.2.1 (i := 1) (by rw [hL]; exact vp_in_iff.mpr (by decide +kernel)) dL_law_2685 ?_
  refine th_is (w := .int (xs 1)) (congrArg (fun j => Value.int (xs j)) (by decide)) ?_
  refine lv_aload_n hx hb dL_law_2686 rfl (lv_at hl 3 rfl) ?_
  refine lv_iload_n hx hb dL_law_2687 rfl (lv_at hl 0 rfl) ?_
  refine lv_iconst (v := 2) hx hb dL_law_2688 (by decide) ?_
  refine lv_iadd hx hb dL_law_2689 ?_
  refine th_is (w := .int 2) (by decide) ?_
  refine va_sld hx hb hat.2.2.2.2.2.2.1 hat.2.2.2.2.2.2.2.1 (law_nb hat) hS.2.1 (i := 2) (by rw [hL]; exact vp_in_iff.mpr (by decide +kernel)) dL_law_2690 ?_
  refine th_is (w := .int (xs 2)) (congrArg (fun j => Value.int (xs j)) (by decide)) ?_
  refine th_goi (th_runV (As := [.int (xs 1), .int (xs 2)]) (rest := [.int r6114]) C hS.1 (RX12, TX12, 151) rfl gV_RL_265 FMh.1 (t_X12_about rfl rfl FMh) hl rfl rfl rfl rfl ⟨Nat.le_of_ble_eq_true rfl, Nat.le_of_ble_eq_true rfl⟩ (Nat.le_of_ble_eq_true rfl) ⟨Nat.le_of_ble_eq_true rfl, Nat.le_of_ble_eq_true rfl⟩ dL_law_2691) (fun r6116 hq6117 => ?_)
  refine th_icmp_eq (X := r6114.toInt) (Y := r6116.toInt) (tgt := 2746) hx hb dL_law_2694 (by decide) rfl rfl (fun c6118 => ?_) (fun c6118 => absurd (by omega) c6118)
  exact law_next hat hKN (Nat.le_of_eq hL) hS (lv_sub hl [0, 3] rfl) (Nat.le_of_ble_eq_true rfl) (Nat.le_of_ble_eq_true rfl)

set_option maxHeartbeats 4000000 in
set_option maxRecDepth 100000 in
theorem law_case_59 {p : Program} {l : Launch} {e : Env} {s : State} {m : MethodId} {below : List Frame} {meth : Method} {c : Code} {b L : Nat} {xs : Nat → Int32} {D : va_G} {dA : Nat → ClassId} {K : Kmap} {V : Vmap} {H : Heap} {locs : List Loc} {ls : Array Slot} {x m0 : Nat} (hat : lw_At p s m meth c b L xs) (hKN : KN D dA s) (hL : L = 8) (hS : ST D dA kNone s.heap K V H locs) (FXh : FX K V x) (FMh : FM K V m0) (hl : lv_has ls 4 [(3, .int 0), (2, .ref m0), (1, .ref x), (0, .ref b)]) : W p l e room_1 s m #[Value.ref b] below meth c H locs 163 25899 (lw_Z below #[Value.ref b] s) (F0 m 2699 ls []) := by
  have hx := hat.1; have hb := hat.2.1
  have C := law_cx hat hKN
  have hKx : K x = some (0, 10) := FX.kind FXh
  refine lv_aload_n hx hb dL_law_2699 rfl (lv_at hl 2 rfl) ?_
  refine lv_aload_n hx hb dL_law_2700 rfl (lv_at hl 3 rfl) ?_
  refine lv_iload_n hx hb dL_law_2701 rfl (lv_at hl 0 rfl) ?_
  refine lv_iconst (v := 1) hx hb dL_law_2702 (by decide) ?_
  refine lv_iadd hx hb dL_law_2703 ?_
  refine th_is (w := .int 1) (by decide) ?_
  refine va_sld hx hb hat.2.2.2.2.2.2.1 hat.2.2.2.2.2.2.2.1 (law_nb hat) hS.2.1 (i := 1) (by rw [hL]; exact vp_in_iff.mpr (by decide +kernel)) dL_law_2704 ?_
  refine th_is (w := .int (xs 1)) (congrArg (fun j => Value.int (xs j)) (by decide)) ?_
  refine th_golH hS rfl (th_runV (As := [.int (xs 1)]) (rest := []) C hS.1 (RX11, TX11, 20) rfl gV_RL_266 hKx (t_X11_sum rfl FXh) hl rfl rfl rfl rfl ⟨Nat.le_of_ble_eq_true rfl, Nat.le_of_ble_eq_true rfl⟩ (Nat.le_of_ble_eq_true rfl) ⟨Nat.le_of_ble_eq_true rfl, Nat.le_of_ble_eq_true rfl⟩ dL_law_2705) (fun r6119 K6121 V6122 H locs1 hq6120 hE6123 hS => ?_)
  obtain ⟨hF6124, hr6125⟩ := hq6120
  have FM6126 := FM.moved FMh hE6123 (hF6124 _ FMh.1)
  refine lv_aload_n hx hb dL_law_2708 rfl (lv_at hl 1 rfl) ?_
  refine lv_aload_n hx hb dL_law_2709 rfl (lv_at hl 3 rfl) ?_
  refine lv_iload_n hx hb dL_law_2710 rfl (lv_at hl 0 rfl) ?_
  refine lv_iconst (v := 1) hx hb dL_law_2711 (by decide) ?_
  refine lv_iadd hx hb dL_law_2712 ?_
  refine th_is (w := .int 1) (by decide) ?_
  refine va_sld hx hb hat.2.2.2.2.2.2.1 hat.2.2.2.2.2.2.2.1 (law_nb hat) hS.2.1 (i := 1) (by rw [hL]; exact vp_in_iff.mpr (by decide +kernel)) dL_law_2713 ?_
  refine th_is (w := .int (xs 1)) (congrArg (fun j => Value.int (xs j)) (by decide)) ?_
  refine th_golH hS rfl (th_runV (As := [.int (xs 1)]) (rest := [.long r6119]) C hS.1 (RX12, TX12, 151) rfl gV_RL_270 FM6126.1 (t_X12_sum rfl FM6126) hl rfl rfl rfl rfl ⟨Nat.le_of_ble_eq_true rfl, Nat.le_of_ble_eq_true rfl⟩ (Nat.le_of_ble_eq_true rfl) ⟨Nat.le_of_ble_eq_true rfl, Nat.le_of_ble_eq_true rfl⟩ dL_law_2714) (fun r6127 K6129 V6130 H locs1 hq6128 hE6131 hS => ?_)
  have hll : r6119 = r6127 := by rcases hr6125 with ⟨_, h1⟩ | ⟨_, h1⟩ <;> rcases hq6128 with ⟨_, h2⟩ | ⟨_, h2⟩ <;> first | exact h1.trans h2.symm | (exfalso; omega)
  refine W.lcmp hx hb dL_law_2717 ?_
  refine th_is (w := .int 0) (by rw [hll]; first | rfl | simp [lg_cmp]) ?_
  refine th_if_eq (X := 0) (tgt := 2746) hx hb dL_law_2718 (by decide) li_0 (fun c6133 => ?_) (fun c6133 => absurd c6133 (by omega))
  exact law_next hat hKN (Nat.le_of_eq hL) hS (lv_sub hl [0, 3] rfl) (Nat.le_of_ble_eq_true rfl) (Nat.le_of_ble_eq_true rfl)

set_option maxHeartbeats 4000000 in
set_option maxRecDepth 100000 in
theorem law_case_60 {p : Program} {l : Launch} {e : Env} {s : State} {m : MethodId} {below : List Frame} {meth : Method} {c : Code} {b L : Nat} {xs : Nat → Int32} {D : va_G} {dA : Nat → ClassId} {K : Kmap} {V : Vmap} {H : Heap} {locs : List Loc} {ls : Array Slot} {x m0 : Nat} (hat : lw_At p s m meth c b L xs) (hKN : KN D dA s) (hL : L = 8) (hS : ST D dA kNone s.heap K V H locs) (FXh : FX K V x) (FMh : FM K V m0) (hl : lv_has ls 4 [(3, .int 0), (2, .ref m0), (1, .ref x), (0, .ref b)]) : W p l e room_1 s m #[Value.ref b] below meth c H locs 163 25899 (lw_Z below #[Value.ref b] s) (F0 m 2723 ls []) := by
  have hx := hat.1; have hb := hat.2.1
  have C := law_cx hat hKN
  have hKx : K x = some (0, 10) := FX.kind FXh
  refine lv_aload_n hx hb dL_law_2723 rfl (lv_at hl 2 rfl) ?_
  refine lv_aload_n hx hb dL_law_2724 rfl (lv_at hl 3 rfl) ?_
  refine lv_iload_n hx hb dL_law_2725 rfl (lv_at hl 0 rfl) ?_
  refine lv_iconst (v := 1) hx hb dL_law_2726 (by decide) ?_
  refine lv_iadd hx hb dL_law_2727 ?_
  refine th_is (w := .int 1) (by decide) ?_
  refine va_sld hx hb hat.2.2.2.2.2.2.1 hat.2.2.2.2.2.2.2.1 (law_nb hat) hS.2.1 (i := 1) (by rw [hL]; exact vp_in_iff.mpr (by decide +kernel)) dL_law_2728 ?_
  refine th_is (w := .int (xs 1)) (congrArg (fun j => Value.int (xs j)) (by decide)) ?_
  refine th_goi (th_runV (As := [.int (xs 1)]) (rest := []) C hS.1 (RX11, TX11, 20) rfl gV_RL_271 hKx (t_X11_count rfl FXh) hl rfl rfl rfl rfl ⟨Nat.le_of_ble_eq_true rfl, Nat.le_of_ble_eq_true rfl⟩ (Nat.le_of_ble_eq_true rfl) ⟨Nat.le_of_ble_eq_true rfl, Nat.le_of_ble_eq_true rfl⟩ dL_law_2729) (fun r6134 hq6135 => ?_)
  refine lv_aload_n hx hb dL_law_2732 rfl (lv_at hl 1 rfl) ?_
  refine lv_aload_n hx hb dL_law_2733 rfl (lv_at hl 3 rfl) ?_
  refine lv_iload_n hx hb dL_law_2734 rfl (lv_at hl 0 rfl) ?_
  refine lv_iconst (v := 1) hx hb dL_law_2735 (by decide) ?_
  refine lv_iadd hx hb dL_law_2736 ?_
  refine th_is (w := .int 1) (by decide) ?_
  refine va_sld hx hb hat.2.2.2.2.2.2.1 hat.2.2.2.2.2.2.2.1 (law_nb hat) hS.2.1 (i := 1) (by rw [hL]; exact vp_in_iff.mpr (by decide +kernel)) dL_law_2737 ?_
  refine th_is (w := .int (xs 1)) (congrArg (fun j => Value.int (xs j)) (by decide)) ?_
  refine th_goi (th_runV (As := [.int (xs 1)]) (rest := [.int r6134]) C hS.1 (RX12, TX12, 151) rfl gV_RL_274 FMh.1 (t_X12_count rfl FMh) hl rfl rfl rfl rfl ⟨Nat.le_of_ble_eq_true rfl, Nat.le_of_ble_eq_true rfl⟩ (Nat.le_of_ble_eq_true rfl) ⟨Nat.le_of_ble_eq_true rfl, Nat.le_of_ble_eq_true rfl⟩ dL_law_2738) (fun r6136 hq6137 => ?_)
  refine th_icmp_eq (X := r6134.toInt) (Y := r6136.toInt) (tgt := 2746) hx hb dL_law_2741 (by decide) rfl rfl (fun c6138 => ?_) (fun c6138 => absurd (by rcases hq6135 with ⟨_, b1⟩ | ⟨_, b1⟩ | ⟨_, b1⟩ <;> rcases hq6137 with ⟨_, b2⟩ | ⟨_, b2⟩ | ⟨_, b2⟩ <;> first | exact b1.trans b2.symm | (exfalso; omega)) c6138)
  exact law_next hat hKN (Nat.le_of_eq hL) hS (lv_sub hl [0, 3] rfl) (Nat.le_of_ble_eq_true rfl) (Nat.le_of_ble_eq_true rfl)
