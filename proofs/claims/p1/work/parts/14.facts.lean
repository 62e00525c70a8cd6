def FX (K : Kmap) (V : Vmap) (x : Nat) : Prop := ∃ la he gr wa fd co sd lw rd se st pa pl t1 t2 t3 t4 t5 t6 c6 t7 c7 sp su : Nat, K x = some (0, 10) ∧ V x 0 = .ref la ∧ K la = some (0, 0) ∧ V la 0 = .int 0 ∧ V la 3 = .int 8 ∧ V la 4 = .int 8 ∧ V la 5 = .ref he ∧ K he = some (1, 144) ∧ V la 6 = .ref gr ∧ K gr = some (1, 144) ∧ V la 7 = .ref wa ∧ K wa = some (1, 144) ∧ V la 8 = .ref fd ∧ K fd = some (1, 144) ∧ V la 9 = .ref co ∧ K co = some (1, 48) ∧ V la 10 = .ref sd ∧ K sd = some (1, 4) ∧ V x 1 = .ref lw ∧ K lw = some (0, 1) ∧ V lw 1 = .int 0 ∧ V lw 2 = .ref rd ∧ K rd = some (0, 7) ∧ V rd 3 = .int 0 ∧ V x 2 = .ref se ∧ K se = some (0, 5) ∧ V se 0 = .ref st ∧ K st = some (0, 7) ∧ V st 3 = .int 0 ∧ V x 3 = .ref pa ∧ K pa = some (5, 9) ∧ V x 4 = .int 0 ∧ V x 5 = .ref pl ∧ K pl = some (6, 60) ∧ V x 6 = .int 0 ∧ V x 8 = .int 0 ∧ V x 10 = .int 0 ∧ V x 11 = .ref t1 ∧ K t1 = some (0, 7) ∧ V t1 3 = .int 0 ∧ V x 12 = .ref t2 ∧ K t2 = some (0, 7) ∧ V t2 3 = .int 0 ∧ V x 13 = .ref t3 ∧ K t3 = some (0, 7) ∧ V t3 3 = .int 0 ∧ V x 14 = .ref t4 ∧ K t4 = some (0, 7) ∧ V t4 3 = .int 0 ∧ V x 15 = .ref t5 ∧ K t5 = some (0, 7) ∧ V t5 3 = .int 0 ∧ V x 16 = .ref t6 ∧ K t6 = some (0, 7) ∧ V t6 0 = .int 1 ∧ V t6 1 = .int 7 ∧ V t6 2 = .ref c6 ∧ K c6 = some (1, 7) ∧ V t6 3 = .int 0 ∧ V x 17 = .ref t7 ∧ K t7 = some (0, 7) ∧ V t7 0 = .int 1 ∧ V t7 1 = .int 400 ∧ V t7 2 = .ref c7 ∧ K c7 = some (1, 400) ∧ V t7 3 = .int 0 ∧ V x 18 = .ref sp ∧ K sp = some (1, 11) ∧ V x 19 = .ref su ∧ K su = some (2, 8) ∧ ∀ j, V su j = .long 0
theorem FX.moved {K K1 : Kmap} {V V1 : Vmap} {x : Nat} (F : FX K V x) (hE : ∀ a k, K a = some k → K1 a = some k) (hF : ∀ b k, K b = some k → k ≠ (0, 11) → V1 b = V b) : FX K1 V1 x := by
  obtain ⟨la, he, gr, wa, fd, co, sd, lw, rd, se, st, pa, pl, t1, t2, t3, t4, t5, t6, c6, t7, c7, sp, su, h0, h1, h2, h3, h4, h5, h6, h7, h8, h9, h10, h11, h12, h13, h14, h15, h16, h17, h18, h19, h20, h21, h22, h23, h24, h25, h26, h27, h28, h29, h30, h31, h32, h33, h34, h35, h36, h37, h38, h39, h40, h41, h42, h43, h44, h45, h46, h47, h48, h49, h50, h51, h52, h53, h54, h55, h56, h57, h58, h59, h60, h61, h62, h63, h64, h65, h66, h67, h68, h69, h70⟩ := F
  exact ⟨la, he, gr, wa, fd, co, sd, lw, rd, se, st, pa, pl, t1, t2, t3, t4, t5, t6, c6, t7, c7, sp, su, hE _ _ h0, (congrFun (hF _ _ h0 (by decide)) _).trans h1, hE _ _ h2, (congrFun (hF _ _ h2 (by decide)) _).trans h3, (congrFun (hF _ _ h2 (by decide)) _).trans h4, (congrFun (hF _ _ h2 (by decide)) _).trans h5, (congrFun (hF _ _ h2 (by decide)) _).trans h6, hE _ _ h7, (congrFun (hF _ _ h2 (by decide)) _).trans h8, hE _ _ h9, (congrFun (hF _ _ h2 (by decide)) _).trans h10, hE _ _ h11, (congrFun (hF _ _ h2 (by decide)) _).trans h12, hE _ _ h13, (congrFun (hF _ _ h2 (by decide)) _).trans h14, hE _ _ h15, (congrFun (hF _ _ h2 (by decide)) _).trans h16, hE _ _ h17, (congrFun (hF _ _ h0 (by decide)) _).trans h18, hE _ _ h19, (congrFun (hF _ _ h19 (by decide)) _).trans h20, (congrFun (hF _ _ h19 (by decide)) _).trans h21, hE _ _ h22, (congrFun (hF _ _ h22 (by decide)) _).trans h23, (congrFun (hF _ _ h0 (by decide)) _).trans h24, hE _ _ h25, (congrFun (hF _ _ h25 (by decide)) _).trans h26, hE _ _ h27, (congrFun (hF _ _ h27 (by decide)) _).trans h28, (congrFun (hF _ _ h0 (by decide)) _).trans h29, hE _ _ h30, (congrFun (hF _ _ h0 (by decide)) _).trans h31, (congrFun (hF _ _ h0 (by decide)) _).trans h32, hE _ _ h33, (congrFun (hF _ _ h0 (by decide)) _).trans h34, (congrFun (hF _ _ h0 (by decide)) _).trans h35, (congrFun (hF _ _ h0 (by decide)) _).trans h36, (congrFun (hF _ _ h0 (by decide)) _).trans h37, hE _ _ h38, (congrFun (hF _ _ h38 (by decide)) _).trans h39, (congrFun (hF _ _ h0 (by decide)) _).trans h40, hE _ _ h41, (congrFun (hF _ _ h41 (by decide)) _).trans h42, (congrFun (hF _ _ h0 (by decide)) _).trans h43, hE _ _ h44, (congrFun (hF _ _ h44 (by decide)) _).trans h45, (congrFun (hF _ _ h0 (by decide)) _).trans h46, hE _ _ h47, (congrFun (hF _ _ h47 (by decide)) _).trans h48, (congrFun (hF _ _ h0 (by decide)) _).trans h49, hE _ _ h50, (congrFun (hF _ _ h50 (by decide)) _).trans h51, (congrFun (hF _ _ h0 (by decide)) _).trans h52, hE _ _ h53, (congrFun (hF _ _ h53 (by decide)) _).trans h54, (congrFun (hF _ _ h53 (by decide)) _).trans h55, (congrFun (hF _ _ h53 (by decide)) _).trans h56, hE _ _ h57, (congrFun (hF _ _ h53 (by decide)) _).trans h58, (congrFun (hF _ _ h0 (by decide)) _).trans h59, hE _ _ h60, (congrFun (hF _ _ h60 (by decide)) _).trans h61, (congrFun (hF _ _ h60 (by decide)) _).trans h62, (congrFun (hF _ _ h60 (by decide)) _).trans h63, hE _ _ h64, (congrFun (hF _ _ h60 (by decide)) _).trans h65, (congrFun (hF _ _ h0 (by decide)) _).trans h66, hE _ _ h67, (congrFun (hF _ _ h0 (by decide)) _).trans h68, hE _ _ h69, fun j => (congrFun (hF _ _ h69 (by decide)) j).trans (h70 j)⟩
theorem FX.kind {K : Kmap} {V : Vmap} {x : Nat} (F : FX K V x) : K x = some (0, 10) := by
  obtain ⟨la, he, gr, wa, fd, co, sd, lw, rd, se, st, pa, pl, t1, t2, t3, t4, t5, t6, c6, t7, c7, sp, su, h0, h1, h2, h3, h4, h5, h6, h7, h8, h9, h10, h11, h12, h13, h14, h15, h16, h17, h18, h19, h20, h21, h22, h23, h24, h25, h26, h27, h28, h29, h30, h31, h32, h33, h34, h35, h36, h37, h38, h39, h40, h41, h42, h43, h44, h45, h46, h47, h48, h49, h50, h51, h52, h53, h54, h55, h56, h57, h58, h59, h60, h61, h62, h63, h64, h65, h66, h67, h68, h69, h70⟩ := F
  exact h0
def mrefs : List (Nat × Nat × Nat) := [(5, (1, 144)), (6, (1, 144)), (7, (1, 144)), (8, (1, 144)), (11, (1, 9)), (12, (1, 9)), (13, (1, 60)), (14, (1, 60)), (15, (1, 60)), (16, (1, 60)), (17, (1, 60)), (18, (1, 60)), (19, (1, 60)), (20, (1, 60)), (21, (1, 60)), (22, (1, 60)), (23, (1, 240)), (24, (1, 60)), (25, (1, 60)), (26, (1, 600)), (27, (1, 600)), (28, (4, 60)), (29, (3, 400)), (39, (1, 220)), (40, (1, 220)), (41, (1, 12)), (42, (1, 12)), (43, (1, 12)), (44, (1, 12)), (45, (1, 12)), (46, (1, 12)), (49, (1, 4400)), (50, (1, 20)), (51, (1, 20)), (52, (1, 20)), (53, (1, 240)), (54, (1, 240)), (55, (1, 240)), (56, (1, 240)), (57, (1, 240)), (58, (1, 240)), (59, (1, 180)), (60, (1, 2200)), (61, (1, 20)), (62, (1, 20)), (63, (1, 20)), (64, (4, 20)), (65, (4, 240)), (67, (1, 100)), (68, (1, 100)), (69, (1, 100)), (70, (1, 100)), (71, (1, 100)), (72, (1, 100)), (73, (1, 100)), (74, (1, 100)), (75, (1, 100)), (76, (1, 100)), (77, (1, 100)), (78, (1, 100)), (79, (1, 100)), (80, (1, 900)), (81, (1, 220)), (94, (1, 10)), (95, (1, 10)), (96, (1, 10)), (97, (1, 10)), (98, (1, 10)), (99, (1, 10)), (100, (1, 10)), (101, (1, 10)), (102, (1, 10)), (103, (1, 10)), (104, (1, 10)), (105, (1, 48)), (106, (1, 4)), (107, (1, 40)), (108, (1, 40)), (109, (1, 40)), (110, (1, 40)), (111, (4, 40)), (112, (1, 60)), (113, (1, 60)), (114, (1, 60)), (115, (1, 60)), (116, (1, 60)), (117, (1, 144)), (121, (1, 60)), (122, (1, 480)), (123, (1, 480)), (124, (1, 10)), (125, (1, 10)), (126, (1, 10)), (127, (1, 10)), (128, (1, 200)), (129, (1, 200)), (130, (1, 200)), (131, (1, 200)), (132, (1, 200)), (134, (1, 7)), (135, (4, 63)), (136, (4, 441)), (139, (1, 8)), (140, (1, 8)), (141, (1, 24)), (142, (1, 24)), (143, (1, 8)), (144, (1, 8)), (146, (1, 200)), (147, (1, 200)), (148, (1, 200)), (149, (1, 200)), (150, (4, 200))]
def mints : List (Nat × Int32) := [(0, 8), (1, 8), (2, 0), (9, 0), (10, 0), (30, 0), (31, 0), (32, 0), (33, 0), (34, 0), (35, 0), (36, 0), (37, 0), (38, 0), (47, 0), (48, 0), (66, 0), (82, 0), (91, 0), (92, 0), (93, 0), (118, 0), (119, 100), (120, 0), (133, 0), (137, 0), (138, 0), (145, 0)]
def mlongs : List Nat := [83, 84, 85, 86, 87, 88, 89, 90]
def FM (K : Kmap) (V : Vmap) (x : Nat) : Prop := K x = some (0, 11) ∧ (∀ r ∈ mrefs, ∃ q, V x r.1 = .ref q ∧ K q = some r.2) ∧ (∀ r ∈ mints, V x r.1 = .int r.2) ∧ ∀ k ∈ mlongs, V x k = .long 0
def MI (K0 : Kmap) (V0 : Vmap) (K : Kmap) (V : Vmap) (x : Nat) (done : List (Nat × Nat × Nat)) (vals : List (Nat × Value)) (wr : List Nat) : Prop :=
  K x = some (0, 11) ∧ (∀ r ∈ done, ∃ q, V x r.1 = .ref q ∧ K q = some r.2 ∧ K0 q = none) ∧ (∀ r ∈ vals, V x r.1 = r.2) ∧ (∀ k, k ∉ wr → V x k = defaultValue (tyX12 k)) ∧ (∀ b, K0 b ≠ none → b ≠ x → V b = V0 b) ∧ ∀ a k, K0 a = some k → K a = some k
theorem MI.kx {K0 K K1 : Kmap} {V0 V : Vmap} {x q : Nat} {kd : Nat × Nat} {done : List (Nat × Nat × Nat)} {vals : List (Nat × Value)} {wr : List Nat} (h : MI K0 V0 K V x done vals wr) (hq : K q = none) (hK : K1 = updK K q kd) : K1 x = some (0, 11) := by
  rw [hK, updK_ne (K_old h.1 hq)]; exact h.1
theorem MI.newput {K0 K K1 : Kmap} {V0 V V1 V2 : Vmap} {x q k : Nat} {kd : Nat × Nat} {done : List (Nat × Nat × Nat)} {vals : List (Nat × Value)} {wr : List Nat} (h : MI K0 V0 K V x done vals wr) (hq : K q = none) (hK : K1 = updK K q kd) (hVo : ∀ b, b ≠ q → V1 b = V b) (hV : V2 = upd2 V1 x k (.ref q)) (hd : done.all (fun r => r.1 != k) = true) (hv : vals.all (fun r => r.1 != k) = true) : MI K0 V0 K1 V2 x ((k, kd) :: done) vals (k :: wr) := by
  obtain ⟨h1, h2, h3, h4, h5, h6⟩ := h
  have hxq : x ≠ q := K_old h1 hq
  have hK0q : K0 q = none := by
    cases e : K0 q with
    | none => rfl
    | some kk => rw [h6 q kk e] at hq; cases hq
  have hE : ∀ a kk, K a = some kk → K1 a = some kk := fun a kk ha => by rw [hK, updK_ne (K_old ha hq)]; exact ha
  have hx : ∀ j, j ≠ k → V2 x j = V x j := fun j hj => by rw [hV, upd2_ne (Or.inr hj), hVo x hxq]
  refine ⟨hE _ _ h1, fun r hr => ?_, fun r hr => ?_, fun j hj => ?_, fun b hb hbx => ?_, fun a kk ha => hE a kk (h6 a kk ha)⟩
  · rcases List.mem_cons.mp hr with rfl | hr
    · exact ⟨q, by rw [hV]; exact upd2_same _ _ _ _, by rw [hK]; exact updK_same, hK0q⟩
    · obtain ⟨q2, e1, e2, e3⟩ := h2 r hr
      have hne : r.1 ≠ k := by simpa using List.all_eq_true.mp hd r hr
      exact ⟨q2, by rw [hx _ hne]; exact e1, hE _ _ e2, e3⟩
  · have hne : r.1 ≠ k := by simpa using List.all_eq_true.mp hv r hr
    rw [hx _ hne]; exact h3 r hr
  · have h7 : j ≠ k ∧ j ∉ wr := by simpa using hj
    rw [hx _ h7.1]; exact h4 j h7.2
  · rw [hV, upd2_other hbx, hVo b (th_bold hb hK0q)]
    exact h5 b hb hbx
theorem MI.put {K0 K : Kmap} {V0 V V2 : Vmap} {x k : Nat} {v : Value} {done : List (Nat × Nat × Nat)} {vals : List (Nat × Value)} {wr : List Nat} (h : MI K0 V0 K V x done vals wr) (hV : V2 = upd2 V x k v) (hd : done.all (fun r => r.1 != k) = true) (hv : vals.all (fun r => r.1 != k) = true) : MI K0 V0 K V2 x done ((k, v) :: vals) (k :: wr) := by
  obtain ⟨h1, h2, h3, h4, h5, h6⟩ := h
  have hx : ∀ j, j ≠ k → V2 x j = V x j := fun j hj => by rw [hV, upd2_ne (Or.inr hj)]
  refine ⟨h1, fun r hr => ?_, fun r hr => ?_, fun j hj => ?_, fun b hb hbx => ?_, h6⟩
  · obtain ⟨q2, e1, e2⟩ := h2 r hr
    have hne : r.1 ≠ k := by simpa using List.all_eq_true.mp hd r hr
    exact ⟨q2, by rw [hx _ hne]; exact e1, e2⟩
  · rcases List.mem_cons.mp hr with rfl | hr
    · rw [hV]; exact upd2_same _ _ _ _
    · have hne : r.1 ≠ k := by simpa using List.all_eq_true.mp hv r hr
      rw [hx _ hne]; exact h3 r hr
  · have h7 : j ≠ k ∧ j ∉ wr := by simpa using hj
    rw [hx _ h7.1]; exact h4 j h7.2
  · rw [hV, upd2_other hbx]
    exact h5 b hb hbx
theorem MI.begins {K0 K : Kmap} {V0 V V2 : Vmap} {x a b c d : Nat} {v w : Value} {done : List (Nat × Nat × Nat)} {vals : List (Nat × Value)} {wr : List Nat} (h : MI K0 V0 K V x done vals wr) (hF : ∀ q, K q ≠ none → q ≠ x → q ≠ a → q ≠ b → q ≠ c → q ≠ d → V2 q = V q) (ha : K0 a = none) (hb : K0 b = none) (hc : K0 c = none) (hd0 : K0 d = none) (hv0 : V2 x 0 = v) (hv1 : V2 x 1 = w) (hQ : ∀ k, k ≠ 0 → k ≠ 1 → V2 x k = V x k) (hd : done.all (fun r => r.1 != 0 && r.1 != 1) = true) (hv : vals.all (fun r => r.1 != 0 && r.1 != 1) = true) : MI K0 V0 K V2 x done ((0, v) :: (1, w) :: vals) (0 :: 1 :: wr) := by
  obtain ⟨h1, h2, h3, h4, h5, h6⟩ := h
  refine ⟨h1, fun r hr => ?_, fun r hr => ?_, fun j hj => ?_, fun q hq hqx => ?_, h6⟩
  · obtain ⟨q2, e1, e2⟩ := h2 r hr
    have hne : r.1 ≠ 0 ∧ r.1 ≠ 1 := by simpa using List.all_eq_true.mp hd r hr
    exact ⟨q2, by rw [hQ _ hne.1 hne.2]; exact e1, e2⟩
  · rcases List.mem_cons.mp hr with rfl | hr
    · exact hv0
    · rcases List.mem_cons.mp hr with rfl | hr
      · exact hv1
      · have hne : r.1 ≠ 0 ∧ r.1 ≠ 1 := by simpa using List.all_eq_true.mp hv r hr
        rw [hQ _ hne.1 hne.2]; exact h3 r hr
  · have h7 : j ≠ 0 ∧ j ≠ 1 ∧ j ∉ wr := by simpa using hj
    rw [hQ _ h7.1 h7.2.1]; exact h4 j h7.2.2
  · have hqK : K q ≠ none := th_some h6 hq
    rw [hF q hqK hqx (th_bold hq ha) (th_bold hq hb) (th_bold hq hc) (th_bold hq hd0)]
    exact h5 q hq hqx
theorem MI.row {K0 K : Kmap} {V0 V V2 : Vmap} {x : Nat} {done : List (Nat × Nat × Nat)} {vals : List (Nat × Value)} {wr : List Nat} (h : MI K0 V0 K V x done vals wr) (hx : K0 x = some (0, 11)) (hF : ∀ b, K0 b ≠ none → V2 b = V b) : MI K0 V0 K V2 x done vals wr := by
  obtain ⟨h1, h2, h3, h4, h5, h6⟩ := h
  have e : V2 x = V x := hF x (by rw [hx]; exact fun h => by cases h)
  exact ⟨h1, fun r hr => by rw [e]; exact h2 r hr, fun r hr => by rw [e]; exact h3 r hr, fun k hk => by rw [e]; exact h4 k hk, fun b hb hbx => (hF b hb).trans (h5 b hb hbx), h6⟩
theorem MI.fm {K0 K : Kmap} {V0 V : Vmap} {x : Nat} {done : List (Nat × Nat × Nat)} {vals : List (Nat × Value)} {wr : List Nat} (h : MI K0 V0 K V x done vals wr) (hr : ∀ r ∈ mrefs, r ∈ done) (hi : ∀ r ∈ mints, (r.1, Value.int r.2) ∈ vals ∨ (r.1 ∉ wr ∧ defaultValue (tyX12 r.1) = .int r.2)) (hl : ∀ k ∈ mlongs, k ∉ wr ∧ defaultValue (tyX12 k) = .long 0) : FM K V x := by
  obtain ⟨h1, h2, h3, h4, h5, h6⟩ := h
  refine ⟨h1, fun r hm => ?_, fun r hm => ?_, fun k hk => ?_⟩
  · obtain ⟨q, e1, e2, -⟩ := h2 r (hr r hm)
    exact ⟨q, e1, e2⟩
  · rcases hi r hm with h | ⟨h, e⟩
    · exact h3 _ h
    · rw [h4 _ h, e]
  · rw [h4 _ (hl k hk).1, (hl k hk).2]
/-- the model's memory stays where its row stays -/
theorem FM.moved {K K1 : Kmap} {V V1 : Vmap} {x : Nat} (F : FM K V x) (hE : ∀ a k, K a = some k → K1 a = some k) (hF : V1 x = V x) : FM K1 V1 x := by
  obtain ⟨h1, h2, h3, h4⟩ := F
  refine ⟨hE _ _ h1, fun r hr => ?_, fun r hr => ?_, fun k hk => ?_⟩
  · obtain ⟨q, e1, e2⟩ := h2 r hr
    exact ⟨q, by rw [hF]; exact e1, hE _ _ e2⟩
  · rw [hF]; exact h3 r hr
  · rw [hF]; exact h4 k hk
