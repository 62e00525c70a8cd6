section GOC
variable {M : MRec} {K0 : Kmap} {V0 : Vmap} {Φ : Option Value → Kmap → Vmap → Prop} {K : Kmap} {V : Vmap} {cells slots pc : Nat} {ls : List (Option Value)} {st : List Value}
def pushR (r : Option Value) (st : List Value) : List Value := match r with
  | none => st
  | some v => v :: st
/-- the callee's room fits -/
def fitsR (M N : MRec) (cells slots : Nat) : Bool := Nat.ble (m_fr N + 1) (m_fr M) && (Nat.ble (8 + (m_nL N + 11) + m_lo N) (m_lo M) && (Nat.ble (cells + m_mc N) (m_mc M) && Nat.ble (slots + m_ms N) (m_ms M)))
theorem fits_use {M N : MRec} {cells slots : Nat} (h : fitsR M N cells slots = true) : (m_fr N + 1 ≤ m_fr M ∧ 8 + (m_nL N + 11) + m_lo N ≤ m_lo M) ∧ cells + m_mc N ≤ m_mc M ∧ slots + m_ms N ≤ m_ms M := by
  obtain ⟨h1, h⟩ := le_and h
  obtain ⟨h2, h⟩ := le_and h
  obtain ⟨h3, h4⟩ := le_and h
  exact ⟨⟨Nat.le_of_ble_eq_true h1, Nat.le_of_ble_eq_true h2⟩, Nat.le_of_ble_eq_true h3, Nat.le_of_ble_eq_true h4⟩
/-- few values below on the stack -/
def lowS (st : List Value) : Prop := (st.map fun v => v.category).sum ≤ 8
section RUN
variable {p : Program} {l : Launch} {e : Env} {R : Room} {s : State} {m : MethodId} {args : Array Value} {below : List Frame} {meth : Method} {c : Code} {H : Heap} {locs : List Loc} {Q : State → Prop} {D : va_G} {dA : Nat → ClassId} {lsA : Array Slot}
theorem th_go {N : MRec} {Ψ : Option Value → Kmap → Vmap → Prop} {st0 rest : List Value} {aa : Array Value} {mc ms : Nat} (hS0 : SG D dA K0 s.heap K V H locs)
    (hr : va_Run p l e R s m args below meth c H locs cells slots mc ms (F0 m pc lsA st0) rest (HQ D dA K V (m_ws N) Ψ aa) (AK K H.size))
    (kk : ∀ (r : Option Value) (K1 : Kmap) (V1 : Vmap) (H1 : Heap) (locs1 : List Loc), Ψ r K1 V1 → ext K K1 → WT K1 V1 → FR (m_ws N) K V K1 V1 → SG D dA K0 s.heap K1 V1 H1 locs1 → W p l e R s m args below meth c H1 locs1 (cells + mc) (slots + ms) Q (F0 m (pc + 3) lsA (pushR r rest))) : W p l e R s m args below meth c H locs cells slots Q (F0 m pc lsA st0) := by
  intro T hT X
  obtain ⟨v, st₀, t, T', L, h0, X', hL, e1, e2, ⟨⟨r, K1, V1, hv, hp, hW, hF, hR, hK, hA⟩, hFr⟩, st⟩ := hr T hT X
  cases hv
  obtain ⟨t2, a1, b1⟩ := kk v K1 V1 t.heap _ hp hK hW hF (hS0.call h0 hR hK hA hFr (by rw [h0]; exact hL)) T' e1 X'
  refine ⟨t2, st t2 ?_, b1⟩
  cases v <;> exact a1
end RUN
theorem PX.at {D : va_G} {dA : Nat → ClassId} {s : State} {H : Heap} {av : List Value} (hK : KN D dA s) (hR : Rep D dA K V H) (hS : SF K s H) : ∀ U : State, U.heap = H → s.WarmedH U.vm → PX D dA K V H.size av av.toArray U := fun U hU hW => ⟨PC.at hK hR U hU hW, by rw [hU]; exact hS.moved hW⟩
theorem GO.callS {N : MRec} {n index : Nat} {As : List Value} {Ψ : Option Value → Kmap → Vmap → Prop} (d : Dc M pc (.invokestatic index) 3) (hG : GS (m_own M) index (m_y N) (m_cc N) (m_nL N) (m_rt N) n) (hM : MC N K V As Ψ) (hn : As.length = n) (rest : List Value) (hst : st = As.reverse ++ rest) (hR : fitsR M N cells slots = true) (hl : lowS rest) (hs : subW (m_ws N) (m_ws M) = true)
    (kk : ∀ (r : Option Value) (K1 : Kmap) (V1 : Vmap), Ψ r K1 V1 → ext K K1 → FR (m_ws N) K V K1 V1 → GO M K0 V0 Φ K1 V1 (cells + m_mc N) (slots + m_ms N) (pc + 3) ls (pushR r rest)) : GO M K0 V0 Φ K V cells slots pc ls st := fun p l e s m args below meth c D dA H locs lsA C hn1 S hW hF hS hL => by
  obtain ⟨hx0, hb, hml, -, -, hown, hts, hKN⟩ := id C
  have hf := fits_use hR
  refine th_go (N := N) S (va_runS ⟨hx0, hb, hml, hown, hts⟩ (hM hW l D dA H.size) (va_cwS n hts hG.1 rfl rfl rfl hG.2 hf.1) ⟨PX.blind, PX.at hKN S.1 (hS.next S)⟩ rfl hn hL.1 hst (lv_room hl) d hf.2) (fun r K1 V1 H1 locs1 hp hK hW1 hF1 S1 => ?_)
  exact kk r K1 V1 hp hK hF1 p l e s m args below meth c D dA H1 locs1 lsA C hn1 S1 hW1 (hF.call S.2.2.2 hK hs hF1) hS hL
theorem GO.callV {N : MRec} {n index x ci : Nat} {As : List Value} {Ψ : Option Value → Kmap → Vmap → Prop} (d : Dc M pc (.invokevirtual index) 3) (T : vw_C) (hc : TCl[ci]? = some T) (hG : GV (m_own M) index T.1 (m_y N) (m_cc N) (m_nL N) (m_rt N) n) (hx : K x = some (0, ci)) (hM : MC N K V (.ref x :: As) Ψ) (hn : As.length = n) (rest : List Value) (hst : st = As.reverse ++ .ref x :: rest) (hR : fitsR M N cells slots = true) (hl : lowS rest) (hs : subW (m_ws N) (m_ws M) = true)
    (kk : ∀ (r : Option Value) (K1 : Kmap) (V1 : Vmap), Ψ r K1 V1 → ext K K1 → FR (m_ws N) K V K1 V1 → GO M K0 V0 Φ K1 V1 (cells + m_mc N) (slots + m_ms N) (pc + 3) ls (pushR r rest)) : GO M K0 V0 Φ K V cells slots pc ls st := fun p l e s m args below meth c D dA H locs lsA C hn1 S hW hF hS hL => by
  obtain ⟨hx0, hb, hml, -, -, hown, hts, hKN⟩ := id C
  have hf := fits_use hR
  obtain ⟨r', hr', cellV, g1, g2, g3, -⟩ := S.1 x _ hx
  have hcls := (hKN.1.1 ci T hc).2
  refine th_go (N := N) S (va_runV ⟨hx0, hb, hml, hown, hts⟩ (hM hW l D dA H.size) (cwV n hts hG.1 rfl rfl rfl hG.2 hf.1) ⟨PX.blind, ⟨cellV, g1, by rw [g3]; rfl, by rw [g2]; exact hcls.1⟩, PX.at hKN S.1 (hS.next S)⟩ rfl hn hL.1 hst (lv_room hl) d hf.2) (fun r K1 V1 H1 locs1 hp hK hW1 hF1 S1 => ?_)
  exact kk r K1 V1 hp hK hF1 p l e s m args below meth c D dA H1 locs1 lsA C hn1 S1 hW1 (hF.call S.2.2.2 hK hs hF1) hS hL
theorem GO.callI {N : MRec} {n index x : Nat} {As : List Value} {Ψ : Option Value → Kmap → Vmap → Prop} (d : Dc M pc (.invokespecial index) 3) (hG : GI (m_own M) index (m_y N) (m_cc N) (m_nL N) n) (hrt : m_rt N = none) (hM : MC N K V (.ref x :: As) Ψ) (hn : As.length = n) (rest : List Value) (hst : st = As.reverse ++ .ref x :: rest) (hR : fitsR M N cells slots = true) (hl : lowS rest) (hs : subW (m_ws N) (m_ws M) = true)
    (kk : ∀ (r : Option Value) (K1 : Kmap) (V1 : Vmap), Ψ r K1 V1 → ext K K1 → FR (m_ws N) K V K1 V1 → GO M K0 V0 Φ K1 V1 (cells + m_mc N) (slots + m_ms N) (pc + 3) ls (pushR r rest)) : GO M K0 V0 Φ K V cells slots pc ls st := fun p l e s m args below meth c D dA H locs lsA C hn1 S hW hF hS hL => by
  obtain ⟨hx0, hb, hml, -, -, hown, hts, hKN⟩ := id C
  have hf := fits_use hR
  have hM1 := hM hW l D dA H.size
  rw [hrt] at hM1
  refine th_go (N := N) S (va_runI ⟨hx0, hb, hml, hown, hts⟩ hM1 (cwI n hts hG.1 rfl rfl rfl (hts _ hG.2.1) (hts _ hG.2.2.1) (hts _ hG.2.2.2.1) hG.2.2.2.2.1 hG.2.2.2.2.2 hf.1) ⟨PX.blind, PX.at hKN S.1 (hS.next S)⟩ rfl hn hL.1 hst (lv_room hl) d hf.2) (fun r K1 V1 H1 locs1 hp hK hW1 hF1 S1 => ?_)
  exact kk r K1 V1 hp hK hF1 p l e s m args below meth c D dA H1 locs1 lsA C hn1 S1 hW1 (hF.call S.2.2.2 hK hs hF1) hS hL
theorem GO.objInit {a index : Nat} (d : Dc M pc (.invokespecial index) 3) (h1 : Cond.methodLink (m_own M) index Lib.objectInit ∈ gw) (h2 : Cond.instanceMethod Lib.objectInit ∈ gw) (h3 : Cond.code Lib.objectInit ⟨#[0xb1]⟩ 1 none ∈ gw) (hR : (Nat.ble 1 (m_fr M) && Nat.ble 12 (m_lo M)) = true) (hst : st = []) (kk : GO M K0 V0 Φ K V cells slots (pc + 3) ls st) : GO M K0 V0 Φ K V cells slots pc ls (.ref a :: st) := fun p l e s m args below meth c D dA H locs lsA C hn S hW hF hS hL => by
  subst hst
  have hR := le_and hR
  have h9 := Nat.le_of_ble_eq_true hR.2
  have h8 := kk p l e s m args below meth c D dA H locs lsA C hn S hW hF hS hL
  obtain ⟨hx, hb, hml, -, -, hown, hts, hKN⟩ := C
  exact W.objInit hx hb hown (hts _ h1) (hts _ h2) (hts _ h3) (g := F0 m pc lsA [.ref a]) rfl (hL.1.trans hml.symm) rfl d (Nat.le_of_ble_eq_true hR.1) (by show _ + 12 ≤ m_lo M; simpa using h9) h8
/-- a raw object becomes whole -/
theorem GO.promote {x ci : Nat} (hc : Nat.ble (ci + 1) 12 = true) (ha : K x = some (0, ci + 12)) (hf : ∀ j, j < szK (0, ci) → okv K (fT (0, ci) j) (V x j)) (kk : ∀ K1 : Kmap, K1 = updK K x (0, ci) → ext K K1 → K1 x = some (0, ci) → GO M K0 V0 Φ K1 V cells slots pc ls st) : GO M K0 V0 Φ K V cells slots pc ls st := fun p l e s m args below meth c D dA H locs lsA C hn S hW hF hS hL => by
  have hc : ci < 12 := Nat.le_of_ble_eq_true hc
  have hE : ext K (updK K x (0, ci)) := fun a k h => by
    by_cases hax : a = x
    · subst hax
      rw [ha] at h; cases h
      exact Or.inr ⟨ci + 12, ci, by omega, rfl, Or.inl hc, updK_same⟩
    · exact Or.inl (by rw [updK_ne hax]; exact h)
  have hD := C.2.2.2.2.2.2.2.2.2.2.2.1 ci hc
  have hT : TCl[ci + 12]? = TCl[ci]? := (by decide +kernel : ∀ c, c < 12 → TCl[c + 12]?.map (fun r => r.2.2) = TCl[c]?.map (fun r => r.2.2)) ci hc |> fun _ => by
    match ci, hc with
    | 0, _ => rfl
    | 1, _ => rfl
    | 2, _ => rfl
    | 3, _ => rfl
    | 4, _ => rfl
    | 5, _ => rfl
    | 6, _ => rfl
    | 7, _ => rfl
    | 8, _ => rfl
    | 9, _ => rfl
    | 10, _ => rfl
    | 11, _ => rfl
    | n + 12, h => omega
  refine kk _ rfl hE updK_same p l e s m args below meth c D dA H locs lsA C hn ⟨fun a k hk => ?_, S.2.1, fun a k hk => ?_, S.2.2.2.tr hE⟩ (fun a kd hk => ?_) (fun a kd j h0 h1 hb => ?_) hS hL
  · by_cases hax : a = x
    · subst hax
      rw [updK_same] at hk; cases hk
      obtain ⟨r, h1, h2⟩ := S.1 a _ ha
      exact ⟨r, hT ▸ h1, by rw [← hD.1, ← hD.2]; exact h2⟩
    · rw [updK_ne hax] at hk
      exact S.1 a k hk
  · by_cases hax : a = x
    · subst hax; exact S.2.2.1 a _ ha
    · rw [updK_ne hax] at hk
      exact S.2.2.1 a k hk
  · by_cases hax : a = x
    · subst hax
      rw [updK_same] at hk; cases hk
      exact ⟨trivial, fun j hj => (hf j hj).ext hE (fT_clean _ _)⟩
    · rw [updK_ne hax] at hk
      exact ⟨(hW a kd hk).1, fun j hj => ((hW a kd hk).2 j hj).ext hE (fT_clean _ _)⟩
  · by_cases hax : a = x
    · subst hax
      rw [updK_same] at h1; cases h1
      have := S.2.2.2.obj (Or.inl hc) h0
      rw [ha] at this; cases this
    · rw [updK_ne hax] at h1
      exact hF a kd j h0 h1 hb
/-- a contract's body, from its entry -/
theorem MC.of {av : List Value} {ls0 : List (Option Value)} (hy : plainFor (m_y M) = true) (ho : (m_y M).cls = m_own M) (hlen : Nat.ble (lg_sl av).length (m_nL M) = true) (hls : ∀ j w, ls0[j]? = some (some w) → (j, w) ∈ lv_args 0 av) (body : GO M K V Φ K V 0 0 0 ls0 []) : MC M K V av Φ := by
  intro hW l D dA sz
  refine va_MetF (cc := m_cc M) (maxL := m_nL M) (ret := m_rt M) hy rfl ?_
  intro p e s m args below meth c s₁ B hml hv
  obtain ⟨⟨rfl, hsz, hK, hR⟩, hS⟩ := hv
  have hts := atoms_spec (ws := wsOf (m_y M) (m_cc M) (m_nL M) (m_rt M)) B.pre
  rw [lg_entry_eq]
  subst hsz
  exact body p l e s m _ below meth c D dA s.heap [] _ ⟨B.exec, B.bytes, hml, B.returns, B.notSynchronized, ho ▸ findClass_of_methodNamed B.named, fun w hw => hts w (List.mem_cons_of_mem _ hw), hK⟩ (name_of_methodNamed B.named B.method).1 (SG.rf hR) hW FR.rf hS (lvH.to (lv_entry av (Nat.le_of_ble_eq_true hlen)) hls)
end GOC
