/-! a clause, as it is told: its letter and where its codes begin (RC0), where they end (RC1) -/
def RC0 (V0 V : Vmap) (x : Nat) (c : Int) (i : Nat) : Prop := ar 41 V x = updf (ar 41 V0 x) i c ∧ ar 42 V x = updf (ar 42 V0 x) i (vi V0 x 36) ∧ ar 43 V x = ar 43 V0 x ∧ (∀ j, j < (vi V0 x 36).toNat → ar 39 V x j = ar 39 V0 x j) ∧ (ASK c → GSq (ar 39 V x) (vi V0 x 36).toNat (vi V x 36).toNat)
def RC1 (V0 V : Vmap) (x : Nat) (c : Int) (i : Nat) : Prop := ar 41 V x = updf (ar 41 V0 x) i c ∧ ar 42 V x = updf (ar 42 V0 x) i (vi V0 x 36) ∧ ar 43 V x = updf (ar 43 V0 x) i (vi V x 36) ∧ (∀ j, j < (vi V0 x 36).toNat → ar 39 V x j = ar 39 V0 x j) ∧ (ASK c → GSq (ar 39 V x) (vi V0 x 36).toNat (vi V x 36).toNat)
section RC
variable {V0 V Vb V1 : Vmap} {x i k fr : Nat} {c f g : Int} {S0 : Nat → Int}
theorem RC0.no (e39 : ar 39 V x = ar 39 V0 x) (e41 : ar 41 V x = updf (ar 41 V0 x) i c) (e42 : ar 42 V x = updf (ar 42 V0 x) k f) (e43 : ar 43 V x = ar 43 V0 x) (hk : k = i) (hf : f = vi V0 x 36) (hn : ASK c → False) : RC0 V0 V x c i := by
  subst hk hf
  exact ⟨e41, e42, e43, fun j _ => congrFun e39 j, fun h => (hn h).elim⟩
theorem RC0.yes (h : RF V x fr S0) (hfr : fr = (vi V0 x 36).toNat) (hS : S0 = ar 39 V0 x) (e41 : ar 41 V x = updf (ar 41 V0 x) i c) (e42 : ar 42 V x = updf (ar 42 V0 x) k f) (e43 : ar 43 V x = ar 43 V0 x) (hk : k = i) (hf : f = vi V0 x 36) : RC0 V0 V x c i := by
  subst hk hf hfr hS
  have g := h.gs
  exact ⟨e41, e42, e43, g.2.2.2.2, fun _ => g.1⟩
theorem RC1.of (h : RC0 V0 V x c i) (e39 : ar 39 V1 x = ar 39 V x) (e41 : ar 41 V1 x = ar 41 V x) (e42 : ar 42 V1 x = ar 42 V x) (e43 : ar 43 V1 x = updf (ar 43 V x) k g) (hk : k = i) (hg : g = vi V1 x 36) (e36 : vi V1 x 36 = vi V x 36) : RC1 V0 V1 x c i := by
  subst hk hg
  obtain ⟨a, b, d, e, q⟩ := h
  exact ⟨e41.trans a, e42.trans b, e43.trans (by rw [d]), fun j hj => (congrFun e39 j).trans (e j hj), fun ha => by rw [e39, e36]; exact q ha⟩
theorem RC1.eq (h : RC1 V0 V x c i) (e39 : ar 39 V1 x = ar 39 V x) (e41 : ar 41 V1 x = ar 41 V x) (e42 : ar 42 V1 x = ar 42 V x) (e43 : ar 43 V1 x = ar 43 V x) (e36 : vi V1 x 36 = vi V x 36) : RC1 V0 V1 x c i := by
  obtain ⟨a, b, d, e, q⟩ := h
  exact ⟨e41.trans a, e42.trans b, by rw [e43, d, e36], fun j hj => (congrFun e39 j).trans (e j hj), fun ha => by rw [e39, e36]; exact q ha⟩
theorem TC.rc (h : TC V0 x) (r : RC1 V0 V1 x c i) (hi : i = (vi V0 x 38).toNat) (h38 : 0 ≤ vi V0 x 38) (e38 : vi V1 x 38 = vi V0 x 38 + 1) (h0 : 0 ≤ vi V0 x 36) (hc : vi V0 x 36 ≤ vi V1 x 36) : TC V1 x := TC.mk h r.1 r.2.1 r.2.2.1 hi h38 e38 rfl rfl h0 hc r.2.2.2.1 r.2.2.2.2
end RC
