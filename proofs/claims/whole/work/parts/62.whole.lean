/-! ===== the whole relation ===== -/
def rlI (N Q : Nat) (σ τ : cb_St) : Prop := ∀ i, i < 2 → σ.1 (112 + 6 * i) 0 = τ.1 20 i ∧ (τ.1 20 i = zI 0 ∨ τ.1 20 i = zI 1) ∧ (τ.1 20 i = zI 1 → σ.1 (112 + 6 * i) 1 = τ.1 19 (52 * i + 51) ∧ (∃ a : Nat, τ.1 19 (52 * i + 51) = zI a ∧ a < 2147483648) ∧ ∃ (n ml : Nat) (pk : Nat → Nat) (hd : Nat → Int), rlP N Q σ (113 + 6 * i) (fun k => τ.1 19 (52 * i + k)) n ml pk hd)
def rlB (N Q : Nat) (σ τ : cb_St) : Prop := ∃ s w : Nat, s ≤ 6 ∧ w ≤ 15 ∧ σ.1 100 0 = zI s ∧ τ.1 0 28 = zI s ∧ σ.1 100 1 = zI w ∧ τ.1 0 35 = zI w
  ∧ (∀ i, i < s → ∃ p q r : Nat, p < Q ∧ q < Q ∧ r ≤ 2 ∧ σ.1 101 i = zI p ∧ τ.1 13 i = zI p ∧ σ.1 102 i = zI q ∧ τ.1 14 i = zI q ∧ σ.1 103 i = zI r ∧ τ.1 15 i = zI r)
  ∧ (∀ i, i < w → ∃ (p : Nat) (c : Int), p < Q ∧ -1 ≤ c ∧ c < N ∧ σ.1 104 i = zI p ∧ τ.1 17 i = zI p ∧ σ.1 105 i = zI c ∧ τ.1 18 i = zI c)
def rlR (σ τ : cb_St) : Prop := ∃ L : Nat, L ≤ 240 ∧ σ.1 3 3 = zI L ∧ τ.1 0 11 = zI L ∧ σ.1 3 2 = τ.1 0 12 ∧ ∀ i, i < L → σ.1 8 i = τ.1 4 i ∧ ∃ b : Nat, τ.1 4 i = zI b ∧ b < 256
def rlS (σ τ : cb_St) : Prop := σ.1 0 0 = τ.1 0 9 ∧ ∃ a : Nat, τ.1 0 9 = zI a ∧ a < 2147483648
def rlX (N Q : Nat) (σ τ : cb_St) : Prop := rlT N Q σ τ ∧ rlI N Q σ τ ∧ rlB N Q σ τ ∧ rlR σ τ
def Rel (σ τ : cb_St) : Prop := ∃ (N Q n ml : Nat) (pk : Nat → Nat) (hd : Nat → Int) (u x : Nat), rlX N Q σ τ ∧ rlP N Q σ 13 (τ.1 3) n ml pk hd ∧ rlU N Q σ τ u x ∧ rlS σ τ
/-- what is neither the play nor the past nor the seed stays -/
def agC (σ σ' : cb_St) : Prop := σ'.2 = σ.2 ∧ ∀ q, ((3 ≤ q ∧ q ≤ 12) ∨ (100 ≤ q ∧ q ≤ 105) ∨ (111 ≤ q ∧ q ≤ 123)) → σ'.1 q = σ.1 q
def agM (τ τ' : cb_St) : Prop := (∀ j, (j ≤ 7 ∨ j = 11 ∨ j = 12 ∨ j = 28 ∨ j = 35) → τ'.1 0 j = τ.1 0 j) ∧ ∀ q, (q = 1 ∨ q = 2 ∨ q = 4 ∨ (13 ≤ q ∧ q ≤ 15) ∨ (17 ≤ q ∧ q ≤ 20)) → τ'.1 q = τ.1 q
theorem agC_t {a b c : cb_St} (h1 : agC a b) (h2 : agC b c) : agC a c := ⟨h2.1.trans h1.1, fun q h => (h2.2 q h).trans (h1.2 q h)⟩
theorem agM_t {a b c : cb_St} (h1 : agM a b) (h2 : agM b c) : agM a c := ⟨fun j h => (h2.1 j h).trans (h1.1 j h), fun q h => (h2.2 q h).trans (h1.2 q h)⟩
theorem agC_r (a : cb_St) : agC a a := ⟨rfl, fun _ _ => rfl⟩
theorem agM_r (a : cb_St) : agM a a := ⟨fun _ _ => rfl, fun _ _ => rfl⟩
theorem mT_c {τ τ' : cb_St} (h : agM τ τ') (c d : Int) : mT τ' c d = mT τ c d := by
  unfold mT
  rw [h.2 1 (by omega), h.2 2 (by omega), h.1 3 (by omega), h.1 1 (by omega), h.1 2 (by omega)]
theorem rlT_c {N Q : Nat} {σ σ' τ τ' : cb_St} (h : rlT N Q σ τ) (hc : agC σ σ') (hm : agM τ τ') : rlT N Q σ' τ' := by
  obtain ⟨a1, a2, a3, a4, a5, a6, a7, a8, a9, a10, a11, a12, a13, a14, a15, a16⟩ := h
  have c9 := hc.2 9 (by omega)
  have c10 := hc.2 10 (by omega)
  have c11 := hc.2 11 (by omega)
  have c12 := hc.2 12 (by omega)
  have m1 := hm.2 1 (by omega)
  have m2 := hm.2 2 (by omega)
  refine ⟨a1, a2, ?_, ?_, ?_, ?_, ?_, ?_, ?_, ?_, ?_, ?_, ?_, ?_, ?_, ?_⟩
  · rw [c9]; exact a3
  · rw [hm.1 4 (by omega)]; exact a4
  · rw [c9]; exact a5
  · rw [hm.1 7 (by omega)]; exact a6
  · rw [c9, hm.1 0 (by omega)]; exact a7
  · rw [hm.1 0 (by omega)]; exact a8
  · rw [c9, hm.1 0 (by omega), hm.1 1 (by omega)]; exact a9
  · rw [c9, hm.1 0 (by omega)]; exact a10
  · rw [c9, hm.1 2 (by omega)]; exact a11
  · rw [c9, hm.1 3 (by omega)]; exact a12
  · intro i hi; rw [c10, c11, m1, m2]; exact a13 i hi
  · intro i hi; rw [m1, m2]; exact a14 i hi
  · intro c d h1 h2; rw [c12, mT_c hm]; exact a15 c d h1 h2
  · intro v hv; rw [hc.1, m1, m2]; exact a16 v hv
theorem rlX_c {N Q : Nat} {σ σ' τ τ' : cb_St} (h : rlX N Q σ τ) (hc : agC σ σ') (hm : agM τ τ') : rlX N Q σ' τ' := by
  obtain ⟨hT, hI, hB, hR⟩ := h
  have hN := hT.1
  refine ⟨rlT_c hT hc hm, ?_, ?_, ?_⟩
  · intro i hi
    obtain ⟨b1, b2, b3⟩ := hI i hi
    rw [hc.2 (112 + 6 * i) (by omega), hm.2 20 (by omega)]
    refine ⟨b1, b2, fun hk => ?_⟩
    obtain ⟨d1, d2, n, ml, pk, hd, d3⟩ := b3 hk
    rw [hm.2 19 (by omega)]
    refine ⟨d1, d2, n, ml, pk, hd, rlP_c hN d3 (fun q h1 h2 => hc.2 q (by omega)) (fun i _ => rfl)⟩
  · obtain ⟨s, w, b1, b2, b3, b4, b5, b6, b7, b8⟩ := hB
    refine ⟨s, w, b1, b2, ?_, ?_, ?_, ?_, ?_, ?_⟩
    · rw [hc.2 100 (by omega)]; exact b3
    · rw [hm.1 28 (by omega)]; exact b4
    · rw [hc.2 100 (by omega)]; exact b5
    · rw [hm.1 35 (by omega)]; exact b6
    · intro i hi
      rw [hc.2 101 (by omega), hc.2 102 (by omega), hc.2 103 (by omega), hm.2 13 (by omega), hm.2 14 (by omega), hm.2 15 (by omega)]
      exact b7 i hi
    · intro i hi
      rw [hc.2 104 (by omega), hc.2 105 (by omega), hm.2 17 (by omega), hm.2 18 (by omega)]
      exact b8 i hi
  · obtain ⟨L, b1, b2, b3, b4, b5⟩ := hR
    refine ⟨L, b1, ?_, ?_, ?_, ?_⟩
    · rw [hc.2 3 (by omega)]; exact b2
    · rw [hm.1 11 (by omega)]; exact b3
    · rw [hc.2 3 (by omega), hm.1 12 (by omega)]; exact b4
    · intro i hi; rw [hc.2 8 (by omega), hm.2 4 (by omega)]; exact b5 i hi
theorem rlU_c {N Q : Nat} (hN : N ≤ 12) {σ σ' τ τ' : cb_St} {u x : Nat} (h : rlU N Q σ τ u x) (hc : ∀ q, (q = 18 ∨ (20 ≤ q ∧ q ≤ 99)) → σ'.1 q = σ.1 q) (h22 : τ'.1 0 22 = τ.1 0 22) (h8 : τ'.1 8 = τ.1 8) : rlU N Q σ' τ' u x := by
  obtain ⟨a1, a2, a3, a4, a5, a6⟩ := h
  refine ⟨a1, a2, by rw [hc 18 (by omega)]; exact a3, by rw [h22]; exact a4, by rw [hc 18 (by omega)]; exact a5, fun j hj => ?_⟩
  obtain ⟨n, ml, pk, hd, d⟩ := a6 j hj
  exact ⟨n, ml, pk, hd, rlP_c hN d (fun q h1 h2 => hc q (by omega)) (fun i _ => by rw [h8])⟩
theorem rlS_c {σ σ' τ τ' : cb_St} (h : rlS σ τ) (h0 : σ'.1 0 0 = σ.1 0 0) (h9 : τ'.1 0 9 = τ.1 0 9) : rlS σ' τ' := by
  unfold rlS; rw [h0, h9]; exact h
/-- both remember the play as it is -/
theorem r_push {N Q n ml : Nat} {pk : Nat → Nat} {hd : Nat → Int} {u x : Nat} {σ τ : cb_St} (hX : rlX N Q σ τ) (hP : rlP N Q σ 13 (τ.1 3) n ml pk hd) (hU : rlU N Q σ τ u x) (hS : rlS σ τ) : ∃ (σ' τ' : cb_St) (u' x' : Nat), f_X3_push σ = some σ' ∧ f_X8_remember τ = some τ' ∧ rlX N Q σ' τ' ∧ rlP N Q σ' 13 (τ'.1 3) n ml pk hd ∧ rlU N Q σ' τ' u' x' ∧ rlS σ' τ' := by
  have hN := hX.1.1
  obtain ⟨a1, a2, a3, a4, a5, a6⟩ := hU
  obtain ⟨σ', u', eu, c1, c2, c3, c4, c5, c6⟩ := s_push σ u x a3 a5 a1 a2
  obtain ⟨g, u2, eu2, d1, d2, d3⟩ := m_remember τ u a4 a1
  have : u2 = u' := by omega
  subst this
  have hc : agC σ σ' := ⟨c6, fun q h => c5 q (by omega) (by omega)⟩
  have hm : agM τ (cb_sI (cb_sA τ 8 g) 0 22 (zI u2)) := ⟨fun j h => by rw [sI_e, upd_n _ _ (by omega), sA_n _ _ (by decide)], fun q h => by rw [sI_n _ _ _ (by omega), sA_n _ _ (by omega)]⟩
  have e3 : (cb_sI (cb_sA τ 8 g) 0 22 (zI u2)).1 3 = τ.1 3 := by rw [sI_n _ _ _ (by decide), sA_n _ _ (by decide)]
  have e8 : (cb_sI (cb_sA τ 8 g) 0 22 (zI u2)).1 8 = g := by rw [sI_n _ _ _ (by decide), sA_e]
  refine ⟨σ', _, u2, (x + 1) % 16, c1, d1, rlX_c hX hc hm, ?_, ?_, ?_⟩
  · exact rlP_c hN hP (fun q h1 h2 => c5 q (by omega) (by omega)) (fun i _ => by rw [e3])
  · refine ⟨by omega, by omega, c2, by rw [sI_e, upd_e], c3, fun j hj => ?_⟩
    by_cases h0 : j = 0
    · subst h0
      have ex : ((x + 1) % 16 + 15 - 0) % 16 = x := by omega
      rw [ex]
      obtain ⟨k0, k1, k2, k3, k4, k5, k6⟩ := c4 (20 + 5 * x) rfl
      refine ⟨n, ml, pk, hd, rlP_k hN hP k0 k1 k2 k3 k4 k5 k6 (fun i hi => ?_)⟩
      rw [e8]
      exact d2 i hi
    · obtain ⟨n1, ml1, pk1, hd1, hp⟩ := a6 (j - 1) (by omega)
      have ex : ((x + 1) % 16 + 15 - j) % 16 = (x + 15 - (j - 1)) % 16 := by omega
      have hne : (x + 15 - (j - 1)) % 16 ≠ x := by omega
      rw [ex]
      refine ⟨n1, ml1, pk1, hd1, rlP_c hN hp (fun q h1 h2 => c5 q (by omega) (by omega)) (fun i hi => ?_)⟩
      rw [e8, d3 (u2 - 1 - j) i (by omega) hi]
      have : u2 - 1 - j + (u + 1 - u2) = u - 1 - (j - 1) := by omega
      rw [this]
  · exact rlS_c hS (by rw [c5 0 (by decide) (by omega)]) (by rw [sI_e, upd_n _ _ (by decide), sA_n _ _ (by decide)])
