section OP
variable {N Q : Nat} {σ σ' τ : cb_St} {n ml : Nat} {pk : Nat → Nat} {hd : Nat → Int}
/-- the pack in another order -/
theorem rlP_perm (hN : N ≤ 12) {v v' : Nat → Int32} (hP : rlP N Q σ 13 v n ml pk hd) (ix : Nat → Nat) (h1 : ∀ i, i < n → ix i < n) (h2 : ∀ i j, i < j → j < n → ix i ≠ ix j) (s14 : ∀ i, i < n → σ'.1 (13 + 1) i = σ.1 (13 + 1) (ix i)) (v14 : ∀ i, i < n → v' i = v (ix i)) (s13 : σ'.1 13 = σ.1 13) (s15 : σ'.1 (13 + 2) = σ.1 (13 + 2)) (s16 : σ'.1 (13 + 3) = σ.1 (13 + 3)) (s17 : σ'.1 (13 + 4) = σ.1 (13 + 4)) (hv : ∀ q, 12 ≤ q → q < 51 → v' q = v q) : rlP N Q σ' 13 v' n ml (fun i => pk (ix i)) hd := by
  obtain ⟨a1, a2, a3, a4, a5, a6, a7, a8, a9, a10, a11, a12, a13, a14, a15, a16, a17, a18⟩ := hP
  refine ⟨a1, a2, by rw [s13]; exact a3, by rw [hv 12 (by omega) (by omega)]; exact a4, by rw [s13]; exact a5, by rw [hv 26 (by omega) (by omega)]; exact a6, by rw [s13, hv 25 (by omega) (by omega)]; exact a7, ?_, ?_, a10, ?_, ?_, ?_, a14, ?_, ?_, ?_, ?_⟩
  · intro i hi; rw [s14 i hi, v14 i hi]; exact a8 (ix i) (h1 i hi)
  · intro p hp; rw [s15, hv (13 + p) (by omega) (by omega)]; exact a9 p hp
  · intro p hp; rw [s16, hv (19 + p) (by omega) (by omega)]; exact a11 p hp
  · intro i hi; rw [s17, hv (27 + i) (by omega) (by omega)]; exact a12 i hi
  · intro i j hij hj
    have e := h2 i j hij hj
    rcases Nat.lt_or_gt_of_ne e with g | g
    · exact a13 (ix i) (ix j) g (h1 j hj)
    · exact fun q => a13 (ix j) (ix i) g (h1 i (by omega)) q.symm
  · intro i p hi hp; exact a15 (ix i) p (h1 i hi) hp
  · intro i hi; rw [hv 25 (by omega) (by omega)]; exact a16 (ix i) (h1 i hi)
  · intro p hp h0; rw [hv 25 (by omega) (by omega)]; exact a17 p hp h0
  · intro j g1 g2; rw [hv 25 (by omega) (by omega)]; exact a18 j g1 g2
theorem s_raise_14 (x1 x2 : Int32) : ∀ (i fu : Nat) (σ : cb_St), i < 12 → i < fu → ∃ g : Nat → Int32, f_X4_raise_14 13 x1 fu σ x2 (zI i) = some (cb_sA σ (13 + 1) g) ∧ g 0 = x2 ∧ (∀ j, 1 ≤ j → j ≤ i → g j = σ.1 (13 + 1) (j - 1)) ∧ ∀ q, i < q → g q = σ.1 (13 + 1) q := by
  intro i
  induction i with
  | zero =>
    intro fu σ hi hf
    obtain ⟨fu, rfl⟩ : ∃ g, fu = g + 1 := ⟨fu - 1, by omega⟩
    refine ⟨upd (σ.1 (13 + 1)) 0 x2, ?_, upd_e _ _ _, fun j h1 h2 => absurd h2 (by omega), fun q hq => upd_n _ _ (by omega)⟩
    rw [f_X4_raise_14]
    unfold f_X4_raise_44
    simp (disch := omega) only [zI_lit, zI_neg, zI_add, zI_sub, zI_mul, zI_lt, zI_le, zI_inj, zI_ck, zI_clamp, ← Int.natCast_add, la_1, al_1, la_2, al_2, la_3, al_3, la_4, al_4, la_5, al_5, la_6, al_6, la_7, al_7, la_8, al_8, la_9, al_9, la_10, al_10, la_11, al_11, la_12, al_12, la_13, al_13, la_16, al_16, la_19, al_19, la_20, al_20, la_24, al_24, la_25, al_25, la_26, al_26, la_27, al_27, la_51, al_51, la_52, al_52, la_0, Int.toNat_natCast, bp_s, let_s, bi_s, bv_s, b1_f, tn_0, tn_12, tn_25, tn_26]
    rw [if_pos (by omega)]; rfl
  | succ i ih =>
    intro fu σ hi hf
    obtain ⟨fu, rfl⟩ : ∃ g, fu = g + 1 := ⟨fu - 1, by omega⟩
    have e1 : ((i + 1 : Nat) : Int) - 1 = (i : Int) := by omega
    have e2 : ((i + 1 : Nat) : Int) + -1 = (i : Int) := by omega
    have hstep : f_X4_raise_14 13 x1 (fu + 1) σ x2 (zI ((i + 1 : Nat) : Int)) = f_X4_raise_14 13 x1 fu (cb_sI σ (13 + 1) (i + 1) (σ.1 (13 + 1) i)) x2 (zI i) := by
      rw [f_X4_raise_14]; simp (disch := omega) only [e1, e2, zI_lit, zI_neg, zI_add, zI_sub, zI_mul, zI_lt, zI_le, zI_inj, zI_ck, zI_clamp, ← Int.natCast_add, la_1, al_1, la_2, al_2, la_3, al_3, la_4, al_4, la_5, al_5, la_6, al_6, la_7, al_7, la_8, al_8, la_9, al_9, la_10, al_10, la_11, al_11, la_12, al_12, la_13, al_13, la_16, al_16, la_19, al_19, la_20, al_20, la_24, al_24, la_25, al_25, la_26, al_26, la_27, al_27, la_51, al_51, la_52, al_52, la_0, Int.toNat_natCast, bp_s, let_s, bi_s, bv_s, b1_f, tn_0, tn_12, tn_25, tn_26]
      rw [if_neg (by omega), if_neg (by omega)]
    obtain ⟨g, h1, h2, h3, h4⟩ := ih fu (cb_sI σ (13 + 1) (i + 1) (σ.1 (13 + 1) i)) (by omega) (by omega)
    refine ⟨g, by rw [hstep, h1, sA_sI], h2, fun j g1 g2 => ?_, fun q hq => ?_⟩
    · by_cases hj : j = i + 1
      · subst hj
        rw [h4 (i + 1) (by omega), sI_e, upd_e, Nat.add_sub_cancel]
      · rw [h3 j g1 (by omega), sI_e, upd_n _ _ (by omega)]
    · rw [h4 q (by omega), sI_e, upd_n _ _ (by omega)]
theorem m_force_30 (x1 x2 : Int32) : ∀ (i fu : Nat) (τ : cb_St), i < 12 → i < fu → ∃ g : Nat → Int32, f_X8_force_30 x1 fu τ x2 (zI i) = some (x2, cb_sA τ 3 g) ∧ g 0 = x1 ∧ (∀ j, 1 ≤ j → j ≤ i → g j = τ.1 3 (j - 1)) ∧ ∀ q, i < q → g q = τ.1 3 q := by
  intro i
  induction i with
  | zero =>
    intro fu τ hi hf
    obtain ⟨fu, rfl⟩ : ∃ g, fu = g + 1 := ⟨fu - 1, by omega⟩
    refine ⟨upd (τ.1 3) 0 x1, ?_, upd_e _ _ _, fun j h1 h2 => absurd h2 (by omega), fun q hq => upd_n _ _ (by omega)⟩
    rw [f_X8_force_30]
    simp (disch := omega) only [zI_lit, zI_neg, zI_add, zI_sub, zI_mul, zI_lt, zI_le, zI_inj, zI_ck, zI_clamp, ← Int.natCast_add, la_1, al_1, la_2, al_2, la_3, al_3, la_4, al_4, la_5, al_5, la_6, al_6, la_7, al_7, la_8, al_8, la_9, al_9, la_10, al_10, la_11, al_11, la_12, al_12, la_13, al_13, la_16, al_16, la_19, al_19, la_20, al_20, la_24, al_24, la_25, al_25, la_26, al_26, la_27, al_27, la_51, al_51, la_52, al_52, la_0, Int.toNat_natCast, bp_s, let_s, bi_s, bv_s, b1_f, tn_0, tn_12, tn_25, tn_26]
    rw [if_pos (by omega)]; rfl
  | succ i ih =>
    intro fu τ hi hf
    obtain ⟨fu, rfl⟩ : ∃ g, fu = g + 1 := ⟨fu - 1, by omega⟩
    have e1 : ((i + 1 : Nat) : Int) - 1 = (i : Int) := by omega
    have e2 : ((i + 1 : Nat) : Int) + -1 = (i : Int) := by omega
    have hstep : f_X8_force_30 x1 (fu + 1) τ x2 (zI ((i + 1 : Nat) : Int)) = f_X8_force_30 x1 fu (cb_sI τ 3 (i + 1) (τ.1 3 i)) x2 (zI i) := by
      rw [f_X8_force_30]; simp (disch := omega) only [e1, e2, zI_lit, zI_neg, zI_add, zI_sub, zI_mul, zI_lt, zI_le, zI_inj, zI_ck, zI_clamp, ← Int.natCast_add, la_1, al_1, la_2, al_2, la_3, al_3, la_4, al_4, la_5, al_5, la_6, al_6, la_7, al_7, la_8, al_8, la_9, al_9, la_10, al_10, la_11, al_11, la_12, al_12, la_13, al_13, la_16, al_16, la_19, al_19, la_20, al_20, la_24, al_24, la_25, al_25, la_26, al_26, la_27, al_27, la_51, al_51, la_52, al_52, la_0, Int.toNat_natCast, bp_s, let_s, bi_s, bv_s, b1_f, tn_0, tn_12, tn_25, tn_26]
      rw [if_neg (by omega)]
    obtain ⟨g, h1, h2, h3, h4⟩ := ih fu (cb_sI τ 3 (i + 1) (τ.1 3 i)) (by omega) (by omega)
    refine ⟨g, by rw [hstep, h1, sA_sI], h2, fun j g1 g2 => ?_, fun q hq => ?_⟩
    · by_cases hj : j = i + 1
      · subst hj
        rw [h4 (i + 1) (by omega), sI_e, upd_e, Nat.add_sub_cancel]
      · rw [h3 j g1 (by omega), sI_e, upd_n _ _ (by omega)]
    · rw [h4 q (by omega), sI_e, upd_n _ _ (by omega)]
/-- a card of the pack comes to the top -/
theorem r_raise (hN : N ≤ 12) (hP : rlP N Q σ 13 (τ.1 3) n ml pk hd) (a : Nat) (ha : a < n) (x2 : Int32) : ∃ (σ' τ' : cb_St) (pk' : Nat → Nat), f_X4_raise 13 (zI a) σ = some σ' ∧ f_X8_force_30 (zI (pk a)) cb_fu τ x2 (zI a) = some (x2, τ') ∧ frC σ σ' ∧ frM τ τ' ∧ rlP N Q σ' 13 (τ'.1 3) n ml pk' hd := by
  have hP0 := hP
  obtain ⟨a1, -, a3, -, -, -, -, a8, -⟩ := hP
  obtain ⟨b1, b2, b3⟩ := a8 a ha
  obtain ⟨g, h1, h2, h3, h4⟩ := s_raise_14 (zI a) (zI (pk a)) a cb_fu σ (by omega) (by unfold cb_fu; omega)
  obtain ⟨g', k1, k2, k3, k4⟩ := m_force_30 (zI (pk a)) x2 a cb_fu τ (by omega) (by unfold cb_fu; omega)
  refine ⟨cb_sA σ (13 + 1) g, cb_sA τ 3 g', fun i => pk (if i = 0 then a else if i ≤ a then i - 1 else i), ?_, k1, ⟨sA_2 _ _ _, fun q g1 g2 => sA_n _ _ (by omega)⟩, fun q g1 g2 => sA_n _ _ g1, ?_⟩
  · unfold f_X4_raise
    have hne : ¬ zI ((pk a : Nat) : Int) = -1 := by rw [zI_m1, zI_inj (by omega) (by omega) (by omega) (by omega)]; omega
    rw [s_cardAt 13 σ a3 (by omega) a ha, bp_s, b1, if_neg hne]
    exact h1
  · refine rlP_perm hN hP0 (fun i => if i = 0 then a else if i ≤ a then i - 1 else i) (fun i hi => ?_) (fun i j hij hj => ?_) (fun i hi => ?_) (fun i hi => ?_) (sA_n _ _ (by decide)) (sA_n _ _ (by decide)) (sA_n _ _ (by decide)) (sA_n _ _ (by decide)) (fun q g1 g2 => ?_)
    · (try dsimp only); split
      · omega
      · split <;> omega
    · (try dsimp only); grind
    · rw [sA_e]; (try dsimp only)
      by_cases h0 : i = 0
      · rw [if_pos h0, h0, h2]; exact b1.symm
      · rw [if_neg h0]
        by_cases hia : i ≤ a
        · rw [if_pos hia]; exact h3 i (by omega) hia
        · rw [if_neg hia]; exact h4 i (by omega)
    · rw [sA_e]; (try dsimp only)
      by_cases h0 : i = 0
      · rw [if_pos h0, h0, k2]; exact b2.symm
      · rw [if_neg h0]
        by_cases hia : i ≤ a
        · rw [if_pos hia]; exact k3 i (by omega) hia
        · rw [if_neg hia]; exact k4 i (by omega)
    · rw [sA_e]; exact k4 q (by omega)
/-- what a call that may change the state must do -/
def simI (σ τ : cb_St) (F G : Option (Int32 × cb_St)) : Prop := ∃ (r : Int32) (σ' τ' : cb_St), F = some (r, σ') ∧ G = some (r, τ') ∧ Rel σ' τ'
theorem sim_no {σ τ : cb_St} {r : Int32} (h : Rel σ τ) : simI σ τ (some (r, σ)) (some (r, τ)) := ⟨r, σ, τ, rfl, rfl, h⟩
theorem q_drawOne (h : Rel σ τ) (x : Int32) : simI σ τ (f_X7_drawOne x σ) (f_X8_drawOne x τ) := by
  have h0 := h
  obtain ⟨N, Q, n, ml, pk, hd, u, y, hX, hP, hU, hS⟩ := h
  have hN := hX.1.1
  have hQ := hX.1.2.1
  obtain ⟨a, rfl, g1, g2⟩ := zI_ex x
  unfold f_X7_drawOne f_X8_drawOne
  rw [s_hasPerson 9 σ hX.1.2.2.2.2.1 hQ a g1 g2, m_isPerson τ hX.1.2.2.2.2.2.1 hQ a g1 g2, bp_s, bp_s]
  by_cases hp : 0 ≤ a ∧ a < Q
  · rw [if_pos hp, if_neg z10, if_neg z10]
    obtain ⟨p, rfl⟩ := Int.eq_ofNat_of_zero_le hp.1
    obtain ⟨c1, c2, c3, c4⟩ := hP.2.2.2.2.2.2.2.2.1 p (by omega)
    rw [s_canDraw σ p (by omega) hP.2.2.1 (by have := hP.1; omega) c1 c3 (by omega), m_canDraw τ p (by omega) hP.2.2.2.1 (by have := hP.1; omega) c2 c3 (by omega), bp_s, bp_s]
    by_cases hd1 : hd p = -1 ∧ 0 < n
    · rw [if_pos hd1, if_neg z10, if_neg z10]
      obtain ⟨σ1, τ1, u', y', e1, e2, hX1, hP1, hU1, hS1⟩ := r_push hX hP hU hS
      obtain ⟨σ2, τ2, f1, f2, fc, fm, hP2⟩ := r_draw hN hQ hP1 p (by omega) hd1.1 hd1.2
      obtain ⟨hX2, hU2, hS2⟩ := fr_rel hX1 hU1 hS1 fc fm
      rw [e1, e2, bv_s, bv_s, f1, f2, bi_s, bi_s]
      rw [show (13 : Int32) + zI p = zI ((13 + p : Nat) : Int) from by rw [show (13 : Int32) = zI 13 from rfl, zI_add, la_13]]
      simp (disch := omega) only [zI_ck, zI_clamp, Int.toNat_natCast, let_s, sI_e, upd_e]
      exact ⟨_, _, _, rfl, rfl, N, Q, _, _, _, _, _, _, hX2, hP2, hU2, hS2⟩
    · rw [if_neg hd1, if_pos z00, if_pos z00]; exact sim_no h0
  · rw [if_neg hp, if_pos z00, if_pos z00]; exact sim_no h0
end OP
