section OP
variable {N Q : Nat} {σ τ : cb_St} {n ml : Nat} {pk : Nat → Nat} {hd : Nat → Int}
/-- one draws: the top card is its own, the rest moves up -/
theorem r_draw (hN : N ≤ 12) (hQ : Q ≤ 6) (hP : rlP N Q σ 13 (τ.1 3) n ml pk hd) (p : Nat) (hp : p < Q) (h1 : hd p = -1) (h2 : 0 < n) : ∃ (σ' τ1 : cb_St), f_X4_draw 13 (zI p) σ = some (zI (pk 0), σ') ∧ f_X8_takeAt 0 τ = some (zI (pk 0), τ1) ∧ frC σ σ' ∧ frM τ (cb_sI τ1 3 (13 + p) (zI (pk 0))) ∧ rlP N Q σ' 13 ((cb_sI τ1 3 (13 + p) (zI (pk 0))).1 3) (n - 1) ml (fun i => pk (i + 1)) (fun q => if q = p then (pk 0 : Int) else hd q) := by
  obtain ⟨a1, a2, a3, a4, a5, a6, a7, a8, a9, a10, a11, a12, a13, a14, a15, a16, a17, a18⟩ := hP
  obtain ⟨b1, b2, b3⟩ := a8 0 h2
  obtain ⟨c1, c2, c3, c4⟩ := a9 p (by omega)
  have en : (n : Int) - 1 = ((n - 1 : Nat) : Int) := by omega
  obtain ⟨g, d1, d2, d3⟩ := s_draw_25 (zI p) (zI (pk 0)) n (by omega) (n - 1) 1 cb_fu (cb_sI σ (13 + 2) p (zI (pk 0))) (by rw [sI_n _ _ _ (by decide)]; exact a3) (by omega) (by omega) (by unfold cb_fu; omega)
  obtain ⟨g', m1, m2, m3⟩ := m_takeAt_22 (zI 0) (zI (pk 0)) (n - 1) (by omega) (n - 1) 0 cb_fu (cb_sI τ 3 12 (zI ((n - 1 : Nat) : Int))) (by rw [sI_e, upd_e]) (by omega) (by unfold cb_fu; omega)
  rw [sA_sI] at m1
  have hcd := s_canDraw σ p (by omega) a3 (by omega) c1 c3 (by omega)
  rw [if_pos ⟨h1, h2⟩] at hcd
  have hca := s_cardAt 13 σ a3 (by omega) 0 h2
  refine ⟨cb_sI (cb_sA (cb_sI σ (13 + 2) p (zI (pk 0))) (13 + 1) g) 13 0 (zI ((n - 1 : Nat) : Int)), cb_sA τ 3 g', ?_, ?_, ?_, ?_, ?_⟩
  · unfold f_X4_draw
    rw [hcd, bp_s, if_neg z10]
    rw [show f_X4_cardAt 13 0 σ = some (zI (pk 0)) from by rw [← b1]; exact hca, bp_s]
    rw [zI_ck _ (by omega) (by omega) (by omega), zI_clamp (by omega) (by omega), Int.toNat_natCast, let_s]
    rw [show (1 : Int32) = zI ((1 : Nat) : Int) from rfl, d1]
    unfold f_X4_draw_59
    rw [let_s, sA_n _ _ (by decide), sI_n _ _ _ (by decide), a3]
    rw [show zI (n : Int) - 1 = zI ((n - 1 : Nat) : Int) from by rw [show (1 : Int32) = zI 1 from rfl, zI_sub, en]]
  · unfold f_X8_takeAt
    rw [show (0 : Int32) + 0 = zI 0 from rfl]
    simp (disch := omega) only [a4, en, b2, zI_lit, zI_neg, zI_add, zI_sub, zI_mul, zI_lt, zI_le, zI_inj, zI_ck, zI_clamp, ← Int.natCast_add, la_1, al_1, la_2, al_2, la_3, al_3, la_4, al_4, la_5, al_5, la_6, al_6, la_7, al_7, la_8, al_8, la_9, al_9, la_10, al_10, la_11, al_11, la_12, al_12, la_13, al_13, la_16, al_16, la_19, al_19, la_20, al_20, la_24, al_24, la_25, al_25, la_26, al_26, la_27, al_27, la_51, al_51, la_52, al_52, la_0, Int.toNat_natCast, bp_s, let_s, bi_s, bv_s, b1_f, tn_0, tn_12, tn_25, tn_26]
    exact m1
  · refine ⟨by rw [sI_2, sA_2, sI_2], fun q h3 h4 => ?_⟩
    rw [sI_n _ _ _ (by omega), sA_n _ _ (by omega), sI_n _ _ _ (by omega)]
  · intro q h3 h4
    rw [sI_n _ _ _ h3, sA_n _ _ h3]
  · have ev : (cb_sI (cb_sA τ 3 g') 3 (13 + p) (zI (pk 0))).1 3 = upd g' (13 + p) (zI (pk 0)) := by rw [sI_e, sA_e]
    have e13 : (cb_sI (cb_sA (cb_sI σ (13 + 2) p (zI (pk 0))) (13 + 1) g) 13 0 (zI ((n - 1 : Nat) : Int))).1 13 = upd (σ.1 13) 0 (zI ((n - 1 : Nat) : Int)) := by
      rw [sI_e, sA_n _ _ (by decide), sI_n _ _ _ (by decide)]
    have e14 : (cb_sI (cb_sA (cb_sI σ (13 + 2) p (zI (pk 0))) (13 + 1) g) 13 0 (zI ((n - 1 : Nat) : Int))).1 (13 + 1) = g := by
      rw [sI_n _ _ _ (by decide), sA_e]
    have e15 : (cb_sI (cb_sA (cb_sI σ (13 + 2) p (zI (pk 0))) (13 + 1) g) 13 0 (zI ((n - 1 : Nat) : Int))).1 (13 + 2) = upd (σ.1 (13 + 2)) p (zI (pk 0)) := by
      rw [sI_n _ _ _ (by decide), sA_n _ _ (by decide), sI_e]
    have e16 : (cb_sI (cb_sA (cb_sI σ (13 + 2) p (zI (pk 0))) (13 + 1) g) 13 0 (zI ((n - 1 : Nat) : Int))).1 (13 + 3) = σ.1 (13 + 3) := by
      rw [sI_n _ _ _ (by decide), sA_n _ _ (by decide), sI_n _ _ _ (by decide)]
    have e17 : (cb_sI (cb_sA (cb_sI σ (13 + 2) p (zI (pk 0))) (13 + 1) g) 13 0 (zI ((n - 1 : Nat) : Int))).1 (13 + 4) = σ.1 (13 + 4) := by
      rw [sI_n _ _ _ (by decide), sA_n _ _ (by decide), sI_n _ _ _ (by decide)]
    have g1 : ∀ q, 12 < q → g' q = τ.1 3 q := fun q hq => by rw [m3 q (by omega), sI_e, upd_n _ _ (by omega)]
    rw [ev]
    refine ⟨by omega, a2, by rw [e13, upd_e], ?_, by rw [e13, upd_n _ _ (by decide)]; exact a5, ?_, ?_, ?_, ?_, ?_, ?_, ?_, ?_, ?_, ?_, ?_, ?_, ?_⟩
    · rw [upd_n _ _ (by omega), m3 12 (by omega), sI_e, upd_e]
    · rw [upd_n _ _ (by omega), g1 26 (by omega)]; exact a6
    · rw [e13, upd_n _ _ (by decide), upd_n _ _ (by omega), g1 25 (by omega)]; exact a7
    · intro i hi
      obtain ⟨k1, k2, k3⟩ := a8 (i + 1) (by omega)
      refine ⟨?_, ?_, k3⟩
      · have := d2 (i + 1) (by omega) (by omega)
        rw [Nat.add_sub_cancel, sI_n _ _ _ (by decide)] at this
        rw [e14, this]; exact k1
      · rw [upd_n _ _ (by omega), m2 i (by omega) (by omega), sI_e, upd_n _ _ (by omega)]; exact k2
    · intro q hq
      by_cases hqp : q = p
      · subst hqp
        dsimp only
        rw [e15, upd_e, upd_e, if_pos rfl]
        exact ⟨rfl, rfl, by omega, by omega⟩
      · dsimp only
        rw [e15, upd_n _ _ hqp, upd_n _ _ (by omega), g1 (13 + q) (by omega), if_neg hqp]
        exact a9 q hq
    · intro q h3 h4
      show (if q = p then (pk 0 : Int) else hd q) = -1
      rw [if_neg (by omega)]; exact a10 q h3 h4
    · intro q hq
      rw [e16, upd_n _ _ (by omega), g1 (19 + q) (by omega)]; exact a11 q hq
    · intro i hi
      rw [e17, upd_n _ _ (by omega), g1 (27 + i) (by omega)]; exact a12 i hi
    · intro i j hij hj
      exact a13 (i + 1) (j + 1) (by omega) (by omega)
    · intro q r hqr hr h3
      show (if q = p then (pk 0 : Int) else hd q) ≠ (if r = p then (pk 0 : Int) else hd r)
      have h3 : 0 ≤ (if q = p then (pk 0 : Int) else hd q) := h3
      by_cases hq : q = p
      · rw [if_pos hq, if_neg (by omega)]
        exact fun e => a15 0 r h2 hr e.symm
      · rw [if_neg hq] at h3 ⊢
        by_cases hr2 : r = p
        · rw [if_pos hr2]
          exact a15 0 q h2 (by omega)
        · rw [if_neg hr2]
          exact a14 q r hqr hr h3
    · intro i q hi hq
      show (if q = p then (pk 0 : Int) else hd q) ≠ ((pk (i + 1) : Nat) : Int)
      by_cases hqp : q = p
      · rw [if_pos hqp]
        have := a13 0 (i + 1) (by omega) (by omega)
        omega
      · rw [if_neg hqp]; exact a15 (i + 1) q (by omega) hq
    · intro i hi
      rw [upd_n _ _ (by omega), g1 25 (by omega)]; exact a16 (i + 1) (by omega)
    · intro q hq h3
      rw [upd_n _ _ (by omega), g1 25 (by omega)]
      show bt (τ.1 3 25) (if q = p then (pk 0 : Int) else hd q).toNat = false
      have h3 : 0 ≤ (if q = p then (pk 0 : Int) else hd q) := h3
      by_cases hqp : q = p
      · rw [if_pos hqp, Int.toNat_natCast]; exact a16 0 h2
      · rw [if_neg hqp] at h3 ⊢; exact a17 q hq h3
    · intro j h3 h4
      rw [upd_n _ _ (by omega), g1 25 (by omega)]; exact a18 j h3 h4
end OP
