section OP
variable {N Q : Nat} {σ τ : cb_St} {n ml : Nat} {pk : Nat → Nat} {hd : Nat → Int}
theorem s_layDown (σ : cb_St) (p : Nat) (hp : p < 6) : f_X4_layDown 13 (zI p) σ = some (σ.1 (13 + 2) p, cb_sI σ (13 + 2) p (zI (-1))) := by
  unfold f_X4_layDown f_X4_layDown_20
  rw [s_cardOf 13 σ p hp, bp_s, s_isPerson σ p hp, bp_s, if_neg z10, zI_ck _ (by omega) (by omega) (by omega), zI_clamp (by omega) (by omega), Int.toNat_natCast, let_s, zI_m1]
theorem s_putBelow (σ : cb_St) {n : Nat} (h0 : σ.1 13 0 = zI n) (hn : n < 12) (c : Int32) : f_X4_putBelow 13 c σ = some (cb_sI (cb_sI σ (13 + 1) n c) 13 0 (zI ((n + 1 : Nat) : Int))) := by
  unfold f_X4_putBelow
  rw [h0]; simp (disch := omega) only [zI_lit, zI_neg, zI_add, zI_sub, zI_mul, zI_lt, zI_le, zI_inj, zI_ck, zI_clamp, ← Int.natCast_add, la_1, al_1, la_2, al_2, la_3, al_3, la_4, al_4, la_5, al_5, la_6, al_6, la_7, al_7, la_8, al_8, la_9, al_9, la_10, al_10, la_11, al_11, la_12, al_12, la_13, al_13, la_16, al_16, la_19, al_19, la_20, al_20, la_24, al_24, la_25, al_25, la_26, al_26, la_27, al_27, la_51, al_51, la_52, al_52, la_0, Int.toNat_natCast, bp_s, let_s, bi_s, bv_s, b1_f]
  rw [if_neg (by omega), if_neg (by omega), sI_n _ _ _ (by decide), h0, zI_add, al_1]
theorem m_layBelow (τ : cb_St) {n : Nat} (h0 : τ.1 3 12 = zI n) (hn : n < 12) (c : Int32) : f_X8_layBelow c τ = some (cb_sI (cb_sI τ 3 n c) 3 12 (zI ((n + 1 : Nat) : Int))) := by
  unfold f_X8_layBelow
  simp (disch := omega) only [h0, zI_lit, zI_neg, zI_add, zI_sub, zI_mul, zI_lt, zI_le, zI_inj, zI_ck, zI_clamp, ← Int.natCast_add, la_1, al_1, la_2, al_2, la_3, al_3, la_4, al_4, la_5, al_5, la_6, al_6, la_7, al_7, la_8, al_8, la_9, al_9, la_10, al_10, la_11, al_11, la_12, al_12, la_13, al_13, la_16, al_16, la_19, al_19, la_20, al_20, la_24, al_24, la_25, al_25, la_26, al_26, la_27, al_27, la_51, al_51, la_52, al_52, la_0, Int.toNat_natCast, bp_s, let_s, bi_s, bv_s, b1_f, tn_0, tn_12, tn_25, tn_26]
  rw [sI_e, upd_n _ _ (by omega), h0, zI_add, al_1]
/-- one gives its card back: it lies below the others -/
theorem r_giveBack (hN : N ≤ 12) (hQ : Q ≤ 6) (hP : rlP N Q σ 13 (τ.1 3) n ml pk hd) (p c : Nat) (hp : p < Q) (h1 : hd p = c) : ∃ (σ' τ' : cb_St), f_X4_giveBack 13 (zI p) σ = some (zI c, σ') ∧ f_X8_backNow (zI p) τ = some τ' ∧ frC σ σ' ∧ frM τ τ' ∧ rlP N Q σ' 13 (τ'.1 3) (n + 1) ml (fun i => if i = n then c else pk i) (fun q => if q = p then -1 else hd q) := by
  obtain ⟨a1, a2, a3, a4, a5, a6, a7, a8, a9, a10, a11, a12, a13, a14, a15, a16, a17, a18⟩ := hP
  obtain ⟨c1, c2, c3, c4⟩ := a9 p (by omega)
  rw [h1] at c1 c2 c4
  have hroom : n < N := pack_room (fun i hi => (a8 i hi).2.2) a13 (c := c) (by omega) (fun i hi e => a15 i p hi (by omega) (by omega))
  have e25 : ∀ i : Nat, i < n → i ≠ 12 := fun i hi => by omega
  refine ⟨cb_sI (cb_sI (cb_sI σ (13 + 2) p (zI (-1))) (13 + 1) n (zI c)) 13 0 (zI ((n + 1 : Nat) : Int)), cb_sI (cb_sI (cb_sI τ 3 n (zI c)) 3 12 (zI ((n + 1 : Nat) : Int))) 3 (13 + p) (zI (-1)), ?_, ?_, ?_, ?_, ?_⟩
  · unfold f_X4_giveBack f_X4_giveBack_16
    have hne : ¬ zI (c : Int) = -1 := by rw [zI_m1, zI_inj (by omega) (by omega) (by omega) (by omega)]; omega
    rw [s_layDown σ p (by omega), bi_s, c1, if_neg hne, s_putBelow _ (n := n) (by rw [sI_n _ _ _ (by decide)]; exact a3) (by omega), bv_s]
  · unfold f_X8_backNow
    simp (disch := omega) only [c2, zI_lit, zI_neg, zI_add, zI_sub, zI_mul, zI_lt, zI_le, zI_inj, zI_ck, zI_clamp, ← Int.natCast_add, la_1, al_1, la_2, al_2, la_3, al_3, la_4, al_4, la_5, al_5, la_6, al_6, la_7, al_7, la_8, al_8, la_9, al_9, la_10, al_10, la_11, al_11, la_12, al_12, la_13, al_13, la_16, al_16, la_19, al_19, la_20, al_20, la_24, al_24, la_25, al_25, la_26, al_26, la_27, al_27, la_51, al_51, la_52, al_52, la_0, Int.toNat_natCast, bp_s, let_s, bi_s, bv_s, b1_f, tn_0, tn_12, tn_25, tn_26]
    rw [m_layBelow τ a4 (by omega)]
    simp (disch := omega) only [zI_lit, zI_neg, zI_add, zI_sub, zI_mul, zI_lt, zI_le, zI_inj, zI_ck, zI_clamp, ← Int.natCast_add, la_1, al_1, la_2, al_2, la_3, al_3, la_4, al_4, la_5, al_5, la_6, al_6, la_7, al_7, la_8, al_8, la_9, al_9, la_10, al_10, la_11, al_11, la_12, al_12, la_13, al_13, la_16, al_16, la_19, al_19, la_20, al_20, la_24, al_24, la_25, al_25, la_26, al_26, la_27, al_27, la_51, al_51, la_52, al_52, la_0, Int.toNat_natCast, bp_s, let_s, bi_s, bv_s, b1_f, tn_0, tn_12, tn_25, tn_26]
  · refine ⟨by rw [sI_2, sI_2, sI_2], fun q h3 h4 => ?_⟩
    rw [sI_n _ _ _ (by omega), sI_n _ _ _ (by omega), sI_n _ _ _ (by omega)]
  · intro q h3 h4
    rw [sI_n _ _ _ h3, sI_n _ _ _ h3, sI_n _ _ _ h3]
  · have ev : (cb_sI (cb_sI (cb_sI τ 3 n (zI c)) 3 12 (zI ((n + 1 : Nat) : Int))) 3 (13 + p) (zI (-1))).1 3 = upd (upd (upd (τ.1 3) n (zI c)) 12 (zI ((n + 1 : Nat) : Int))) (13 + p) (zI (-1)) := by rw [sI_e, sI_e, sI_e]
    have e13 : (cb_sI (cb_sI (cb_sI σ (13 + 2) p (zI (-1))) (13 + 1) n (zI c)) 13 0 (zI ((n + 1 : Nat) : Int))).1 13 = upd (σ.1 13) 0 (zI ((n + 1 : Nat) : Int)) := by
      rw [sI_e, sI_n _ _ _ (by decide), sI_n _ _ _ (by decide)]
    have e14 : (cb_sI (cb_sI (cb_sI σ (13 + 2) p (zI (-1))) (13 + 1) n (zI c)) 13 0 (zI ((n + 1 : Nat) : Int))).1 (13 + 1) = upd (σ.1 (13 + 1)) n (zI c) := by
      rw [sI_n _ _ _ (by decide), sI_e, sI_n _ _ _ (by decide)]
    have e15 : (cb_sI (cb_sI (cb_sI σ (13 + 2) p (zI (-1))) (13 + 1) n (zI c)) 13 0 (zI ((n + 1 : Nat) : Int))).1 (13 + 2) = upd (σ.1 (13 + 2)) p (zI (-1)) := by
      rw [sI_n _ _ _ (by decide), sI_n _ _ _ (by decide), sI_e]
    have e16 : (cb_sI (cb_sI (cb_sI σ (13 + 2) p (zI (-1))) (13 + 1) n (zI c)) 13 0 (zI ((n + 1 : Nat) : Int))).1 (13 + 3) = σ.1 (13 + 3) := by
      rw [sI_n _ _ _ (by decide), sI_n _ _ _ (by decide), sI_n _ _ _ (by decide)]
    have e17 : (cb_sI (cb_sI (cb_sI σ (13 + 2) p (zI (-1))) (13 + 1) n (zI c)) 13 0 (zI ((n + 1 : Nat) : Int))).1 (13 + 4) = σ.1 (13 + 4) := by
      rw [sI_n _ _ _ (by decide), sI_n _ _ _ (by decide), sI_n _ _ _ (by decide)]
    have g1 : ∀ q, 12 < q → q ≠ 13 + p → upd (upd (upd (τ.1 3) n (zI c)) 12 (zI ((n + 1 : Nat) : Int))) (13 + p) (zI (-1)) q = τ.1 3 q := fun q hq hq2 => by rw [upd_n _ _ hq2, upd_n _ _ (by omega), upd_n _ _ (by omega)]
    rw [ev]
    refine ⟨by omega, a2, by rw [e13, upd_e], ?_, by rw [e13, upd_n _ _ (by decide)]; exact a5, ?_, ?_, ?_, ?_, ?_, ?_, ?_, ?_, ?_, ?_, ?_, ?_, ?_⟩
    · rw [upd_n _ _ (by omega), upd_e]
    · rw [g1 26 (by omega) (by omega)]; exact a6
    · rw [e13, upd_n _ _ (by decide), g1 25 (by omega) (by omega)]; exact a7
    · intro i hi
      dsimp only
      by_cases hin : i = n
      · subst hin
        rw [e14, upd_e, if_pos rfl, upd_n _ _ (by omega), upd_n _ _ (by omega), upd_e]
        exact ⟨rfl, rfl, by omega⟩
      · rw [e14, upd_n _ _ hin, if_neg hin, upd_n _ _ (by omega), upd_n _ _ (by omega), upd_n _ _ hin]
        exact a8 i (by omega)
    · intro q hq
      dsimp only
      by_cases hqp : q = p
      · subst hqp
        rw [e15, upd_e, upd_e, if_pos rfl]
        exact ⟨rfl, rfl, by omega, by omega⟩
      · rw [e15, upd_n _ _ hqp, g1 (13 + q) (by omega) (by omega), if_neg hqp]
        exact a9 q hq
    · intro q h3 h4
      dsimp only
      rw [if_neg (by omega)]; exact a10 q h3 h4
    · intro q hq
      rw [e16, g1 (19 + q) (by omega) (by omega)]; exact a11 q hq
    · intro i hi
      rw [e17, g1 (27 + i) (by omega) (by omega)]; exact a12 i hi
    · intro i j hij hj
      dsimp only
      rw [if_neg (by omega)]
      by_cases hjn : j = n
      · rw [if_pos hjn]
        intro e
        exact a15 i p (by omega) (by omega) (by omega)
      · rw [if_neg hjn]; exact a13 i j hij (by omega)
    · intro q r hqr hr h3
      dsimp only at h3 ⊢
      by_cases hq : q = p
      · rw [if_pos hq] at h3; omega
      · rw [if_neg hq] at h3 ⊢
        by_cases hr2 : r = p
        · rw [if_pos hr2]; omega
        · rw [if_neg hr2]; exact a14 q r hqr hr h3
    · intro i q hi hq
      dsimp only
      by_cases hqp : q = p
      · rw [if_pos hqp]; split <;> omega
      · rw [if_neg hqp]
        by_cases hin : i = n
        · rw [if_pos hin]
          intro e
          rcases Nat.lt_or_gt_of_ne hqp with g | g
          · exact a14 q p g (by omega) (by omega) (by omega)
          · exact a14 p q g hq (by omega) (by omega)
        · rw [if_neg hin]; exact a15 i q (by omega) hq
    · intro i hi
      dsimp only
      rw [g1 25 (by omega) (by omega)]
      by_cases hin : i = n
      · rw [if_pos hin]
        have := a17 p (by omega) (by omega)
        rw [h1, Int.toNat_natCast] at this
        exact this
      · rw [if_neg hin]; exact a16 i (by omega)
    · intro q hq h3
      dsimp only at h3 ⊢
      rw [g1 25 (by omega) (by omega)]
      by_cases hqp : q = p
      · rw [if_pos hqp] at h3; omega
      · rw [if_neg hqp] at h3 ⊢; exact a17 q hq h3
    · intro j h3 h4
      rw [g1 25 (by omega) (by omega)]; exact a18 j h3 h4
end OP
