section OP
variable {N Q : Nat} {σ τ : cb_St} {n ml : Nat} {pk : Nat → Nat} {hd : Nat → Int}
/-- one lays its card into a drawer -/
theorem r_putAway (hN : N ≤ 12) (hQ : Q ≤ 6) (hP : rlP N Q σ 13 (τ.1 3) n ml pk hd) (p c : Nat) (hp : p < Q) (h1 : hd p = c) : ∃ (σ' : cb_St), f_X4_putAway 13 (zI p) σ = some (zI c, σ') ∧ frC σ σ' ∧ frM τ (cb_sI (cb_sI τ 3 (13 + p) (zI (-1))) 3 25 (τ.1 3 25 ||| b1 c)) ∧ rlP N Q σ' 13 ((cb_sI (cb_sI τ 3 (13 + p) (zI (-1))) 3 25 (τ.1 3 25 ||| b1 c)).1 3) n ml pk (fun q => if q = p then -1 else hd q) := by
  obtain ⟨a1, a2, a3, a4, a5, a6, a7, a8, a9, a10, a11, a12, a13, a14, a15, a16, a17, a18⟩ := hP
  obtain ⟨c1, c2, c3, c4⟩ := a9 p (by omega)
  rw [h1] at c1 c2 c4
  refine ⟨cb_sI (cb_sI σ (13 + 2) p (zI (-1))) 13 1 (τ.1 3 25 ||| b1 c), ?_, ?_, ?_, ?_⟩
  · unfold f_X4_putAway f_X4_putAway_23
    have hne : ¬ zI (c : Int) = -1 := by rw [zI_m1, zI_inj (by omega) (by omega) (by omega) (by omega)]; omega
    rw [s_layDown σ p (by omega), bi_s, c1, if_neg hne, let_s, sI_n _ _ _ (by decide), a7]
    rfl
  · refine ⟨by rw [sI_2, sI_2], fun q h3 h4 => ?_⟩
    rw [sI_n _ _ _ (by omega), sI_n _ _ _ (by omega)]
  · intro q h3 h4
    rw [sI_n _ _ _ h3, sI_n _ _ _ h3]
  · have ev : (cb_sI (cb_sI τ 3 (13 + p) (zI (-1))) 3 25 (τ.1 3 25 ||| b1 c)).1 3 = upd (upd (τ.1 3) (13 + p) (zI (-1))) 25 (τ.1 3 25 ||| b1 c) := by rw [sI_e, sI_e]
    have e13 : (cb_sI (cb_sI σ (13 + 2) p (zI (-1))) 13 1 (τ.1 3 25 ||| b1 c)).1 13 = upd (σ.1 13) 1 (τ.1 3 25 ||| b1 c) := by rw [sI_e, sI_n _ _ _ (by decide)]
    have e14 : (cb_sI (cb_sI σ (13 + 2) p (zI (-1))) 13 1 (τ.1 3 25 ||| b1 c)).1 (13 + 1) = σ.1 (13 + 1) := by rw [sI_n _ _ _ (by decide), sI_n _ _ _ (by decide)]
    have e15 : (cb_sI (cb_sI σ (13 + 2) p (zI (-1))) 13 1 (τ.1 3 25 ||| b1 c)).1 (13 + 2) = upd (σ.1 (13 + 2)) p (zI (-1)) := by rw [sI_n _ _ _ (by decide), sI_e]
    have e16 : (cb_sI (cb_sI σ (13 + 2) p (zI (-1))) 13 1 (τ.1 3 25 ||| b1 c)).1 (13 + 3) = σ.1 (13 + 3) := by rw [sI_n _ _ _ (by decide), sI_n _ _ _ (by decide)]
    have e17 : (cb_sI (cb_sI σ (13 + 2) p (zI (-1))) 13 1 (τ.1 3 25 ||| b1 c)).1 (13 + 4) = σ.1 (13 + 4) := by rw [sI_n _ _ _ (by decide), sI_n _ _ _ (by decide)]
    have g1 : ∀ q, q ≠ 25 → q ≠ 13 + p → upd (upd (τ.1 3) (13 + p) (zI (-1))) 25 (τ.1 3 25 ||| b1 c) q = τ.1 3 q := fun q hq hq2 => by rw [upd_n _ _ hq, upd_n _ _ hq2]
    have g25 : upd (upd (τ.1 3) (13 + p) (zI (-1))) 25 (τ.1 3 25 ||| b1 c) 25 = τ.1 3 25 ||| b1 c := upd_e _ _ _
    have gb : ∀ j, j < 32 → j ≠ c → bt (τ.1 3 25 ||| b1 c) j = bt (τ.1 3 25) j := fun j hj hjc => by
      rw [b1, bt_or1 _ c j (by omega) hj]
      simp [hjc]
    rw [ev]
    refine ⟨a1, a2, by rw [e13, upd_n _ _ (by decide)]; exact a3, ?_, by rw [e13, upd_n _ _ (by decide)]; exact a5, ?_, ?_, ?_, ?_, ?_, ?_, ?_, a13, ?_, ?_, ?_, ?_, ?_⟩
    · rw [g1 12 (by omega) (by omega)]; exact a4
    · rw [g1 26 (by omega) (by omega)]; exact a6
    · rw [e13, upd_e, g25]
    · intro i hi
      rw [e14, g1 i (by omega) (by omega)]; exact a8 i hi
    · intro q hq
      dsimp only
      by_cases hqp : q = p
      · subst hqp
        rw [e15, upd_e, if_pos rfl, upd_n _ _ (by omega), upd_e]
        exact ⟨rfl, rfl, by omega, by omega⟩
      · rw [e15, upd_n _ _ hqp, g1 (13 + q) (by omega) (by omega), if_neg hqp]
        exact a9 q hq
    · intro q h3 h4
      dsimp only
      rw [if_neg (by omega)]; exact a10 q h3 h4
    · intro q hq
      rw [e16, g1 (19 + q) (by omega) (by omega)]; exact a11 q hq
    · intro i hi
      rw [e17, g1 (27 + i) (by omega) (by omega)]; exact a12 i hi
    · intro q r hqr hr h3
      dsimp only at h3 ⊢
      by_cases hq : q = p
      · rw [if_pos hq] at h3; omega
      · rw [if_neg hq] at h3 ⊢
        by_cases hr2 : r = p
        · rw [if_pos hr2]; omega
        · rw [if_neg hr2]; exact a14 q r hqr hr h3
    · intro i q hi hq
      dsimp only
      by_cases hqp : q = p
      · rw [if_pos hqp]; omega
      · rw [if_neg hqp]; exact a15 i q hi hq
    · intro i hi
      have h15 := a15 i p hi (by omega)
      have h8 := (a8 i hi).2.2
      rw [g25, gb (pk i) (by omega) (by omega)]; exact a16 i hi
    · intro q hq h3
      dsimp only at h3 ⊢
      by_cases hqp : q = p
      · rw [if_pos hqp] at h3; omega
      · rw [if_neg hqp] at h3 ⊢
        have hne : hd q ≠ c := by
          intro e
          rcases Nat.lt_or_gt_of_ne hqp with g | g
          · exact a14 q p g (by omega) h3 (by omega)
          · exact a14 p q g hq (by omega) (by omega)
        have hr := (a9 q hq).2.2.2
        rw [g25, gb (hd q).toNat (by omega) (by omega)]; exact a17 q hq h3
    · intro j h3 h4
      rw [g25, gb j h4 (by omega)]; exact a18 j h3 h4
/-- a card comes out of the drawers: it lies below the others -/
theorem r_takeOut (hN : N ≤ 12) (hQ : Q ≤ 6) (hP : rlP N Q σ 13 (τ.1 3) n ml pk hd) (c : Nat) (hc : c < N) (h1 : bt (τ.1 3 25) c = true) : ∃ (σ' τ' : cb_St), f_X4_takeOut 13 (zI c) σ = some σ' ∧ f_X8_layBelow (zI c) (cb_sI τ 3 25 (τ.1 3 25 &&& (b1 c ^^^ (-1)))) = some τ' ∧ frC σ σ' ∧ frM τ τ' ∧ rlP N Q σ' 13 (τ'.1 3) (n + 1) ml (fun i => if i = n then c else pk i) hd := by
  obtain ⟨a1, a2, a3, a4, a5, a6, a7, a8, a9, a10, a11, a12, a13, a14, a15, a16, a17, a18⟩ := hP
  have hroom : n < N := pack_room (fun i hi => (a8 i hi).2.2) a13 (c := c) hc (fun i hi e => by
    have := a16 i hi
    rw [e, h1] at this; cases this)
  have gb : ∀ j, j < 32 → bt (τ.1 3 25 &&& (b1 c ^^^ (-1))) j = (bt (τ.1 3 25) j && !decide (j = c)) := fun j hj => bt_clr _ c j (by omega) hj
  refine ⟨cb_sI (cb_sI (cb_sI σ 13 1 (τ.1 3 25 &&& (b1 c ^^^ (-1)))) (13 + 1) n (zI c)) 13 0 (zI ((n + 1 : Nat) : Int)), cb_sI (cb_sI (cb_sI τ 3 25 (τ.1 3 25 &&& (b1 c ^^^ (-1)))) 3 n (zI c)) 3 12 (zI ((n + 1 : Nat) : Int)), ?_, ?_, ?_, ?_, ?_⟩
  · unfold f_X4_takeOut
    rw [let_s, a7]
    have h := s_putBelow (cb_sI σ 13 1 (τ.1 3 25 &&& (b1 c ^^^ (-1)))) (n := n) (by rw [sI_e, upd_n _ _ (by decide)]; exact a3) (by omega) (zI c)
    unfold b1 at h ⊢
    rw [h, bv_s]
  · exact m_layBelow _ (by rw [sI_e, upd_n _ _ (by decide)]; exact a4) (by omega) _
  · refine ⟨by rw [sI_2, sI_2, sI_2], fun q h3 h4 => ?_⟩
    rw [sI_n _ _ _ (by omega), sI_n _ _ _ (by omega), sI_n _ _ _ (by omega)]
  · intro q h3 h4
    rw [sI_n _ _ _ h3, sI_n _ _ _ h3, sI_n _ _ _ h3]
  · generalize hD : τ.1 3 25 &&& (b1 c ^^^ (-1)) = D at gb ⊢
    have ev : (cb_sI (cb_sI (cb_sI τ 3 25 D) 3 n (zI c)) 3 12 (zI ((n + 1 : Nat) : Int))).1 3 = upd (upd (upd (τ.1 3) 25 D) n (zI c)) 12 (zI ((n + 1 : Nat) : Int)) := by rw [sI_e, sI_e, sI_e]
    have e13 : (cb_sI (cb_sI (cb_sI σ 13 1 D) (13 + 1) n (zI c)) 13 0 (zI ((n + 1 : Nat) : Int))).1 13 = upd (upd (σ.1 13) 1 D) 0 (zI ((n + 1 : Nat) : Int)) := by
      rw [sI_e, sI_n _ _ _ (by decide), sI_e]
    have e14 : (cb_sI (cb_sI (cb_sI σ 13 1 D) (13 + 1) n (zI c)) 13 0 (zI ((n + 1 : Nat) : Int))).1 (13 + 1) = upd (σ.1 (13 + 1)) n (zI c) := by
      rw [sI_n _ _ _ (by decide), sI_e, sI_n _ _ _ (by decide)]
    have e15 : (cb_sI (cb_sI (cb_sI σ 13 1 D) (13 + 1) n (zI c)) 13 0 (zI ((n + 1 : Nat) : Int))).1 (13 + 2) = σ.1 (13 + 2) := by
      rw [sI_n _ _ _ (by decide), sI_n _ _ _ (by decide), sI_n _ _ _ (by decide)]
    have e16 : (cb_sI (cb_sI (cb_sI σ 13 1 D) (13 + 1) n (zI c)) 13 0 (zI ((n + 1 : Nat) : Int))).1 (13 + 3) = σ.1 (13 + 3) := by
      rw [sI_n _ _ _ (by decide), sI_n _ _ _ (by decide), sI_n _ _ _ (by decide)]
    have e17 : (cb_sI (cb_sI (cb_sI σ 13 1 D) (13 + 1) n (zI c)) 13 0 (zI ((n + 1 : Nat) : Int))).1 (13 + 4) = σ.1 (13 + 4) := by
      rw [sI_n _ _ _ (by decide), sI_n _ _ _ (by decide), sI_n _ _ _ (by decide)]
    have g1 : ∀ q, 12 < q → q ≠ 25 → upd (upd (upd (τ.1 3) 25 D) n (zI c)) 12 (zI ((n + 1 : Nat) : Int)) q = τ.1 3 q := fun q hq hq2 => by rw [upd_n _ _ (by omega), upd_n _ _ (by omega), upd_n _ _ hq2]
    have g25 : upd (upd (upd (τ.1 3) 25 D) n (zI c)) 12 (zI ((n + 1 : Nat) : Int)) 25 = D := by rw [upd_n _ _ (by omega), upd_n _ _ (by omega), upd_e]
    rw [ev]
    refine ⟨by omega, a2, by rw [e13, upd_e], by rw [upd_e], by rw [e13, upd_n _ _ (by decide), upd_n _ _ (by decide)]; exact a5, ?_, ?_, ?_, ?_, a10, ?_, ?_, ?_, a14, ?_, ?_, ?_, ?_⟩
    · rw [g1 26 (by omega) (by omega)]; exact a6
    · rw [e13, upd_n _ _ (by decide), upd_e, g25]
    · intro i hi
      dsimp only
      by_cases hin : i = n
      · subst hin
        rw [e14, upd_e, if_pos rfl, upd_n _ _ (by omega), upd_e]
        exact ⟨rfl, rfl, by omega⟩
      · rw [e14, upd_n _ _ hin, if_neg hin, upd_n _ _ (by omega), upd_n _ _ hin, upd_n _ _ (by omega)]
        exact a8 i (by omega)
    · intro q hq
      rw [e15, g1 (13 + q) (by omega) (by omega)]
      exact a9 q hq
    · intro q hq
      rw [e16, g1 (19 + q) (by omega) (by omega)]; exact a11 q hq
    · intro i hi
      rw [e17, g1 (27 + i) (by omega) (by omega)]; exact a12 i hi
    · intro i j hij hj
      dsimp only
      rw [if_neg (by omega)]
      by_cases hjn : j = n
      · rw [if_pos hjn]
        intro e
        have := a16 i (by omega)
        rw [e, h1] at this; cases this
      · rw [if_neg hjn]; exact a13 i j hij (by omega)
    · intro i q hi hq
      dsimp only
      by_cases hin : i = n
      · rw [if_pos hin]
        intro e
        have := a17 q hq (by omega)
        rw [e, Int.toNat_natCast, h1] at this; cases this
      · rw [if_neg hin]; exact a15 i q (by omega) hq
    · intro i hi
      dsimp only
      rw [g25]
      by_cases hin : i = n
      · rw [if_pos hin, gb c (by omega)]; simp
      · have h8 := (a8 i (by omega)).2.2
        rw [if_neg hin, gb (pk i) (by omega), a16 i (by omega)]; rfl
    · intro q hq h3
      have hr := (a9 q hq).2.2.2
      rw [g25, gb (hd q).toNat (by omega), a17 q hq h3]; rfl
    · intro j h3 h4
      rw [g25, gb j h4, a18 j h3 h4]; rfl
end OP
