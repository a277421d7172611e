/-! ===== the parts of the relation, each by the cells that it reads ===== -/
section PT
variable {N Q : Nat} {σ σ' τ τ' : cb_St}
theorem rlT_d (h : rlT N Q σ τ) (c9 : σ'.1 9 = σ.1 9) (c10 : σ'.1 10 = σ.1 10) (c11 : σ'.1 11 = σ.1 11) (c12 : σ'.1 12 = σ.1 12) (c2 : σ'.2 9 = σ.2 9) (m0 : ∀ j, (j ≤ 4 ∨ j = 7) → τ'.1 0 j = τ.1 0 j) (m1 : τ'.1 1 = τ.1 1) (m2 : τ'.1 2 = τ.1 2) : rlT N Q σ' τ' := by
  obtain ⟨a1, a2, a3, a4, a5, a6, a7, a8, a9, a10, a11, a12, a13, a14, a15, a16⟩ := h
  have hm : ∀ c d : Int, mT τ' c d = mT τ c d := fun c d => by
    unfold mT
    rw [m1, m2, m0 3 (by omega), m0 1 (by omega), m0 2 (by omega)]
  refine ⟨a1, a2, ?_, ?_, ?_, ?_, ?_, ?_, ?_, ?_, ?_, ?_, ?_, ?_, ?_, ?_⟩
  · rw [c9]; exact a3
  · rw [m0 4 (by omega)]; exact a4
  · rw [c9]; exact a5
  · rw [m0 7 (by omega)]; exact a6
  · rw [c9, m0 0 (by omega)]; exact a7
  · rw [m0 0 (by omega)]; exact a8
  · rw [c9, m0 0 (by omega), m0 1 (by omega)]; exact a9
  · rw [c9, m0 0 (by omega)]; exact a10
  · rw [c9, m0 2 (by omega)]; exact a11
  · rw [c9, m0 3 (by omega)]; exact a12
  · intro i hi; rw [c10, c11, m1, m2]; exact a13 i hi
  · intro i hi; rw [m1, m2]; exact a14 i hi
  · intro c d h1 h2; rw [c12, hm]; exact a15 c d h1 h2
  · intro v hv; rw [c2, m1, m2]; exact a16 v hv
theorem rlI_d (hN : N ≤ 12) (h : rlI N Q σ τ) (hc : ∀ q, 112 ≤ q → q ≤ 123 → σ'.1 q = σ.1 q) (m19 : τ'.1 19 = τ.1 19) (m20 : τ'.1 20 = τ.1 20) : rlI N Q σ' τ' := by
  intro i hi
  obtain ⟨b1, b2, b3⟩ := h i hi
  rw [hc (112 + 6 * i) (by omega) (by omega), m20, m19]
  refine ⟨b1, b2, fun hk => ?_⟩
  obtain ⟨d1, d2, n, ml, pk, hd, d3⟩ := b3 hk
  exact ⟨d1, d2, n, ml, pk, hd, rlP_c hN d3 (fun q h1 h2 => hc q (by omega) (by omega)) (fun i _ => rfl)⟩
theorem rlB_d (h : rlB N Q σ τ) (hc : ∀ q, 100 ≤ q → q ≤ 105 → σ'.1 q = σ.1 q) (m28 : τ'.1 0 28 = τ.1 0 28) (m35 : τ'.1 0 35 = τ.1 0 35) (m13 : τ'.1 13 = τ.1 13) (m14 : τ'.1 14 = τ.1 14) (m15 : τ'.1 15 = τ.1 15) (m17 : τ'.1 17 = τ.1 17) (m18 : τ'.1 18 = τ.1 18) : rlB N Q σ' τ' := by
  obtain ⟨s, w, b1, b2, b3, b4, b5, b6, b7, b8⟩ := h
  refine ⟨s, w, b1, b2, ?_, ?_, ?_, ?_, ?_, ?_⟩
  · rw [hc 100 (by omega) (by omega)]; exact b3
  · rw [m28]; exact b4
  · rw [hc 100 (by omega) (by omega)]; exact b5
  · rw [m35]; exact b6
  · intro i hi
    rw [hc 101 (by omega) (by omega), hc 102 (by omega) (by omega), hc 103 (by omega) (by omega), m13, m14, m15]
    exact b7 i hi
  · intro i hi
    rw [hc 104 (by omega) (by omega), hc 105 (by omega) (by omega), m17, m18]
    exact b8 i hi
theorem rlR_d (h : rlR σ τ) (c32 : σ'.1 3 2 = σ.1 3 2) (c33 : σ'.1 3 3 = σ.1 3 3) (c8 : σ'.1 8 = σ.1 8) (m11 : τ'.1 0 11 = τ.1 0 11) (m12 : τ'.1 0 12 = τ.1 0 12) (m4 : τ'.1 4 = τ.1 4) : rlR σ' τ' := by
  obtain ⟨L, b1, b2, b3, b4, b5⟩ := h
  refine ⟨L, b1, by rw [c33]; exact b2, by rw [m11]; exact b3, by rw [c32, m12]; exact b4, fun i hi => ?_⟩
  rw [c8, m4]; exact b5 i hi
end PT
section OP
variable {σ τ : cb_St}
theorem q_fault (h : Rel σ τ) : ∃ r, f_X7_fault σ = some r ∧ f_X8_fault τ = some r := by
  obtain ⟨N, Q, n, ml, pk, hd, u, z, hX, hP, hU, hS⟩ := h
  obtain ⟨L, -, -, -, e, -⟩ := hX.2.2.2
  exact ⟨_, rfl, by unfold f_X8_fault; rw [e]⟩
theorem q_seed (h : Rel σ τ) (x : Int32) : simI σ τ (f_X7_seed x σ) (f_X8_seed x τ) := by
  have h0 := h
  obtain ⟨N, Q, n, ml, pk, hd, u, z, hX, hP, hU, hS⟩ := h
  have hN := hX.1.1
  obtain ⟨a, rfl, g1, g2⟩ := zI_ex x
  unfold f_X7_seed f_X8_seed
  by_cases g : 0 ≤ a
  · obtain ⟨b, rfl⟩ := Int.eq_ofNat_of_zero_le g
    rw [if_pos (by rw [show (0 : Int32) = zI 0 from rfl, zI_le (by omega) (by omega) (by omega) (by omega)]; omega), if_pos (by rw [show (0 : Int32) = zI 0 from rfl, zI_le (by omega) (by omega) (by omega) (by omega)]; omega)]
    simp only [let_s]
    rw [hS.1]
    refine ⟨_, _, _, rfl, rfl, N, Q, n, ml, pk, hd, u, z, ?_, ?_, ?_, ?_⟩
    · exact rlX_c hX ⟨sI_2 _ _ _ _, fun q h => sI_n _ _ _ (by omega)⟩ ⟨fun j h => by rw [sI_e, upd_n _ _ (by omega)], fun q h => sI_n _ _ _ (by omega)⟩
    · exact rlP_c hN hP (fun q h1 h2 => sI_n _ _ _ (by omega)) (fun i _ => by rw [sI_n _ _ _ (by decide)])
    · exact rlU_c hN hU (fun q h => sI_n _ _ _ (by omega)) (by rw [sI_e, upd_n _ _ (by decide)]) (sI_n _ _ _ (by decide))
    · exact ⟨by rw [sI_e, sI_e, upd_e, upd_e], b, by rw [sI_e, upd_e], by omega⟩
  · rw [if_neg (by rw [show (0 : Int32) = zI 0 from rfl, zI_le (by omega) (by omega) (by omega) (by omega)]; omega), if_neg (by rw [show (0 : Int32) = zI 0 from rfl, zI_le (by omega) (by omega) (by omega) (by omega)]; omega)]
    exact sim_no h0
theorem q_feed (h : Rel σ τ) (x : Int32) : simI σ τ (f_X7_feed x σ) (f_X8_feed x τ) := by
  have h0 := h
  obtain ⟨N, Q, n, ml, pk, hd, u, z, hX, hP, hU, hS⟩ := h
  have hN := hX.1.1
  obtain ⟨L, l1, l2, l3, l4, l5⟩ := hX.2.2.2
  obtain ⟨a, rfl, g1, g2⟩ := zI_ex x
  unfold f_X7_feed f_X7_feed_11 f_X8_feed
  rw [s_in, bp_s, zI_64 g1 g2, l64_0, show (255 : Int64).toInt = 255 from by decide]
  have c1 : (zI a < 0) = (a < 0) := by rw [show (0 : Int32) = zI 0 from rfl, zI_lt g1 g2 (by omega) (by omega)]
  have c2 : (zI a ≤ 255) = (a ≤ 255) := by rw [show (255 : Int32) = zI 255 from rfl, zI_le g1 g2 (by omega) (by omega)]
  simp only [c1, c2]
  by_cases g : 0 ≤ a ∧ a ≤ 255
  · rw [if_neg (by omega), if_pos (by omega), if_pos g, if_neg z10]
    obtain ⟨b, rfl⟩ := Int.eq_ofNat_of_zero_le g.1
    unfold f_X5_add f_X5_add_17
    rw [l2, l3]
    rw [if_neg (by rw [show (0 : Int32) = zI 0 from rfl, zI_lt (by omega) (by omega) (by omega) (by omega)]; omega)]
    by_cases hL : L = 240
    · rw [if_neg (by rw [show (240 : Int32) = zI 240 from rfl, zI_lt (by omega) (by omega) (by omega) (by omega)]; omega), if_pos (by rw [hL]; rfl), bi_s, if_pos rfl]
      exact sim_no h0
    · rw [if_pos (by rw [show (240 : Int32) = zI 240 from rfl, zI_lt (by omega) (by omega) (by omega) (by omega)]; omega), if_neg (by rw [show (240 : Int32) = zI 240 from rfl, zI_inj (by omega) (by omega) (by omega) (by omega)]; omega)]
      rw [zI_ck _ (by omega) (by omega) (by omega), zI_ck _ (by omega) (by omega) (by omega), zI_clamp (by omega) (by omega), Int.toNat_natCast]
      simp only [let_s]
      rw [bi_s, if_neg (by decide), sI_e, upd_e, sI_n σ _ _ (by decide), l2, sI_e, upd_e, sI_n τ _ _ (by decide), l3]
      rw [show zI (L : Int) + 1 = zI ((L + 1 : Nat) : Int) from by rw [show (1 : Int32) = zI 1 from rfl, zI_add, al_1]]
      refine ⟨_, _, _, rfl, rfl, N, Q, n, ml, pk, hd, u, z, ⟨?_, ?_, ?_, ?_⟩, ?_, ?_, ?_⟩
      · exact rlT_d hX.1 (by rw [sI_n _ _ _ (by decide), sI_n _ _ _ (by decide)]) (by rw [sI_n _ _ _ (by decide), sI_n _ _ _ (by decide)]) (by rw [sI_n _ _ _ (by decide), sI_n _ _ _ (by decide)]) (by rw [sI_n _ _ _ (by decide), sI_n _ _ _ (by decide)]) rfl (fun j hj => by rw [sI_e, upd_n _ _ (by omega), sI_n _ _ _ (by decide)]) (by rw [sI_n _ _ _ (by decide), sI_n _ _ _ (by decide)]) (by rw [sI_n _ _ _ (by decide), sI_n _ _ _ (by decide)])
      · exact rlI_d hN hX.2.1 (fun q h1 h2 => by rw [sI_n _ _ _ (by omega), sI_n _ _ _ (by omega)]) (by rw [sI_n _ _ _ (by decide), sI_n _ _ _ (by decide)]) (by rw [sI_n _ _ _ (by decide), sI_n _ _ _ (by decide)])
      · exact rlB_d hX.2.2.1 (fun q h1 h2 => by rw [sI_n _ _ _ (by omega), sI_n _ _ _ (by omega)]) (by rw [sI_e, upd_n _ _ (by decide), sI_n _ _ _ (by decide)]) (by rw [sI_e, upd_n _ _ (by decide), sI_n _ _ _ (by decide)]) (by rw [sI_n _ _ _ (by decide), sI_n _ _ _ (by decide)]) (by rw [sI_n _ _ _ (by decide), sI_n _ _ _ (by decide)]) (by rw [sI_n _ _ _ (by decide), sI_n _ _ _ (by decide)]) (by rw [sI_n _ _ _ (by decide), sI_n _ _ _ (by decide)]) (by rw [sI_n _ _ _ (by decide), sI_n _ _ _ (by decide)])
      · refine ⟨L + 1, by omega, by rw [sI_e, upd_e], by rw [sI_e, upd_e], by rw [sI_e, upd_n _ _ (by decide), sI_n _ _ _ (by decide), sI_e, upd_n _ _ (by decide), sI_n _ _ _ (by decide)]; exact l4, fun i hi => ?_⟩
        rw [sI_n _ _ _ (by decide), sI_e, sI_n _ _ _ (by decide), sI_e]
        by_cases e : i = L
        · rw [e, upd_e, upd_e]; exact ⟨rfl, b, rfl, by omega⟩
        · rw [upd_n _ _ e, upd_n _ _ e]; exact l5 i (by omega)
      · exact rlP_c hN hP (fun q h1 h2 => by rw [sI_n _ _ _ (by omega), sI_n _ _ _ (by omega)]) (fun i _ => by rw [sI_n _ _ _ (by decide), sI_n _ _ _ (by decide)])
      · exact rlU_c hN hU (fun q h => by rw [sI_n _ _ _ (by omega), sI_n _ _ _ (by omega)]) (by rw [sI_e, upd_n _ _ (by decide), sI_n _ _ _ (by decide)]) (by rw [sI_n _ _ _ (by decide), sI_n _ _ _ (by decide)])
      · exact rlS_c hS (by rw [sI_n _ _ _ (by decide), sI_n _ _ _ (by decide)]) (by rw [sI_e, upd_n _ _ (by decide), sI_n _ _ _ (by decide)])
  · rw [if_neg g, if_pos z00]
    by_cases g3 : a < 0
    · rw [if_pos g3]; exact sim_no h0
    · rw [if_neg g3, if_neg (by omega)]; exact sim_no h0
theorem q_tear (h : Rel σ τ) : simI σ τ (f_X7_tear σ) (f_X8_tear τ) := by
  obtain ⟨N, Q, n, ml, pk, hd, u, z, hX, hP, hU, hS⟩ := h
  have hN := hX.1.1
  obtain ⟨s, w, b1, b2, b3, b4, b5, b6, b7, b8⟩ := hX.2.2.1
  unfold f_X7_tear f_X2_empty f_X8_tear
  simp only [let_s]
  rw [bv_s, b3, b4, b5, b6]
  refine ⟨_, _, _, rfl, rfl, N, Q, n, ml, pk, hd, u, z, ⟨?_, ?_, ?_, ?_⟩, ?_, ?_, ?_⟩
  · exact rlT_d hX.1 (by rw [sI_n _ _ _ (by decide), sI_n _ _ _ (by decide)]) (by rw [sI_n _ _ _ (by decide), sI_n _ _ _ (by decide)]) (by rw [sI_n _ _ _ (by decide), sI_n _ _ _ (by decide)]) (by rw [sI_n _ _ _ (by decide), sI_n _ _ _ (by decide)]) rfl (fun j hj => by rw [sI_e, upd_n _ _ (by omega), sI_e, upd_n _ _ (by omega)]) (by rw [sI_n _ _ _ (by decide), sI_n _ _ _ (by decide)]) (by rw [sI_n _ _ _ (by decide), sI_n _ _ _ (by decide)])
  · exact rlI_d hN hX.2.1 (fun q h1 h2 => by rw [sI_n _ _ _ (by omega), sI_n _ _ _ (by omega)]) (by rw [sI_n _ _ _ (by decide), sI_n _ _ _ (by decide)]) (by rw [sI_n _ _ _ (by decide), sI_n _ _ _ (by decide)])
  · refine ⟨0, 0, by omega, by omega, ?_, ?_, ?_, ?_, fun i hi => absurd hi (by omega), fun i hi => absurd hi (by omega)⟩
    · rw [sI_e, upd_n _ _ (by decide), sI_e, upd_e]; rfl
    · rw [sI_e, upd_n _ _ (by decide), sI_e, upd_e]; rfl
    · rw [sI_e, upd_e]; rfl
    · rw [sI_e, upd_e]; rfl
  · exact rlR_d hX.2.2.2 (by rw [sI_n _ _ _ (by decide), sI_n _ _ _ (by decide)]) (by rw [sI_n _ _ _ (by decide), sI_n _ _ _ (by decide)]) (by rw [sI_n _ _ _ (by decide), sI_n _ _ _ (by decide)]) (by rw [sI_e, upd_n _ _ (by decide), sI_e, upd_n _ _ (by decide)]) (by rw [sI_e, upd_n _ _ (by decide), sI_e, upd_n _ _ (by decide)]) (by rw [sI_n _ _ _ (by decide), sI_n _ _ _ (by decide)])
  · exact rlP_c hN hP (fun q h1 h2 => by rw [sI_n _ _ _ (by omega), sI_n _ _ _ (by omega)]) (fun i _ => by rw [sI_n _ _ _ (by decide), sI_n _ _ _ (by decide)])
  · exact rlU_c hN hU (fun q h => by rw [sI_n _ _ _ (by omega), sI_n _ _ _ (by omega)]) (by rw [sI_e, upd_n _ _ (by decide), sI_e, upd_n _ _ (by decide)]) (by rw [sI_n _ _ _ (by decide), sI_n _ _ _ (by decide)])
  · exact rlS_c hS (by rw [sI_n _ _ _ (by decide), sI_n _ _ _ (by decide)]) (by rw [sI_e, upd_n _ _ (by decide), sI_e, upd_n _ _ (by decide)])
end OP
