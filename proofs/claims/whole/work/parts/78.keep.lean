section OP
variable {σ τ : cb_St}
theorem q_keep (h : Rel σ τ) (x : Int32) : simI σ τ (f_X7_keep x σ) (f_X8_keep x τ) := by
  have h0 := h
  obtain ⟨N, Q, n, ml, pk, hd, u, z, hX, hP, hU, hS⟩ := h
  have hN := hX.1.1
  obtain ⟨a, rfl, g1, g2⟩ := zI_ex x
  unfold f_X7_keep f_X7_keep_9 f_X8_keep
  rw [s_in, bp_s, zI_64 g1 g2, l64_0, show (1 : Int64).toInt = 1 from by decide]
  have c1 : (zI a < 0) = (a < 0) := by rw [show (0 : Int32) = zI 0 from rfl, zI_lt g1 g2 (by omega) (by omega)]
  have c2 : (zI a < 2) = (a < 2) := by rw [show (2 : Int32) = zI 2 from rfl, zI_lt g1 g2 (by omega) (by omega)]
  simp only [c1, c2]
  by_cases hp : 0 ≤ a ∧ a ≤ 1
  · rw [if_neg (by omega), if_pos (by omega), if_pos hp, if_neg z10]
    obtain ⟨k, rfl⟩ := Int.eq_ofNat_of_zero_le hp.1
    obtain ⟨g, m1, m2, m3, m4⟩ := m_keep_15 k (by omega) 51 0 cb_fu τ (by omega) (by unfold cb_fu; omega)
    rw [show f_X8_keep_15 (zI k) cb_fu τ 0 = _ from m1]
    obtain ⟨σ1, d0, d1, d2, d3, d4, d5, d6, d7, d8, d9⟩ := s_become (111 + 1 + 6 * k + 1) 13 (by omega) σ
    have e0 : σ1.1 0 0 = τ.1 0 9 := by rw [d8 0 (by omega)]; exact hS.1
    simp (disch := omega) only [zI_ck, zI_clamp, Int.toNat_natCast, let_s]
    rw [d0, bv_s, e0]
    unfold f_X3_forget
    rw [let_s, bv_s]
    have hc : ∀ q, q ≠ 18 → (q < 112 + 6 * k ∨ 118 + 6 * k ≤ q) → (cb_sI (cb_sI (cb_sI σ1 (111 + 1 + 6 * k) 1 (τ.1 0 9)) (111 + 1 + 6 * k) 0 1) 18 0 0).1 q = σ.1 q := fun q h1 h2 => by
      rw [sI_n _ _ _ h1, sI_n _ _ _ (by omega), sI_n _ _ _ (by omega), d8 q (by omega)]
    refine ⟨_, _, _, rfl, rfl, N, Q, n, ml, pk, hd, 0, z, ⟨?_, ?_, ?_, ?_⟩, ?_, ?_, ?_⟩
    · exact rlT_d hX.1 (hc 9 (by omega) (by omega)) (hc 10 (by omega) (by omega)) (hc 11 (by omega) (by omega)) (hc 12 (by omega) (by omega)) (by rw [sI_2, sI_2, sI_2, d9]) (fun j hj => by rw [sI_e, upd_n _ _ (by omega), sI_n _ _ _ (by decide), sA_n _ _ (by decide)]) (by rw [sI_n _ _ _ (by decide), sI_n _ _ _ (by decide), sA_n _ _ (by decide)]) (by rw [sI_n _ _ _ (by decide), sI_n _ _ _ (by decide), sA_n _ _ (by decide)])
    · intro i hi
      have e20 : (cb_sI (cb_sI (cb_sA τ 19 g) 20 k 1) 0 22 0).1 20 = upd (τ.1 20) k 1 := by rw [sI_n _ _ _ (by decide), sI_e, sA_n _ _ (by decide)]
      have e19 : (cb_sI (cb_sI (cb_sA τ 19 g) 20 k 1) 0 22 0).1 19 = g := by rw [sI_n _ _ _ (by decide), sI_n _ _ _ (by decide), sA_e]
      rw [e20, e19]
      by_cases hik : i = k
      · subst hik
        have er : (cb_sI (cb_sI (cb_sI σ1 (111 + 1 + 6 * i) 1 (τ.1 0 9)) (111 + 1 + 6 * i) 0 1) 18 0 0).1 (112 + 6 * i) = upd (upd (σ1.1 (112 + 6 * i)) 1 (τ.1 0 9)) 0 1 := by
          rw [sI_n _ _ _ (by omega)]
          show (cb_sI (cb_sI σ1 (112 + 6 * i) 1 (τ.1 0 9)) (112 + 6 * i) 0 1).1 (112 + 6 * i) = _
          rw [sI_e, sI_e]
        rw [er, upd_e, upd_e, upd_n _ _ (by decide), upd_e]
        refine ⟨rfl, Or.inr rfl, fun _ => ⟨m3.symm, ?_, n, ml, pk, hd, ?_⟩⟩
        · rw [m3]; exact hS.2
        · refine rlP_k (σ := σ) (k2 := 13) hN hP ?_ ?_ ?_ (fun j hj => ?_) (fun j hj => ?_) (fun j hj => ?_) (fun j hj => ?_) (fun j hj => ?_)
          · rw [sI_n _ _ _ (by omega), sI_n _ _ _ (by omega), sI_n _ _ _ (by omega), show 113 + 6 * i = 111 + 1 + 6 * i + 1 from by omega]; exact d1
          · rw [sI_n _ _ _ (by omega), sI_n _ _ _ (by omega), sI_n _ _ _ (by omega), show 113 + 6 * i = 111 + 1 + 6 * i + 1 from by omega]; exact d2
          · rw [sI_n _ _ _ (by omega), sI_n _ _ _ (by omega), sI_n _ _ _ (by omega), show 113 + 6 * i = 111 + 1 + 6 * i + 1 from by omega]; exact d3
          · rw [sI_n _ _ _ (by omega), sI_n _ _ _ (by omega), sI_n _ _ _ (by omega), show 113 + 6 * i = 111 + 1 + 6 * i + 1 from by omega]; exact d4 j hj
          · rw [sI_n _ _ _ (by omega), sI_n _ _ _ (by omega), sI_n _ _ _ (by omega), show 113 + 6 * i = 111 + 1 + 6 * i + 1 from by omega]; exact d5 j hj
          · rw [sI_n _ _ _ (by omega), sI_n _ _ _ (by omega), sI_n _ _ _ (by omega), show 113 + 6 * i = 111 + 1 + 6 * i + 1 from by omega]; exact d6 j hj
          · rw [sI_n _ _ _ (by omega), sI_n _ _ _ (by omega), sI_n _ _ _ (by omega), show 113 + 6 * i = 111 + 1 + 6 * i + 1 from by omega]; exact d7 j hj
          · exact m2 j (by omega) hj
      · obtain ⟨b1, b2, b3⟩ := hX.2.1 i hi
        rw [hc (112 + 6 * i) (by omega) (by omega), upd_n _ _ hik]
        refine ⟨b1, b2, fun hk => ?_⟩
        obtain ⟨f1, f2, n2, ml2, pk2, hd2, f3⟩ := b3 hk
        have eg : ∀ j, j < 52 → g (52 * i + j) = τ.1 19 (52 * i + j) := fun j hj => m4 _ (by omega)
        rw [eg 51 (by omega)]
        exact ⟨f1, f2, n2, ml2, pk2, hd2, rlP_c hN f3 (fun q h1 h2 => hc q (by omega) (by omega)) (fun j hj => eg j (by omega))⟩
    · exact rlB_d hX.2.2.1 (fun q h1 h2 => hc q (by omega) (by omega)) (by rw [sI_e, upd_n _ _ (by decide), sI_n _ _ _ (by decide), sA_n _ _ (by decide)]) (by rw [sI_e, upd_n _ _ (by decide), sI_n _ _ _ (by decide), sA_n _ _ (by decide)]) (by rw [sI_n _ _ _ (by decide), sI_n _ _ _ (by decide), sA_n _ _ (by decide)]) (by rw [sI_n _ _ _ (by decide), sI_n _ _ _ (by decide), sA_n _ _ (by decide)]) (by rw [sI_n _ _ _ (by decide), sI_n _ _ _ (by decide), sA_n _ _ (by decide)]) (by rw [sI_n _ _ _ (by decide), sI_n _ _ _ (by decide), sA_n _ _ (by decide)]) (by rw [sI_n _ _ _ (by decide), sI_n _ _ _ (by decide), sA_n _ _ (by decide)])
    · exact rlR_d hX.2.2.2 (by rw [hc 3 (by omega) (by omega)]) (by rw [hc 3 (by omega) (by omega)]) (hc 8 (by omega) (by omega)) (by rw [sI_e, upd_n _ _ (by decide), sI_n _ _ _ (by decide), sA_n _ _ (by decide)]) (by rw [sI_e, upd_n _ _ (by decide), sI_n _ _ _ (by decide), sA_n _ _ (by decide)]) (by rw [sI_n _ _ _ (by decide), sI_n _ _ _ (by decide), sA_n _ _ (by decide)])
    · exact rlP_c hN hP (fun q h1 h2 => hc q (by omega) (by omega)) (fun i _ => by rw [sI_n _ _ _ (by decide), sI_n _ _ _ (by decide), sA_n _ _ (by decide)])
    · refine ⟨by omega, hU.2.1, by rw [sI_e, upd_e]; rfl, by rw [sI_e, upd_e]; rfl, ?_, fun j hj => absurd hj (by omega)⟩
      rw [sI_e, upd_n _ _ (by decide), sI_n _ _ _ (by omega), sI_n _ _ _ (by omega), d8 18 (by omega)]
      exact hU.2.2.2.2.1
    · exact rlS_c hS (by rw [hc 0 (by omega) (by omega)]) (by rw [sI_e, upd_n _ _ (by decide), sI_n _ _ _ (by decide), sA_n _ _ (by decide)])
  · rw [if_neg hp, if_pos z00]
    by_cases g : a < 0
    · rw [if_pos g]; exact sim_no h0
    · rw [if_neg g, if_neg (by omega)]; exact sim_no h0
theorem q_goBack (h : Rel σ τ) (x : Int32) : simI σ τ (f_X7_goBack x σ) (f_X8_goBack x τ) := by
  have h0 := h
  obtain ⟨N, Q, n, ml, pk, hd, u, z, hX, hP, hU, hS⟩ := h
  have hN := hX.1.1
  obtain ⟨a, rfl, g1, g2⟩ := zI_ex x
  unfold f_X7_goBack f_X7_goBack_9 f_X8_goBack
  rw [s_in, bp_s, zI_64 g1 g2, l64_0, show (1 : Int64).toInt = 1 from by decide]
  have c1 : (zI a < 0) = (a < 0) := by rw [show (0 : Int32) = zI 0 from rfl, zI_lt g1 g2 (by omega) (by omega)]
  have c2 : (zI a < 2) = (a < 2) := by rw [show (2 : Int32) = zI 2 from rfl, zI_lt g1 g2 (by omega) (by omega)]
  simp only [c1, c2]
  by_cases hp : 0 ≤ a ∧ a ≤ 1
  · rw [if_neg (by omega), if_pos (by omega), if_pos hp, if_neg z10]
    obtain ⟨k, rfl⟩ := Int.eq_ofNat_of_zero_le hp.1
    obtain ⟨b1, b2, b3⟩ := hX.2.1 k (by omega)
    simp (disch := omega) only [zI_ck, zI_clamp, Int.toNat_natCast, let_s]
    rw [show 111 + 1 + 6 * k = 112 + 6 * k from rfl, b1]
    by_cases hk : τ.1 20 k = 0
    · rw [if_pos hk, if_pos hk]; exact sim_no h0
    · rw [if_neg hk, if_neg hk]
      have hk1 : τ.1 20 k = zI 1 := by
        rcases b2 with e | e
        · exact absurd e hk
        · exact e
      obtain ⟨f1, f2, n2, ml2, pk2, hd2, f3⟩ := b3 hk1
      obtain ⟨g, m1, m2, m3⟩ := m_goBack_27 k (by omega) 51 0 cb_fu τ (by omega) (by unfold cb_fu; omega)
      rw [show f_X8_goBack_27 (zI k) cb_fu τ 0 = _ from m1]
      obtain ⟨σ1, d0, d1, d2, d3, d4, d5, d6, d7, d8, d9⟩ := s_become 13 (112 + 6 * k + 1) (by omega) σ
      have e0 : σ1.1 (112 + 6 * k) 1 = τ.1 19 (52 * k + 51) := by rw [d8 (112 + 6 * k) (by omega)]; exact f1
      rw [d0, bv_s, e0]
      unfold f_X3_forget
      rw [let_s, bv_s]
      have hc : ∀ q, q ≠ 18 → q ≠ 0 → (q < 13 ∨ 18 ≤ q) → (cb_sI (cb_sI σ1 0 0 (τ.1 19 (52 * k + 51))) 18 0 0).1 q = σ.1 q := fun q h1 h2 h3 => by
        rw [sI_n _ _ _ h1, sI_n _ _ _ h2, d8 q (by omega)]
      refine ⟨_, _, _, rfl, rfl, N, Q, n2, ml2, pk2, hd2, 0, z, ⟨?_, ?_, ?_, ?_⟩, ?_, ?_, ?_⟩
      · exact rlT_d hX.1 (hc 9 (by omega) (by omega) (by omega)) (hc 10 (by omega) (by omega) (by omega)) (hc 11 (by omega) (by omega) (by omega)) (hc 12 (by omega) (by omega) (by omega)) (by rw [sI_2, sI_2, d9]) (fun j hj => by rw [sI_e, upd_n _ _ (by omega), sI_e, upd_n _ _ (by omega), sA_n _ _ (by decide)]) (by rw [sI_n _ _ _ (by decide), sI_n _ _ _ (by decide), sA_n _ _ (by decide)]) (by rw [sI_n _ _ _ (by decide), sI_n _ _ _ (by decide), sA_n _ _ (by decide)])
      · exact rlI_d hN hX.2.1 (fun q h1 h2 => hc q (by omega) (by omega) (by omega)) (by rw [sI_n _ _ _ (by decide), sI_n _ _ _ (by decide), sA_n _ _ (by decide)]) (by rw [sI_n _ _ _ (by decide), sI_n _ _ _ (by decide), sA_n _ _ (by decide)])
      · exact rlB_d hX.2.2.1 (fun q h1 h2 => hc q (by omega) (by omega) (by omega)) (by rw [sI_e, upd_n _ _ (by decide), sI_e, upd_n _ _ (by decide), sA_n _ _ (by decide)]) (by rw [sI_e, upd_n _ _ (by decide), sI_e, upd_n _ _ (by decide), sA_n _ _ (by decide)]) (by rw [sI_n _ _ _ (by decide), sI_n _ _ _ (by decide), sA_n _ _ (by decide)]) (by rw [sI_n _ _ _ (by decide), sI_n _ _ _ (by decide), sA_n _ _ (by decide)]) (by rw [sI_n _ _ _ (by decide), sI_n _ _ _ (by decide), sA_n _ _ (by decide)]) (by rw [sI_n _ _ _ (by decide), sI_n _ _ _ (by decide), sA_n _ _ (by decide)]) (by rw [sI_n _ _ _ (by decide), sI_n _ _ _ (by decide), sA_n _ _ (by decide)])
      · exact rlR_d hX.2.2.2 (by rw [hc 3 (by omega) (by omega) (by omega)]) (by rw [hc 3 (by omega) (by omega) (by omega)]) (hc 8 (by omega) (by omega) (by omega)) (by rw [sI_e, upd_n _ _ (by decide), sI_e, upd_n _ _ (by decide), sA_n _ _ (by decide)]) (by rw [sI_e, upd_n _ _ (by decide), sI_e, upd_n _ _ (by decide), sA_n _ _ (by decide)]) (by rw [sI_n _ _ _ (by decide), sI_n _ _ _ (by decide), sA_n _ _ (by decide)])
      · rw [sI_n _ _ _ (by decide), sI_n _ _ _ (by decide), sA_e]
        have ek : 113 + 6 * k = 112 + 6 * k + 1 := by omega
        rw [ek] at f3
        refine rlP_k (σ := σ) (k2 := 112 + 6 * k + 1) hN f3 ?_ ?_ ?_ (fun j hj => ?_) (fun j hj => ?_) (fun j hj => ?_) (fun j hj => ?_) (fun j hj => ?_)
        · rw [sI_n _ _ _ (by omega), sI_n _ _ _ (by omega)]; exact d1
        · rw [sI_n _ _ _ (by omega), sI_n _ _ _ (by omega)]; exact d2
        · rw [sI_n _ _ _ (by omega), sI_n _ _ _ (by omega)]; exact d3
        · rw [sI_n _ _ _ (by omega), sI_n _ _ _ (by omega)]; exact d4 j hj
        · rw [sI_n _ _ _ (by omega), sI_n _ _ _ (by omega)]; exact d5 j hj
        · rw [sI_n _ _ _ (by omega), sI_n _ _ _ (by omega)]; exact d6 j hj
        · rw [sI_n _ _ _ (by omega), sI_n _ _ _ (by omega)]; exact d7 j hj
        · exact m2 j (by omega) hj
      · refine ⟨by omega, hU.2.1, by rw [sI_e, upd_e]; rfl, by rw [sI_e, upd_e]; rfl, ?_, fun j hj => absurd hj (by omega)⟩
        rw [sI_e, upd_n _ _ (by decide), sI_n _ _ _ (by decide), d8 18 (by omega)]
        exact hU.2.2.2.2.1
      · obtain ⟨a2, f4, f5⟩ := f2
        exact ⟨by rw [sI_n _ _ _ (by decide), sI_e, upd_e, sI_e, upd_n _ _ (by decide), sI_e, upd_e], a2, by rw [sI_e, upd_n _ _ (by decide), sI_e, upd_e]; exact f4, f5⟩
  · rw [if_neg hp, if_pos z00]
    by_cases g : a < 0
    · rw [if_pos g]; exact sim_no h0
    · rw [if_neg g, if_neg (by omega)]; exact sim_no h0
end OP
