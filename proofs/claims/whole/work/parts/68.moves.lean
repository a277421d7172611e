section OP
variable {σ τ : cb_St}
theorem e13p (p : Nat) : (13 : Int32) + zI p = zI ((13 + p : Nat) : Int) := by rw [show (13 : Int32) = zI 13 from rfl, zI_add, la_13]
theorem e19p (p : Nat) : (19 : Int32) + zI p = zI ((19 + p : Nat) : Int) := by rw [show (19 : Int32) = zI 19 from rfl, zI_add, la_19]
theorem c25 : Int32.toNatClampNeg 25 = 25 := rfl
theorem c12 : Int32.toNatClampNeg 12 = 12 := rfl
theorem k25 : 0 ≤ Int32.toInt 25 ∧ Int32.toInt 25 < 51 := by decide
theorem k12 : 0 ≤ Int32.toInt 12 ∧ Int32.toInt 12 < 51 := by decide
theorem k26 : 0 ≤ Int32.toInt 26 ∧ Int32.toInt 26 < 51 := by decide
theorem c26 : Int32.toNatClampNeg 26 = 26 := rfl
theorem q_getBack (h : Rel σ τ) (x : Int32) : simI σ τ (f_X7_getBack x σ) (f_X8_getBack x τ) := by
  have h0 := h
  obtain ⟨N, Q, n, ml, pk, hd, u, y, hX, hP, hU, hS⟩ := h
  have hN := hX.1.1
  have hQ := hX.1.2.1
  obtain ⟨a, rfl, g1, g2⟩ := zI_ex x
  unfold f_X7_getBack f_X8_getBack
  rw [s_hasPerson 9 σ hX.1.2.2.2.2.1 hQ a g1 g2, m_isPerson τ hX.1.2.2.2.2.2.1 hQ a g1 g2, bp_s, bp_s]
  by_cases hp : 0 ≤ a ∧ a < Q
  · rw [if_pos hp, if_neg z10, if_neg z10]
    obtain ⟨p, rfl⟩ := Int.eq_ofNat_of_zero_le hp.1
    obtain ⟨c1, c2, c3, c4⟩ := hP.2.2.2.2.2.2.2.2.1 p (by omega)
    rw [s_cardOf 13 σ p (by omega), bp_s, c1, e13p, zI_m1]
    simp (disch := omega) only [zI_ck, zI_clamp, Int.toNat_natCast, c2]
    by_cases hd1 : hd p = -1
    · rw [if_pos (by rw [hd1]), if_neg (by rw [show (0 : Int32) = zI 0 from rfl, zI_le (by omega) (by omega) (by omega) (by omega)]; omega)]
      exact sim_no h0
    · rw [if_neg (by rw [zI_inj (by omega) (by omega) (by omega) (by omega)]; exact hd1), if_pos (by rw [show (0 : Int32) = zI 0 from rfl, zI_le (by omega) (by omega) (by omega) (by omega)]; omega)]
      obtain ⟨c, hc⟩ := Int.eq_ofNat_of_zero_le (show 0 ≤ hd p by omega)
      obtain ⟨σ1, τ1, u', y', e1, e2, hX1, hP1, hU1, hS1⟩ := r_push hX hP hU hS
      obtain ⟨σ2, τ2, f1, f2, fc, fm, hP2⟩ := r_giveBack hN hQ hP1 p c (by omega) hc
      obtain ⟨hX2, hU2, hS2⟩ := fr_rel hX1 hU1 hS1 fc fm
      obtain ⟨k1, k2, -⟩ := hP1.2.2.2.2.2.2.2.2.1 p (by omega)
      rw [e1, e2, bv_s, bv_s, f1, bi_s, let_s, f2, bv_s, k2, hc]
      exact ⟨_, _, _, rfl, rfl, N, Q, _, _, _, _, _, _, hX2, hP2, hU2, hS2⟩
  · rw [if_neg hp, if_pos z00, if_pos z00]; exact sim_no h0
theorem q_drawer (h : Rel σ τ) (x : Int32) : simI σ τ (f_X7_drawer x σ) (f_X8_drawer x τ) := by
  have h0 := h
  obtain ⟨N, Q, n, ml, pk, hd, u, y, hX, hP, hU, hS⟩ := h
  have hN := hX.1.1
  have hQ := hX.1.2.1
  obtain ⟨a, rfl, g1, g2⟩ := zI_ex x
  unfold f_X7_drawer f_X8_drawer
  rw [s_hasPerson 9 σ hX.1.2.2.2.2.1 hQ a g1 g2, m_isPerson τ hX.1.2.2.2.2.2.1 hQ a g1 g2, bp_s, bp_s]
  by_cases hp : 0 ≤ a ∧ a < Q
  · rw [if_pos hp, if_neg z10, if_neg z10]
    obtain ⟨p, rfl⟩ := Int.eq_ofNat_of_zero_le hp.1
    obtain ⟨c1, c2, c3, c4⟩ := hP.2.2.2.2.2.2.2.2.1 p (by omega)
    rw [s_cardOf 13 σ p (by omega), bp_s, c1, e13p, zI_m1]
    simp (disch := omega) only [zI_ck, zI_clamp, Int.toNat_natCast, c2]
    by_cases hd1 : hd p = -1
    · rw [if_pos (by rw [hd1]), if_neg (by rw [show (0 : Int32) = zI 0 from rfl, zI_le (by omega) (by omega) (by omega) (by omega)]; omega)]
      exact sim_no h0
    · rw [if_neg (by rw [zI_inj (by omega) (by omega) (by omega) (by omega)]; exact hd1), if_pos (by rw [show (0 : Int32) = zI 0 from rfl, zI_le (by omega) (by omega) (by omega) (by omega)]; omega)]
      obtain ⟨c, hc⟩ := Int.eq_ofNat_of_zero_le (show 0 ≤ hd p by omega)
      obtain ⟨σ1, τ1, u', y', e1, e2, hX1, hP1, hU1, hS1⟩ := r_push hX hP hU hS
      obtain ⟨σ2, f1, fc, fm, hP2⟩ := r_putAway hN hQ hP1 p c (by omega) hc
      obtain ⟨hX2, hU2, hS2⟩ := fr_rel hX1 hU1 hS1 fc fm
      obtain ⟨k1, k2, -⟩ := hP1.2.2.2.2.2.2.2.2.1 p (by omega)
      rw [e1, e2, bv_s, bv_s, f1, bi_s, let_s, let_s, ck_t _ k25, ck_t _ k25, let_s, k2, hc, c25, sI_e, upd_n _ _ (by omega)]
      exact ⟨zI c, σ2, cb_sI (cb_sI τ1 3 (13 + p) (zI (-1))) 3 25 (τ1.1 3 25 ||| b1 c), rfl, rfl, N, Q, n, ml, pk, _, u', y', hX2, hP2, hU2, hS2⟩
  · rw [if_neg hp, if_pos z00, if_pos z00]; exact sim_no h0
theorem q_out (h : Rel σ τ) (x : Int32) : simI σ τ (f_X7_out x σ) (f_X8_out x τ) := by
  have h0 := h
  obtain ⟨N, Q, n, ml, pk, hd, u, y, hX, hP, hU, hS⟩ := h
  have hN := hX.1.1
  have hQ := hX.1.2.1
  obtain ⟨a, rfl, g1, g2⟩ := zI_ex x
  unfold f_X7_out f_X8_out
  rw [s_hasCard 9 σ hX.1.2.2.1 hN a g1 g2, m_isCard τ hX.1.2.2.2.1 hN a g1 g2, bp_s, bp_s]
  by_cases hp : 0 ≤ a ∧ a < N
  · rw [if_pos hp, if_neg z10, if_neg z10, ck_t _ k25, c25]
    obtain ⟨c, rfl⟩ := Int.eq_ofNat_of_zero_le hp.1
    rw [hP.2.2.2.2.2.2.1, bit1 _ c (by omega), m_has _ c (by omega) τ, bp_s]
    by_cases hb : bt (τ.1 3 25) c = true
    · rw [if_pos hb, if_neg (by decide), if_pos hb, if_neg z10]
      obtain ⟨σ1, τ1, u', y', e1, e2, hX1, hP1, hU1, hS1⟩ := r_push hX hP hU hS
      have hb1 : bt (τ1.1 3 25) c = true := by
        have k1 := hP1.2.2.2.2.2.2.1
        have e3 : τ1.1 3 25 = τ.1 3 25 := by
          obtain ⟨g, u2, -, d1, -, -⟩ := m_remember τ u hU.2.2.2.1 hU.1
          rw [d1] at e2
          have := Option.some.inj e2
          rw [← this, sI_n _ _ _ (by decide), sA_n _ _ (by decide)]
        rw [e3]; exact hb
      obtain ⟨σ2, τ2, f1, f2, fc, fm, hP2⟩ := r_takeOut hN hQ hP1 c (by omega) hb1
      obtain ⟨hX2, hU2, hS2⟩ := fr_rel hX1 hU1 hS1 fc fm
      rw [e1, e2, bv_s, bv_s, f1, bv_s, ck_t _ k25, ck_t _ k25, let_s]
      unfold b1 at f2
      rw [f2, bv_s, ck_t _ k12, c12, hP2.2.2.1, hP2.2.2.2.1]
      exact ⟨_, _, _, rfl, rfl, N, Q, _, _, _, _, _, _, hX2, hP2, hU2, hS2⟩
    · rw [if_neg hb, if_pos rfl, if_neg hb, if_pos z00]; exact sim_no h0
  · rw [if_neg hp, if_pos z00, if_pos z00]; exact sim_no h0
theorem q_force (h : Rel σ τ) (x : Int32) : simI σ τ (f_X7_force x σ) (f_X8_force x τ) := by
  have h0 := h
  obtain ⟨N, Q, n, ml, pk, hd, u, y, hX, hP, hU, hS⟩ := h
  have hN := hX.1.1
  have hQ := hX.1.2.1
  have hn := hP.1
  obtain ⟨a, rfl, g1, g2⟩ := zI_ex x
  unfold f_X7_force f_X8_force
  rw [s_hasCard 9 σ hX.1.2.2.1 hN a g1 g2, m_isCard τ hX.1.2.2.2.1 hN a g1 g2, bp_s, bp_s]
  by_cases hp : 0 ≤ a ∧ a < N
  · rw [if_pos hp, if_neg z10, if_neg z10]
    obtain ⟨c, rfl⟩ := Int.eq_ofNat_of_zero_le hp.1
    rw [c_placeOf hN hP c (by omega), m_placeOf hN hP c (by omega), bp_s, bp_s, zI_m1]
    rcases mF_hit (fun j => pk j == c) n 0 with e | ⟨j, e, j1, j2, j3, j4⟩
    · rw [e, if_pos rfl, if_neg (by decide)]; exact sim_no h0
    · rw [e, if_neg (by rw [zI_inj (by omega) (by omega) (by omega) (by omega)]; omega), if_pos (by rw [show (0 : Int32) = zI 0 from rfl, zI_le (by omega) (by omega) (by omega) (by omega)]; omega)]
      obtain ⟨σ1, τ1, u', y', e1, e2, hX1, hP1, hU1, hS1⟩ := r_push hX hP hU hS
      obtain ⟨σ2, τ2, pk', f1, f2, fc, fm, hP2⟩ := r_raise hN hP1 j (by omega) (zI j)
      obtain ⟨hX2, hU2, hS2⟩ := fr_rel hX1 hU1 hS1 fc fm
      have ej : pk j = c := by simpa using j3
      rw [ej] at f2
      rw [e1, e2, bv_s, bv_s, f1, bv_s, f2]
      exact ⟨_, _, _, rfl, rfl, N, Q, _, _, _, _, _, _, hX2, hP2, hU2, hS2⟩
  · rw [if_neg hp, if_pos z00, if_pos z00]; exact sim_no h0
end OP
