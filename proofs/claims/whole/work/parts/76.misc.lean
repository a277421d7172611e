section OP
variable {σ τ : cb_St}
theorem plus1 (L : Nat) : zI (L : Int) + 1 = zI ((L + 1 : Nat) : Int) := by rw [show (1 : Int32) = zI 1 from rfl, zI_add, al_1]
theorem q_see (h : Rel σ τ) (x y w : Int32) : simI σ τ (f_X7_see x y w σ) (f_X8_see x y w τ) := by
  have h0 := h
  obtain ⟨N, Q, n, ml, pk, hd, u, z, hX, hP, hU, hS⟩ := h
  have hN := hX.1.1
  have hQ := hX.1.2.1
  obtain ⟨s, t, b1, b2, b3, b4, b5, b6, b7, b8⟩ := hX.2.2.1
  obtain ⟨a, rfl, g1, g2⟩ := zI_ex x
  obtain ⟨b, rfl, g3, g4⟩ := zI_ex y
  obtain ⟨c, rfl, g5, g6⟩ := zI_ex w
  unfold f_X7_see f_X7_see_24 f_X8_see
  rw [s_hasTwo hX.1.2.2.2.2.1 hQ a b g1 g2 g3 g4, m_areTwo hX.1.2.2.2.2.2.1 hQ a b g1 g2 g3 g4, bp_s, bp_s]
  by_cases hp : 0 ≤ a ∧ a < Q ∧ 0 ≤ b ∧ b < Q ∧ a ≠ b
  · rw [if_pos hp, if_neg z10, if_neg z10, s_in, bp_s, zI_64 g5 g6, l64_0, show (2 : Int64).toInt = 2 from by decide]
    have c1 : (zI c < 0) = (c < 0) := by rw [show (0 : Int32) = zI 0 from rfl, zI_lt g5 g6 (by omega) (by omega)]
    have c2 : (zI c ≤ 2) = (c ≤ 2) := by rw [show (2 : Int32) = zI 2 from rfl, zI_le g5 g6 (by omega) (by omega)]
    simp only [c1, c2]
    by_cases hc : 0 ≤ c ∧ c ≤ 2
    · rw [if_neg (by omega), if_pos (by omega), if_pos hc, if_neg z10]
      obtain ⟨p, rfl⟩ := Int.eq_ofNat_of_zero_le hp.1
      obtain ⟨q, rfl⟩ := Int.eq_ofNat_of_zero_le hp.2.2.1
      obtain ⟨r, rfl⟩ := Int.eq_ofNat_of_zero_le hc.1
      unfold f_X2_addSeen f_X2_addSeen_16
      rw [b3, b4]
      rw [if_neg (by rw [show (0 : Int32) = zI 0 from rfl, zI_lt (by omega) (by omega) (by omega) (by omega)]; omega)]
      by_cases h6 : s = 6
      · rw [if_neg (by rw [show (6 : Int32) = zI 6 from rfl, zI_lt (by omega) (by omega) (by omega) (by omega)]; omega), if_pos (by rw [h6]; rfl), bi_s, if_pos rfl]
        exact sim_no h0
      · rw [if_pos (by rw [show (6 : Int32) = zI 6 from rfl, zI_lt (by omega) (by omega) (by omega) (by omega)]; omega), if_neg (by rw [show (6 : Int32) = zI 6 from rfl, zI_inj (by omega) (by omega) (by omega) (by omega)]; omega)]
        have r1 : ∀ v : Int32, (cb_sI σ 101 s v).1 100 = σ.1 100 := fun v => sI_n _ _ _ (by decide)
        have r2 : ∀ v w : Int32, (cb_sI (cb_sI σ 101 s v) 102 s w).1 100 = σ.1 100 := fun v w => by rw [sI_n _ _ _ (by decide), sI_n _ _ _ (by decide)]
        have r3 : ∀ v w y : Int32, (cb_sI (cb_sI (cb_sI σ 101 s v) 102 s w) 103 s y).1 100 = σ.1 100 := fun v w y => by rw [sI_n _ _ _ (by decide), sI_n _ _ _ (by decide), sI_n _ _ _ (by decide)]
        have t1 : ∀ v : Int32, (cb_sI τ 13 s v).1 0 = τ.1 0 := fun v => sI_n _ _ _ (by decide)
        have t2 : ∀ v w : Int32, (cb_sI (cb_sI τ 13 s v) 14 s w).1 0 = τ.1 0 := fun v w => by rw [sI_n _ _ _ (by decide), sI_n _ _ _ (by decide)]
        have t3 : ∀ v w y : Int32, (cb_sI (cb_sI (cb_sI τ 13 s v) 14 s w) 15 s y).1 0 = τ.1 0 := fun v w y => by rw [sI_n _ _ _ (by decide), sI_n _ _ _ (by decide), sI_n _ _ _ (by decide)]
        simp (disch := omega) only [zI_ck, zI_clamp, Int.toNat_natCast, let_s, r1, r2, r3, t1, t2, t3, b3, b4]
        rw [bi_s, if_neg (by decide), plus1, sI_e, upd_e, sI_e, upd_e]
        refine ⟨_, _, _, rfl, rfl, N, Q, n, ml, pk, hd, u, z, ⟨?_, ?_, ?_, ?_⟩, ?_, ?_, ?_⟩
        · exact rlT_d hX.1 (by simp (disch := omega) only [sI_n]) (by simp (disch := omega) only [sI_n]) (by simp (disch := omega) only [sI_n]) (by simp (disch := omega) only [sI_n]) rfl (fun j hj => by rw [sI_e, upd_n _ _ (by omega), t3]) (by simp (disch := omega) only [sI_n]) (by simp (disch := omega) only [sI_n])
        · exact rlI_d hN hX.2.1 (fun q h1 h2 => by simp (disch := omega) only [sI_n]) (by simp (disch := omega) only [sI_n]) (by simp (disch := omega) only [sI_n])
        · refine ⟨s + 1, t, by omega, b2, by rw [sI_e, upd_e], by rw [sI_e, upd_e], by rw [sI_e, upd_n _ _ (by decide), r3]; exact b5, by rw [sI_e, upd_n _ _ (by decide), t3]; exact b6, fun i hi => ?_, fun i hi => ?_⟩
          · simp (disch := omega) only [sI_n, sI_e]
            by_cases e : i = s
            · subst e
              simp only [upd_e]
              exact ⟨p, q, r, by omega, by omega, by omega, rfl, rfl, rfl, rfl, rfl, rfl⟩
            · simp (disch := omega) only [upd_n]
              exact b7 i (by omega)
          · simp (disch := omega) only [sI_n]
            exact b8 i hi
        · exact rlR_d hX.2.2.2 (by simp (disch := omega) only [sI_n]) (by simp (disch := omega) only [sI_n]) (by simp (disch := omega) only [sI_n]) (by rw [sI_e, upd_n _ _ (by omega), t3]) (by rw [sI_e, upd_n _ _ (by omega), t3]) (by simp (disch := omega) only [sI_n])
        · exact rlP_c hN hP (fun q h1 h2 => by simp (disch := omega) only [sI_n]) (fun i _ => by simp (disch := omega) only [sI_n])
        · exact rlU_c hN hU (fun q h => by simp (disch := omega) only [sI_n]) (by rw [sI_e, upd_n _ _ (by omega), t3]) (by simp (disch := omega) only [sI_n])
        · exact rlS_c hS (by simp (disch := omega) only [sI_n]) (by rw [sI_e, upd_n _ _ (by omega), t3])
    · rw [if_neg hc, if_pos z00]
      by_cases g : c < 0
      · rw [if_pos g]; exact sim_no h0
      · rw [if_neg g, if_neg (by omega)]; exact sim_no h0
  · rw [if_neg hp, if_pos z00, if_pos z00]; exact sim_no h0
theorem r_write {N Q n ml : Nat} {pk : Nat → Nat} {hd : Nat → Int} {u z : Nat} (hX : rlX N Q σ τ) (hP : rlP N Q σ 13 (τ.1 3) n ml pk hd) (hU : rlU N Q σ τ u z) (hS : rlS σ τ) (p : Nat) (c : Int) (hp : p < Q) (hc : -1 ≤ c) (hc2 : c < N) : simI σ τ (f_X7_write_30 (zI p) (zI c) σ) (f_X8_write_24 (zI p) (zI c) τ) := by
  have h0 : Rel σ τ := ⟨N, Q, n, ml, pk, hd, u, z, hX, hP, hU, hS⟩
  have hN := hX.1.1
  have hQ := hX.1.2.1
  obtain ⟨s, t, b1, b2, b3, b4, b5, b6, b7, b8⟩ := hX.2.2.1
  unfold f_X7_write_30 f_X8_write_24 f_X2_addWritten f_X2_addWritten_16
  rw [b5, b6]
  rw [if_neg (by rw [show (0 : Int32) = zI 0 from rfl, zI_lt (by omega) (by omega) (by omega) (by omega)]; omega)]
  by_cases h15 : t = 15
  · rw [if_neg (by rw [show (15 : Int32) = zI 15 from rfl, zI_lt (by omega) (by omega) (by omega) (by omega)]; omega), if_pos (by rw [h15]; rfl), bi_s, if_pos rfl]
    exact sim_no h0
  · rw [if_pos (by rw [show (15 : Int32) = zI 15 from rfl, zI_lt (by omega) (by omega) (by omega) (by omega)]; omega), if_neg (by rw [show (15 : Int32) = zI 15 from rfl, zI_inj (by omega) (by omega) (by omega) (by omega)]; omega)]
    have r1 : ∀ v : Int32, (cb_sI σ 104 t v).1 100 = σ.1 100 := fun v => sI_n _ _ _ (by decide)
    have r2 : ∀ v w : Int32, (cb_sI (cb_sI σ 104 t v) 105 t w).1 100 = σ.1 100 := fun v w => by rw [sI_n _ _ _ (by decide), sI_n _ _ _ (by decide)]
    have t1 : ∀ v : Int32, (cb_sI τ 17 t v).1 0 = τ.1 0 := fun v => sI_n _ _ _ (by decide)
    have t2 : ∀ v w : Int32, (cb_sI (cb_sI τ 17 t v) 18 t w).1 0 = τ.1 0 := fun v w => by rw [sI_n _ _ _ (by decide), sI_n _ _ _ (by decide)]
    simp (disch := omega) only [zI_ck, zI_clamp, Int.toNat_natCast, let_s, r1, r2, t1, t2, b5, b6]
    rw [bi_s, if_neg (by decide), plus1, sI_e, upd_e, sI_e, upd_e]
    refine ⟨_, _, _, rfl, rfl, N, Q, n, ml, pk, hd, u, z, ⟨?_, ?_, ?_, ?_⟩, ?_, ?_, ?_⟩
    · exact rlT_d hX.1 (by simp (disch := omega) only [sI_n]) (by simp (disch := omega) only [sI_n]) (by simp (disch := omega) only [sI_n]) (by simp (disch := omega) only [sI_n]) rfl (fun j hj => by rw [sI_e, upd_n _ _ (by omega), t2]) (by simp (disch := omega) only [sI_n]) (by simp (disch := omega) only [sI_n])
    · exact rlI_d hN hX.2.1 (fun q h1 h2 => by simp (disch := omega) only [sI_n]) (by simp (disch := omega) only [sI_n]) (by simp (disch := omega) only [sI_n])
    · refine ⟨s, t + 1, b1, by omega, by rw [sI_e, upd_n _ _ (by decide), r2]; exact b3, by rw [sI_e, upd_n _ _ (by decide), t2]; exact b4, by rw [sI_e, upd_e], by rw [sI_e, upd_e], fun i hi => ?_, fun i hi => ?_⟩
      · simp (disch := omega) only [sI_n]
        exact b7 i hi
      · simp (disch := omega) only [sI_n, sI_e]
        by_cases e : i = t
        · subst e
          simp only [upd_e]
          exact ⟨p, c, hp, hc, hc2, rfl, rfl, rfl, rfl⟩
        · simp (disch := omega) only [upd_n]
          exact b8 i (by omega)
    · exact rlR_d hX.2.2.2 (by simp (disch := omega) only [sI_n]) (by simp (disch := omega) only [sI_n]) (by simp (disch := omega) only [sI_n]) (by rw [sI_e, upd_n _ _ (by omega), t2]) (by rw [sI_e, upd_n _ _ (by omega), t2]) (by simp (disch := omega) only [sI_n])
    · exact rlP_c hN hP (fun q h1 h2 => by simp (disch := omega) only [sI_n]) (fun i _ => by simp (disch := omega) only [sI_n])
    · exact rlU_c hN hU (fun q h => by simp (disch := omega) only [sI_n]) (by rw [sI_e, upd_n _ _ (by omega), t2]) (by simp (disch := omega) only [sI_n])
    · exact rlS_c hS (by simp (disch := omega) only [sI_n]) (by rw [sI_e, upd_n _ _ (by omega), t2])
theorem q_write (h : Rel σ τ) (x y : Int32) : simI σ τ (f_X7_write x y σ) (f_X8_write x y τ) := by
  have h0 := h
  obtain ⟨N, Q, n, ml, pk, hd, u, z, hX, hP, hU, hS⟩ := h
  have hN := hX.1.1
  have hQ := hX.1.2.1
  obtain ⟨a, rfl, g1, g2⟩ := zI_ex x
  obtain ⟨b, rfl, g3, g4⟩ := zI_ex y
  unfold f_X7_write f_X7_write_27 f_X8_write f_X8_write_21
  rw [s_hasPerson 9 σ hX.1.2.2.2.2.1 hQ a g1 g2, m_isPerson τ hX.1.2.2.2.2.2.1 hQ a g1 g2, bp_s, bp_s, s_hasCard 9 σ hX.1.2.2.1 hN b g3 g4, m_isCard τ hX.1.2.2.2.1 hN b g3 g4, bp_s, bp_s]
  by_cases hp : 0 ≤ a ∧ a < Q
  · rw [if_pos hp, if_neg z10, if_neg z10]
    obtain ⟨p, rfl⟩ := Int.eq_ofNat_of_zero_le hp.1
    have cm : (zI b = -1) = (b = -1) := by rw [zI_m1, zI_inj g3 g4 (by omega) (by omega)]
    simp only [cm]
    by_cases hb : b = -1
    · rw [if_pos hb, if_pos hb, hb]
      exact r_write hX hP hU hS p (-1) (by omega) (by omega) (by omega)
    · rw [if_neg hb, if_neg hb]
      by_cases hc : 0 ≤ b ∧ b < N
      · rw [if_pos hc, if_neg z10, if_neg z10]
        exact r_write hX hP hU hS p b (by omega) (by omega) (by omega)
      · rw [if_neg hc, if_pos z00, if_pos z00]; exact sim_no h0
  · rw [if_neg hp, if_pos z00, if_pos z00]; exact sim_no h0
end OP
