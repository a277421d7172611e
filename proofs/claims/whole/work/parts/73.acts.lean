section OP
variable {σ τ : cb_St}
theorem s_hasTwo {Q : Nat} (h : σ.1 9 5 = zI Q) (hQ : Q ≤ 6) (a b : Int) (h1 : -2147483648 ≤ a) (h2 : a < 2147483648) (h3 : -2147483648 ≤ b) (h4 : b < 2147483648) : f_X6_hasTwoPersons 9 (zI a) (zI b) σ = some (if 0 ≤ a ∧ a < Q ∧ 0 ≤ b ∧ b < Q ∧ a ≠ b then zI 1 else zI 0) := by
  unfold f_X6_hasTwoPersons f_X6_hasTwoPersons_25
  rw [s_hasPerson 9 σ h hQ a h1 h2, s_hasPerson 9 σ h hQ b h3 h4]
  simp (disch := omega) only [zI_lit, zI_neg, zI_add, zI_sub, zI_mul, zI_lt, zI_le, zI_inj, zI_ck, zI_clamp, ← Int.natCast_add, la_1, al_1, la_2, al_2, la_3, al_3, la_4, al_4, la_5, al_5, la_6, al_6, la_7, al_7, la_8, al_8, la_9, al_9, la_10, al_10, la_11, al_11, la_12, al_12, la_13, al_13, la_16, al_16, la_19, al_19, la_20, al_20, la_24, al_24, la_25, al_25, la_26, al_26, la_27, al_27, la_51, al_51, la_52, al_52, la_0, Int.toNat_natCast, bp_s, let_s, bi_s, bv_s, b1_f]
  have e1 := zI_ne10
  have e2 := zI_ne01
  grind
theorem m_areTwo {Q : Nat} (h : τ.1 0 7 = zI Q) (hQ : Q ≤ 6) (a b : Int) (h1 : -2147483648 ≤ a) (h2 : a < 2147483648) (h3 : -2147483648 ≤ b) (h4 : b < 2147483648) : f_X8_areTwo (zI a) (zI b) τ = some (if 0 ≤ a ∧ a < Q ∧ 0 ≤ b ∧ b < Q ∧ a ≠ b then zI 1 else zI 0) := by
  unfold f_X8_areTwo f_X8_areTwo_25
  rw [m_isPerson τ h hQ a h1 h2, m_isPerson τ h hQ b h3 h4]
  simp (disch := omega) only [zI_lit, zI_neg, zI_add, zI_sub, zI_mul, zI_lt, zI_le, zI_inj, zI_ck, zI_clamp, ← Int.natCast_add, la_1, al_1, la_2, al_2, la_3, al_3, la_4, al_4, la_5, al_5, la_6, al_6, la_7, al_7, la_8, al_8, la_9, al_9, la_10, al_10, la_11, al_11, la_12, al_12, la_13, al_13, la_16, al_16, la_19, al_19, la_20, al_20, la_24, al_24, la_25, al_25, la_26, al_26, la_27, al_27, la_51, al_51, la_52, al_52, la_0, Int.toNat_natCast, bp_s, let_s, bi_s, bv_s, b1_f]
  have e1 := zI_ne10
  have e2 := zI_ne01
  grind
theorem s_winner (x y : Int32) (w : Nat) (hw : w ≤ 2) (ρ : cb_St) : f_X7_winner x y (zI w) ρ = some (if w = 0 then x else if w = 1 then y else zI (-1)) := by
  unfold f_X7_winner
  have hw3 : w = 0 ∨ w = 1 ∨ w = 2 := by omega
  rcases hw3 with rfl | rfl | rfl <;> rfl
theorem q_meet (h : Rel σ τ) (x y : Int32) : simI σ τ (f_X7_meet x y σ) (f_X8_meet x y τ) := by
  have h0 := h
  obtain ⟨N, Q, n, ml, pk, hd, u, z, hX, hP, hU, hS⟩ := h
  have hN := hX.1.1
  have hQ := hX.1.2.1
  obtain ⟨a, rfl, g1, g2⟩ := zI_ex x
  obtain ⟨b, rfl, g3, g4⟩ := zI_ex y
  unfold f_X7_meet f_X8_meet
  rw [s_hasTwo hX.1.2.2.2.2.1 hQ a b g1 g2 g3 g4, m_areTwo hX.1.2.2.2.2.2.1 hQ a b g1 g2 g3 g4, bp_s, bp_s]
  by_cases hp : 0 ≤ a ∧ a < Q ∧ 0 ≤ b ∧ b < Q ∧ a ≠ b
  · rw [if_pos hp, if_neg z10, if_neg z10]
    obtain ⟨p, rfl⟩ := Int.eq_ofNat_of_zero_le hp.1
    obtain ⟨q, rfl⟩ := Int.eq_ofNat_of_zero_le hp.2.2.1
    obtain ⟨σ1, τ1, u', y', e1, e2, hX1, hP1, hU1, hS1⟩ := r_push hX hP hU hS
    obtain ⟨w, σ2, τ2, hw, f1, f2, fc, fm, hP2⟩ := r_meet (u := 0) (x := 0) hX1.1 hP1 p q (by omega) (by omega)
    obtain ⟨hX2, hU2, hS2⟩ := fr_rel hX1 hU1 hS1 fc fm
    rw [e1, e2, bv_s, bv_s, f1, f2, bi_s, bi_s, s_winner _ _ w hw, bp_s]
    exact ⟨_, _, _, rfl, rfl, N, Q, _, _, _, _, _, _, hX2, hP2, hU2, hS2⟩
  · rw [if_neg hp, if_pos z00, if_pos z00]; exact sim_no h0
theorem stands_eq {N Q : Nat} (hT : rlT N Q σ τ) : σ.1 9 0 = τ.1 0 0 := hT.2.2.2.2.2.2.1
theorem q_shuffle (h : Rel σ τ) (x : Int32) : simI σ τ (f_X7_shuffle x σ) (f_X8_shuffle x τ) := by
  have h0 := h
  obtain ⟨N, Q, n, ml, pk, hd, u, z, hX, hP, hU, hS⟩ := h
  have hN := hX.1.1
  have hQ := hX.1.2.1
  obtain ⟨a, rfl, g1, g2⟩ := zI_ex x
  unfold f_X7_shuffle f_X7_shuffle_9 f_X8_shuffle
  rw [s_in, bp_s, zI_64 g1 g2, l64_0, show (2 : Int64).toInt = 2 from by decide, stands_eq hX.1]
  rw [show (0 : Int32) = zI 0 from rfl, show (3 : Int32) = zI 3 from rfl]
  simp (disch := omega) only [zI_lt]
  by_cases hp : 0 ≤ a ∧ a ≤ 2
  · rw [if_neg (by omega), if_pos (by omega), if_pos hp, if_neg zI_ne10]
    obtain ⟨k, rfl⟩ := Int.eq_ofNat_of_zero_le hp.1
    by_cases ht : τ.1 0 0 = zI 0
    · rw [if_pos ht, if_pos ht]; exact sim_no h0
    · rw [if_neg ht, if_neg ht]
      obtain ⟨σ1, τ1, u', y', e1, e2, hX1, hP1, hU1, hS1⟩ := r_push hX hP hU hS
      obtain ⟨σ2, τ2, f1, f2, fc, fm, hP2⟩ := r_mix hN hP1 k (by omega)
      obtain ⟨hX2, hU2, hS2⟩ := fr_rel hX1 hU1 hS1 fc fm
      rw [e1, e2, bv_s, bv_s, f1, f2, bv_s, bv_s, ck_t _ k12, c12, hP2.2.2.2.1]
      have hn := hP2.1
      by_cases hn0 : n = 0
      · rw [show f_X4_cardAt 13 (zI 0) σ2 = some (zI (-1)) from s_cardAt_n 13 σ2 hP2.2.2.1 (by omega) 0 (by omega) (by omega) (by omega), bp_s, if_pos (by rw [hn0]; rfl), zI_m1]
        exact ⟨_, _, _, rfl, rfl, N, Q, _, _, _, _, _, _, hX2, hP2, hU2, hS2⟩
      · obtain ⟨k1, k2, -⟩ := hP2.2.2.2.2.2.2.2.1 0 (by omega)
        rw [show f_X4_cardAt 13 (zI 0) σ2 = some (σ2.1 (13 + 1) 0) from s_cardAt 13 σ2 hP2.2.2.1 (by omega) 0 (by omega), bp_s, if_neg (by rw [zI_inj (by omega) (by omega) (by omega) (by omega)]; omega), ck_t _ (by decide)]
        rw [show Int32.toNatClampNeg (zI 0) = 0 from rfl, k1, k2]
        exact ⟨_, _, _, rfl, rfl, N, Q, _, _, _, _, _, _, hX2, hP2, hU2, hS2⟩
  · rw [if_neg hp, if_pos rfl]
    by_cases g : a < 0
    · rw [if_pos g]; exact sim_no h0
    · rw [if_neg g, if_neg (by omega)]; exact sim_no h0
/-- the seed goes on, on both sides -/
theorem seed_i (a : Nat) (ha : a < 2147483648) : (zI a * 1103515245 + 12345) &&& 2147483647 = zI (((a * 1103515245 + 12345) % 2147483648 : Nat) : Int) := by
  rw [show (1103515245 : Int32) = zI ((1103515245 : Nat) : Int) from rfl, show (12345 : Int32) = zI ((12345 : Nat) : Int) from rfl, show (2147483647 : Int32) = zI ((2147483647 : Nat) : Int) from rfl, zI_mul, zI_add]
  rw [← Int.natCast_mul, ← Int.natCast_add, zI_and]
  have := Nat.and_two_pow_sub_one_eq_mod (a * 1103515245 + 12345) 31
  rw [show (2 ^ 31 - 1 : Nat) = 2147483647 from rfl, show (2 ^ 31 : Nat) = 2147483648 from rfl] at this
  rw [this]
theorem seed_l (a : Nat) (ha : a < 2147483648) : Int64.toInt32 ((Int32.toInt64 (zI a) * 1103515245 + 12345) - (Int32.toInt64 (zI a) * 1103515245 + 12345) / 2147483648 * 2147483648) = zI (((a * 1103515245 + 12345) % 2147483648 : Nat) : Int) := by
  have e0 : (Int32.toInt64 (zI a)).toInt = a := zI_64 (by omega) (by omega)
  have e1 : (Int32.toInt64 (zI a) * 1103515245 + 12345).toInt = (a * 1103515245 + 12345 : Int) := by
    rw [Int64.toInt_add, Int64.toInt_mul, e0, show (1103515245 : Int64).toInt = 1103515245 from by decide, show (12345 : Int64).toInt = 12345 from by decide]
    simp [Int.bmod]; omega
  have e2 : ((Int32.toInt64 (zI a) * 1103515245 + 12345) / 2147483648).toInt = (a * 1103515245 + 12345 : Int) / 2147483648 := by
    rw [Int64.toInt_div, e1, show (2147483648 : Int64).toInt = 2147483648 from by decide, Int.tdiv_eq_ediv_of_nonneg (by omega)]
    simp [Int.bmod]; omega
  have e3 : ((Int32.toInt64 (zI a) * 1103515245 + 12345) - (Int32.toInt64 (zI a) * 1103515245 + 12345) / 2147483648 * 2147483648).toInt = (((a * 1103515245 + 12345) % 2147483648 : Nat) : Int) := by
    rw [Int64.toInt_sub, Int64.toInt_mul, e1, e2, show (2147483648 : Int64).toInt = 2147483648 from by decide]
    simp [Int.bmod]; omega
  have hlt : (a * 1103515245 + 12345) % 2147483648 < 2147483648 := Nat.mod_lt _ (by omega)
  generalize (a * 1103515245 + 12345) % 2147483648 = m at e3 hlt ⊢
  rw [zI_of (Int64.toInt32 _), Int64.toInt_toInt32, e3]
  have e4 : ((m : Int)).bmod (2 ^ 32) = (m : Int) := by simp [Int.bmod]; omega
  rw [e4]
end OP
