section OP
variable {σ τ : cb_St}
theorem s_entry (k N2 : Nat) (hN2 : N2 < 100) {m : Nat} (hm : m ≤ N2) (i : Nat) (hi : i < m) (σ : cb_St) : f_X2_entry k N2 (zI i) (zI m) σ = some (σ.1 k i) := by
  unfold f_X2_entry f_X2_entry_15
  rw [show Int32.ofNat N2 = zI (N2 : Int) from (zI_nat N2).symm]
  simp (disch := omega) only [zI_lit, zI_neg, zI_add, zI_sub, zI_mul, zI_lt, zI_le, zI_inj, zI_ck, zI_clamp, ← Int.natCast_add, la_1, al_1, la_2, al_2, la_3, al_3, la_4, al_4, la_5, al_5, la_6, al_6, la_7, al_7, la_8, al_8, la_9, al_9, la_10, al_10, la_11, al_11, la_12, al_12, la_13, al_13, la_16, al_16, la_19, al_19, la_20, al_20, la_24, al_24, la_25, al_25, la_26, al_26, la_27, al_27, la_51, al_51, la_52, al_52, la_0, Int.toNat_natCast, bp_s, let_s, bi_s, bv_s, b1_f]
  rw [if_neg (by omega), if_neg (by omega), if_pos (by omega)]
theorem q_judge (h : Rel σ τ) : ∃ r, f_X7_judge σ = some r ∧ f_X8_judge τ = some r := by
  obtain ⟨N, Q, n, ml, pk, hd, u, z, hX, hP, hU, hS⟩ := h
  have hN := hX.1.1
  have hQ := hX.1.2.1
  obtain ⟨s, t, b1, b2, b3, b4, b5, b6, b7, b8⟩ := hX.2.2.1
  have hh := hP.2.2.2.2.2.2.2.2.1
  have key : ∀ (m i fu fv : Nat), i + m = t → m < fu → m < fv → ∃ r, f_X7_judge_2 σ fu (zI i) = some r ∧ f_X8_judge_2 τ fv (zI i) = some r := by
    intro m
    induction m with
    | zero =>
      intro i fu fv e hf hg
      obtain ⟨fu, rfl⟩ : ∃ g, fu = g + 1 := ⟨fu - 1, by omega⟩
      obtain ⟨fv, rfl⟩ : ∃ g, fv = g + 1 := ⟨fv - 1, by omega⟩
      have hle : zI (t : Int) ≤ zI (i : Int) := by rw [zI_le (by omega) (by omega) (by omega) (by omega)]; omega
      rw [f_X7_judge_2, f_X8_judge_2, b5, b6, if_pos hle, if_pos hle]
      exact ⟨_, rfl, rfl⟩
    | succ m ih =>
      intro i fu fv e hf hg
      obtain ⟨fu, rfl⟩ : ∃ g, fu = g + 1 := ⟨fu - 1, by omega⟩
      obtain ⟨fv, rfl⟩ : ∃ g, fv = g + 1 := ⟨fv - 1, by omega⟩
      have hle : ¬ zI (t : Int) ≤ zI (i : Int) := by rw [zI_le (by omega) (by omega) (by omega) (by omega)]; omega
      obtain ⟨p, c, d1, d2, d3, d4, d5, d6, d7⟩ := b8 i (by omega)
      obtain ⟨e1, e2, e3, e4⟩ := hh p (by omega)
      rw [f_X7_judge_2, f_X8_judge_2, b5, b6, if_neg hle, if_neg hle]
      unfold f_X2_writtenPerson f_X2_writtenCard
      rw [b5, s_entry 104 15 (by omega) b2 i (by omega), s_entry 105 15 (by omega) b2 i (by omega)]
      simp (disch := omega) only [zI_ck, zI_clamp, Int.toNat_natCast, bp_s, d4, d5, d6, d7, e13p, e2]
      rw [s_cardOf 13 σ p (by omega), bp_s, e1]
      by_cases g : zI (hd p) = zI c
      · rw [if_pos g, if_pos g]
        simp only [let_s, plus1]
        exact ih (i + 1) fu fv (by omega) (by omega) (by omega)
      · rw [if_neg g, if_neg g]; exact ⟨_, rfl, rfl⟩
  exact key t 0 cb_fu cb_fu (by omega) (by unfold cb_fu; omega) (by unfold cb_fu; omega)
theorem m_undo_22 : ∀ (m i fu : Nat) (τ : cb_St) (u : Nat), τ.1 0 22 = zI u → u ≤ 15 → i + m = 51 → m < fu → ∃ g : Nat → Int32, f_X8_undo_22 fu τ (zI i) = some (zI u, cb_sA τ 3 g) ∧ (∀ j, i ≤ j → j < 51 → g j = τ.1 8 (51 * u + j)) ∧ ∀ q, (q < i ∨ 51 ≤ q) → g q = τ.1 3 q := by
  intro m
  induction m with
  | zero =>
    intro i fu τ u hu hu2 e hf
    obtain ⟨fu, rfl⟩ : ∃ g, fu = g + 1 := ⟨fu - 1, by omega⟩
    refine ⟨τ.1 3, ?_, fun j h1 h2 => absurd h2 (by omega), fun q _ => rfl⟩
    rw [f_X8_undo_22, sA_id]; simp (disch := omega) only [hu, zI_lit, zI_neg, zI_add, zI_sub, zI_mul, zI_lt, zI_le, zI_inj, zI_ck, zI_clamp, ← Int.natCast_add, la_1, al_1, la_2, al_2, la_3, al_3, la_4, al_4, la_5, al_5, la_6, al_6, la_7, al_7, la_8, al_8, la_9, al_9, la_10, al_10, la_11, al_11, la_12, al_12, la_13, al_13, la_16, al_16, la_19, al_19, la_20, al_20, la_24, al_24, la_25, al_25, la_26, al_26, la_27, al_27, la_51, al_51, la_52, al_52, la_0, Int.toNat_natCast, bp_s, let_s, bi_s, bv_s, b1_f]
    rw [if_pos (by omega)]
  | succ m ih =>
    intro i fu τ u hu hu2 e hf
    obtain ⟨fu, rfl⟩ : ∃ g, fu = g + 1 := ⟨fu - 1, by omega⟩
    have e51 : (51 : Int) * (u : Int) + (i : Int) = ((51 * u + i : Nat) : Int) := by omega
    have hstep : f_X8_undo_22 (fu + 1) τ (zI i) = f_X8_undo_22 fu (cb_sI τ 3 i (τ.1 8 (51 * u + i))) (zI ((i + 1 : Nat) : Int)) := by
      rw [f_X8_undo_22]; simp (disch := omega) only [hu, e51, zI_lit, zI_neg, zI_add, zI_sub, zI_mul, zI_lt, zI_le, zI_inj, zI_ck, zI_clamp, ← Int.natCast_add, la_1, al_1, la_2, al_2, la_3, al_3, la_4, al_4, la_5, al_5, la_6, al_6, la_7, al_7, la_8, al_8, la_9, al_9, la_10, al_10, la_11, al_11, la_12, al_12, la_13, al_13, la_16, al_16, la_19, al_19, la_20, al_20, la_24, al_24, la_25, al_25, la_26, al_26, la_27, al_27, la_51, al_51, la_52, al_52, la_0, Int.toNat_natCast, bp_s, let_s, bi_s, bv_s, b1_f]
      rw [if_neg (by omega)]
    obtain ⟨g, h1, h2, h3⟩ := ih (i + 1) fu (cb_sI τ 3 i (τ.1 8 (51 * u + i))) u (by rw [sI_n _ _ _ (by decide)]; exact hu) hu2 (by omega) (by omega)
    refine ⟨g, by rw [hstep, h1, sA_sI], fun j g1 g2 => ?_, fun q hq => ?_⟩
    · by_cases hj : j = i
      · subst hj
        rw [h3 j (by omega), sI_e, upd_e]
      · rw [h2 j (by omega) g2, sI_n _ _ _ (by decide)]
    · rw [h3 q (by omega), sI_e, upd_n _ _ (by omega)]
theorem q_undo (h : Rel σ τ) : simI σ τ (f_X7_undo σ) (f_X8_undo τ) := by
  have h0 := h
  obtain ⟨N, Q, n, ml, pk, hd, u, x, hX, hP, hU, hS⟩ := h
  have hN := hX.1.1
  have hU0 := hU
  obtain ⟨a1, a2, a3, a4, a5, a6⟩ := hU
  unfold f_X7_undo f_X8_undo
  rw [a3, a4]
  by_cases hu : u = 0
  · rw [if_neg (by rw [show (0 : Int32) = zI 0 from rfl, zI_lt (by omega) (by omega) (by omega) (by omega)]; omega), if_pos (by rw [hu]; rfl)]
    exact sim_no h0
  · rw [if_pos (by rw [show (0 : Int32) = zI 0 from rfl, zI_lt (by omega) (by omega) (by omega) (by omega)]; omega), if_neg (by rw [show (0 : Int32) = zI 0 from rfl, zI_inj (by omega) (by omega) (by omega) (by omega)]; omega)]
    have eu : zI (u : Int) - 1 = zI ((u - 1 : Nat) : Int) := by
      rw [show (1 : Int32) = zI 1 from rfl, zI_sub, show (u : Int) - 1 = ((u - 1 : Nat) : Int) from by omega]
    obtain ⟨n1, ml1, pk1, hd1, hp1⟩ := a6 0 (by omega)
    have ex : (x + 15 - 0) % 16 = (x + 15) % 16 := by omega
    rw [ex] at hp1
    have hxl : (x + 15) % 16 < 16 := by omega
    generalize hx' : (x + 15) % 16 = x' at hp1 hxl
    obtain ⟨σ1, c0, c1, c2, c3, c4, c5, c6, c7, c8, c9⟩ := s_become 13 (20 + 5 * x') (by omega) (cb_sI σ 18 1 (zI x'))
    have hpop : f_X3_pop σ = some (cb_sI σ1 18 0 (zI ((u - 1 : Nat) : Int))) := by
      unfold f_X3_pop
      rw [a3, if_neg (by rw [show (0 : Int32) = zI 0 from rfl, zI_le (by omega) (by omega) (by omega) (by omega)]; omega), a5, s_fm1 σ x a2, bp_s, hx']
      simp only [let_s]
      rw [sI_e, upd_e, zI_ck _ (by omega) (by omega) (by omega), zI_clamp (by omega) (by omega), Int.toNat_natCast]
      rw [show 19 + 1 + 5 * x' = 20 + 5 * x' from rfl, c0, bv_s, c8 18 (by omega), sI_e, upd_n _ _ (by decide), a3, eu]
    obtain ⟨g, m1, m2, m3⟩ := m_undo_22 51 0 cb_fu (cb_sI τ 0 22 (zI ((u - 1 : Nat) : Int))) (u - 1) (by rw [sI_e, upd_e]) (by omega) (by omega) (by unfold cb_fu; omega)
    rw [hpop, bv_s, let_s, eu, sI_e, upd_e]
    rw [show f_X8_undo_22 cb_fu (cb_sI τ 0 22 (zI ((u - 1 : Nat) : Int))) 0 = _ from m1]
    have hc : ∀ q, q ≠ 18 → (q < 13 ∨ 18 ≤ q) → (cb_sI σ1 18 0 (zI ((u - 1 : Nat) : Int))).1 q = σ.1 q := fun q h1 h2 => by
      rw [sI_n _ _ _ h1, c8 q (by omega), sI_n _ _ _ h1]
    refine ⟨_, _, _, rfl, rfl, N, Q, n1, ml1, pk1, hd1, u - 1, x', ?_, ?_, ?_, ?_⟩
    · exact rlX_c hX ⟨by rw [sI_2, c9, sI_2], fun q h => hc q (by omega) (by omega)⟩ ⟨fun j h => by rw [sA_n _ _ (by decide), sI_e, upd_n _ _ (by omega)], fun q h => by rw [sA_n _ _ (by omega), sI_n _ _ _ (by omega)]⟩
    · rw [sA_e]
      refine rlP_k (σ := σ) (k2 := 20 + 5 * x') hN hp1 ?_ ?_ ?_ (fun i hi => ?_) (fun i hi => ?_) (fun i hi => ?_) (fun i hi => ?_) (fun i hi => ?_)
      · rw [sI_n _ _ _ (by decide), c1, sI_n _ _ _ (by omega)]
      · rw [sI_n _ _ _ (by decide), c2, sI_n _ _ _ (by omega)]
      · rw [sI_n _ _ _ (by decide), c3, sI_n _ _ _ (by omega)]
      · rw [sI_n _ _ _ (by decide), c4 i hi, sI_n _ _ _ (by omega)]
      · rw [sI_n _ _ _ (by decide), c5 i hi, sI_n _ _ _ (by omega)]
      · rw [sI_n _ _ _ (by decide), c6 i hi, sI_n _ _ _ (by omega)]
      · rw [sI_n _ _ _ (by decide), c7 i hi, sI_n _ _ _ (by omega)]
      · rw [m2 i (by omega) hi, sI_n _ _ _ (by decide)]
        show _ = τ.1 8 (51 * (u - 1 - 0) + i)
        rw [Nat.sub_zero]
    · refine ⟨by omega, hxl, by rw [sI_e, upd_e], by rw [sA_n _ _ (by decide), sI_e, upd_e], by rw [sI_e, upd_n _ _ (by decide), c8 18 (by omega), sI_e, upd_e], fun j hj => ?_⟩
      obtain ⟨n2, ml2, pk2, hd2, hp2⟩ := a6 (j + 1) (by omega)
      have e1 : (x + 15 - (j + 1)) % 16 = (x' + 15 - j) % 16 := by omega
      rw [e1] at hp2
      have hlt : (x' + 15 - j) % 16 < 16 := by omega
      refine ⟨n2, ml2, pk2, hd2, rlP_c hN hp2 (fun q h1 h2 => hc q (by omega) (by omega)) (fun i hi => ?_)⟩
      rw [sA_n _ _ (by decide), sI_n _ _ _ (by decide)]
      have e2 : u - 1 - 1 - j = u - 1 - (j + 1) := by omega
      rw [e2]
    · exact rlS_c hS (by rw [hc 0 (by decide) (by decide)]) (by rw [sA_n _ _ (by decide), sI_e, upd_n _ _ (by decide)])
theorem m_keep_15 (k : Nat) (hk : k < 2) : ∀ (m i fu : Nat) (τ : cb_St), i + m = 51 → m < fu → ∃ g : Nat → Int32, f_X8_keep_15 (zI k) fu τ (zI i) = some (1, cb_sI (cb_sI (cb_sA τ 19 g) 20 k 1) 0 22 0) ∧ (∀ j, i ≤ j → j < 51 → g (52 * k + j) = τ.1 3 j) ∧ g (52 * k + 51) = τ.1 0 9 ∧ ∀ q, (q < 52 * k + i ∨ 52 * k + 52 ≤ q) → g q = τ.1 19 q := by
  intro m
  induction m with
  | zero =>
    intro i fu τ e hf
    obtain ⟨fu, rfl⟩ : ∃ g, fu = g + 1 := ⟨fu - 1, by omega⟩
    have e51 : (52 : Int) * (k : Int) + 51 = ((52 * k + 51 : Nat) : Int) := by omega
    refine ⟨upd (τ.1 19) (52 * k + 51) (τ.1 0 9), ?_, fun j h1 h2 => absurd h2 (by omega), upd_e _ _ _, fun q hq => upd_n _ _ (by omega)⟩
    rw [f_X8_keep_15]; simp (disch := omega) only [e51, zI_lit, zI_neg, zI_add, zI_sub, zI_mul, zI_lt, zI_le, zI_inj, zI_ck, zI_clamp, ← Int.natCast_add, la_1, al_1, la_2, al_2, la_3, al_3, la_4, al_4, la_5, al_5, la_6, al_6, la_7, al_7, la_8, al_8, la_9, al_9, la_10, al_10, la_11, al_11, la_12, al_12, la_13, al_13, la_16, al_16, la_19, al_19, la_20, al_20, la_24, al_24, la_25, al_25, la_26, al_26, la_27, al_27, la_51, al_51, la_52, al_52, la_0, Int.toNat_natCast, bp_s, let_s, bi_s, bv_s, b1_f]
    rw [if_pos (by omega)]; rfl
  | succ m ih =>
    intro i fu τ e hf
    obtain ⟨fu, rfl⟩ : ∃ g, fu = g + 1 := ⟨fu - 1, by omega⟩
    have e51 : (52 : Int) * (k : Int) + (i : Int) = ((52 * k + i : Nat) : Int) := by omega
    have hstep : f_X8_keep_15 (zI k) (fu + 1) τ (zI i) = f_X8_keep_15 (zI k) fu (cb_sI τ 19 (52 * k + i) (τ.1 3 i)) (zI ((i + 1 : Nat) : Int)) := by
      rw [f_X8_keep_15]; simp (disch := omega) only [e51, zI_lit, zI_neg, zI_add, zI_sub, zI_mul, zI_lt, zI_le, zI_inj, zI_ck, zI_clamp, ← Int.natCast_add, la_1, al_1, la_2, al_2, la_3, al_3, la_4, al_4, la_5, al_5, la_6, al_6, la_7, al_7, la_8, al_8, la_9, al_9, la_10, al_10, la_11, al_11, la_12, al_12, la_13, al_13, la_16, al_16, la_19, al_19, la_20, al_20, la_24, al_24, la_25, al_25, la_26, al_26, la_27, al_27, la_51, al_51, la_52, al_52, la_0, Int.toNat_natCast, bp_s, let_s, bi_s, bv_s, b1_f]
      rw [if_neg (by omega)]
    obtain ⟨g, h1, h2, h4, h3⟩ := ih (i + 1) fu (cb_sI τ 19 (52 * k + i) (τ.1 3 i)) (by omega) (by omega)
    refine ⟨g, by rw [hstep, h1, sA_sI], fun j g1 g2 => ?_, by rw [h4, sI_n _ _ _ (by decide)], fun q hq => ?_⟩
    · by_cases hj : j = i
      · subst hj
        rw [h3 (52 * k + j) (by omega), sI_e, upd_e]
      · rw [h2 j (by omega) g2, sI_n _ _ _ (by decide)]
    · rw [h3 q (by omega), sI_e, upd_n _ _ (by omega)]
theorem m_goBack_27 (k : Nat) (hk : k < 2) : ∀ (m i fu : Nat) (τ : cb_St), i + m = 51 → m < fu → ∃ g : Nat → Int32, f_X8_goBack_27 (zI k) fu τ (zI i) = some (1, cb_sI (cb_sI (cb_sA τ 3 g) 0 9 (τ.1 19 (52 * k + 51))) 0 22 0) ∧ (∀ j, i ≤ j → j < 51 → g j = τ.1 19 (52 * k + j)) ∧ ∀ q, (q < i ∨ 51 ≤ q) → g q = τ.1 3 q := by
  intro m
  induction m with
  | zero =>
    intro i fu τ e hf
    obtain ⟨fu, rfl⟩ : ∃ g, fu = g + 1 := ⟨fu - 1, by omega⟩
    have e51 : (52 : Int) * (k : Int) + 51 = ((52 * k + 51 : Nat) : Int) := by omega
    refine ⟨τ.1 3, ?_, fun j h1 h2 => absurd h2 (by omega), fun q _ => rfl⟩
    rw [f_X8_goBack_27, sA_id]; simp (disch := omega) only [e51, zI_lit, zI_neg, zI_add, zI_sub, zI_mul, zI_lt, zI_le, zI_inj, zI_ck, zI_clamp, ← Int.natCast_add, la_1, al_1, la_2, al_2, la_3, al_3, la_4, al_4, la_5, al_5, la_6, al_6, la_7, al_7, la_8, al_8, la_9, al_9, la_10, al_10, la_11, al_11, la_12, al_12, la_13, al_13, la_16, al_16, la_19, al_19, la_20, al_20, la_24, al_24, la_25, al_25, la_26, al_26, la_27, al_27, la_51, al_51, la_52, al_52, la_0, Int.toNat_natCast, bp_s, let_s, bi_s, bv_s, b1_f]
    rw [if_pos (by omega)]
  | succ m ih =>
    intro i fu τ e hf
    obtain ⟨fu, rfl⟩ : ∃ g, fu = g + 1 := ⟨fu - 1, by omega⟩
    have e51 : (52 : Int) * (k : Int) + (i : Int) = ((52 * k + i : Nat) : Int) := by omega
    have hstep : f_X8_goBack_27 (zI k) (fu + 1) τ (zI i) = f_X8_goBack_27 (zI k) fu (cb_sI τ 3 i (τ.1 19 (52 * k + i))) (zI ((i + 1 : Nat) : Int)) := by
      rw [f_X8_goBack_27]; simp (disch := omega) only [e51, zI_lit, zI_neg, zI_add, zI_sub, zI_mul, zI_lt, zI_le, zI_inj, zI_ck, zI_clamp, ← Int.natCast_add, la_1, al_1, la_2, al_2, la_3, al_3, la_4, al_4, la_5, al_5, la_6, al_6, la_7, al_7, la_8, al_8, la_9, al_9, la_10, al_10, la_11, al_11, la_12, al_12, la_13, al_13, la_16, al_16, la_19, al_19, la_20, al_20, la_24, al_24, la_25, al_25, la_26, al_26, la_27, al_27, la_51, al_51, la_52, al_52, la_0, Int.toNat_natCast, bp_s, let_s, bi_s, bv_s, b1_f]
      rw [if_neg (by omega)]
    obtain ⟨g, h1, h2, h3⟩ := ih (i + 1) fu (cb_sI τ 3 i (τ.1 19 (52 * k + i))) (by omega) (by omega)
    refine ⟨g, by rw [hstep, h1, sA_sI, sI_n τ _ _ (by decide)], fun j g1 g2 => ?_, fun q hq => ?_⟩
    · by_cases hj : j = i
      · subst hj
        rw [h3 j (by omega), sI_e, upd_e]
      · rw [h2 j (by omega) g2, sI_n _ _ _ (by decide)]
    · rw [h3 q (by omega), sI_e, upd_n _ _ (by omega)]
end OP
