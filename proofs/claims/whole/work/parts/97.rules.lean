/-! ===== the first clause: the rules, read ===== -/
section RU
variable {T : Nat → Nat} {L : Nat} {σ0 τ0 σ τ σ' τ' : cb_St}
/-- behind j of the three rules -/
def RP (T : Nat → Nat) (L : Nat) (σ0 τ0 : cb_St) (e j : Nat) (σ τ : cb_St) : Prop := rdC σ0 σ ∧ scR τ0 τ ∧ txC T L σ ∧ txM T L τ ∧ e ≤ L ∧ σ.1 3 5 = zI e ∧ τ.1 0 13 = zI e ∧ σ.1 3 1 = 0 ∧ σ.1 3 2 = zI (-1) ∧ τ.1 0 12 = zI (-1) ∧ σ.1 4 0 = 1 ∧ τ.1 0 16 = 1 ∧ σ.1 4 4 = zI ((0 : Nat) : Int) ∧ σ.1 4 5 = zI ((0 : Nat) : Int) ∧ σ.2 4 = 0 ∧ τ.1 0 18 = zI ((0 : Nat) : Int) ∧ τ.1 0 21 = zI ((0 : Nat) : Int) ∧ ∀ i, i < j → σ.1 4 (1 + i) = τ.1 5 i
theorem RP_step {e j : Nat} (h : RP T L σ0 τ0 e j σ τ) (hj : j < 3) (hi : Nat) (hhi : hi < 1000) :
    (∃ (v : Int32) (e2 : Nat) (σ1 τ1 : cb_St), f_X5_number (zI ((0 : Nat) : Int)) (zI hi) σ = some (v, σ1) ∧ f_X8_into 5 3 (zI j) (zI ((0 : Nat) : Int)) (zI hi) τ = some (zI ((0 : Nat) : Int), τ1) ∧ e ≤ e2 ∧ RP T L σ0 τ0 e2 (j + 1) (cb_sI σ1 4 (1 + j) v) τ1)
    ∨ (∃ (v : Int32) (f p : Nat) (σ1 τ1 : cb_St), f_X5_number (zI ((0 : Nat) : Int)) (zI hi) σ = some (v, σ1) ∧ FC T L σ0 f p σ1 ∧ f_X8_into 5 3 (zI j) (zI ((0 : Nat) : Int)) (zI hi) τ = some (zI ((f : Nat) : Int), τ1) ∧ scR τ0 τ1 ∧ τ1.1 0 12 = zI ((p : Nat) : Int) ∧ 1 ≤ f ∧ f ≤ 4) := by
  obtain ⟨r1, r2, r3, r4, he, r6, r7, r8, r9, r10, d0, t16, d4, d5, dL, t18, t21, dj⟩ := h
  have hL := r3.1
  have hn := s_number r3 r6 he 0 hi (by omega) hhi rfl rfl rfl
  obtain ⟨τ4, y1, y2, y3, y4⟩ := m_into r4 r7 he 0 hi (by omega) hhi rfl rfl rfl 5 3 j hj (by omega)
  obtain ⟨q1, q2⟩ := skp_rng T L e he
  generalize skp T L e = s1 at *
  have er1 := dgN_rng (T := T) (L - s1) s1
  generalize he1 : dgN T s1 (L - s1) = en1 at *
  generalize vlN T s1 (min (en1 - s1) 3) = v1 at *
  by_cases n1 : nbF 0 hi s1 en1 v1 = 0
  · left
    rw [if_pos n1] at hn
    obtain ⟨t12, t13, t14, t15⟩ := y3 n1
    rw [n1] at y1
    refine ⟨zI v1, en1, _, _, hn, y1, by omega, rdC_t r1 (rdC_t (rdC_3 _ 5 _ (by decide)) (rdC_4 _ 4 _ _ (by omega))), scR_t r2 (scR_t (scR_n y2) (scR_5 _ 5 _ _ (by omega))), txC_rd (txC_5 r3 _) (rdC_4 _ 4 _ _ (by omega)), txM_sc (txM_n r4 y2) (scR_5 _ 5 _ _ (by omega)), by omega, ?_, ?_, ?_, ?_, ?_, ?_, ?_, ?_, ?_, ?_, ?_, ?_, ?_⟩
    · rw [sI_n _ _ _ (by decide), sI_i]
    · rw [sI_n _ _ _ (by decide)]; exact t13
    · rw [sI_n _ _ _ (by decide), sI_j _ _ _ (by decide)]; exact r8
    · rw [sI_n _ _ _ (by decide), sI_j _ _ _ (by decide)]; exact r9
    · rw [sI_n _ _ _ (by decide), t12]; exact r10
    · rw [sI_j _ _ _ (by omega), sI_n _ _ _ (by decide)]; exact d0
    · rw [sI_n _ _ _ (by decide), y2.1 16 (by decide) (by decide) (by decide) (by decide)]; exact t16
    · rw [sI_j _ _ _ (by omega), sI_n _ _ _ (by decide)]; exact d4
    · rw [sI_j _ _ _ (by omega), sI_n _ _ _ (by decide)]; exact d5
    · rw [sI_2, sI_2]; exact dL
    · rw [sI_n _ _ _ (by decide), y2.1 18 (by decide) (by decide) (by decide) (by decide)]; exact t18
    · rw [sI_n _ _ _ (by decide), y2.1 21 (by decide) (by decide) (by decide) (by decide)]; exact t21
    · intro i hi2
      by_cases g : i = j
      · subst g; rw [sI_i, sI_i, t14]
      · rw [sI_j _ _ _ (by omega), sI_n _ _ _ (by decide), sI_j _ _ _ g, y2.2 5 (by decide)]; exact dj i (by omega)
  · right
    obtain ⟨f1, f2⟩ := nb_12 _ _ _ _ _ n1
    rw [if_neg n1] at hn
    exact ⟨zI v1, _, s1, _, _, hn, FC_new (rdC_t r1 (rdC_3 σ 5 (zI en1) (by decide))) (txC_5 r3 _) (by rw [sI_j _ _ _ (by decide)]; exact r8) _ s1 f1 f2 (by omega) en1 (by omega) (sI_i _ _ _ _), y1, scR_t r2 (scR_t (scR_n y2) (scR_5 _ 5 _ _ (by omega))), by rw [sI_n _ _ _ (by decide)]; exact y4 n1, f1, f2⟩
theorem RP_end {e s : Nat} (h : RP T L σ0 τ0 e 3 σ τ) (hse : s < e) : okO T L σ0 τ0 s (f_X5_takeWord (zI ((59 : Nat) : Int)) σ) (f_X8_takeClause_161 τ (zI ((0 : Nat) : Int))) := by
  obtain ⟨r1, r2, r3, r4, he, r6, r7, r8, r9, r10, d0, t16, d4, d5, dL, t18, t21, dj⟩ := h
  have hL := r3.1
  have hw2 := s_takeWord r3 r6 he 59 (by omega)
  obtain ⟨q1, q2⟩ := skp_rng T L e he
  rw [hw2, show f_X8_takeClause_161 τ (zI ((0 : Nat) : Int)) = _ from m_161_0 r4 r7 he]
  by_cases g2 : skp T L e < L ∧ T (skp T L e) = 59
  · left
    rw [if_pos g2, if_pos g2]
    obtain ⟨σ2, z1, z2⟩ := RD_end (a := skp T L e + 1) (k := 0) (m := 0) (σ := cb_sI σ 3 5 (zI ((skp T L e + 1 : Nat) : Int))) (τ := cb_sI τ 0 13 (zI ((skp T L e + 1 : Nat) : Int))) (rdC_t r1 (rdC_3 _ _ _ (by decide))) (scR_t r2 (scR_0 _ 13 _ (by omega))) (txC_5 r3 _) (txM_13 r4 _) (by omega) (sI_i _ _ _ _) (sI_i _ _ _ _) (by rw [sI_j _ _ _ (by decide)]; exact r8) (by rw [sI_j _ _ _ (by decide)]; exact r9) (by rw [sI_j _ _ _ (by decide)]; exact r10) (by
      refine ⟨⟨?_, ?_⟩, ⟨?_, ?_, ?_⟩, ⟨by omega, by omega, ?_, ?_, ?_, ?_⟩, fun i hi => absurd hi (by omega), fun v hv => ?_⟩
      · rw [sI_n _ _ _ (by decide)]; exact d0
      · rw [sI_j _ _ _ (by decide)]; exact t16
      · rw [sI_n _ _ _ (by decide), sI_n _ _ _ (by decide)]; exact dj 0 (by omega)
      · rw [sI_n _ _ _ (by decide), sI_n _ _ _ (by decide)]; exact dj 1 (by omega)
      · rw [sI_n _ _ _ (by decide), sI_n _ _ _ (by decide)]; exact dj 2 (by omega)
      · rw [sI_n _ _ _ (by decide)]; exact d4
      · rw [sI_j _ _ _ (by decide)]; exact t18
      · rw [sI_n _ _ _ (by decide)]; exact d5
      · rw [sI_j _ _ _ (by decide)]; exact t21
      · rw [sI_2, dL, bL_0]
        exact ⟨fun q => absurd q (by decide), fun ⟨i, _, _, q, _⟩ => absurd q (by omega)⟩)
    exact ⟨_, σ2, _, skp T L e + 1, 0, 0, rfl, z1, rfl, z2, by omega⟩
  · right
    rw [if_neg g2, if_neg g2]
    exact ⟨1, skp T L e, _, _, rfl, FC_new (rdC_t r1 (rdC_3 σ 5 _ (by decide))) (txC_5 r3 _) (by rw [sI_j _ _ _ (by decide)]; exact r8) 1 _ (by omega) (by omega) (by omega) _ q2 (sI_i _ _ _ _), rfl, scR_t r2 (scR_t (scR_0 _ 13 _ (by omega)) (scR_0 _ 12 _ (by omega))), sI_i _ _ _ _⟩
theorem rl_36 (τ : cb_St) (f : Nat) (h1 : 1 ≤ f) (h2 : f ≤ 4) : f_X8_takeRules_36 τ (zI f) = some (zI f, τ) := by
  unfold f_X8_takeRules_36
  rw [if_neg (by rw [show (0 : Int32) = zI 0 from rfl, zI_le (by omega) (by omega) (by omega) (by omega)]; omega)]
theorem rl_ref {s : Nat} (h : PR T L σ0 τ0 s σ τ) (hT : T s = 114) : f_X8_takeClause τ = cb_bi (f_X8_takeRules (cb_sI τ 0 13 (zI ((s + 1 : Nat) : Int)))) (fun r_6 σ_7 => f_X8_takeClause_161 σ_7 r_6) := by
  obtain ⟨r1, r2, r3, r4, hs, hss, r6, r7, r8, r9, r10, d0, d4, d5, dL, t16, t18, t21⟩ := h
  have hL := r3.1
  have e1 : zI (s : Int) + 1 = zI ((s + 1 : Nat) : Int) := by rw [show (1 : Int32) = zI 1 from rfl, zI_add, al_1]
  unfold f_X8_takeClause
  rw [m_here r4 r7 (by omega), bi_s, hss, sI_id τ 0 13 _ r7, if_pos (show lt T L s = 114 from by rw [show (114 : Int32) = zI ((114 : Nat) : Int) from rfl, lt_eq r3 _ _ (by omega)]; exact ⟨hs, hT⟩)]
  unfold f_X8_takeClause_36 f_X8_takeClause_62 f_X8_takeClause_109
  rw [if_neg (show ¬ (0 : Int32) < 0 from by decide), if_pos (show (0 : Int32) ≤ 0 from by decide), if_pos rfl, t16, if_pos rfl, let_s, r7, e1, if_pos rfl]
theorem rl_yes {s : Nat} (h : PR T L σ0 τ0 s σ τ) (hT : T s = 114) : okO T L σ0 τ0 s (f_X5_readRules σ) (f_X8_takeClause τ) := by
  rw [rl_ref h hT]
  obtain ⟨r1, r2, r3, r4, hs, hss, r6, r7, r8, r9, r10, d0, d4, d5, dL, t16, t18, t21⟩ := h
  have hL := r3.1
  have hw1 := s_takeWord r3 r6 (by omega) 114 (by omega)
  rw [hss, if_pos ⟨hs, hT⟩] at hw1
  unfold f_X5_readRules f_X8_takeRules
  rw [show f_X5_takeWord 114 σ = _ from hw1, bv_s, let_s]
  have h0 : RP T L σ0 τ0 (s + 1) 0 (cb_sI σ 3 5 (zI ((s + 1 : Nat) : Int))) (cb_sI (cb_sI τ 0 13 (zI ((s + 1 : Nat) : Int))) 0 16 1) := by
    refine ⟨rdC_t r1 (rdC_3 _ _ _ (by decide)), scR_t r2 (scR_t (scR_0 _ 13 _ (by omega)) (scR_0 _ 16 _ (by omega))), txC_5 r3 _, txM_sc (txM_13 r4 _) (scR_0 _ 16 _ (by omega)), by omega, sI_i _ _ _ _, ?_, ?_, ?_, ?_, ?_, sI_i _ _ _ _, ?_, ?_, ?_, ?_, ?_, fun i hi => absurd hi (by omega)⟩
    · rw [sI_j _ _ _ (by decide), sI_i]
    · rw [sI_j _ _ _ (by decide)]; exact r8
    · rw [sI_j _ _ _ (by decide)]; exact r9
    · rw [sI_j _ _ _ (by decide), sI_j _ _ _ (by decide)]; exact r10
    · rw [sI_n _ _ _ (by decide)]; exact d0
    · rw [sI_n _ _ _ (by decide)]; exact d4
    · rw [sI_n _ _ _ (by decide)]; exact d5
    · rw [sI_2]; exact dL
    · rw [sI_j _ _ _ (by decide), sI_j _ _ _ (by decide)]; exact t18
    · rw [sI_j _ _ _ (by decide), sI_j _ _ _ (by decide)]; exact t21
  rcases RP_step h0 (by omega) 4 (by omega) with ⟨v, e2, σ1, τ1, k1, k2, k3, k4⟩ | ⟨v, f, p, σ1, τ1, k1, k2, k3, k4, k5, f1, f2⟩
  · rw [show f_X5_number 0 4 (cb_sI σ 3 5 (zI ((s + 1 : Nat) : Int))) = _ from k1, bi_s, show f_X8_into 5 3 0 0 4 (cb_sI (cb_sI τ 0 13 (zI ((s + 1 : Nat) : Int))) 0 16 1) = _ from k2, bi_s, if_pos (show zI ((0 : Nat) : Int) ≤ 0 from by decide), let_s]
    rcases RP_step k4 (by omega) 1 (by omega) with ⟨v2, e3, σ2, τ2, j1, j2, j3, j4⟩ | ⟨v2, f, p, σ2, τ2, j1, j2, j3, j4, j5, f1, f2⟩
    · rw [show f_X5_number 0 1 (cb_sI σ1 4 1 v) = _ from j1, bi_s, show f_X8_into 5 3 1 0 1 τ1 = _ from j2, bi_s, let_s]
      unfold f_X8_takeRules_36
      rw [if_pos (show zI ((0 : Nat) : Int) ≤ 0 from by decide)]
      rcases RP_step j4 (by omega) 1 (by omega) with ⟨v3, e4, σ3, τ3, i1, i2, i3, i4⟩ | ⟨v3, f, p, σ3, τ3, i1, i2, i3, i4, i5, f1, f2⟩
      · rw [show f_X5_number 0 1 (cb_sI σ2 4 2 v2) = _ from i1, bi_s, show f_X8_into 5 3 2 0 1 τ2 = _ from i2, bi_s, bi_s, let_s, bv_eta]
        exact RP_end i4 (by omega)
      · right
        obtain ⟨σ4, o1, o2⟩ := FC_tail i2 v3
        rw [show f_X5_number 0 1 (cb_sI σ2 4 2 v2) = _ from i1, bi_s, show f_X8_into 5 3 2 0 1 τ2 = _ from i3, bi_s, bi_s, m_161_n _ _ f1 f2, o1]
        exact ⟨f, p, σ4, _, rfl, o2, rfl, scR_t i4 (scR_0 _ 13 _ (by omega)), by rw [sI_j _ _ _ (by decide)]; exact i5⟩
    · right
      obtain ⟨σ4, o1, o2⟩ := FC_tail2 j2 v2
      rw [show f_X5_number 0 1 (cb_sI σ1 4 1 v) = _ from j1, bi_s, show f_X8_into 5 3 1 0 1 τ1 = _ from j3, bi_s, rl_36 _ _ f1 f2, bi_s, m_161_n _ _ f1 f2, o1]
      exact ⟨f, p, σ4, _, rfl, o2, rfl, scR_t j4 (scR_0 _ 13 _ (by omega)), by rw [sI_j _ _ _ (by decide)]; exact j5⟩
  · right
    obtain ⟨σ4, o1, o2⟩ := FC_tail3 k2 v
    rw [show f_X5_number 0 4 (cb_sI σ 3 5 (zI ((s + 1 : Nat) : Int))) = _ from k1, bi_s, show f_X8_into 5 3 0 0 4 (cb_sI (cb_sI τ 0 13 (zI ((s + 1 : Nat) : Int))) 0 16 1) = _ from k3, bi_s, if_neg (by rw [show (0 : Int32) = zI 0 from rfl, zI_le (by omega) (by omega) (by omega) (by omega)]; omega), rl_36 _ _ f1 f2, bi_s, m_161_n _ _ f1 f2, o1]
    exact ⟨f, p, σ4, _, rfl, o2, rfl, scR_t k4 (scR_0 _ 13 _ (by omega)), by rw [sI_j _ _ _ (by decide)]; exact k5⟩
end RU
