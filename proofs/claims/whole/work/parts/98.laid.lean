/-! ===== a table is laid: both sides ===== -/
section LA
variable {σ τ σ' τ' : cb_St}
/-- all that the card c beats, in the class's figures -/
def aB (σ : cb_St) (N c : Nat) : Int32 := mS (fun d => decide (mBy (σ.1 10 c) (σ.1 10 d) (σ.1 11 c) (σ.1 11 d) (σ.1 9 3) (σ.1 9 1) (σ.1 9 2) = zI 0)) 0 N 0
theorem aB_c (h9 : σ'.1 9 = σ.1 9) (h10 : σ'.1 10 = σ.1 10) (h11 : σ'.1 11 = σ.1 11) (N c : Nat) : aB σ' N c = aB σ N c := by
  unfold aB; rw [h9, h10, h11]
theorem s_allB_4 (N c : Nat) (hN : N ≤ 12) (hc : c < N) (h4 : σ.1 9 4 = zI N) : ∀ (m i fu : Nat) (x : Int32), i + m = N → m < fu → f_X6_allBeatenBy_4 9 (zI c) σ fu x (zI i) = some (mS (fun d => decide (mBy (σ.1 10 c) (σ.1 10 d) (σ.1 11 c) (σ.1 11 d) (σ.1 9 3) (σ.1 9 1) (σ.1 9 2) = zI 0)) i m x) := by
  intro m
  induction m with
  | zero =>
    intro i fu x e hf
    obtain ⟨fu, rfl⟩ : ∃ g, fu = g + 1 := ⟨fu - 1, by omega⟩
    rw [f_X6_allBeatenBy_4]
    unfold f_X6_allBeatenBy_49
    rw [h4, if_neg (by rw [zI_le (by omega) (by omega) (by omega) (by omega)]; omega), if_pos (by rw [zI_le (by omega) (by omega) (by omega) (by omega)]; omega)]
    rfl
  | succ m ih =>
    intro i fu x e hf
    obtain ⟨fu, rfl⟩ : ∃ g, fu = g + 1 := ⟨fu - 1, by omega⟩
    have e1 : zI (i : Int) + 1 = zI ((i + 1 : Nat) : Int) := by rw [show (1 : Int32) = zI 1 from rfl, zI_add, al_1]
    have i1 := ih (i + 1) fu x (by omega) (by omega)
    have i2 := ih (i + 1) fu (x ||| b1 i) (by omega) (by omega)
    rw [f_X6_allBeatenBy_4]
    unfold f_X6_allBeatenBy_43
    rw [h4, if_neg (by rw [zI_le (by omega) (by omega) (by omega) (by omega)]; omega), if_neg (by rw [zI_le (by omega) (by omega) (by omega) (by omega)]; omega), s_byTrump 9 σ c i _ _ (by omega) (by omega), bp_s, let_s, let_s, let_s, e1, mS_s]
    by_cases g : mBy (σ.1 10 c) (σ.1 10 i) (σ.1 11 c) (σ.1 11 i) (σ.1 9 3) (σ.1 9 1) (σ.1 9 2) = zI 0
    · rw [if_pos (show mBy (σ.1 (9 + 1) c) (σ.1 (9 + 1) i) (σ.1 (9 + 2) c) (σ.1 (9 + 2) i) (σ.1 9 3) (σ.1 9 1) (σ.1 9 2) = 0 from g), if_pos (decide_eq_true g)]; exact i2
    · rw [if_neg (show ¬ mBy (σ.1 (9 + 1) c) (σ.1 (9 + 1) i) (σ.1 (9 + 2) c) (σ.1 (9 + 2) i) (σ.1 9 3) (σ.1 9 1) (σ.1 9 2) = 0 from g), if_neg (by rw [decide_eq_true_eq]; exact g)]; exact i1
theorem s_allB (N c : Nat) (hN : N ≤ 12) (hc : c < 12) (h4 : σ.1 9 4 = zI N) : ∃ r, f_X6_allBeatenBy 9 (zI c) σ = some r ∧ (c < N → r = aB σ N c) := by
  unfold f_X6_allBeatenBy
  by_cases g : c < N
  · exact ⟨_, s_allB_4 N c hN g h4 N 0 cb_fu 0 (by omega) (by unfold cb_fu; omega), fun _ => rfl⟩
  · obtain ⟨gg, hgg⟩ : ∃ g, cb_fu = g + 1 := ⟨cb_fu - 1, by unfold cb_fu; omega⟩
    refine ⟨0, ?_, fun q => absurd q g⟩
    rw [hgg, f_X6_allBeatenBy_4]
    unfold f_X6_allBeatenBy_49
    rw [h4, if_pos (by rw [zI_le (by omega) (by omega) (by omega) (by omega)]; omega)]
theorem s_bec_88 (N : Nat) (hN : N ≤ 12) : ∀ (m i fu : Nat) (σ : cb_St), σ.1 9 4 = zI N → i + m = 12 → m < fu → ∃ g : Nat → Int32, f_X6_become_88 9 fu σ (zI i) = some (cb_sA σ 12 g) ∧ (∀ c, i ≤ c → c < N → g c = aB σ N c) ∧ ∀ c, c < i → g c = σ.1 12 c := by
  intro m
  induction m with
  | zero =>
    intro i fu σ h4 e hf
    obtain ⟨fu, rfl⟩ : ∃ g, fu = g + 1 := ⟨fu - 1, by omega⟩
    refine ⟨σ.1 12, ?_, fun c h1 h2 => absurd h2 (by omega), fun c _ => rfl⟩
    rw [f_X6_become_88, sA_id, if_pos (by rw [show (12 : Int32) = zI 12 from rfl, zI_le (by omega) (by omega) (by omega) (by omega)]; omega)]
  | succ m ih =>
    intro i fu σ h4 e hf
    obtain ⟨fu, rfl⟩ : ∃ g, fu = g + 1 := ⟨fu - 1, by omega⟩
    have e1 : zI (i : Int) + 1 = zI ((i + 1 : Nat) : Int) := by rw [show (1 : Int32) = zI 1 from rfl, zI_add, al_1]
    obtain ⟨r, k1, k2⟩ := s_allB N i hN (by omega) h4
    obtain ⟨g, h1, h2, h3⟩ := ih (i + 1) fu (cb_sI σ 12 i r) (by rw [sI_n _ _ _ (by decide)]; exact h4) (by omega) (by omega)
    refine ⟨g, ?_, fun c g1 g2 => ?_, fun c g1 => ?_⟩
    · rw [f_X6_become_88, if_neg (by rw [show (12 : Int32) = zI 12 from rfl, zI_le (by omega) (by omega) (by omega) (by omega)]; omega), k1, bp_s, zI_ck _ (by omega) (by omega) (by omega), zI_clamp (by omega) (by omega), Int.toNat_natCast, let_s, let_s, e1, show f_X6_become_88 9 fu (cb_sI σ (9 + 3) i r) (zI ((i + 1 : Nat) : Int)) = _ from h1, sA_sI]
    · by_cases q : c = i
      · subst q; rw [h3 c (by omega), sI_i, k2 g2]
      · rw [h2 c (by omega) g2, aB_c (sI_n _ _ _ (by decide)) (sI_n _ _ _ (by decide)) (sI_n _ _ _ (by decide))]
    · rw [h3 c (by omega), sI_j _ _ _ (by omega)]
theorem s_laid_a (h0 : σ.1 4 0 = 0 ∨ σ.1 4 0 = 1) : ∃ σ9, f_X6_become 9 σ = f_X6_become_88 9 cb_fu σ9 0 ∧ (σ9.1 9 0 = σ.1 4 0 ∧ σ9.1 9 1 = σ.1 4 1 ∧ σ9.1 9 2 = σ.1 4 2 ∧ σ9.1 9 3 = σ.1 4 3 ∧ σ9.1 9 4 = σ.1 4 4 ∧ σ9.1 9 5 = σ.1 4 5) ∧ (∀ i, i < 12 → σ9.1 10 i = σ.1 5 i) ∧ (∀ i, i < 12 → σ9.1 11 i = σ.1 6 i) ∧ σ9.2 9 = σ.2 4 ∧ ∀ q, ¬ (9 ≤ q ∧ q ≤ 12) → σ9.1 q = σ.1 q := by
  unfold f_X6_become
  rw [ck_t _ h0]
  simp only [let_s, Nat.reduceAdd]
  rw [ck_t _ (by decide), ck_t _ (by decide)]
  refine ⟨_, rfl, ⟨?_, ?_, ?_, ?_, ?_, ?_⟩, ?_, ?_, ?_, ?_⟩
  · simp (disch := omega) only [sA_n, sL_1, sI_e, sI_n, upd_n, upd_e]
  · simp (disch := omega) only [sA_n, sL_1, sI_e, sI_n, upd_n, upd_e]
  · simp (disch := omega) only [sA_n, sL_1, sI_e, sI_n, upd_n, upd_e]
  · simp (disch := omega) only [sA_n, sL_1, sI_e, sI_n, upd_n, upd_e]
  · simp (disch := omega) only [sA_n, sL_1, sI_e, sI_n, upd_n, upd_e]
  · simp (disch := omega) only [sA_n, sL_1, sI_e, sI_n, upd_n, upd_e]
  · intro i hi
    simp (disch := omega) only [sA_n, sA_e, sL_1, sI_n]
    exact cpy_e _ _ (n := 12) hi
  · intro i hi
    simp (disch := omega) only [sA_n, sA_e, sL_1, sI_n]
    exact cpy_e _ _ (n := 12) hi
  · rw [sA_2, sA_2, sL_e]; rfl
  · intro q hq
    simp (disch := omega) only [sA_n, sL_1, sI_n]
theorem s_laid (k : Nat) (hk : k ≤ 12) (h0 : σ.1 4 0 = 0 ∨ σ.1 4 0 = 1) (h4 : σ.1 4 4 = zI k) : ∃ σ9, f_X6_become 9 σ = some σ9 ∧ (σ9.1 9 0 = σ.1 4 0 ∧ σ9.1 9 1 = σ.1 4 1 ∧ σ9.1 9 2 = σ.1 4 2 ∧ σ9.1 9 3 = σ.1 4 3 ∧ σ9.1 9 4 = σ.1 4 4 ∧ σ9.1 9 5 = σ.1 4 5) ∧ (∀ i, i < 12 → σ9.1 10 i = σ.1 5 i) ∧ (∀ i, i < 12 → σ9.1 11 i = σ.1 6 i) ∧ (∀ c, c < k → σ9.1 12 c = aB σ9 k c) ∧ σ9.2 9 = σ.2 4 ∧ ∀ q, ¬ (9 ≤ q ∧ q ≤ 12) → σ9.1 q = σ.1 q := by
  obtain ⟨σ9, a1, ⟨b0, b1, b2, b3, b4, b5⟩, c1, c2, c3, c4⟩ := s_laid_a h0
  obtain ⟨g, d1, d2, d3⟩ := s_bec_88 k hk 12 0 cb_fu σ9 (b4.trans h4) (by omega) (by unfold cb_fu; omega)
  refine ⟨cb_sA σ9 12 g, by rw [a1]; exact d1, ⟨?_, ?_, ?_, ?_, ?_, ?_⟩, ?_, ?_, ?_, ?_, ?_⟩
  · rw [sA_n _ _ (by decide)]; exact b0
  · rw [sA_n _ _ (by decide)]; exact b1
  · rw [sA_n _ _ (by decide)]; exact b2
  · rw [sA_n _ _ (by decide)]; exact b3
  · rw [sA_n _ _ (by decide)]; exact b4
  · rw [sA_n _ _ (by decide)]; exact b5
  · intro i hi; rw [sA_n _ _ (by decide)]; exact c1 i hi
  · intro i hi; rw [sA_n _ _ (by decide)]; exact c2 i hi
  · intro c hc
    rw [sA_e, d2 c (by omega) hc, aB_c (sA_n _ _ (by decide)) (sA_n _ _ (by decide)) (sA_n _ _ (by decide))]
  · rw [sA_2]; exact c3
  · intro q hq; rw [sA_n _ _ (by omega)]; exact c4 q hq
def bgE (σ : cb_St) : Option cb_St := cb_let (cb_sI σ 13 1 0) (fun σ_1 => cb_let (cb_sI σ_1 13 2 0) (fun σ_2 => cb_bv (f_J7_fill_53178 (13 + 2) 6 (-1) σ_2) (fun σ_3 => cb_bv (f_J7_fill_53178 (13 + 3) 6 0 σ_3) (fun σ_4 => some σ_4))))
theorem s_beg_12 (x1 : Int32) : ∀ (m i fu : Nat) (σ : cb_St), i + m = 12 → m < fu → ∃ g : Nat → Int32, f_X4_begin_12 13 x1 fu σ (zI i) = bgE (cb_sA σ 14 g) ∧ (∀ c, i ≤ c → c < 12 → g c = zI c) ∧ ∀ c, c < i → g c = σ.1 14 c := by
  intro m
  induction m with
  | zero =>
    intro i fu σ e hf
    obtain ⟨fu, rfl⟩ : ∃ g, fu = g + 1 := ⟨fu - 1, by omega⟩
    refine ⟨σ.1 14, ?_, fun c h1 h2 => absurd h2 (by omega), fun c _ => rfl⟩
    rw [f_X4_begin_12, sA_id, if_pos (by rw [show (12 : Int32) = zI 12 from rfl, zI_le (by omega) (by omega) (by omega) (by omega)]; omega)]
    rfl
  | succ m ih =>
    intro i fu σ e hf
    obtain ⟨fu, rfl⟩ : ∃ g, fu = g + 1 := ⟨fu - 1, by omega⟩
    have e1 : zI (i : Int) + 1 = zI ((i + 1 : Nat) : Int) := by rw [show (1 : Int32) = zI 1 from rfl, zI_add, al_1]
    obtain ⟨g, h1, h2, h3⟩ := ih (i + 1) fu (cb_sI σ 14 i (zI i)) (by omega) (by omega)
    refine ⟨g, ?_, fun c g1 g2 => ?_, fun c g1 => ?_⟩
    · rw [f_X4_begin_12, if_neg (by rw [show (12 : Int32) = zI 12 from rfl, zI_le (by omega) (by omega) (by omega) (by omega)]; omega), zI_ck _ (by omega) (by omega) (by omega), zI_clamp (by omega) (by omega), Int.toNat_natCast, let_s, let_s, e1, show f_X4_begin_12 13 x1 fu (cb_sI σ (13 + 1) i (zI i)) (zI ((i + 1 : Nat) : Int)) = _ from h1, sA_sI]
    · by_cases q : c = i
      · subst q; rw [h3 c (by omega), sI_i]
      · rw [h2 c (by omega) g2]
    · rw [h3 c (by omega), sI_j _ _ _ (by omega)]
theorem s_begin (n : Nat) (hn : n ≤ 12) (σ : cb_St) : ∃ σ', f_X4_begin 13 (zI n) σ = some σ' ∧ σ'.1 13 0 = zI n ∧ σ'.1 13 1 = 0 ∧ σ'.1 13 2 = 0 ∧ (∀ i, i < 12 → σ'.1 14 i = zI i) ∧ (∀ i, i < 6 → σ'.1 15 i = -1) ∧ (∀ i, i < 6 → σ'.1 16 i = 0) ∧ (∀ q, ¬ (13 ≤ q ∧ q ≤ 16) → σ'.1 q = σ.1 q) ∧ σ'.2 = σ.2 := by
  obtain ⟨g, h1, h2, h3⟩ := s_beg_12 (zI n) 12 0 cb_fu (cb_sI σ 13 0 (zI n)) (by omega) (by unfold cb_fu; omega)
  have em : f_J9_min_7cf53 (zI n) 12 σ = some (zI n) := by
    have := s_min σ (a := (n : Int)) (b := 12) (by omega) (by omega) (by omega) (by omega)
    rw [if_neg (by omega)] at this
    exact this
  have e0 : f_X4_begin 13 (zI n) σ = bgE (cb_sA (cb_sI σ 13 0 (zI n)) 14 g) := by
    unfold f_X4_begin
    rw [em, bp_s, let_s]; exact h1
  unfold bgE at e0
  simp only [let_s, Nat.reduceAdd] at e0
  obtain ⟨g1, j1, j2, j3⟩ := s_fill 15 6 (-1) (by omega) (cb_sI (cb_sI (cb_sA (cb_sI σ 13 0 (zI n)) 14 g) 13 1 0) 13 2 0)
  obtain ⟨g2, k1, k2, k3⟩ := s_fill 16 6 0 (by omega) (cb_sA (cb_sI (cb_sI (cb_sA (cb_sI σ 13 0 (zI n)) 14 g) 13 1 0) 13 2 0) 15 g1)
  rw [j1, bv_s, k1, bv_s] at e0
  refine ⟨_, e0, ?_, ?_, ?_, ?_, ?_, ?_, ?_, ?_⟩
  · simp (disch := omega) only [sA_n, sI_e, sI_n, upd_n, upd_e]
  · simp (disch := omega) only [sA_n, sI_e, sI_n, upd_n, upd_e]
  · simp (disch := omega) only [sA_n, sI_e, sI_n, upd_n, upd_e]
  · intro i hi
    simp (disch := omega) only [sA_n, sA_e, sI_n]
    exact h2 i (by omega) hi
  · intro i hi
    simp (disch := omega) only [sA_n, sA_e, sI_n]
    exact j2 i hi
  · intro i hi
    simp (disch := omega) only [sA_n, sA_e, sI_n]
    exact k2 i hi
  · intro q hq
    simp (disch := omega) only [sA_n, sI_n]
  · rfl
theorem s_tab_72 (σ : cb_St) : f_X7_table_72 cb_fu σ 0 = some (σ.1 9 5, cb_sI (cb_sI σ 112 0 0) 118 0 0) := by
  obtain ⟨gg, hgg⟩ : ∃ g, cb_fu = g + 3 := ⟨cb_fu - 3, by unfold cb_fu; omega⟩
  rw [hgg, f_X7_table_72, if_neg (by decide), ck_t _ (by decide), let_s, let_s, f_X7_table_72, if_neg (by decide), ck_t _ (by decide), let_s, let_s, f_X7_table_72, if_pos (by decide)]
  show some ((cb_sI (cb_sI σ 112 0 0) 118 0 0).1 9 5, cb_sI (cb_sI σ 112 0 0) 118 0 0) = _
  rw [sI_n _ _ _ (by decide), sI_n _ _ _ (by decide)]
/-! the reference lays its table -/
theorem m_tr_170 : ∀ (m i fu : Nat) (τ : cb_St), i + m = 6 → m < fu → ∃ g : Nat → Int32, f_X8_takeRead_170 fu τ (zI i) = some (cb_sA τ 3 g) ∧ (∀ p, i ≤ p → p < 6 → g (13 + p) = -1) ∧ ∀ j, (j < 13 + i ∨ 19 ≤ j) → g j = τ.1 3 j := by
  intro m
  induction m with
  | zero =>
    intro i fu τ e hf
    obtain ⟨fu, rfl⟩ : ∃ g, fu = g + 1 := ⟨fu - 1, by omega⟩
    refine ⟨τ.1 3, ?_, fun c h1 h2 => absurd h2 (by omega), fun c _ => rfl⟩
    rw [f_X8_takeRead_170, sA_id, if_pos (by rw [show (6 : Int32) = zI 6 from rfl, zI_le (by omega) (by omega) (by omega) (by omega)]; omega)]
  | succ m ih =>
    intro i fu τ e hf
    obtain ⟨fu, rfl⟩ : ∃ g, fu = g + 1 := ⟨fu - 1, by omega⟩
    have e1 : zI (i : Int) + 1 = zI ((i + 1 : Nat) : Int) := by rw [show (1 : Int32) = zI 1 from rfl, zI_add, al_1]
    have e13 : (13 : Int32) + zI (i : Int) = zI ((13 + i : Nat) : Int) := by rw [show (13 : Int32) = zI 13 from rfl, zI_add, la_13]
    obtain ⟨g, h1, h2, h3⟩ := ih (i + 1) fu (cb_sI τ 3 (13 + i) (-1)) (by omega) (by omega)
    refine ⟨g, ?_, fun c g1 g2 => ?_, fun c g1 => ?_⟩
    · rw [f_X8_takeRead_170, if_neg (by rw [show (6 : Int32) = zI 6 from rfl, zI_le (by omega) (by omega) (by omega) (by omega)]; omega), e13, zI_ck _ (by omega) (by omega) (by omega), zI_clamp (by omega) (by omega), Int.toNat_natCast, let_s, let_s, e1, h1, sA_sI]
    · by_cases q : c = i
      · subst q; rw [h3 (13 + c) (by omega), sI_i]
      · rw [h2 c (by omega) g2]
    · rw [h3 c (by omega), sI_j _ _ _ (by omega)]
theorem m_tr_110 (k : Nat) (hk : k ≤ 12) : ∀ (m i fu : Nat) (τ : cb_St), τ.1 0 4 = zI k → i + m = k → m < fu → ∃ τ' : cb_St, f_X8_takeRead_110 fu τ (zI i) = some τ' ∧ (∀ j, i ≤ j → j < k → τ'.1 1 j = τ.1 6 j ∧ τ'.1 2 j = τ.1 7 j ∧ τ'.1 3 j = zI j) ∧ (∀ j, j < i → τ'.1 1 j = τ.1 1 j ∧ τ'.1 2 j = τ.1 2 j ∧ τ'.1 3 j = τ.1 3 j) ∧ τ'.1 3 12 = zI k ∧ (∀ p, p < 6 → τ'.1 3 (13 + p) = -1) ∧ (∀ j, 19 ≤ j → τ'.1 3 j = τ.1 3 j) ∧ ∀ q, q ≠ 1 → q ≠ 2 → q ≠ 3 → τ'.1 q = τ.1 q := by
  intro m
  induction m with
  | zero =>
    intro i fu τ h4 e hf
    obtain ⟨fu, rfl⟩ : ∃ g, fu = g + 1 := ⟨fu - 1, by omega⟩
    obtain ⟨g, h1, h2, h3⟩ := m_tr_170 6 0 cb_fu (cb_sI τ 3 12 (zI k)) (by omega) (by unfold cb_fu; omega)
    refine ⟨cb_sA (cb_sI τ 3 12 (zI k)) 3 g, ?_, fun j g1 g2 => absurd g2 (by omega), fun j g1 => ?_, ?_, ?_, fun j g1 => ?_, fun q g1 g2 g3 => ?_⟩
    · rw [f_X8_takeRead_110, h4, if_pos (by rw [zI_le (by omega) (by omega) (by omega) (by omega)]; omega), ck_t _ (by decide), let_s]
      exact h1
    · rw [sA_n _ _ (by decide), sA_n _ _ (by decide), sA_e, sI_n _ _ _ (by decide), sI_n _ _ _ (by decide), h3 j (by omega), sI_j _ _ _ (by omega)]
      exact ⟨rfl, rfl, rfl⟩
    · rw [sA_e, h3 12 (by omega), sI_i]
    · intro p hp; rw [sA_e]; exact h2 p (by omega) hp
    · rw [sA_e, h3 j (by omega), sI_j _ _ _ (by omega)]
    · rw [sA_n _ _ g3, sI_n _ _ _ g3]
  | succ m ih =>
    intro i fu τ h4 e hf
    obtain ⟨fu, rfl⟩ : ∃ g, fu = g + 1 := ⟨fu - 1, by omega⟩
    have e1 : zI (i : Int) + 1 = zI ((i + 1 : Nat) : Int) := by rw [show (1 : Int32) = zI 1 from rfl, zI_add, al_1]
    have e0 : (0 : Int32) + zI (i : Int) = zI (i : Int) := by rw [show (0 : Int32) = zI 0 from rfl, zI_add, la_0]
    obtain ⟨τ', h1, h2, h3, h5, h6, h7, h8⟩ := ih (i + 1) fu (cb_sI (cb_sI (cb_sI τ 1 i (τ.1 6 i)) 2 i (τ.1 7 i)) 3 i (zI i)) (by simp (disch := omega) only [sI_n]; exact h4) (by omega) (by omega)
    refine ⟨τ', ?_, fun j g1 g2 => ?_, fun j g1 => ?_, h5, h6, fun j g1 => ?_, fun q g1 g2 g3 => ?_⟩
    · rw [f_X8_takeRead_110, h4, if_neg (by rw [zI_le (by omega) (by omega) (by omega) (by omega)]; omega), e0]
      simp (disch := omega) only [zI_ck, zI_clamp, Int.toNat_natCast, let_s, e1]
      rw [show (cb_sI τ 1 i (τ.1 6 i)).1 7 i = τ.1 7 i from by rw [sI_n _ _ _ (by decide)]]
      exact h1
    · by_cases q : j = i
      · subst q
        obtain ⟨z1, z2, z3⟩ := h3 j (by omega)
        rw [z1, z2, z3]
        simp (disch := omega) only [sI_n, sI_i]
        exact ⟨trivial, trivial, trivial⟩
      · obtain ⟨z1, z2, z3⟩ := h2 j (by omega) g2
        rw [z1, z2, z3]
        simp (disch := omega) only [sI_n]
        exact ⟨trivial, trivial, trivial⟩
    · obtain ⟨z1, z2, z3⟩ := h3 j (by omega)
      rw [z1, z2, z3]
      simp (disch := omega) only [sI_n, sI_j]
      exact ⟨trivial, trivial, trivial⟩
    · rw [h7 j g1, sI_j _ _ _ (by omega), sI_n _ _ _ (by decide), sI_n _ _ _ (by decide)]
    · rw [h8 q g1 g2 g3, sI_n _ _ _ g3, sI_n _ _ _ g2, sI_n _ _ _ g1]
theorem m_tr_89 : ∀ (m i fu : Nat) (τ : cb_St), i + m = 51 → m < fu → ∃ g : Nat → Int32, f_X8_takeRead_89 fu τ (zI i) = f_X8_takeRead_110 cb_fu (cb_sA τ 3 g) 0 ∧ (∀ j, i ≤ j → j < 51 → g j = 0) ∧ ∀ j, j < i → g j = τ.1 3 j := by
  intro m
  induction m with
  | zero =>
    intro i fu τ e hf
    obtain ⟨fu, rfl⟩ : ∃ g, fu = g + 1 := ⟨fu - 1, by omega⟩
    refine ⟨τ.1 3, ?_, fun c h1 h2 => absurd h2 (by omega), fun c _ => rfl⟩
    rw [f_X8_takeRead_89, sA_id, if_pos (by rw [show (51 : Int32) = zI 51 from rfl, zI_le (by omega) (by omega) (by omega) (by omega)]; omega)]
  | succ m ih =>
    intro i fu τ e hf
    obtain ⟨fu, rfl⟩ : ∃ g, fu = g + 1 := ⟨fu - 1, by omega⟩
    have e1 : zI (i : Int) + 1 = zI ((i + 1 : Nat) : Int) := by rw [show (1 : Int32) = zI 1 from rfl, zI_add, al_1]
    obtain ⟨g, h1, h2, h3⟩ := ih (i + 1) fu (cb_sI τ 3 i 0) (by omega) (by omega)
    refine ⟨g, ?_, fun c g1 g2 => ?_, fun c g1 => ?_⟩
    · rw [f_X8_takeRead_89, if_neg (by rw [show (51 : Int32) = zI 51 from rfl, zI_le (by omega) (by omega) (by omega) (by omega)]; omega), zI_ck _ (by omega) (by omega) (by omega), zI_clamp (by omega) (by omega), Int.toNat_natCast, let_s, let_s, e1, h1, sA_sI]
    · by_cases q : c = i
      · subst q; rw [h3 c (by omega), sI_i]
      · rw [h2 c (by omega) g2]
    · rw [h3 c (by omega), sI_j _ _ _ (by omega)]
/-- behind the rules -/
theorem m_tr_68 (k : Nat) (hk : k ≤ 12) (h18 : τ.1 0 18 = zI k) (x : Int32) : ∃ τ' : cb_St, f_X8_takeRead_68 τ x = some τ' ∧ τ'.1 0 3 = x ∧ τ'.1 0 4 = zI k ∧ τ'.1 0 7 = τ.1 0 21 ∧ (∀ j, j ≠ 3 → j ≠ 4 → j ≠ 7 → τ'.1 0 j = τ.1 0 j) ∧ (∀ j, j < k → τ'.1 1 j = τ.1 6 j ∧ τ'.1 2 j = τ.1 7 j ∧ τ'.1 3 j = zI j) ∧ τ'.1 3 12 = zI k ∧ (∀ p, p < 6 → τ'.1 3 (13 + p) = -1) ∧ (∀ j, 19 ≤ j → j < 51 → τ'.1 3 j = 0) ∧ ∀ q, q ≠ 0 → q ≠ 1 → q ≠ 2 → q ≠ 3 → τ'.1 q = τ.1 q := by
  obtain ⟨g, h1, h2, h3⟩ := m_tr_89 51 0 cb_fu (cb_sI (cb_sI (cb_sI τ 0 3 x) 0 4 (zI k)) 0 7 (τ.1 0 21)) (by omega) (by unfold cb_fu; omega)
  obtain ⟨τ', j1, j2, j3, j5, j6, j7, j8⟩ := m_tr_110 k hk k 0 cb_fu (cb_sA (cb_sI (cb_sI (cb_sI τ 0 3 x) 0 4 (zI k)) 0 7 (τ.1 0 21)) 3 g) (by rw [sA_n _ _ (by decide), sI_j _ _ _ (by decide), sI_i]) (by omega) (by unfold cb_fu; omega)
  refine ⟨τ', ?_, ?_, ?_, ?_, ?_, ?_, j5, j6, ?_, ?_⟩
  · unfold f_X8_takeRead_68
    rw [let_s, let_s, let_s]
    rw [show (cb_sI τ 0 3 x).1 0 18 = zI k from by rw [sI_j _ _ _ (by decide)]; exact h18, show (cb_sI (cb_sI τ 0 3 x) 0 4 (zI k)).1 0 21 = τ.1 0 21 from by rw [sI_j _ _ _ (by decide), sI_j _ _ _ (by decide)]]
    rw [show (0 : Int32) = zI ((0 : Nat) : Int) from rfl, h1, show (0 : Int32) = zI ((0 : Nat) : Int) from rfl, j1]
  · rw [j8 0 (by decide) (by decide) (by decide), sA_n _ _ (by decide), sI_j _ _ _ (by decide), sI_j _ _ _ (by decide), sI_i]
  · rw [j8 0 (by decide) (by decide) (by decide), sA_n _ _ (by decide), sI_j _ _ _ (by decide), sI_i]
  · rw [j8 0 (by decide) (by decide) (by decide), sA_n _ _ (by decide), sI_i]
  · intro j g1 g2 g3
    rw [j8 0 (by decide) (by decide) (by decide), sA_n _ _ (by decide), sI_j _ _ _ g3, sI_j _ _ _ g2, sI_j _ _ _ g1]
  · intro j hj
    obtain ⟨z1, z2, z3⟩ := j2 j (by omega) hj
    rw [z1, z2, z3]
    simp (disch := omega) only [sA_n, sI_n]
    exact ⟨trivial, trivial, trivial⟩
  · intro j g1 g2
    rw [j7 j g1, sA_e]; exact h2 j (by omega) g2
  · intro q g0 g1 g2 g3
    rw [j8 q g1 g2 g3, sA_n _ _ g3, sI_n _ _ _ g0, sI_n _ _ _ g0, sI_n _ _ _ g0]
theorem m_takeRead (k : Nat) (hk : k ≤ 12) (h16 : τ.1 0 16 = 0 ∨ τ.1 0 16 = 1) (h18 : τ.1 0 18 = zI k) : ∃ τ' : cb_St, f_X8_takeRead τ = some τ' ∧ τ'.1 0 0 = τ.1 0 16 ∧ (τ.1 0 16 = 1 → τ'.1 0 1 = τ.1 5 0 ∧ τ'.1 0 2 = τ.1 5 1 ∧ τ'.1 0 3 = τ.1 5 2) ∧ (τ.1 0 16 = 0 → τ'.1 0 1 = 0 ∧ τ'.1 0 2 = 0 ∧ τ'.1 0 3 = 0) ∧ τ'.1 0 4 = zI k ∧ τ'.1 0 7 = τ.1 0 21 ∧ (∀ j, 4 < j → j ≠ 7 → τ'.1 0 j = τ.1 0 j) ∧ (∀ j, j < k → τ'.1 1 j = τ.1 6 j ∧ τ'.1 2 j = τ.1 7 j ∧ τ'.1 3 j = zI j) ∧ τ'.1 3 12 = zI k ∧ (∀ p, p < 6 → τ'.1 3 (13 + p) = -1) ∧ (∀ j, 19 ≤ j → j < 51 → τ'.1 3 j = 0) ∧ ∀ q, q ≠ 0 → q ≠ 1 → q ≠ 2 → q ≠ 3 → τ'.1 q = τ.1 q := by
  have step : ∀ (x y z : Int32), ∃ τ' : cb_St, f_X8_takeRead_68 (cb_sI (cb_sI (cb_sI τ 0 0 (τ.1 0 16)) 0 1 x) 0 2 y) z = some τ' ∧ τ'.1 0 0 = τ.1 0 16 ∧ τ'.1 0 1 = x ∧ τ'.1 0 2 = y ∧ τ'.1 0 3 = z ∧ τ'.1 0 4 = zI k ∧ τ'.1 0 7 = τ.1 0 21 ∧ (∀ j, 4 < j → j ≠ 7 → τ'.1 0 j = τ.1 0 j) ∧ (∀ j, j < k → τ'.1 1 j = τ.1 6 j ∧ τ'.1 2 j = τ.1 7 j ∧ τ'.1 3 j = zI j) ∧ τ'.1 3 12 = zI k ∧ (∀ p, p < 6 → τ'.1 3 (13 + p) = -1) ∧ (∀ j, 19 ≤ j → j < 51 → τ'.1 3 j = 0) ∧ ∀ q, q ≠ 0 → q ≠ 1 → q ≠ 2 → q ≠ 3 → τ'.1 q = τ.1 q := by
    intro x y z
    obtain ⟨τ', j1, j2, j3, j4, j5, j6, j7, j8, j9, j10⟩ := m_tr_68 (τ := cb_sI (cb_sI (cb_sI τ 0 0 (τ.1 0 16)) 0 1 x) 0 2 y) k hk (by simp (disch := omega) only [sI_j]; exact h18) z
    refine ⟨τ', j1, ?_, ?_, ?_, j2, j3, ?_, ?_, ?_, j7, j8, j9, ?_⟩
    · rw [j5 0 (by decide) (by decide) (by decide), sI_j _ _ _ (by decide), sI_j _ _ _ (by decide), sI_i]
    · rw [j5 1 (by decide) (by decide) (by decide), sI_j _ _ _ (by decide), sI_i]
    · rw [j5 2 (by decide) (by decide) (by decide), sI_i]
    · rw [j4, sI_j _ _ _ (by decide), sI_j _ _ _ (by decide), sI_j _ _ _ (by decide)]
    · intro j g1 g2; rw [j5 j (by omega) (by omega) (by omega), sI_j _ _ _ (by omega), sI_j _ _ _ (by omega), sI_j _ _ _ (by omega)]
    · intro j hj
      obtain ⟨z1, z2, z3⟩ := j6 j hj
      rw [z1, z2, z3, sI_n _ _ _ (by decide), sI_n _ _ _ (by decide), sI_n _ _ _ (by decide), sI_n _ _ _ (by decide), sI_n _ _ _ (by decide), sI_n _ _ _ (by decide)]
      exact ⟨rfl, rfl, rfl⟩
    · intro q g0 g1 g2 g3
      rw [j10 q g0 g1 g2 g3, sI_n _ _ _ g0, sI_n _ _ _ g0, sI_n _ _ _ g0]
  unfold f_X8_takeRead f_X8_takeRead_26 f_X8_takeRead_47
  rw [ck_t _ h16]
  simp only [let_s]
  rw [ck_t _ (show 0 ≤ Int32.toInt 0 ∧ Int32.toInt 0 < 3 from by decide)]
  simp (disch := omega) only [sI_j, sI_n]
  rcases h16 with e | e
  · obtain ⟨τ', a1, a2, a3, a4, a5, a6⟩ := step 0 0 0
    rw [e] at a1
    refine ⟨τ', ?_, a2, fun q => absurd (e.symm.trans q) (by decide), fun _ => ⟨a3, a4, a5⟩, a6⟩
    rw [e, if_pos rfl, if_pos rfl, if_pos rfl]
    exact a1
  · obtain ⟨τ', a1, a2, a3, a4, a5, a6⟩ := step (τ.1 5 0) (τ.1 5 1) (τ.1 5 2)
    rw [e] at a1
    refine ⟨τ', ?_, a2, fun _ => ⟨a3, a4, a5⟩, fun q => absurd (e.symm.trans q) (by decide), a6⟩
    rw [e, if_neg (by decide), if_neg (by decide), ck_t _ (by decide), if_neg (by decide), ck_t _ (by decide)]
    exact a1
end LA
