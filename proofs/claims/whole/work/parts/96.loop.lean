/-! ===== all clauses on both sides ===== -/
theorem bv_eta (F : Option cb_St) : cb_bv F (fun σ => some σ) = F := by cases F <;> rfl
section LO
variable {T : Nat → Nat} {L : Nat} {σ0 τ0 σ τ σ' τ' : cb_St} {a k m : Nat}
theorem cl_clause (h : RD T L σ0 τ0 a k m σ τ) (hs : skp T L a < L) : okO T L σ0 τ0 (skp T L a) (f_X5_readClause σ) (f_X8_takeClause (cb_sI τ 0 13 (zI (skp T L a : Nat)))) := by
  have h0 := h
  obtain ⟨r1, r2, r3, r4, r5, r6, r7, r8, r9, r10, r11⟩ := h
  have hL := r3.1
  obtain ⟨⟨-, c16⟩, -, -, -, -⟩ := id r11
  have hss := skp_skp T L a r5
  have hsc : scR τ (cb_sI τ 0 13 (zI (skp T L a : Nat))) := scR_0 _ 13 _ (by omega)
  unfold f_X5_readClause f_X8_takeClause
  rw [r6, s_letterAt r3 _ (by omega), bp_s, m_here (txM_sc r4 hsc) (sI_i _ _ _ _) (by omega), bi_s, hss, sI_sI, bv_eta, bv_eta]
  simp only [show (99 : Int32) = zI ((99 : Nat) : Int) from rfl, show (112 : Int32) = zI ((112 : Nat) : Int) from rfl, show (114 : Int32) = zI ((114 : Nat) : Int) from rfl, lt_eq r3 _ _ (show 99 < 256 by omega), lt_eq r3 _ _ (show 112 < 256 by omega), lt_eq r3 _ _ (show 114 < 256 by omega)]
  have b16 : ¬ (cb_sI τ 0 13 (zI (skp T L a : Nat))).1 0 16 = 0 := by rw [sI_j _ _ _ (by decide), c16]; decide
  by_cases g99 : T (skp T L a) = 99
  · rw [if_pos ⟨hs, g99⟩, if_neg (fun q => by omega), if_pos ⟨hs, g99⟩]
    unfold f_X8_takeClause_36
    rw [if_neg (show ¬ (1 : Int32) < 0 from by decide), if_neg (show ¬ (1 : Int32) ≤ 0 from by decide), if_neg b16]
    exact cl_card h0 hs g99
  · rw [if_neg (fun q => g99 q.2)]
    by_cases g112 : T (skp T L a) = 112
    · rw [if_pos ⟨hs, g112⟩, if_neg (fun q => by omega), if_neg (fun q => g99 q.2), if_pos ⟨hs, g112⟩]
      unfold f_X8_takeClause_36
      rw [if_neg (show ¬ (2 : Int32) < 0 from by decide), if_neg (show ¬ (2 : Int32) ≤ 0 from by decide), if_neg b16]
      exact cl_person h0 hs g112
    · rw [if_neg (fun q => g112 q.2)]
      unfold f_X5_readClause_47
      rw [show (3 : Int32) = zI ((3 : Nat) : Int) from rfl, show (1 : Int32) = zI ((1 : Nat) : Int) from rfl, r6, s_fail, s_fail, bv_s, bv_s]
      right
      by_cases g114 : T (skp T L a) = 114
      · rw [if_pos ⟨hs, g114⟩, if_pos ⟨hs, g114⟩]
        unfold f_X8_takeClause_36 f_X8_takeClause_62 f_X8_takeClause_109 f_X8_fails
        rw [if_neg (show ¬ (0 : Int32) < 0 from by decide), if_pos (show (0 : Int32) ≤ 0 from by decide), if_pos rfl, if_neg b16, let_s, bi_s, sI_i]
        exact ⟨3, skp T L a, _, _, rfl, FC_new r1 r3 r8 3 _ (by omega) (by omega) (by omega) _ (by omega) r6, rfl, scR_t r2 (scR_t hsc (scR_0 _ 12 _ (by omega))), sI_i _ _ _ _⟩
      · rw [if_neg (fun q => g114 q.2), if_neg (fun q => g114 q.2), if_neg (fun q => g99 q.2), if_neg (fun q => g112 q.2)]
        unfold f_X8_takeClause_36 f_X8_takeClause_52 f_X8_fails
        rw [if_pos (show -zI ((1 : Nat) : Int) < 0 from by decide), let_s, bi_s, sI_i]
        exact ⟨1, skp T L a, _, _, rfl, FC_new r1 r3 r8 1 _ (by omega) (by omega) (by omega) _ (by omega) r6, rfl, scR_t r2 (scR_t hsc (scR_0 _ 12 _ (by omega))), sI_i _ _ _ _⟩
/-- what comes of the whole text -/
def okT (T : Nat → Nat) (L : Nat) (σ0 τ0 : cb_St) (F : Option cb_St) (G : Option (Int32 × cb_St)) : Prop :=
  (∃ σ1 τ1 k m, F = some σ1 ∧ G = f_X8_table_46 τ1 0 ∧ RD T L σ0 τ0 L k m σ1 τ1) ∨ (∃ f p σ1 τ1, F = some σ1 ∧ FC T L σ0 f p σ1 ∧ G = f_X8_table_46 τ1 (zI ((f : Nat) : Int)) ∧ scR τ0 τ1 ∧ τ1.1 0 12 = zI ((p : Nat) : Int))
/-- after a clause comes the rest -/
theorem rd_step (n : Nat) (ih : ∀ (a k m c fu fv : Nat) (σ τ : cb_St), RD T L σ0 τ0 a k m σ τ → L - skp T L a < n → c ≤ skp T L a → n ≤ fu → n ≤ fv → okT T L σ0 τ0 (f_X5_readAll_18 fu σ (zI c)) (f_X8_table_27 fv τ 0)) (s c fu fv : Nat) (hs : s < L) (hL : L ≤ 240) (hn : L - s < n + 1) (hc : c ≤ s + 1) (hfu : n ≤ fu) (hfv : n ≤ fv) (F : Option cb_St) (G : Option (Int32 × cb_St)) (h : okO T L σ0 τ0 s F G) : okT T L σ0 τ0 (cb_bv F (fun σ_1 => cb_bv (f_X5_skipBlanks σ_1) (fun σ_2 => f_X5_readAll_18 fu σ_2 (zI c)))) (cb_bi G (fun r_3 σ_4 => f_X8_table_27 fv σ_4 r_3)) := by
  rcases h with ⟨σ1, σ2, τ2, a, k, m, h1, h2, h3, h4, h5⟩ | ⟨f, p, σ1, τ2, h1, h2, h3, h4, h5⟩
  · rw [h1, h3, bv_s, h2, bv_s, bi_s]
    have ha := h4.2.2.2.2.1
    have := skp_rng T L a ha
    exact ih a k m c fu fv σ2 τ2 h4 (by omega) (by omega) hfu hfv
  · obtain ⟨σ2, k1, k2⟩ := FC_skip h2
    rw [h1, h3, bv_s, k1, bv_s, bi_s]
    right
    obtain ⟨fu, rfl⟩ : ∃ g, fu = g + 1 := ⟨fu - 1, by omega⟩
    obtain ⟨fv, rfl⟩ : ∃ g, fv = g + 1 := ⟨fv - 1, by omega⟩
    have f1 := h2.2.2.1
    have f4 := h2.2.2.2.1
    refine ⟨f, p, σ2, τ2, ?_, k2, ?_, h4, h5⟩
    · rw [f_X5_readAll_18, if_neg (FC_ne k2)]; exact ite_self _
    · rw [f_X8_table_27, if_neg (by rw [show (0 : Int32) = zI 0 from rfl, zI_inj (by omega) (by omega) (by omega) (by omega)]; omega)]
theorem rd_loop : ∀ (n a k m c fu fv : Nat) (σ τ : cb_St), RD T L σ0 τ0 a k m σ τ → L - skp T L a < n → c ≤ skp T L a → n ≤ fu → n ≤ fv → okT T L σ0 τ0 (f_X5_readAll_18 fu σ (zI c)) (f_X8_table_27 fv τ 0) := by
  intro n
  induction n with
  | zero => intro a k m c fu fv σ τ _ h; exact absurd h (by omega)
  | succ n ih =>
    intro a k m c fu fv σ τ h hn hc hfu hfv
    have h0 := h
    obtain ⟨r1, r2, r3, r4, r5, r6, r7, r8, r9, r10, r11⟩ := h
    have hL := r3.1
    obtain ⟨q1, q2⟩ := skp_rng T L a r5
    obtain ⟨fu, rfl⟩ : ∃ g, fu = g + 1 := ⟨fu - 1, by omega⟩
    obtain ⟨fv, rfl⟩ : ∃ g, fv = g + 1 := ⟨fv - 1, by omega⟩
    have e1 : zI (c : Int) + 1 = zI ((c + 1 : Nat) : Int) := by rw [show (1 : Int32) = zI 1 from rfl, zI_add, al_1]
    rw [f_X5_readAll_18, f_X8_table_27, if_pos rfl, m_here r4 r7 r5, bi_s, if_pos r8, r3.2.1, r6]
    by_cases g : skp T L a < L
    · have hlt : ¬ lt T L (skp T L a) < 0 := by
        unfold lt
        have := (r3.2.2 _ g).2
        rw [if_pos g, show (0 : Int32) = zI 0 from rfl, zI_lt (by omega) (by omega) (by omega) (by omega)]; omega
      rw [if_neg (show ¬ (240 : Int32) ≤ zI (c : Int) from by rw [show (240 : Int32) = zI 240 from rfl, zI_le (by omega) (by omega) (by omega) (by omega)]; omega), if_neg (by rw [zI_le (by omega) (by omega) (by omega) (by omega)]; omega), if_neg hlt]
      simp only [let_s, e1]
      exact rd_step n ih (skp T L a) (c + 1) fu fv g hL (by omega) (by omega) (by omega) (by omega) _ _ (cl_clause h0 g)
    · have eL : skp T L a = L := by omega
      left
      have hlt : lt T L (skp T L a) < 0 := by
        unfold lt
        rw [if_neg g]; decide
      rw [if_pos hlt, if_pos (show zI (L : Int) ≤ zI (skp T L a : Nat) from by rw [zI_le (by omega) (by omega) (by omega) (by omega)]; omega)]
      refine ⟨σ, cb_sI τ 0 13 (zI (skp T L a : Nat)), k, m, ite_self _, rfl, r1, scR_t r2 (scR_0 _ 13 _ (by omega)), r3, txM_13 r4 _, Nat.le_refl _, ?_, ?_, r8, r9, ?_, ?_⟩
      · rw [skp_L, r6, eL]
      · rw [sI_i, eL]
      · rw [sI_j _ _ _ (by decide)]; exact r10
      · exact dt_c r11 rfl rfl rfl rfl (fun j hj => sI_j _ _ _ (by omega)) (sI_n _ _ _ (by decide)) (sI_n _ _ _ (by decide)) (sI_n _ _ _ (by decide))
/-- the first clause: the rules -/
def PR (T : Nat → Nat) (L : Nat) (σ0 τ0 : cb_St) (s : Nat) (σ τ : cb_St) : Prop := rdC σ0 σ ∧ scR τ0 τ ∧ txC T L σ ∧ txM T L τ ∧ s < L ∧ skp T L s = s ∧ σ.1 3 5 = zI s ∧ τ.1 0 13 = zI s ∧ σ.1 3 1 = 0 ∧ σ.1 3 2 = zI (-1) ∧ τ.1 0 12 = zI (-1) ∧ σ.1 4 0 = 1 ∧ σ.1 4 4 = zI ((0 : Nat) : Int) ∧ σ.1 4 5 = zI ((0 : Nat) : Int) ∧ σ.2 4 = 0 ∧ τ.1 0 16 = 0 ∧ τ.1 0 18 = zI ((0 : Nat) : Int) ∧ τ.1 0 21 = zI ((0 : Nat) : Int)
theorem bL_0 (v : Nat) : bL 0 v = false := by
  unfold bL
  show (0#64).getLsbD v = false
  exact BitVec.getLsbD_zero
theorem FC_tail {f p : Nat} (h : FC T L σ0 f p σ) (x : Int32) : ∃ σ1, cb_let (cb_sI σ 4 3 x) (fun σ_10 => cb_bv (f_X5_takeWord 59 σ_10) (fun σ_11 => some σ_11)) = some σ1 ∧ FC T L σ0 f p σ1 := by
  obtain ⟨σ1, k1, k2⟩ := FC_word (FC_4 h 3 x) 59 (by omega)
  refine ⟨σ1, ?_, k2⟩
  rw [let_s, show f_X5_takeWord 59 (cb_sI σ 4 3 x) = _ from k1, bv_s]
theorem FC_tail2 {f p : Nat} (h : FC T L σ0 f p σ) (x : Int32) : ∃ σ1, cb_let (cb_sI σ 4 2 x) (fun σ_7 => cb_bi (f_X5_number 0 1 σ_7) (fun r_8 σ_9 => cb_let (cb_sI σ_9 4 3 r_8) (fun σ_10 => cb_bv (f_X5_takeWord 59 σ_10) (fun σ_11 => some σ_11)))) = some σ1 ∧ FC T L σ0 f p σ1 := by
  obtain ⟨v, σ1, k1, k2⟩ := FC_num (FC_4 h 2 x) 0 1 (by omega) (by omega)
  obtain ⟨σ2, j1, j2⟩ := FC_tail k2 v
  refine ⟨σ2, ?_, j2⟩
  rw [let_s, show f_X5_number 0 1 (cb_sI σ 4 2 x) = _ from k1, bi_s, j1]
theorem FC_tail3 {f p : Nat} (h : FC T L σ0 f p σ) (x : Int32) : ∃ σ1, cb_let (cb_sI σ 4 1 x) (fun σ_4 => cb_bi (f_X5_number 0 1 σ_4) (fun r_5 σ_6 => cb_let (cb_sI σ_6 4 2 r_5) (fun σ_7 => cb_bi (f_X5_number 0 1 σ_7) (fun r_8 σ_9 => cb_let (cb_sI σ_9 4 3 r_8) (fun σ_10 => cb_bv (f_X5_takeWord 59 σ_10) (fun σ_11 => some σ_11)))))) = some σ1 ∧ FC T L σ0 f p σ1 := by
  obtain ⟨v, σ1, k1, k2⟩ := FC_num (FC_4 h 1 x) 0 1 (by omega) (by omega)
  obtain ⟨σ2, j1, j2⟩ := FC_tail2 k2 v
  refine ⟨σ2, ?_, j2⟩
  rw [let_s, show f_X5_number 0 1 (cb_sI σ 4 1 x) = _ from k1, bi_s, j1]
theorem rl_not {s : Nat} (h : PR T L σ0 τ0 s σ τ) (hT : ¬ T s = 114) : okO T L σ0 τ0 s (f_X5_readRules σ) (f_X8_takeClause τ) := by
  obtain ⟨r1, r2, r3, r4, hs, hss, r6, r7, r8, r9, r10, d0, d4, d5, dL, t16, t18, t21⟩ := h
  have hL := r3.1
  right
  have hw1 := s_takeWord r3 r6 (by omega) 114 (by omega)
  rw [hss, if_neg (fun q => hT q.2), sI_id σ 3 5 _ r6] at hw1
  have hF := FC_new r1 r3 r8 1 s (by omega) (by omega) (by omega) s (by omega) r6
  obtain ⟨v, σ1, k1, k2⟩ := FC_num hF 0 4 (by omega) (by omega)
  obtain ⟨σ2, j1, j2⟩ := FC_tail3 k2 v
  unfold f_X5_readRules f_X8_takeClause
  rw [show f_X5_takeWord 114 σ = _ from hw1, bv_s, show f_X5_number 0 4 (failS σ 1 s) = _ from k1, bi_s, j1, m_here r4 r7 (by omega), bi_s, hss, sI_id τ 0 13 _ r7]
  simp only [show (99 : Int32) = zI ((99 : Nat) : Int) from rfl, show (112 : Int32) = zI ((112 : Nat) : Int) from rfl, show (114 : Int32) = zI ((114 : Nat) : Int) from rfl, lt_eq r3 _ _ (show 99 < 256 by omega), lt_eq r3 _ _ (show 112 < 256 by omega), lt_eq r3 _ _ (show 114 < 256 by omega)]
  unfold f_X8_takeClause_36 f_X8_takeClause_52 f_X8_fails
  rw [if_neg (fun q => hT q.2), t16, if_pos rfl, let_s, bi_s, r7, if_neg (show ¬ (1 : Int32) < 0 from by decide), if_neg (show ¬ (1 : Int32) ≤ 0 from by decide), if_neg (show ¬ (2 : Int32) < 0 from by decide), if_neg (show ¬ (2 : Int32) ≤ 0 from by decide), if_pos (show (-1 : Int32) < 0 from by decide), if_pos rfl, ite_self, ite_self]
  exact ⟨1, s, σ2, _, rfl, j2, rfl, scR_t r2 (scR_0 _ 12 _ (by omega)), sI_i _ _ _ _⟩
end LO
