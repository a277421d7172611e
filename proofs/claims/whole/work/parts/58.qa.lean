/-! ===== the class and the reference answer alike: pack, card, person, beats, back, wanted ===== -/
def mW (g : Nat → Nat) (i : Nat) : Nat → Int → Nat → Int × Nat
  | 0, b, fe => (b, fe)
  | m + 1, b, fe => if fe ≤ g i then mW g (i + 1) m b fe else mW g (i + 1) m i (g i)
theorem mW_s (g : Nat → Nat) (i m : Nat) (b : Int) (fe : Nat) : mW g i (m + 1) b fe = if fe ≤ g i then mW g (i + 1) m b fe else mW g (i + 1) m i (g i) := rfl
theorem mW_rng (g : Nat → Nat) : ∀ (m i : Nat) (b : Int) (fe : Nat), -1 ≤ b → b < i + m → ((mW g i m b fe).1 = b ∨ 0 ≤ (mW g i m b fe).1) ∧ -1 ≤ (mW g i m b fe).1 ∧ (mW g i m b fe).1 < i + m := by
  intro m
  induction m with
  | zero => intro i b fe h1 h2; exact ⟨Or.inl rfl, h1, h2⟩
  | succ m ih =>
    intro i b fe h1 h2
    rw [mW_s]
    by_cases h : fe ≤ g i
    · rw [if_pos h]
      have := ih (i + 1) b fe h1 (by omega)
      exact ⟨this.1, this.2.1, by omega⟩
    · rw [if_neg h]
      have := ih (i + 1) i (g i) (by omega) (by omega)
      refine ⟨Or.inr ?_, this.2.1, by omega⟩
      rcases this.1 with e | e
      · rw [e]; omega
      · exact e
/-- the end of wanted -/
def mWe (Q : Nat) (x1 : Int32) (w : Int × Nat) : Int32 := if w.1 < 0 then zI w.1 else if x1 = zI 0 then zI w.1 else zI ((Q : Int) - 1 - w.2)
theorem z10 : ¬ zI 1 = (0 : Int32) := by decide
theorem z00 : zI 0 = (0 : Int32) := rfl
theorem ex_same {A B : Option Int32} (h : A = B) (hs : ∃ r, A = some r) : ∃ r, A = some r ∧ B = some r := by
  obtain ⟨r, e⟩ := hs
  exact ⟨r, e, h ▸ e⟩
section QA
variable {N Q : Nat} {σ τ : cb_St} {n ml : Nat} {pk : Nat → Nat} {hd : Nat → Int}
theorem q_pack (hT : rlT N Q σ τ) (hP : rlP N Q σ 13 (τ.1 3) n ml pk hd) (x : Int32) : ∃ r, f_X7_pack x σ = some r ∧ f_X8_pack x τ = some r := by
  have hN : N ≤ 12 := hT.1
  obtain ⟨hn, -, h0, h12, -, -, -, hp, -⟩ := hP
  obtain ⟨a, rfl, h1, h2⟩ := zI_ex x
  unfold f_X7_pack f_X8_pack
  rw [s_in]
  simp (disch := omega) only [show (12 : Int).toNat = 12 from rfl, h12, zI_64, l64_0, zI_lit, zI_neg, zI_add, zI_sub, zI_mul, zI_lt, zI_le, zI_inj, zI_ck, zI_clamp, ← Int.natCast_add, la_1, al_1, la_2, al_2, la_3, al_3, la_4, al_4, la_5, al_5, la_6, al_6, la_7, al_7, la_8, al_8, la_9, al_9, la_10, al_10, la_11, al_11, la_12, al_12, la_13, al_13, la_16, al_16, la_19, al_19, la_20, al_20, la_24, al_24, la_25, al_25, la_26, al_26, la_27, al_27, la_51, al_51, la_52, al_52, la_0, Int.toNat_natCast, bp_s, let_s, bi_s, bv_s, b1_f]
  by_cases h : 0 ≤ a ∧ a < n
  · obtain ⟨i, rfl⟩ := Int.eq_ofNat_of_zero_le h.1
    obtain ⟨p1, p2, p3⟩ := hp i (by omega)
    rw [s_cardAt 13 σ h0 (by omega) i (by omega), bp_s, p1, if_pos (show (0 : Int) ≤ i ∧ (i : Int) ≤ n - 1 by omega)]
    simp (disch := omega) only [p2, zI_lit, zI_neg, zI_add, zI_sub, zI_mul, zI_lt, zI_le, zI_inj, zI_ck, zI_clamp, ← Int.natCast_add, la_1, al_1, la_2, al_2, la_3, al_3, la_4, al_4, la_5, al_5, la_6, al_6, la_7, al_7, la_8, al_8, la_9, al_9, la_10, al_10, la_11, al_11, la_12, al_12, la_13, al_13, la_16, al_16, la_19, al_19, la_20, al_20, la_24, al_24, la_25, al_25, la_26, al_26, la_27, al_27, la_51, al_51, la_52, al_52, la_0, Int.toNat_natCast, bp_s, let_s, bi_s, bv_s, b1_f]
    exact ⟨_, rfl, if_neg (by decide)⟩
  · rw [s_cardAt_n 13 σ h0 (by omega) a h1 h2 (by omega), bp_s, if_neg (show ¬ (0 ≤ a ∧ a ≤ n - 1) by omega), if_pos rfl]
    exact ⟨_, rfl, rfl⟩
theorem q_card (hT : rlT N Q σ τ) (hP : rlP N Q σ 13 (τ.1 3) n ml pk hd) (x y : Int32) : ∃ r, f_X7_card x y σ = some r ∧ f_X8_card x y τ = some r := by
  have hN : N ≤ 12 := hT.1
  obtain ⟨a, rfl, h1, h2⟩ := zI_ex x
  unfold f_X7_card f_X8_card
  rw [s_hasCard 9 σ hT.2.2.1 hN a h1 h2, m_isCard τ hT.2.2.2.1 hN a h1 h2, bp_s, bp_s]
  by_cases h : 0 ≤ a ∧ a < N
  · rw [if_pos h, if_neg z10, if_neg z10]
    obtain ⟨c, rfl⟩ := Int.eq_ofNat_of_zero_le h.1
    obtain ⟨e1, e2⟩ := hT.2.2.2.2.2.2.2.2.2.2.2.2.1 c (by omega)
    rw [s_rankOf 9 σ c (by omega), s_suitOf 9 σ c (by omega), c_placeOf hN hP c (by omega), m_placeOf hN hP c (by omega), c_holderOf hN hP c (by omega), m_whoIs hT hP c (by omega)]
    have e3 : σ.1 13 1 = τ.1 3 25 := hP.2.2.2.2.2.2.1
    simp (disch := omega) only [bp_s, zI_ck, zI_clamp, Int.toNat_natCast, e1, e2, e3, ck_t, show Int32.toNatClampNeg 25 = 25 from rfl, show (0 ≤ Int32.toInt 25 ∧ Int32.toInt 25 < 51) from by decide]
    refine ex_same (by first | rfl | simp [cb_ck]) ?_
    repeat' split
    all_goals exact ⟨_, rfl⟩
  · rw [if_neg h, if_pos z00, if_pos z00]
    exact ⟨_, rfl, rfl⟩
theorem q_person (hT : rlT N Q σ τ) (hP : rlP N Q σ 13 (τ.1 3) n ml pk hd) (x y : Int32) : ∃ r, f_X7_person x y σ = some r ∧ f_X8_person x y τ = some r := by
  have hQ : Q ≤ 6 := hT.2.1
  obtain ⟨a, rfl, h1, h2⟩ := zI_ex x
  unfold f_X7_person f_X8_person
  rw [s_hasPerson 9 σ hT.2.2.2.2.1 hQ a h1 h2, m_isPerson τ hT.2.2.2.2.2.1 hQ a h1 h2, bp_s, bp_s]
  by_cases h : 0 ≤ a ∧ a < Q
  · rw [if_pos h, if_neg z10, if_neg z10]
    obtain ⟨p, rfl⟩ := Int.eq_ofNat_of_zero_le h.1
    obtain ⟨a1, a2, -⟩ := hP.2.2.2.2.2.2.2.2.1 p (by omega)
    obtain ⟨w1, -⟩ := hP.2.2.2.2.2.2.2.2.2.2.1 p (by omega)
    rw [s_cardOf 13 σ p (by omega), s_winsOf 13 σ p (by omega), s_beatenBy hT hP p (by omega), m_beatenBy hT hP p (by omega), a1, w1]
    have e13 : (13 : Int32) + zI p = zI ((13 + p : Nat) : Int) := by rw [show (13 : Int32) = zI 13 from rfl, zI_add, la_13]
    have e19 : (19 : Int32) + zI p = zI ((19 + p : Nat) : Int) := by rw [show (19 : Int32) = zI 19 from rfl, zI_add, la_19]
    rw [e13, e19]
    simp (disch := omega) only [bp_s, zI_ck, zI_clamp, Int.toNat_natCast, a2]
    refine ex_same rfl ?_
    repeat' split
    all_goals exact ⟨_, rfl⟩
  · rw [if_neg h, if_pos z00, if_pos z00]
    exact ⟨_, rfl, rfl⟩
theorem q_beats (hT : rlT N Q σ τ) (x y : Int32) : ∃ r, f_X7_beats x y σ = some r ∧ f_X8_beats x y τ = some r := by
  have hN : N ≤ 12 := hT.1
  obtain ⟨a, rfl, h1, h2⟩ := zI_ex x
  obtain ⟨b, rfl, h3, h4⟩ := zI_ex y
  unfold f_X7_beats f_X7_beats_27
  unfold f_X8_beats f_X8_beats_21
  rw [s_hasCard 9 σ hT.2.2.1 hN a h1 h2, m_isCard τ hT.2.2.2.1 hN a h1 h2, s_hasCard 9 σ hT.2.2.1 hN b h3 h4, m_isCard τ hT.2.2.2.1 hN b h3 h4]
  simp only [bp_s]
  by_cases h : 0 ≤ a ∧ a < N
  · rw [if_pos h, if_neg z10, if_neg z10]
    by_cases g : 0 ≤ b ∧ b < N
    · rw [if_pos g, if_neg z10, if_neg z10]
      obtain ⟨c, rfl⟩ := Int.eq_ofNat_of_zero_le h.1
      obtain ⟨d, rfl⟩ := Int.eq_ofNat_of_zero_le g.1
      rw [s_between hT c d (by omega) (by omega) (by omega) (by omega), m_cardsMeet τ c d (by omega) (by omega)]
      simp only [bp_s]
      by_cases e : zI (c : Int) = zI (d : Int)
      · rw [if_pos e, if_pos e]; exact ⟨_, rfl, rfl⟩
      · rw [if_neg e, if_neg e]
        rcases mT_3 τ c d with e1 | e1 | e1 <;> rw [e1] <;> exact ⟨_, rfl, rfl⟩
    · rw [if_neg g, if_pos z00, if_pos z00]
      exact ⟨_, rfl, rfl⟩
  · rw [if_neg h, if_pos z00, if_pos z00]
    exact ⟨_, rfl, rfl⟩
theorem s_back_33 (hT : rlT N Q σ τ) (hP : rlP N Q σ 13 (τ.1 3) n ml pk hd) (p : Nat) (hp : p < Q) : ∀ (m i fu a : Nat), i + m = Q → m < fu → a ≤ i → f_X7_back_33 (zI p) σ fu (zI a) (zI i) = some (if a + mC (fun q => decide (mT τ (hd q) (hd p) = zI 0)) i m ≤ mN τ hd Q p then zI 0 else zI 1) := by
  have hQ : Q ≤ 6 := hT.2.1
  have h5 : σ.1 9 5 = zI Q := hT.2.2.2.2.1
  have hl := mN_le τ hd Q p
  have hbc := s_bits σ _ (mS_hi (fun q => decide (mT τ (hd p) (hd q) = zI 0)) Q (by omega))
  rw [show mC (bt (mS (fun q => decide (mT τ (hd p) (hd q) = zI 0)) 0 Q (zI 0))) 0 12 = mN τ hd Q p from rfl] at hbc
  intro m
  induction m with
  | zero =>
    intro i fu a e hf ha
    obtain ⟨fu, rfl⟩ : ∃ g, fu = g + 1 := ⟨fu - 1, by omega⟩
    rw [f_X7_back_33, h5, s_beatenBy hT hP p (by omega), bp_s, hbc]; simp (disch := omega) only [zI_lit, zI_neg, zI_add, zI_sub, zI_mul, zI_lt, zI_le, zI_inj, zI_ck, zI_clamp, ← Int.natCast_add, la_1, al_1, la_2, al_2, la_3, al_3, la_4, al_4, la_5, al_5, la_6, al_6, la_7, al_7, la_8, al_8, la_9, al_9, la_10, al_10, la_11, al_11, la_12, al_12, la_13, al_13, la_16, al_16, la_19, al_19, la_20, al_20, la_24, al_24, la_25, al_25, la_26, al_26, la_27, al_27, la_51, al_51, la_52, al_52, la_0, Int.toNat_natCast, bp_s, let_s, bi_s, bv_s, b1_f]
    rw [if_pos (by omega)]
    by_cases h : a ≤ mN τ hd Q p
    · rw [if_pos (by omega), if_pos (by simpa [mC] using h)]
    · rw [if_neg (by omega), if_neg (by simpa [mC] using h)]
  | succ m ih =>
    intro i fu a e hf ha
    obtain ⟨fu, rfl⟩ : ∃ g, fu = g + 1 := ⟨fu - 1, by omega⟩
    have i1 := ih (i + 1) fu a (by omega) (by omega) (by omega)
    have i2 := ih (i + 1) fu (a + 1) (by omega) (by omega) (by omega)
    rw [f_X7_back_33, h5, s_winsOver hT hP i p (by omega) (by omega), mC_s]
    unfold f_X7_back_56
    simp (disch := omega) only [zI_lit, zI_neg, zI_add, zI_sub, zI_mul, zI_lt, zI_le, zI_inj, zI_ck, zI_clamp, ← Int.natCast_add, la_1, al_1, la_2, al_2, la_3, al_3, la_4, al_4, la_5, al_5, la_6, al_6, la_7, al_7, la_8, al_8, la_9, al_9, la_10, al_10, la_11, al_11, la_12, al_12, la_13, al_13, la_16, al_16, la_19, al_19, la_20, al_20, la_24, al_24, la_25, al_25, la_26, al_26, la_27, al_27, la_51, al_51, la_52, al_52, la_0, Int.toNat_natCast, bp_s, let_s, bi_s, bv_s, b1_f]
    rw [if_neg (by omega)]
    by_cases h : mT τ (hd i) (hd p) = zI 0
    · rw [if_pos h, if_neg zI_ne10, i2]; simp [h, Nat.add_assoc]
    · rw [if_neg h, if_pos rfl, i1]; simp [h]
theorem m_back_30 (hT : rlT N Q σ τ) (hP : rlP N Q σ 13 (τ.1 3) n ml pk hd) (p : Nat) (hp : p < Q) : ∀ (m i fu a : Nat), i + m = Q → m < fu → a ≤ i → f_X8_back_30 (zI p) τ fu (zI a) (zI i) = some (if a + mC (fun q => decide (mT τ (hd q) (hd p) = zI 0)) i m ≤ mN τ hd Q p then zI 0 else zI 1) := by
  have hQ : Q ≤ 6 := hT.2.1
  have h5 : τ.1 0 7 = zI Q := hT.2.2.2.2.2.1
  have hl := mN_le τ hd Q p
  have hbc := m_bits (mS (fun q => decide (mT τ (hd p) (hd q) = zI 0)) 0 Q (zI 0)) τ
  rw [show mC (bt (mS (fun q => decide (mT τ (hd p) (hd q) = zI 0)) 0 Q (zI 0))) 0 12 = mN τ hd Q p from rfl] at hbc
  intro m
  induction m with
  | zero =>
    intro i fu a e hf ha
    obtain ⟨fu, rfl⟩ : ∃ g, fu = g + 1 := ⟨fu - 1, by omega⟩
    rw [f_X8_back_30, h5, m_beatenBy hT hP p (by omega), bp_s, hbc]; simp (disch := omega) only [zI_lit, zI_neg, zI_add, zI_sub, zI_mul, zI_lt, zI_le, zI_inj, zI_ck, zI_clamp, ← Int.natCast_add, la_1, al_1, la_2, al_2, la_3, al_3, la_4, al_4, la_5, al_5, la_6, al_6, la_7, al_7, la_8, al_8, la_9, al_9, la_10, al_10, la_11, al_11, la_12, al_12, la_13, al_13, la_16, al_16, la_19, al_19, la_20, al_20, la_24, al_24, la_25, al_25, la_26, al_26, la_27, al_27, la_51, al_51, la_52, al_52, la_0, Int.toNat_natCast, bp_s, let_s, bi_s, bv_s, b1_f]
    rw [if_pos (by omega)]
    by_cases h : a ≤ mN τ hd Q p
    · rw [if_pos (by omega), if_pos (by simpa [mC] using h)]
    · rw [if_neg (by omega), if_neg (by simpa [mC] using h)]
  | succ m ih =>
    intro i fu a e hf ha
    obtain ⟨fu, rfl⟩ : ∃ g, fu = g + 1 := ⟨fu - 1, by omega⟩
    have i1 := ih (i + 1) fu a (by omega) (by omega) (by omega)
    have i2 := ih (i + 1) fu (a + 1) (by omega) (by omega) (by omega)
    rw [f_X8_back_30, h5, m_beatenBy hT hP i (by omega), bp_s, m_has _ p (by omega) τ, bt_mS0 _ Q p (by omega) hp, mC_s]
    unfold f_X8_back_60 f_X8_back_61
    simp (disch := omega) only [zI_lit, zI_neg, zI_add, zI_sub, zI_mul, zI_lt, zI_le, zI_inj, zI_ck, zI_clamp, ← Int.natCast_add, la_1, al_1, la_2, al_2, la_3, al_3, la_4, al_4, la_5, al_5, la_6, al_6, la_7, al_7, la_8, al_8, la_9, al_9, la_10, al_10, la_11, al_11, la_12, al_12, la_13, al_13, la_16, al_16, la_19, al_19, la_20, al_20, la_24, al_24, la_25, al_25, la_26, al_26, la_27, al_27, la_51, al_51, la_52, al_52, la_0, Int.toNat_natCast, bp_s, let_s, bi_s, bv_s, b1_f]
    have e0 : zI (a : Int) + zI 0 = zI (a : Int) := Int32.add_zero _
    rw [if_neg (by omega)]
    by_cases hpi : i = p
    · subst hpi
      have e1 := mT_rf τ (hd i)
      have e2 : ¬ decide (mT τ (hd i) (hd i) = zI 0) = true := by rw [decide_eq_true_eq, e1]; exact zI_ne20
      rw [if_pos rfl, if_neg e2, Nat.zero_add]
      simpa using i1
    · rw [if_neg (by omega)]
      by_cases h : mT τ (hd i) (hd p) = zI 0
      · simpa [h, zI_ne10, Nat.add_assoc] using i2
      · simpa [h] using i1
theorem q_back (hT : rlT N Q σ τ) (hP : rlP N Q σ 13 (τ.1 3) n ml pk hd) (x : Int32) : ∃ r, f_X7_back x σ = some r ∧ f_X8_back x τ = some r := by
  have hQ : Q ≤ 6 := hT.2.1
  have hN : N ≤ 12 := hT.1
  obtain ⟨a, rfl, h1, h2⟩ := zI_ex x
  unfold f_X7_back f_X8_back
  rw [s_hasPerson 9 σ hT.2.2.2.2.1 hQ a h1 h2, m_isPerson τ hT.2.2.2.2.2.1 hQ a h1 h2, bp_s, bp_s]
  by_cases h : 0 ≤ a ∧ a < Q
  · rw [if_pos h, if_neg z10, if_neg z10]
    obtain ⟨p, rfl⟩ := Int.eq_ofNat_of_zero_le h.1
    obtain ⟨a1, a2, a3, a4⟩ := hP.2.2.2.2.2.2.2.2.1 p (by omega)
    have r1 := s_back_33 hT hP p (by omega) Q 0 cb_fu 0 (by omega) (by unfold cb_fu; omega) (by omega)
    have r2 := m_back_30 hT hP p (by omega) Q 0 cb_fu 0 (by omega) (by unfold cb_fu; omega) (by omega)
    rw [s_cardOf 13 σ p (by omega), bp_s, a1]
    simp (disch := omega) only [a2, zI_lit, zI_neg, zI_add, zI_sub, zI_mul, zI_lt, zI_le, zI_inj, zI_ck, zI_clamp, ← Int.natCast_add, la_1, al_1, la_2, al_2, la_3, al_3, la_4, al_4, la_5, al_5, la_6, al_6, la_7, al_7, la_8, al_8, la_9, al_9, la_10, al_10, la_11, al_11, la_12, al_12, la_13, al_13, la_16, al_16, la_19, al_19, la_20, al_20, la_24, al_24, la_25, al_25, la_26, al_26, la_27, al_27, la_51, al_51, la_52, al_52, la_0, Int.toNat_natCast, bp_s, let_s, bi_s, bv_s, b1_f]
    by_cases g : 0 ≤ hd p
    · rw [if_neg (by omega), if_pos (by omega)]
      exact ⟨_, r1, r2⟩
    · rw [if_pos (by omega), if_neg (by omega)]
      exact ⟨_, rfl, rfl⟩
  · rw [if_neg h, if_pos z00, if_pos z00]
    exact ⟨_, rfl, rfl⟩
theorem s_wanted_20 (hT : rlT N Q σ τ) (hP : rlP N Q σ 13 (τ.1 3) n ml pk hd) (x1 : Int32) : ∀ (m i fu : Nat) (b : Int) (fe : Nat), i + m = Q → m < fu → -1 ≤ b → b < i → fe ≤ 99 → f_X7_wanted_20 x1 σ fu (zI b) (zI fe) (zI i) = some (mWe Q x1 (mW (mN τ hd Q) i m b fe)) := by
  have hQ : Q ≤ 6 := hT.2.1
  have h5 : σ.1 9 5 = zI Q := hT.2.2.2.2.1
  intro m
  induction m with
  | zero =>
    intro i fu b fe e hf hb1 hb2 hfe
    obtain ⟨fu, rfl⟩ : ∃ g, fu = g + 1 := ⟨fu - 1, by omega⟩
    rw [f_X7_wanted_20, h5]
    unfold f_X7_wanted_70 mWe
    simp (disch := omega) only [zI_lit, zI_neg, zI_add, zI_sub, zI_mul, zI_lt, zI_le, zI_inj, zI_ck, zI_clamp, ← Int.natCast_add, la_1, al_1, la_2, al_2, la_3, al_3, la_4, al_4, la_5, al_5, la_6, al_6, la_7, al_7, la_8, al_8, la_9, al_9, la_10, al_10, la_11, al_11, la_12, al_12, la_13, al_13, la_16, al_16, la_19, al_19, la_20, al_20, la_24, al_24, la_25, al_25, la_26, al_26, la_27, al_27, la_51, al_51, la_52, al_52, la_0, Int.toNat_natCast, bp_s, let_s, bi_s, bv_s, b1_f]
    rw [if_pos (by omega)]
    show _ = some (if b < 0 then zI b else if x1 = zI 0 then zI b else zI ((Q : Int) - 1 - fe))
    by_cases h : b < 0
    · rw [if_pos (by omega), if_pos h]
    · rw [if_neg (by omega), if_neg h]
      split <;> rfl
  | succ m ih =>
    intro i fu b fe e hf hb1 hb2 hfe
    obtain ⟨fu, rfl⟩ : ∃ g, fu = g + 1 := ⟨fu - 1, by omega⟩
    have hl := mN_le τ hd Q i
    have hbc := s_bits σ _ (mS_hi (fun q => decide (mT τ (hd i) (hd q) = zI 0)) Q (by omega))
    rw [show mC (bt (mS (fun q => decide (mT τ (hd i) (hd q) = zI 0)) 0 Q (zI 0))) 0 12 = mN τ hd Q i from rfl] at hbc
    rw [f_X7_wanted_20, mW_s, h5, s_beatenBy hT hP i (by omega), bp_s, hbc]
    unfold f_X7_wanted_55
    simp (disch := omega) only [zI_lit, zI_neg, zI_add, zI_sub, zI_mul, zI_lt, zI_le, zI_inj, zI_ck, zI_clamp, ← Int.natCast_add, la_1, al_1, la_2, al_2, la_3, al_3, la_4, al_4, la_5, al_5, la_6, al_6, la_7, al_7, la_8, al_8, la_9, al_9, la_10, al_10, la_11, al_11, la_12, al_12, la_13, al_13, la_16, al_16, la_19, al_19, la_20, al_20, la_24, al_24, la_25, al_25, la_26, al_26, la_27, al_27, la_51, al_51, la_52, al_52, la_0, Int.toNat_natCast, bp_s, let_s, bi_s, bv_s, b1_f]
    rw [if_neg (by omega), ih (i + 1) fu b fe (by omega) (by omega) hb1 (by omega) hfe, ih (i + 1) fu i (mN τ hd Q i) (by omega) (by omega) (by omega) (by omega) (by omega)]
    by_cases h : fe ≤ mN τ hd Q i
    · rw [if_pos (by omega), if_pos h]
    · rw [if_neg (by omega), if_neg h]
theorem m_wanted_21 (hT : rlT N Q σ τ) (hP : rlP N Q σ 13 (τ.1 3) n ml pk hd) (x1 : Int32) : ∀ (m i fu : Nat) (b : Int) (fe : Nat), i + m = Q → m < fu → -1 ≤ b → b < i → fe ≤ 99 → f_X8_wanted_21 x1 τ fu (zI b) (zI fe) (zI i) = some (mWe Q x1 (mW (mN τ hd Q) i m b fe)) := by
  have hQ : Q ≤ 6 := hT.2.1
  have h5 : τ.1 0 7 = zI Q := hT.2.2.2.2.2.1
  intro m
  induction m with
  | zero =>
    intro i fu b fe e hf hb1 hb2 hfe
    obtain ⟨fu, rfl⟩ : ∃ g, fu = g + 1 := ⟨fu - 1, by omega⟩
    rw [f_X8_wanted_21, h5]
    unfold f_X8_wanted_81 mWe
    simp (disch := omega) only [zI_lit, zI_neg, zI_add, zI_sub, zI_mul, zI_lt, zI_le, zI_inj, zI_ck, zI_clamp, ← Int.natCast_add, la_1, al_1, la_2, al_2, la_3, al_3, la_4, al_4, la_5, al_5, la_6, al_6, la_7, al_7, la_8, al_8, la_9, al_9, la_10, al_10, la_11, al_11, la_12, al_12, la_13, al_13, la_16, al_16, la_19, al_19, la_20, al_20, la_24, al_24, la_25, al_25, la_26, al_26, la_27, al_27, la_51, al_51, la_52, al_52, la_0, Int.toNat_natCast, bp_s, let_s, bi_s, bv_s, b1_f]
    rw [if_pos (by omega)]
    show _ = some (if b < 0 then zI b else if x1 = zI 0 then zI b else zI ((Q : Int) - 1 - fe))
    by_cases h : b < 0
    · rw [if_pos (by omega), if_pos h]
    · rw [if_neg (by omega), if_neg h]
      split <;> rfl
  | succ m ih =>
    intro i fu b fe e hf hb1 hb2 hfe
    obtain ⟨fu, rfl⟩ : ∃ g, fu = g + 1 := ⟨fu - 1, by omega⟩
    have hl := mN_le τ hd Q i
    have hbc := m_bits (mS (fun q => decide (mT τ (hd i) (hd q) = zI 0)) 0 Q (zI 0)) τ
    rw [show mC (bt (mS (fun q => decide (mT τ (hd i) (hd q) = zI 0)) 0 Q (zI 0))) 0 12 = mN τ hd Q i from rfl] at hbc
    rw [f_X8_wanted_21, mW_s, h5, m_beatenBy hT hP i (by omega), bp_s, hbc]
    unfold f_X8_wanted_53 f_X8_wanted_66
    simp (disch := omega) only [zI_lit, zI_neg, zI_add, zI_sub, zI_mul, zI_lt, zI_le, zI_inj, zI_ck, zI_clamp, ← Int.natCast_add, la_1, al_1, la_2, al_2, la_3, al_3, la_4, al_4, la_5, al_5, la_6, al_6, la_7, al_7, la_8, al_8, la_9, al_9, la_10, al_10, la_11, al_11, la_12, al_12, la_13, al_13, la_16, al_16, la_19, al_19, la_20, al_20, la_24, al_24, la_25, al_25, la_26, al_26, la_27, al_27, la_51, al_51, la_52, al_52, la_0, Int.toNat_natCast, bp_s, let_s, bi_s, bv_s, b1_f]
    rw [if_neg (by omega), ih (i + 1) fu b fe (by omega) (by omega) hb1 (by omega) hfe, ih (i + 1) fu i (mN τ hd Q i) (by omega) (by omega) (by omega) (by omega) (by omega)]
    by_cases h : fe ≤ mN τ hd Q i
    · rw [if_pos (by omega), if_pos (by omega), if_pos h]
    · rw [if_neg (by omega), if_neg (by omega), if_neg h]
theorem q_wanted (hT : rlT N Q σ τ) (hP : rlP N Q σ 13 (τ.1 3) n ml pk hd) (x : Int32) : ∃ r, f_X7_wanted x σ = some r ∧ f_X8_wanted x τ = some r := by
  have hQ : Q ≤ 6 := hT.2.1
  obtain ⟨a, rfl, h1, h2⟩ := zI_ex x
  have r1 := s_wanted_20 hT hP (zI a) Q 0 cb_fu (-1) 6 (by omega) (by unfold cb_fu; omega) (by omega) (by omega) (by omega)
  have r2 := m_wanted_21 hT hP (zI a) Q 0 cb_fu (-1) 99 (by omega) (by unfold cb_fu; omega) (by omega) (by omega) (by omega)
  have e : mWe Q (zI a) (mW (mN τ hd Q) 0 Q (-1) 6) = mWe Q (zI a) (mW (mN τ hd Q) 0 Q (-1) 99) := by
    by_cases h0 : Q = 0
    · subst h0; rfl
    · obtain ⟨Q', e⟩ : ∃ q, Q = q + 1 := ⟨Q - 1, by omega⟩
      have hlt := mN_lt τ hd Q 0 hQ (by omega)
      rw [e, mW_s, mW_s, ← e, if_neg (by omega), if_neg (by omega)]
  unfold f_X7_wanted f_X7_wanted_9 f_X8_wanted
  rw [s_in, bp_s, zI_64 h1 h2, l64_0, show (1 : Int64).toInt = 1 from by decide, zI_m1]
  simp (disch := omega) only [zI_lit, zI_neg, zI_lt, zI_le]
  by_cases h : 0 ≤ a ∧ a ≤ 1
  · rw [if_neg (by omega), if_pos (by omega), if_pos h, if_neg zI_ne10]
    exact ⟨_, r1, by rw [e]; exact r2⟩
  · rw [if_neg h, if_pos rfl]
    by_cases g : a < 0
    · rw [if_pos g]; exact ⟨_, rfl, rfl⟩
    · rw [if_neg g, if_neg (by omega)]; exact ⟨_, rfl, rfl⟩
end QA
