/-! ===== shuffles ===== -/
def pj (k n i : Nat) : Nat := if k = 1 then n - 1 - i else if k = 2 then (if i = 0 then n - 1 else i - 1) else (if n / 2 ≤ i then 2 * (i - n / 2) else 2 * i + 1)
def ij (k n j : Nat) : Nat := if k = 1 then n - 1 - j else if k = 2 then (if j = n - 1 then 0 else j + 1) else (if j % 2 = 0 then j / 2 + n / 2 else j / 2)
theorem pj_lt (k n i : Nat) (h : i < n) : pj k n i < n ∧ ij k n (pj k n i) = i := by
  unfold pj ij
  by_cases h1 : k = 1
  · simp only [h1, if_true]; omega
  · by_cases h2 : k = 2
    · simp only [h1, h2, if_true, if_false]; grind
    · simp only [h1, h2, if_false]
      by_cases h3 : n / 2 ≤ i
      · simp only [h3, if_true]
        rw [if_pos (by omega)]; omega
      · simp only [h3, if_false]
        rw [if_neg (by omega)]; omega
theorem ij_lt (k n j : Nat) (h : j < n) : ij k n j < n ∧ pj k n (ij k n j) = j := by
  unfold pj ij
  by_cases h1 : k = 1
  · simp only [h1, if_true]; omega
  · by_cases h2 : k = 2
    · simp only [h1, h2, if_true, if_false]; grind
    · simp only [h1, h2, if_false]
      by_cases h3 : j % 2 = 0
      · simp only [h3, if_true]
        rw [if_pos (by omega)]; omega
      · simp only [h3, if_false]
        rw [if_neg (by omega)]; omega
theorem s_pa0 : ∀ k : Nat, k < 3 → ∀ n : Nat, n < 13 → ∀ i : Nat, i < 12 → i < n → f_X7_placeAfter (zI k) (zI i) (zI n) (fun _ _ => 0, fun _ => 0) = some (zI (pj k n i : Nat)) := by decide +kernel
theorem s_placeAfter (σ : cb_St) (k n i : Nat) (hk : k < 3) (hn : n ≤ 12) (hi : i < n) : f_X7_placeAfter (zI k) (zI i) (zI n) σ = some (zI (pj k n i : Nat)) := s_pa0 k hk n (by omega) i (by omega) hi
theorem m_go0 : ∀ k : Nat, k < 3 → ∀ n : Nat, n < 13 → ∀ i : Nat, i < 12 → i < n → f_X8_goes (zI i) (zI k) (zI n) (fun _ _ => 0, fun _ => 0) = some (zI (pj k n i : Nat)) := by decide +kernel
theorem m_goes (σ : cb_St) (k n i : Nat) (hk : k < 3) (hn : n ≤ 12) (hi : i < n) : f_X8_goes (zI i) (zI k) (zI n) σ = some (zI (pj k n i : Nat)) := m_go0 k hk n (by omega) i (by omega) hi
theorem s_mix_28 (k n : Nat) (hk : k < 3) (hn : n ≤ 12) : ∀ (m i fu : Nat) (σ : cb_St), σ.1 13 0 = zI n → i + m = n → m < fu → ∃ g h : Nat → Int32, f_X4_mix_28 13 (zI k) fu σ (zI i) = some (cb_sA (cb_sA σ 2 g) (13 + 1) h) ∧ (∀ j, j < n → h j = g j) ∧ (∀ q, i ≤ q → q < n → g (pj k n q) = σ.1 (13 + 1) q) ∧ ∀ q, q < i → g (pj k n q) = σ.1 2 (pj k n q) := by
  intro m
  induction m with
  | zero =>
    intro i fu σ h0 e hf
    obtain ⟨fu, rfl⟩ : ∃ g, fu = g + 1 := ⟨fu - 1, by omega⟩
    refine ⟨σ.1 2, va_cpy (σ.1 2) (σ.1 (13 + 1)) 0 0 n, ?_, fun j hj => cpy_e _ _ hj, fun q h1 h2 => absurd h2 (by omega), fun q _ => rfl⟩
    rw [f_X4_mix_28, sA_id, h0, if_pos (by rw [zI_le (by omega) (by omega) (by omega) (by omega)]; omega), ck_t, let_s]
    · rw [zI_clamp (by omega) (by omega), Int.toNat_natCast]; rfl
    · rw [zI_clamp (by omega) (by omega), Int.toNat_natCast, show (0 : Int32) = zI 0 from rfl, zI_le (by omega) (by omega) (by omega) (by omega), zI_le (by omega) (by omega) (by omega) (by omega)]
      refine ⟨by omega, by omega, by omega, ?_, ?_⟩ <;> (show 0 + n ≤ 12; omega)
  | succ m ih =>
    intro i fu σ h0 e hf
    obtain ⟨fu, rfl⟩ : ∃ g, fu = g + 1 := ⟨fu - 1, by omega⟩
    obtain ⟨p1, p2⟩ := pj_lt k n i (by omega)
    have hstep : f_X4_mix_28 13 (zI k) (fu + 1) σ (zI i) = f_X4_mix_28 13 (zI k) fu (cb_sI σ 2 (pj k n i) (σ.1 (13 + 1) i)) (zI ((i + 1 : Nat) : Int)) := by
      rw [f_X4_mix_28, h0, s_placeAfter σ k n i hk hn (by omega)]
      unfold f_X4_mix_71
      simp (disch := omega) only [zI_lit, zI_neg, zI_add, zI_sub, zI_mul, zI_lt, zI_le, zI_inj, zI_ck, zI_clamp, ← Int.natCast_add, la_1, al_1, la_2, al_2, la_3, al_3, la_4, al_4, la_5, al_5, la_6, al_6, la_7, al_7, la_8, al_8, la_9, al_9, la_10, al_10, la_11, al_11, la_12, al_12, la_13, al_13, la_16, al_16, la_19, al_19, la_20, al_20, la_24, al_24, la_25, al_25, la_26, al_26, la_27, al_27, la_51, al_51, la_52, al_52, la_0, Int.toNat_natCast, bp_s, let_s, bi_s, bv_s, b1_f]
      rw [if_neg (by omega), if_neg (by omega), if_neg (by omega)]
    obtain ⟨g, h, q1, q2, q3, q4⟩ := ih (i + 1) fu (cb_sI σ 2 (pj k n i) (σ.1 (13 + 1) i)) (by rw [sI_n _ _ _ (by decide)]; exact h0) (by omega) (by omega)
    refine ⟨g, h, by rw [hstep, q1, sA_sI], q2, fun q g1 g2 => ?_, fun q hq => ?_⟩
    · by_cases hqi : q = i
      · subst hqi
        rw [q4 q (by omega), sI_e, upd_e]
      · rw [q3 q (by omega) g2, sI_n _ _ _ (by decide)]
    · have hne : pj k n q ≠ pj k n i := by
        intro e9
        have := (pj_lt k n q (by omega)).2
        rw [e9, p2] at this; omega
      rw [q4 q (by omega), sI_e, upd_n _ _ hne]
theorem m_shuf_42 (x1 : Int32) (n : Nat) (hn : n ≤ 12) : ∀ (m i fu : Nat) (τ : cb_St), i + m = n → m < fu → ∃ g : Nat → Int32, f_X8_shuffleNow_42 x1 fu τ (zI n) (zI i) = some (cb_sA τ 3 g) ∧ (∀ j, i ≤ j → j < n → g j = τ.1 9 j) ∧ ∀ q, (q < i ∨ n ≤ q) → g q = τ.1 3 q := by
  intro m
  induction m with
  | zero =>
    intro i fu τ e hf
    obtain ⟨fu, rfl⟩ : ∃ g, fu = g + 1 := ⟨fu - 1, by omega⟩
    refine ⟨τ.1 3, ?_, fun j h1 h2 => absurd h2 (by omega), fun q _ => rfl⟩
    rw [f_X8_shuffleNow_42, sA_id, if_pos (by rw [zI_le (by omega) (by omega) (by omega) (by omega)]; omega)]
  | succ m ih =>
    intro i fu τ e hf
    obtain ⟨fu, rfl⟩ : ∃ g, fu = g + 1 := ⟨fu - 1, by omega⟩
    have hstep : f_X8_shuffleNow_42 x1 (fu + 1) τ (zI n) (zI i) = f_X8_shuffleNow_42 x1 fu (cb_sI τ 3 i (τ.1 9 i)) (zI n) (zI ((i + 1 : Nat) : Int)) := by
      rw [f_X8_shuffleNow_42]; simp (disch := omega) only [zI_lit, zI_neg, zI_add, zI_sub, zI_mul, zI_lt, zI_le, zI_inj, zI_ck, zI_clamp, ← Int.natCast_add, la_1, al_1, la_2, al_2, la_3, al_3, la_4, al_4, la_5, al_5, la_6, al_6, la_7, al_7, la_8, al_8, la_9, al_9, la_10, al_10, la_11, al_11, la_12, al_12, la_13, al_13, la_16, al_16, la_19, al_19, la_20, al_20, la_24, al_24, la_25, al_25, la_26, al_26, la_27, al_27, la_51, al_51, la_52, al_52, la_0, Int.toNat_natCast, bp_s, let_s, bi_s, bv_s, b1_f]
      rw [if_neg (by omega)]
    obtain ⟨g, h1, h2, h3⟩ := ih (i + 1) fu (cb_sI τ 3 i (τ.1 9 i)) (by omega) (by omega)
    refine ⟨g, by rw [hstep, h1, sA_sI], fun j g1 g2 => ?_, fun q hq => ?_⟩
    · by_cases hj : j = i
      · subst hj
        rw [h3 j (by omega), sI_e, upd_e]
      · rw [h2 j (by omega) g2, sI_n _ _ _ (by decide)]
    · rw [h3 q (by omega), sI_e, upd_n _ _ (by omega)]
theorem m_shuf_10 (k n : Nat) (hk : k < 3) (hn : n ≤ 12) : ∀ (m i fu : Nat) (τ : cb_St), i + m = n → m < fu → ∃ g : Nat → Int32, f_X8_shuffleNow_10 (zI k) fu τ (zI n) (zI i) = f_X8_shuffleNow_42 (zI k) cb_fu (cb_sA τ 9 g) (zI n) (zI ((0 : Nat) : Int)) ∧ (∀ q, i ≤ q → q < n → g (pj k n q) = τ.1 3 q) ∧ ∀ q, q < i → g (pj k n q) = τ.1 9 (pj k n q) := by
  intro m
  induction m with
  | zero =>
    intro i fu τ e hf
    obtain ⟨fu, rfl⟩ : ∃ g, fu = g + 1 := ⟨fu - 1, by omega⟩
    refine ⟨τ.1 9, ?_, fun j h1 h2 => absurd h2 (by omega), fun q _ => rfl⟩
    rw [f_X8_shuffleNow_10, sA_id, if_pos (by rw [zI_le (by omega) (by omega) (by omega) (by omega)]; omega)]
    rfl
  | succ m ih =>
    intro i fu τ e hf
    obtain ⟨fu, rfl⟩ : ∃ g, fu = g + 1 := ⟨fu - 1, by omega⟩
    obtain ⟨p1, p2⟩ := pj_lt k n i (by omega)
    have hstep : f_X8_shuffleNow_10 (zI k) (fu + 1) τ (zI n) (zI i) = f_X8_shuffleNow_10 (zI k) fu (cb_sI τ 9 (pj k n i) (τ.1 3 i)) (zI n) (zI ((i + 1 : Nat) : Int)) := by
      rw [f_X8_shuffleNow_10, m_goes τ k n i hk hn (by omega)]; simp (disch := omega) only [zI_lit, zI_neg, zI_add, zI_sub, zI_mul, zI_lt, zI_le, zI_inj, zI_ck, zI_clamp, ← Int.natCast_add, la_1, al_1, la_2, al_2, la_3, al_3, la_4, al_4, la_5, al_5, la_6, al_6, la_7, al_7, la_8, al_8, la_9, al_9, la_10, al_10, la_11, al_11, la_12, al_12, la_13, al_13, la_16, al_16, la_19, al_19, la_20, al_20, la_24, al_24, la_25, al_25, la_26, al_26, la_27, al_27, la_51, al_51, la_52, al_52, la_0, Int.toNat_natCast, bp_s, let_s, bi_s, bv_s, b1_f]
      rw [if_neg (by omega)]
    obtain ⟨g, q1, q3, q4⟩ := ih (i + 1) fu (cb_sI τ 9 (pj k n i) (τ.1 3 i)) (by omega) (by omega)
    refine ⟨g, by rw [hstep, q1, sA_sI], fun q g1 g2 => ?_, fun q hq => ?_⟩
    · by_cases hqi : q = i
      · subst hqi
        rw [q4 q (by omega), sI_e, upd_e]
      · rw [q3 q (by omega) g2, sI_n _ _ _ (by decide)]
    · have hne : pj k n q ≠ pj k n i := by
        intro e9
        have := (pj_lt k n q (by omega)).2
        rw [e9, p2] at this; omega
      rw [q4 q (by omega), sI_e, upd_n _ _ hne]
/-- the pack is shuffled, on both sides -/
theorem r_mix {N Q : Nat} {σ τ : cb_St} {n ml : Nat} {pk : Nat → Nat} {hd : Nat → Int} (hN : N ≤ 12) (hP : rlP N Q σ 13 (τ.1 3) n ml pk hd) (k : Nat) (hk : k < 3) : ∃ (σ' τ' : cb_St), f_X4_mix 13 (zI k) σ = some σ' ∧ f_X8_shuffleNow (zI k) τ = some τ' ∧ frC σ σ' ∧ frM τ τ' ∧ rlP N Q σ' 13 (τ'.1 3) n ml (fun i => pk (ij k n i)) hd := by
  have hP0 := hP
  obtain ⟨a1, -, a3, a4, -⟩ := hP
  obtain ⟨g', r1, r2, r3⟩ := m_shuf_10 k n hk (by omega) n 0 cb_fu τ (by omega) (by unfold cb_fu; omega)
  obtain ⟨g2, t1, t2, t3⟩ := m_shuf_42 (zI k) n (by omega) n 0 cb_fu (cb_sA τ 9 g') (by omega) (by unfold cb_fu; omega)
  have hm : f_X8_shuffleNow (zI k) τ = some (cb_sA (cb_sA τ 9 g') 3 g2) := by
    unfold f_X8_shuffleNow
    rw [ck_t _ k12, let_s, c12, a4]
    show f_X8_shuffleNow_10 (zI k) cb_fu τ (zI n) (zI ((0 : Nat) : Int)) = _
    rw [r1, t1]
  have hfm : frM τ (cb_sA (cb_sA τ 9 g') 3 g2) := fun q g1 g2 => by rw [sA_n _ _ g1, sA_n _ _ g2]
  have hv : ∀ i, i < n → g2 i = τ.1 3 (ij k n i) := fun i hi => by
    rw [t2 i (by omega) hi, sA_e]
    have := r2 (ij k n i) (by omega) (ij_lt k n i hi).1
    rw [(ij_lt k n i hi).2] at this
    exact this
  by_cases h0 : n = 0
  · refine ⟨σ, _, ?_, hm, ⟨rfl, fun _ _ _ => rfl⟩, hfm, ?_⟩
    · unfold f_X4_mix
      rw [a3, if_pos (by rw [show (0 : Int32) = zI 0 from rfl, zI_le (by omega) (by omega) (by omega) (by omega)]; omega)]
    · rw [sA_e]
      exact rlP_perm hN hP0 (ij k n) (fun i hi => absurd hi (by omega)) (fun i j h1 h2 => absurd h2 (by omega)) (fun i hi => absurd hi (by omega)) (fun i hi => absurd hi (by omega)) rfl rfl rfl rfl (fun q h1 h2 => by rw [t3 q (by omega), sA_n _ _ (by decide)])
  · obtain ⟨g, h, s1, s2, s3, s4⟩ := s_mix_28 k n hk (by omega) n 0 cb_fu σ a3 (by omega) (by unfold cb_fu; omega)
    refine ⟨cb_sA (cb_sA σ 2 g) (13 + 1) h, _, ?_, hm, ⟨by rw [sA_2, sA_2], fun q h1 h2 => by rw [sA_n _ _ (by omega), sA_n _ _ h1]⟩, hfm, ?_⟩
    · unfold f_X4_mix
      rw [a3, if_neg (by rw [show (0 : Int32) = zI 0 from rfl, zI_le (by omega) (by omega) (by omega) (by omega)]; omega), if_neg (by rw [show (12 : Int32) = zI 12 from rfl, zI_lt (by omega) (by omega) (by omega) (by omega)]; omega), if_pos (by rw [show (12 : Int32) = zI 12 from rfl, zI_le (by omega) (by omega) (by omega) (by omega)]; omega)]
      exact s1
    · rw [sA_e]
      refine rlP_perm hN hP0 (ij k n) (fun i hi => (ij_lt k n i hi).1) (fun i j h1 h2 e9 => ?_) (fun i hi => ?_) hv (by rw [sA_n _ _ (by decide), sA_n _ _ (by decide)]) (by rw [sA_n _ _ (by decide), sA_n _ _ (by decide)]) (by rw [sA_n _ _ (by decide), sA_n _ _ (by decide)]) (by rw [sA_n _ _ (by decide), sA_n _ _ (by decide)]) (fun q h1 h2 => by rw [t3 q (by omega), sA_n _ _ (by decide)])
      · have p1 := (ij_lt k n i (by omega)).2
        have p2 := (ij_lt k n j h2).2
        rw [e9, p2] at p1; omega
      · rw [sA_e, s2 i hi]
        have := s3 (ij k n i) (by omega) (ij_lt k n i hi).1
        rw [(ij_lt k n i hi).2] at this
        exact this
