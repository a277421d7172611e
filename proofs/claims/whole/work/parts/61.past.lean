/-! ===== what can be undone ===== -/
def rlU (N Q : Nat) (σ τ : cb_St) (u x : Nat) : Prop := u ≤ 16 ∧ x < 16 ∧ σ.1 18 0 = zI u ∧ τ.1 0 22 = zI u ∧ σ.1 18 1 = zI x ∧ ∀ j, j < u → ∃ (n ml : Nat) (pk : Nat → Nat) (hd : Nat → Int), rlP N Q σ (20 + 5 * ((x + 15 - j) % 16)) (fun i => τ.1 8 (51 * (u - 1 - j) + i)) n ml pk hd
theorem s_fm0 : ∀ a : Nat, a < 17 → f_J9_floorMod_7cf53 (zI ((a : Int) - 1)) 16 (fun _ _ => 0, fun _ => 0) = some (zI (((a + 15) % 16 : Nat) : Int)) := by decide +kernel
theorem s_fm (σ : cb_St) (a : Nat) (h : a < 16) : f_J9_floorMod_7cf53 (zI a) 16 σ = some (zI a) := by
  have h1 := s_fm0 (a + 1) (by omega)
  have e1 : (((a + 1 : Nat) : Int) - 1) = (a : Int) := by omega
  have e2 : (a + 1 + 15) % 16 = a := by omega
  rw [e1, e2] at h1
  exact h1
theorem s_fm1 (σ : cb_St) (a : Nat) (h : a < 16) : f_J9_floorMod_7cf53 (zI a - 1) 16 σ = some (zI (((a + 15) % 16 : Nat) : Int)) := by
  have h1 := s_fm0 a (by omega)
  rw [show zI (a : Int) - 1 = zI ((a : Int) - 1) from zI_sub a 1]
  exact h1
theorem s_min (σ : cb_St) {a b : Int} (h1 : -2147483648 ≤ a) (h2 : a < 2147483648) (h3 : -2147483648 ≤ b) (h4 : b < 2147483648) : f_J9_min_7cf53 (zI a) (zI b) σ = some (zI (if b < a then b else a)) := by
  unfold f_J9_min_7cf53; simp (disch := omega) only [zI_lit, zI_neg, zI_add, zI_sub, zI_mul, zI_lt, zI_le, zI_inj, zI_ck, zI_clamp, ← Int.natCast_add, la_1, al_1, la_2, al_2, la_3, al_3, la_4, al_4, la_5, al_5, la_6, al_6, la_7, al_7, la_8, al_8, la_9, al_9, la_10, al_10, la_11, al_11, la_12, al_12, la_13, al_13, la_16, al_16, la_19, al_19, la_20, al_20, la_24, al_24, la_25, al_25, la_26, al_26, la_27, al_27, la_51, al_51, la_52, al_52, la_0, Int.toNat_natCast, bp_s, let_s, bi_s, bv_s, b1_f]
  split <;> rfl
theorem s_max (σ : cb_St) {a b : Int} (h1 : -2147483648 ≤ a) (h2 : a < 2147483648) (h3 : -2147483648 ≤ b) (h4 : b < 2147483648) : f_J9_max_7cf53 (zI a) (zI b) σ = some (zI (if a < b then b else a)) := by
  unfold f_J9_max_7cf53; simp (disch := omega) only [zI_lit, zI_neg, zI_add, zI_sub, zI_mul, zI_lt, zI_le, zI_inj, zI_ck, zI_clamp, ← Int.natCast_add, la_1, al_1, la_2, al_2, la_3, al_3, la_4, al_4, la_5, al_5, la_6, al_6, la_7, al_7, la_8, al_8, la_9, al_9, la_10, al_10, la_11, al_11, la_12, al_12, la_13, al_13, la_16, al_16, la_19, al_19, la_20, al_20, la_24, al_24, la_25, al_25, la_26, al_26, la_27, al_27, la_51, al_51, la_52, al_52, la_0, Int.toNat_natCast, bp_s, let_s, bi_s, bv_s, b1_f]
  split <;> rfl
theorem m_rem_52 : ∀ (m i fu : Nat) (τ : cb_St) (u : Nat), τ.1 0 22 = zI u → u ≤ 15 → i + m = 51 → m < fu → ∃ g : Nat → Int32, f_X8_remember_52 fu τ (zI i) = some (cb_sI (cb_sA τ 8 g) 0 22 (zI ((u + 1 : Nat) : Int))) ∧ (∀ j, i ≤ j → j < 51 → g (51 * u + j) = τ.1 3 j) ∧ ∀ q, (q < 51 * u + i ∨ 51 * u + 51 ≤ q) → g q = τ.1 8 q := by
  intro m
  induction m with
  | zero =>
    intro i fu τ u hu hu2 e hf
    obtain ⟨fu, rfl⟩ : ∃ g, fu = g + 1 := ⟨fu - 1, by omega⟩
    refine ⟨τ.1 8, ?_, fun j h1 h2 => absurd h2 (by omega), fun q _ => rfl⟩
    rw [f_X8_remember_52, sA_id]; simp (disch := omega) only [hu, zI_lit, zI_neg, zI_add, zI_sub, zI_mul, zI_lt, zI_le, zI_inj, zI_ck, zI_clamp, ← Int.natCast_add, la_1, al_1, la_2, al_2, la_3, al_3, la_4, al_4, la_5, al_5, la_6, al_6, la_7, al_7, la_8, al_8, la_9, al_9, la_10, al_10, la_11, al_11, la_12, al_12, la_13, al_13, la_16, al_16, la_19, al_19, la_20, al_20, la_24, al_24, la_25, al_25, la_26, al_26, la_27, al_27, la_51, al_51, la_52, al_52, la_0, Int.toNat_natCast, bp_s, let_s, bi_s, bv_s, b1_f]
    rw [if_pos (by omega)]
  | succ m ih =>
    intro i fu τ u hu hu2 e hf
    obtain ⟨fu, rfl⟩ : ∃ g, fu = g + 1 := ⟨fu - 1, by omega⟩
    have e51 : (51 : Int) * (u : Int) + (i : Int) = ((51 * u + i : Nat) : Int) := by omega
    have hstep : f_X8_remember_52 (fu + 1) τ (zI i) = f_X8_remember_52 fu (cb_sI τ 8 (51 * u + i) (τ.1 3 i)) (zI ((i + 1 : Nat) : Int)) := by
      rw [f_X8_remember_52]; simp (disch := omega) only [hu, e51, zI_lit, zI_neg, zI_add, zI_sub, zI_mul, zI_lt, zI_le, zI_inj, zI_ck, zI_clamp, ← Int.natCast_add, la_1, al_1, la_2, al_2, la_3, al_3, la_4, al_4, la_5, al_5, la_6, al_6, la_7, al_7, la_8, al_8, la_9, al_9, la_10, al_10, la_11, al_11, la_12, al_12, la_13, al_13, la_16, al_16, la_19, al_19, la_20, al_20, la_24, al_24, la_25, al_25, la_26, al_26, la_27, al_27, la_51, al_51, la_52, al_52, la_0, Int.toNat_natCast, bp_s, let_s, bi_s, bv_s, b1_f]
      rw [if_neg (by omega)]
    obtain ⟨g, h1, h2, h3⟩ := ih (i + 1) fu (cb_sI τ 8 (51 * u + i) (τ.1 3 i)) u (by rw [sI_n _ _ _ (by decide)]; exact hu) hu2 (by omega) (by omega)
    refine ⟨g, by rw [hstep, h1, sA_sI], fun j g1 g2 => ?_, fun q hq => ?_⟩
    · by_cases hj : j = i
      · subst hj
        rw [h3 (51 * u + j) (by omega), sI_e, upd_e]
      · rw [h2 j (by omega) g2, sI_n _ _ _ (by decide)]
    · rw [h3 q (by omega), sI_e, upd_n _ _ (by omega)]
theorem m_rem_12z (i fu : Nat) (τ : cb_St) (hu : τ.1 0 22 = zI 16) (e : i = 816) : f_X8_remember_12 (fu + 1) τ (zI i) = f_X8_remember_50 (cb_sI τ 0 22 (zI 15)) := by
  have e15 : zI 16 - 1 = zI 15 := by decide
  have e816 : (816 : Int32) ≤ zI (i : Int) := by rw [e]; decide
  rw [f_X8_remember_12, if_pos e816, let_s, hu, e15]
theorem m_rem_12s (i fu : Nat) (τ : cb_St) (hi : 51 ≤ i) (e : i < 816) : f_X8_remember_12 (fu + 1) τ (zI i) = f_X8_remember_12 fu (cb_sI τ 8 (i - 51) (τ.1 8 i)) (zI ((i + 1 : Nat) : Int)) := by
  have e51 : (i : Int) - (51 : Int) = ((i - 51 : Nat) : Int) := by omega
  rw [f_X8_remember_12]; simp (disch := omega) only [e51, zI_lit, zI_neg, zI_add, zI_sub, zI_mul, zI_lt, zI_le, zI_inj, zI_ck, zI_clamp, ← Int.natCast_add, la_1, al_1, la_2, al_2, la_3, al_3, la_4, al_4, la_5, al_5, la_6, al_6, la_7, al_7, la_8, al_8, la_9, al_9, la_10, al_10, la_11, al_11, la_12, al_12, la_13, al_13, la_16, al_16, la_19, al_19, la_20, al_20, la_24, al_24, la_25, al_25, la_26, al_26, la_27, al_27, la_51, al_51, la_52, al_52, la_0, Int.toNat_natCast, bp_s, let_s, bi_s, bv_s, b1_f]
  rw [if_neg (by omega)]
theorem m_rem_12 : ∀ (m i fu : Nat) (τ : cb_St), τ.1 0 22 = zI 16 → 51 ≤ i → i + m = 816 → m < fu → ∃ g : Nat → Int32, f_X8_remember_12 fu τ (zI i) = f_X8_remember_50 (cb_sI (cb_sA τ 8 g) 0 22 (zI 15)) ∧ (∀ j, i ≤ j → j < 816 → g (j - 51) = τ.1 8 j) ∧ ∀ q, q + 51 < i → g q = τ.1 8 q := by
  intro m
  induction m with
  | zero =>
    intro i fu τ hu hi e hf
    obtain ⟨fu, rfl⟩ : ∃ g, fu = g + 1 := ⟨fu - 1, by omega⟩
    refine ⟨τ.1 8, ?_, fun j h1 h2 => absurd h2 (by omega), fun q _ => rfl⟩
    rw [sA_id]
    exact m_rem_12z i fu τ hu (by omega)
  | succ m ih =>
    intro i fu τ hu hi e hf
    obtain ⟨fu, rfl⟩ : ∃ g, fu = g + 1 := ⟨fu - 1, by omega⟩
    have hstep := m_rem_12s i fu τ hi (by omega)
    obtain ⟨g, h1, h2, h3⟩ := ih (i + 1) fu (cb_sI τ 8 (i - 51) (τ.1 8 i)) (by rw [sI_n _ _ _ (by decide)]; exact hu) (by omega) (by omega) (by omega)
    refine ⟨g, by rw [hstep, h1, sA_sI], fun j g1 g2 => ?_, fun q hq => ?_⟩
    · by_cases hj : j = i
      · subst hj
        rw [h3 (j - 51) (by omega), sI_e, upd_e]
      · rw [h2 j (by omega) g2, sI_e, upd_n _ _ (by omega)]
    · rw [h3 q (by omega), sI_e, upd_n _ _ (by omega)]
theorem sx_rem (τ : cb_St) (g g' : Nat → Int32) (a b : Int32) : cb_sI (cb_sA (cb_sI (cb_sA τ 8 g) 0 22 a) 8 g') 0 22 b = cb_sI (cb_sA τ 8 g') 0 22 b := by
  unfold cb_sI cb_sA
  refine Prod.ext ?_ rfl
  funext q
  by_cases h8 : q = 8
  · subst h8; simp
  · by_cases h00 : q = 0
    · subst h00
      funext j
      by_cases hj : j = 22 <;> simp [upd, hj]
    · simp [h8, h00]
/-- the reference remembers: the newest row is the play as it is, the elder stay, the eldest of sixteen goes -/
theorem m_remember (τ : cb_St) (u : Nat) (hu : τ.1 0 22 = zI u) (hu2 : u ≤ 16) : ∃ (g : Nat → Int32) (u' : Nat), u' = min (u + 1) 16 ∧ f_X8_remember τ = some (cb_sI (cb_sA τ 8 g) 0 22 (zI u')) ∧ (∀ i, i < 51 → g (51 * (u' - 1) + i) = τ.1 3 i) ∧ ∀ r i, r + 1 < u' → i < 51 → g (51 * r + i) = τ.1 8 (51 * (r + (u + 1 - u')) + i) := by
  by_cases h : u = 16
  · subst h
    obtain ⟨g, h1, h2, h3⟩ := m_rem_12 765 51 cb_fu τ hu (by omega) (by omega) (by unfold cb_fu; omega)
    obtain ⟨g', k1, k2, k3⟩ := m_rem_52 51 0 cb_fu (cb_sI (cb_sA τ 8 g) 0 22 (zI 15)) 15 (by rw [sI_e, upd_e]; rfl) (by omega) (by omega) (by unfold cb_fu; omega)
    have e0 : f_X8_remember τ = f_X8_remember_12 cb_fu τ (zI ((51 : Nat) : Int)) := by
      unfold f_X8_remember; rw [hu]; exact if_pos rfl
    refine ⟨g', 16, rfl, ?_, fun i hi => ?_, fun r i hr hi => ?_⟩
    · rw [e0, h1]
      show f_X8_remember_52 cb_fu _ (zI ((0 : Nat) : Int)) = _
      rw [k1, sx_rem]
    · have := k2 i (by omega) hi
      rw [sI_n _ _ _ (by decide), sA_n _ _ (by decide)] at this
      exact this
    · have := k3 (51 * r + i) (by omega)
      rw [sI_n _ _ _ (by decide), sA_e] at this
      rw [this]
      have h4 := h2 (51 * (r + 1) + i) (by omega) (by omega)
      have e1 : 51 * (r + 1) + i - 51 = 51 * r + i := by omega
      rw [e1] at h4
      exact h4
  · obtain ⟨g', k1, k2, k3⟩ := m_rem_52 51 0 cb_fu τ u hu (by omega) (by omega) (by unfold cb_fu; omega)
    refine ⟨g', u + 1, by omega, ?_, fun i hi => ?_, fun r i hr hi => ?_⟩
    · unfold f_X8_remember f_X8_remember_50
      rw [hu]
      have : ¬ zI (u : Int) = 16 := by
        rw [show (16 : Int32) = zI 16 from rfl, zI_inj (by omega) (by omega) (by omega) (by omega)]; omega
      rw [if_neg this]; exact k1
    · exact k2 i (by omega) hi
    · have := k3 (51 * r + i) (by omega)
      rw [this]
      have : r + (u + 1 - (u + 1)) = r := by omega
      rw [this]
theorem s_push (σ : cb_St) (u x : Nat) (hu : σ.1 18 0 = zI u) (hx : σ.1 18 1 = zI x) (hu2 : u ≤ 16) (hx2 : x < 16) : ∃ (σ' : cb_St) (u' : Nat), u' = min (u + 1) 16 ∧ f_X3_push σ = some σ' ∧ σ'.1 18 0 = zI u' ∧ σ'.1 18 1 = zI (((x + 1) % 16 : Nat) : Int) ∧ (∀ k, k = 20 + 5 * x → σ'.1 k 0 = σ.1 13 0 ∧ σ'.1 k 1 = σ.1 13 1 ∧ σ'.1 k 2 = σ.1 13 2 ∧ (∀ i, i < 12 → σ'.1 (k + 1) i = σ.1 (13 + 1) i) ∧ (∀ i, i < 6 → σ'.1 (k + 2) i = σ.1 (13 + 2) i) ∧ (∀ i, i < 6 → σ'.1 (k + 3) i = σ.1 (13 + 3) i) ∧ (∀ i, i < 24 → σ'.1 (k + 4) i = σ.1 (13 + 4) i)) ∧ (∀ q, q ≠ 18 → (q < 20 + 5 * x ∨ 20 + 5 * x + 5 ≤ q) → σ'.1 q = σ.1 q) ∧ σ'.2 = σ.2 := by
  obtain ⟨σ1, b0, b1, b2, b3, b4, b5, b6, b7, b8, b9⟩ := s_become (20 + 5 * x) 13 (by omega) (cb_sI σ 18 1 (zI x))
  have e18 : σ1.1 18 = (cb_sI σ 18 1 (zI x)).1 18 := b8 18 (by omega)
  have en : σ1.1 18 1 = zI x := by rw [e18, sI_e, upd_e]
  have ek : σ1.1 18 0 = zI u := by rw [e18, sI_e, upd_n _ _ (by decide)]; exact hu
  have em : zI ((x + 1 : Nat) : Int) - zI ((x + 1 : Nat) : Int) / zI 16 * zI 16 = zI (((x + 1) % 16 : Nat) : Int) := by
    rw [zI_div (by omega) (by omega) (by omega) (by omega), zI_mul, zI_sub]
    congr 1; omega
  refine ⟨cb_sI (cb_sI σ1 18 1 (zI (((x + 1) % 16 : Nat) : Int))) 18 0 (zI ((min (u + 1) 16 : Nat) : Int)), min (u + 1) 16, rfl, ?_, by rw [sI_e, upd_e], by rw [sI_e, upd_n _ _ (by decide), sI_e, upd_e], fun k hk => ?_, fun q h1 h2 => ?_, by rw [sI_2, sI_2, b9, sI_2]⟩
  · unfold f_X3_push
    rw [hx, s_fm σ x hx2, bp_s]
    simp only [let_s]
    rw [sI_e, upd_e, zI_ck _ (by omega) (by omega) (by omega), zI_clamp (by omega) (by omega), Int.toNat_natCast]
    rw [show 19 + 1 + 5 * x = 20 + 5 * x from rfl, b0, bv_s, en]
    rw [show zI (x : Int) + 1 = zI ((x + 1 : Nat) : Int) from by rw [show (1 : Int32) = zI 1 from rfl, zI_add, al_1]]
    rw [show (16 : Int32) = zI 16 from rfl, em]
    rw [sI_e, upd_n _ _ (by decide), ek]
    rw [show zI (u : Int) + 1 = zI ((u + 1 : Nat) : Int) from by rw [show (1 : Int32) = zI 1 from rfl, zI_add, al_1]]
    rw [s_min _ (by omega) (by omega) (by omega) (by omega), bp_s]
    congr 3
    split <;> omega
  · subst hk
    rw [sI_n _ _ _ (by omega), sI_n _ _ _ (by omega), sI_n _ _ _ (by omega), sI_n _ _ _ (by omega), sI_n _ _ _ (by omega), sI_n _ _ _ (by omega), sI_n _ _ _ (by omega), sI_n _ _ _ (by omega), sI_n _ _ _ (by omega), sI_n _ _ _ (by omega)]
    rw [sI_n _ _ _ (by decide)] at b1 b2 b3
    refine ⟨b1, b2, b3, fun i hi => ?_, fun i hi => ?_, fun i hi => ?_, fun i hi => ?_⟩
    · rw [b4 i hi, sI_n _ _ _ (by decide)]
    · rw [b5 i hi, sI_n _ _ _ (by decide)]
    · rw [b6 i hi, sI_n _ _ _ (by decide)]
    · rw [b7 i hi, sI_n _ _ _ (by decide)]
  · rw [sI_n _ _ _ h1, sI_n _ _ _ h1, b8 q h2, sI_n _ _ _ h1]
