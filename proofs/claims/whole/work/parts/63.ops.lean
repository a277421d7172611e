/-! ===== what is done with the pack and the held cards ===== -/
theorem tn_0 : (0 : Int).toNat = 0 := rfl
theorem tn_12 : (12 : Int).toNat = 12 := rfl
theorem tn_25 : (25 : Int).toNat = 25 := rfl
theorem tn_26 : (26 : Int).toNat = 26 := rfl
theorem pigeon : ∀ (N n : Nat) (f : Nat → Nat), (∀ i, i < n → f i < N) → (∀ i j, i < j → j < n → f i ≠ f j) → n ≤ N := by
  intro N
  induction N with
  | zero =>
    intro n f h _
    rcases Nat.eq_zero_or_pos n with e | e
    · omega
    · exact absurd (h 0 e) (by omega)
  | succ N ih =>
    intro n f h hi
    by_cases hx : ∃ i, i < n ∧ f i = N
    · obtain ⟨i, h1, h2⟩ := hx
      have := ih (n - 1) (fun j => if j < i then f j else f (j + 1)) (fun j hj => by
        show (if j < i then f j else f (j + 1)) < N
        by_cases hji : j < i
        · rw [if_pos hji]
          have a := h j (by omega)
          have b := hi j i hji h1
          omega
        · rw [if_neg hji]
          have a := h (j + 1) (by omega)
          have b := hi i (j + 1) (by omega) (by omega)
          omega) (fun a b hab hb => by
        show (if a < i then f a else f (a + 1)) ≠ (if b < i then f b else f (b + 1))
        by_cases ha : a < i
        · rw [if_pos ha]
          by_cases hb2 : b < i
          · rw [if_pos hb2]; exact hi a b hab (by omega)
          · rw [if_neg hb2]; exact hi a (b + 1) (by omega) (by omega)
        · rw [if_neg ha, if_neg (by omega)]; exact hi (a + 1) (b + 1) (by omega) (by omega))
      omega
    · have := ih n f (fun i hi2 => by
        have a := h i hi2
        have b : f i ≠ N := fun e => hx ⟨i, hi2, e⟩
        omega) hi
      omega
/-- a card that isn't in the pack leaves room there -/
theorem pack_room {N n c : Nat} {pk : Nat → Nat} (h : ∀ i, i < n → pk i < N) (hi : ∀ i j, i < j → j < n → pk i ≠ pk j) (hc : c < N) (hn : ∀ i, i < n → pk i ≠ c) : n < N := by
  have := pigeon N (n + 1) (fun i => if i < n then pk i else c) (fun i hi2 => by
    show (if i < n then pk i else c) < N
    by_cases g : i < n
    · rw [if_pos g]; exact h i g
    · rw [if_neg g]; exact hc) (fun i j hij hj => by
    show (if i < n then pk i else c) ≠ (if j < n then pk j else c)
    rw [if_pos (by omega)]
    by_cases g : j < n
    · rw [if_pos g]; exact hi i j hij g
    · rw [if_neg g]; exact hn i (by omega))
  omega
/-- only the play's own cells (and the spare row) have changed -/
def frC (σ σ' : cb_St) : Prop := σ'.2 = σ.2 ∧ ∀ q, q ≠ 2 → (q < 13 ∨ 18 ≤ q) → σ'.1 q = σ.1 q
def frM (τ τ' : cb_St) : Prop := ∀ q, q ≠ 3 → q ≠ 9 → τ'.1 q = τ.1 q
theorem frC_t {a b c : cb_St} (h1 : frC a b) (h2 : frC b c) : frC a c := ⟨h2.1.trans h1.1, fun q g1 g2 => (h2.2 q g1 g2).trans (h1.2 q g1 g2)⟩
theorem frM_t {a b c : cb_St} (h1 : frM a b) (h2 : frM b c) : frM a c := fun q g1 g2 => (h2 q g1 g2).trans (h1 q g1 g2)
theorem fr_rel {N Q u x : Nat} {σ σ' τ τ' : cb_St} (hX : rlX N Q σ τ) (hU : rlU N Q σ τ u x) (hS : rlS σ τ) (hc : frC σ σ') (hm : frM τ τ') : rlX N Q σ' τ' ∧ rlU N Q σ' τ' u x ∧ rlS σ' τ' := by
  have m0 := hm 0 (by decide) (by decide)
  refine ⟨rlX_c hX ⟨hc.1, fun q h => hc.2 q (by omega) (by omega)⟩ ⟨fun j _ => by rw [m0], fun q h => hm q (by omega) (by omega)⟩, rlU_c hX.1.1 hU (fun q h => hc.2 q (by omega) (by omega)) (by rw [m0]) (hm 8 (by decide) (by decide)), rlS_c hS (by rw [hc.2 0 (by decide) (by decide)]) (by rw [m0])⟩
theorem s_draw_25 (x1 x2 : Int32) (n : Nat) (hn : n ≤ 12) : ∀ (m i fu : Nat) (σ : cb_St), σ.1 13 0 = zI n → 1 ≤ i → i + m = n → m < fu → ∃ g : Nat → Int32, f_X4_draw_25 13 x1 fu σ x2 (zI i) = f_X4_draw_59 13 x1 (cb_sA σ (13 + 1) g) x2 ∧ (∀ j, i ≤ j → j < n → g (j - 1) = σ.1 (13 + 1) j) ∧ ∀ q, q + 1 < i → g q = σ.1 (13 + 1) q := by
  intro m
  induction m with
  | zero =>
    intro i fu σ h0 hi e hf
    obtain ⟨fu, rfl⟩ : ∃ g, fu = g + 1 := ⟨fu - 1, by omega⟩
    refine ⟨σ.1 (13 + 1), ?_, fun j h1 h2 => absurd h2 (by omega), fun q _ => rfl⟩
    rw [f_X4_draw_25, sA_id, h0, if_pos (by rw [zI_le (by omega) (by omega) (by omega) (by omega)]; omega)]
  | succ m ih =>
    intro i fu σ h0 hi e hf
    obtain ⟨fu, rfl⟩ : ∃ g, fu = g + 1 := ⟨fu - 1, by omega⟩
    have ei : (i : Int) - 1 = ((i - 1 : Nat) : Int) := by omega
    have hstep : f_X4_draw_25 13 x1 (fu + 1) σ x2 (zI i) = f_X4_draw_25 13 x1 fu (cb_sI σ (13 + 1) (i - 1) (σ.1 (13 + 1) i)) x2 (zI ((i + 1 : Nat) : Int)) := by
      rw [f_X4_draw_25, h0]; simp (disch := omega) only [ei, zI_lit, zI_neg, zI_add, zI_sub, zI_mul, zI_lt, zI_le, zI_inj, zI_ck, zI_clamp, ← Int.natCast_add, la_1, al_1, la_2, al_2, la_3, al_3, la_4, al_4, la_5, al_5, la_6, al_6, la_7, al_7, la_8, al_8, la_9, al_9, la_10, al_10, la_11, al_11, la_12, al_12, la_13, al_13, la_16, al_16, la_19, al_19, la_20, al_20, la_24, al_24, la_25, al_25, la_26, al_26, la_27, al_27, la_51, al_51, la_52, al_52, la_0, Int.toNat_natCast, bp_s, let_s, bi_s, bv_s, b1_f]
      rw [if_neg (by omega), if_neg (by omega)]
    obtain ⟨g, h1, h2, h3⟩ := ih (i + 1) fu (cb_sI σ (13 + 1) (i - 1) (σ.1 (13 + 1) i)) (by rw [sI_n _ _ _ (by decide)]; exact h0) (by omega) (by omega) (by omega)
    refine ⟨g, by rw [hstep, h1, sA_sI], fun j g1 g2 => ?_, fun q hq => ?_⟩
    · by_cases hj : j = i
      · subst hj
        rw [h3 (j - 1) (by omega), sI_e, upd_e]
      · rw [h2 j (by omega) g2, sI_e, upd_n _ _ (by omega)]
    · rw [h3 q (by omega), sI_e, upd_n _ _ (by omega)]
theorem m_takeAt_22 (x1 x2 : Int32) (k : Nat) (hk : k ≤ 11) : ∀ (m i fu : Nat) (τ : cb_St), τ.1 3 12 = zI k → i + m = k → m < fu → ∃ g : Nat → Int32, f_X8_takeAt_22 x1 fu τ x2 (zI i) = some (x2, cb_sA τ 3 g) ∧ (∀ j, i ≤ j → j < k → g j = τ.1 3 (j + 1)) ∧ ∀ q, (q < i ∨ k < q) → g q = τ.1 3 q := by
  intro m
  induction m with
  | zero =>
    intro i fu τ h0 e hf
    obtain ⟨fu, rfl⟩ : ∃ g, fu = g + 1 := ⟨fu - 1, by omega⟩
    refine ⟨upd (τ.1 3) k (zI 0), ?_, fun j h1 h2 => absurd h2 (by omega), fun q hq => upd_n _ _ (by omega)⟩
    rw [f_X8_takeAt_22]; simp (disch := omega) only [h0, zI_lit, zI_neg, zI_add, zI_sub, zI_mul, zI_lt, zI_le, zI_inj, zI_ck, zI_clamp, ← Int.natCast_add, la_1, al_1, la_2, al_2, la_3, al_3, la_4, al_4, la_5, al_5, la_6, al_6, la_7, al_7, la_8, al_8, la_9, al_9, la_10, al_10, la_11, al_11, la_12, al_12, la_13, al_13, la_16, al_16, la_19, al_19, la_20, al_20, la_24, al_24, la_25, al_25, la_26, al_26, la_27, al_27, la_51, al_51, la_52, al_52, la_0, Int.toNat_natCast, bp_s, let_s, bi_s, bv_s, b1_f, tn_0, tn_12, tn_25, tn_26]
    rw [if_pos (by omega)]; rfl
  | succ m ih =>
    intro i fu τ h0 e hf
    obtain ⟨fu, rfl⟩ : ∃ g, fu = g + 1 := ⟨fu - 1, by omega⟩
    have hstep : f_X8_takeAt_22 x1 (fu + 1) τ x2 (zI i) = f_X8_takeAt_22 x1 fu (cb_sI τ 3 i (τ.1 3 (i + 1))) x2 (zI ((i + 1 : Nat) : Int)) := by
      rw [f_X8_takeAt_22]; simp (disch := omega) only [h0, zI_lit, zI_neg, zI_add, zI_sub, zI_mul, zI_lt, zI_le, zI_inj, zI_ck, zI_clamp, ← Int.natCast_add, la_1, al_1, la_2, al_2, la_3, al_3, la_4, al_4, la_5, al_5, la_6, al_6, la_7, al_7, la_8, al_8, la_9, al_9, la_10, al_10, la_11, al_11, la_12, al_12, la_13, al_13, la_16, al_16, la_19, al_19, la_20, al_20, la_24, al_24, la_25, al_25, la_26, al_26, la_27, al_27, la_51, al_51, la_52, al_52, la_0, Int.toNat_natCast, bp_s, let_s, bi_s, bv_s, b1_f, tn_0, tn_12, tn_25, tn_26]
      rw [if_neg (by omega)]
    obtain ⟨g, h1, h2, h3⟩ := ih (i + 1) fu (cb_sI τ 3 i (τ.1 3 (i + 1))) (by rw [sI_e, upd_n _ _ (by omega)]; exact h0) (by omega) (by omega)
    refine ⟨g, by rw [hstep, h1, sA_sI], fun j g1 g2 => ?_, fun q hq => ?_⟩
    · by_cases hj : j = i
      · subst hj
        rw [h3 j (by omega), sI_e, upd_e]
      · rw [h2 j (by omega) g2, sI_e, upd_n _ _ (by omega)]
    · rw [h3 q (by omega), sI_e, upd_n _ _ (by omega)]
theorem s_canDraw (σ : cb_St) (p : Nat) (hp : p < 6) {n : Nat} (h0 : σ.1 13 0 = zI n) (hn : n ≤ 12) {a : Int} (ha : σ.1 (13 + 2) p = zI a) (ha1 : -1 ≤ a) (ha2 : a < 12) : f_X4_canDraw 13 (zI p) σ = some (if a = -1 ∧ 0 < n then zI 1 else zI 0) := by
  unfold f_X4_canDraw f_X4_canDraw_28
  rw [s_isPerson σ p hp]; simp (disch := omega) only [ha, h0, zI_lit, zI_neg, zI_add, zI_sub, zI_mul, zI_lt, zI_le, zI_inj, zI_ck, zI_clamp, ← Int.natCast_add, la_1, al_1, la_2, al_2, la_3, al_3, la_4, al_4, la_5, al_5, la_6, al_6, la_7, al_7, la_8, al_8, la_9, al_9, la_10, al_10, la_11, al_11, la_12, al_12, la_13, al_13, la_16, al_16, la_19, al_19, la_20, al_20, la_24, al_24, la_25, al_25, la_26, al_26, la_27, al_27, la_51, al_51, la_52, al_52, la_0, Int.toNat_natCast, bp_s, let_s, bi_s, bv_s, b1_f]
  rw [if_neg (by decide)]
  by_cases h1 : a = -1
  · rw [if_pos h1]
    by_cases h2 : 0 < n
    · rw [if_neg (by omega), if_pos ⟨h1, h2⟩]
    · rw [if_pos (by omega), if_neg (by omega)]
  · rw [if_neg h1, if_neg (by omega)]
theorem m_canDraw (τ : cb_St) (p : Nat) (hp : p < 6) {n : Nat} (h0 : τ.1 3 12 = zI n) (hn : n ≤ 12) {a : Int} (ha : τ.1 3 (13 + p) = zI a) (ha1 : -1 ≤ a) (ha2 : a < 12) : f_X8_canDraw (zI p) τ = some (if a = -1 ∧ 0 < n then zI 1 else zI 0) := by
  unfold f_X8_canDraw f_X8_canDraw_26
  simp (disch := omega) only [ha, h0, zI_lit, zI_neg, zI_add, zI_sub, zI_mul, zI_lt, zI_le, zI_inj, zI_ck, zI_clamp, ← Int.natCast_add, la_1, al_1, la_2, al_2, la_3, al_3, la_4, al_4, la_5, al_5, la_6, al_6, la_7, al_7, la_8, al_8, la_9, al_9, la_10, al_10, la_11, al_11, la_12, al_12, la_13, al_13, la_16, al_16, la_19, al_19, la_20, al_20, la_24, al_24, la_25, al_25, la_26, al_26, la_27, al_27, la_51, al_51, la_52, al_52, la_0, Int.toNat_natCast, bp_s, let_s, bi_s, bv_s, b1_f, tn_0, tn_12, tn_25, tn_26]
  by_cases h1 : a = -1
  · rw [if_neg (by omega)]
    by_cases h2 : 0 < n
    · rw [if_neg (by omega), if_pos ⟨h1, h2⟩]
    · rw [if_pos (by omega), if_neg (by omega)]
  · rw [if_pos (by omega), if_neg (by omega)]
