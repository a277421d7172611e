/-! ===== small methods of the play and of the reference ===== -/
theorem s_isPerson (σ : cb_St) (p : Nat) (h : p < 6) : f_X4_isPerson (zI p) σ = some (zI 1) := by
  unfold f_X4_isPerson; simp (disch := omega) only [zI_lit, zI_neg, zI_add, zI_sub, zI_mul, zI_lt, zI_le, zI_inj, zI_ck, zI_clamp, ← Int.natCast_add, la_1, al_1, la_2, al_2, la_3, al_3, la_4, al_4, la_5, al_5, la_6, al_6, la_7, al_7, la_8, al_8, la_9, al_9, la_10, al_10, la_11, al_11, la_12, al_12, la_13, al_13, la_16, al_16, la_19, al_19, la_20, al_20, la_24, al_24, la_25, al_25, la_26, al_26, la_27, al_27, la_51, al_51, la_52, al_52, la_0, Int.toNat_natCast, bp_s, let_s, bi_s, bv_s, b1_f]
  rw [if_neg (by omega), if_neg (by omega)]
theorem s_isPerson_n (σ : cb_St) (p : Int) (h1 : -2147483648 ≤ p) (h2 : p < 2147483648) (h : p < 0 ∨ 6 ≤ p) : f_X4_isPerson (zI p) σ = some (zI 0) := by
  unfold f_X4_isPerson f_X4_isPerson_14; simp (disch := omega) only [zI_lit, zI_neg, zI_add, zI_sub, zI_mul, zI_lt, zI_le, zI_inj, zI_ck, zI_clamp, ← Int.natCast_add, la_1, al_1, la_2, al_2, la_3, al_3, la_4, al_4, la_5, al_5, la_6, al_6, la_7, al_7, la_8, al_8, la_9, al_9, la_10, al_10, la_11, al_11, la_12, al_12, la_13, al_13, la_16, al_16, la_19, al_19, la_20, al_20, la_24, al_24, la_25, al_25, la_26, al_26, la_27, al_27, la_51, al_51, la_52, al_52, la_0, Int.toNat_natCast, bp_s, let_s, bi_s, bv_s, b1_f]
  by_cases h0 : p < 0
  · rw [if_pos (by omega)]
  · rw [if_neg (by omega), if_pos (by omega)]
theorem s_cardOf (k : Nat) (σ : cb_St) (p : Nat) (h : p < 6) : f_X4_cardOf k (zI p) σ = some (σ.1 (k + 2) p) := by
  unfold f_X4_cardOf; rw [s_isPerson σ p h]; simp (disch := omega) only [zI_lit, zI_neg, zI_add, zI_sub, zI_mul, zI_lt, zI_le, zI_inj, zI_ck, zI_clamp, ← Int.natCast_add, la_1, al_1, la_2, al_2, la_3, al_3, la_4, al_4, la_5, al_5, la_6, al_6, la_7, al_7, la_8, al_8, la_9, al_9, la_10, al_10, la_11, al_11, la_12, al_12, la_13, al_13, la_16, al_16, la_19, al_19, la_20, al_20, la_24, al_24, la_25, al_25, la_26, al_26, la_27, al_27, la_51, al_51, la_52, al_52, la_0, Int.toNat_natCast, bp_s, let_s, bi_s, bv_s, b1_f]
  rw [if_neg (by decide)]
theorem s_winsOf (k : Nat) (σ : cb_St) (p : Nat) (h : p < 6) : f_X4_winsOf k (zI p) σ = some (σ.1 (k + 3) p) := by
  unfold f_X4_winsOf; rw [s_isPerson σ p h]; simp (disch := omega) only [zI_lit, zI_neg, zI_add, zI_sub, zI_mul, zI_lt, zI_le, zI_inj, zI_ck, zI_clamp, ← Int.natCast_add, la_1, al_1, la_2, al_2, la_3, al_3, la_4, al_4, la_5, al_5, la_6, al_6, la_7, al_7, la_8, al_8, la_9, al_9, la_10, al_10, la_11, al_11, la_12, al_12, la_13, al_13, la_16, al_16, la_19, al_19, la_20, al_20, la_24, al_24, la_25, al_25, la_26, al_26, la_27, al_27, la_51, al_51, la_52, al_52, la_0, Int.toNat_natCast, bp_s, let_s, bi_s, bv_s, b1_f]
  rw [if_neg (by decide)]
theorem s_cardAt (k : Nat) (σ : cb_St) {n : Nat} (h0 : σ.1 k 0 = zI n) (hn : n ≤ 12) (i : Nat) (hi : i < n) : f_X4_cardAt k (zI i) σ = some (σ.1 (k + 1) i) := by
  unfold f_X4_cardAt; rw [h0]; simp (disch := omega) only [zI_lit, zI_neg, zI_add, zI_sub, zI_mul, zI_lt, zI_le, zI_inj, zI_ck, zI_clamp, ← Int.natCast_add, la_1, al_1, la_2, al_2, la_3, al_3, la_4, al_4, la_5, al_5, la_6, al_6, la_7, al_7, la_8, al_8, la_9, al_9, la_10, al_10, la_11, al_11, la_12, al_12, la_13, al_13, la_16, al_16, la_19, al_19, la_20, al_20, la_24, al_24, la_25, al_25, la_26, al_26, la_27, al_27, la_51, al_51, la_52, al_52, la_0, Int.toNat_natCast, bp_s, let_s, bi_s, bv_s, b1_f]
  rw [if_neg (by omega), if_neg (by omega), if_pos (by omega)]
theorem s_cardAt_n (k : Nat) (σ : cb_St) {n : Nat} (h0 : σ.1 k 0 = zI n) (hn : n ≤ 12) (i : Int) (h1 : -2147483648 ≤ i) (h2 : i < 2147483648) (hi : i < 0 ∨ (n : Int) ≤ i) : f_X4_cardAt k (zI i) σ = some (zI (-1)) := by
  unfold f_X4_cardAt f_X4_cardAt_18; rw [h0]; simp (disch := omega) only [zI_lit, zI_neg, zI_add, zI_sub, zI_mul, zI_lt, zI_le, zI_inj, zI_ck, zI_clamp, ← Int.natCast_add, la_1, al_1, la_2, al_2, la_3, al_3, la_4, al_4, la_5, al_5, la_6, al_6, la_7, al_7, la_8, al_8, la_9, al_9, la_10, al_10, la_11, al_11, la_12, al_12, la_13, al_13, la_16, al_16, la_19, al_19, la_20, al_20, la_24, al_24, la_25, al_25, la_26, al_26, la_27, al_27, la_51, al_51, la_52, al_52, la_0, Int.toNat_natCast, bp_s, let_s, bi_s, bv_s, b1_f]
  by_cases h : i < 0
  · rw [if_pos (by omega)]
  · rw [if_neg (by omega), if_pos (by omega)]
theorem s_placeOf_2 (k : Nat) (σ : cb_St) {n : Nat} {pk : Nat → Nat} (h0 : σ.1 k 0 = zI n) (hn : n ≤ 12) (hp : ∀ i, i < n → σ.1 (k + 1) i = zI (pk i)) (hb : ∀ i, i < n → pk i < 12) (c : Nat) (hc : c < 12) :
    ∀ (m i fu : Nat), i + m = n → m < fu → f_X4_placeOf_2 k (zI c) σ fu (zI i) = some (zI (mF (fun j => pk j == c) i m)) := by
  intro m
  induction m with
  | zero =>
    intro i fu e hf
    obtain ⟨fu, rfl⟩ : ∃ g, fu = g + 1 := ⟨fu - 1, by omega⟩
    rw [f_X4_placeOf_2, h0]; simp (disch := omega) only [zI_lit, zI_neg, zI_add, zI_sub, zI_mul, zI_lt, zI_le, zI_inj, zI_ck, zI_clamp, ← Int.natCast_add, la_1, al_1, la_2, al_2, la_3, al_3, la_4, al_4, la_5, al_5, la_6, al_6, la_7, al_7, la_8, al_8, la_9, al_9, la_10, al_10, la_11, al_11, la_12, al_12, la_13, al_13, la_16, al_16, la_19, al_19, la_20, al_20, la_24, al_24, la_25, al_25, la_26, al_26, la_27, al_27, la_51, al_51, la_52, al_52, la_0, Int.toNat_natCast, bp_s, let_s, bi_s, bv_s, b1_f]
    rw [if_pos (by omega)]; rfl
  | succ m ih =>
    intro i fu e hf
    obtain ⟨fu, rfl⟩ : ∃ g, fu = g + 1 := ⟨fu - 1, by omega⟩
    have hb1 := hb i (by omega)
    rw [f_X4_placeOf_2, h0, s_cardAt k σ h0 hn i (by omega), hp i (by omega)]; simp (disch := omega) only [zI_lit, zI_neg, zI_add, zI_sub, zI_mul, zI_lt, zI_le, zI_inj, zI_ck, zI_clamp, ← Int.natCast_add, la_1, al_1, la_2, al_2, la_3, al_3, la_4, al_4, la_5, al_5, la_6, al_6, la_7, al_7, la_8, al_8, la_9, al_9, la_10, al_10, la_11, al_11, la_12, al_12, la_13, al_13, la_16, al_16, la_19, al_19, la_20, al_20, la_24, al_24, la_25, al_25, la_26, al_26, la_27, al_27, la_51, al_51, la_52, al_52, la_0, Int.toNat_natCast, bp_s, let_s, bi_s, bv_s, b1_f]
    rw [if_neg (by omega), ih (i + 1) fu (by omega) (by omega)]
    rw [mF_s]
    by_cases h : pk i = c
    · rw [if_pos (by omega), if_pos (by simpa using h)]
    · rw [if_neg (by omega), if_neg (by simpa using h)]
theorem s_placeOf (k : Nat) (σ : cb_St) {n : Nat} {pk : Nat → Nat} (h0 : σ.1 k 0 = zI n) (hn : n ≤ 12) (hp : ∀ i, i < n → σ.1 (k + 1) i = zI (pk i)) (hb : ∀ i, i < n → pk i < 12) (c : Nat) (hc : c < 12) : f_X4_placeOf k (zI c) σ = some (zI (mF (fun j => pk j == c) 0 n)) :=
  s_placeOf_2 k σ h0 hn hp hb c hc n 0 cb_fu (by omega) (by unfold cb_fu; omega)
theorem s_holderOf_2 (k : Nat) (σ : cb_St) {hd : Nat → Int} (hp : ∀ p, p < 6 → σ.1 (k + 2) p = zI (hd p)) (hb : ∀ p, p < 6 → -1 ≤ hd p ∧ hd p < 12) (c : Nat) (hc : c < 12) :
    ∀ (m i fu : Nat), i + m = 6 → m < fu → f_X4_holderOf_2 k (zI c) σ fu (zI i) = some (zI (mF (fun j => hd j == c) i m)) := by
  intro m
  induction m with
  | zero =>
    intro i fu e hf
    obtain ⟨fu, rfl⟩ : ∃ g, fu = g + 1 := ⟨fu - 1, by omega⟩
    rw [f_X4_holderOf_2]; simp (disch := omega) only [zI_lit, zI_neg, zI_add, zI_sub, zI_mul, zI_lt, zI_le, zI_inj, zI_ck, zI_clamp, ← Int.natCast_add, la_1, al_1, la_2, al_2, la_3, al_3, la_4, al_4, la_5, al_5, la_6, al_6, la_7, al_7, la_8, al_8, la_9, al_9, la_10, al_10, la_11, al_11, la_12, al_12, la_13, al_13, la_16, al_16, la_19, al_19, la_20, al_20, la_24, al_24, la_25, al_25, la_26, al_26, la_27, al_27, la_51, al_51, la_52, al_52, la_0, Int.toNat_natCast, bp_s, let_s, bi_s, bv_s, b1_f]
    rw [if_pos (by omega)]; rfl
  | succ m ih =>
    intro i fu e hf
    obtain ⟨fu, rfl⟩ : ∃ g, fu = g + 1 := ⟨fu - 1, by omega⟩
    have hb1 := hb i (by omega)
    rw [f_X4_holderOf_2]; simp (disch := omega) only [zI_lit, zI_neg, zI_add, zI_sub, zI_mul, zI_lt, zI_le, zI_inj, zI_ck, zI_clamp, ← Int.natCast_add, la_1, al_1, la_2, al_2, la_3, al_3, la_4, al_4, la_5, al_5, la_6, al_6, la_7, al_7, la_8, al_8, la_9, al_9, la_10, al_10, la_11, al_11, la_12, al_12, la_13, al_13, la_16, al_16, la_19, al_19, la_20, al_20, la_24, al_24, la_25, al_25, la_26, al_26, la_27, al_27, la_51, al_51, la_52, al_52, la_0, Int.toNat_natCast, bp_s, let_s, bi_s, bv_s, b1_f]
    rw [if_neg (by omega), hp i (by omega), ih (i + 1) fu (by omega) (by omega)]; simp (disch := omega) only [zI_lit, zI_neg, zI_add, zI_sub, zI_mul, zI_lt, zI_le, zI_inj, zI_ck, zI_clamp, ← Int.natCast_add, la_1, al_1, la_2, al_2, la_3, al_3, la_4, al_4, la_5, al_5, la_6, al_6, la_7, al_7, la_8, al_8, la_9, al_9, la_10, al_10, la_11, al_11, la_12, al_12, la_13, al_13, la_16, al_16, la_19, al_19, la_20, al_20, la_24, al_24, la_25, al_25, la_26, al_26, la_27, al_27, la_51, al_51, la_52, al_52, la_0, Int.toNat_natCast, bp_s, let_s, bi_s, bv_s, b1_f]
    rw [mF_s]
    by_cases h : hd i = c
    · rw [if_pos (by omega), if_pos (by simpa using h)]
    · rw [if_neg (by omega), if_neg (by simpa using h)]
theorem s_holderOf (k : Nat) (σ : cb_St) {hd : Nat → Int} (hp : ∀ p, p < 6 → σ.1 (k + 2) p = zI (hd p)) (hb : ∀ p, p < 6 → -1 ≤ hd p ∧ hd p < 12) (c : Nat) (hc : c < 12) : f_X4_holderOf k (zI c) σ = some (zI (mF (fun j => hd j == c) 0 6)) :=
  s_holderOf_2 k σ hp hb c hc 6 0 cb_fu (by omega) (by unfold cb_fu; omega)
theorem s_holders_4 (k : Nat) (σ : cb_St) {hd : Nat → Int} (hp : ∀ p, p < 6 → σ.1 (k + 2) p = zI (hd p)) (hb : ∀ p, p < 6 → -1 ≤ hd p ∧ hd p < 12) :
    ∀ (m i fu : Nat) (x : Int32), i + m = 6 → m < fu → f_X4_holders_4 k σ fu x (zI i) = some (mS (fun j => decide (0 ≤ hd j)) i m x) := by
  intro m
  induction m with
  | zero =>
    intro i fu x e hf
    obtain ⟨fu, rfl⟩ : ∃ g, fu = g + 1 := ⟨fu - 1, by omega⟩
    rw [f_X4_holders_4]; simp (disch := omega) only [zI_lit, zI_neg, zI_add, zI_sub, zI_mul, zI_lt, zI_le, zI_inj, zI_ck, zI_clamp, ← Int.natCast_add, la_1, al_1, la_2, al_2, la_3, al_3, la_4, al_4, la_5, al_5, la_6, al_6, la_7, al_7, la_8, al_8, la_9, al_9, la_10, al_10, la_11, al_11, la_12, al_12, la_13, al_13, la_16, al_16, la_19, al_19, la_20, al_20, la_24, al_24, la_25, al_25, la_26, al_26, la_27, al_27, la_51, al_51, la_52, al_52, la_0, Int.toNat_natCast, bp_s, let_s, bi_s, bv_s, b1_f]
    rw [if_pos (by omega)]; rfl
  | succ m ih =>
    intro i fu x e hf
    obtain ⟨fu, rfl⟩ : ∃ g, fu = g + 1 := ⟨fu - 1, by omega⟩
    have hb1 := hb i (by omega)
    have i1 := ih (i + 1) fu x (by omega) (by omega)
    have i2 := ih (i + 1) fu (x ||| b1 i) (by omega) (by omega)
    rw [f_X4_holders_4, mS_s]
    unfold f_X4_holders_26
    simp (disch := omega) only [hp i (by omega), zI_lit, zI_neg, zI_add, zI_sub, zI_mul, zI_lt, zI_le, zI_inj, zI_ck, zI_clamp, ← Int.natCast_add, la_1, al_1, la_2, al_2, la_3, al_3, la_4, al_4, la_5, al_5, la_6, al_6, la_7, al_7, la_8, al_8, la_9, al_9, la_10, al_10, la_11, al_11, la_12, al_12, la_13, al_13, la_16, al_16, la_19, al_19, la_20, al_20, la_24, al_24, la_25, al_25, la_26, al_26, la_27, al_27, la_51, al_51, la_52, al_52, la_0, Int.toNat_natCast, bp_s, let_s, bi_s, bv_s, b1_f]
    by_cases h : 0 ≤ hd i
    · rw [if_neg (by omega), if_neg (by omega), i2, if_pos (by simpa using h)]
    · rw [if_neg (by omega), if_pos (by omega), i1, if_neg (by simpa using h)]
theorem s_holders (k : Nat) (σ : cb_St) {hd : Nat → Int} (hp : ∀ p, p < 6 → σ.1 (k + 2) p = zI (hd p)) (hb : ∀ p, p < 6 → -1 ≤ hd p ∧ hd p < 12) : f_X4_holders k σ = some (mS (fun j => decide (0 ≤ hd j)) 0 6 (zI 0)) :=
  s_holders_4 k σ hp hb 6 0 cb_fu (zI 0) (by omega) (by unfold cb_fu; omega)
theorem s_in (a b c : Int64) (σ : cb_St) : f_X8_in a b c σ = some (if b.toInt ≤ a.toInt ∧ a.toInt ≤ c.toInt then zI 1 else zI 0) := by
  show _ = some (if b.toInt ≤ a.toInt ∧ a.toInt ≤ c.toInt then (1 : Int32) else 0)
  unfold f_X8_in f_X8_in_17 lg_cmp
  simp only [gt_iff_lt]
  have h1 : (b < a) = (b.toInt < a.toInt) := propext Int64.lt_iff_toInt_lt
  have h2 : (c < a) = (c.toInt < a.toInt) := propext Int64.lt_iff_toInt_lt
  have h3 : (a = b) = (a.toInt = b.toInt) := propext Int64.toInt_inj.symm
  have h4 : (a = c) = (a.toInt = c.toInt) := propext Int64.toInt_inj.symm
  simp only [h1, h2, h3, h4]
  generalize a.toInt = x
  generalize b.toInt = y
  generalize c.toInt = z
  have e1 : ¬ ((1 : Int32) < 0) := by decide
  have e2 : (-1 : Int32) < 0 := by decide
  have e3 : ¬ ((0 : Int32) < 0) := by decide
  have e4 : (0 : Int32) < 1 := by decide
  have e5 : ¬ ((0 : Int32) < -1) := by decide
  by_cases g1 : y < x
  · rw [if_pos g1, if_neg e1]
    by_cases g2 : z < x
    · rw [if_pos g2, if_pos e4, if_neg (by omega)]
    · rw [if_neg g2]
      by_cases g3 : x = z
      · rw [if_pos g3, if_neg e3, if_pos (by omega)]
      · rw [if_neg g3, if_neg e5, if_pos (by omega)]
  · rw [if_neg g1]
    by_cases g4 : x = y
    · rw [if_pos g4, if_neg e3]
      by_cases g2 : z < x
      · rw [if_pos g2, if_pos e4, if_neg (by omega)]
      · rw [if_neg g2]
        by_cases g3 : x = z
        · rw [if_pos g3, if_neg e3, if_pos (by omega)]
        · rw [if_neg g3, if_neg e5, if_pos (by omega)]
    · rw [if_neg g4, if_pos e2, if_neg (by omega)]
theorem zI_64 {a : Int} (h1 : -2147483648 ≤ a) (h2 : a < 2147483648) : (Int32.toInt64 (zI a)).toInt = a := by
  rw [Int32.toInt_toInt64, zI_toInt h1 h2]
theorem l64_0 : (0 : Int64).toInt = 0 := by decide
theorem m_isPerson (τ : cb_St) {Q : Nat} (h : τ.1 0 7 = zI Q) (hQ : Q ≤ 6) (p : Int) (h1 : -2147483648 ≤ p) (h2 : p < 2147483648) : f_X8_isPerson (zI p) τ = some (if 0 ≤ p ∧ p < Q then zI 1 else zI 0) := by
  unfold f_X8_isPerson; rw [s_in, h]; simp (disch := omega) only [zI_64, l64_0, zI_lit, zI_neg, zI_add, zI_sub, zI_mul, zI_lt, zI_le, zI_inj, zI_ck, zI_clamp, ← Int.natCast_add, la_1, al_1, la_2, al_2, la_3, al_3, la_4, al_4, la_5, al_5, la_6, al_6, la_7, al_7, la_8, al_8, la_9, al_9, la_10, al_10, la_11, al_11, la_12, al_12, la_13, al_13, la_16, al_16, la_19, al_19, la_20, al_20, la_24, al_24, la_25, al_25, la_26, al_26, la_27, al_27, la_51, al_51, la_52, al_52, la_0, Int.toNat_natCast, bp_s, let_s, bi_s, bv_s, b1_f]
  by_cases g : 0 ≤ p ∧ p < Q
  · rw [if_pos g, if_pos (by omega), ck_t _ (by decide)]
  · rw [if_neg g, if_neg (by omega), ck_t _ (by decide)]
theorem m_isCard (τ : cb_St) {N : Nat} (h : τ.1 0 4 = zI N) (hN : N ≤ 12) (p : Int) (h1 : -2147483648 ≤ p) (h2 : p < 2147483648) : f_X8_isCard (zI p) τ = some (if 0 ≤ p ∧ p < N then zI 1 else zI 0) := by
  unfold f_X8_isCard; rw [s_in, h]; simp (disch := omega) only [zI_64, l64_0, zI_lit, zI_neg, zI_add, zI_sub, zI_mul, zI_lt, zI_le, zI_inj, zI_ck, zI_clamp, ← Int.natCast_add, la_1, al_1, la_2, al_2, la_3, al_3, la_4, al_4, la_5, al_5, la_6, al_6, la_7, al_7, la_8, al_8, la_9, al_9, la_10, al_10, la_11, al_11, la_12, al_12, la_13, al_13, la_16, al_16, la_19, al_19, la_20, al_20, la_24, al_24, la_25, al_25, la_26, al_26, la_27, al_27, la_51, al_51, la_52, al_52, la_0, Int.toNat_natCast, bp_s, let_s, bi_s, bv_s, b1_f]
  by_cases g : 0 ≤ p ∧ p < N
  · rw [if_pos g, if_pos (by omega), ck_t _ (by decide)]
  · rw [if_neg g, if_neg (by omega), ck_t _ (by decide)]
theorem s_hasPerson (k : Nat) (σ : cb_St) {Q : Nat} (h : σ.1 k 5 = zI Q) (hQ : Q ≤ 6) (p : Int) (h1 : -2147483648 ≤ p) (h2 : p < 2147483648) : f_X6_hasPerson k (zI p) σ = some (if 0 ≤ p ∧ p < Q then zI 1 else zI 0) := by
  unfold f_X6_hasPerson f_X6_hasPerson_16; rw [h]; simp (disch := omega) only [zI_lit, zI_neg, zI_add, zI_sub, zI_mul, zI_lt, zI_le, zI_inj, zI_ck, zI_clamp, ← Int.natCast_add, la_1, al_1, la_2, al_2, la_3, al_3, la_4, al_4, la_5, al_5, la_6, al_6, la_7, al_7, la_8, al_8, la_9, al_9, la_10, al_10, la_11, al_11, la_12, al_12, la_13, al_13, la_16, al_16, la_19, al_19, la_20, al_20, la_24, al_24, la_25, al_25, la_26, al_26, la_27, al_27, la_51, al_51, la_52, al_52, la_0, Int.toNat_natCast, bp_s, let_s, bi_s, bv_s, b1_f]
  grind
theorem s_hasCard (k : Nat) (σ : cb_St) {N : Nat} (h : σ.1 k 4 = zI N) (hN : N ≤ 12) (p : Int) (h1 : -2147483648 ≤ p) (h2 : p < 2147483648) : f_X6_hasCard k (zI p) σ = some (if 0 ≤ p ∧ p < N then zI 1 else zI 0) := by
  unfold f_X6_hasCard f_X6_hasCard_16; rw [h]; simp (disch := omega) only [zI_lit, zI_neg, zI_add, zI_sub, zI_mul, zI_lt, zI_le, zI_inj, zI_ck, zI_clamp, ← Int.natCast_add, la_1, al_1, la_2, al_2, la_3, al_3, la_4, al_4, la_5, al_5, la_6, al_6, la_7, al_7, la_8, al_8, la_9, al_9, la_10, al_10, la_11, al_11, la_12, al_12, la_13, al_13, la_16, al_16, la_19, al_19, la_20, al_20, la_24, al_24, la_25, al_25, la_26, al_26, la_27, al_27, la_51, al_51, la_52, al_52, la_0, Int.toNat_natCast, bp_s, let_s, bi_s, bv_s, b1_f]
  grind
