/-! ===== the log read: which rules are held ===== -/
def yN (y : Int32) : Nat := y.toInt.toNat
theorem zI_mod15 (X k : Nat) (hk : k < 31) (hx : X < 2147483648) : (zI X >>> (zI k &&& 31)) &&& 15 = zI ((X / 2 ^ k % 16 : Nat) : Int) := by
  rw [zI_shr k hk hx, zI_m15]
theorem nat_md (k a b : Nat) (h : a < k) : (a + k * b) % k = a := by rw [Nat.add_mul_mod_self_left, Nat.mod_eq_of_lt h]
theorem log_dec {N : Nat} (hN : N ≤ 12) {x y : Int32} (h : rlL N x y) : y = zI (yN y) ∧ x &&& 15 = zI ((yN y / 8192 : Nat) : Int) ∧ (x >>> ((4 : Int32) &&& 31)) &&& 15 = zI ((yN y / 1024 % 8 : Nat) : Int) ∧ (x >>> ((8 : Int32) &&& 31)) &&& 15 = zI ((yN y / 64 % 16 : Nat) : Int) ∧ (x >>> ((12 : Int32) &&& 31)) &&& 15 = zI ((yN y / 4 % 16 : Nat) : Int) ∧ (x >>> ((16 : Int32) &&& 31)) &&& 3 = zI ((yN y % 4 : Nat) : Int) ∧ yN y / 8192 < 6 ∧ yN y / 1024 % 8 < 6 ∧ yN y / 64 % 16 ≤ N ∧ yN y / 4 % 16 ≤ N ∧ yN y % 4 ≤ 2 ∧ yN y < 65536 := by
  obtain ⟨p, q, a, b, w, h1, h2, h3, h4, h5, hx, hy⟩ := h
  have e : yN y = w + 4 * b + 64 * a + 1024 * q + 8192 * p := by
    unfold yN; rw [hy, zI_toInt (by omega) (by omega), Int.toNat_natCast]
  have hX : p + 16 * q + 256 * a + 4096 * b + 65536 * w < 2147483648 := by omega
  have y1 : yN y / 8192 = p := by omega
  have y2 : yN y / 1024 = q + 8 * p := by omega
  have y3 : yN y / 64 = a + 16 * (q + 8 * p) := by omega
  have y4 : yN y / 4 = b + 16 * (a + 16 * (q + 8 * p)) := by omega
  have x0 : (p + 16 * q + 256 * a + 4096 * b + 65536 * w) % 16 = p := by omega
  have x1 : (p + 16 * q + 256 * a + 4096 * b + 65536 * w) / 2 ^ 4 = q + 16 * (a + 16 * b + 256 * w) := by omega
  have x2 : (p + 16 * q + 256 * a + 4096 * b + 65536 * w) / 2 ^ 8 = a + 16 * (b + 16 * w) := by omega
  have x3 : (p + 16 * q + 256 * a + 4096 * b + 65536 * w) / 2 ^ 12 = b + 16 * w := by omega
  have x4 : (p + 16 * q + 256 * a + 4096 * b + 65536 * w) / 2 ^ 16 = w := by omega
  rw [y1, y2, y3, y4, nat_md 8 q _ (by omega), nat_md 16 a _ (by omega), nat_md 16 b _ (by omega)]
  have y5 : yN y % 4 = w := by omega
  rw [y5]
  refine ⟨by rw [e]; exact hy, ?_, ?_, ?_, ?_, ?_, h1, h2, h3, h4, h5, by omega⟩
  · rw [hx, zI_m15, x0]
  · rw [hx, show ((4 : Int32)) = zI ((4 : Nat) : Int) from rfl, zI_mod15 _ 4 (by omega) hX, x1, nat_md 16 q _ (by omega)]
  · rw [hx, show ((8 : Int32)) = zI ((8 : Nat) : Int) from rfl, zI_mod15 _ 8 (by omega) hX, x2, nat_md 16 a _ (by omega)]
  · rw [hx, show ((12 : Int32)) = zI ((12 : Nat) : Int) from rfl, zI_mod15 _ 12 (by omega) hX, x3, nat_md 16 b _ (by omega)]
  · rw [hx, show ((16 : Int32)) = zI ((16 : Nat) : Int) from rfl, zI_shr 16 (by omega) hX, zI_m3, x4, Nat.mod_eq_of_lt (by omega)]
theorem yN_mod (Y k : Nat) (hY : Y < 65536) (k1 : 0 < k) (k2 : k < 65536) : zI (Y : Int) - zI (Y : Int) / zI (k : Int) * zI (k : Int) = zI ((Y % k : Nat) : Int) := by
  rw [zI_div (by omega) (by omega) (by omega) (by omega), zI_mul, zI_sub]
  congr 1
  rw [← Int.natCast_ediv, ← Int.natCast_mul]
  have e := Nat.div_add_mod Y k
  rw [Nat.mul_comm] at e
  omega
theorem yN_div (Y k : Nat) (hY : Y < 65536) (k1 : 0 < k) (k2 : k < 65536) : zI (Y : Int) / zI (k : Int) = zI ((Y / k : Nat) : Int) := by
  rw [zI_div (by omega) (by omega) (by omega) (by omega), ← Int.natCast_ediv]
/-- two cards by the rule r -/
def mRu (τ : cb_St) (r c d : Nat) : Int32 := mBy (τ.1 1 c) (τ.1 1 d) (τ.1 2 c) (τ.1 2 d) (τ.1 0 3) (zI ((r / 2 : Nat) : Int)) (zI ((r % 2 : Nat) : Int))
theorem ru_h : ∀ r : Nat, r < 10 → zI r / 2 = zI ((r / 2 : Nat) : Int) ∧ zI r - zI r / 2 * 2 = zI ((r % 2 : Nat) : Int) := by decide +kernel
theorem mRu_3 (τ : cb_St) (r c d : Nat) : mRu τ r c d = zI 0 ∨ mRu τ r c d = zI 1 ∨ mRu τ r c d = zI 2 := (mBy_sw _ _ _ _ _ _ _).2
section HE
variable {N Q : Nat} {σ σ' τ τ' : cb_St} {n ml : Nat} {pk : Nat → Nat} {hd : Nat → Int}
theorem s_byRule (hT : rlT N Q σ τ) (r c d : Nat) (hr : r < 10) (hc : c < N) (hd : d < N) : f_X6_byRule 9 (zI c) (zI d) (zI r) σ = some (mRu τ r c d) := by
  have hN := hT.1
  obtain ⟨-, -, -, -, -, -, -, -, -, -, -, h3, hc1, -⟩ := hT
  obtain ⟨e1, e2⟩ := ru_h r hr
  unfold f_X6_byRule
  rw [e2, e1, s_byTrump 9 σ c d _ _ (by omega) (by omega), bp_s]
  show some (mBy (σ.1 10 c) (σ.1 10 d) (σ.1 11 c) (σ.1 11 d) (σ.1 9 3) _ _) = _
  rw [(hc1 c hc).1, (hc1 c hc).2, (hc1 d hd).1, (hc1 d hd).2, h3]; rfl
theorem m_byRule (r c d : Nat) (hr : r < 10) (hc : c < 12) (hd : d < 12) : f_X8_beatsBy (zI c) (zI d) (zI r / 2) (zI r - zI r / 2 * 2) τ = some (mRu τ r c d) := by
  obtain ⟨e1, e2⟩ := ru_h r hr
  rw [e2, e1, m_beatsBy τ c d _ _ hc hd]; rfl
/-- the i-th meeting fits the rule r -/
def fitO (τ : cb_St) (r a b w : Nat) : Bool := decide (a = 0) || decide (b = 0) || decide (mRu τ r (a - 1) (b - 1) = zI (w : Int))
def mFit (τ : cb_St) (r i : Nat) : Bool := fitO τ r (yN (τ.1 3 (27 + i)) / 64 % 16) (yN (τ.1 3 (27 + i)) / 4 % 16) (yN (τ.1 3 (27 + i)) % 4)
theorem mFit_d (τ : cb_St) (r i : Nat) : mFit τ r i = fitO τ r (yN (τ.1 3 (27 + i)) / 64 % 16) (yN (τ.1 3 (27 + i)) / 4 % 16) (yN (τ.1 3 (27 + i)) % 4) := rfl
theorem fitO_a (τ : cb_St) (r b w : Nat) : fitO τ r 0 b w = true := by simp [fitO]
theorem fitO_b (τ : cb_St) (r a w : Nat) : fitO τ r a 0 w = true := by simp [fitO]
theorem fitO_n (τ : cb_St) (r a b w : Nat) (ha : ¬ a = 0) (hb : ¬ b = 0) : fitO τ r a b w = decide (mRu τ r (a - 1) (b - 1) = zI (w : Int)) := by simp [fitO, ha, hb]
def mA (P : Nat → Bool) (i : Nat) : Nat → Bool
  | 0 => true
  | m + 1 => P i && mA P (i + 1) m
theorem mA_s (P : Nat → Bool) (i m : Nat) : mA P i (m + 1) = (P i && mA P (i + 1) m) := rfl
theorem s_entry_i (hP : rlP N Q σ 13 (τ.1 3) n ml pk hd) (i : Nat) (hi : i < ml) : f_X4_entry 13 (zI i) σ = some (σ.1 (13 + 4) i) := by
  have h24 := hP.2.1
  have h5 := hP.2.2.2.2.1
  unfold f_X4_entry
  rw [h5]; simp (disch := omega) only [zI_lit, zI_neg, zI_add, zI_sub, zI_mul, zI_lt, zI_le, zI_inj, zI_ck, zI_clamp, ← Int.natCast_add, la_1, al_1, la_2, al_2, la_3, al_3, la_4, al_4, la_5, al_5, la_6, al_6, la_7, al_7, la_8, al_8, la_9, al_9, la_10, al_10, la_11, al_11, la_12, al_12, la_13, al_13, la_16, al_16, la_19, al_19, la_20, al_20, la_24, al_24, la_25, al_25, la_26, al_26, la_27, al_27, la_51, al_51, la_52, al_52, la_0, Int.toNat_natCast, bp_s, let_s, bi_s, bv_s, b1_f]
  rw [if_neg (by omega), if_neg (by omega), if_pos (by omega)]
theorem zI_pred (a : Nat) (h : ¬ a = 0) : zI (a : Int) - 1 = zI ((a - 1 : Nat) : Int) := by
  rw [show (1 : Int32) = zI 1 from rfl, zI_sub]; congr 1; omega
theorem zI_pred0 : zI ((0 : Nat) : Int) - 1 = -1 := by decide
theorem s_fits_2 (hT : rlT N Q σ τ) (hP : rlP N Q σ 13 (τ.1 3) n ml pk hd) (r : Nat) (hr : r < 10) : ∀ (m i fu : Nat), i + m = ml → m < fu → f_X7_fitsLog_2 (zI r) σ fu (zI i) = some (if mA (mFit τ r) i m then zI 1 else zI 0) := by
  have hN := hT.1
  have h24 := hP.2.1
  have h5 := hP.2.2.2.2.1
  intro m
  induction m with
  | zero =>
    intro i fu e hf
    obtain ⟨fu, rfl⟩ : ∃ g, fu = g + 1 := ⟨fu - 1, by omega⟩
    rw [f_X7_fitsLog_2, h5]; simp (disch := omega) only [zI_lit, zI_neg, zI_add, zI_sub, zI_mul, zI_lt, zI_le, zI_inj, zI_ck, zI_clamp, ← Int.natCast_add, la_1, al_1, la_2, al_2, la_3, al_3, la_4, al_4, la_5, al_5, la_6, al_6, la_7, al_7, la_8, al_8, la_9, al_9, la_10, al_10, la_11, al_11, la_12, al_12, la_13, al_13, la_16, al_16, la_19, al_19, la_20, al_20, la_24, al_24, la_25, al_25, la_26, al_26, la_27, al_27, la_51, al_51, la_52, al_52, la_0, Int.toNat_natCast, bp_s, let_s, bi_s, bv_s, b1_f]
    rw [if_pos (by omega)]; rfl
  | succ m ih =>
    intro i fu e hf
    obtain ⟨fu, rfl⟩ : ∃ g, fu = g + 1 := ⟨fu - 1, by omega⟩
    have i1 := ih (i + 1) fu (by omega) (by omega)
    obtain ⟨-, -, -, d3, d4, d5, -, -, d6, d7, d8, -⟩ := log_dec hN (hP.2.2.2.2.2.2.2.2.2.2.2.1 i (by omega))
    rw [f_X7_fitsLog_2, h5, s_entry_i hP i (by omega), bp_s, mA_s]
    unfold f_X4_firstCardIn f_X4_secondCardIn f_X4_outcomeIn f_X7_fitsLog_67
    simp only [bp_s, d3, d4, d5]
    rw [mFit_d]
    generalize yN (τ.1 3 (27 + i)) / 64 % 16 = a at *
    generalize yN (τ.1 3 (27 + i)) / 4 % 16 = b at *
    generalize yN (τ.1 3 (27 + i)) % 4 = w at *
    rw [if_neg (by rw [zI_le (by omega) (by omega) (by omega) (by omega)]; omega)]
    have e1 : zI (i : Int) + 1 = zI ((i + 1 : Nat) : Int) := by rw [show (1 : Int32) = zI 1 from rfl, zI_add, al_1]
    simp only [e1, let_s, i1]
    by_cases ha : a = 0
    · subst ha; rw [zI_pred0, if_pos rfl, fitO_a, Bool.true_and]
    · rw [zI_pred a ha, if_neg (by rw [zI_m1, zI_inj (by omega) (by omega) (by omega) (by omega)]; omega)]
      by_cases hb : b = 0
      · subst hb; rw [zI_pred0, if_pos rfl, fitO_b, Bool.true_and]
      · rw [zI_pred b hb, if_neg (by rw [zI_m1, zI_inj (by omega) (by omega) (by omega) (by omega)]; omega)]
        rw [s_byRule hT r (a - 1) (b - 1) hr (by omega) (by omega), bp_s]
        by_cases hw : mRu τ r (a - 1) (b - 1) = zI (w : Int)
        · rw [if_pos hw, fitO_n _ _ _ _ _ ha hb, decide_eq_true hw, Bool.true_and]
        · rw [if_neg hw, fitO_n _ _ _ _ _ ha hb, decide_eq_false hw, Bool.false_and]; rfl
theorem s_fits (hT : rlT N Q σ τ) (hP : rlP N Q σ 13 (τ.1 3) n ml pk hd) (r : Nat) (hr : r < 10) : f_X7_fitsLog (zI r) σ = some (if mA (mFit τ r) 0 ml then zI 1 else zI 0) :=
  s_fits_2 hT hP r hr ml 0 cb_fu (by omega) (by have := hP.2.1; unfold cb_fu; omega)
theorem m_logs (hN : N ≤ 12) (hP : rlP N Q σ 13 (τ.1 3) n ml pk hd) (i : Nat) (hi : i < ml) : f_X8_logWon (zI i) τ = some (zI ((yN (τ.1 3 (27 + i)) % 4 : Nat) : Int)) ∧ f_X8_logOne (zI i) τ = some (zI ((yN (τ.1 3 (27 + i)) / 8192 : Nat) : Int)) ∧ f_X8_logOther (zI i) τ = some (zI ((yN (τ.1 3 (27 + i)) / 1024 % 8 : Nat) : Int)) ∧ f_X8_logCard (zI i) 1 τ = some (zI ((yN (τ.1 3 (27 + i)) / 64 % 16 : Nat) : Int) - 1) ∧ f_X8_logCard (zI i) 0 τ = some (zI ((yN (τ.1 3 (27 + i)) / 4 % 16 : Nat) : Int) - 1) := by
  have h24 := hP.2.1
  obtain ⟨d1, -, -, -, -, -, -, -, -, -, -, d6⟩ := log_dec hN (hP.2.2.2.2.2.2.2.2.2.2.2.1 i (by omega))
  have e27 : (27 : Int32) + zI i = zI ((27 + i : Nat) : Int) := by rw [show (27 : Int32) = zI 27 from rfl, zI_add, la_27]
  unfold f_X8_logWon f_X8_logOne f_X8_logOther f_X8_logCard f_X8_logCard_36
  rw [if_neg (show ¬ (1 : Int32) = 0 from by decide), if_pos rfl, e27]
  simp (disch := omega) only [zI_ck, zI_clamp, Int.toNat_natCast]
  generalize yN (τ.1 3 (27 + i)) = Y at *
  rw [d1]
  rw [show (4 : Int32) = zI ((4 : Nat) : Int) from rfl, show (8192 : Int32) = zI ((8192 : Nat) : Int) from rfl, show (1024 : Int32) = zI ((1024 : Nat) : Int) from rfl, show (8 : Int32) = zI ((8 : Nat) : Int) from rfl, show (64 : Int32) = zI ((64 : Nat) : Int) from rfl, show (16 : Int32) = zI ((16 : Nat) : Int) from rfl]
  have b1 : Y / 1024 ≤ Y := Nat.div_le_self _ _
  have b2 : Y / 64 ≤ Y := Nat.div_le_self _ _
  have b3 : Y / 4 ≤ Y := Nat.div_le_self _ _
  rw [yN_mod Y 4 d6 (by omega) (by omega), yN_div Y 8192 d6 (by omega) (by omega), yN_div Y 1024 d6 (by omega) (by omega), yN_div Y 64 d6 (by omega) (by omega), yN_div Y 4 d6 (by omega) (by omega)]
  rw [yN_mod _ 8 (by omega) (by omega) (by omega), yN_mod _ 16 (by omega) (by omega) (by omega), yN_mod _ 16 (by omega) (by omega) (by omega)]
  exact ⟨rfl, rfl, rfl, rfl, rfl⟩
theorem m_held_4 (hT : rlT N Q σ τ) (hP : rlP N Q σ 13 (τ.1 3) n ml pk hd) (r : Nat) (hr : r < 10) : ∀ (m i fu : Nat), i + m = ml → m < fu → f_X8_isHeld_4 (zI r) τ fu (zI 1) (zI i) = some (if mA (mFit τ r) i m then zI 1 else zI 0) := by
  have hN := hT.1
  have h24 := hP.2.1
  have h5 := hP.2.2.2.2.2.1
  have k1 : ∀ y, cb_ck (0 ≤ Int32.toInt 26 ∧ Int32.toInt 26 < 51) y = y := fun y => ck_t (β := Int32) y (by decide)
  have t26 : Int32.toNatClampNeg 26 = 26 := by decide
  intro m
  induction m with
  | zero =>
    intro i fu e hf
    obtain ⟨fu, rfl⟩ : ∃ g, fu = g + 1 := ⟨fu - 1, by omega⟩
    rw [f_X8_isHeld_4, k1, t26, h5, if_pos (by rw [zI_le (by omega) (by omega) (by omega) (by omega)]; omega)]
    unfold f_X8_isHeld_79
    rw [ck_t _ (show zI 1 = 0 ∨ zI 1 = 1 from Or.inr rfl)]; rfl
  | succ m ih =>
    intro i fu e hf
    obtain ⟨fu, rfl⟩ : ∃ g, fu = g + 1 := ⟨fu - 1, by omega⟩
    have i1 := ih (i + 1) fu (by omega) (by omega)
    have i0 : f_X8_isHeld_4 (zI r) τ fu 0 (zI ((i + 1 : Nat) : Int)) = some (zI 0) := by
      obtain ⟨fu, rfl⟩ : ∃ g, fu = g + 1 := ⟨fu - 1, by omega⟩
      rw [f_X8_isHeld_4, k1, if_pos rfl]
      unfold f_X8_isHeld_79
      rw [ck_t _ (Or.inl rfl)]
      exact ite_self _
    obtain ⟨g1, -, -, g2, g3⟩ := m_logs hN hP i (by omega)
    obtain ⟨-, -, -, -, -, -, -, -, d6, d7, d8, -⟩ := log_dec hN (hP.2.2.2.2.2.2.2.2.2.2.2.1 i (by omega))
    rw [f_X8_isHeld_4, k1, t26, h5, g1, g2, g3, mA_s, mFit_d]
    unfold f_X8_isHeld_67 f_X8_isHeld_72
    generalize yN (τ.1 3 (27 + i)) / 64 % 16 = a at *
    generalize yN (τ.1 3 (27 + i)) / 4 % 16 = b at *
    generalize yN (τ.1 3 (27 + i)) % 4 = w at *
    rw [if_neg (by rw [zI_le (by omega) (by omega) (by omega) (by omega)]; omega), if_neg z10]
    have e1 : zI (i : Int) + 1 = zI ((i + 1 : Nat) : Int) := by rw [show (1 : Int32) = zI 1 from rfl, zI_add, al_1]
    simp only [bp_s, e1, let_s, i0]
    rw [show f_X8_isHeld_4 (zI r) τ fu 1 (zI ((i + 1 : Nat) : Int)) = _ from i1]
    by_cases ha : a = 0
    · subst ha; rw [zI_pred0, if_pos (by decide), fitO_a, Bool.true_and]
    · rw [zI_pred a ha, if_neg (by rw [show (0 : Int32) = zI 0 from rfl, zI_lt (by omega) (by omega) (by omega) (by omega)]; omega)]
      by_cases hb : b = 0
      · subst hb; rw [zI_pred0, if_pos (by decide), fitO_b, Bool.true_and]
      · rw [zI_pred b hb, if_neg (by rw [show (0 : Int32) = zI 0 from rfl, zI_lt (by omega) (by omega) (by omega) (by omega)]; omega)]
        rw [m_byRule r (a - 1) (b - 1) hr (by omega) (by omega), bp_s]
        by_cases hw : mRu τ r (a - 1) (b - 1) = zI (w : Int)
        · rw [if_pos hw, fitO_n _ _ _ _ _ ha hb, decide_eq_true hw, Bool.true_and]
        · rw [if_neg hw, fitO_n _ _ _ _ _ ha hb, decide_eq_false hw, Bool.false_and]; rfl
theorem m_held (hT : rlT N Q σ τ) (hP : rlP N Q σ 13 (τ.1 3) n ml pk hd) (r : Nat) (hr : r < 10) : f_X8_isHeld (zI r) τ = some (if mA (mFit τ r) 0 ml then zI 1 else zI 0) :=
  m_held_4 hT hP r hr ml 0 cb_fu (by omega) (by have := hP.2.1; unfold cb_fu; omega)
/-- the rules that fit all meetings -/
def mH (τ : cb_St) (ml : Nat) : Int32 := mS (fun r => mA (mFit τ r) 0 ml) 0 10 (zI 0)
theorem s_hr_4 (hT : rlT N Q σ τ) (hP : rlP N Q σ 13 (τ.1 3) n ml pk hd) : ∀ (m i fu : Nat) (x : Int32), i + m = 10 → m < fu → f_X7_heldRules_4 σ fu x (zI i) = some (mS (fun r => mA (mFit τ r) 0 ml) i m x) := by
  intro m
  induction m with
  | zero =>
    intro i fu x e hf
    obtain ⟨fu, rfl⟩ : ∃ g, fu = g + 1 := ⟨fu - 1, by omega⟩
    rw [f_X7_heldRules_4]; simp (disch := omega) only [zI_lit, zI_neg, zI_add, zI_sub, zI_mul, zI_lt, zI_le, zI_inj, zI_ck, zI_clamp, ← Int.natCast_add, la_1, al_1, la_2, al_2, la_3, al_3, la_4, al_4, la_5, al_5, la_6, al_6, la_7, al_7, la_8, al_8, la_9, al_9, la_10, al_10, la_11, al_11, la_12, al_12, la_13, al_13, la_16, al_16, la_19, al_19, la_20, al_20, la_24, al_24, la_25, al_25, la_26, al_26, la_27, al_27, la_51, al_51, la_52, al_52, la_0, Int.toNat_natCast, bp_s, let_s, bi_s, bv_s, b1_f]
    rw [if_pos (by omega)]; rfl
  | succ m ih =>
    intro i fu x e hf
    obtain ⟨fu, rfl⟩ : ∃ g, fu = g + 1 := ⟨fu - 1, by omega⟩
    have i1 := ih (i + 1) fu x (by omega) (by omega)
    have i2 := ih (i + 1) fu (x ||| b1 i) (by omega) (by omega)
    rw [f_X7_heldRules_4, mS_s, s_fits hT hP i (by omega)]
    unfold f_X7_heldRules_24
    simp (disch := omega) only [zI_lit, zI_neg, zI_add, zI_sub, zI_mul, zI_lt, zI_le, zI_inj, zI_ck, zI_clamp, ← Int.natCast_add, la_1, al_1, la_2, al_2, la_3, al_3, la_4, al_4, la_5, al_5, la_6, al_6, la_7, al_7, la_8, al_8, la_9, al_9, la_10, al_10, la_11, al_11, la_12, al_12, la_13, al_13, la_16, al_16, la_19, al_19, la_20, al_20, la_24, al_24, la_25, al_25, la_26, al_26, la_27, al_27, la_51, al_51, la_52, al_52, la_0, Int.toNat_natCast, bp_s, let_s, bi_s, bv_s, b1_f]
    rw [if_neg (by omega), i1, i2]
    by_cases h : mA (mFit τ i) 0 ml = true
    · rw [if_pos h, if_neg zI_ne10, if_pos h]
    · rw [if_neg h, if_pos rfl, if_neg h]
theorem s_hr (hT : rlT N Q σ τ) (hP : rlP N Q σ 13 (τ.1 3) n ml pk hd) : f_X7_heldRules σ = some (mH τ ml) :=
  s_hr_4 hT hP 10 0 cb_fu (zI 0) (by omega) (by unfold cb_fu; omega)
theorem m_hr_4 (hT : rlT N Q σ τ) (hP : rlP N Q σ 13 (τ.1 3) n ml pk hd) : ∀ (m i fu : Nat) (x : Int32), i + m = 10 → m < fu → f_X8_heldRules_4 τ fu x (zI i) = some (mS (fun r => mA (mFit τ r) 0 ml) i m x) := by
  intro m
  induction m with
  | zero =>
    intro i fu x e hf
    obtain ⟨fu, rfl⟩ : ∃ g, fu = g + 1 := ⟨fu - 1, by omega⟩
    rw [f_X8_heldRules_4]; simp (disch := omega) only [zI_lit, zI_neg, zI_add, zI_sub, zI_mul, zI_lt, zI_le, zI_inj, zI_ck, zI_clamp, ← Int.natCast_add, la_1, al_1, la_2, al_2, la_3, al_3, la_4, al_4, la_5, al_5, la_6, al_6, la_7, al_7, la_8, al_8, la_9, al_9, la_10, al_10, la_11, al_11, la_12, al_12, la_13, al_13, la_16, al_16, la_19, al_19, la_20, al_20, la_24, al_24, la_25, al_25, la_26, al_26, la_27, al_27, la_51, al_51, la_52, al_52, la_0, Int.toNat_natCast, bp_s, let_s, bi_s, bv_s, b1_f]
    rw [if_pos (by omega)]; rfl
  | succ m ih =>
    intro i fu x e hf
    obtain ⟨fu, rfl⟩ : ∃ g, fu = g + 1 := ⟨fu - 1, by omega⟩
    have i1 := ih (i + 1) fu x (by omega) (by omega)
    have i2 := ih (i + 1) fu (x ||| b1 i) (by omega) (by omega)
    rw [f_X8_heldRules_4, mS_s, m_held hT hP i (by omega)]
    unfold f_X8_heldRules_26
    simp (disch := omega) only [zI_lit, zI_neg, zI_add, zI_sub, zI_mul, zI_lt, zI_le, zI_inj, zI_ck, zI_clamp, ← Int.natCast_add, la_1, al_1, la_2, al_2, la_3, al_3, la_4, al_4, la_5, al_5, la_6, al_6, la_7, al_7, la_8, al_8, la_9, al_9, la_10, al_10, la_11, al_11, la_12, al_12, la_13, al_13, la_16, al_16, la_19, al_19, la_20, al_20, la_24, al_24, la_25, al_25, la_26, al_26, la_27, al_27, la_51, al_51, la_52, al_52, la_0, Int.toNat_natCast, bp_s, let_s, bi_s, bv_s, b1_f]
    rw [if_neg (by omega), i2, show x ||| zI 0 = x from Int32.or_zero, i1]
    by_cases h : mA (mFit τ i) 0 ml = true
    · rw [if_pos h, if_neg zI_ne10, if_pos h]
    · rw [if_neg h, if_pos rfl, if_neg h]
theorem m_hr (hT : rlT N Q σ τ) (hP : rlP N Q σ 13 (τ.1 3) n ml pk hd) : f_X8_heldRules τ = some (mH τ ml) :=
  m_hr_4 hT hP 10 0 cb_fu (zI 0) (by omega) (by unfold cb_fu; omega)
end HE
