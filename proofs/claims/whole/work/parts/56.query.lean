/-! ===== questions that loop over the persons ===== -/
theorem mC_add (P : Nat → Bool) : ∀ (a i b : Nat), mC P i (a + b) = mC P i a + mC P (i + a) b := by
  intro a
  induction a with
  | zero => intro i b; rw [Nat.zero_add, Nat.add_zero]; simp [mC]
  | succ a ih =>
    intro i b
    have : i + 1 + a = i + (a + 1) := by omega
    rw [Nat.succ_add, mC_s, mC_s, ih (i + 1) b, this]
    exact (Nat.add_assoc _ _ _).symm
theorem mC_zero (P : Nat → Bool) : ∀ (m i : Nat), (∀ q, i ≤ q → q < i + m → P q = false) → mC P i m = 0 := by
  intro m
  induction m with
  | zero => intro i _; rfl
  | succ m ih =>
    intro i h
    rw [mC_s, h i (by omega) (by omega), ih (i + 1) (fun q h1 h2 => h q (by omega) (by omega))]; rfl
theorem mC_congr {P R : Nat → Bool} : ∀ (m i : Nat), (∀ q, i ≤ q → q < i + m → P q = R q) → mC P i m = mC R i m := by
  intro m
  induction m with
  | zero => intro i _; rfl
  | succ m ih =>
    intro i h
    rw [mC_s, mC_s, h i (by omega) (by omega), ih (i + 1) (fun q h1 h2 => h q (by omega) (by omega))]
theorem mN_lt (τ : cb_St) (hd : Nat → Int) (Q p : Nat) (hQ : Q ≤ 6) (hp : p < Q) : mN τ hd Q p < Q := by
  unfold mN
  have hb : ∀ j, j < 32 → bt (mS (fun q => decide (mT τ (hd p) (hd q) = zI 0)) 0 Q (zI 0)) j = (decide (j < Q) && decide (mT τ (hd p) (hd j) = zI 0)) := by
    intro j hj
    rw [mS_bt _ Q 0 (zI 0) (by omega) j hj]
    have e : bt (zI 0) j = false := b_0 j
    rw [e, Nat.zero_add]; simp
  have e1 : (12 : Nat) = p + (1 + ((Q - p - 1) + (12 - Q))) := by omega
  rw [e1, mC_add, mC_add, mC_add]
  have h1 := mC_le (bt (mS (fun q => decide (mT τ (hd p) (hd q) = zI 0)) 0 Q (zI 0))) p 0
  have h2 : mC (bt (mS (fun q => decide (mT τ (hd p) (hd q) = zI 0)) 0 Q (zI 0))) (0 + p) 1 = 0 := by
    apply mC_zero
    intro q g1 g2
    have : q = p := by omega
    subst this
    rw [hb q (by omega), mT_rf]
    have := zI_ne20
    simp [this]
  have h3 := mC_le (bt (mS (fun q => decide (mT τ (hd p) (hd q) = zI 0)) 0 Q (zI 0))) (Q - p - 1) (0 + p + 1)
  have h4 : mC (bt (mS (fun q => decide (mT τ (hd p) (hd q) = zI 0)) 0 Q (zI 0))) (0 + p + 1 + (Q - p - 1)) (12 - Q) = 0 := by
    apply mC_zero
    intro q g1 g2
    rw [hb q (by omega)]
    have : decide (q < Q) = false := decide_eq_false (by omega)
    rw [this]; rfl
  omega
theorem bt_mS0 (P : Nat → Bool) (Q j : Nat) (hQ : Q ≤ 32) (hj : j < Q) : bt (mS P 0 Q (zI 0)) j = P j := by
  rw [mS_bt P Q 0 (zI 0) (by omega) j (by omega)]
  have e : bt (zI 0) j = false := b_0 j
  rw [e]
  have : decide (j < 0 + Q) = true := decide_eq_true (by omega)
  rw [this]; simp
theorem m_has (x : Int32) (k : Nat) (hk : k < 32) (τ : cb_St) : f_X8_has x (zI k) τ = some (if bt x k then zI 1 else zI 0) := by
  unfold f_X8_has; simp (disch := omega) only [bit1n, zI_lit, zI_neg, zI_add, zI_sub, zI_mul, zI_lt, zI_le, zI_inj, zI_ck, zI_clamp, ← Int.natCast_add, la_1, al_1, la_2, al_2, la_3, al_3, la_4, al_4, la_5, al_5, la_6, al_6, la_7, al_7, la_8, al_8, la_9, al_9, la_10, al_10, la_11, al_11, la_12, al_12, la_13, al_13, la_16, al_16, la_19, al_19, la_20, al_20, la_24, al_24, la_25, al_25, la_26, al_26, la_27, al_27, la_51, al_51, la_52, al_52, la_0, Int.toNat_natCast, bp_s, let_s, bi_s, bv_s, b1_f]
  have := zI_ne01
  grind
def mR (g : Nat → Nat) (i : Nat) : Nat → Int → Nat → Int
  | 0, b, _ => b
  | m + 1, b, mo => if g i ≤ mo then mR g (i + 1) m b mo else mR g (i + 1) m i (g i)
theorem mR_s (g : Nat → Nat) (i m : Nat) (b : Int) (mo : Nat) : mR g i (m + 1) b mo = if g i ≤ mo then mR g (i + 1) m b mo else mR g (i + 1) m i (g i) := rfl
section QR
variable {N Q : Nat} {σ τ : cb_St} {n ml : Nat} {pk : Nat → Nat} {hd : Nat → Int}
theorem s_ruler_6 (hT : rlT N Q σ τ) (hP : rlP N Q σ 13 (τ.1 3) n ml pk hd) : ∀ (m i fu : Nat) (b : Int) (mo : Nat), i + m = Q → m < fu → mo ≤ 12 → f_X7_ruler_6 σ fu (zI b) (zI mo) (zI i) = some (zI (mR (mN τ hd Q) i m b mo)) := by
  have hQ : Q ≤ 6 := hT.2.1
  have h5 : σ.1 9 5 = zI Q := hT.2.2.2.2.1
  intro m
  induction m with
  | zero =>
    intro i fu b mo e hf hm
    obtain ⟨fu, rfl⟩ : ∃ g, fu = g + 1 := ⟨fu - 1, by omega⟩
    rw [f_X7_ruler_6, h5]; simp (disch := omega) only [zI_lit, zI_neg, zI_add, zI_sub, zI_mul, zI_lt, zI_le, zI_inj, zI_ck, zI_clamp, ← Int.natCast_add, la_1, al_1, la_2, al_2, la_3, al_3, la_4, al_4, la_5, al_5, la_6, al_6, la_7, al_7, la_8, al_8, la_9, al_9, la_10, al_10, la_11, al_11, la_12, al_12, la_13, al_13, la_16, al_16, la_19, al_19, la_20, al_20, la_24, al_24, la_25, al_25, la_26, al_26, la_27, al_27, la_51, al_51, la_52, al_52, la_0, Int.toNat_natCast, bp_s, let_s, bi_s, bv_s, b1_f]
    rw [if_pos (by omega)]; rfl
  | succ m ih =>
    intro i fu b mo e hf hm
    obtain ⟨fu, rfl⟩ : ∃ g, fu = g + 1 := ⟨fu - 1, by omega⟩
    have hl := mN_le τ hd Q i
    have hbc := s_bits σ _ (mS_hi (fun q => decide (mT τ (hd i) (hd q) = zI 0)) Q (by omega))
    rw [show mC (bt (mS (fun q => decide (mT τ (hd i) (hd q) = zI 0)) 0 Q (zI 0))) 0 12 = mN τ hd Q i from rfl] at hbc
    rw [f_X7_ruler_6, mR_s, h5, s_beatenBy hT hP i (by omega), bp_s, hbc]
    unfold f_X7_ruler_38
    simp (disch := omega) only [zI_lit, zI_neg, zI_add, zI_sub, zI_mul, zI_lt, zI_le, zI_inj, zI_ck, zI_clamp, ← Int.natCast_add, la_1, al_1, la_2, al_2, la_3, al_3, la_4, al_4, la_5, al_5, la_6, al_6, la_7, al_7, la_8, al_8, la_9, al_9, la_10, al_10, la_11, al_11, la_12, al_12, la_13, al_13, la_16, al_16, la_19, al_19, la_20, al_20, la_24, al_24, la_25, al_25, la_26, al_26, la_27, al_27, la_51, al_51, la_52, al_52, la_0, Int.toNat_natCast, bp_s, let_s, bi_s, bv_s, b1_f]
    rw [if_neg (by omega), ih (i + 1) fu b mo (by omega) (by omega) hm, ih (i + 1) fu i (mN τ hd Q i) (by omega) (by omega) hl]
    by_cases h : mN τ hd Q i ≤ mo
    · rw [if_pos (by omega), if_pos h]
    · rw [if_neg (by omega), if_neg h]
theorem s_ruler (hT : rlT N Q σ τ) (hP : rlP N Q σ 13 (τ.1 3) n ml pk hd) : f_X7_ruler σ = some (zI (mR (mN τ hd Q) 0 Q (-1) 0)) := by
  unfold f_X7_ruler; rw [zI_m1]
  exact s_ruler_6 hT hP Q 0 cb_fu (-1) 0 (by omega) (by have := hT.2.1; unfold cb_fu; omega) (by omega)
theorem m_ruler_6 (hT : rlT N Q σ τ) (hP : rlP N Q σ 13 (τ.1 3) n ml pk hd) : ∀ (m i fu : Nat) (b : Int) (mo : Nat), i + m = Q → m < fu → mo ≤ 12 → f_X8_ruler_6 τ fu (zI b) (zI mo) (zI i) = some (zI (mR (mN τ hd Q) i m b mo)) := by
  have hQ : Q ≤ 6 := hT.2.1
  have h5 : τ.1 0 7 = zI Q := hT.2.2.2.2.2.1
  intro m
  induction m with
  | zero =>
    intro i fu b mo e hf hm
    obtain ⟨fu, rfl⟩ : ∃ g, fu = g + 1 := ⟨fu - 1, by omega⟩
    rw [f_X8_ruler_6, h5]; simp (disch := omega) only [zI_lit, zI_neg, zI_add, zI_sub, zI_mul, zI_lt, zI_le, zI_inj, zI_ck, zI_clamp, ← Int.natCast_add, la_1, al_1, la_2, al_2, la_3, al_3, la_4, al_4, la_5, al_5, la_6, al_6, la_7, al_7, la_8, al_8, la_9, al_9, la_10, al_10, la_11, al_11, la_12, al_12, la_13, al_13, la_16, al_16, la_19, al_19, la_20, al_20, la_24, al_24, la_25, al_25, la_26, al_26, la_27, al_27, la_51, al_51, la_52, al_52, la_0, Int.toNat_natCast, bp_s, let_s, bi_s, bv_s, b1_f]
    rw [if_pos (by omega)]; rfl
  | succ m ih =>
    intro i fu b mo e hf hm
    obtain ⟨fu, rfl⟩ : ∃ g, fu = g + 1 := ⟨fu - 1, by omega⟩
    have hl := mN_le τ hd Q i
    have hbc := m_bits (mS (fun q => decide (mT τ (hd i) (hd q) = zI 0)) 0 Q (zI 0)) τ
    rw [show mC (bt (mS (fun q => decide (mT τ (hd i) (hd q) = zI 0)) 0 Q (zI 0))) 0 12 = mN τ hd Q i from rfl] at hbc
    rw [f_X8_ruler_6, mR_s, h5, m_beatenBy hT hP i (by omega), bp_s, hbc]
    unfold f_X8_ruler_35 f_X8_ruler_48
    simp (disch := omega) only [zI_lit, zI_neg, zI_add, zI_sub, zI_mul, zI_lt, zI_le, zI_inj, zI_ck, zI_clamp, ← Int.natCast_add, la_1, al_1, la_2, al_2, la_3, al_3, la_4, al_4, la_5, al_5, la_6, al_6, la_7, al_7, la_8, al_8, la_9, al_9, la_10, al_10, la_11, al_11, la_12, al_12, la_13, al_13, la_16, al_16, la_19, al_19, la_20, al_20, la_24, al_24, la_25, al_25, la_26, al_26, la_27, al_27, la_51, al_51, la_52, al_52, la_0, Int.toNat_natCast, bp_s, let_s, bi_s, bv_s, b1_f]
    rw [if_neg (by omega), ih (i + 1) fu b mo (by omega) (by omega) hm, ih (i + 1) fu i (mN τ hd Q i) (by omega) (by omega) hl]
    by_cases h : mN τ hd Q i ≤ mo
    · rw [if_pos (by omega), if_pos (by omega), if_pos h]
    · rw [if_neg (by omega), if_neg (by omega), if_neg h]
theorem m_ruler (hT : rlT N Q σ τ) (hP : rlP N Q σ 13 (τ.1 3) n ml pk hd) : f_X8_ruler τ = some (zI (mR (mN τ hd Q) 0 Q (-1) 0)) := by
  unfold f_X8_ruler; rw [zI_m1]
  exact m_ruler_6 hT hP Q 0 cb_fu (-1) 0 (by omega) (by have := hT.2.1; unfold cb_fu; omega) (by omega)
theorem m_placeOf_2 (hN : N ≤ 12) (hP : rlP N Q σ 13 (τ.1 3) n ml pk hd) (c : Nat) (hc : c < 12) :
    ∀ (m i fu : Nat), i + m = n → m < fu → f_X8_placeOf_2 (zI c) τ fu (zI i) = some (zI (mF (fun j => pk j == c) i m)) := by
  obtain ⟨hn, -, -, h12, -, -, -, hp, -⟩ := hP
  intro m
  induction m with
  | zero =>
    intro i fu e hf
    obtain ⟨fu, rfl⟩ : ∃ g, fu = g + 1 := ⟨fu - 1, by omega⟩
    rw [f_X8_placeOf_2]; simp (disch := omega) only [show (12 : Int).toNat = 12 from rfl, h12, zI_lit, zI_neg, zI_add, zI_sub, zI_mul, zI_lt, zI_le, zI_inj, zI_ck, zI_clamp, ← Int.natCast_add, la_1, al_1, la_2, al_2, la_3, al_3, la_4, al_4, la_5, al_5, la_6, al_6, la_7, al_7, la_8, al_8, la_9, al_9, la_10, al_10, la_11, al_11, la_12, al_12, la_13, al_13, la_16, al_16, la_19, al_19, la_20, al_20, la_24, al_24, la_25, al_25, la_26, al_26, la_27, al_27, la_51, al_51, la_52, al_52, la_0, Int.toNat_natCast, bp_s, let_s, bi_s, bv_s, b1_f]
    rw [if_pos (by omega)]; rfl
  | succ m ih =>
    intro i fu e hf
    obtain ⟨fu, rfl⟩ : ∃ g, fu = g + 1 := ⟨fu - 1, by omega⟩
    obtain ⟨-, p2, p3⟩ := hp i (by omega)
    rw [f_X8_placeOf_2, mF_s]; simp (disch := omega) only [show (12 : Int).toNat = 12 from rfl, h12, p2, zI_lit, zI_neg, zI_add, zI_sub, zI_mul, zI_lt, zI_le, zI_inj, zI_ck, zI_clamp, ← Int.natCast_add, la_1, al_1, la_2, al_2, la_3, al_3, la_4, al_4, la_5, al_5, la_6, al_6, la_7, al_7, la_8, al_8, la_9, al_9, la_10, al_10, la_11, al_11, la_12, al_12, la_13, al_13, la_16, al_16, la_19, al_19, la_20, al_20, la_24, al_24, la_25, al_25, la_26, al_26, la_27, al_27, la_51, al_51, la_52, al_52, la_0, Int.toNat_natCast, bp_s, let_s, bi_s, bv_s, b1_f]
    rw [if_neg (by omega), ih (i + 1) fu (by omega) (by omega)]
    by_cases h : pk i = c
    · rw [if_pos (by omega), if_pos (by simpa using h)]
    · rw [if_neg (by omega), if_neg (by simpa using h)]
theorem m_placeOf (hN : N ≤ 12) (hP : rlP N Q σ 13 (τ.1 3) n ml pk hd) (c : Nat) (hc : c < 12) : f_X8_placeOf (zI c) τ = some (zI (mF (fun j => pk j == c) 0 n)) :=
  m_placeOf_2 hN hP c hc n 0 cb_fu (by omega) (by have := hP.1; unfold cb_fu; omega)
theorem c_placeOf (hN : N ≤ 12) (hP : rlP N Q σ 13 (τ.1 3) n ml pk hd) (c : Nat) (hc : c < 12) : f_X4_placeOf 13 (zI c) σ = some (zI (mF (fun j => pk j == c) 0 n)) := by
  obtain ⟨hn, -, h0, -, -, -, -, hp, -⟩ := hP
  exact s_placeOf 13 σ h0 (by omega) (fun i hi => (hp i hi).1) (fun i hi => by have := (hp i hi).2.2; omega) c hc
end QR
