/-! ===== how many bits ===== -/
def mC (P : Nat → Bool) (i : Nat) : Nat → Nat
  | 0 => 0
  | m + 1 => (if P i then 1 else 0) + mC P (i + 1) m
theorem mC_s (P : Nat → Bool) (i m : Nat) : mC P i (m + 1) = (if P i then 1 else 0) + mC P (i + 1) m := rfl
theorem mC_le (P : Nat → Bool) : ∀ (m i : Nat), mC P i m ≤ m := by
  intro m
  induction m with
  | zero => intro i; exact Nat.le_refl 0
  | succ m ih =>
    intro i
    rw [mC_s]
    have := ih (i + 1)
    split <;> omega
theorem m_bits_4 (x : Int32) (τ : cb_St) : ∀ (m i fu : Nat) (a : Nat), i + m = 12 → m < fu → f_X8_bits_4 x τ fu (zI a) (zI i) = some (zI ((a + mC (bt x) i m : Nat) : Int)) := by
  intro m
  induction m with
  | zero =>
    intro i fu a e hf
    obtain ⟨fu, rfl⟩ : ∃ g, fu = g + 1 := ⟨fu - 1, by omega⟩
    rw [f_X8_bits_4]; simp (disch := omega) only [zI_lit, zI_neg, zI_add, zI_sub, zI_mul, zI_lt, zI_le, zI_inj, zI_ck, zI_clamp, ← Int.natCast_add, la_1, al_1, la_2, al_2, la_3, al_3, la_4, al_4, la_5, al_5, la_6, al_6, la_7, al_7, la_8, al_8, la_9, al_9, la_10, al_10, la_11, al_11, la_12, al_12, la_13, al_13, la_16, al_16, la_19, al_19, la_20, al_20, la_24, al_24, la_25, al_25, la_26, al_26, la_27, al_27, la_51, al_51, la_52, al_52, la_0, Int.toNat_natCast, bp_s, let_s, bi_s, bv_s, b1_f]
    rw [if_pos (by omega)]; rfl
  | succ m ih =>
    intro i fu a e hf
    obtain ⟨fu, rfl⟩ : ∃ g, fu = g + 1 := ⟨fu - 1, by omega⟩
    rw [f_X8_bits_4, mC_s]; simp (disch := omega) only [bit1n, zI_lit, zI_neg, zI_add, zI_sub, zI_mul, zI_lt, zI_le, zI_inj, zI_ck, zI_clamp, ← Int.natCast_add, la_1, al_1, la_2, al_2, la_3, al_3, la_4, al_4, la_5, al_5, la_6, al_6, la_7, al_7, la_8, al_8, la_9, al_9, la_10, al_10, la_11, al_11, la_12, al_12, la_13, al_13, la_16, al_16, la_19, al_19, la_20, al_20, la_24, al_24, la_25, al_25, la_26, al_26, la_27, al_27, la_51, al_51, la_52, al_52, la_0, Int.toNat_natCast, bp_s, let_s, bi_s, bv_s, b1_f]
    rw [if_neg (by omega)]
    by_cases h : bt x i
    · rw [if_pos h, if_pos h]; simp (disch := omega) only [zI_lit, zI_neg, zI_add, zI_sub, zI_mul, zI_lt, zI_le, zI_inj, zI_ck, zI_clamp, ← Int.natCast_add, la_1, al_1, la_2, al_2, la_3, al_3, la_4, al_4, la_5, al_5, la_6, al_6, la_7, al_7, la_8, al_8, la_9, al_9, la_10, al_10, la_11, al_11, la_12, al_12, la_13, al_13, la_16, al_16, la_19, al_19, la_20, al_20, la_24, al_24, la_25, al_25, la_26, al_26, la_27, al_27, la_51, al_51, la_52, al_52, la_0, Int.toNat_natCast, bp_s, let_s, bi_s, bv_s, b1_f]
      rw [ih (i + 1) fu (a + 1) (by omega) (by omega), Nat.add_assoc]
    · rw [if_neg h, if_neg h]
      rw [show zI (a : Int) + zI 0 = zI (a : Int) from Int32.add_zero _]
      rw [ih (i + 1) fu a (by omega) (by omega), Nat.zero_add]
theorem m_bits (x : Int32) (τ : cb_St) : f_X8_bits x τ = some (zI (mC (bt x) 0 12 : Nat)) := by
  have h := m_bits_4 x τ 12 0 cb_fu 0 (by omega) (by unfold cb_fu; omega)
  rw [Nat.zero_add] at h
  exact h
theorem s_bc0 : ∀ n : Nat, n < 1024 → f_J6_bitCount_0f7a4 (fun _ _ => 0, fun _ => 0) (zI n) = some (zI (mC (bt (zI n)) 0 12 : Nat)) := by decide +kernel
theorem s_bitCount (σ : cb_St) (n : Nat) (h : n < 1024) : f_J6_bitCount_0f7a4 σ (zI n) = some (zI (mC (bt (zI n)) 0 12 : Nat)) := s_bc0 n h
/-- a number none of whose bits from 10 on is set -/
theorem bt_sm (x : Int32) (h : ∀ j, 10 ≤ j → j < 32 → bt x j = false) : ∃ n : Nat, n < 1024 ∧ x = zI n := by
  refine ⟨x.toBitVec.toNat, ?_, ?_⟩
  · apply Nat.lt_of_not_le
    intro hge
    have hlt : x.toBitVec.toNat < 2 ^ 32 := x.toBitVec.isLt
    obtain ⟨j, hj, hb⟩ := Nat.exists_ge_and_testBit_of_ge_two_pow (n := 10) (x := x.toBitVec.toNat) hge
    have hj2 : j < 32 := by
      apply Nat.lt_of_not_le
      intro h32
      have : x.toBitVec.toNat.testBit j = false := Nat.testBit_lt_two_pow (Nat.lt_of_lt_of_le hlt (Nat.pow_le_pow_right (by decide) h32))
      rw [this] at hb; cases hb
    have := h j hj hj2
    unfold bt at this
    rw [BitVec.getLsbD] at this
    rw [this] at hb; cases hb
  · rw [zI_nat]; unfold nI
    exact Int32.toBitVec_inj.mp (by show _ = BitVec.ofNat 32 _; simp)
theorem s_bits (σ : cb_St) (x : Int32) (h : ∀ j, 10 ≤ j → j < 32 → bt x j = false) : f_J6_bitCount_0f7a4 σ x = some (zI (mC (bt x) 0 12 : Nat)) := by
  obtain ⟨n, hn, rfl⟩ := bt_sm x h
  exact s_bitCount σ n hn
theorem mS_hi (P : Nat → Bool) (Q : Nat) (hQ : Q ≤ 10) : ∀ j, 10 ≤ j → j < 32 → bt (mS P 0 Q (zI 0)) j = false := by
  intro j h1 h2
  rw [mS_bt P Q 0 (zI 0) (by omega) j h2]
  have e : bt (zI 0) j = false := b_0 j
  rw [e]
  have : decide (j < 0 + Q) = false := decide_eq_false (by omega)
  rw [this]; simp
/-- the number of those that p beats -/
def mN (τ : cb_St) (hd : Nat → Int) (Q : Nat) (p : Nat) : Nat := mC (bt (mS (fun q => decide (mT τ (hd p) (hd q) = zI 0)) 0 Q (zI 0))) 0 12
theorem mN_le (τ : cb_St) (hd : Nat → Int) (Q p : Nat) : mN τ hd Q p ≤ 12 := mC_le _ 12 0
