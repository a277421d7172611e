/-! ===== logged, told, odds, missing ===== -/
section AS
variable {N Q : Nat} {σ σ' τ τ' : cb_St} {n ml : Nat} {pk : Nat → Nat} {hd : Nat → Int}
theorem ite_some {c : Prop} [Decidable c] {A B : Option Int32} (h1 : ∃ r, A = some r) (h2 : ∃ r, B = some r) : ∃ r, (if c then A else B) = some r := by
  by_cases h : c
  · rw [if_pos h]; exact h1
  · rw [if_neg h]; exact h2
theorem l64_2 : (2 : Int64).toInt = 2 := by decide
theorem q_logged (hT : rlT N Q σ τ) (hP : rlP N Q σ 13 (τ.1 3) n ml pk hd) (x y : Int32) : ∃ r, f_X7_logged x y σ = some r ∧ f_X8_logged x y τ = some r := by
  have hN := hT.1
  have h24 := hP.2.1
  have h2 := hP.2.2.2.2.1
  have h26 := hP.2.2.2.2.2.1
  obtain ⟨a, rfl, a1, a2⟩ := zI_ex x
  obtain ⟨b, rfl, b1, b2⟩ := zI_ex y
  have k1 : ∀ y, cb_ck (0 ≤ Int32.toInt 26 ∧ Int32.toInt 26 < 51) y = y := fun y => ck_t (β := Int32) y (by decide)
  have t26 : Int32.toNatClampNeg 26 = 26 := by decide
  have em : zI (ml : Int) - 1 = zI ((ml : Int) - 1) := by rw [show (1 : Int32) = zI 1 from rfl, zI_sub]
  unfold f_X7_logged f_X8_logged f_X7_logged_27 f_X7_logged_9
  simp only [s_in, k1, t26, h26, h2, em, bp_s]
  rw [zI_64 b1 b2, zI_64 a1 a2, zI_64 (by omega) (by omega), l64_0, l64_2]
  by_cases hb : 0 ≤ b ∧ b ≤ 2
  · rw [if_pos hb, if_neg z10, if_neg (by rw [show (0 : Int32) = zI 0 from rfl, zI_lt (by omega) (by omega) (by omega) (by omega)]; omega), if_pos (by rw [show (2 : Int32) = zI 2 from rfl, zI_le (by omega) (by omega) (by omega) (by omega)]; omega)]
    by_cases ha : 0 ≤ a ∧ a ≤ (ml : Int) - 1
    · rw [if_pos ha, if_neg z10, if_neg (by rw [show (0 : Int32) = zI 0 from rfl, zI_lt (by omega) (by omega) (by omega) (by omega)]; omega), if_pos (by rw [zI_lt (by omega) (by omega) (by omega) (by omega)]; omega)]
      obtain ⟨i, hi⟩ := Int.eq_ofNat_of_zero_le (show 0 ≤ (ml : Int) - 1 - a by omega)
      rw [zI_sub, hi, s_entry_i hP i (by omega)]
      obtain ⟨g1, g2, g3, -, -⟩ := m_logs hN hP i (by omega)
      obtain ⟨-, d1, d2, -, -, d5, -, -, -, -, d8, -⟩ := log_dec hN (hP.2.2.2.2.2.2.2.2.2.2.2.1 i (by omega))
      unfold f_X4_firstIn f_X4_secondIn f_X4_outcomeIn f_X7_winner
      simp only [let_s, bp_s, g1, g2, g3, d1, d2, d5]
      generalize yN (τ.1 3 (27 + i)) % 4 = w at *
      by_cases c0 : zI b = 0
      · rw [if_pos c0, if_pos c0]; exact ⟨_, rfl, rfl⟩
      · rw [if_neg c0, if_neg c0]
        by_cases c1 : zI b = 1
        · rw [if_pos c1, if_pos c1]; exact ⟨_, rfl, rfl⟩
        · rw [if_neg c1, if_neg c1]
          have hw : w = 0 ∨ w = 1 ∨ w = 2 := by omega
          rcases hw with e | e | e <;> subst e <;> exact ⟨_, rfl, rfl⟩
    · rw [if_neg ha, if_pos z00]
      by_cases hs : a < 0
      · rw [if_pos (by rw [show (0 : Int32) = zI 0 from rfl, zI_lt (by omega) (by omega) (by omega) (by omega)]; omega)]; exact ⟨_, rfl, rfl⟩
      · rw [if_neg (by rw [show (0 : Int32) = zI 0 from rfl, zI_lt (by omega) (by omega) (by omega) (by omega)]; omega), if_neg (by rw [zI_lt (by omega) (by omega) (by omega) (by omega)]; omega)]; exact ⟨_, rfl, rfl⟩
  · rw [if_neg hb, if_pos z00]
    by_cases hs : b < 0
    · rw [if_pos (by rw [show (0 : Int32) = zI 0 from rfl, zI_lt (by omega) (by omega) (by omega) (by omega)]; omega)]; exact ⟨_, rfl, rfl⟩
    · rw [if_neg (by rw [show (0 : Int32) = zI 0 from rfl, zI_lt (by omega) (by omega) (by omega) (by omega)]; omega), if_neg (by rw [show (2 : Int32) = zI 2 from rfl, zI_le (by omega) (by omega) (by omega) (by omega)]; omega)]; exact ⟨_, rfl, rfl⟩
theorem q_told (h : Rel σ τ) (x : Int32) : ∃ r, f_X7_told x σ = some r ∧ f_X8_told x τ = some r := by
  obtain ⟨N, Q, n, ml, pk, hd, u, z, hX, hP, hU, hS⟩ := h
  have hN := hX.1.1
  have hT := hX.1
  obtain ⟨-, -, a4, b4, a5, b5, a0, o0, o1, o2, a2, a3, -⟩ := hX.1
  obtain ⟨s, w, -, -, c1, c2, c3, c4, -⟩ := hX.2.2.1
  obtain ⟨L, -, l1, l2, -⟩ := hX.2.2.2
  have u1 := hU.2.2.1
  have u2 := hU.2.2.2.1
  have p0 := hP.2.2.1
  have p12 := hP.2.2.2.1
  have p2 := hP.2.2.2.2.1
  have p26 := hP.2.2.2.2.2.1
  have p1 := hP.2.2.2.2.2.2.1
  have t12 : Int32.toNatClampNeg 12 = 12 := by decide
  have t25 : Int32.toNatClampNeg 25 = 25 := by decide
  have t26 : Int32.toNatClampNeg 26 = 26 := by decide
  have k12 : ∀ y, cb_ck (0 ≤ Int32.toInt 12 ∧ Int32.toInt 12 < 51) y = y := fun y => ck_t (β := Int32) y (by decide)
  have k25 : ∀ y, cb_ck (0 ≤ Int32.toInt 25 ∧ Int32.toInt 25 < 51) y = y := fun y => ck_t (β := Int32) y (by decide)
  have k26 : ∀ y, cb_ck (0 ≤ Int32.toInt 26 ∧ Int32.toInt 26 < 51) y = y := fun y => ck_t (β := Int32) y (by decide)
  unfold f_X7_told f_X8_told
  simp only [k12, k25, k26, t12, t25, t26, s_hr hT hP, m_hr hT hP, s_ruler hT hP, m_ruler hT hP, c_holders hN hP, m_whoAre hT hP, bp_s, a4, b4, a5, b5, a2, a3, c1, c2, c3, c4, l1, l2, u1, u2, p0, p12, p2, p26, p1]
  have e0 : some (σ.1 9 1) = if τ.1 0 0 = 0 then some (-1) else some (τ.1 0 1) := by
    rcases o0 with e | e
    · rw [if_pos e, (o2 e).1, zI_m1]
    · rw [if_neg (by rw [e]; decide), o1 e]
  rw [e0]
  refine ex_same rfl ?_
  repeat (first | refine ite_some ?_ ?_ | exact ⟨_, rfl⟩)
/-- how many of the pack's cards beat the card of q -/
theorem s_odds_20 (hT : rlT N Q σ τ) (hP : rlP N Q σ 13 (τ.1 3) n ml pk hd) (x : Int32) (q : Nat) (hq : q < 6) : ∀ (m i fu a : Nat), i + m = n → m < fu → a ≤ i → f_X7_odds_20 x (zI q) σ fu (zI a) (zI i) = some (if n = 0 then zI 0 else zI (1000000 * ((a + mC (fun j => decide (mT τ (pk j) (hd q) = zI 0)) i m : Nat) : Int)) / zI n) := by
  have hN := hT.1
  have hn := hP.1
  have p0 := hP.2.2.1
  obtain ⟨c1, -, c2, c3⟩ := hP.2.2.2.2.2.2.2.2.1 q hq
  intro m
  induction m with
  | zero =>
    intro i fu a e hf ha
    obtain ⟨fu, rfl⟩ : ∃ g, fu = g + 1 := ⟨fu - 1, by omega⟩
    rw [f_X7_odds_20, p0, if_pos (by rw [zI_le (by omega) (by omega) (by omega) (by omega)]; omega)]
    by_cases h0 : n = 0
    · rw [if_pos h0, if_neg (by rw [show (0 : Int32) = zI 0 from rfl, zI_lt (by omega) (by omega) (by omega) (by omega)]; omega)]; rfl
    · rw [if_neg h0, if_pos (by rw [show (0 : Int32) = zI 0 from rfl, zI_lt (by omega) (by omega) (by omega) (by omega)]; omega), ck_t _ (by rw [show (0 : Int32) = zI 0 from rfl, zI_inj (by omega) (by omega) (by omega) (by omega)]; omega), show (1000000 : Int32) = zI 1000000 from rfl, zI_mul]; rfl
  | succ m ih =>
    intro i fu a e hf ha
    obtain ⟨fu, rfl⟩ : ∃ g, fu = g + 1 := ⟨fu - 1, by omega⟩
    have i1 := ih (i + 1) fu a (by omega) (by omega) (by omega)
    have i2 := ih (i + 1) fu (a + 1) (by omega) (by omega) (by omega)
    obtain ⟨d1, -, d3⟩ := hP.2.2.2.2.2.2.2.1 i (by omega)
    rw [f_X7_odds_20, s_cardAt 13 σ p0 (by omega) i (by omega), p0, bp_s, s_cardOf 13 σ q hq, bp_s, d1, c1, s_between hT _ _ (by omega) (by omega) c2 c3, bp_s, mC_s]
    unfold f_X7_odds_62
    simp (disch := omega) only [zI_lit, zI_neg, zI_add, zI_sub, zI_mul, zI_lt, zI_le, zI_inj, zI_ck, zI_clamp, ← Int.natCast_add, la_1, al_1, la_2, al_2, la_3, al_3, la_4, al_4, la_5, al_5, la_6, al_6, la_7, al_7, la_8, al_8, la_9, al_9, la_10, al_10, la_11, al_11, la_12, al_12, la_13, al_13, la_16, al_16, la_19, al_19, la_20, al_20, la_24, al_24, la_25, al_25, la_26, al_26, la_27, al_27, la_51, al_51, la_52, al_52, la_0, Int.toNat_natCast, bp_s, let_s, bi_s, bv_s, b1_f]
    rw [if_neg (by omega), i1, i2]
    have en : ¬ n = 0 := by omega
    simp only [if_neg en]
    by_cases h : mT τ (pk i) (hd q) = zI 0
    · rw [if_pos h, if_pos (by simpa using h), Nat.add_assoc]
    · rw [if_neg h, if_neg (by simpa using h), Nat.zero_add]
theorem m_odds_26 (hT : rlT N Q σ τ) (hP : rlP N Q σ 13 (τ.1 3) n ml pk hd) (x : Int32) (q : Nat) (hq : q < 6) : ∀ (m i fu a : Nat), i + m = n → m < fu → a ≤ i → f_X8_odds_26 x (zI q) τ fu (zI n) (zI a) (zI i) = some (if n = 0 then zI 0 else zI (1000000 * ((a + mC (fun j => decide (mT τ (pk j) (hd q) = zI 0)) i m : Nat) : Int)) / zI n) := by
  have hN := hT.1
  have hn := hP.1
  obtain ⟨-, c1, c2, c3⟩ := hP.2.2.2.2.2.2.2.2.1 q hq
  intro m
  induction m with
  | zero =>
    intro i fu a e hf ha
    obtain ⟨fu, rfl⟩ : ∃ g, fu = g + 1 := ⟨fu - 1, by omega⟩
    rw [f_X8_odds_26, if_pos (by rw [zI_le (by omega) (by omega) (by omega) (by omega)]; omega)]
    by_cases h0 : n = 0
    · rw [if_pos h0, if_pos (by rw [show (0 : Int32) = zI 0 from rfl, zI_inj (by omega) (by omega) (by omega) (by omega)]; omega)]; rfl
    · rw [if_neg h0, if_neg (by rw [show (0 : Int32) = zI 0 from rfl, zI_inj (by omega) (by omega) (by omega) (by omega)]; omega), ck_t _ (by rw [show (0 : Int32) = zI 0 from rfl, zI_inj (by omega) (by omega) (by omega) (by omega)]; omega), show (1000000 : Int32) = zI 1000000 from rfl, zI_mul]; rfl
  | succ m ih =>
    intro i fu a e hf ha
    obtain ⟨fu, rfl⟩ : ∃ g, fu = g + 1 := ⟨fu - 1, by omega⟩
    have i1 := ih (i + 1) fu a (by omega) (by omega) (by omega)
    have i2 := ih (i + 1) fu (a + 1) (by omega) (by omega) (by omega)
    obtain ⟨-, d1, d3⟩ := hP.2.2.2.2.2.2.2.1 i (by omega)
    have hm := m_meetBy τ (pk i) (hd q) (by omega) (by omega) c2 (by omega)
    rw [f_X8_odds_26, mC_s]
    unfold f_X8_odds_64
    simp (disch := omega) only [d1, c1, hm, Int.add_zero, zI_lit, zI_neg, zI_add, zI_sub, zI_mul, zI_lt, zI_le, zI_inj, zI_ck, zI_clamp, ← Int.natCast_add, la_1, al_1, la_2, al_2, la_3, al_3, la_4, al_4, la_5, al_5, la_6, al_6, la_7, al_7, la_8, al_8, la_9, al_9, la_10, al_10, la_11, al_11, la_12, al_12, la_13, al_13, la_16, al_16, la_19, al_19, la_20, al_20, la_24, al_24, la_25, al_25, la_26, al_26, la_27, al_27, la_51, al_51, la_52, al_52, la_0, Int.toNat_natCast, bp_s, let_s, bi_s, bv_s, b1_f]
    rw [if_neg (by omega), i1, i2]
    have en : ¬ n = 0 := by omega
    simp only [if_neg en]
    by_cases h : mT τ (pk i) (hd q) = zI 0
    · rw [if_pos h, if_pos (by simpa using h), Nat.add_assoc]
    · rw [if_neg h, if_neg (by simpa using h), Nat.zero_add]
theorem q_odds (hT : rlT N Q σ τ) (hP : rlP N Q σ 13 (τ.1 3) n ml pk hd) (x y : Int32) : ∃ r, f_X7_odds x y σ = some r ∧ f_X8_odds x y τ = some r := by
  have hN := hT.1
  have hQ : Q ≤ 6 := hT.2.1
  have hn := hP.1
  obtain ⟨a, rfl, a1, a2⟩ := zI_ex x
  obtain ⟨b, rfl, b1, b2⟩ := zI_ex y
  have t12 : Int32.toNatClampNeg 12 = 12 := by decide
  have k12 : ∀ y, cb_ck (0 ≤ Int32.toInt 12 ∧ Int32.toInt 12 < 51) y = y := fun y => ck_t (β := Int32) y (by decide)
  unfold f_X7_odds f_X8_odds f_X6_hasTwoPersons f_X8_areTwo f_X6_hasTwoPersons_25 f_X8_areTwo_25
  simp only [s_hasPerson 9 σ hT.2.2.2.2.1 hQ a a1 a2, m_isPerson τ hT.2.2.2.2.2.1 hQ a a1 a2, s_hasPerson 9 σ hT.2.2.2.2.1 hQ b b1 b2, m_isPerson τ hT.2.2.2.2.2.1 hQ b b1 b2, bp_s, k12, t12, hP.2.2.2.1, let_s]
  by_cases hb : 0 ≤ b ∧ b < Q
  · obtain ⟨q, rfl⟩ := Int.eq_ofNat_of_zero_le hb.1
    rw [show f_X7_odds_20 (zI a) (zI (q : Int)) σ cb_fu 0 0 = _ from s_odds_20 hT hP (zI a) q (by omega) n 0 cb_fu 0 (by omega) (by unfold cb_fu; omega) (by omega)]
    rw [show f_X8_odds_26 (zI a) (zI (q : Int)) τ cb_fu (zI n) 0 0 = _ from m_odds_26 hT hP (zI a) q (by omega) n 0 cb_fu 0 (by omega) (by unfold cb_fu; omega) (by omega)]
    refine ex_same rfl ?_
    by_cases ha : 0 ≤ a ∧ a < Q
    · rw [if_pos ha, if_neg z10, if_pos hb, if_neg z10]
      by_cases e : zI a = zI (q : Int)
      · rw [if_pos e, bp_s, if_pos rfl]; exact ⟨_, rfl⟩
      · rw [if_neg e, bp_s, if_neg (by decide)]; exact ⟨_, rfl⟩
    · rw [if_neg ha, if_pos z00, bp_s, if_pos rfl]; exact ⟨_, rfl⟩
  · rw [if_neg hb, if_pos z00]
    by_cases ha : 0 ≤ a ∧ a < Q
    · rw [if_pos ha, if_neg z10, bp_s, if_pos rfl]; exact ⟨_, rfl, rfl⟩
    · rw [if_neg ha, if_pos z00, bp_s, if_pos rfl]; exact ⟨_, rfl, rfl⟩
theorem bit64_0 : ∀ v : Nat, v < 52 → ((Int32.toInt64 (zI v) &&& 63).toBitVec.smod 64).toNat = v := by decide +kernel
theorem bL_bit (x : Int64) (v : Nat) (hv : v < 52) : ((x >>> (Int32.toInt64 (zI v) &&& 63)) &&& 1 = 1) ↔ bL x v = true := by
  unfold bL
  rw [← Int64.toBitVec_inj, Int64.toBitVec_and, Int64.toBitVec_shiftRight, BitVec.sshiftRight_eq', bit64_0 v hv]
  show (x.toBitVec.sshiftRight v &&& 1#64 = 1#64) ↔ _
  constructor
  · intro h
    have := congrArg (fun b => b.getLsbD 0) h
    simp only [BitVec.getLsbD_and, BitVec.getLsbD_sshiftRight, BitVec.getLsbD_one] at this
    have h64 : v < 64 := by omega
    simpa [h64] using this
  · intro h
    apply BitVec.eq_of_getLsbD_eq
    intro i hi
    have h64 : v < 64 := by omega
    by_cases h0 : i = 0
    · subst h0
      simp [BitVec.getLsbD_and, BitVec.getLsbD_sshiftRight, h, h64]
    · simp [BitVec.getLsbD_and, BitVec.getLsbD_one, h0]
theorem lg_cmp_0 (x y : Int64) : (lg_cmp x y = 0) = (x = y) := by
  unfold lg_cmp
  apply propext
  by_cases h1 : x > y
  · rw [if_pos h1]
    constructor
    · intro h; exact absurd h (by decide)
    · intro h; subst h; exact absurd h1 (Int64.lt_irrefl)
  · rw [if_neg h1]
    by_cases h2 : x = y
    · rw [if_pos h2]; simp [h2]
    · rw [if_neg h2]; simp [h2]
theorem s_hasTold (v : Nat) (hv : v < 52) : f_X6_hasTold 9 (zI v) σ = some (if bL (σ.2 9) v then zI 1 else zI 0) := by
  unfold f_X6_hasTold
  simp only [lg_cmp_0, bL_bit _ v hv]
  by_cases h : bL (σ.2 9) v = true
  · rw [if_pos h, if_pos h]; rfl
  · rw [if_neg h, if_neg h]; rfl
/-- the i-th card is the card v of the full pack -/
def isV (τ : cb_St) (v i : Nat) : Bool := decide (((13 * (τ.1 2 i)) + (τ.1 1 i)) - 1 = zI v)
def mO (P : Nat → Bool) (i : Nat) : Nat → Bool
  | 0 => false
  | m + 1 => P i || mO P (i + 1) m
theorem mO_s (P : Nat → Bool) (i m : Nat) : mO P i (m + 1) = (P i || mO P (i + 1) m) := rfl
theorem mO_i (P : Nat → Bool) : ∀ (m i : Nat), mO P i m = true ↔ ∃ j, i ≤ j ∧ j < i + m ∧ P j = true := by
  intro m
  induction m with
  | zero => intro i; constructor
            · intro h; exact absurd h (by simp [mO])
            · rintro ⟨j, h1, h2, -⟩; omega
  | succ m ih =>
    intro i
    rw [mO_s, Bool.or_eq_true, ih]
    constructor
    · rintro (h | ⟨j, h1, h2, h3⟩)
      · exact ⟨i, by omega, by omega, h⟩
      · exact ⟨j, by omega, by omega, h3⟩
    · rintro ⟨j, h1, h2, h3⟩
      by_cases e : j = i
      · subst e; left; exact h3
      · right; exact ⟨j, by omega, by omega, h3⟩
theorem m_isTold_4 (hT : rlT N Q σ τ) (v : Nat) : ∀ (m i fu : Nat) (b : Bool), i + m = N → m < fu → f_X8_isTold_4 (zI v) τ fu (if b then zI 1 else zI 0) (zI i) = some (if b || mO (isV τ v) i m then zI 1 else zI 0) := by
  have hN := hT.1
  have h4 := hT.2.2.2.1
  intro m
  induction m with
  | zero =>
    intro i fu b e hf
    obtain ⟨fu, rfl⟩ : ∃ g, fu = g + 1 := ⟨fu - 1, by omega⟩
    rw [f_X8_isTold_4, h4, if_pos (by rw [zI_le (by omega) (by omega) (by omega) (by omega)]; omega), ck_t _ (by cases b <;> decide)]
    cases b <;> rfl
  | succ m ih =>
    intro i fu b e hf
    obtain ⟨fu, rfl⟩ : ∃ g, fu = g + 1 := ⟨fu - 1, by omega⟩
    have i1 := ih (i + 1) fu true (by omega) (by omega)
    have i2 := ih (i + 1) fu false (by omega) (by omega)
    have e1 : zI (i : Int) + 1 = zI ((i + 1 : Nat) : Int) := by rw [show (1 : Int32) = zI 1 from rfl, zI_add, al_1]
    rw [f_X8_isTold_4, h4, if_neg (by rw [zI_le (by omega) (by omega) (by omega) (by omega)]; omega), mO_s]
    unfold f_X8_isTold_38 f_X8_isTold_43
    simp (disch := omega) only [zI_ck, zI_clamp, Int.toNat_natCast, let_s, e1]
    rw [show f_X8_isTold_4 (zI v) τ fu 1 (zI ((i + 1 : Nat) : Int)) = _ from i1, show f_X8_isTold_4 (zI v) τ fu 0 (zI ((i + 1 : Nat) : Int)) = _ from i2]
    cases b
    · rw [if_pos (show (if false = true then zI 1 else zI 0) = 0 from rfl)]
      by_cases h : 13 * τ.1 2 i + τ.1 1 i - 1 = zI v
      · rw [if_pos h, show isV τ v i = true from decide_eq_true h]; rfl
      · rw [if_neg h, show isV τ v i = false from decide_eq_false h]; rfl
    · rw [if_neg (show ¬ (if true = true then zI 1 else zI 0) = 0 from by decide)]; rfl
theorem isV_i (hT : rlT N Q σ τ) (v : Nat) (hv : v < 52) : mO (isV τ v) 0 N = bL (σ.2 9) v := by
  have hN := hT.1
  obtain ⟨-, -, -, -, -, -, -, -, -, -, -, -, -, h14, -, h16⟩ := hT
  rw [Bool.eq_iff_iff, h16 v hv, mO_i]
  constructor
  · rintro ⟨i, -, h2, h3⟩
    obtain ⟨r, q, e1, e2, g1, g2, g3⟩ := h14 i (by omega)
    refine ⟨i, r, q, by omega, e1, e2, g1, g2, g3, ?_⟩
    have h3 := of_decide_eq_true h3
    rw [e1, e2, show (13 : Int32) = zI 13 from rfl, show (1 : Int32) = zI 1 from rfl, zI_mul, zI_add, zI_sub, zI_inj (by omega) (by omega) (by omega) (by omega)] at h3
    omega
  · rintro ⟨i, r, q, h1, e1, e2, g1, g2, g3, h3⟩
    refine ⟨i, by omega, by omega, decide_eq_true ?_⟩
    rw [e1, e2, show (13 : Int32) = zI 13 from rfl, show (1 : Int32) = zI 1 from rfl, zI_mul, zI_add, zI_sub, zI_inj (by omega) (by omega) (by omega) (by omega)]
    omega
theorem m_isTold (hT : rlT N Q σ τ) (v : Nat) (hv : v < 52) : f_X8_isTold (zI v) τ = some (if bL (σ.2 9) v then zI 1 else zI 0) := by
  have h := m_isTold_4 hT v N 0 cb_fu false (by omega) (by have := hT.1; unfold cb_fu; omega)
  rw [Bool.false_or, isV_i hT v hv] at h
  exact h
theorem q_missing_17 (hT : rlT N Q σ τ) (x : Int32) : ∀ (m i fu : Nat) (a : Int32), i + m = 52 → m < fu → ∃ r, f_X7_missing_17 x σ fu a (zI i) = some r ∧ f_X8_missing_14 x τ fu a (zI i) = some r := by
  intro m
  induction m with
  | zero =>
    intro i fu a e hf
    obtain ⟨fu, rfl⟩ : ∃ g, fu = g + 1 := ⟨fu - 1, by omega⟩
    have c : (52 : Int32) ≤ zI i := by rw [show (52 : Int32) = zI 52 from rfl, zI_le (by omega) (by omega) (by omega) (by omega)]; omega
    rw [f_X7_missing_17, f_X8_missing_14, if_pos c, if_pos c]
    by_cases h : x = -1
    · rw [if_pos h]; exact ⟨_, rfl, rfl⟩
    · rw [if_neg h]; exact ⟨_, rfl, rfl⟩
  | succ m ih =>
    intro i fu a e hf
    obtain ⟨fu, rfl⟩ : ∃ g, fu = g + 1 := ⟨fu - 1, by omega⟩
    have c : ¬ (52 : Int32) ≤ zI i := by rw [show (52 : Int32) = zI 52 from rfl, zI_le (by omega) (by omega) (by omega) (by omega)]; omega
    have e1 : zI (i : Int) + 1 = zI ((i + 1 : Nat) : Int) := by rw [show (1 : Int32) = zI 1 from rfl, zI_add, al_1]
    rw [f_X7_missing_17, f_X8_missing_14, if_neg c, if_neg c, s_hasTold i (by omega), m_isTold hT i (by omega), bp_s, bp_s]
    unfold f_X7_missing_44 f_X8_missing_38
    rw [let_s, let_s, let_s, let_s, e1]
    by_cases h : bL (σ.2 9) i = true
    · rw [if_pos h, if_neg z10, if_neg z10]; exact ih (i + 1) fu a (by omega) (by omega)
    · rw [if_neg h, if_pos z00, if_pos z00]
      by_cases g : a = x
      · rw [if_pos g, if_pos g]; exact ⟨_, rfl, rfl⟩
      · rw [if_neg g, if_neg g]; exact ih (i + 1) fu (a + 1) (by omega) (by omega)
theorem q_missing (hT : rlT N Q σ τ) (x : Int32) : ∃ r, f_X7_missing x σ = some r ∧ f_X8_missing x τ = some r := by
  unfold f_X7_missing f_X8_missing
  rw [hT.2.2.2.2.2.2.1]
  by_cases h : τ.1 0 0 = 0
  · rw [if_pos h, if_pos h]; exact ⟨_, rfl, rfl⟩
  · rw [if_neg h, if_neg h]; exact q_missing_17 hT x 52 0 cb_fu 0 (by omega) (by unfold cb_fu; omega)
end AS
