/-! ===== what the class and the reference hold in common ===== -/
/-- the outcome of two cards, or of none (-1), by the told rules, in the reference's words -/
def mT (τ : cb_St) (c d : Int) : Int32 :=
  if c < 0 ∨ d < 0 then (if 0 ≤ c then zI 0 else if 0 ≤ d then zI 1 else zI 2)
  else mBy (τ.1 1 c.toNat) (τ.1 1 d.toNat) (τ.1 2 c.toNat) (τ.1 2 d.toNat) (τ.1 0 3) (τ.1 0 1) (τ.1 0 2)
theorem mBy_sw (rc rd sc sd kn t lw : Int32) : (mBy rc rd sc sd kn t lw = zI 0 ↔ mBy rd rc sd sc kn t lw = zI 1) ∧ (mBy rc rd sc sd kn t lw = zI 0 ∨ mBy rc rd sc sd kn t lw = zI 1 ∨ mBy rc rd sc sd kn t lw = zI 2) := by
  show (mBy rc rd sc sd kn t lw = 0 ↔ mBy rd rc sd sc kn t lw = 1) ∧ (mBy rc rd sc sd kn t lw = 0 ∨ mBy rc rd sc sd kn t lw = 1 ∨ mBy rc rd sc sd kn t lw = 2)
  rw [mBy_l, mBy_l]; grind (splits := 40)
theorem mBy_rf (rc sc kn t lw : Int32) : mBy rc rc sc sc kn t lw = zI 2 := by
  show mBy rc rc sc sc kn t lw = 2
  rw [mBy_l]; grind
theorem zI_ne01 : ¬ zI 0 = zI 1 := by decide
theorem zI_ne10 : ¬ zI 1 = zI 0 := by decide
theorem zI_ne20 : ¬ zI 2 = zI 0 := by decide
theorem zI_ne21 : ¬ zI 2 = zI 1 := by decide
theorem mT_3 (τ : cb_St) (c d : Int) : mT τ c d = zI 0 ∨ mT τ c d = zI 1 ∨ mT τ c d = zI 2 := by
  unfold mT
  have h := (mBy_sw (τ.1 1 c.toNat) (τ.1 1 d.toNat) (τ.1 2 c.toNat) (τ.1 2 d.toNat) (τ.1 0 3) (τ.1 0 1) (τ.1 0 2)).2
  grind
theorem mT_sw (τ : cb_St) (c d : Int) : mT τ c d = zI 0 ↔ mT τ d c = zI 1 := by
  unfold mT
  have h := (mBy_sw (τ.1 1 c.toNat) (τ.1 1 d.toNat) (τ.1 2 c.toNat) (τ.1 2 d.toNat) (τ.1 0 3) (τ.1 0 1) (τ.1 0 2)).1
  have e1 := zI_ne01
  have e2 := zI_ne10
  have e3 := zI_ne20
  have e4 := zI_ne21
  grind
theorem mT_rf (τ : cb_St) (c : Int) : mT τ c c = zI 2 := by
  unfold mT
  have h := mBy_rf (τ.1 1 c.toNat) (τ.1 2 c.toNat) (τ.1 0 3) (τ.1 0 1) (τ.1 0 2)
  grind
def bL (x : Int64) (i : Nat) : Bool := x.toBitVec.getLsbD i
/-- the table: N cards, Q persons -/
def rlT (N Q : Nat) (σ τ : cb_St) : Prop :=
  N ≤ 12 ∧ Q ≤ 6 ∧ σ.1 9 4 = zI N ∧ τ.1 0 4 = zI N ∧ σ.1 9 5 = zI Q ∧ τ.1 0 7 = zI Q
  ∧ σ.1 9 0 = τ.1 0 0 ∧ (τ.1 0 0 = 0 ∨ τ.1 0 0 = 1) ∧ (τ.1 0 0 = 1 → σ.1 9 1 = τ.1 0 1) ∧ (τ.1 0 0 = 0 → σ.1 9 1 = zI (-1) ∧ N = 0 ∧ Q = 0)
  ∧ σ.1 9 2 = τ.1 0 2 ∧ σ.1 9 3 = τ.1 0 3
  ∧ (∀ i, i < N → σ.1 10 i = τ.1 1 i ∧ σ.1 11 i = τ.1 2 i)
  ∧ (∀ i, i < N → ∃ r q : Nat, τ.1 1 i = zI r ∧ τ.1 2 i = zI q ∧ 1 ≤ r ∧ r ≤ 13 ∧ q ≤ 3)
  ∧ (∀ c d : Nat, c < N → d < N → bt (σ.1 12 c) d = decide (mT τ c d = zI 0))
  ∧ (∀ v : Nat, v < 52 → (bL (σ.2 9) v = true ↔ ∃ i r q : Nat, i < N ∧ τ.1 1 i = zI r ∧ τ.1 2 i = zI q ∧ 1 ≤ r ∧ r ≤ 13 ∧ q ≤ 3 ∧ 13 * q + r = v + 1))
/-- one meeting in the log: in the class's figures and in the reference's -/
def rlL (N : Nat) (x y : Int32) : Prop := ∃ p q a b w : Nat, p < 6 ∧ q < 6 ∧ a ≤ N ∧ b ≤ N ∧ w ≤ 2 ∧ x = zI ((p + 16 * q + 256 * a + 4096 * b + 65536 * w : Nat) : Int) ∧ y = zI ((w + 4 * b + 64 * a + 1024 * q + 8192 * p : Nat) : Int)
/-- a play at the cell k, and the reference's row v: n cards in the pack, ml meetings -/
def rlP (N Q : Nat) (σ : cb_St) (k : Nat) (v : Nat → Int32) (n ml : Nat) (pk : Nat → Nat) (hd : Nat → Int) : Prop :=
  n ≤ N ∧ ml ≤ 24 ∧ σ.1 k 0 = zI n ∧ v 12 = zI n ∧ σ.1 k 2 = zI ml ∧ v 26 = zI ml ∧ σ.1 k 1 = v 25
  ∧ (∀ i, i < n → σ.1 (k + 1) i = zI (pk i) ∧ v i = zI (pk i) ∧ pk i < N)
  ∧ (∀ p, p < 6 → σ.1 (k + 2) p = zI (hd p) ∧ v (13 + p) = zI (hd p) ∧ -1 ≤ hd p ∧ hd p < N)
  ∧ (∀ p, Q ≤ p → p < 6 → hd p = -1)
  ∧ (∀ p, p < 6 → σ.1 (k + 3) p = v (19 + p) ∧ ∃ w : Nat, v (19 + p) = zI w ∧ w ≤ 999999)
  ∧ (∀ i, i < ml → rlL N (σ.1 (k + 4) i) (v (27 + i)))
  ∧ (∀ i j, i < j → j < n → pk i ≠ pk j) ∧ (∀ p q, p < q → q < 6 → 0 ≤ hd p → hd p ≠ hd q) ∧ (∀ i p, i < n → p < 6 → hd p ≠ pk i)
  ∧ (∀ i, i < n → bt (v 25) (pk i) = false) ∧ (∀ p, p < 6 → 0 ≤ hd p → bt (v 25) (hd p).toNat = false) ∧ (∀ j, N ≤ j → j < 32 → bt (v 25) j = false)
theorem m_cardsMeet (τ : cb_St) (c d : Nat) (hc : c < 12) (hd : d < 12) : f_X8_cardsMeet (zI c) (zI d) τ = some (mT τ c d) := by
  unfold f_X8_cardsMeet; rw [m_beatsBy τ c d _ _ hc hd, bp_s]; unfold mT
  rw [if_neg (by omega)]; simp
theorem m_meetBy (τ : cb_St) (c d : Int) (hc : -1 ≤ c) (hc2 : c < 12) (hd : -1 ≤ d) (hd2 : d < 12) : f_X8_meetBy (zI c) (zI d) τ = some (mT τ c d) := by
  unfold f_X8_meetBy f_X8_meetBy_8; simp (disch := omega) only [zI_lit, zI_neg, zI_add, zI_sub, zI_mul, zI_lt, zI_le, zI_inj, zI_ck, zI_clamp, ← Int.natCast_add, la_1, al_1, la_2, al_2, la_3, al_3, la_4, al_4, la_5, al_5, la_6, al_6, la_7, al_7, la_8, al_8, la_9, al_9, la_10, al_10, la_11, al_11, la_12, al_12, la_13, al_13, la_16, al_16, la_19, al_19, la_20, al_20, la_24, al_24, la_25, al_25, la_26, al_26, la_27, al_27, la_51, al_51, la_52, al_52, la_0, Int.toNat_natCast, bp_s, let_s, bi_s, bv_s, b1_f]
  by_cases h1 : c < 0
  · unfold mT; grind
  · by_cases h2 : d < 0
    · unfold mT; grind
    · obtain ⟨c, rfl⟩ := Int.eq_ofNat_of_zero_le (Int.not_lt.mp h1)
      obtain ⟨d, rfl⟩ := Int.eq_ofNat_of_zero_le (Int.not_lt.mp h2)
      rw [if_neg (by omega), if_pos (by omega), m_cardsMeet τ c d (by omega) (by omega), bp_s]
theorem s_isBeaten {N Q : Nat} {σ τ : cb_St} (hT : rlT N Q σ τ) (d c : Int) (hc : -1 ≤ c) (hc2 : c < N) (hd : -1 ≤ d) (hd2 : d < N) : f_X6_isBeaten 9 (zI d) (zI c) σ = some (if mT τ c d = zI 0 then zI 1 else zI 0) := by
  obtain ⟨hN, hQ, -, -, -, -, -, -, -, -, -, -, -, -, hb, -⟩ := hT
  unfold f_X6_isBeaten f_X6_isBeaten_10 f_X6_isBeaten_31
  by_cases h1 : c < 0
  · have e : ¬ mT τ c d = zI 0 := by
      have e1 := zI_ne10
      have e2 := zI_ne20
      unfold mT; grind
    simp (disch := omega) only [zI_lit, zI_neg, zI_add, zI_sub, zI_mul, zI_lt, zI_le, zI_inj, zI_ck, zI_clamp, ← Int.natCast_add, la_1, al_1, la_2, al_2, la_3, al_3, la_4, al_4, la_5, al_5, la_6, al_6, la_7, al_7, la_8, al_8, la_9, al_9, la_10, al_10, la_11, al_11, la_12, al_12, la_13, al_13, la_16, al_16, la_19, al_19, la_20, al_20, la_24, al_24, la_25, al_25, la_26, al_26, la_27, al_27, la_51, al_51, la_52, al_52, la_0, Int.toNat_natCast, bp_s, let_s, bi_s, bv_s, b1_f]
    rw [if_pos (by omega), if_neg e]
  · obtain ⟨c, rfl⟩ := Int.eq_ofNat_of_zero_le (Int.not_lt.mp h1)
    by_cases h2 : d < 0
    · have e : mT τ c d = zI 0 := by unfold mT; grind
      simp (disch := omega) only [zI_lit, zI_neg, zI_add, zI_sub, zI_mul, zI_lt, zI_le, zI_inj, zI_ck, zI_clamp, ← Int.natCast_add, la_1, al_1, la_2, al_2, la_3, al_3, la_4, al_4, la_5, al_5, la_6, al_6, la_7, al_7, la_8, al_8, la_9, al_9, la_10, al_10, la_11, al_11, la_12, al_12, la_13, al_13, la_16, al_16, la_19, al_19, la_20, al_20, la_24, al_24, la_25, al_25, la_26, al_26, la_27, al_27, la_51, al_51, la_52, al_52, la_0, Int.toNat_natCast, bp_s, let_s, bi_s, bv_s, b1_f]
      rw [if_neg (by omega), if_pos (by omega), if_pos (by omega), if_pos e]
    · obtain ⟨d, rfl⟩ := Int.eq_ofNat_of_zero_le (Int.not_lt.mp h2)
      have hb := hb c d (by omega) (by omega)
      simp (disch := omega) only [bit1n, zI_lit, zI_neg, zI_add, zI_sub, zI_mul, zI_lt, zI_le, zI_inj, zI_ck, zI_clamp, ← Int.natCast_add, la_1, al_1, la_2, al_2, la_3, al_3, la_4, al_4, la_5, al_5, la_6, al_6, la_7, al_7, la_8, al_8, la_9, al_9, la_10, al_10, la_11, al_11, la_12, al_12, la_13, al_13, la_16, al_16, la_19, al_19, la_20, al_20, la_24, al_24, la_25, al_25, la_26, al_26, la_27, al_27, la_51, al_51, la_52, al_52, la_0, Int.toNat_natCast, bp_s, let_s, bi_s, bv_s, b1_f]
      rw [if_neg (by omega), if_pos (by omega), if_neg (by omega), hb]
      have e2 := zI_ne01
      grind
theorem s_between {N Q : Nat} {σ τ : cb_St} (hT : rlT N Q σ τ) (c d : Int) (hc : -1 ≤ c) (hc2 : c < N) (hd : -1 ≤ d) (hd2 : d < N) : f_X6_between 9 (zI c) (zI d) σ = some (mT τ c d) := by
  unfold f_X6_between
  rw [s_isBeaten hT d c hc hc2 hd hd2, s_isBeaten hT c d hd hd2 hc hc2, bp_s, bp_s]
  have h1 := mT_3 τ c d
  have h2 := mT_sw τ d c
  have e1 := zI_ne10
  simp (disch := omega) only [zI_lit, zI_neg, zI_add, zI_sub, zI_mul, zI_lt, zI_le, zI_inj, zI_ck, zI_clamp, ← Int.natCast_add, la_1, al_1, la_2, al_2, la_3, al_3, la_4, al_4, la_5, al_5, la_6, al_6, la_7, al_7, la_8, al_8, la_9, al_9, la_10, al_10, la_11, al_11, la_12, al_12, la_13, al_13, la_16, al_16, la_19, al_19, la_20, al_20, la_24, al_24, la_25, al_25, la_26, al_26, la_27, al_27, la_51, al_51, la_52, al_52, la_0, Int.toNat_natCast, bp_s, let_s, bi_s, bv_s, b1_f]
  grind
theorem s_winsOver {N Q : Nat} {σ τ : cb_St} {v : Nat → Int32} {n ml : Nat} {pk : Nat → Nat} {hd : Nat → Int} (hT : rlT N Q σ τ) (hP : rlP N Q σ 13 v n ml pk hd) (p q : Nat) (hp : p < 6) (hq : q < 6) : f_X7_winsOver (zI p) (zI q) σ = some (if mT τ (hd p) (hd q) = zI 0 then zI 1 else zI 0) := by
  obtain ⟨-, -, -, -, -, -, -, -, hh, -⟩ := hP
  unfold f_X7_winsOver
  obtain ⟨a1, -, a2, a3⟩ := hh p hp
  obtain ⟨b1, -, b2, b3⟩ := hh q hq
  rw [s_cardOf 13 σ p hp, s_cardOf 13 σ q hq, bp_s, bp_s, a1, b1, s_between hT _ _ a2 a3 b2 b3, bp_s]
  simp (disch := omega) only [zI_lit, zI_neg, zI_add, zI_sub, zI_mul, zI_lt, zI_le, zI_inj, zI_ck, zI_clamp, ← Int.natCast_add, la_1, al_1, la_2, al_2, la_3, al_3, la_4, al_4, la_5, al_5, la_6, al_6, la_7, al_7, la_8, al_8, la_9, al_9, la_10, al_10, la_11, al_11, la_12, al_12, la_13, al_13, la_16, al_16, la_19, al_19, la_20, al_20, la_24, al_24, la_25, al_25, la_26, al_26, la_27, al_27, la_51, al_51, la_52, al_52, la_0, Int.toNat_natCast, bp_s, let_s, bi_s, bv_s, b1_f]
  split <;> rfl
theorem s_beatenBy_4 {N Q : Nat} {σ τ : cb_St} {v : Nat → Int32} {n ml : Nat} {pk : Nat → Nat} {hd : Nat → Int} (hT : rlT N Q σ τ) (hP : rlP N Q σ 13 v n ml pk hd) (p : Nat) (hp : p < 6) :
    ∀ (m i fu : Nat) (x : Int32), i + m = Q → m < fu → f_X7_beatenBy_4 (zI p) σ fu x (zI i) = some (mS (fun q => decide (mT τ (hd p) (hd q) = zI 0)) i m x) := by
  have hQ : Q ≤ 6 := hT.2.1
  have h5 : σ.1 9 5 = zI Q := hT.2.2.2.2.1
  intro m
  induction m with
  | zero =>
    intro i fu x e hf
    obtain ⟨fu, rfl⟩ : ∃ g, fu = g + 1 := ⟨fu - 1, by omega⟩
    rw [f_X7_beatenBy_4, h5]; simp (disch := omega) only [zI_lit, zI_neg, zI_add, zI_sub, zI_mul, zI_lt, zI_le, zI_inj, zI_ck, zI_clamp, ← Int.natCast_add, la_1, al_1, la_2, al_2, la_3, al_3, la_4, al_4, la_5, al_5, la_6, al_6, la_7, al_7, la_8, al_8, la_9, al_9, la_10, al_10, la_11, al_11, la_12, al_12, la_13, al_13, la_16, al_16, la_19, al_19, la_20, al_20, la_24, al_24, la_25, al_25, la_26, al_26, la_27, al_27, la_51, al_51, la_52, al_52, la_0, Int.toNat_natCast, bp_s, let_s, bi_s, bv_s, b1_f]
    rw [if_pos (by omega)]; rfl
  | succ m ih =>
    intro i fu x e hf
    obtain ⟨fu, rfl⟩ : ∃ g, fu = g + 1 := ⟨fu - 1, by omega⟩
    have i1 := ih (i + 1) fu x (by omega) (by omega)
    have i2 := ih (i + 1) fu (x ||| b1 i) (by omega) (by omega)
    rw [f_X7_beatenBy_4, mS_s, h5, s_winsOver hT hP p i hp (by omega)]
    unfold f_X7_beatenBy_30
    simp (disch := omega) only [zI_lit, zI_neg, zI_add, zI_sub, zI_mul, zI_lt, zI_le, zI_inj, zI_ck, zI_clamp, ← Int.natCast_add, la_1, al_1, la_2, al_2, la_3, al_3, la_4, al_4, la_5, al_5, la_6, al_6, la_7, al_7, la_8, al_8, la_9, al_9, la_10, al_10, la_11, al_11, la_12, al_12, la_13, al_13, la_16, al_16, la_19, al_19, la_20, al_20, la_24, al_24, la_25, al_25, la_26, al_26, la_27, al_27, la_51, al_51, la_52, al_52, la_0, Int.toNat_natCast, bp_s, let_s, bi_s, bv_s, b1_f]
    rw [if_neg (by omega)]
    by_cases h : mT τ (hd p) (hd i) = zI 0
    · rw [if_pos h, if_neg zI_ne10, i2, if_pos (by simpa using h)]
    · rw [if_neg h, if_pos rfl, i1, if_neg (by simpa using h)]
theorem s_beatenBy {N Q : Nat} {σ τ : cb_St} {v : Nat → Int32} {n ml : Nat} {pk : Nat → Nat} {hd : Nat → Int} (hT : rlT N Q σ τ) (hP : rlP N Q σ 13 v n ml pk hd) (p : Nat) (hp : p < 6) : f_X7_beatenBy (zI p) σ = some (mS (fun q => decide (mT τ (hd p) (hd q) = zI 0)) 0 Q (zI 0)) :=
  s_beatenBy_4 hT hP p hp Q 0 cb_fu (zI 0) (by omega) (by have := hT.2.1; unfold cb_fu; omega)
theorem m_beatenBy_4 {N Q : Nat} {σ τ : cb_St} {n ml : Nat} {pk : Nat → Nat} {hd : Nat → Int} (hT : rlT N Q σ τ) (hP : rlP N Q σ 13 (τ.1 3) n ml pk hd) (p : Nat) (hp : p < 6) :
    ∀ (m i fu : Nat) (x : Int32), i + m = Q → m < fu → f_X8_beatenBy_4 (zI p) τ fu x (zI i) = some (mS (fun q => decide (mT τ (hd p) (hd q) = zI 0)) i m x) := by
  have hQ : Q ≤ 6 := hT.2.1
  have hN : N ≤ 12 := hT.1
  have h5 : τ.1 0 7 = zI Q := hT.2.2.2.2.2.1
  obtain ⟨-, -, -, -, -, -, -, -, hh, -⟩ := hP
  intro m
  induction m with
  | zero =>
    intro i fu x e hf
    obtain ⟨fu, rfl⟩ : ∃ g, fu = g + 1 := ⟨fu - 1, by omega⟩
    rw [f_X8_beatenBy_4, h5]; simp (disch := omega) only [zI_lit, zI_neg, zI_add, zI_sub, zI_mul, zI_lt, zI_le, zI_inj, zI_ck, zI_clamp, ← Int.natCast_add, la_1, al_1, la_2, al_2, la_3, al_3, la_4, al_4, la_5, al_5, la_6, al_6, la_7, al_7, la_8, al_8, la_9, al_9, la_10, al_10, la_11, al_11, la_12, al_12, la_13, al_13, la_16, al_16, la_19, al_19, la_20, al_20, la_24, al_24, la_25, al_25, la_26, al_26, la_27, al_27, la_51, al_51, la_52, al_52, la_0, Int.toNat_natCast, bp_s, let_s, bi_s, bv_s, b1_f]
    rw [if_pos (by omega)]; rfl
  | succ m ih =>
    intro i fu x e hf
    obtain ⟨fu, rfl⟩ : ∃ g, fu = g + 1 := ⟨fu - 1, by omega⟩
    have i1 := ih (i + 1) fu x (by omega) (by omega)
    have i2 := ih (i + 1) fu (x ||| b1 i) (by omega) (by omega)
    obtain ⟨-, a1, a2, a3⟩ := hh p hp
    obtain ⟨-, c1, c2, c3⟩ := hh i (by omega)
    have hm := m_meetBy τ (hd p) (hd i) a2 (by omega) c2 (by omega)
    rw [f_X8_beatenBy_4, mS_s, h5]
    unfold f_X8_beatenBy_49 f_X8_beatenBy_50
    simp (disch := omega) only [a1, c1, hm, zI_lit, zI_neg, zI_add, zI_sub, zI_mul, zI_lt, zI_le, zI_inj, zI_ck, zI_clamp, ← Int.natCast_add, la_1, al_1, la_2, al_2, la_3, al_3, la_4, al_4, la_5, al_5, la_6, al_6, la_7, al_7, la_8, al_8, la_9, al_9, la_10, al_10, la_11, al_11, la_12, al_12, la_13, al_13, la_16, al_16, la_19, al_19, la_20, al_20, la_24, al_24, la_25, al_25, la_26, al_26, la_27, al_27, la_51, al_51, la_52, al_52, la_0, Int.toNat_natCast, bp_s, let_s, bi_s, bv_s, b1_f]
    rw [if_neg (by omega)]
    by_cases hpi : i = p
    · subst hpi
      have e0 := mT_rf τ (hd i)
      rw [if_pos rfl, if_neg (by rw [decide_eq_true_eq, e0]; exact zI_ne20)]
      rw [show x ||| zI 0 = x from Int32.or_zero]; exact i1
    · rw [if_neg (by omega)]
      by_cases h : mT τ (hd p) (hd i) = zI 0
      · rw [if_pos h, i2, if_pos (by simpa using h)]
      · rw [if_neg h, if_neg (by simpa using h)]
        rw [show x ||| zI 0 = x from Int32.or_zero]; exact i1
theorem m_beatenBy {N Q : Nat} {σ τ : cb_St} {n ml : Nat} {pk : Nat → Nat} {hd : Nat → Int} (hT : rlT N Q σ τ) (hP : rlP N Q σ 13 (τ.1 3) n ml pk hd) (p : Nat) (hp : p < 6) : f_X8_beatenBy (zI p) τ = some (mS (fun q => decide (mT τ (hd p) (hd q) = zI 0)) 0 Q (zI 0)) :=
  m_beatenBy_4 hT hP p hp Q 0 cb_fu (zI 0) (by omega) (by have := hT.2.1; unfold cb_fu; omega)
