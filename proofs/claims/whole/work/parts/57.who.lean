/-! ===== who is a card ===== -/
theorem mF_ext (P : Nat → Bool) (r : Nat) : ∀ (m i : Nat), (∀ q, i + m ≤ q → q < i + m + r → P q = false) → mF P i (m + r) = mF P i m := by
  intro m
  induction m with
  | zero =>
    intro i h
    rw [Nat.zero_add]
    rcases mF_hit P r i with e | ⟨j, e, h1, h2, h3, h4⟩
    · rw [e]; rfl
    · have := h j (by omega) (by omega)
      rw [this] at h3; cases h3
  | succ m ih =>
    intro i h
    rw [Nat.succ_add, mF_s, mF_s, ih (i + 1) (fun q h1 h2 => h q (by omega) (by omega))]
theorem mS_ext (P : Nat → Bool) (r : Nat) : ∀ (m i : Nat) (x : Int32), (∀ q, i + m ≤ q → q < i + m + r → P q = false) → mS P i (m + r) x = mS P i m x := by
  intro m
  induction m with
  | zero =>
    intro i x h
    rw [Nat.zero_add]
    have : ∀ (r i : Nat) (x : Int32), (∀ q, i ≤ q → q < i + r → P q = false) → mS P i r x = x := by
      intro r
      induction r with
      | zero => intro i x _; rfl
      | succ r ih2 =>
        intro i x h
        rw [mS_s, if_neg (by rw [h i (by omega) (by omega)]; decide), ih2 (i + 1) x (fun q h1 h2 => h q (by omega) (by omega))]
    rw [this r i x (fun q h1 h2 => h q (by omega) (by omega))]; rfl
  | succ m ih =>
    intro i x h
    rw [Nat.succ_add, mS_s, mS_s, ih (i + 1) _ (fun q h1 h2 => h q (by omega) (by omega))]
def mL (P : Nat → Bool) (i : Nat) : Nat → Int → Int
  | 0, w => w
  | m + 1, w => mL P (i + 1) m (if P i then (i : Int) else w)
theorem mL_s (P : Nat → Bool) (i m : Nat) (w : Int) : mL P i (m + 1) w = mL P (i + 1) m (if P i then (i : Int) else w) := rfl
theorem mL_no (P : Nat → Bool) : ∀ (m i : Nat) (w : Int), (∀ q, i ≤ q → q < i + m → P q = false) → mL P i m w = w := by
  intro m
  induction m with
  | zero => intro i w _; rfl
  | succ m ih =>
    intro i w h
    rw [mL_s, if_neg (by rw [h i (by omega) (by omega)]; decide), ih (i + 1) w (fun q h1 h2 => h q (by omega) (by omega))]
theorem mL_F (P : Nat → Bool) : ∀ (m i : Nat), (∀ a b, i ≤ a → a < b → b < i + m → P a = true → P b = false) → mL P i m (-1) = mF P i m := by
  intro m
  induction m with
  | zero => intro i _; rfl
  | succ m ih =>
    intro i h
    rw [mL_s, mF_s]
    by_cases hp : P i = true
    · rw [if_pos hp, if_pos hp]
      exact mL_no P m (i + 1) i (fun q h1 h2 => h i q (by omega) (by omega) (by omega) hp)
    · rw [if_neg hp, if_neg hp]
      exact ih (i + 1) (fun a b h1 h2 h3 => h a b (by omega) h2 (by omega))
section WHO
variable {N Q : Nat} {σ τ : cb_St} {n ml : Nat} {pk : Nat → Nat} {hd : Nat → Int}
theorem m_whoIs_4 (hT : rlT N Q σ τ) (hP : rlP N Q σ 13 (τ.1 3) n ml pk hd) (c : Nat) (hc : c < 12) :
    ∀ (m i fu : Nat) (w : Int), i + m = Q → m < fu → f_X8_whoIs_4 (zI c) τ fu (zI w) (zI i) = some (zI (mL (fun j => hd j == c) i m w)) := by
  have hQ : Q ≤ 6 := hT.2.1
  have hN : N ≤ 12 := hT.1
  have h5 : τ.1 0 7 = zI Q := hT.2.2.2.2.2.1
  obtain ⟨-, -, -, -, -, -, -, -, hh, -⟩ := hP
  intro m
  induction m with
  | zero =>
    intro i fu w e hf
    obtain ⟨fu, rfl⟩ : ∃ g, fu = g + 1 := ⟨fu - 1, by omega⟩
    rw [f_X8_whoIs_4, h5]; simp (disch := omega) only [zI_lit, zI_neg, zI_add, zI_sub, zI_mul, zI_lt, zI_le, zI_inj, zI_ck, zI_clamp, ← Int.natCast_add, la_1, al_1, la_2, al_2, la_3, al_3, la_4, al_4, la_5, al_5, la_6, al_6, la_7, al_7, la_8, al_8, la_9, al_9, la_10, al_10, la_11, al_11, la_12, al_12, la_13, al_13, la_16, al_16, la_19, al_19, la_20, al_20, la_24, al_24, la_25, al_25, la_26, al_26, la_27, al_27, la_51, al_51, la_52, al_52, la_0, Int.toNat_natCast, bp_s, let_s, bi_s, bv_s, b1_f]
    rw [if_pos (by omega)]; rfl
  | succ m ih =>
    intro i fu w e hf
    obtain ⟨fu, rfl⟩ : ∃ g, fu = g + 1 := ⟨fu - 1, by omega⟩
    obtain ⟨-, a1, a2, a3⟩ := hh i (by omega)
    rw [f_X8_whoIs_4, mL_s, h5]
    unfold f_X8_whoIs_30
    simp (disch := omega) only [a1, zI_lit, zI_neg, zI_add, zI_sub, zI_mul, zI_lt, zI_le, zI_inj, zI_ck, zI_clamp, ← Int.natCast_add, la_1, al_1, la_2, al_2, la_3, al_3, la_4, al_4, la_5, al_5, la_6, al_6, la_7, al_7, la_8, al_8, la_9, al_9, la_10, al_10, la_11, al_11, la_12, al_12, la_13, al_13, la_16, al_16, la_19, al_19, la_20, al_20, la_24, al_24, la_25, al_25, la_26, al_26, la_27, al_27, la_51, al_51, la_52, al_52, la_0, Int.toNat_natCast, bp_s, let_s, bi_s, bv_s, b1_f]
    rw [if_neg (by omega), ih (i + 1) fu i (by omega) (by omega), ih (i + 1) fu w (by omega) (by omega)]
    by_cases h : hd i = c
    · rw [if_pos (by omega), if_pos (by simpa using h)]
    · rw [if_neg (by omega), if_neg (by simpa using h)]
theorem m_whoIs (hT : rlT N Q σ τ) (hP : rlP N Q σ 13 (τ.1 3) n ml pk hd) (c : Nat) (hc : c < 12) : f_X8_whoIs (zI c) τ = some (zI (mF (fun j => hd j == c) 0 6)) := by
  have hQ : Q ≤ 6 := hT.2.1
  unfold f_X8_whoIs; rw [zI_m1]
  have h := m_whoIs_4 hT hP c hc Q 0 cb_fu (-1) (by omega) (by unfold cb_fu; omega)
  rw [mL_F] at h
  · have e : mF (fun j => hd j == c) 0 6 = mF (fun j => hd j == c) 0 Q := by
      have e6 : (6 : Nat) = Q + (6 - Q) := by omega
      rw [e6]
      apply mF_ext
      intro q h1 h2
      have := hP.2.2.2.2.2.2.2.2.2.1 q (by omega) (by omega)
      simp [this]
    rw [e]; exact h
  · intro a b h1 h2 h3 h4
    have hd1 := hP.2.2.2.2.2.2.2.2.2.2.2.2.2.1 a b h2 (by omega)
    simp only [beq_iff_eq] at h4
    have := hd1 (by omega)
    simp; omega
theorem c_holderOf (hN : N ≤ 12) (hP : rlP N Q σ 13 (τ.1 3) n ml pk hd) (c : Nat) (hc : c < 12) : f_X4_holderOf 13 (zI c) σ = some (zI (mF (fun j => hd j == c) 0 6)) := by
  obtain ⟨-, -, -, -, -, -, -, -, hh, -⟩ := hP
  exact s_holderOf 13 σ (fun p hp => (hh p hp).1) (fun p hp => by have := (hh p hp).2.2; omega) c hc
theorem c_holders (hN : N ≤ 12) (hP : rlP N Q σ 13 (τ.1 3) n ml pk hd) : f_X4_holders 13 σ = some (mS (fun j => decide (0 ≤ hd j)) 0 6 (zI 0)) := by
  obtain ⟨-, -, -, -, -, -, -, -, hh, -⟩ := hP
  exact s_holders 13 σ (fun p hp => (hh p hp).1) (fun p hp => by have := (hh p hp).2.2; omega)
theorem m_whoAre_4 (hT : rlT N Q σ τ) (hP : rlP N Q σ 13 (τ.1 3) n ml pk hd) :
    ∀ (m i fu : Nat) (x : Int32), i + m = Q → m < fu → f_X8_whoAreCards_4 τ fu x (zI i) = some (mS (fun j => decide (0 ≤ hd j)) i m x) := by
  have hQ : Q ≤ 6 := hT.2.1
  have hN : N ≤ 12 := hT.1
  have h5 : τ.1 0 7 = zI Q := hT.2.2.2.2.2.1
  obtain ⟨-, -, -, -, -, -, -, -, hh, -⟩ := hP
  intro m
  induction m with
  | zero =>
    intro i fu x e hf
    obtain ⟨fu, rfl⟩ : ∃ g, fu = g + 1 := ⟨fu - 1, by omega⟩
    rw [f_X8_whoAreCards_4, h5]; simp (disch := omega) only [zI_lit, zI_neg, zI_add, zI_sub, zI_mul, zI_lt, zI_le, zI_inj, zI_ck, zI_clamp, ← Int.natCast_add, la_1, al_1, la_2, al_2, la_3, al_3, la_4, al_4, la_5, al_5, la_6, al_6, la_7, al_7, la_8, al_8, la_9, al_9, la_10, al_10, la_11, al_11, la_12, al_12, la_13, al_13, la_16, al_16, la_19, al_19, la_20, al_20, la_24, al_24, la_25, al_25, la_26, al_26, la_27, al_27, la_51, al_51, la_52, al_52, la_0, Int.toNat_natCast, bp_s, let_s, bi_s, bv_s, b1_f]
    rw [if_pos (by omega)]; rfl
  | succ m ih =>
    intro i fu x e hf
    obtain ⟨fu, rfl⟩ : ∃ g, fu = g + 1 := ⟨fu - 1, by omega⟩
    obtain ⟨-, a1, a2, a3⟩ := hh i (by omega)
    have i1 := ih (i + 1) fu x (by omega) (by omega)
    have i2 := ih (i + 1) fu (x ||| b1 i) (by omega) (by omega)
    rw [f_X8_whoAreCards_4, mS_s, h5]
    unfold f_X8_whoAreCards_32
    simp (disch := omega) only [a1, zI_lit, zI_neg, zI_add, zI_sub, zI_mul, zI_lt, zI_le, zI_inj, zI_ck, zI_clamp, ← Int.natCast_add, la_1, al_1, la_2, al_2, la_3, al_3, la_4, al_4, la_5, al_5, la_6, al_6, la_7, al_7, la_8, al_8, la_9, al_9, la_10, al_10, la_11, al_11, la_12, al_12, la_13, al_13, la_16, al_16, la_19, al_19, la_20, al_20, la_24, al_24, la_25, al_25, la_26, al_26, la_27, al_27, la_51, al_51, la_52, al_52, la_0, Int.toNat_natCast, bp_s, let_s, bi_s, bv_s, b1_f]
    rw [if_neg (by omega)]
    by_cases h : 0 ≤ hd i
    · rw [if_neg (by omega), i2, if_pos (by simpa using h)]
    · rw [if_pos (by omega), if_neg (by simpa using h)]
      rw [show x ||| zI 0 = x from Int32.or_zero]; exact i1
theorem m_whoAre (hT : rlT N Q σ τ) (hP : rlP N Q σ 13 (τ.1 3) n ml pk hd) : f_X8_whoAreCards τ = some (mS (fun j => decide (0 ≤ hd j)) 0 6 (zI 0)) := by
  have hQ : Q ≤ 6 := hT.2.1
  have h := m_whoAre_4 hT hP Q 0 cb_fu (zI 0) (by omega) (by unfold cb_fu; omega)
  have e : mS (fun j => decide (0 ≤ hd j)) 0 6 (zI 0) = mS (fun j => decide (0 ≤ hd j)) 0 Q (zI 0) := by
    have e6 : (6 : Nat) = Q + (6 - Q) := by omega
    rw [e6]
    apply mS_ext
    intro q h1 h2
    have := hP.2.2.2.2.2.2.2.2.2.1 q (by omega) (by omega)
    simp [this]
  rw [e]; exact h
end WHO
