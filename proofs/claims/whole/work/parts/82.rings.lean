/-! ===== rings ===== -/
def mRg (P : Nat → Bool) (x : Int32) (i : Nat) : Nat → Int32 → Int32
  | 0, a => if x = -1 then a else -1
  | m + 1, a => if P i then (if a = x then zI ((100 * (i / 36) + 10 * (i / 6 % 6) + i % 6 : Nat) : Int) else mRg P x (i + 1) m (a + 1)) else mRg P x (i + 1) m a
theorem mRg_s (P : Nat → Bool) (x : Int32) (i m : Nat) (a : Int32) : mRg P x i (m + 1) a = if P i then (if a = x then zI ((100 * (i / 36) + 10 * (i / 6 % 6) + i % 6 : Nat) : Int) else mRg P x (i + 1) m (a + 1)) else mRg P x (i + 1) m a := rfl
theorem mRg_skip (P : Nat → Bool) (x a : Int32) : ∀ (k i : Nat), i + k ≤ 216 → (∀ q, i ≤ q → q < i + k → P q = false) → mRg P x i (216 - i) a = mRg P x (i + k) (216 - (i + k)) a := by
  intro k
  induction k with
  | zero => intro i _ _; rfl
  | succ k ih =>
    intro i h1 h2
    have e : 216 - i = (216 - (i + 1)) + 1 := by omega
    rw [e, mRg_s, h2 i (by omega) (by omega), if_neg Bool.false_ne_true, ih (i + 1) (by omega) (fun q g1 g2 => h2 q (by omega) (by omega))]
    have e2 : i + 1 + k = i + (k + 1) := by omega
    rw [e2]
section RG
variable {N Q : Nat} {σ σ' τ τ' : cb_St} {n ml : Nat} {pk : Nat → Nat} {hd : Nat → Int}
def w3 (τ : cb_St) (hd : Nat → Int) (a b : Nat) : Bool := decide (mT τ (hd a) (hd b) = zI 0)
def rgP (τ : cb_St) (hd : Nat → Int) (Q q : Nat) : Bool := decide (q / 36 < Q ∧ q / 6 % 6 < Q ∧ q % 6 < Q ∧ q / 36 < q / 6 % 6 ∧ q / 36 < q % 6 ∧ ¬ q / 6 % 6 = q % 6) && (w3 τ hd (q / 36) (q / 6 % 6) && (w3 τ hd (q / 6 % 6) (q % 6) && w3 τ hd (q % 6) (q / 36)))
theorem rgP_n (τ : cb_St) (hd : Nat → Int) (Q q : Nat) (h : ¬ (q / 36 < Q ∧ q / 6 % 6 < Q ∧ q % 6 < Q ∧ q / 36 < q / 6 % 6 ∧ q / 36 < q % 6 ∧ ¬ q / 6 % 6 = q % 6)) : rgP τ hd Q q = false := by
  unfold rgP; rw [decide_eq_false h, Bool.false_and]
theorem cd_36 : ∀ q : Nat, q < 216 → zI q / 36 = zI ((q / 36 : Nat) : Int) ∧ (zI q / 6) - (zI q / 6) / 6 * 6 = zI ((q / 6 % 6 : Nat) : Int) ∧ zI q - zI q / 6 * 6 = zI ((q % 6 : Nat) : Int) := by decide +kernel
theorem m_isRing (hT : rlT N Q σ τ) (hP : rlP N Q σ 13 (τ.1 3) n ml pk hd) (q : Nat) (hq : q < 216) : f_X8_isRing (zI ((q / 36 : Nat) : Int)) (zI ((q / 6 % 6 : Nat) : Int)) (zI ((q % 6 : Nat) : Int)) τ = some (if rgP τ hd Q q then zI 1 else zI 0) := by
  have hQ := hT.2.1
  have ha : q / 36 < 6 := by omega
  have hb : q / 6 % 6 < 6 := by omega
  have hc : q % 6 < 6 := by omega
  have h7 := hT.2.2.2.2.2.1
  unfold f_X8_isRing f_X8_isRing_43 f_X8_isRing_44 f_X8_isRing_91
  unfold rgP w3
  generalize q / 36 = a at *
  generalize q / 6 % 6 = b at *
  generalize q % 6 = c at *
  rw [m_beatenBy hT hP a ha, m_beatenBy hT hP b hb, m_beatenBy hT hP c hc, h7]
  have le_z : ∀ u v : Nat, u < 7 → v < 7 → (zI (u : Int) ≤ zI (v : Int)) = (u ≤ v) := fun u v h1 h2 => by
    rw [zI_le (by omega) (by omega) (by omega) (by omega)]; exact propext ⟨fun h => by omega, fun h => by omega⟩
  have eq_z : (zI (b : Int) = zI (c : Int)) = (b = c) := by
    rw [zI_inj (by omega) (by omega) (by omega) (by omega)]; exact propext ⟨fun h => by omega, fun h => by omega⟩
  simp only [bp_s, m_has _ a (by omega), m_has _ b (by omega), m_has _ c (by omega)]
  simp only [le_z Q a (by omega) (by omega), le_z Q b (by omega) (by omega), le_z Q c (by omega) (by omega), le_z b a (by omega) (by omega), le_z c a (by omega) (by omega), eq_z]
  simp only [if_true, if_neg (show ¬ (1 : Int32) = 0 from by decide)]
  by_cases g : a < Q ∧ b < Q ∧ c < Q ∧ a < b ∧ a < c ∧ ¬ b = c
  · rw [if_neg (by omega), if_neg (by omega), if_neg (by omega), if_neg (by omega), if_neg (by omega), if_neg g.2.2.2.2.2, decide_eq_true g, Bool.true_and]
    rw [bt_mS0 _ Q b (by omega) g.2.1, bt_mS0 _ Q c (by omega) g.2.2.1, bt_mS0 _ Q a (by omega) g.1]
    by_cases h1 : mT τ (hd a) (hd b) = zI 0
    · rw [decide_eq_true h1, if_pos rfl, if_neg z10, Bool.true_and]
      by_cases h2 : mT τ (hd b) (hd c) = zI 0
      · rw [decide_eq_true h2, if_pos rfl, if_neg z10, Bool.true_and]
        by_cases h3 : mT τ (hd c) (hd a) = zI 0
        · rw [decide_eq_true h3, if_pos rfl, if_neg z10]; rfl
        · rw [decide_eq_false h3, if_neg Bool.false_ne_true, if_pos z00]; rfl
      · rw [decide_eq_false h2, if_neg Bool.false_ne_true, if_pos z00]; rfl
    · rw [decide_eq_false h1, if_neg Bool.false_ne_true, if_pos z00]; rfl
  · rw [decide_eq_false g, Bool.false_and, if_neg Bool.false_ne_true]
    by_cases g1 : Q ≤ a
    · rw [if_pos g1]; rfl
    · rw [if_neg g1]
      by_cases g2 : Q ≤ b
      · rw [if_pos g2]; rfl
      · rw [if_neg g2]
        by_cases g3 : Q ≤ c
        · rw [if_pos g3]; rfl
        · rw [if_neg g3]
          by_cases g4 : b ≤ a
          · rw [if_pos g4]; rfl
          · rw [if_neg g4]
            by_cases g5 : c ≤ a
            · rw [if_pos g5]; rfl
            · rw [if_neg g5, if_pos (by omega)]; rfl
theorem m_rings_4 (hT : rlT N Q σ τ) (hP : rlP N Q σ 13 (τ.1 3) n ml pk hd) (x : Int32) : ∀ (m i fu : Nat) (a : Int32), i + m = 216 → m < fu → f_X8_rings_4 x τ fu a (zI i) = some (mRg (rgP τ hd Q) x i m a) := by
  intro m
  induction m with
  | zero =>
    intro i fu a e hf
    obtain ⟨fu, rfl⟩ : ∃ g, fu = g + 1 := ⟨fu - 1, by omega⟩
    rw [f_X8_rings_4, if_pos (by rw [show (216 : Int32) = zI 216 from rfl, zI_le (by omega) (by omega) (by omega) (by omega)]; omega)]
    show _ = some (if x = -1 then a else -1)
    split <;> rfl
  | succ m ih =>
    intro i fu a e hf
    obtain ⟨fu, rfl⟩ : ∃ g, fu = g + 1 := ⟨fu - 1, by omega⟩
    have e1 : zI (i : Int) + 1 = zI ((i + 1 : Nat) : Int) := by rw [show (1 : Int32) = zI 1 from rfl, zI_add, al_1]
    obtain ⟨c1, c2, c3⟩ := cd_36 i (by omega)
    rw [f_X8_rings_4, if_neg (by rw [show (216 : Int32) = zI 216 from rfl, zI_le (by omega) (by omega) (by omega) (by omega)]; omega), let_s, let_s, let_s, c2, c1, c3, m_isRing hT hP i (by omega), bp_s, mRg_s]
    unfold f_X8_rings_68
    rw [let_s, let_s, let_s, e1, ih (i + 1) fu a (by omega) (by omega), ih (i + 1) fu (a + 1) (by omega) (by omega)]
    by_cases h : rgP τ hd Q i = true
    · rw [if_pos h, if_neg z10, if_pos h]
      by_cases g : a = x
      · rw [if_pos g, if_pos g, show (100 : Int32) = zI ((100 : Nat) : Int) from rfl, show (10 : Int32) = zI ((10 : Nat) : Int) from rfl, zI_mul, zI_mul, zI_add, zI_add, ← Int.natCast_mul, ← Int.natCast_mul, ← Int.natCast_add, ← Int.natCast_add]
      · rw [if_neg g, if_neg g]
    · rw [if_neg h, if_pos z00, if_neg h]
theorem s_isRing (hT : rlT N Q σ τ) (hP : rlP N Q σ 13 (τ.1 3) n ml pk hd) (a b c : Nat) (ha : a < b) (hb : b < Q) (hc : a < c) (hc2 : c < Q) : f_X7_isRing (zI a) (zI b) (zI c) σ = some (if rgP τ hd Q (36 * a + 6 * b + c) then zI 1 else zI 0) := by
  have hQ := hT.2.1
  have d1 : (36 * a + 6 * b + c) / 36 = a := by omega
  have d2 : (36 * a + 6 * b + c) / 6 = 6 * a + b := by omega
  have d3 : (36 * a + 6 * b + c) % 6 = c := by omega
  have d4 : (6 * a + b) % 6 = b := by omega
  unfold rgP w3
  rw [d1, d2, d3, d4]
  unfold f_X7_isRing f_X7_isRing_31
  rw [s_winsOver hT hP a b (by omega) (by omega), s_winsOver hT hP b c (by omega) (by omega), s_winsOver hT hP c a (by omega) (by omega), bp_s, bp_s, bp_s]
  by_cases g : b = c
  · subst g
    rw [mT_rf, if_neg zI_ne20, if_pos z00]
    rw [decide_eq_false (by omega), Bool.false_and, if_neg Bool.false_ne_true]
    exact ite_self _
  · rw [decide_eq_true (by omega), Bool.true_and]
    by_cases h1 : mT τ (hd a) (hd b) = zI 0
    · rw [decide_eq_true h1, if_pos h1, if_neg z10, Bool.true_and]
      by_cases h2 : mT τ (hd b) (hd c) = zI 0
      · rw [decide_eq_true h2, if_pos h2, if_neg z10, Bool.true_and]
        by_cases h3 : mT τ (hd c) (hd a) = zI 0
        · rw [decide_eq_true h3, if_pos h3, if_neg z10]; rfl
        · rw [decide_eq_false h3, if_neg h3, if_pos z00]; rfl
      · rw [decide_eq_false h2, if_neg h2, if_pos z00]; rfl
    · rw [decide_eq_false h1, if_neg h1, if_pos z00]; rfl
theorem s_rings_37 (hT : rlT N Q σ τ) (hP : rlP N Q σ 13 (τ.1 3) n ml pk hd) (x : Int32) (a b : Nat) (hab : a < b) (hb : b < Q) (K4 : Int32 → Int32 → Option Int32) (K20 : Int32 → Int32 → Int32 → Option Int32) (hK : ∀ y, K20 y (zI a) (zI ((b + 1 : Nat) : Int)) = some (mRg (rgP τ hd Q) x (36 * a + 6 * (b + 1)) (216 - (36 * a + 6 * (b + 1))) y)) : ∀ (m c fu : Nat) (y : Int32), a < c → c + m = Q → m < fu → f_X7_rings_37 K4 K20 x σ fu y (zI a) (zI b) (zI c) = some (mRg (rgP τ hd Q) x (36 * a + 6 * b + c) (216 - (36 * a + 6 * b + c)) y) := by
  have hQ := hT.2.1
  have h5 := hT.2.2.2.2.1
  have e1 : ∀ j : Nat, zI (j : Int) + 1 = zI ((j + 1 : Nat) : Int) := fun j => by rw [show (1 : Int32) = zI 1 from rfl, zI_add, al_1]
  intro m
  induction m with
  | zero =>
    intro c fu y hc e hf
    obtain ⟨fu, rfl⟩ : ∃ g, fu = g + 1 := ⟨fu - 1, by omega⟩
    rw [f_X7_rings_37, h5, if_pos (by rw [zI_le (by omega) (by omega) (by omega) (by omega)]; omega), let_s, e1, hK]
    have hs := mRg_skip (rgP τ hd Q) x y (6 - c) (36 * a + 6 * b + c) (by omega) (fun q g1 g2 => rgP_n _ _ _ _ (by omega))
    have e2 : 36 * a + 6 * b + c + (6 - c) = 36 * a + 6 * (b + 1) := by omega
    rw [e2] at hs
    rw [hs]
  | succ m ih =>
    intro c fu y hc e hf
    obtain ⟨fu, rfl⟩ : ∃ g, fu = g + 1 := ⟨fu - 1, by omega⟩
    have e2 : 216 - (36 * a + 6 * b + c) = (216 - (36 * a + 6 * b + (c + 1))) + 1 := by omega
    rw [f_X7_rings_37, h5, if_neg (by rw [zI_le (by omega) (by omega) (by omega) (by omega)]; omega), s_isRing hT hP a b c hab hb hc (by omega), bp_s, e2, mRg_s]
    unfold f_X7_rings_83
    rw [let_s, let_s, let_s, e1, ih (c + 1) fu y (by omega) (by omega) (by omega), ih (c + 1) fu (y + 1) (by omega) (by omega) (by omega)]
    have e3 : 36 * a + 6 * b + (c + 1) = 36 * a + 6 * b + c + 1 := by omega
    rw [e3]
    by_cases h : rgP τ hd Q (36 * a + 6 * b + c) = true
    · rw [if_pos h, if_neg z10, if_pos h]
      by_cases g : y = x
      · have d1 : (36 * a + 6 * b + c) / 36 = a := by omega
        have d2 : (36 * a + 6 * b + c) / 6 = 6 * a + b := by omega
        have d3 : (36 * a + 6 * b + c) % 6 = c := by omega
        have d4 : (6 * a + b) % 6 = b := by omega
        rw [if_pos g, if_pos g, d1, d2, d3, d4, show (100 : Int32) = zI ((100 : Nat) : Int) from rfl, show (10 : Int32) = zI ((10 : Nat) : Int) from rfl, zI_mul, zI_mul, zI_add, zI_add, ← Int.natCast_mul, ← Int.natCast_mul, ← Int.natCast_add, ← Int.natCast_add]
      · rw [if_neg g, if_neg g]
    · rw [if_neg h, if_pos z00, if_neg h]
theorem s_rings_20 (hT : rlT N Q σ τ) (hP : rlP N Q σ 13 (τ.1 3) n ml pk hd) (x : Int32) (a : Nat) (ha : a < Q) (K4 : Int32 → Int32 → Option Int32) (hK : ∀ y, K4 y (zI ((a + 1 : Nat) : Int)) = some (mRg (rgP τ hd Q) x (36 * (a + 1)) (216 - (36 * (a + 1))) y)) : ∀ (m b fu : Nat) (y : Int32), a < b → b + m = Q → m < fu → f_X7_rings_20 K4 x σ fu y (zI a) (zI b) = some (mRg (rgP τ hd Q) x (36 * a + 6 * b) (216 - (36 * a + 6 * b)) y) := by
  have hQ := hT.2.1
  have h5 := hT.2.2.2.2.1
  have e1 : ∀ j : Nat, zI (j : Int) + 1 = zI ((j + 1 : Nat) : Int) := fun j => by rw [show (1 : Int32) = zI 1 from rfl, zI_add, al_1]
  intro m
  induction m with
  | zero =>
    intro b fu y hb e hf
    obtain ⟨fu, rfl⟩ : ∃ g, fu = g + 1 := ⟨fu - 1, by omega⟩
    rw [f_X7_rings_20, h5, if_pos (by rw [zI_le (by omega) (by omega) (by omega) (by omega)]; omega), let_s, e1, hK]
    have hs := mRg_skip (rgP τ hd Q) x y (36 - 6 * b) (36 * a + 6 * b) (by omega) (fun q g1 g2 => rgP_n _ _ _ _ (by omega))
    have e2 : 36 * a + 6 * b + (36 - 6 * b) = 36 * (a + 1) := by omega
    rw [e2] at hs
    rw [hs]
  | succ m ih =>
    intro b fu y hb e hf
    obtain ⟨fu, rfl⟩ : ∃ g, fu = g + 1 := ⟨fu - 1, by omega⟩
    rw [f_X7_rings_20, h5, if_neg (by rw [zI_le (by omega) (by omega) (by omega) (by omega)]; omega), let_s, e1]
    rw [s_rings_37 hT hP x a b hb (by omega) K4 (f_X7_rings_20 K4 x σ fu) (fun y => ih (b + 1) fu y (by omega) (by omega) (by omega)) (Q - (a + 1)) (a + 1) cb_fu y (by omega) (by omega) (by unfold cb_fu; omega)]
    have hs := mRg_skip (rgP τ hd Q) x y (a + 1) (36 * a + 6 * b) (by omega) (fun q g1 g2 => rgP_n _ _ _ _ (by omega))
    rw [hs]
theorem s_rings_4 (hT : rlT N Q σ τ) (hP : rlP N Q σ 13 (τ.1 3) n ml pk hd) (x : Int32) : ∀ (m a fu : Nat) (y : Int32), a + m = Q → m < fu → f_X7_rings_4 x σ fu y (zI a) = some (mRg (rgP τ hd Q) x (36 * a) (216 - 36 * a) y) := by
  have hQ := hT.2.1
  have h5 := hT.2.2.2.2.1
  have e1 : ∀ j : Nat, zI (j : Int) + 1 = zI ((j + 1 : Nat) : Int) := fun j => by rw [show (1 : Int32) = zI 1 from rfl, zI_add, al_1]
  intro m
  induction m with
  | zero =>
    intro a fu y e hf
    obtain ⟨fu, rfl⟩ : ∃ g, fu = g + 1 := ⟨fu - 1, by omega⟩
    rw [f_X7_rings_4, h5, if_pos (by rw [zI_le (by omega) (by omega) (by omega) (by omega)]; omega)]
    have hs := mRg_skip (rgP τ hd Q) x y (216 - 36 * a) (36 * a) (by omega) (fun q g1 g2 => rgP_n _ _ _ _ (by omega))
    have e2 : 36 * a + (216 - 36 * a) = 216 := by omega
    rw [e2] at hs
    rw [hs]
    show _ = some (if x = -1 then y else -1)
    split <;> rfl
  | succ m ih =>
    intro a fu y e hf
    obtain ⟨fu, rfl⟩ : ∃ g, fu = g + 1 := ⟨fu - 1, by omega⟩
    rw [f_X7_rings_4, h5, if_neg (by rw [zI_le (by omega) (by omega) (by omega) (by omega)]; omega), let_s, e1]
    rw [s_rings_20 hT hP x a (by omega) (f_X7_rings_4 x σ fu) (fun y => ih (a + 1) fu y (by omega) (by omega)) (Q - (a + 1)) (a + 1) cb_fu y (by omega) (by omega) (by unfold cb_fu; omega)]
    have hs := mRg_skip (rgP τ hd Q) x y (6 * (a + 1)) (36 * a) (by omega) (fun q g1 g2 => rgP_n _ _ _ _ (by omega))
    rw [hs]
theorem q_rings (hT : rlT N Q σ τ) (hP : rlP N Q σ 13 (τ.1 3) n ml pk hd) (x : Int32) : ∃ r, f_X7_rings x σ = some r ∧ f_X8_rings x τ = some r :=
  ⟨_, s_rings_4 hT hP x Q 0 cb_fu 0 (by omega) (by have := hT.2.1; unfold cb_fu; omega), m_rings_4 hT hP x 216 0 cb_fu 0 (by omega) (by unfold cb_fu; omega)⟩
end RG
