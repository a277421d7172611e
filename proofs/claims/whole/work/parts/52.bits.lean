/-! ===== bits of a number (after the kit's laws on bits) ===== -/
def bt (x : Int32) (i : Nat) : Bool := x.toBitVec.getLsbD i
theorem b_ext {x y : Int32} (h : ∀ i, i < 32 → bt x i = bt y i) : x = y := Int32.toBitVec_inj.mp (BitVec.eq_of_getLsbD_eq (fun i hi => h i hi))
theorem b_or (x y : Int32) (i : Nat) : bt (x ||| y) i = (bt x i || bt y i) := by unfold bt; rw [Int32.toBitVec_or, BitVec.getLsbD_or]
theorem b_and (x y : Int32) (i : Nat) : bt (x &&& y) i = (bt x i && bt y i) := by unfold bt; rw [Int32.toBitVec_and, BitVec.getLsbD_and]
theorem b_xor (x y : Int32) (i : Nat) : bt (x ^^^ y) i = (bt x i ^^ bt y i) := by unfold bt; rw [Int32.toBitVec_xor, BitVec.getLsbD_xor]
theorem b_0 (i : Nat) : bt 0 i = false := BitVec.getLsbD_zero
theorem s_l : ∀ n, n < 32 → ((nI n &&& 31).toBitVec.smod 32).toNat = n := by decide +kernel
theorem b_shl (n : Nat) (hn : n < 32) (x : Int32) {i : Nat} (hi : i < 32) : bt (x <<< (nI n &&& 31)) i = (decide (n ≤ i) && bt x (i - n)) := by
  unfold bt
  rw [Int32.toBitVec_shiftLeft, BitVec.shiftLeft_eq', s_l n hn, BitVec.getLsbD_shiftLeft]
  have e : decide (i < 32) = true := decide_eq_true hi
  by_cases h : n ≤ i <;> simp [h, e]
theorem b_sshr (n : Nat) (hn : n < 32) (x : Int32) {i : Nat} (hi : i < 32) : bt (x >>> (nI n &&& 31)) i = if n + i < 32 then bt x (n + i) else bt x 31 := by
  unfold bt
  rw [Int32.toBitVec_shiftRight, BitVec.sshiftRight_eq', s_l n hn, BitVec.getLsbD_sshiftRight]
  have e : decide (32 ≤ i) = false := decide_eq_false (by omega)
  rw [e]
  simp [BitVec.msb_eq_getLsbD_last]
theorem b_1 : ∀ i, i < 32 → bt 1 i = decide (i = 0) := by decide +kernel
theorem b_m1 : ∀ i, i < 32 → bt (-1) i = true := by decide +kernel
/-- the bit of a place, as the code asks for it -/
theorem bit1 (x : Int32) (k : Nat) (hk : k < 32) : (x >>> (zI k &&& 31)) &&& 1 = if bt x k then 1 else 0 := by
  apply b_ext
  intro i hi
  rw [b_and, zI_nat, b_sshr k hk x hi, b_1 i hi]
  by_cases h : i = 0
  · subst h
    cases hb : bt x k <;> simp [hk, hb, b_0, b_1]
  · cases hb : bt x k <;> simp [h, b_0, b_1 i hi]
theorem bt_shl1 (k j : Nat) (hk : k < 32) (hj : j < 32) : bt ((1 : Int32) <<< (zI k &&& 31)) j = decide (j = k) := by
  rw [zI_nat, b_shl k hk 1 hj, b_1 (j - k) (by omega)]
  by_cases h : k ≤ j
  · simp only [h, decide_true, Bool.true_and, decide_eq_decide]; omega
  · simp only [h, decide_false, Bool.false_and]
    symm; exact decide_eq_false (by omega)
/-- the set of one place -/
def b1 (k : Nat) : Int32 := (1 : Int32) <<< (zI k &&& 31)
theorem b1_f (k : Nat) : zI 1 <<< (zI (k : Int) &&& zI 31) = b1 k := rfl
theorem bit1n (x : Int32) (k : Nat) (hk : k < 32) : (x >>> (zI (k : Int) &&& zI 31)) &&& zI 1 = if bt x k then zI 1 else zI 0 := bit1 x k hk
theorem bt_b1 (k j : Nat) (hk : k < 32) (hj : j < 32) : bt (b1 k) j = decide (j = k) := bt_shl1 k j hk hj
theorem bt_or1 (x : Int32) (k j : Nat) (hk : k < 32) (hj : j < 32) : bt (x ||| ((1 : Int32) <<< (zI k &&& 31))) j = (bt x j || decide (j = k)) := by
  rw [b_or, bt_shl1 k j hk hj]
theorem bt_clr (x : Int32) (k j : Nat) (hk : k < 32) (hj : j < 32) : bt (x &&& (((1 : Int32) <<< (zI k &&& 31)) ^^^ (-1))) j = (bt x j && !decide (j = k)) := by
  rw [b_and, b_xor, bt_shl1 k j hk hj, b_m1 j hj, Bool.xor_true]
/-- the first of m places from i on that has a property, or -1 -/
def mF (P : Nat → Bool) (i : Nat) : Nat → Int
  | 0 => -1
  | m + 1 => if P i then (i : Int) else mF P (i + 1) m
theorem mF_rng (P : Nat → Bool) : ∀ (m i : Nat), mF P i m = -1 ∨ ((i : Int) ≤ mF P i m ∧ mF P i m < i + m) := by
  intro m
  induction m with
  | zero => intro i; left; rfl
  | succ m ih =>
    intro i
    unfold mF
    by_cases h : P i
    · right; rw [if_pos h]; omega
    · rw [if_neg h]
      rcases ih (i + 1) with e | e
      · left; exact e
      · right; omega
theorem mF_hit (P : Nat → Bool) : ∀ (m i : Nat), mF P i m = -1 ∨ ∃ j : Nat, mF P i m = j ∧ i ≤ j ∧ j < i + m ∧ P j = true ∧ ∀ q, i ≤ q → q < j → P q = false := by
  intro m
  induction m with
  | zero => intro i; left; rfl
  | succ m ih =>
    intro i
    unfold mF
    by_cases h : P i
    · right; rw [if_pos h]; exact ⟨i, rfl, by omega, by omega, h, fun q h1 h2 => absurd h2 (by omega)⟩
    · rw [if_neg h]
      rcases ih (i + 1) with e | ⟨j, e, h1, h2, h3, h4⟩
      · left; exact e
      · right; refine ⟨j, e, by omega, by omega, h3, fun q g1 g2 => ?_⟩
        by_cases hq : q = i
        · subst hq; simpa using h
        · exact h4 q (by omega) g2
theorem mF_none (P : Nat → Bool) : ∀ (m i : Nat), mF P i m = -1 → ∀ q, i ≤ q → q < i + m → P q = false := by
  intro m
  induction m with
  | zero => intro i _ q h1 h2; exact absurd h2 (by omega)
  | succ m ih =>
    intro i e q h1 h2
    unfold mF at e
    by_cases h : P i
    · rw [if_pos h] at e; exact absurd e (by omega)
    · rw [if_neg h] at e
      by_cases hq : q = i
      · subst hq; simpa using h
      · exact ih (i + 1) e q (by omega) (by omega)
theorem mF_congr {P R : Nat → Bool} : ∀ (m i : Nat), (∀ q, i ≤ q → q < i + m → P q = R q) → mF P i m = mF R i m := by
  intro m
  induction m with
  | zero => intro i _; rfl
  | succ m ih =>
    intro i h
    unfold mF
    rw [h i (by omega) (by omega), ih (i + 1) (fun q h1 h2 => h q (by omega) (by omega))]
/-- a set of places, or'ed up -/
def mS (P : Nat → Bool) (i : Nat) : Nat → Int32 → Int32
  | 0, x => x
  | m + 1, x => mS P (i + 1) m (if P i then x ||| b1 i else x)
theorem mS_s (P : Nat → Bool) (i m : Nat) (x : Int32) : mS P i (m + 1) x = mS P (i + 1) m (if P i then x ||| b1 i else x) := rfl
theorem mF_s (P : Nat → Bool) (i m : Nat) : mF P i (m + 1) = if P i then (i : Int) else mF P (i + 1) m := rfl
theorem mS_congr {P R : Nat → Bool} : ∀ (m i : Nat) (x : Int32), (∀ q, i ≤ q → q < i + m → P q = R q) → mS P i m x = mS R i m x := by
  intro m
  induction m with
  | zero => intro i x _; rfl
  | succ m ih =>
    intro i x h
    unfold mS
    rw [h i (by omega) (by omega), ih (i + 1) _ (fun q h1 h2 => h q (by omega) (by omega))]
theorem mS_bt (P : Nat → Bool) : ∀ (m i : Nat) (x : Int32), i + m ≤ 32 → ∀ j, j < 32 → bt (mS P i m x) j = (bt x j || (decide (i ≤ j) && decide (j < i + m) && P j)) := by
  intro m
  induction m with
  | zero =>
    intro i x h j hj
    unfold mS
    by_cases h1 : i ≤ j <;> by_cases h2 : j < i + 0 <;> simp [h1, h2] <;> omega
  | succ m ih =>
    intro i x h j hj
    unfold mS
    rw [ih (i + 1) _ (by omega) j hj]
    by_cases hp : P i
    · rw [if_pos hp, b1, bt_or1 x i j (by omega) hj]
      by_cases e : j = i
      · subst e; simp [hp]
      · have e1 : decide (i + 1 ≤ j) = decide (i ≤ j) := by rw [decide_eq_decide]; omega
        have e2 : decide (j < i + 1 + m) = decide (j < i + (m + 1)) := by rw [decide_eq_decide]; omega
        simp [e, e1, e2]
    · rw [if_neg hp]
      by_cases e : j = i
      · subst e; simp [hp]
      · have e1 : decide (i + 1 ≤ j) = decide (i ≤ j) := by rw [decide_eq_decide]; omega
        have e2 : decide (j < i + 1 + m) = decide (j < i + (m + 1)) := by rw [decide_eq_decide]; omega
        simp [e1, e2]
