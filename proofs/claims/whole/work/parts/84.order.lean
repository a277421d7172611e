/-! ===== in which order to draw: all orders, by their numbers ===== -/
def ui (w : Nat → Int) (p : Nat) (c : Int) : Nat → Int := fun j => if j = p then c else w j
theorem ui_e (w : Nat → Int) (p : Nat) (c : Int) : ui w p c p = c := by simp [ui]
theorem ui_n (w : Nat → Int) {p q : Nat} (c : Int) (h : q ≠ p) : ui w p c q = w q := by simp [ui, h]
def TT (Q : Nat) (pk : Nat → Nat) (P : (Nat → Int) → Bool) : Nat → Nat → (Nat → Int) → Nat → Bool
  | 0, _, w, _ => P w
  | j + 1, t, w, r => decide (r / 6 ^ j < Q) && (decide (w (r / 6 ^ j) = -1) && TT Q pk P j (t + 1) (ui w (r / 6 ^ j) (pk t)) (r % 6 ^ j))
theorem TT_s (Q : Nat) (pk : Nat → Nat) (P : (Nat → Int) → Bool) (j t : Nat) (w : Nat → Int) (r : Nat) : TT Q pk P (j + 1) t w r = (decide (r / 6 ^ j < Q) && (decide (w (r / 6 ^ j) = -1) && TT Q pk P j (t + 1) (ui w (r / 6 ^ j) (pk t)) (r % 6 ^ j))) := rfl
def FF : Nat → Nat → Nat
  | 0, _ => 0
  | j + 1, r => (r / 6 ^ j + 1) * 10 ^ j + FF j (r % 6 ^ j)
theorem FF_s (j r : Nat) : FF (j + 1) r = (r / 6 ^ j + 1) * 10 ^ j + FF j (r % 6 ^ j) := rfl
theorem TT_n {Q : Nat} {pk : Nat → Nat} {P : (Nat → Int) → Bool} : ∀ (j t : Nat) (w : Nat → Int) (r : Nat), (∀ w'' : Nat → Int, (∀ q, w q ≠ -1 → w'' q = w q) → P w'' = false) → TT Q pk P j t w r = false := by
  intro j
  induction j with
  | zero => intro t w r h; exact h w (fun _ _ => rfl)
  | succ j ih =>
    intro t w r h
    rw [TT_s]
    by_cases h1 : w (r / 6 ^ j) = -1
    · rw [ih (t + 1) _ _ (fun w'' h2 => h w'' (fun q hq => ?_)), Bool.and_false, Bool.and_false]
      have hne : q ≠ r / 6 ^ j := by intro e; rw [e] at hq; exact hq h1
      rw [← ui_n w (pk t) hne]
      exact h2 q (by rw [ui_n w _ hne]; exact hq)
    · rw [decide_eq_false h1, Bool.false_and, Bool.and_false]
theorem TT_c {Q : Nat} {pk : Nat → Nat} {P R : (Nat → Int) → Bool} : ∀ (j t : Nat) (w : Nat → Int) (r : Nat), (∀ w'' : Nat → Int, (∀ q, w q ≠ -1 → w'' q = w q) → P w'' = R w'') → TT Q pk P j t w r = TT Q pk R j t w r := by
  intro j
  induction j with
  | zero => intro t w r h; exact h w (fun _ _ => rfl)
  | succ j ih =>
    intro t w r h
    rw [TT_s, TT_s]
    by_cases h1 : w (r / 6 ^ j) = -1
    · rw [ih (t + 1) _ _ (fun w'' h2 => h w'' (fun q hq => ?_))]
      have hne : q ≠ r / 6 ^ j := by intro e; rw [e] at hq; exact hq h1
      rw [← ui_n w (pk t) hne]
      exact h2 q (by rw [ui_n w _ hne]; exact hq)
    · rw [decide_eq_false h1, Bool.false_and, Bool.false_and]
theorem TT_last (Q : Nat) (pk : Nat → Nat) (P : (Nat → Int) → Bool) : ∀ (j t : Nat) (w : Nat → Int) (r : Nat), r < 6 ^ (j + 1) → TT Q pk P (j + 1) t w r = TT Q pk (fun w' => decide (r % 6 < Q) && (decide (w' (r % 6) = -1) && P (ui w' (r % 6) (pk (t + j))))) j t w (r / 6) := by
  intro j
  induction j with
  | zero =>
    intro t w r hr
    have e : r % 6 = r := Nat.mod_eq_of_lt hr
    rw [TT_s]
    show (decide (r / 1 < Q) && (decide (w (r / 1) = -1) && P (ui w (r / 1) (pk t)))) = _
    rw [Nat.div_one]
    show _ = (decide (r % 6 < Q) && (decide (w (r % 6) = -1) && P (ui w (r % 6) (pk (t + 0)))))
    rw [e]; rfl
  | succ j ih =>
    intro t w r hr
    rw [TT_s, ih (t + 1) _ (r % 6 ^ (j + 1)) (Nat.mod_lt _ (Nat.pow_pos (by omega))), TT_s]
    have e1 : r % 6 ^ (j + 1) % 6 = r % 6 := Nat.mod_mod_of_dvd r ⟨6 ^ j, by rw [Nat.pow_succ, Nat.mul_comm]⟩
    have e2 : r % 6 ^ (j + 1) / 6 = r / 6 % 6 ^ j := by rw [show 6 ^ (j + 1) = 6 * 6 ^ j from by rw [Nat.pow_succ, Nat.mul_comm]]; exact Nat.mod_mul_right_div_self r 6 (6 ^ j)
    have e3 : r / 6 / 6 ^ j = r / 6 ^ (j + 1) := by rw [Nat.div_div_eq_div_mul, Nat.pow_succ, Nat.mul_comm]
    have e4 : t + 1 + j = t + (j + 1) := by omega
    rw [e1, e2, e3, e4]
theorem FF_lt : ∀ (j r : Nat), r < 6 ^ j → FF j r < 10 ^ j := by
  intro j
  induction j with
  | zero => intro r _; show 0 < 10 ^ 0; decide
  | succ j ih =>
    intro r hr
    have h1 := ih (r % 6 ^ j) (Nat.mod_lt _ (Nat.pow_pos (by omega)))
    have h2 : r / 6 ^ j < 6 := by
      rw [Nat.div_lt_iff_lt_mul (Nat.pow_pos (by omega)), Nat.mul_comm, ← Nat.pow_succ]; exact hr
    rw [FF_s, Nat.pow_succ]
    have h3 : (r / 6 ^ j + 1) * 10 ^ j ≤ 6 * 10 ^ j := Nat.mul_le_mul_right _ (by omega)
    omega
theorem mF_add (P : Nat → Bool) : ∀ (a i b : Nat), mF P i (a + b) = if mF P i a = -1 then mF P (i + a) b else mF P i a := by
  intro a
  induction a with
  | zero => intro i b; rw [Nat.zero_add]; rfl
  | succ a ih =>
    intro i b
    have e : a + 1 + b = a + b + 1 := by omega
    rw [e, mF_s, mF_s]
    by_cases h : P i = true
    · rw [if_pos h, if_pos h, if_neg (by omega)]
    · rw [if_neg h, if_neg h, ih (i + 1) b]
      have e2 : i + 1 + a = i + (a + 1) := by omega
      rw [e2]
theorem mF_shift {P R : Nat → Bool} (s : Nat) : ∀ (m i : Nat), (∀ x, i ≤ x → x < i + m → P (s + x) = R x) → mF P (s + i) m = if mF R i m = -1 then -1 else (s : Int) + mF R i m := by
  intro m
  induction m with
  | zero => intro i _; rfl
  | succ m ih =>
    intro i h
    rw [mF_s, mF_s, h i (by omega) (by omega)]
    by_cases g : R i = true
    · rw [if_pos g, if_pos g, if_neg (by omega)]; omega
    · rw [if_neg g, if_neg g]
      exact ih (i + 1) (fun x h1 h2 => h x (by omega) (by omega))
theorem mF_false {P : Nat → Bool} : ∀ (m i : Nat), (∀ x, i ≤ x → x < i + m → P x = false) → mF P i m = -1 := by
  intro m
  induction m with
  | zero => intro i _; rfl
  | succ m ih =>
    intro i h
    rw [mF_s, h i (by omega) (by omega), if_neg Bool.false_ne_true]
    exact ih (i + 1) (fun x h1 h2 => h x (by omega) (by omega))
theorem blk (j p x : Nat) (hx : x < 6 ^ j) : (p * 6 ^ j + x) / 6 ^ j = p ∧ (p * 6 ^ j + x) % 6 ^ j = x := by
  have hp : 0 < 6 ^ j := Nat.pow_pos (by omega)
  constructor
  · rw [Nat.mul_comm, Nat.mul_add_div hp, Nat.div_eq_of_lt hx, Nat.add_zero]
  · rw [Nat.mul_comm, Nat.mul_add_mod, Nat.mod_eq_of_lt hx]
theorem TT_blk (Q : Nat) (pk : Nat → Nat) (P : (Nat → Int) → Bool) (j t : Nat) (w : Nat → Int) (p : Nat) (hp : p < 6) : mF (TT Q pk P (j + 1) t w) (p * 6 ^ j) ((6 - p) * 6 ^ j) = if p < Q ∧ w p = -1 ∧ ¬ mF (TT Q pk P j (t + 1) (ui w p (pk t))) 0 (6 ^ j) = -1 then ((p * 6 ^ j : Nat) : Int) + mF (TT Q pk P j (t + 1) (ui w p (pk t))) 0 (6 ^ j) else mF (TT Q pk P (j + 1) t w) ((p + 1) * 6 ^ j) ((6 - (p + 1)) * 6 ^ j) := by
  have e : (6 - p) * 6 ^ j = 6 ^ j + (6 - (p + 1)) * 6 ^ j := by
    have : 6 - p = (6 - (p + 1)) + 1 := by omega
    rw [this, Nat.add_mul, Nat.one_mul, Nat.add_comm]
  have e2 : p * 6 ^ j + 6 ^ j = (p + 1) * 6 ^ j := by rw [Nat.add_mul, Nat.one_mul]
  rw [e, mF_add, e2]
  by_cases h : p < Q ∧ w p = -1
  · have hs := mF_shift (P := TT Q pk P (j + 1) t w) (R := TT Q pk P j (t + 1) (ui w p (pk t))) (p * 6 ^ j) (6 ^ j) 0 (fun x _ h2 => by
      obtain ⟨b1, b2⟩ := blk j p x (by omega)
      rw [TT_s, b1, b2, decide_eq_true h.1, decide_eq_true h.2, Bool.true_and, Bool.true_and])
    rw [show mF (TT Q pk P (j + 1) t w) (p * 6 ^ j) (6 ^ j) = _ from hs]
    by_cases g : mF (TT Q pk P j (t + 1) (ui w p (pk t))) 0 (6 ^ j) = -1
    · rw [if_pos g, if_pos rfl, if_neg (by intro q; exact q.2.2 g)]
    · have hr := mF_rng (TT Q pk P j (t + 1) (ui w p (pk t))) (6 ^ j) 0
      rw [if_neg g, if_neg (by omega), if_pos ⟨h.1, h.2, g⟩]
  · rw [mF_false (6 ^ j) (p * 6 ^ j) (fun x h1 h2 => by
      obtain ⟨b1, b2⟩ := blk j p (x - p * 6 ^ j) (by omega)
      have ex : p * 6 ^ j + (x - p * 6 ^ j) = x := by omega
      rw [ex] at b1 b2
      rw [TT_s, b1]
      by_cases g : p < Q
      · rw [decide_eq_false (fun q => h ⟨g, q⟩), Bool.false_and, Bool.and_false]
      · rw [decide_eq_false g, Bool.false_and]), if_pos rfl, if_neg (by intro q; exact h ⟨q.1, q.2.1⟩)]
theorem TT_end (Q : Nat) (pk : Nat → Nat) (P : (Nat → Int) → Bool) (j t : Nat) (w : Nat → Int) (hQ : Q ≤ 6) : mF (TT Q pk P (j + 1) t w) (Q * 6 ^ j) ((6 - Q) * 6 ^ j) = -1 := by
  apply mF_false
  intro x h1 h2
  rw [TT_s, decide_eq_false, Bool.false_and]
  have : Q ≤ x / 6 ^ j := by rw [Nat.le_div_iff_mul_le (Nat.pow_pos (by omega))]; exact h1
  omega
/-- the set S wins at the cards b -/
def wi1 (τ : cb_St) (S : Int32) (b : Nat → Int) (p q : Nat) : Bool := !(bt S p) || (bt S q || decide (mT τ (b p) (b q) = zI 0))
def win (τ : cb_St) (S : Int32) (Q : Nat) (b : Nat → Int) : Bool := mA (fun p => mA (wi1 τ S b p) 0 Q) 0 Q
theorem mA_i (P : Nat → Bool) : ∀ (m i : Nat), mA P i m = true ↔ ∀ j, i ≤ j → j < i + m → P j = true := by
  intro m
  induction m with
  | zero => intro i; constructor
            · intro _ j h1 h2; omega
            · intro _; rfl
  | succ m ih =>
    intro i
    rw [mA_s, Bool.and_eq_true, ih]
    constructor
    · rintro ⟨h, g⟩ j h1 h2
      by_cases e : j = i
      · subst e; exact h
      · exact g j (by omega) (by omega)
    · intro h
      exact ⟨h i (by omega) (by omega), fun j h1 h2 => h j (by omega) (by omega)⟩
theorem win_no {τ : cb_St} {S : Int32} {Q : Nat} {b : Nat → Int} (p q : Nat) (hp : p < Q) (hq : q < Q) (h : wi1 τ S b p q = false) : win τ S Q b = false := by
  apply Bool.eq_false_iff.mpr
  intro hw
  unfold win at hw
  rw [mA_i] at hw
  have := hw p (by omega) (by omega)
  rw [mA_i] at this
  have := this q (by omega) (by omega)
  rw [h] at this
  exact absurd this Bool.false_ne_true
