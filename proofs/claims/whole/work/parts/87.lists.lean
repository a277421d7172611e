/-! ===== who holds which: all ways, by their numbers ===== -/
def uu (u : Nat → Bool) (k : Nat) : Nat → Bool := fun j => u j || decide (j = k)
def MM (C : Nat) (pk : Nat → Nat) (G : (Nat → Int) → (Nat → Bool) → Option (Nat → Int)) : Nat → Nat → (Nat → Int) → (Nat → Bool) → Nat → Option (Nat → Int)
  | 0, _, w, u, _ => G w u
  | j + 1, t, w, u, r => if r / 5 ^ j < C ∧ u (r / 5 ^ j) = false then MM C pk G j (t + 1) (ui w t (pk (r / 5 ^ j))) (uu u (r / 5 ^ j)) (r % 5 ^ j) else none
theorem MM_s (C : Nat) (pk : Nat → Nat) (G : (Nat → Int) → (Nat → Bool) → Option (Nat → Int)) (j t : Nat) (w : Nat → Int) (u : Nat → Bool) (r : Nat) : MM C pk G (j + 1) t w u r = if r / 5 ^ j < C ∧ u (r / 5 ^ j) = false then MM C pk G j (t + 1) (ui w t (pk (r / 5 ^ j))) (uu u (r / 5 ^ j)) (r % 5 ^ j) else none := rfl
theorem MM_last (C : Nat) (pk : Nat → Nat) (G : (Nat → Int) → (Nat → Bool) → Option (Nat → Int)) : ∀ (j t : Nat) (w : Nat → Int) (u : Nat → Bool) (r : Nat), r < 5 ^ (j + 1) → MM C pk G (j + 1) t w u r = MM C pk (fun w' u' => if r % 5 < C ∧ u' (r % 5) = false then G (ui w' (t + j) (pk (r % 5))) (uu u' (r % 5)) else none) j t w u (r / 5) := by
  intro j
  induction j with
  | zero =>
    intro t w u r hr
    have e : r % 5 = r := Nat.mod_eq_of_lt hr
    rw [MM_s]
    show (if r / 1 < C ∧ u (r / 1) = false then G (ui w t (pk (r / 1))) (uu u (r / 1)) else none) = (if r % 5 < C ∧ u (r % 5) = false then G (ui w (t + 0) (pk (r % 5))) (uu u (r % 5)) else none)
    rw [Nat.div_one, e]; rfl
  | succ j ih =>
    intro t w u r hr
    rw [MM_s, ih (t + 1) _ _ (r % 5 ^ (j + 1)) (Nat.mod_lt _ (Nat.pow_pos (by omega))), MM_s]
    have e1 : r % 5 ^ (j + 1) % 5 = r % 5 := Nat.mod_mod_of_dvd r ⟨5 ^ j, by rw [Nat.pow_succ, Nat.mul_comm]⟩
    have e2 : r % 5 ^ (j + 1) / 5 = r / 5 % 5 ^ j := by
      rw [show 5 ^ (j + 1) = 5 * 5 ^ j from by rw [Nat.pow_succ, Nat.mul_comm]]; exact Nat.mod_mul_right_div_self r 5 (5 ^ j)
    have e3 : r / 5 / 5 ^ j = r / 5 ^ (j + 1) := by rw [Nat.div_div_eq_div_mul, Nat.pow_succ, Nat.mul_comm]
    have e4 : t + 1 + j = t + (j + 1) := by omega
    rw [e1, e2, e3, e4]
theorem MM_none (C : Nat) (pk : Nat → Nat) : ∀ (j t : Nat) (w : Nat → Int) (u : Nat → Bool) (r : Nat), MM C pk (fun _ _ => none) j t w u r = none := by
  intro j
  induction j with
  | zero => intro t w u r; rfl
  | succ j ih => intro t w u r; rw [MM_s, ih, ite_self]
/-- what the codes from i on give, in their order -/
def cl (F : Nat → Option (Nat → Int)) (i : Nat) : Nat → List (Nat → Int)
  | 0 => []
  | m + 1 => (F i).toList ++ cl F (i + 1) m
theorem cl_s (F : Nat → Option (Nat → Int)) (i m : Nat) : cl F i (m + 1) = (F i).toList ++ cl F (i + 1) m := rfl
theorem cl_add (F : Nat → Option (Nat → Int)) : ∀ (a i b : Nat), cl F i (a + b) = cl F i a ++ cl F (i + a) b := by
  intro a
  induction a with
  | zero => intro i b; rw [Nat.zero_add]; rfl
  | succ a ih =>
    intro i b
    have e : a + 1 + b = a + b + 1 := by omega
    have e2 : i + 1 + a = i + (a + 1) := by omega
    rw [e, cl_s, cl_s, ih (i + 1) b, e2, List.append_assoc]
theorem cl_shift {P R : Nat → Option (Nat → Int)} (s : Nat) : ∀ (m i : Nat), (∀ x, i ≤ x → x < i + m → P (s + x) = R x) → cl P (s + i) m = cl R i m := by
  intro m
  induction m with
  | zero => intro i _; rfl
  | succ m ih =>
    intro i h
    rw [cl_s, cl_s, h i (by omega) (by omega)]
    rw [show cl P (s + i + 1) m = _ from ih (i + 1) (fun x h1 h2 => h x (by omega) (by omega))]
theorem cl_none {P : Nat → Option (Nat → Int)} : ∀ (m i : Nat), (∀ x, i ≤ x → x < i + m → P x = none) → cl P i m = [] := by
  intro m
  induction m with
  | zero => intro i _; rfl
  | succ m ih =>
    intro i h
    rw [cl_s, h i (by omega) (by omega), ih (i + 1) (fun x h1 h2 => h x (by omega) (by omega))]; rfl
theorem cl_len (F : Nat → Option (Nat → Int)) : ∀ (m i : Nat), (cl F i m).length ≤ m := by
  intro m
  induction m with
  | zero => intro i; exact Nat.le_refl _
  | succ m ih =>
    intro i
    have := ih (i + 1)
    rw [cl_s, List.length_append]
    cases F i
    · simp; omega
    · simp; omega
theorem cl_all {F : Nat → Option (Nat → Int)} {Z : (Nat → Int) → Prop} : ∀ (m i : Nat), (∀ x d, F x = some d → Z d) → ∀ d ∈ cl F i m, Z d := by
  intro m
  induction m with
  | zero => intro i _ d hd; exact absurd hd (by simp [cl])
  | succ m ih =>
    intro i h d hd
    rw [cl_s, List.mem_append] at hd
    rcases hd with hd | hd
    · cases hF : F i
      · rw [hF] at hd; exact absurd hd (by simp)
      · rw [hF] at hd
        simp at hd
        subst hd
        exact h i d hF
    · exact ih (i + 1) h d hd
theorem blk5 (j p x : Nat) (hx : x < 5 ^ j) : (p * 5 ^ j + x) / 5 ^ j = p ∧ (p * 5 ^ j + x) % 5 ^ j = x := by
  have hp : 0 < 5 ^ j := Nat.pow_pos (by omega)
  constructor
  · rw [Nat.mul_comm, Nat.mul_add_div hp, Nat.div_eq_of_lt hx, Nat.add_zero]
  · rw [Nat.mul_comm, Nat.mul_add_mod, Nat.mod_eq_of_lt hx]
theorem MM_blk (C : Nat) (pk : Nat → Nat) (G : (Nat → Int) → (Nat → Bool) → Option (Nat → Int)) (j t : Nat) (w : Nat → Int) (u : Nat → Bool) (k : Nat) (hk : k < 5) : cl (MM C pk G (j + 1) t w u) (k * 5 ^ j) ((5 - k) * 5 ^ j) = (if k < C ∧ u k = false then cl (MM C pk G j (t + 1) (ui w t (pk k)) (uu u k)) 0 (5 ^ j) else []) ++ cl (MM C pk G (j + 1) t w u) ((k + 1) * 5 ^ j) ((5 - (k + 1)) * 5 ^ j) := by
  have e : (5 - k) * 5 ^ j = 5 ^ j + (5 - (k + 1)) * 5 ^ j := by
    have : 5 - k = (5 - (k + 1)) + 1 := by omega
    rw [this, Nat.add_mul, Nat.one_mul, Nat.add_comm]
  have e2 : k * 5 ^ j + 5 ^ j = (k + 1) * 5 ^ j := by rw [Nat.add_mul, Nat.one_mul]
  rw [e, cl_add, e2]
  congr 1
  by_cases h : k < C ∧ u k = false
  · rw [if_pos h]
    exact cl_shift (P := MM C pk G (j + 1) t w u) (R := MM C pk G j (t + 1) (ui w t (pk k)) (uu u k)) (k * 5 ^ j) (5 ^ j) 0 (fun x _ h2 => by
      obtain ⟨b1, b2⟩ := blk5 j k x (by omega)
      rw [MM_s, b1, b2, if_pos h])
  · rw [if_neg h]
    exact cl_none (5 ^ j) (k * 5 ^ j) (fun x h1 h2 => by
      obtain ⟨b1, b2⟩ := blk5 j k (x - k * 5 ^ j) (by omega)
      have ex : k * 5 ^ j + (x - k * 5 ^ j) = x := by omega
      rw [ex] at b1 b2
      rw [MM_s, b1, if_neg h])
theorem MM_end (C : Nat) (pk : Nat → Nat) (G : (Nat → Int) → (Nat → Bool) → Option (Nat → Int)) (j t : Nat) (w : Nat → Int) (u : Nat → Bool) : cl (MM C pk G (j + 1) t w u) (C * 5 ^ j) ((5 - C) * 5 ^ j) = [] := by
  apply cl_none
  intro x h1 h2
  rw [MM_s, if_neg]
  have : C ≤ x / 5 ^ j := by rw [Nat.le_div_iff_mul_le (Nat.pow_pos (by omega))]; exact h1
  intro q; omega
/-- the card that a person has in all of them, as the class finds it -/
def srS (p : Nat) (s : Nat × Int) (d : Nat → Int) : Nat × Int := (s.1 + 1, if s.1 = 0 then d p else if s.2 = d p then s.2 else -1)
def srC (L : List (Nat → Int)) (p : Nat) : Nat × Int := L.foldl (srS p) (0, -1)
theorem srC_1 (p : Nat) : ∀ (L : List (Nat → Int)) (s : Nat × Int), (L.foldl (srS p) s).1 = s.1 + L.length := by
  intro L
  induction L with
  | nil => intro s; rfl
  | cons d L ih => intro s; rw [List.foldl_cons, ih, List.length_cons]; show s.1 + 1 + L.length = _; omega
theorem srC_len (L : List (Nat → Int)) (p : Nat) : (srC L p).1 = L.length := by
  unfold srC; rw [srC_1]; simp
theorem srC_app (L : List (Nat → Int)) (d : Nat → Int) (p : Nat) : (srC (L ++ [d]) p).2 = if L.length = 0 then d p else if (srC L p).2 = d p then (srC L p).2 else -1 := by
  have e : srC (L ++ [d]) p = srS p (srC L p) d := by unfold srC; rw [List.foldl_append]; rfl
  rw [e]
  show (if (srC L p).1 = 0 then d p else if (srC L p).2 = d p then (srC L p).2 else -1) = _
  rw [srC_len]
/-- in how many of them two persons come out so -/
def cnt (τ : cb_St) (L : List (Nat → Int)) (p q o : Nat) : Nat := L.countP (fun d => decide (mT τ (d p) (d q) = zI (o : Int)))
theorem cnt_app (τ : cb_St) (L : List (Nat → Int)) (d : Nat → Int) (p q o : Nat) : cnt τ (L ++ [d]) p q o = cnt τ L p q o + (if mT τ (d p) (d q) = zI (o : Int) then 1 else 0) := by
  unfold cnt
  rw [List.countP_append, List.countP_singleton]
  congr 1
  by_cases h : mT τ (d p) (d q) = zI (o : Int)
  · rw [decide_eq_true h, if_pos rfl, if_pos h]
  · rw [decide_eq_false h, if_neg Bool.false_ne_true, if_neg h]
theorem cnt_le (τ : cb_St) (L : List (Nat → Int)) (p q o : Nat) : cnt τ L p q o ≤ L.length := List.countP_le_length
