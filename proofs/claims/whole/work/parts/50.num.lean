/-! ===== numbers: an Int32 by its Int ===== -/
def zI (a : Int) : Int32 := Int32.ofInt a
theorem zI_toInt {a : Int} (h : -2147483648 ≤ a) (h2 : a < 2147483648) : (zI a).toInt = a := by
  unfold zI; rw [Int32.toInt_ofInt]; simp [Int32.size, Int.bmod]; omega
theorem zI_of (x : Int32) : x = zI x.toInt := by unfold zI; simp
theorem zI_rng (x : Int32) : -2147483648 ≤ x.toInt ∧ x.toInt < 2147483648 := ⟨Int32.le_toInt x, Int32.toInt_lt x⟩
theorem zI_ex (x : Int32) : ∃ a : Int, x = zI a ∧ -2147483648 ≤ a ∧ a < 2147483648 := ⟨x.toInt, zI_of x, (zI_rng x).1, (zI_rng x).2⟩
theorem zI_add (a b : Int) : zI a + zI b = zI (a + b) := by unfold zI; rw [Int32.ofInt_add]
theorem zI_sub (a b : Int) : zI a - zI b = zI (a - b) := by unfold zI; rw [Int32.ofInt_sub]
theorem zI_mul (a b : Int) : zI a * zI b = zI (a * b) := by unfold zI; rw [Int32.ofInt_mul]
theorem zI_neg (a : Int) : - zI a = zI (-a) := by unfold zI; rw [Int32.ofInt_neg]
theorem zI_lit (n : Nat) : (OfNat.ofNat n : Int32) = zI (OfNat.ofNat n : Int) := by
  unfold zI; rfl
theorem la_1 (p : Nat) : (1 : Int) + (p : Int) = ((1 + p : Nat) : Int) := by omega
theorem al_1 (p : Nat) : (p : Int) + (1 : Int) = ((p + 1 : Nat) : Int) := by omega
theorem la_2 (p : Nat) : (2 : Int) + (p : Int) = ((2 + p : Nat) : Int) := by omega
theorem al_2 (p : Nat) : (p : Int) + (2 : Int) = ((p + 2 : Nat) : Int) := by omega
theorem la_3 (p : Nat) : (3 : Int) + (p : Int) = ((3 + p : Nat) : Int) := by omega
theorem al_3 (p : Nat) : (p : Int) + (3 : Int) = ((p + 3 : Nat) : Int) := by omega
theorem la_4 (p : Nat) : (4 : Int) + (p : Int) = ((4 + p : Nat) : Int) := by omega
theorem al_4 (p : Nat) : (p : Int) + (4 : Int) = ((p + 4 : Nat) : Int) := by omega
theorem la_5 (p : Nat) : (5 : Int) + (p : Int) = ((5 + p : Nat) : Int) := by omega
theorem al_5 (p : Nat) : (p : Int) + (5 : Int) = ((p + 5 : Nat) : Int) := by omega
theorem la_6 (p : Nat) : (6 : Int) + (p : Int) = ((6 + p : Nat) : Int) := by omega
theorem al_6 (p : Nat) : (p : Int) + (6 : Int) = ((p + 6 : Nat) : Int) := by omega
theorem la_7 (p : Nat) : (7 : Int) + (p : Int) = ((7 + p : Nat) : Int) := by omega
theorem al_7 (p : Nat) : (p : Int) + (7 : Int) = ((p + 7 : Nat) : Int) := by omega
theorem la_8 (p : Nat) : (8 : Int) + (p : Int) = ((8 + p : Nat) : Int) := by omega
theorem al_8 (p : Nat) : (p : Int) + (8 : Int) = ((p + 8 : Nat) : Int) := by omega
theorem la_9 (p : Nat) : (9 : Int) + (p : Int) = ((9 + p : Nat) : Int) := by omega
theorem al_9 (p : Nat) : (p : Int) + (9 : Int) = ((p + 9 : Nat) : Int) := by omega
theorem la_10 (p : Nat) : (10 : Int) + (p : Int) = ((10 + p : Nat) : Int) := by omega
theorem al_10 (p : Nat) : (p : Int) + (10 : Int) = ((p + 10 : Nat) : Int) := by omega
theorem la_11 (p : Nat) : (11 : Int) + (p : Int) = ((11 + p : Nat) : Int) := by omega
theorem al_11 (p : Nat) : (p : Int) + (11 : Int) = ((p + 11 : Nat) : Int) := by omega
theorem la_12 (p : Nat) : (12 : Int) + (p : Int) = ((12 + p : Nat) : Int) := by omega
theorem al_12 (p : Nat) : (p : Int) + (12 : Int) = ((p + 12 : Nat) : Int) := by omega
theorem la_13 (p : Nat) : (13 : Int) + (p : Int) = ((13 + p : Nat) : Int) := by omega
theorem al_13 (p : Nat) : (p : Int) + (13 : Int) = ((p + 13 : Nat) : Int) := by omega
theorem la_16 (p : Nat) : (16 : Int) + (p : Int) = ((16 + p : Nat) : Int) := by omega
theorem al_16 (p : Nat) : (p : Int) + (16 : Int) = ((p + 16 : Nat) : Int) := by omega
theorem la_19 (p : Nat) : (19 : Int) + (p : Int) = ((19 + p : Nat) : Int) := by omega
theorem al_19 (p : Nat) : (p : Int) + (19 : Int) = ((p + 19 : Nat) : Int) := by omega
theorem la_20 (p : Nat) : (20 : Int) + (p : Int) = ((20 + p : Nat) : Int) := by omega
theorem al_20 (p : Nat) : (p : Int) + (20 : Int) = ((p + 20 : Nat) : Int) := by omega
theorem la_24 (p : Nat) : (24 : Int) + (p : Int) = ((24 + p : Nat) : Int) := by omega
theorem al_24 (p : Nat) : (p : Int) + (24 : Int) = ((p + 24 : Nat) : Int) := by omega
theorem la_25 (p : Nat) : (25 : Int) + (p : Int) = ((25 + p : Nat) : Int) := by omega
theorem al_25 (p : Nat) : (p : Int) + (25 : Int) = ((p + 25 : Nat) : Int) := by omega
theorem la_26 (p : Nat) : (26 : Int) + (p : Int) = ((26 + p : Nat) : Int) := by omega
theorem al_26 (p : Nat) : (p : Int) + (26 : Int) = ((p + 26 : Nat) : Int) := by omega
theorem la_27 (p : Nat) : (27 : Int) + (p : Int) = ((27 + p : Nat) : Int) := by omega
theorem al_27 (p : Nat) : (p : Int) + (27 : Int) = ((p + 27 : Nat) : Int) := by omega
theorem la_51 (p : Nat) : (51 : Int) + (p : Int) = ((51 + p : Nat) : Int) := by omega
theorem al_51 (p : Nat) : (p : Int) + (51 : Int) = ((p + 51 : Nat) : Int) := by omega
theorem la_52 (p : Nat) : (52 : Int) + (p : Int) = ((52 + p : Nat) : Int) := by omega
theorem al_52 (p : Nat) : (p : Int) + (52 : Int) = ((p + 52 : Nat) : Int) := by omega
theorem la_0 (a : Int) : (0 : Int) + a = a := by omega
theorem zI_lt {a b : Int} (h1 : -2147483648 ≤ a) (h2 : a < 2147483648) (h3 : -2147483648 ≤ b) (h4 : b < 2147483648) : (zI a < zI b) = (a < b) := by
  rw [Int32.lt_iff_toInt_lt, zI_toInt h1 h2, zI_toInt h3 h4]
theorem zI_le {a b : Int} (h1 : -2147483648 ≤ a) (h2 : a < 2147483648) (h3 : -2147483648 ≤ b) (h4 : b < 2147483648) : (zI a ≤ zI b) = (a ≤ b) := by
  rw [Int32.le_iff_toInt_le, zI_toInt h1 h2, zI_toInt h3 h4]
theorem zI_inj {a b : Int} (h1 : -2147483648 ≤ a) (h2 : a < 2147483648) (h3 : -2147483648 ≤ b) (h4 : b < 2147483648) : (zI a = zI b) = (a = b) := by
  apply propext
  constructor
  · intro h
    have := congrArg Int32.toInt h
    rwa [zI_toInt h1 h2, zI_toInt h3 h4] at this
  · intro h; rw [h]
theorem zI_clamp {a : Int} (h1 : 0 ≤ a) (h2 : a < 2147483648) : (zI a).toNatClampNeg = a.toNat := by
  show (zI a).toInt.toNat = _
  rw [zI_toInt (by omega) h2]
theorem zI_div {a b : Int} (h1 : 0 ≤ a) (h2 : a < 2147483648) (h3 : 0 < b) (h4 : b < 2147483648) : zI a / zI b = zI (a / b) := by
  have e : (zI a / zI b).toInt = a / b := by
    rw [Int32.toInt_div, zI_toInt (by omega) h2, zI_toInt (by omega) h4, Int.tdiv_eq_ediv_of_nonneg h1]
    have h5 : 0 ≤ a / b := Int.ediv_nonneg h1 (by omega)
    have h6 : a / b ≤ a := Int.ediv_le_self b h1
    simp [Int.bmod]; omega
  rw [zI_of (zI a / zI b), e]
theorem zI_ck {β : Type} {a : Int} {n : Int} (x : Option β) (h1 : 0 ≤ a) (h2 : a < n) (h3 : a < 2147483648) : cb_ck (0 ≤ (zI a).toInt ∧ (zI a).toInt < n) x = x := by
  unfold cb_ck; rw [zI_toInt (by omega) h3, if_pos ⟨h1, h2⟩]
theorem ck_t {β : Type} {P : Prop} [Decidable P] (x : Option β) (h : P) : cb_ck P x = x := if_pos h
theorem bp_s {β : Type} (r : Int32) (f : Int32 → Option β) : cb_bp (some r) f = f r := rfl
theorem bv_s {β : Type} (r : cb_St) (f : cb_St → Option β) : cb_bv (some r) f = f r := rfl
theorem bi_s {β : Type} (r : Int32) (τ : cb_St) (f : Int32 → cb_St → Option β) : cb_bi (some (r, τ)) f = f r τ := rfl
theorem let_s {α β : Type} (x : α) (f : α → β) : cb_let x f = f x := rfl
theorem zI_0 : (0 : Int32) = zI 0 := rfl
theorem zI_1 : (1 : Int32) = zI 1 := rfl
theorem zI_m1 : (-1 : Int32) = zI (-1) := by decide
theorem zI_nat (n : Nat) : zI (n : Int) = nI n := by unfold zI nI; rfl
