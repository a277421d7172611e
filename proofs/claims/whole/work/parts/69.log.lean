/-! ===== the figures of a meeting ===== -/
theorem zI_or (a b : Nat) : zI a ||| zI b = zI ((a ||| b : Nat) : Int) := by
  rw [zI_nat, zI_nat, zI_nat]
  unfold nI
  apply Int32.toBitVec_inj.mp
  rw [Int32.toBitVec_or]
  show BitVec.ofNat 32 a ||| BitVec.ofNat 32 b = BitVec.ofNat 32 (a ||| b)
  exact BitVec.ofNat_or.symm
theorem zI_and (a b : Nat) : zI a &&& zI b = zI ((a &&& b : Nat) : Int) := by
  rw [zI_nat, zI_nat, zI_nat]
  unfold nI
  apply Int32.toBitVec_inj.mp
  rw [Int32.toBitVec_and]
  show BitVec.ofNat 32 a &&& BitVec.ofNat 32 b = BitVec.ofNat 32 (a &&& b)
  exact BitVec.ofNat_and.symm
theorem nat_or_add {x y k : Nat} (h : x < 2 ^ k) : x ||| (y * 2 ^ k) = x + y * 2 ^ k := by
  have := Nat.shiftLeft_add_eq_or_of_lt h y
  rw [Nat.shiftLeft_eq] at this
  rw [Nat.or_comm, ← this, Nat.add_comm]
theorem sh_4 : ∀ q : Nat, q < 6 → zI q <<< ((4 : Int32) &&& 31) = zI ((q * 2 ^ 4 : Nat) : Int) := by decide +kernel
theorem sh_8 : ∀ q : Nat, q < 13 → zI q <<< ((8 : Int32) &&& 31) = zI ((q * 2 ^ 8 : Nat) : Int) := by decide +kernel
theorem sh_12 : ∀ q : Nat, q < 13 → zI q <<< ((12 : Int32) &&& 31) = zI ((q * 2 ^ 12 : Nat) : Int) := by decide +kernel
theorem sh_16 : ∀ q : Nat, q < 3 → zI q <<< ((16 : Int32) &&& 31) = zI ((q * 2 ^ 16 : Nat) : Int) := by decide +kernel
theorem log_E (p q a b w : Nat) (hp : p < 6) (hq : q < 6) (ha : a < 13) (hb : b < 13) (hw : w < 3) : (((zI p ||| (zI q <<< ((4 : Int32) &&& 31))) ||| (zI a <<< ((8 : Int32) &&& 31))) ||| (zI b <<< ((12 : Int32) &&& 31))) ||| (zI w <<< ((16 : Int32) &&& 31)) = zI ((p + 16 * q + 256 * a + 4096 * b + 65536 * w : Nat) : Int) := by
  rw [sh_4 q hq, sh_8 a ha, sh_12 b hb, sh_16 w hw, zI_or, zI_or, zI_or, zI_or]
  rw [nat_or_add (k := 4) (by omega), nat_or_add (k := 8) (by omega), nat_or_add (k := 12) (by omega), nat_or_add (k := 16) (by omega)]
  congr 2
  omega
theorem zI_shr {x : Nat} (k : Nat) (hk : k < 31) (hx : x < 2147483648) : zI x >>> (zI k &&& 31) = zI ((x / 2 ^ k : Nat) : Int) := by
  rw [zI_nat, zI_nat, zI_nat]
  unfold nI
  apply Int32.toBitVec_inj.mp
  rw [Int32.toBitVec_shiftRight, BitVec.sshiftRight_eq']
  have e := s_l k (by omega)
  unfold nI at e
  rw [e]
  show (BitVec.ofNat 32 x).sshiftRight k = BitVec.ofNat 32 (x / 2 ^ k)
  have hm : (BitVec.ofNat 32 x).msb = false := by
    rw [BitVec.msb_eq_false_iff_two_mul_lt, BitVec.toNat_ofNat, Nat.mod_eq_of_lt (by omega)]; omega
  rw [BitVec.sshiftRight_eq_of_msb_false hm]
  apply BitVec.eq_of_toNat_eq
  rw [BitVec.toNat_ushiftRight, BitVec.toNat_ofNat, BitVec.toNat_ofNat, Nat.shiftRight_eq_div_pow, Nat.mod_eq_of_lt (by omega)]
  have : x / 2 ^ k ≤ x := Nat.div_le_self _ _
  rw [Nat.mod_eq_of_lt (by omega)]
theorem zI_m15 (x : Nat) : zI x &&& 15 = zI ((x % 16 : Nat) : Int) := by
  rw [show (15 : Int32) = zI ((15 : Nat) : Int) from rfl, zI_and]
  have := Nat.and_two_pow_sub_one_eq_mod x 4
  rw [show (2 ^ 4 - 1 : Nat) = 15 from rfl, show (2 ^ 4 : Nat) = 16 from rfl] at this
  rw [this]
theorem zI_m3 (x : Nat) : zI x &&& 3 = zI ((x % 4 : Nat) : Int) := by
  rw [show (3 : Int32) = zI ((3 : Nat) : Int) from rfl, zI_and]
  have := Nat.and_two_pow_sub_one_eq_mod x 2
  rw [show (2 ^ 2 - 1 : Nat) = 3 from rfl, show (2 ^ 2 : Nat) = 4 from rfl] at this
  rw [this]
