/-! ===== two cards by one of the rules ===== -/
def mBy (rc rd sc sd kn t lw : Int32) : Int32 :=
  if (sc = t ∧ ¬ sd = t) then zI 0 else if (¬ sc = t ∧ sd = t) then zI 1
  else if (kn = zI 1 ∧ sc = sd ∧ rc = zI 11 ∧ ¬ rd = zI 11) then zI 0 else if (kn = zI 1 ∧ sc = sd ∧ ¬ rc = zI 11 ∧ rd = zI 11) then zI 1
  else if rc = rd then zI 2 else if (rc ≤ rd ∧ ¬ lw = zI 0) then zI 0 else if (¬ rc ≤ rd ∧ lw = zI 0) then zI 0 else zI 1
theorem mBy_l (rc rd sc sd kn t lw : Int32) : mBy rc rd sc sd kn t lw = if (sc = t ∧ ¬ sd = t) then 0 else if (¬ sc = t ∧ sd = t) then 1
  else if (kn = 1 ∧ sc = sd ∧ rc = 11 ∧ ¬ rd = 11) then 0 else if (kn = 1 ∧ sc = sd ∧ ¬ rc = 11 ∧ rd = 11) then 1
  else if rc = rd then 2 else if (rc ≤ rd ∧ ¬ lw = 0) then 0 else if (¬ rc ≤ rd ∧ lw = 0) then 0 else 1 := rfl
theorem s_rankOf (k : Nat) (σ : cb_St) (i : Nat) (h : i < 12) : f_X6_rankOf k (zI i) σ = some (σ.1 (k + 1) i) := by
  unfold f_X6_rankOf
  simp (disch := omega) only [zI_lit, zI_lt, zI_ck, zI_clamp]
  rw [if_neg (by omega), if_pos (by omega)]; simp
theorem s_suitOf (k : Nat) (σ : cb_St) (i : Nat) (h : i < 12) : f_X6_suitOf k (zI i) σ = some (σ.1 (k + 2) i) := by
  unfold f_X6_suitOf
  simp (disch := omega) only [zI_lit, zI_lt, zI_ck, zI_clamp]
  rw [if_neg (by omega), if_pos (by omega)]; simp
theorem s_byTrump (k : Nat) (σ : cb_St) (c d : Nat) (t lw : Int32) (hc : c < 12) (hd : d < 12) :
    f_X6_byTrump k (zI c) (zI d) t lw σ = some (mBy (σ.1 (k + 1) c) (σ.1 (k + 1) d) (σ.1 (k + 2) c) (σ.1 (k + 2) d) (σ.1 k 3) t lw) := by
  unfold f_X6_byTrump f_X6_byTrump_14 f_X6_byTrump_30 f_X6_byTrump_97 f_X6_byTrump_109 f_X6_byTrump_125 f_X6_byTrump_146 f_X6_byTrump_156
  simp only [s_rankOf k σ c hc, s_rankOf k σ d hd, s_suitOf k σ c hc, s_suitOf k σ d hd, bp_s]
  generalize σ.1 (k + 1) c = rc
  generalize σ.1 (k + 1) d = rd
  generalize σ.1 (k + 2) c = sc
  generalize σ.1 (k + 2) d = sd
  generalize σ.1 k 3 = kn
  rw [mBy_l]
  grind
theorem m_beatsBy (τ : cb_St) (c d : Nat) (t lw : Int32) (hc : c < 12) (hd : d < 12) : f_X8_beatsBy (zI c) (zI d) t lw τ = some (mBy (τ.1 1 c) (τ.1 1 d) (τ.1 2 c) (τ.1 2 d) (τ.1 0 3) t lw) := by
  have h1 : 0 ≤ Int32.toInt (zI c) ∧ Int32.toInt (zI c) < 12 := by rw [zI_toInt (by omega) (by omega)]; omega
  have h2 : 0 ≤ Int32.toInt (zI d) ∧ Int32.toInt (zI d) < 12 := by rw [zI_toInt (by omega) (by omega)]; omega
  have h3 : Int32.toNatClampNeg (zI c) = c := by rw [zI_clamp (by omega) (by omega), Int.toNat_natCast]
  have h4 : Int32.toNatClampNeg (zI d) = d := by rw [zI_clamp (by omega) (by omega), Int.toNat_natCast]
  have b1 : ∀ s0, f_X8_beatsBy_166 (zI c) (zI d) t lw τ s0 = if lw = 0 then (if s0 = 1 then some 0 else some 1) else (if s0 = 0 then some 0 else some 1) := fun s0 => rfl
  have b2 : f_X8_beatsBy_129 (zI c) (zI d) t lw τ = some (if τ.1 1 c = τ.1 1 d then 2 else if τ.1 1 c ≤ τ.1 1 d then (if lw = 0 then 1 else 0) else (if lw = 0 then 0 else 1)) := by
    unfold f_X8_beatsBy_129
    simp only [ck_t _ h1, ck_t _ h2, h3, h4, b1]
    grind
  have b3 : ∀ x5 s0, f_X8_beatsBy_86 (zI c) (zI d) t lw τ x5 s0 = some (if τ.1 0 3 = 1 ∧ τ.1 2 c = τ.1 2 d ∧ ¬ x5 = s0 then (if x5 = 0 then 1 else 0) else (if τ.1 1 c = τ.1 1 d then 2 else if τ.1 1 c ≤ τ.1 1 d then (if lw = 0 then 1 else 0) else (if lw = 0 then 0 else 1))) := by
    intro x5 s0
    unfold f_X8_beatsBy_86
    simp only [ck_t _ h1, ck_t _ h2, h3, h4, b2]
    grind
  unfold f_X8_beatsBy f_X8_beatsBy_15 f_X8_beatsBy_32 f_X8_beatsBy_68
  simp only [ck_t _ h1, ck_t _ h2, h3, h4, b3]
  generalize τ.1 1 c = rc
  generalize τ.1 1 d = rd
  generalize τ.1 2 c = sc
  generalize τ.1 2 d = sd
  generalize τ.1 0 3 = kn
  rw [mBy_l]
  clear b1 b2 b3 h1 h2 h3 h4
  grind (splits := 40)
