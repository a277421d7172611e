/-! ===== two cards by one of the rules ===== -/
def mBy (rc rd sc sd kn t lw : Int32) : Int32 :=
  if (sc = t ∧ ¬ sd = t) then 0 else if (¬ sc = t ∧ sd = t) then 1
  else if (kn = 1 ∧ sc = sd ∧ rc = 11 ∧ ¬ rd = 11) then 0 else if (kn = 1 ∧ sc = sd ∧ ¬ rc = 11 ∧ rd = 11) then 1
  else if rc = rd then 2 else if (rc ≤ rd ∧ ¬ lw = 0) then 0 else if (¬ rc ≤ rd ∧ lw = 0) then 0 else 1
theorem s_rankOf (k : Nat) (σ : cb_St) (i : Nat) (h : i < 12) : f_X6_rankOf k (zI i) σ = some (σ.1 (k + 1) i) := by
  unfold f_X6_rankOf
  simp (disch := omega) only [zI_lit, zI_lt, zI_ck, zI_clamp]
  rw [if_neg (by omega), if_pos (by omega)]; simp
theorem s_suitOf (k : Nat) (σ : cb_St) (i : Nat) (h : i < 12) : f_X6_suitOf k (zI i) σ = some (σ.1 (k + 2) i) := by
  unfold f_X6_suitOf
  simp (disch := omega) only [zI_lit, zI_lt, zI_ck, zI_clamp]
  rw [if_neg (by omega), if_pos (by omega)]; simp
theorem s_byTrump (k : Nat) (σ : cb_St) (c d : Nat) (t lw : Int32) (hc : c < 12) (hd : d < 12) :
    f_X6_byTrump k (zI c) (zI d) t lw σ = some (mBy (σ.1 (k + 1) c) (σ.1 (k + 1) d) (σ.1 (k + 2) c) (σ.1 (k + 2) d) (σ.1 k 3) t lw) := by
  unfold f_X6_byTrump f_X6_byTrump_14 f_X6_byTrump_30 f_X6_byTrump_97 f_X6_byTrump_109 f_X6_byTrump_125 f_X6_byTrump_146 f_X6_byTrump_156
  simp only [s_rankOf k σ c hc, s_rankOf k σ d hd, s_suitOf k σ c hc, s_suitOf k σ d hd, bp_s]
  generalize σ.1 (k + 1) c = rc
  generalize σ.1 (k + 1) d = rd
  generalize σ.1 (k + 2) c = sc
  generalize σ.1 (k + 2) d = sd
  generalize σ.1 k 3 = kn
  unfold mBy
  grind
