/-! ===== the text: blanks, words, numbers ===== -/
theorem sI_sI (σ : cb_St) (k i : Nat) (a v : Int32) : cb_sI (cb_sI σ k i a) k i v = cb_sI σ k i v := by
  show cb_sA (cb_sI σ k i a) k (upd ((cb_sI σ k i a).1 k) i v) = cb_sA σ k (upd (σ.1 k) i v)
  rw [sA_sI, sI_e]
  have : upd (upd (σ.1 k) i a) i v = upd (σ.1 k) i v := by
    funext j
    by_cases hj : j = i
    · subst hj; rw [upd_e, upd_e]
    · rw [upd_n _ _ hj, upd_n _ _ hj, upd_n _ _ hj]
  rw [this]
theorem sI_j (σ : cb_St) (k : Nat) {i j : Nat} (v : Int32) (h : j ≠ i) : (cb_sI σ k i v).1 k j = σ.1 k j := by rw [sI_e, upd_n _ _ h]
theorem sI_i (σ : cb_St) (k i : Nat) (v : Int32) : (cb_sI σ k i v).1 k i = v := by rw [sI_e, upd_e]
section TX
variable (T : Nat → Nat) (L : Nat)
def txC (σ : cb_St) : Prop := L ≤ 240 ∧ σ.1 3 3 = zI L ∧ ∀ i, i < L → σ.1 8 i = zI (T i) ∧ T i < 256
def txM (τ : cb_St) : Prop := L ≤ 240 ∧ τ.1 0 11 = zI L ∧ ∀ i, i < L → τ.1 4 i = zI (T i) ∧ T i < 256
def skN (a : Nat) : Nat → Nat
  | 0 => a
  | m + 1 => if T a = 32 then skN (a + 1) m else a
def skp (a : Nat) : Nat := skN T a (L - a)
def lt (a : Nat) : Int32 := if a < L then zI (T a) else -1
theorem skN_s (a m : Nat) : skN T a (m + 1) = if T a = 32 then skN T (a + 1) m else a := rfl
theorem skN_rng : ∀ (m a : Nat), a ≤ skN T a m ∧ skN T a m ≤ a + m := by
  intro m
  induction m with
  | zero => intro a; exact ⟨Nat.le_refl _, Nat.le_refl _⟩
  | succ m ih =>
    intro a
    rw [skN_s]
    have := ih (a + 1)
    split <;> omega
theorem skp_rng (a : Nat) (h : a ≤ L) : a ≤ skp T L a ∧ skp T L a ≤ L := by
  have := skN_rng T (L - a) a
  unfold skp; omega
theorem skN_end : ∀ (m a : Nat), skN T a m < a + m → T (skN T a m) ≠ 32 := by
  intro m
  induction m with
  | zero => intro a h; exact absurd h (by show ¬ a < a + 0; omega)
  | succ m ih =>
    intro a h
    rw [skN_s] at h ⊢
    by_cases g : T a = 32
    · rw [if_pos g] at h ⊢; exact ih (a + 1) (by omega)
    · rw [if_neg g]; exact g
theorem skp_end (a : Nat) (h : a ≤ L) (h2 : skp T L a < L) : T (skp T L a) ≠ 32 := skN_end T (L - a) a (by unfold skp at h2; omega)
theorem skp_at (a : Nat) (h : a < L) (h2 : T a ≠ 32) : skp T L a = a := by
  unfold skp
  obtain ⟨m, hm⟩ : ∃ m, L - a = m + 1 := ⟨L - a - 1, by omega⟩
  rw [hm, skN_s, if_neg h2]
theorem skp_L : skp T L L = L := by unfold skp; rw [Nat.sub_self]; rfl
theorem skp_skp (a : Nat) (h : a ≤ L) : skp T L (skp T L a) = skp T L a := by
  by_cases g : skp T L a < L
  · exact skp_at T L _ g (skp_end T L a h g)
  · have := skp_rng T L a h
    have e : skp T L a = L := by omega
    rw [e, skp_L]
variable {T L}
variable {σ τ : cb_St}
theorem txC_5 (h : txC T L σ) (v : Int32) : txC T L (cb_sI σ 3 5 v) := ⟨h.1, by rw [sI_j _ _ _ (by decide)]; exact h.2.1, fun i hi => by rw [sI_n _ _ _ (by decide)]; exact h.2.2 i hi⟩
theorem txM_13 (h : txM T L τ) (v : Int32) : txM T L (cb_sI τ 0 13 v) := ⟨h.1, by rw [sI_j _ _ _ (by decide)]; exact h.2.1, fun i hi => by rw [sI_n _ _ _ (by decide)]; exact h.2.2 i hi⟩
theorem s_letterAt (h : txC T L σ) (a : Nat) (ha : a ≤ L) : f_X5_letterAt (zI a) σ = some (lt T L a) := by
  obtain ⟨h1, h2, h3⟩ := h
  unfold f_X5_letterAt f_X5_letterAt_19 lt
  rw [h2]; simp (disch := omega) only [zI_lit, zI_neg, zI_add, zI_sub, zI_mul, zI_lt, zI_le, zI_inj, zI_ck, zI_clamp, ← Int.natCast_add, la_1, al_1, la_2, al_2, la_3, al_3, la_4, al_4, la_5, al_5, la_6, al_6, la_7, al_7, la_8, al_8, la_9, al_9, la_10, al_10, la_11, al_11, la_12, al_12, la_13, al_13, la_16, al_16, la_19, al_19, la_20, al_20, la_24, al_24, la_25, al_25, la_26, al_26, la_27, al_27, la_51, al_51, la_52, al_52, la_0, Int.toNat_natCast, bp_s, let_s, bi_s, bv_s, b1_f]
  rw [if_neg (by omega)]
  by_cases g : a < L
  · rw [if_neg (by omega), if_pos (by omega), if_pos g, (h3 a g).1]
  · rw [if_pos (by omega), if_neg g, ← zI_m1]
theorem lt_eq (h : txC T L σ) (a : Nat) (c : Nat) (hc : c < 256) : (lt T L a = zI (c : Int)) = (a < L ∧ T a = c) := by
  unfold lt
  by_cases g : a < L
  · have := (h.2.2 a g).2
    rw [if_pos g, zI_inj (by omega) (by omega) (by omega) (by omega)]
    exact propext ⟨fun e => ⟨g, by omega⟩, fun e => by omega⟩
  · rw [if_neg g, zI_m1, zI_inj (by omega) (by omega) (by omega) (by omega)]
    exact propext ⟨fun e => absurd e (by omega), fun e => absurd e.1 g⟩
theorem s_skip_0 : ∀ (m a fu : Nat) (σ : cb_St), txC T L σ → σ.1 3 5 = zI a → a + m = L → m < fu → f_X5_skipBlanks_0 fu σ = some (cb_sI σ 3 5 (zI (skN T a m : Nat))) := by
  intro m
  induction m with
  | zero =>
    intro a fu σ h h5 e hf
    obtain ⟨fu, rfl⟩ : ∃ g, fu = g + 1 := ⟨fu - 1, by omega⟩
    have hL := h.1
    rw [f_X5_skipBlanks_0, h.2.1, h5, if_pos (by rw [zI_le (by omega) (by omega) (by omega) (by omega)]; omega)]
    show some σ = some (cb_sI σ 3 5 (zI (a : Nat)))
    rw [sI_id σ 3 5 _ h5]
  | succ m ih =>
    intro a fu σ h h5 e hf
    obtain ⟨fu, rfl⟩ : ∃ g, fu = g + 1 := ⟨fu - 1, by omega⟩
    have hL := h.1
    have e1 : zI (a : Int) + 1 = zI ((a + 1 : Nat) : Int) := by rw [show (1 : Int32) = zI 1 from rfl, zI_add, al_1]
    have c32 : (lt T L a = 32) = (T a = 32) := by
      rw [show (32 : Int32) = zI ((32 : Nat) : Int) from rfl, lt_eq h a 32 (by omega)]
      exact propext ⟨fun z => z.2, fun z => ⟨by omega, z⟩⟩
    rw [f_X5_skipBlanks_0, h.2.1, h5, if_neg (by rw [zI_le (by omega) (by omega) (by omega) (by omega)]; omega), s_letterAt h a (by omega), bp_s, let_s, e1, skN_s]
    simp only [c32]
    by_cases g : T a = 32
    · rw [if_pos g, if_pos g, ih (a + 1) fu _ (txC_5 h _) (sI_i _ _ _ _) (by omega) (by omega), sI_sI]
    · rw [if_neg g, if_neg g, sI_id σ 3 5 _ h5]
theorem s_skip (h : txC T L σ) {a : Nat} (h5 : σ.1 3 5 = zI a) (ha : a ≤ L) : f_X5_skipBlanks σ = some (cb_sI σ 3 5 (zI (skp T L a : Nat))) := by
  have h1 := s_skip_0 (L - a) a (cb_fu + 1) σ h h5 (by omega) (by have := h.1; unfold cb_fu; omega)
  rw [f_X5_skipBlanks_0] at h1
  exact h1
theorem m_here_0 : ∀ (m a fu : Nat) (τ : cb_St), txM T L τ → τ.1 0 13 = zI a → a + m = L → m < fu → f_X8_here_0 fu τ = some (lt T L (skN T a m), cb_sI τ 0 13 (zI (skN T a m : Nat))) := by
  intro m
  induction m with
  | zero =>
    intro a fu τ h h5 e hf
    obtain ⟨fu, rfl⟩ : ∃ g, fu = g + 1 := ⟨fu - 1, by omega⟩
    have hL := h.1
    have c : zI (L : Int) ≤ zI (a : Int) := by rw [zI_le (by omega) (by omega) (by omega) (by omega)]; omega
    rw [f_X8_here_0]
    unfold f_X8_here_38
    rw [h.2.1, h5, if_pos c, if_pos c]
    show some (-1, τ) = some (lt T L a, cb_sI τ 0 13 (zI (a : Nat)))
    unfold lt
    rw [sI_id τ 0 13 _ h5, if_neg (by omega)]
  | succ m ih =>
    intro a fu τ h h5 e hf
    obtain ⟨fu, rfl⟩ : ∃ g, fu = g + 1 := ⟨fu - 1, by omega⟩
    have hL := h.1
    obtain ⟨k1, k2⟩ := h.2.2 a (by omega)
    have e1 : zI (a : Int) + 1 = zI ((a + 1 : Nat) : Int) := by rw [show (1 : Int32) = zI 1 from rfl, zI_add, al_1]
    have c : ¬ zI (L : Int) ≤ zI (a : Int) := by rw [zI_le (by omega) (by omega) (by omega) (by omega)]; omega
    have c32 : (zI (T a : Int) = 32) = (T a = 32) := by
      rw [show (32 : Int32) = zI ((32 : Nat) : Int) from rfl, zI_inj (by omega) (by omega) (by omega) (by omega)]
      exact propext ⟨fun z => by omega, fun z => by omega⟩
    rw [f_X8_here_0]
    unfold f_X8_here_38
    rw [h.2.1, h5, if_neg c, if_neg c]
    simp (disch := omega) only [zI_ck, zI_clamp, Int.toNat_natCast, let_s, e1, k1, c32]
    rw [skN_s]
    by_cases g : T a = 32
    · rw [if_pos g, if_pos g, ih (a + 1) fu _ (txM_13 h _) (sI_i _ _ _ _) (by omega) (by omega), sI_sI]
    · rw [if_neg g, if_neg g, sI_id τ 0 13 _ h5]
      unfold lt
      rw [if_pos (by omega)]
theorem m_here (h : txM T L τ) {a : Nat} (h5 : τ.1 0 13 = zI a) (ha : a ≤ L) : f_X8_here τ = some (lt T L (skp T L a), cb_sI τ 0 13 (zI (skp T L a : Nat))) := by
  have h1 := m_here_0 (L - a) a (cb_fu + 1) τ h h5 (by omega) (by have := h.1; unfold cb_fu; omega)
  rw [f_X8_here_0] at h1
  exact h1
/-- a fault is told once -/
def failS (σ : cb_St) (f p : Nat) : cb_St := if σ.1 3 1 = 0 then cb_sI (cb_sI σ 3 1 (zI f)) 3 2 (zI p) else σ
theorem s_fail (σ : cb_St) (f p : Nat) : f_X5_fail (zI f) (zI p) σ = some (failS σ f p) := by
  unfold f_X5_fail failS
  rw [let_s, let_s]
  split <;> rfl
theorem s_takeWord (h : txC T L σ) {a : Nat} (h5 : σ.1 3 5 = zI a) (ha : a ≤ L) (c : Nat) (hc : c < 256) : f_X5_takeWord (zI c) σ = some (if skp T L a < L ∧ T (skp T L a) = c then cb_sI σ 3 5 (zI ((skp T L a + 1 : Nat) : Int)) else failS (cb_sI σ 3 5 (zI (skp T L a : Nat))) 1 (skp T L a)) := by
  obtain ⟨s1, s2⟩ := skp_rng T L a ha
  have e1 : zI (skp T L a : Nat) + 1 = zI ((skp T L a + 1 : Nat) : Int) := by rw [show (1 : Int32) = zI 1 from rfl, zI_add, al_1]
  unfold f_X5_takeWord
  rw [s_skip h h5 ha, bv_s, sI_i, s_letterAt (txC_5 h _) _ s2, bp_s, let_s, e1, sI_sI]
  simp only [lt_eq h _ c hc]
  by_cases g : skp T L a < L ∧ T (skp T L a) = c
  · rw [if_pos g, if_pos g]
  · rw [if_neg g, if_neg g, show (1 : Int32) = zI ((1 : Nat) : Int) from rfl, s_fail, bv_s]
/-- the figures from a place on -/
def isF (c : Nat) : Bool := decide (48 ≤ c) && decide (c ≤ 57)
def dgN (T : Nat → Nat) (a : Nat) : Nat → Nat
  | 0 => a
  | m + 1 => if isF (T a) then dgN T (a + 1) m else a
theorem dgN_s (a m : Nat) : dgN T a (m + 1) = if isF (T a) then dgN T (a + 1) m else a := rfl
theorem dgN_rng : ∀ (m a : Nat), a ≤ dgN T a m ∧ dgN T a m ≤ a + m := by
  intro m
  induction m with
  | zero => intro a; exact ⟨Nat.le_refl _, Nat.le_refl _⟩
  | succ m ih =>
    intro a
    rw [dgN_s]
    have := ih (a + 1)
    split <;> omega
def vlN (T : Nat → Nat) (s : Nat) : Nat → Nat
  | 0 => 0
  | c + 1 => 10 * vlN T s c + (T (s + c) - 48)
theorem s_isFigure (h : txC T L σ) (a : Nat) (ha : a < L) : f_X5_isFigure (lt T L a) σ = some (if isF (T a) then zI 1 else zI 0) := by
  have := (h.2.2 a ha).2
  unfold f_X5_isFigure f_X5_isFigure_16 lt isF
  rw [if_pos ha]; simp (disch := omega) only [zI_lit, zI_neg, zI_add, zI_sub, zI_mul, zI_lt, zI_le, zI_inj, zI_ck, zI_clamp, ← Int.natCast_add, la_1, al_1, la_2, al_2, la_3, al_3, la_4, al_4, la_5, al_5, la_6, al_6, la_7, al_7, la_8, al_8, la_9, al_9, la_10, al_10, la_11, al_11, la_12, al_12, la_13, al_13, la_16, al_16, la_19, al_19, la_20, al_20, la_24, al_24, la_25, al_25, la_26, al_26, la_27, al_27, la_51, al_51, la_52, al_52, la_0, Int.toNat_natCast, bp_s, let_s, bi_s, bv_s, b1_f]
  by_cases g1 : 48 ≤ T a
  · rw [if_neg (by omega)]
    by_cases g2 : T a ≤ 57
    · rw [if_neg (by omega)]; simp [g1, g2]
    · rw [if_pos (by omega)]; simp [g2]
  · rw [if_pos (by omega)]; simp [g1]
theorem s_num_12 (x1 x2 : Int32) (s : Nat) : ∀ (m a fu : Nat) (σ : cb_St), txC T L σ → σ.1 3 5 = zI a → s ≤ a → (∀ j, s ≤ j → j < a → isF (T j) = true) → a + m = L → m < fu → f_X5_number_12 x1 x2 fu σ (zI s) (zI (vlN T s (min (a - s) 3) : Nat)) = f_X5_number_80 x1 x2 (cb_sI σ 3 5 (zI (dgN T a m : Nat))) (zI s) (zI (vlN T s (min (dgN T a m - s) 3) : Nat)) := by
  intro m
  induction m with
  | zero =>
    intro a fu σ h h5 hs hd e hf
    obtain ⟨fu, rfl⟩ : ∃ g, fu = g + 1 := ⟨fu - 1, by omega⟩
    have hL := h.1
    rw [f_X5_number_12, h.2.1, h5, if_pos (by rw [zI_le (by omega) (by omega) (by omega) (by omega)]; omega)]
    show _ = f_X5_number_80 x1 x2 (cb_sI σ 3 5 (zI (a : Nat))) _ (zI (vlN T s (min (a - s) 3) : Nat))
    rw [sI_id σ 3 5 _ h5]
  | succ m ih =>
    intro a fu σ h h5 hs hd e hf
    obtain ⟨fu, rfl⟩ : ∃ g, fu = g + 1 := ⟨fu - 1, by omega⟩
    have hL := h.1
    have e1 : zI (a : Int) + 1 = zI ((a + 1 : Nat) : Int) := by rw [show (1 : Int32) = zI 1 from rfl, zI_add, al_1]
    rw [f_X5_number_12, h.2.1, h5, if_neg (by rw [zI_le (by omega) (by omega) (by omega) (by omega)]; omega), s_letterAt h a (by omega), bp_s, s_isFigure h a (by omega), bp_s, dgN_s]
    unfold f_X5_number_67
    rw [bp_s, let_s, let_s, let_s, h5, e1]
    by_cases g : isF (T a) = true
    · rw [if_pos g, if_neg z10, if_pos g]
      have i1 := ih (a + 1) fu (cb_sI σ 3 5 (zI ((a + 1 : Nat) : Int))) (txC_5 h _) (sI_i _ _ _ _) (by omega) (fun j h1 h2 => by
        by_cases q : j = a
        · subst q; exact g
        · exact hd j h1 (by omega)) (by omega) (by omega)
      rw [sI_sI] at i1
      by_cases g3 : 3 ≤ a - s
      · rw [if_pos (by rw [zI_sub, show (3 : Int32) = zI 3 from rfl, zI_le (by omega) (by omega) (by omega) (by omega)]; omega)]
        have em : min (a - s) 3 = min (a + 1 - s) 3 := by omega
        rw [em]; exact i1
      · rw [if_neg (by rw [zI_sub, show (3 : Int32) = zI 3 from rfl, zI_le (by omega) (by omega) (by omega) (by omega)]; omega)]
        have em : min (a - s) 3 = a - s := by omega
        have em2 : min (a + 1 - s) 3 = (a - s) + 1 := by omega
        rw [em2] at i1
        have ea : s + (a - s) = a := by omega
        have hF : 48 ≤ T a := by unfold isF at g; simp at g; omega
        have ev : ((10 : Int32) * zI (vlN T s (a - s) : Nat)) + lt T L a - 48 = zI ((vlN T s (a - s + 1) : Nat) : Int) := by
          unfold lt
          rw [if_pos (by omega), show (10 : Int32) = zI 10 from rfl, show (48 : Int32) = zI 48 from rfl, zI_mul, zI_add, zI_sub]
          congr 1
          show _ = ((10 * vlN T s (a - s) + (T (s + (a - s)) - 48) : Nat) : Int)
          rw [ea]; omega
        rw [em, ev]; exact i1
    · rw [if_neg g, if_pos z00, if_neg g, sI_id σ 3 5 _ h5]
theorem dg_F : ∀ (m a j : Nat), a ≤ j → j < dgN T a m → isF (T j) = true := by
  intro m
  induction m with
  | zero => intro a j h1 h2; exact absurd h2 (by show ¬ j < a; omega)
  | succ m ih =>
    intro a j h1 h2
    rw [dgN_s] at h2
    by_cases g : isF (T a) = true
    · rw [if_pos g] at h2
      by_cases q : j = a
      · subst q; exact g
      · exact ih (a + 1) j (by omega) h2
    · rw [if_neg g] at h2; omega
theorem vl_lt (s : Nat) : ∀ c, (∀ j, s ≤ j → j < s + c → isF (T j) = true) → vlN T s c < 10 ^ c := by
  intro c
  induction c with
  | zero => intro _; show 0 < 10 ^ 0; decide
  | succ c ih =>
    intro h
    have h1 := ih (fun j a b => h j a (by omega))
    have h2 := h (s + c) (by omega) (by omega)
    unfold isF at h2
    simp at h2
    show 10 * vlN T s c + (T (s + c) - 48) < 10 ^ (c + 1)
    rw [Nat.pow_succ]; omega
theorem vl_3 {s e : Nat} (he : e = dgN T s (L - s)) : vlN T s (min (e - s) 3) < 1000 := by
  have h1 := vl_lt (T := T) s (min (e - s) 3) (fun j a b => dg_F (L - s) s j a (by rw [← he]; omega))
  have h2 : 10 ^ (min (e - s) 3) ≤ 10 ^ 3 := Nat.pow_le_pow_right (by omega) (by omega)
  omega
/-- the fault of a number from s to e that is v -/
def nbF (lo hi s e v : Nat) : Nat := if e = s then 1 else if 3 < e - s ∨ v < lo ∨ hi < v then 2 else 0
theorem s_number (h : txC T L σ) {a : Nat} (h5 : σ.1 3 5 = zI a) (ha : a ≤ L) (lo hi : Nat) (hlo : lo < 1000) (hhi : hi < 1000) {s e v : Nat} (hs : s = skp T L a) (he : e = dgN T s (L - s)) (hv : v = vlN T s (min (e - s) 3)) : f_X5_number (zI lo) (zI hi) σ = some (zI v, if nbF lo hi s e v = 0 then cb_sI σ 3 5 (zI e) else failS (cb_sI σ 3 5 (zI e)) (nbF lo hi s e v) s) := by
  obtain ⟨s1, s2⟩ := skp_rng T L a ha
  have hL := h.1
  have er := dgN_rng (T := T) (L - s) s
  have hv2 : v < 1000 := by rw [hv]; exact vl_3 he
  unfold f_X5_number
  rw [s_skip h h5 ha, bv_s, let_s, sI_i, ← hs]
  have h12 := s_num_12 (T := T) (L := L) (zI lo) (zI hi) s (L - s) s cb_fu (cb_sI σ 3 5 (zI s)) (txC_5 h _) (sI_i _ _ _ _) (Nat.le_refl _) (fun j g1 g2 => absurd g2 (by omega)) (by omega) (by unfold cb_fu; omega)
  rw [Nat.sub_self, sI_sI, ← he, ← hv] at h12
  rw [show f_X5_number_12 (zI lo) (zI hi) cb_fu (cb_sI σ 3 5 (zI (s : Int))) (zI s) 0 = _ from h12]
  unfold f_X5_number_80 f_X5_number_119 f_X5_number_125
  rw [sI_i, zI_sub, show (1 : Int32) = zI ((1 : Nat) : Int) from rfl, show (2 : Int32) = zI ((2 : Nat) : Int) from rfl, show (3 : Int32) = zI ((3 : Nat) : Int) from rfl, s_fail, s_fail, bv_s, bv_s]
  unfold nbF
  by_cases g1 : e = s
  · rw [if_pos (by rw [g1]), if_pos g1, if_neg (by decide)]
  · rw [if_neg (by rw [zI_inj (by omega) (by omega) (by omega) (by omega)]; omega), if_neg g1]
    by_cases g2 : 3 < e - s
    · rw [if_pos (by rw [zI_lt (by omega) (by omega) (by omega) (by omega)]; omega), if_pos (Or.inl g2), if_neg (by decide)]
    · rw [if_neg (by rw [zI_lt (by omega) (by omega) (by omega) (by omega)]; omega)]
      by_cases g3 : v < lo
      · rw [if_pos (by rw [zI_lt (by omega) (by omega) (by omega) (by omega)]; omega), if_pos (Or.inr (Or.inl g3)), if_neg (by decide)]
      · rw [if_neg (by rw [zI_lt (by omega) (by omega) (by omega) (by omega)]; omega)]
        by_cases g4 : hi < v
        · rw [if_neg (by rw [zI_le (by omega) (by omega) (by omega) (by omega)]; omega), if_pos (Or.inr (Or.inr g4)), if_neg (by decide)]
        · rw [if_pos (by rw [zI_le (by omega) (by omega) (by omega) (by omega)]; omega), if_neg (show ¬ (3 < e - s ∨ v < lo ∨ hi < v) by omega), if_pos rfl]
def fN (τ τ' : cb_St) : Prop := (∀ j, j ≠ 12 → j ≠ 13 → j ≠ 14 → j ≠ 15 → τ'.1 0 j = τ.1 0 j) ∧ ∀ q, q ≠ 0 → τ'.1 q = τ.1 q
theorem fN_r (τ : cb_St) : fN τ τ := ⟨fun _ _ _ _ _ => rfl, fun _ _ => rfl⟩
theorem fN_t {a b c : cb_St} (h1 : fN a b) (h2 : fN b c) : fN a c := ⟨fun j g1 g2 g3 g4 => (h2.1 j g1 g2 g3 g4).trans (h1.1 j g1 g2 g3 g4), fun q g => (h2.2 q g).trans (h1.2 q g)⟩
theorem fN_s (τ : cb_St) (j : Nat) (v : Int32) (h : j = 12 ∨ j = 13 ∨ j = 14 ∨ j = 15) : fN τ (cb_sI τ 0 j v) := ⟨fun i g1 g2 g3 g4 => sI_j _ _ _ (by omega), fun q g => sI_n _ _ _ g⟩
theorem txM_n {τ' : cb_St} (h : txM T L τ) (hf : fN τ τ') : txM T L τ' := ⟨h.1, by rw [hf.1 11 (by decide) (by decide) (by decide) (by decide)]; exact h.2.1, fun i hi => by rw [hf.2 4 (by decide)]; exact h.2.2 i hi⟩
theorem l64_48 : (48 : Int64).toInt = 48 := by decide
theorem l64_57 : (57 : Int64).toInt = 57 := by decide
theorem m_num_42 (x1 x2 : Int32) (s : Nat) : ∀ (m a fu x : Nat) (τ : cb_St), txM T L τ → τ.1 0 13 = zI a → τ.1 0 14 = zI x → τ.1 0 15 = zI s → s ≤ a → (a - s ≤ 3 → x = vlN T s (a - s)) → x ≤ 100009 → (∀ j, s ≤ j → j < a → isF (T j) = true) → a + m = L → m < fu → ∃ (x' : Nat) (τ' : cb_St), f_X8_takeNumber_42 x1 x2 fu τ = f_X8_takeNumber_129 x1 x2 τ' ∧ τ'.1 0 12 = τ.1 0 12 ∧ τ'.1 0 13 = zI (dgN T a m : Nat) ∧ τ'.1 0 14 = zI x' ∧ τ'.1 0 15 = zI s ∧ (dgN T a m - s ≤ 3 → x' = vlN T s (dgN T a m - s)) ∧ x' ≤ 100009 ∧ fN τ τ' := by
  intro m
  induction m with
  | zero =>
    intro a fu x τ h h13 h14 h15 hs hx hx2 hd e hf
    obtain ⟨fu, rfl⟩ : ∃ g, fu = g + 1 := ⟨fu - 1, by omega⟩
    have hL := h.1
    refine ⟨x, τ, ?_, rfl, h13, h14, h15, hx, hx2, fN_r τ⟩
    rw [f_X8_takeNumber_42, h.2.1, h13, if_pos (by rw [zI_le (by omega) (by omega) (by omega) (by omega)]; omega)]
  | succ m ih =>
    intro a fu x τ h h13 h14 h15 hs hx hx2 hd e hf
    obtain ⟨fu, rfl⟩ : ∃ g, fu = g + 1 := ⟨fu - 1, by omega⟩
    have hL := h.1
    obtain ⟨k1, k2⟩ := h.2.2 a (by omega)
    have e1 : zI (a : Int) + 1 = zI ((a + 1 : Nat) : Int) := by rw [show (1 : Int32) = zI 1 from rfl, zI_add, al_1]
    have hin : f_X8_in (Int32.toInt64 (zI (T a : Int))) 48 57 τ = some (if isF (T a) then zI 1 else zI 0) := by
      rw [s_in, zI_64 (by omega) (by omega), l64_48, l64_57]
      unfold isF
      congr 1
      by_cases g1 : 48 ≤ T a
      · by_cases g2 : T a ≤ 57
        · rw [if_pos (by omega)]; simp [g1, g2]
        · rw [if_neg (by omega)]; simp [g2]
      · rw [if_neg (by omega)]; simp [g1]
    rw [f_X8_takeNumber_42, h.2.1, h13, if_neg (by rw [zI_le (by omega) (by omega) (by omega) (by omega)]; omega)]
    simp (disch := omega) only [zI_ck, zI_clamp, Int.toNat_natCast, k1]
    rw [hin, bp_s, dgN_s]
    unfold f_X8_takeNumber_113
    by_cases g : isF (T a) = true
    · rw [if_pos g, if_neg z10, if_pos g]
      have hF : 48 ≤ T a ∧ T a ≤ 57 := by unfold isF at g; simp at g; omega
      have hd2 : ∀ j, s ≤ j → j < a + 1 → isF (T j) = true := fun j h1 h2 => by
        by_cases q : j = a
        · subst q; exact g
        · exact hd j h1 (by omega)
      have step : ∀ x2' : Nat, (a + 1 - s ≤ 3 → x2' = vlN T s (a + 1 - s)) → x2' ≤ 100009 → ∃ (x' : Nat) (τ' : cb_St), f_X8_takeNumber_42 x1 x2 fu (cb_sI (cb_sI τ 0 14 (zI x2')) 0 13 (zI ((a + 1 : Nat) : Int))) = f_X8_takeNumber_129 x1 x2 τ' ∧ τ'.1 0 12 = τ.1 0 12 ∧ τ'.1 0 13 = zI (dgN T (a + 1) m : Nat) ∧ τ'.1 0 14 = zI x' ∧ τ'.1 0 15 = zI s ∧ (dgN T (a + 1) m - s ≤ 3 → x' = vlN T s (dgN T (a + 1) m - s)) ∧ x' ≤ 100009 ∧ fN τ τ' := by
        intro x2' q1 q2
        have hfr : fN τ (cb_sI (cb_sI τ 0 14 (zI x2')) 0 13 (zI ((a + 1 : Nat) : Int))) := fN_t (fN_s τ 14 _ (by omega)) (fN_s _ 13 _ (by omega))
        obtain ⟨x', τ', y1, y2, y3, y4, y5, y6, y7, y8⟩ := ih (a + 1) fu x2' _ (txM_n h hfr) (sI_i _ _ _ _) (by rw [sI_j _ _ _ (by decide), sI_i]) (by rw [sI_j _ _ _ (by decide), sI_j _ _ _ (by decide)]; exact h15) (by omega) q1 q2 hd2 (by omega) (by omega)
        exact ⟨x', τ', y1, by rw [y2, sI_j _ _ _ (by decide), sI_j _ _ _ (by decide)], y3, y4, y5, y6, y7, fN_t hfr y8⟩
      simp only [let_s, h14, sI_j _ _ _ (show (13 : Nat) ≠ 14 by decide), h13, e1]
      by_cases g3 : x ≤ 10000
      · rw [if_pos (by rw [show (10000 : Int32) = zI 10000 from rfl, zI_le (by omega) (by omega) (by omega) (by omega)]; omega)]
        have ev : ((10 : Int32) * zI (x : Int)) + zI (T a : Int) - 48 = zI ((10 * x + (T a - 48) : Nat) : Int) := by
          rw [show (10 : Int32) = zI 10 from rfl, show (48 : Int32) = zI 48 from rfl, zI_mul, zI_add, zI_sub]
          congr 1
          omega
        rw [ev]
        refine step _ (fun q => ?_) (by omega)
        have em : a + 1 - s = (a - s) + 1 := by omega
        rw [em]
        show _ = 10 * vlN T s (a - s) + (T (s + (a - s)) - 48)
        have ea : s + (a - s) = a := by omega
        rw [ea, ← hx (by omega)]
      · rw [if_neg (by rw [show (10000 : Int32) = zI 10000 from rfl, zI_le (by omega) (by omega) (by omega) (by omega)]; omega)]
        refine step x (fun q => ?_) hx2
        have h1 := vl_lt (T := T) s (a - s) (fun j g1 g2 => hd j g1 (by omega))
        have h2 : 10 ^ (a - s) ≤ 10 ^ 3 := Nat.pow_le_pow_right (by omega) (by omega)
        have h3 := hx (by omega)
        omega
    · rw [if_neg g, if_pos z00, if_neg g]
      exact ⟨x, τ, rfl, rfl, h13, h14, h15, hx, hx2, fN_r τ⟩
theorem m_number (h : txM T L τ) {a : Nat} (h13 : τ.1 0 13 = zI a) (ha : a ≤ L) (lo hi : Nat) (hlo : lo < 1000) (hhi : hi < 1000) {s e v : Nat} (hs : s = skp T L a) (he : e = dgN T s (L - s)) (hv : v = vlN T s (min (e - s) 3)) : ∃ τ', f_X8_takeNumber (zI lo) (zI hi) τ = some (zI (nbF lo hi s e v : Nat), τ') ∧ fN τ τ' ∧ (nbF lo hi s e v = 0 → τ'.1 0 12 = τ.1 0 12 ∧ τ'.1 0 13 = zI e ∧ τ'.1 0 14 = zI v ∧ τ'.1 0 15 = zI s) ∧ (¬ nbF lo hi s e v = 0 → τ'.1 0 12 = zI s) := by
  obtain ⟨s1, s2⟩ := skp_rng T L a ha
  have hL := h.1
  have er := dgN_rng (T := T) (L - s) s
  have hv2 : v < 1000 := by rw [hv]; exact vl_3 he
  have hin : ∀ τ1, f_X8_in (Int32.toInt64 (lt T L s)) 48 57 τ1 = some (if s < L ∧ isF (T s) = true then zI 1 else zI 0) := by
    intro τ1
    rw [s_in, l64_48, l64_57]
    unfold lt isF
    by_cases g : s < L
    · have := (h.2.2 s g).2
      rw [if_pos g, zI_64 (by omega) (by omega)]
      congr 1
      by_cases g1 : 48 ≤ T s
      · by_cases g2 : T s ≤ 57
        · rw [if_pos (by omega), if_pos ⟨g, by simp [g1, g2]⟩]
        · rw [if_neg (by omega), if_neg (by intro q; simp [g2] at q)]
      · rw [if_neg (by omega), if_neg (by intro q; simp [g1] at q)]
    · rw [if_neg g, zI_m1, zI_64 (by omega) (by omega), if_neg (by omega), if_neg (fun q => g q.1)]
  unfold f_X8_takeNumber
  rw [m_here h h13 ha, bi_s, ← hs, hin, bp_s, sI_i]
  by_cases g : s < L ∧ isF (T s) = true
  · rw [if_pos g, if_neg z10, let_s, let_s]
    have hfr : fN τ (cb_sI (cb_sI (cb_sI τ 0 13 (zI s)) 0 15 (zI s)) 0 14 0) := fN_t (fN_s τ 13 _ (by omega)) (fN_t (fN_s _ 15 _ (by omega)) (fN_s _ 14 _ (by omega)))
    have hes : ¬ e = s := by
      obtain ⟨m, hm⟩ : ∃ m, L - s = m + 1 := ⟨L - s - 1, by omega⟩
      rw [hm, dgN_s, if_pos g.2] at he
      have := dgN_rng (T := T) m (s + 1)
      omega
    obtain ⟨x', τ', y1, y2, y3, y4, y5, y6, y7, y8⟩ := m_num_42 (T := T) (L := L) (zI lo) (zI hi) s (L - s) s cb_fu 0 _ (txM_n h hfr) (by rw [sI_j _ _ _ (by decide), sI_j _ _ _ (by decide), sI_i]) (sI_i _ _ _ _) (by rw [sI_j _ _ _ (by decide), sI_i]) (Nat.le_refl _) (fun _ => by rw [Nat.sub_self]; rfl) (by omega) (fun j g1 g2 => absurd g2 (by omega)) (by omega) (by unfold cb_fu; omega)
    rw [← he] at y3 y6
    have y2' : τ'.1 0 12 = τ.1 0 12 := by rw [y2, sI_j _ _ _ (by decide), sI_j _ _ _ (by decide), sI_j _ _ _ (by decide)]
    rw [show cb_sI (cb_sI (cb_sI τ 0 13 (zI (s : Int))) 0 15 (zI (s : Int))) 0 14 0 = cb_sI (cb_sI (cb_sI τ 0 13 (zI (s : Int))) 0 15 (zI (s : Int))) 0 14 (zI ((0 : Nat) : Int)) from rfl] at hfr
    rw [show f_X8_takeNumber_42 (zI lo) (zI hi) cb_fu (cb_sI (cb_sI (cb_sI τ 0 13 (zI (s : Int))) 0 15 (zI (s : Int))) 0 14 0) = _ from y1]
    unfold f_X8_takeNumber_129 f_X8_takeNumber_157 f_X8_fails
    rw [y3, y5, y4, zI_sub, show (3 : Int32) = zI 3 from rfl, let_s, bi_s, s_in, bp_s, zI_64 (by omega) (by omega), zI_64 (by omega) (by omega), zI_64 (by omega) (by omega)]
    by_cases g2 : 3 < e - s
    · have en : nbF lo hi s e v = 2 := by unfold nbF; rw [if_neg hes, if_pos (Or.inl g2)]
      rw [if_pos (by rw [zI_lt (by omega) (by omega) (by omega) (by omega)]; omega), en]
      exact ⟨_, rfl, fN_t hfr (fN_t y8 (fN_s _ 12 _ (by omega))), fun q => absurd q (by decide), fun _ => sI_i _ _ _ _⟩
    · have ex : x' = v := by rw [y6 (by omega), hv]; congr 1; omega
      rw [if_neg (by rw [zI_lt (by omega) (by omega) (by omega) (by omega)]; omega), ex]
      by_cases g3 : lo ≤ v ∧ v ≤ hi
      · have en : nbF lo hi s e v = 0 := by unfold nbF; rw [if_neg hes, if_neg (by omega)]
        rw [if_pos (show (lo : Int) ≤ (v : Int) ∧ (v : Int) ≤ (hi : Int) by omega), if_neg z10, en]
        exact ⟨τ', rfl, fN_t hfr y8, fun _ => ⟨y2', y3, by rw [y4, ex], y5⟩, fun q => absurd rfl q⟩
      · have en : nbF lo hi s e v = 2 := by unfold nbF; rw [if_neg hes, if_pos (by omega)]
        rw [if_neg (show ¬ ((lo : Int) ≤ (v : Int) ∧ (v : Int) ≤ (hi : Int)) by omega), if_pos z00, en]
        exact ⟨_, rfl, fN_t hfr (fN_t y8 (fN_s _ 12 _ (by omega))), fun q => absurd q (by decide), fun _ => sI_i _ _ _ _⟩
  · rw [if_neg g, if_pos z00]
    have hes : e = s := by
      by_cases q : s < L
      · obtain ⟨m, hm⟩ : ∃ m, L - s = m + 1 := ⟨L - s - 1, by omega⟩
        rw [hm, dgN_s, if_neg (fun z => g ⟨q, z⟩)] at he
        exact he
      · have hm : L - s = 0 := by omega
        rw [hm] at he; exact he
    have en : nbF lo hi s e v = 1 := by unfold nbF; rw [if_pos hes]
    unfold f_X8_fails
    rw [let_s, bi_s, en]
    exact ⟨_, rfl, fN_t (fN_s τ 13 _ (by omega)) (fN_s _ 12 _ (by omega)), fun q => absurd q (by decide), fun _ => sI_i _ _ _ _⟩
end TX
