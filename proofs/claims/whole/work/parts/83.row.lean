/-! ===== the shortest row of shuffles ===== -/
theorem s_fill_5 (k N2 : Nat) (x1 : Int32) (hN : N2 < 90000) : ∀ (m i fu : Nat) (σ : cb_St), i + m = N2 → m < fu → ∃ g : Nat → Int32, f_J7_fill_53178_5 k N2 x1 fu σ (zI i) (zI N2) = some (cb_sA σ k g) ∧ (∀ j, i ≤ j → j < N2 → g j = x1) ∧ ∀ j, (j < i ∨ N2 ≤ j) → g j = σ.1 k j := by
  intro m
  induction m with
  | zero =>
    intro i fu σ e hf
    obtain ⟨fu, rfl⟩ : ∃ g, fu = g + 1 := ⟨fu - 1, by omega⟩
    refine ⟨σ.1 k, ?_, fun j h1 h2 => absurd h2 (by omega), fun q _ => rfl⟩
    rw [f_J7_fill_53178_5, sA_id, if_pos (by rw [zI_le (by omega) (by omega) (by omega) (by omega)]; omega)]
  | succ m ih =>
    intro i fu σ e hf
    obtain ⟨fu, rfl⟩ : ∃ g, fu = g + 1 := ⟨fu - 1, by omega⟩
    have e1 : zI (i : Int) + 1 = zI ((i + 1 : Nat) : Int) := by rw [show (1 : Int32) = zI 1 from rfl, zI_add, al_1]
    obtain ⟨g, h1, h2, h3⟩ := ih (i + 1) fu (cb_sI σ k i x1) (by omega) (by omega)
    refine ⟨g, ?_, fun j g1 g2 => ?_, fun j g1 => ?_⟩
    · rw [f_J7_fill_53178_5, if_neg (by rw [zI_le (by omega) (by omega) (by omega) (by omega)]; omega)]
      simp (disch := omega) only [zI_ck, zI_clamp, Int.toNat_natCast, let_s, e1]
      rw [h1, sA_sI]
    · by_cases hj : j = i
      · subst hj; rw [h3 j (by omega), sI_e, upd_e]
      · exact h2 j (by omega) g2
    · rw [h3 j (by omega), sI_e, upd_n _ _ (by omega)]
theorem s_fill (k N2 : Nat) (x1 : Int32) (hN : N2 < 90000) (σ : cb_St) : ∃ g : Nat → Int32, f_J7_fill_53178 k N2 x1 σ = some (cb_sA σ k g) ∧ (∀ j, j < N2 → g j = x1) ∧ ∀ j, N2 ≤ j → g j = σ.1 k j := by
  obtain ⟨g, h1, h2, h3⟩ := s_fill_5 k N2 x1 hN N2 0 cb_fu σ (by omega) (by unfold cb_fu; omega)
  refine ⟨g, ?_, fun j hj => h2 j (by omega) hj, fun j hj => h3 j (by omega)⟩
  unfold f_J7_fill_53178
  rw [let_s, show Int32.ofNat N2 = zI (N2 : Int) from (zI_nat N2).symm]
  exact h1
/-- the first shuffle of those from b on that brings the place i to one that has d -/
def gK (n : Nat) (s : Nat → Int) (i : Nat) (d : Int) (b : Nat) : Nat → Int
  | 0 => -1
  | m + 1 => if s (pj b n i) = d then (b : Int) else gK n s i d (b + 1) m
theorem gK_s (n : Nat) (s : Nat → Int) (i : Nat) (d : Int) (b m : Nat) : gK n s i d b (m + 1) = if s (pj b n i) = d then (b : Int) else gK n s i d (b + 1) m := rfl
theorem gK_rng (n : Nat) (s : Nat → Int) (i : Nat) (d : Int) : ∀ (m b : Nat), gK n s i d b m = -1 ∨ ((b : Int) ≤ gK n s i d b m ∧ gK n s i d b m < b + m) := by
  intro m
  induction m with
  | zero => intro b; left; rfl
  | succ m ih =>
    intro b
    rw [gK_s]
    by_cases h : s (pj b n i) = d
    · right; rw [if_pos h]; omega
    · rw [if_neg h]
      rcases ih (b + 1) with e | e
      · left; exact e
      · right; omega
def st1 (n : Nat) (d : Int) (i : Nat) (s : Nat → Int) : Nat → Int := if s i = -1 ∧ ¬ gK n s i (d - 1) 0 3 = -1 then (fun j => if j = i then d else s j) else s
def stI (n : Nat) (d : Int) (i : Nat) : Nat → (Nat → Int) → Nat → Int
  | 0, s => s
  | m + 1, s => stI n d (i + 1) m (st1 n d i s)
def stO (n : Nat) (d : Int) : Nat → (Nat → Int) → Nat → Int
  | 0, s => s
  | m + 1, s => stO n (d + 1) m (stI n d 0 n s)
theorem stI_s (n : Nat) (d : Int) (i m : Nat) (s : Nat → Int) : stI n d i (m + 1) s = stI n d (i + 1) m (st1 n d i s) := rfl
theorem stO_s (n : Nat) (d : Int) (m : Nat) (s : Nat → Int) : stO n d (m + 1) s = stO n (d + 1) m (stI n d 0 n s) := rfl
def okS (s : Nat → Int) : Prop := ∀ i, -1 ≤ s i ∧ s i ≤ 10
theorem ok_1 {n : Nat} {d : Int} {i : Nat} {s : Nat → Int} (h : okS s) (h1 : 1 ≤ d) (h2 : d ≤ 10) : okS (st1 n d i s) := by
  intro j
  unfold st1
  have := h j
  split
  · (try dsimp only); split <;> omega
  · exact this
theorem ok_I {n : Nat} {d : Int} (h1 : 1 ≤ d) (h2 : d ≤ 10) : ∀ (m i : Nat) (s : Nat → Int), okS s → okS (stI n d i m s) := by
  intro m
  induction m with
  | zero => intro i s h; exact h
  | succ m ih => intro i s h; rw [stI_s]; exact ih _ _ (ok_1 h h1 h2)
/-- the class's spare row holds s -/
def hasS (σ : cb_St) (s : Nat → Int) : Prop := ∀ i, i < 12 → σ.1 2 i = zI (s i)
def hasW (τ : cb_St) (s : Nat → Int) : Prop := ∀ i, i < 12 → τ.1 11 i = zI (if s i < 0 then 99 else s i)
theorem sc_2 (σ : cb_St) (i : Nat) (v : Int32) : scC σ (cb_sI σ 2 i v) := ⟨sI_2 _ _ _ _, fun q _ h _ => by rw [sI_n _ _ _ h]⟩
theorem sc_11 (τ : cb_St) (i : Nat) (v : Int32) : scM τ (cb_sI τ 11 i v) := ⟨fun j _ => by rw [sI_n _ _ _ (by decide)], fun q hq => by rw [sI_n _ _ _ (by omega)]⟩
theorem s_stepsFrom (σ : cb_St) (s : Nat → Int) (hs : hasS σ s) (i : Nat) (hi : i < 12) : f_X7_stepsFrom (zI i) σ = some (zI (s i)) := by
  unfold f_X7_stepsFrom f_X7_stepsFrom_10; simp (disch := omega) only [zI_lit, zI_neg, zI_add, zI_sub, zI_mul, zI_lt, zI_le, zI_inj, zI_ck, zI_clamp, ← Int.natCast_add, la_1, al_1, la_2, al_2, la_3, al_3, la_4, al_4, la_5, al_5, la_6, al_6, la_7, al_7, la_8, al_8, la_9, al_9, la_10, al_10, la_11, al_11, la_12, al_12, la_13, al_13, la_16, al_16, la_19, al_19, la_20, al_20, la_24, al_24, la_25, al_25, la_26, al_26, la_27, al_27, la_51, al_51, la_52, al_52, la_0, Int.toNat_natCast, bp_s, let_s, bi_s, bv_s, b1_f]
  rw [if_neg (by omega), if_pos (by omega), hs i hi]
theorem s_stepTo_2 (σ : cb_St) (s : Nat → Int) (hs : hasS σ s) (ok : okS s) (n i : Nat) (h0 : σ.1 13 0 = zI n) (hn : n ≤ 12) (hi : i < n) (d : Int) (d1 : -1 ≤ d) (d2 : d ≤ 10) : ∀ (m b fu : Nat), b + m = 3 → m < fu → f_X7_stepTo_2 (zI i) (zI d) σ fu (zI b) = some (zI (gK n s i d b m)) := by
  intro m
  induction m with
  | zero =>
    intro b fu e hf
    obtain ⟨fu, rfl⟩ : ∃ g, fu = g + 1 := ⟨fu - 1, by omega⟩
    rw [f_X7_stepTo_2, if_pos (by rw [show (3 : Int32) = zI 3 from rfl, zI_le (by omega) (by omega) (by omega) (by omega)]; omega), zI_m1]; rfl
  | succ m ih =>
    intro b fu e hf
    obtain ⟨fu, rfl⟩ : ∃ g, fu = g + 1 := ⟨fu - 1, by omega⟩
    have e1 : zI (b : Int) + 1 = zI ((b + 1 : Nat) : Int) := by rw [show (1 : Int32) = zI 1 from rfl, zI_add, al_1]
    have hp := (pj_lt b n i hi).1
    obtain ⟨o1, o2⟩ := ok (pj b n i)
    rw [f_X7_stepTo_2, if_neg (by rw [show (3 : Int32) = zI 3 from rfl, zI_le (by omega) (by omega) (by omega) (by omega)]; omega), h0, s_placeAfter σ b n i (by omega) hn hi, bp_s, s_stepsFrom σ s hs _ (by omega), bp_s, let_s, e1, ih (b + 1) fu (by omega) (by omega), gK_s]
    by_cases h : s (pj b n i) = d
    · rw [if_pos h, if_pos (by rw [h])]
    · rw [if_neg h, if_neg (by rw [zI_inj (by omega) (by omega) (by omega) (by omega)]; exact h)]
theorem s_stepTo (σ : cb_St) (s : Nat → Int) (hs : hasS σ s) (ok : okS s) (n i : Nat) (h0 : σ.1 13 0 = zI n) (hn : n ≤ 12) (hi : i < n) (d : Int) (d1 : -1 ≤ d) (d2 : d ≤ 10) : f_X7_stepTo (zI i) (zI d) σ = some (zI (gK n s i d 0 3)) :=
  s_stepTo_2 σ s hs ok n i h0 hn hi d d1 d2 3 0 cb_fu (by omega) (by unfold cb_fu; omega)
theorem s_cs_36 (x1 : Int32) (K : cb_St → Int32 → Option cb_St) (n : Nat) (hn : n ≤ 12) (d : Nat) (d1 : 1 ≤ d) (d2 : d ≤ 10) : ∀ (m i fu : Nat) (σ : cb_St) (s : Nat → Int), σ.1 13 0 = zI n → hasS σ s → okS s → i + m = n → m < fu → ∃ σ', f_X7_countSteps_36 K x1 fu σ (zI d) (zI i) = K σ' (zI ((d + 1 : Nat) : Int)) ∧ scC σ σ' ∧ hasS σ' (stI n d i m s) := by
  have e1 : ∀ j : Nat, zI (j : Int) + 1 = zI ((j + 1 : Nat) : Int) := fun j => by rw [show (1 : Int32) = zI 1 from rfl, zI_add, al_1]
  intro m
  induction m with
  | zero =>
    intro i fu σ s h0 hs ok e hf
    obtain ⟨fu, rfl⟩ : ∃ g, fu = g + 1 := ⟨fu - 1, by omega⟩
    refine ⟨σ, ?_, scC_r σ, hs⟩
    rw [f_X7_countSteps_36, h0, if_pos (by rw [zI_le (by omega) (by omega) (by omega) (by omega)]; omega)]
    unfold f_X7_countSteps_87
    rw [let_s, e1]
  | succ m ih =>
    intro i fu σ s h0 hs ok e hf
    obtain ⟨fu, rfl⟩ : ∃ g, fu = g + 1 := ⟨fu - 1, by omega⟩
    have ed : zI (d : Int) - 1 = zI ((d : Int) - 1) := by rw [show (1 : Int32) = zI 1 from rfl, zI_sub]
    obtain ⟨o1, o2⟩ := ok i
    rw [f_X7_countSteps_36, h0, if_neg (by rw [zI_le (by omega) (by omega) (by omega) (by omega)]; omega), if_neg (by rw [show (12 : Int32) = zI 12 from rfl, zI_le (by omega) (by omega) (by omega) (by omega)]; omega), s_stepsFrom σ s hs i (by omega), bp_s, ed, s_stepTo σ s hs ok n i h0 hn (by omega) _ (by omega) (by omega), bp_s]
    unfold f_X7_countSteps_81
    simp (disch := omega) only [zI_ck, zI_clamp, Int.toNat_natCast, let_s, e1]
    rw [stI_s]
    by_cases h : s i = -1
    · rw [if_pos (by rw [h, zI_m1])]
      have hg := gK_rng n s i ((d : Int) - 1) 3 0
      by_cases g : gK n s i ((d : Int) - 1) 0 3 = -1
      · rw [if_pos (by rw [g, zI_m1])]
        have es : st1 n d i s = s := by unfold st1; rw [if_neg (by intro q; exact q.2 g)]
        rw [es]
        exact ih (i + 1) fu σ s h0 hs ok (by omega) (by omega)
      · rw [if_neg (by rw [zI_m1, zI_inj (by omega) (by omega) (by omega) (by omega)]; exact g)]
        have es : st1 n d i s = fun j => if j = i then (d : Int) else s j := by unfold st1; rw [if_pos ⟨h, g⟩]
        obtain ⟨σ', k1, k2, k3⟩ := ih (i + 1) fu (cb_sI σ 2 i (zI d)) (st1 n d i s) (by rw [sI_n _ _ _ (by decide)]; exact h0) (fun j hj => by
          rw [sI_e, es]
          by_cases q : j = i
          · subst q; rw [upd_e]; simp
          · rw [upd_n _ _ q, hs j hj]; simp [q]) (ok_1 ok (by omega) (by omega)) (by omega) (by omega)
        exact ⟨σ', k1, scC_t (sc_2 _ _ _) k2, k3⟩
    · rw [if_neg (by rw [zI_m1, zI_inj (by omega) (by omega) (by omega) (by omega)]; exact h)]
      have es : st1 n d i s = s := by unfold st1; rw [if_neg (by intro q; exact h q.1)]
      rw [es]
      exact ih (i + 1) fu σ s h0 hs ok (by omega) (by omega)
theorem s_cs_28 (x1 : Int32) (n : Nat) (hn : n ≤ 12) : ∀ (m d fu : Nat) (σ : cb_St) (s : Nat → Int), 1 ≤ d → d + m = 11 → m < fu → σ.1 13 0 = zI n → hasS σ s → okS s → ∃ σ', f_X7_countSteps_28 x1 fu σ (zI d) = some σ' ∧ scC σ σ' ∧ hasS σ' (stO n d m s) := by
  intro m
  induction m with
  | zero =>
    intro d fu σ s hd e hf h0 hs ok
    obtain ⟨fu, rfl⟩ : ∃ g, fu = g + 1 := ⟨fu - 1, by omega⟩
    refine ⟨σ, ?_, scC_r σ, hs⟩
    rw [f_X7_countSteps_28, if_pos (by rw [show (10 : Int32) = zI 10 from rfl, zI_lt (by omega) (by omega) (by omega) (by omega)]; omega)]
  | succ m ih =>
    intro d fu σ s hd e hf h0 hs ok
    obtain ⟨fu, rfl⟩ : ∃ g, fu = g + 1 := ⟨fu - 1, by omega⟩
    obtain ⟨σ1, k1, k2, k3⟩ := s_cs_36 x1 (f_X7_countSteps_28 x1 fu) n hn d hd (by omega) n 0 cb_fu σ s h0 hs ok (by omega) (by unfold cb_fu; omega)
    obtain ⟨σ2, j1, j2, j3⟩ := ih (d + 1) fu σ1 _ (by omega) (by omega) (by omega) (by rw [k2.2 13 (by omega) (by omega) (by omega)]; exact h0) k3 (ok_I (by omega) (by omega) _ _ _ ok)
    refine ⟨σ2, ?_, scC_t k2 j2, j3⟩
    rw [f_X7_countSteps_28, if_neg (by rw [show (10 : Int32) = zI 10 from rfl, zI_lt (by omega) (by omega) (by omega) (by omega)]; omega)]
    rw [show f_X7_countSteps_36 (f_X7_countSteps_28 x1 fu) x1 cb_fu σ (zI d) 0 = _ from k1]
    exact j1
def s00 (k : Nat) : Nat → Int := fun j => if j = k then 0 else -1
theorem ok_00 (k : Nat) : okS (s00 k) := by intro i; unfold s00; split <;> omega
theorem s_cs (n k : Nat) (hn : n ≤ 12) (hk : k < 12) (σ : cb_St) (h0 : σ.1 13 0 = zI n) : ∃ σ', f_X7_countSteps (zI k) σ = some σ' ∧ scC σ σ' ∧ hasS σ' (stO n ((1 : Nat) : Int) 10 (s00 k)) := by
  obtain ⟨g, f1, f2, f3⟩ := s_fill 2 12 (-1) (by omega) σ
  obtain ⟨σ', k1, k2, k3⟩ := s_cs_28 (zI k) n hn 10 1 cb_fu (cb_sI (cb_sA σ 2 g) 2 k 0) (s00 k) (by omega) (by omega) (by unfold cb_fu; omega) (by rw [sI_n _ _ _ (by decide), sA_n _ _ (by decide)]; exact h0) (fun i hi => by
    rw [sI_e]; unfold s00
    by_cases h : i = k
    · subst h; rw [upd_e, if_pos rfl]; rfl
    · rw [upd_n _ _ h, sA_e, f2 i hi, if_neg h, zI_m1]) (ok_00 k)
  refine ⟨σ', ?_, ⟨?_, fun q a b c => ?_⟩, k3⟩
  · unfold f_X7_countSteps
    rw [f1, bv_s, if_neg (by rw [show (0 : Int32) = zI 0 from rfl, zI_lt (by omega) (by omega) (by omega) (by omega)]; omega), if_pos (by rw [show (12 : Int32) = zI 12 from rfl, zI_lt (by omega) (by omega) (by omega) (by omega)]; omega)]
    simp (disch := omega) only [zI_ck, zI_clamp, Int.toNat_natCast, let_s]
    exact k1
  · rw [k2.1, sI_2, sA_2]
  · rw [k2.2 q a b c, sI_n _ _ _ b, sA_n _ _ b]
/-- the reference: one place, from the shuffle b on -/
theorem m_fa_51 (x1 : Int32) (K33 : cb_St → Int32 → Option cb_St) (K : cb_St → Int32 → Int32 → Option cb_St) (n : Nat) (hn : n ≤ 12) (d : Nat) (d1 : 1 ≤ d) (d2 : d ≤ 10) (i : Nat) (hi : i < n) : ∀ (m b fu : Nat) (τ : cb_St) (s : Nat → Int), hasW τ s → okS s → b + m = 3 → m < fu → ∃ τ', f_X8_findAway_51 K33 K x1 (zI n) fu τ (zI d) (zI i) (zI b) = K τ' (zI d) (zI ((i + 1 : Nat) : Int)) ∧ scM τ τ' ∧ hasW τ' (if s i = -1 ∧ ¬ gK n s i ((d : Int) - 1) b m = -1 then (fun j => if j = i then (d : Int) else s j) else s) := by
  have e1 : ∀ j : Nat, zI (j : Int) + 1 = zI ((j + 1 : Nat) : Int) := fun j => by rw [show (1 : Int32) = zI 1 from rfl, zI_add, al_1]
  intro m
  induction m with
  | zero =>
    intro b fu τ s hs ok e hf
    obtain ⟨fu, rfl⟩ : ∃ g, fu = g + 1 := ⟨fu - 1, by omega⟩
    refine ⟨τ, ?_, scM_r τ, ?_⟩
    · rw [f_X8_findAway_51, if_pos (by rw [show (3 : Int32) = zI 3 from rfl, zI_le (by omega) (by omega) (by omega) (by omega)]; omega), let_s, e1]
    · rw [if_neg (by intro q; exact q.2 rfl)]; exact hs
  | succ m ih =>
    intro b fu τ s hs ok e hf
    obtain ⟨fu, rfl⟩ : ∃ g, fu = g + 1 := ⟨fu - 1, by omega⟩
    have ed : zI (d : Int) - 1 = zI ((d : Int) - 1) := by rw [show (1 : Int32) = zI 1 from rfl, zI_sub]
    have hp := (pj_lt b n i hi).1
    obtain ⟨o1, o2⟩ := ok i
    obtain ⟨p1, p2⟩ := ok (pj b n i)
    have hs1 := hs i (by omega)
    have hs2 := hs (pj b n i) (by omega)
    rw [f_X8_findAway_51, if_neg (by rw [show (3 : Int32) = zI 3 from rfl, zI_le (by omega) (by omega) (by omega) (by omega)]; omega), m_goes τ b n i (by omega) hn hi, bp_s, ed]
    unfold f_X8_findAway_98 f_X8_findAway_105
    simp (disch := omega) only [zI_ck, zI_clamp, Int.toNat_natCast, let_s, e1]
    rw [hs2, gK_s]
    by_cases h : s i = -1
    · rw [if_pos (by rw [hs1, if_pos (by omega)]; rfl)]
      by_cases g : s (pj b n i) = (d : Int) - 1
      · rw [if_pos (by rw [if_neg (by omega), g]), if_pos g]
        have ok2 : okS (fun j => if j = i then (d : Int) else s j) := by
          intro j; (try dsimp only)
          have := ok j
          split <;> omega
        obtain ⟨τ', k1, k2, k3⟩ := ih (b + 1) fu (cb_sI τ 11 i (zI d)) (fun j => if j = i then (d : Int) else s j) (fun j hj => by
          rw [sI_e]
          (try dsimp only)
          by_cases q : j = i
          · subst q; rw [upd_e]; simp only [if_true]; rw [if_neg (by omega)]
          · rw [upd_n _ _ q, hs j hj]; simp only [if_neg q]) ok2 (by omega) (by omega)
        refine ⟨τ', k1, scM_t (sc_11 _ _ _) k2, ?_⟩
        rw [if_neg (by intro q; have := q.1; rw [if_pos rfl] at this; omega)] at k3
        rw [if_pos ⟨h, by omega⟩]
        exact k3
      · rw [if_neg (by
            by_cases q : s (pj b n i) < 0
            · rw [if_pos q, zI_inj (by omega) (by omega) (by omega) (by omega)]; omega
            · rw [if_neg q, zI_inj (by omega) (by omega) (by omega) (by omega)]; exact g), if_neg g, sI_id τ 11 i _ rfl]
        exact ih (b + 1) fu τ s hs ok (by omega) (by omega)
    · rw [if_neg (by rw [hs1, if_neg (by omega), show (99 : Int32) = zI 99 from rfl, zI_inj (by omega) (by omega) (by omega) (by omega)]; omega), sI_id τ 11 i _ rfl]
      obtain ⟨τ', k1, k2, k3⟩ := ih (b + 1) fu τ s hs ok (by omega) (by omega)
      refine ⟨τ', k1, k2, ?_⟩
      rw [if_neg (by intro q; exact h q.1)] at k3
      rw [if_neg (by intro q; exact h q.1)]
      exact k3
theorem m_fa_42 (x1 : Int32) (K33 : cb_St → Int32 → Option cb_St) (n : Nat) (hn : n ≤ 12) (d : Nat) (d1 : 1 ≤ d) (d2 : d ≤ 10) : ∀ (m i fu : Nat) (τ : cb_St) (s : Nat → Int), hasW τ s → okS s → i + m = n → m < fu → ∃ τ', f_X8_findAway_42 K33 x1 (zI n) fu τ (zI d) (zI i) = K33 τ' (zI ((d + 1 : Nat) : Int)) ∧ scM τ τ' ∧ hasW τ' (stI n d i m s) := by
  have e1 : ∀ j : Nat, zI (j : Int) + 1 = zI ((j + 1 : Nat) : Int) := fun j => by rw [show (1 : Int32) = zI 1 from rfl, zI_add, al_1]
  intro m
  induction m with
  | zero =>
    intro i fu τ s hs ok e hf
    obtain ⟨fu, rfl⟩ : ∃ g, fu = g + 1 := ⟨fu - 1, by omega⟩
    refine ⟨τ, ?_, scM_r τ, hs⟩
    rw [f_X8_findAway_42, if_pos (by rw [zI_le (by omega) (by omega) (by omega) (by omega)]; omega), let_s, e1]
  | succ m ih =>
    intro i fu τ s hs ok e hf
    obtain ⟨fu, rfl⟩ : ∃ g, fu = g + 1 := ⟨fu - 1, by omega⟩
    obtain ⟨τ1, k1, k2, k3⟩ := m_fa_51 x1 K33 (f_X8_findAway_42 K33 x1 (zI n) fu) n hn d d1 d2 i (by omega) 3 0 cb_fu τ s hs ok (by omega) (by unfold cb_fu; omega)
    obtain ⟨τ2, j1, j2, j3⟩ := ih (i + 1) fu τ1 (st1 n d i s) k3 (ok_1 ok (by omega) (by omega)) (by omega) (by omega)
    refine ⟨τ2, ?_, scM_t k2 j2, j3⟩
    rw [f_X8_findAway_42, if_neg (by rw [zI_le (by omega) (by omega) (by omega) (by omega)]; omega)]
    rw [show f_X8_findAway_51 K33 (f_X8_findAway_42 K33 x1 (zI n) fu) x1 (zI n) cb_fu τ (zI d) (zI i) 0 = _ from k1]
    exact j1
theorem m_fa_33 (x1 : Int32) (n : Nat) (hn : n ≤ 12) : ∀ (m d fu : Nat) (τ : cb_St) (s : Nat → Int), 1 ≤ d → d + m = 11 → m < fu → hasW τ s → okS s → ∃ τ', f_X8_findAway_33 x1 (zI n) fu τ (zI d) = some τ' ∧ scM τ τ' ∧ hasW τ' (stO n d m s) := by
  intro m
  induction m with
  | zero =>
    intro d fu τ s hd e hf hs ok
    obtain ⟨fu, rfl⟩ : ∃ g, fu = g + 1 := ⟨fu - 1, by omega⟩
    refine ⟨τ, ?_, scM_r τ, hs⟩
    rw [f_X8_findAway_33, if_pos (by rw [show (11 : Int32) = zI 11 from rfl, zI_le (by omega) (by omega) (by omega) (by omega)]; omega)]
  | succ m ih =>
    intro d fu τ s hd e hf hs ok
    obtain ⟨fu, rfl⟩ : ∃ g, fu = g + 1 := ⟨fu - 1, by omega⟩
    obtain ⟨τ1, k1, k2, k3⟩ := m_fa_42 x1 (f_X8_findAway_33 x1 (zI n) fu) n hn d hd (by omega) n 0 cb_fu τ s hs ok (by omega) (by unfold cb_fu; omega)
    obtain ⟨τ2, j1, j2, j3⟩ := ih (d + 1) fu τ1 _ (by omega) (by omega) (by omega) k3 (ok_I (by omega) (by omega) _ _ _ ok)
    refine ⟨τ2, ?_, scM_t k2 j2, j3⟩
    rw [f_X8_findAway_33, if_neg (by rw [show (11 : Int32) = zI 11 from rfl, zI_le (by omega) (by omega) (by omega) (by omega)]; omega)]
    rw [show f_X8_findAway_42 (f_X8_findAway_33 x1 (zI n) fu) x1 (zI n) cb_fu τ (zI d) 0 = _ from k1]
    exact j1
theorem m_fa_2 (n k : Nat) (hn : n ≤ 12) (hk : k < 12) : ∀ (m i fu : Nat) (τ : cb_St), (∀ j, j < i → τ.1 11 j = zI (if s00 k j < 0 then 99 else s00 k j)) → i + m = 12 → m < fu → ∃ τ', f_X8_findAway_2 (zI k) (zI n) fu τ (zI i) = f_X8_findAway_33 (zI k) (zI n) cb_fu τ' 1 ∧ scM τ τ' ∧ hasW τ' (s00 k) := by
  have e1 : ∀ j : Nat, zI (j : Int) + 1 = zI ((j + 1 : Nat) : Int) := fun j => by rw [show (1 : Int32) = zI 1 from rfl, zI_add, al_1]
  intro m
  induction m with
  | zero =>
    intro i fu τ hj e hf
    obtain ⟨fu, rfl⟩ : ∃ g, fu = g + 1 := ⟨fu - 1, by omega⟩
    refine ⟨τ, ?_, scM_r τ, fun j h => hj j (by omega)⟩
    rw [f_X8_findAway_2, if_pos (by rw [show (12 : Int32) = zI 12 from rfl, zI_le (by omega) (by omega) (by omega) (by omega)]; omega)]
  | succ m ih =>
    intro i fu τ hj e hf
    obtain ⟨fu, rfl⟩ : ∃ g, fu = g + 1 := ⟨fu - 1, by omega⟩
    obtain ⟨τ', k1, k2, k3⟩ := ih (i + 1) fu (cb_sI τ 11 i (zI (if s00 k i < 0 then 99 else s00 k i))) (fun j h => by
      rw [sI_e]
      by_cases q : j = i
      · subst q; rw [upd_e]
      · rw [upd_n _ _ q]; exact hj j (by omega)) (by omega) (by omega)
    refine ⟨τ', ?_, scM_t (sc_11 _ _ _) k2, k3⟩
    rw [f_X8_findAway_2, if_neg (by rw [show (12 : Int32) = zI 12 from rfl, zI_le (by omega) (by omega) (by omega) (by omega)]; omega)]
    unfold f_X8_findAway_24
    simp (disch := omega) only [zI_ck, zI_clamp, Int.toNat_natCast, let_s, e1]
    rw [← k1]
    by_cases q : i = k
    · subst q; rw [if_pos rfl]; unfold s00; rw [if_pos rfl, if_neg (by omega)]; rfl
    · rw [if_neg (by rw [zI_inj (by omega) (by omega) (by omega) (by omega)]; omega)]; unfold s00; rw [if_neg q, if_pos (by omega)]; rfl
theorem m_fa (n k : Nat) (hn : n ≤ 12) (hk : k < 12) (τ : cb_St) : ∃ τ', f_X8_findAway (zI k) (zI n) τ = some τ' ∧ scM τ τ' ∧ hasW τ' (stO n ((1 : Nat) : Int) 10 (s00 k)) := by
  obtain ⟨τ1, k1, k2, k3⟩ := m_fa_2 n k hn hk 12 0 cb_fu τ (fun j h => absurd h (by omega)) (by omega) (by unfold cb_fu; omega)
  obtain ⟨τ2, j1, j2, j3⟩ := m_fa_33 (zI k) n hn 10 1 cb_fu τ1 (s00 k) (by omega) (by omega) (by unfold cb_fu; omega) k3 (ok_00 k)
  refine ⟨τ2, ?_, scM_t k2 j2, j3⟩
  unfold f_X8_findAway
  rw [show f_X8_findAway_2 (zI k) (zI n) cb_fu τ 0 = _ from k1]
  exact j1
/-- a place that is not in the pack is reached from none that is -/
theorem gK_no (n : Nat) (s : Nat → Int) (i : Nat) (hi : i < n) (d : Int) (hd : 0 ≤ d) (h : ∀ j, j < n → s j = -1) : ∀ (m b : Nat), gK n s i d b m = -1 := by
  intro m
  induction m with
  | zero => intro b; rfl
  | succ m ih =>
    intro b
    rw [gK_s, if_neg (by rw [h _ (pj_lt b n i hi).1]; omega), ih]
theorem st_noI (n : Nat) (d : Int) (hd : 1 ≤ d) : ∀ (m i : Nat) (s : Nat → Int), i + m ≤ n → (∀ j, j < n → s j = -1) → stI n d i m s = s := by
  intro m
  induction m with
  | zero => intro i s _ _; rfl
  | succ m ih =>
    intro i s hi h
    have es : st1 n d i s = s := by
      unfold st1; rw [if_neg (by intro q; exact q.2 (gK_no n s i (by omega) _ (by omega) h 3 0))]
    rw [stI_s, es, ih (i + 1) s (by omega) h]
theorem st_noO (n : Nat) : ∀ (m : Nat) (d : Int) (s : Nat → Int), 1 ≤ d → (∀ j, j < n → s j = -1) → stO n d m s = s := by
  intro m
  induction m with
  | zero => intro d s _ _; rfl
  | succ m ih => intro d s hd h; rw [stO_s, st_noI n d hd n 0 s (by omega) h, ih (d + 1) s (by omega) h]
theorem ok_O (n : Nat) : ∀ (m : Nat) (d : Int) (s : Nat → Int), 1 ≤ d → d + m ≤ 11 → okS s → okS (stO n d m s) := by
  intro m
  induction m with
  | zero => intro d s _ _ h; exact h
  | succ m ih => intro d s hd he h; rw [stO_s]; exact ih (d + 1) _ (by omega) (by omega) (ok_I hd (by omega) _ _ _ h)
theorem m_row_104 (x1 x2 x3 : Int32) (τ : cb_St) (s : Nat → Int) (hs : hasW τ s) (ok : okS s) (n i : Nat) (hn : n ≤ 12) (hi : i < n) (hsi : 0 < s i) : ∀ (m b fu : Nat), b + m = 3 → m < fu → f_X8_row_104 x1 x2 x3 fu τ (zI i) (zI n) (zI b) = some (zI (gK n s i (s i - 1) b m), τ) := by
  have e1 : ∀ j : Nat, zI (j : Int) + 1 = zI ((j + 1 : Nat) : Int) := fun j => by rw [show (1 : Int32) = zI 1 from rfl, zI_add, al_1]
  intro m
  induction m with
  | zero =>
    intro b fu e hf
    obtain ⟨fu, rfl⟩ : ∃ g, fu = g + 1 := ⟨fu - 1, by omega⟩
    rw [f_X8_row_104, if_pos (by rw [show (3 : Int32) = zI 3 from rfl, zI_le (by omega) (by omega) (by omega) (by omega)]; omega)]
    unfold f_X8_row_155
    rw [zI_m1]; rfl
  | succ m ih =>
    intro b fu e hf
    obtain ⟨fu, rfl⟩ : ∃ g, fu = g + 1 := ⟨fu - 1, by omega⟩
    have hp := (pj_lt b n i hi).1
    obtain ⟨o1, o2⟩ := ok i
    obtain ⟨p1, p2⟩ := ok (pj b n i)
    have hs1 := hs i (by omega)
    have hs2 := hs (pj b n i) (by omega)
    rw [if_neg (by omega)] at hs1
    rw [f_X8_row_104, if_neg (by rw [show (3 : Int32) = zI 3 from rfl, zI_le (by omega) (by omega) (by omega) (by omega)]; omega), m_goes τ b n i (by omega) hn hi, bp_s]
    simp (disch := omega) only [zI_ck, zI_clamp, Int.toNat_natCast, let_s, e1]
    rw [hs1, hs2, if_neg (by rw [show (0 : Int32) = zI 0 from rfl, zI_le (by omega) (by omega) (by omega) (by omega)]; omega), ih (b + 1) fu (by omega) (by omega), gK_s, show zI (s i) - 1 = zI (s i - 1) from by rw [show (1 : Int32) = zI 1 from rfl, zI_sub]]
    by_cases g : s (pj b n i) = s i - 1
    · rw [if_pos g, if_pos (by rw [if_neg (by omega), g])]
    · rw [if_neg g, if_neg (by
            by_cases q : s (pj b n i) < 0
            · rw [if_pos q, zI_inj (by omega) (by omega) (by omega) (by omega)]; omega
            · rw [if_neg q, zI_inj (by omega) (by omega) (by omega) (by omega)]; exact g)]
theorem l64_11 : (11 : Int64).toInt = 11 := by decide
theorem l64_1 : (1 : Int64).toInt = 1 := by decide
theorem q_row {σ τ : cb_St} (h : Rel σ τ) (x y z : Int32) : simI σ τ (f_X7_row x y z σ) (f_X8_row x y z τ) := by
  have h0 := h
  obtain ⟨N, Q, n, ml, pk, hd, u, v, hX, hP, hU, hS⟩ := h
  have hT := hX.1
  have hN := hT.1
  have hn := hP.1
  obtain ⟨a, rfl, a1, a2⟩ := zI_ex x
  obtain ⟨b, rfl, b1, b2⟩ := zI_ex y
  obtain ⟨c, rfl, c1, c2⟩ := zI_ex z
  have t12 : Int32.toNatClampNeg 12 = 12 := by decide
  have k12 : ∀ y, cb_ck (0 ≤ Int32.toInt 12 ∧ Int32.toInt 12 < 51) y = y := fun y => ck_t (β := Int32 × cb_St) y (by decide)
  unfold f_X7_row f_X8_row f_X7_row_33 f_X8_row_33
  rw [s_hasCard 9 σ hT.2.2.1 hN a a1 a2, m_isCard τ hT.2.2.2.1 hN a a1 a2, bp_s, bp_s]
  simp only [s_in, bp_s, k12, t12]
  rw [zI_64 b1 b2, zI_64 c1 c2, l64_0, l64_11, l64_1]
  by_cases ha : 0 ≤ a ∧ a < N
  · rw [if_pos ha, if_neg z10, if_neg z10]
    by_cases hb : 0 ≤ b ∧ b ≤ 11
    · rw [if_pos hb, if_neg z10, if_neg (by rw [show (0 : Int32) = zI 0 from rfl, zI_lt (by omega) (by omega) (by omega) (by omega)]; omega), if_neg (by rw [show (12 : Int32) = zI 12 from rfl, zI_le (by omega) (by omega) (by omega) (by omega)]; omega)]
      by_cases hc : 0 ≤ c ∧ c ≤ 1
      · rw [if_pos hc, if_neg z10, if_neg (by rw [show (0 : Int32) = zI 0 from rfl, zI_lt (by omega) (by omega) (by omega) (by omega)]; omega), if_pos (by rw [show (1 : Int32) = zI 1 from rfl, zI_le (by omega) (by omega) (by omega) (by omega)]; omega)]
        obtain ⟨cd, rfl⟩ := Int.eq_ofNat_of_zero_le ha.1
        obtain ⟨k, rfl⟩ := Int.eq_ofNat_of_zero_le hb.1
        rw [c_placeOf hN hP cd (by omega), m_placeOf hN hP cd (by omega), bp_s, bp_s]
        rcases mF_hit (fun j => pk j == cd) n 0 with e | ⟨i, e, -, e2, -⟩
        · rw [e, if_pos zI_m1.symm, if_neg (by rw [show (0 : Int32) = zI 0 from rfl, zI_le (by omega) (by omega) (by omega) (by omega)]; omega)]; exact sim_no h0
        · rw [e, if_neg (by rw [zI_m1, zI_inj (by omega) (by omega) (by omega) (by omega)]; omega), if_pos (by rw [show (0 : Int32) = zI 0 from rfl, zI_le (by omega) (by omega) (by omega) (by omega)]; omega), hP.2.2.2.1, let_s]
          have hi : i < n := by omega
          have hok := ok_O n 10 ((1 : Nat) : Int) (s00 k) (by omega) (by omega) (ok_00 k)
          obtain ⟨σ', f1, f2, f3⟩ := s_cs n k (by omega) (by omega) σ hP.2.2.1
          rw [f1, bv_s, s_stepsFrom σ' _ f3 i (by omega), bp_s]
          unfold f_X7_firstStep
          obtain ⟨o1, o2⟩ := hok i
          by_cases hkn : k < n
          · have ck1 : zI (k : Int) < zI (n : Int) := by rw [zI_lt (by omega) (by omega) (by omega) (by omega)]; omega
            rw [if_pos ck1]
            obtain ⟨τ', g1, g2, g3⟩ := m_fa n k (by omega) (by omega) τ
            rw [g1, bv_s]
            simp (disch := omega) only [zI_ck, zI_clamp, Int.toNat_natCast, let_s]
            rw [g3 i (by omega)]
            have hR := sc_Rel h0 f2 g2
            generalize stO n ((1 : Nat) : Int) 10 (s00 k) = s at *
            by_cases q : s i = -1
            · rw [if_pos (show zI (if s i < 0 then 99 else s i) = 99 from by rw [if_pos (by omega)]; rfl), q]
              rw [if_neg (show ¬ (0 : Int32) < zI (-1) from by decide), bp_s, zI_m1]
              refine ⟨_, _, _, ?_, rfl, hR⟩
              exact ite_self _
            · rw [if_neg (show ¬ zI (if s i < 0 then 99 else s i) = 99 from by rw [if_neg (by omega), show (99 : Int32) = zI 99 from rfl, zI_inj (by omega) (by omega) (by omega) (by omega)]; omega), if_neg (show ¬ s i < 0 by omega)]
              by_cases c0 : zI c = 0
              · rw [if_pos c0, if_pos c0]; exact ⟨_, _, _, rfl, rfl, hR⟩
              · rw [if_neg c0, if_neg c0]
                by_cases q0 : s i = 0
                · rw [q0, if_neg (show ¬ (0 : Int32) < zI 0 from by decide), bp_s]
                  obtain ⟨gg, hgg⟩ : ∃ g, cb_fu = g + 1 := ⟨cb_fu - 1, by unfold cb_fu; omega⟩
                  refine ⟨_, _, _, rfl, ?_, hR⟩
                  rw [hgg, f_X8_row_104, if_neg (by decide)]
                  simp (disch := omega) only [zI_ck, zI_clamp, Int.toNat_natCast]
                  rw [g3 i (by omega), q0, if_neg (show ¬ (0 : Int) < 0 by omega), if_pos (show zI 0 ≤ 0 from by decide)]; rfl
                · rw [if_pos (by rw [show (0 : Int32) = zI 0 from rfl, zI_lt (by omega) (by omega) (by omega) (by omega)]; omega), show zI (s i) - 1 = zI (s i - 1) from by rw [show (1 : Int32) = zI 1 from rfl, zI_sub]]
                  rw [s_stepTo σ' s f3 hok n i (by rw [f2.2 13 (by omega) (by omega) (by omega)]; exact hP.2.2.1) (by omega) hi (s i - 1) (by omega) (by omega), bp_s, bp_s]
                  refine ⟨_, _, _, rfl, ?_, hR⟩
                  exact m_row_104 _ _ _ τ' s g3 hok n i (by omega) hi (by omega) 3 0 cb_fu (by omega) (by unfold cb_fu; omega)
          · have ck1 : ¬ zI (k : Int) < zI (n : Int) := by rw [zI_lt (by omega) (by omega) (by omega) (by omega)]; omega
            rw [if_neg ck1]
            have hno := st_noO n 10 ((1 : Nat) : Int) (s00 k) (by omega) (fun j hj => by unfold s00; rw [if_neg (by omega)])
            rw [hno]
            have hsi : s00 k i = -1 := by unfold s00; rw [if_neg (by omega)]
            rw [hsi, if_neg (show ¬ (0 : Int32) < zI (-1) from by decide), bp_s, zI_m1]
            refine ⟨_, _, _, ?_, rfl, sc_Rel h0 f2 (scM_r τ)⟩
            exact ite_self _
      · rw [if_neg hc, if_pos z00]
        by_cases g : c < 0
        · rw [if_pos (by rw [show (0 : Int32) = zI 0 from rfl, zI_lt (by omega) (by omega) (by omega) (by omega)]; omega)]; exact sim_no h0
        · rw [if_neg (by rw [show (0 : Int32) = zI 0 from rfl, zI_lt (by omega) (by omega) (by omega) (by omega)]; omega), if_neg (by rw [show (1 : Int32) = zI 1 from rfl, zI_le (by omega) (by omega) (by omega) (by omega)]; omega)]; exact sim_no h0
    · rw [if_neg hb, if_pos z00]
      by_cases g : b < 0
      · rw [if_pos (by rw [show (0 : Int32) = zI 0 from rfl, zI_lt (by omega) (by omega) (by omega) (by omega)]; omega)]; exact sim_no h0
      · rw [if_neg (by rw [show (0 : Int32) = zI 0 from rfl, zI_lt (by omega) (by omega) (by omega) (by omega)]; omega), if_pos (by rw [show (12 : Int32) = zI 12 from rfl, zI_le (by omega) (by omega) (by omega) (by omega)]; omega)]; exact sim_no h0
  · rw [if_neg ha, if_pos z00, if_pos z00]; exact sim_no h0
