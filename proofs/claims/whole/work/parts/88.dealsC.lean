/-! ===== deals: the class ===== -/
def stC (σ : cb_St) (C D : Nat) (pk : Nat → Nat) : Prop := σ.1 106 1 = zI C ∧ σ.1 106 2 = zI D ∧ ∀ k, k < C → σ.1 107 k = zI (pk k)
def acC (τ σ : cb_St) (D : Nat) (L : List (Nat → Int)) : Prop := σ.1 106 0 = zI (L.length : Nat) ∧ (∀ p, p < D → σ.1 109 p = zI (srC L p).2) ∧ (∀ p, D ≤ p → p < 6 → σ.1 109 p = zI (-1)) ∧ ∀ p q o, p < q → q < D → o < 3 → σ.1 110 ((6 * p + q) * 3 + o) = zI (cnt τ L p q o : Nat)
def hasL (σ : cb_St) (t : Nat) (w : Nat → Int) : Prop := ∀ p, p < t → σ.1 108 p = zI (w p)
def rgL (N t : Nat) (w : Nat → Int) : Prop := (∀ p, p < t → 0 ≤ w p ∧ w p < N) ∧ ∀ p, t ≤ p → w p = -1
def sn1 (τ : cb_St) (w : Nat → Int) (i : Nat) : Bool := decide (¬ w (yN (τ.1 13 i)) = -1) && (decide (¬ w (yN (τ.1 14 i)) = -1) && decide (mT τ (w (yN (τ.1 13 i))) (w (yN (τ.1 14 i))) = τ.1 15 i))
def fnS (τ : cb_St) (s : Nat) (w : Nat → Int) (_ : Nat → Bool) : Option (Nat → Int) := if mA (sn1 τ w) 0 s then some w else none
theorem yN_z (a : Nat) (h : a < 2147483648) : yN (zI (a : Int)) = a := by
  unfold yN; rw [zI_toInt (by omega) (by omega), Int.toNat_natCast]
theorem rgL_r {N t : Nat} {w : Nat → Int} (h : rgL N t w) (p : Nat) : -1 ≤ w p ∧ w p < N := by
  by_cases g : p < t
  · have := h.1 p g; omega
  · have := h.2 p (by omega); omega
theorem rgL_u {N t : Nat} {w : Nat → Int} (h : rgL N t w) (c : Nat) (hc : c < N) : rgL N (t + 1) (ui w t (c : Int)) := by
  constructor
  · intro p hp
    by_cases e : p = t
    · subst e; rw [ui_e]; omega
    · rw [ui_n _ _ e]; exact h.1 p (by omega)
  · intro p hp
    rw [ui_n _ _ (by omega)]; exact h.2 p (by omega)
section DC
variable {N Q : Nat} {σ σ' τ τ' : cb_St} {n ml : Nat} {pk : Nat → Nat} {hd : Nat → Int} {w : Nat → Int} {C D : Nat}
theorem s_cardBefore (hD : D ≤ 5) (hs : σ.1 106 2 = zI D) (hl : hasL σ D w) (hr : rgL N D w) (p : Nat) (hp : p < 6) : f_X0_cardBefore (zI p) σ = some (zI (w p)) := by
  unfold f_X0_cardBefore f_X0_cardBefore_18
  rw [hs]; simp (disch := omega) only [zI_lit, zI_neg, zI_add, zI_sub, zI_mul, zI_lt, zI_le, zI_inj, zI_ck, zI_clamp, ← Int.natCast_add, la_1, al_1, la_2, al_2, la_3, al_3, la_4, al_4, la_5, al_5, la_6, al_6, la_7, al_7, la_8, al_8, la_9, al_9, la_10, al_10, la_11, al_11, la_12, al_12, la_13, al_13, la_16, al_16, la_19, al_19, la_20, al_20, la_24, al_24, la_25, al_25, la_26, al_26, la_27, al_27, la_51, al_51, la_52, al_52, la_0, Int.toNat_natCast, bp_s, let_s, bi_s, bv_s, b1_f]
  rw [if_neg (by omega)]
  by_cases g : p < D
  · rw [if_neg (by omega), if_pos (by omega), hl p g]
  · rw [if_pos (by omega), hr.2 p (by omega)]
def seenS (σ τ : cb_St) (Q s : Nat) : Prop := s ≤ 6 ∧ σ.1 100 0 = zI s ∧ τ.1 0 28 = zI s ∧ ∀ i, i < s → ∃ p q r : Nat, p < Q ∧ q < Q ∧ r ≤ 2 ∧ σ.1 101 i = zI p ∧ τ.1 13 i = zI p ∧ σ.1 102 i = zI q ∧ τ.1 14 i = zI q ∧ σ.1 103 i = zI r ∧ τ.1 15 i = zI r
theorem s_seen_2 (hT : rlT N Q σ τ) (hD : D ≤ 5) (hs : σ.1 106 2 = zI D) (hl : hasL σ D w) (hr : rgL N D w) {s : Nat} (hS : seenS σ τ Q s) : ∀ (m i fu : Nat), i + m = s → m < fu → f_X0_isAsSeen_2 σ fu (zI i) = some (if mA (sn1 τ w) i m then zI 1 else zI 0) := by
  have hN := hT.1
  have hQ := hT.2.1
  obtain ⟨s6, s1, -, s3⟩ := hS
  intro m
  induction m with
  | zero =>
    intro i fu e hf
    obtain ⟨fu, rfl⟩ : ∃ g, fu = g + 1 := ⟨fu - 1, by omega⟩
    rw [f_X0_isAsSeen_2, s1, if_pos (by rw [zI_le (by omega) (by omega) (by omega) (by omega)]; omega)]; rfl
  | succ m ih =>
    intro i fu e hf
    obtain ⟨fu, rfl⟩ : ∃ g, fu = g + 1 := ⟨fu - 1, by omega⟩
    have e1 : zI (i : Int) + 1 = zI ((i + 1 : Nat) : Int) := by rw [show (1 : Int32) = zI 1 from rfl, zI_add, al_1]
    obtain ⟨p, q, r, h1, h2, h3, k1, k2, k3, k4, k5, k6⟩ := s3 i (by omega)
    obtain ⟨r1, r2⟩ := rgL_r hr p
    obtain ⟨r3, r4⟩ := rgL_r hr q
    rw [f_X0_isAsSeen_2, mA_s]
    unfold f_X0_isAsSeen_60 f_X2_firstSeen f_X2_secondSeen f_X2_whoSeen
    rw [s1, s_entry 101 6 (by omega) s6 i (by omega), s_entry 102 6 (by omega) s6 i (by omega), s_entry 103 6 (by omega) s6 i (by omega), if_neg (by rw [zI_le (by omega) (by omega) (by omega) (by omega)]; omega)]
    simp only [bp_s, k1, k3, k5, s_cardBefore hD hs hl hr p (by omega), s_cardBefore hD hs hl hr q (by omega), s_between hT (w p) (w q) r1 r2 r3 r4, let_s, e1, ih (i + 1) fu (by omega) (by omega)]
    rw [show sn1 τ w i = (decide (¬ w (yN (τ.1 13 i)) = -1) && (decide (¬ w (yN (τ.1 14 i)) = -1) && decide (mT τ (w (yN (τ.1 13 i))) (w (yN (τ.1 14 i))) = τ.1 15 i))) from rfl, k2, k4, k6, yN_z p (by omega), yN_z q (by omega)]
    have cp : ∀ x : Nat, (zI (w x) = -1) = (w x = -1) := fun x => by
      obtain ⟨r1, r2⟩ := rgL_r hr x
      rw [zI_m1]; exact zI_inj (by omega) (by omega) (by omega) (by omega)
    simp only [cp]
    by_cases g1 : w p = -1
    · rw [if_pos g1, decide_eq_false (fun h => h g1)]; rfl
    · rw [if_neg g1, decide_eq_true g1]
      by_cases g2 : w q = -1
      · rw [if_pos g2, decide_eq_false (fun h => h g2)]; rfl
      · rw [if_neg g2, decide_eq_true g2]
        by_cases g3 : mT τ (w p) (w q) = zI (r : Int)
        · rw [if_pos g3, decide_eq_true g3]; rfl
        · rw [if_neg g3, decide_eq_false g3]; rfl
theorem mT_nat (τ : cb_St) (c d : Int) : ∃ o : Nat, o < 3 ∧ mT τ c d = zI (o : Int) := by
  rcases mT_3 τ c d with g | g | g
  · exact ⟨0, by omega, g⟩
  · exact ⟨1, by omega, g⟩
  · exact ⟨2, by omega, g⟩
theorem s_ct_64 (K : cb_St → Int32 → Option cb_St) (p : Nat) (hp : p < 6) (hD : D ≤ 5) (hr : rgL N D w) : ∀ (m q fu : Nat) (σ : cb_St), rlT N Q σ τ → σ.1 106 2 = zI D → hasL σ D w → p < q → p < D → q + m = D → m < fu → ∃ g : Nat → Int32, f_X0_countThis_64 K fu σ (zI p) (zI q) = K (cb_sA σ 110 g) (zI ((p + 1 : Nat) : Int)) ∧ (∀ q' o, q ≤ q' → q' < D → o < 3 → g ((6 * p + q') * 3 + o) = σ.1 110 ((6 * p + q') * 3 + o) + (if mT τ (w p) (w q') = zI (o : Int) then 1 else 0)) ∧ ∀ x, (∀ q' o, q ≤ q' → q' < D → o < 3 → x ≠ (6 * p + q') * 3 + o) → g x = σ.1 110 x := by
  have e1 : ∀ j : Nat, zI (j : Int) + 1 = zI ((j + 1 : Nat) : Int) := fun j => by rw [show (1 : Int32) = zI 1 from rfl, zI_add, al_1]
  intro m
  induction m with
  | zero =>
    intro q fu σ hT hs hl hpq hpD e hf
    obtain ⟨fu, rfl⟩ : ∃ g, fu = g + 1 := ⟨fu - 1, by omega⟩
    refine ⟨σ.1 110, ?_, fun q' o h1 h2 _ => absurd h2 (by omega), fun _ _ => rfl⟩
    rw [f_X0_countThis_64, hs, if_pos (by rw [zI_le (by omega) (by omega) (by omega) (by omega)]; omega), let_s, e1, sA_id]
  | succ m ih =>
    intro q fu σ hT hs hl hpq hpD e hf
    obtain ⟨fu, rfl⟩ : ∃ g, fu = g + 1 := ⟨fu - 1, by omega⟩
    have hN := hT.1
    obtain ⟨r1, r2⟩ := hr.1 p hpD
    obtain ⟨r3, r4⟩ := hr.1 q (by omega)
    obtain ⟨o, ho, hm⟩ := mT_nat τ (w p) (w q)
    have hidx : (((6 : Int32) * zI p) + zI q) * 3 + zI (o : Int) = zI (((6 * p + q) * 3 + o : Nat) : Int) := by
      rw [show (6 : Int32) = zI ((6 : Nat) : Int) from rfl, show (3 : Int32) = zI ((3 : Nat) : Int) from rfl, zI_mul, zI_add, zI_mul, zI_add, ← Int.natCast_mul, ← Int.natCast_add, ← Int.natCast_mul, ← Int.natCast_add]
    have hlt : (6 * p + q) * 3 + o < 108 := by omega
    have hc : scC σ (cb_sI σ 110 ((6 * p + q) * 3 + o) (σ.1 110 ((6 * p + q) * 3 + o) + 1)) := ⟨sI_2 _ _ _ _, fun x _ _ h => by rw [sI_n _ _ _ (by omega)]⟩
    obtain ⟨g, k1, k2, k3⟩ := ih (q + 1) fu (cb_sI σ 110 ((6 * p + q) * 3 + o) (σ.1 110 ((6 * p + q) * 3 + o) + 1)) (sc_T hT hc (scM_r τ)) (by rw [sI_n _ _ _ (by decide)]; exact hs) (fun x hx => by rw [sI_n _ _ _ (by decide)]; exact hl x hx) (by omega) hpD (by omega) (by omega)
    refine ⟨g, ?_, fun q' o' h1 h2 h3 => ?_, fun x hx => ?_⟩
    · rw [f_X0_countThis_64, hs, if_neg (by rw [zI_le (by omega) (by omega) (by omega) (by omega)]; omega), zI_ck _ (by omega) (by omega) (by omega), s_cardBefore hD hs hl hr q (by omega), bp_s, zI_clamp (by omega) (by omega), Int.toNat_natCast, hl p hpD, s_between hT (w p) (w q) (by omega) r2 (by omega) r4, bp_s]
      unfold f_X0_partOf f_X0_countThis_120
      rw [bp_s, hm, hidx, if_neg (by rw [show (0 : Int32) = zI 0 from rfl, zI_lt (by omega) (by omega) (by omega) (by omega)]; omega), if_neg (by rw [show (108 : Int32) = zI 108 from rfl, zI_le (by omega) (by omega) (by omega) (by omega)]; omega)]
      rw [zI_ck _ (by omega) (by omega) (by omega), zI_ck _ (by omega) (by omega) (by omega), zI_clamp (by omega) (by omega), Int.toNat_natCast, let_s, let_s, e1, k1, sA_sI]
    · by_cases hq : q' = q
      · subst hq
        rw [k3 _ (fun q2 o2 g1 g2 g3 => by omega), sI_e, hm]
        by_cases ho' : o' = o
        · subst ho'; rw [upd_e, if_pos rfl]
        · rw [upd_n _ _ (by omega), if_neg (by rw [zI_inj (by omega) (by omega) (by omega) (by omega)]; omega), show σ.1 110 ((6 * p + q') * 3 + o') + 0 = σ.1 110 ((6 * p + q') * 3 + o') from Int32.add_zero _]
      · rw [k2 q' o' (by omega) h2 h3, sI_e, upd_n _ _ (by omega)]
    · rw [k3 x (fun q2 o2 g1 g2 g3 => hx q2 o2 (by omega) g2 g3), sI_e, upd_n _ _ (hx q o (by omega) (by omega) ho)]
theorem s_ct_2 (hD : D ≤ 5) (hr : rgL N D w) (ℓ : Nat) (hℓ : ℓ < 100000) : ∀ (m p fu : Nat) (σ : cb_St), rlT N Q σ τ → σ.1 106 0 = zI ℓ → σ.1 106 2 = zI D → hasL σ D w → p + m = D → m < fu → ∃ σ' : cb_St, f_X0_countThis_2 fu σ (zI p) = some σ' ∧ σ'.2 = σ.2 ∧ (∀ x, x ≠ 106 → x ≠ 109 → x ≠ 110 → σ'.1 x = σ.1 x) ∧ σ'.1 106 0 = zI ((ℓ + 1 : Nat) : Int) ∧ σ'.1 106 1 = σ.1 106 1 ∧ σ'.1 106 2 = σ.1 106 2 ∧ (∀ p', p ≤ p' → p' < D → σ'.1 109 p' = if ℓ = 0 then zI (w p') else if σ.1 109 p' = zI (w p') then σ.1 109 p' else zI (-1)) ∧ (∀ p', (p' < p ∨ D ≤ p') → σ'.1 109 p' = σ.1 109 p') ∧ (∀ p' q o, p ≤ p' → p' < q → q < D → o < 3 → σ'.1 110 ((6 * p' + q) * 3 + o) = σ.1 110 ((6 * p' + q) * 3 + o) + (if mT τ (w p') (w q) = zI (o : Int) then 1 else 0)) ∧ ∀ p' q o, p' < p → p' < q → q < D → o < 3 → σ'.1 110 ((6 * p' + q) * 3 + o) = σ.1 110 ((6 * p' + q) * 3 + o) := by
  have e1 : ∀ j : Nat, zI (j : Int) + 1 = zI ((j + 1 : Nat) : Int) := fun j => by rw [show (1 : Int32) = zI 1 from rfl, zI_add, al_1]
  intro m
  induction m with
  | zero =>
    intro p fu σ hT h0 hs hl e hf
    obtain ⟨fu, rfl⟩ : ∃ g, fu = g + 1 := ⟨fu - 1, by omega⟩
    refine ⟨cb_sI σ 106 0 (zI ((ℓ + 1 : Nat) : Int)), ?_, sI_2 _ _ _ _, fun x g1 _ _ => sI_n _ _ _ g1, by rw [sI_e, upd_e], by rw [sI_e, upd_n _ _ (by decide)], by rw [sI_e, upd_n _ _ (by decide)], fun p' g1 g2 => absurd g2 (by omega), fun p' _ => by rw [sI_n _ _ _ (by decide)], fun p' q o g1 g2 g3 _ => absurd g3 (by omega), fun p' q o _ _ _ _ => by rw [sI_n _ _ _ (by decide)]⟩
    rw [f_X0_countThis_2, hs, if_pos (by rw [zI_le (by omega) (by omega) (by omega) (by omega)]; omega)]
    unfold f_X0_countThis_132
    rw [let_s, h0, e1]
  | succ m ih =>
    intro p fu σ hT h0 hs hl e hf
    obtain ⟨fu, rfl⟩ : ∃ g, fu = g + 1 := ⟨fu - 1, by omega⟩
    have hlp := hl p (by omega)
    -- the new sure value
    have hstep : ∃ v : Int32, v = (if ℓ = 0 then zI (w p) else if σ.1 109 p = zI (w p) then σ.1 109 p else zI (-1)) ∧ f_X0_countThis_2 (fu + 1) σ (zI p) = f_X0_countThis_64 (f_X0_countThis_2 fu) cb_fu (cb_sI σ 109 p v) (zI p) (zI ((p + 1 : Nat) : Int)) := by
      refine ⟨_, rfl, ?_⟩
      have c0 : (zI (ℓ : Int) = 0) = (ℓ = 0) := by
        rw [show (0 : Int32) = zI 0 from rfl, zI_inj (by omega) (by omega) (by omega) (by omega)]; exact propext ⟨fun h => by omega, fun h => by omega⟩
      rw [f_X0_countThis_2, hs, if_neg (by rw [zI_le (by omega) (by omega) (by omega) (by omega)]; omega), if_neg (by rw [show (6 : Int32) = zI 6 from rfl, zI_le (by omega) (by omega) (by omega) (by omega)]; omega), h0]
      unfold f_X0_countThis_60
      simp (disch := omega) only [zI_ck, zI_clamp, Int.toNat_natCast, let_s, e1, hlp, c0]
      by_cases g0 : ℓ = 0
      · rw [if_pos g0, if_pos g0]
      · rw [if_neg g0, if_neg g0]
        by_cases g1 : σ.1 109 p = zI (w p)
        · rw [if_pos g1, if_pos g1, sI_id σ 109 p _ rfl]
        · rw [if_neg g1, if_neg g1, zI_m1]
    obtain ⟨v, hv, hst⟩ := hstep
    have hc : scC σ (cb_sI σ 109 p v) := ⟨sI_2 _ _ _ _, fun x _ _ h => by rw [sI_n _ _ _ (by omega)]⟩
    obtain ⟨g, k1, k2, k3⟩ := s_ct_64 (N := N) (Q := Q) (τ := τ) (f_X0_countThis_2 fu) p (by omega) hD hr (D - (p + 1)) (p + 1) cb_fu (cb_sI σ 109 p v) (sc_T hT hc (scM_r τ)) (by rw [sI_n _ _ _ (by decide)]; exact hs) (fun x hx => by rw [sI_n _ _ _ (by decide)]; exact hl x hx) (by omega) (by omega) (by omega) (by unfold cb_fu; omega)
    have hc2 : scC σ (cb_sA (cb_sI σ 109 p v) 110 g) := ⟨by rw [sA_2, sI_2], fun x _ _ h => by rw [sA_n _ _ (by omega), sI_n _ _ _ (by omega)]⟩
    obtain ⟨σ', j1, j2, j3, j4, j5, j6, j7, j8, j9, j10⟩ := ih (p + 1) fu (cb_sA (cb_sI σ 109 p v) 110 g) (sc_T hT hc2 (scM_r τ)) (by rw [sA_n _ _ (by decide), sI_n _ _ _ (by decide)]; exact h0) (by rw [sA_n _ _ (by decide), sI_n _ _ _ (by decide)]; exact hs) (fun x hx => by rw [sA_n _ _ (by decide), sI_n _ _ _ (by decide)]; exact hl x hx) (by omega) (by omega)
    have r9 : (cb_sA (cb_sI σ 109 p v) 110 g).1 109 = upd (σ.1 109) p v := by rw [sA_n _ _ (by decide), sI_e]
    have r10 : (cb_sA (cb_sI σ 109 p v) 110 g).1 110 = g := sA_e _ _ _
    rw [r9] at j7 j8
    rw [r10] at j9 j10
    have i110 : (cb_sI σ 109 p v).1 110 = σ.1 110 := sI_n _ _ _ (by decide)
    rw [i110] at k2 k3
    refine ⟨σ', by rw [hst, k1, j1], by rw [j2, sA_2, sI_2], fun x g1 g2 g3 => by rw [j3 x g1 g2 g3, sA_n _ _ g3, sI_n _ _ _ g2], j4, by rw [j5, sA_n _ _ (by decide), sI_n _ _ _ (by decide)], by rw [j6, sA_n _ _ (by decide), sI_n _ _ _ (by decide)], fun p' g1 g2 => ?_, fun p' g1 => ?_, fun p' q o g1 g2 g3 g4 => ?_, fun p' q o g1 g2 g3 g4 => ?_⟩
    · by_cases hp' : p' = p
      · subst hp'; rw [j8 p' (by omega), upd_e]; exact hv
      · rw [j7 p' (by omega) g2, upd_n _ _ hp']
    · rw [j8 p' (by omega), upd_n _ _ (by omega)]
    · by_cases hp' : p' = p
      · subst hp'; rw [j10 p' q o (by omega) g2 g3 g4, k2 q o (by omega) g3 g4]
      · rw [j9 p' q o (by omega) g2 g3 g4, k3 _ (fun q2 o2 f1 f2 f3 => by omega)]
    · rw [j10 p' q o (by omega) g2 g3 g4, k3 _ (fun q2 o2 f1 f2 f3 => by omega)]
theorem srC_rng (p : Nat) : ∀ (L : List (Nat → Int)) (s : Nat × Int), (∀ d ∈ L, -1 ≤ d p ∧ d p < 12) → -1 ≤ s.2 → s.2 < 12 → -1 ≤ (L.foldl (srS p) s).2 ∧ (L.foldl (srS p) s).2 < 12 := by
  intro L
  induction L with
  | nil => intro s _ h1 h2; exact ⟨h1, h2⟩
  | cons d L ih =>
    intro s h h1 h2
    rw [List.foldl_cons]
    have hd := h d (List.mem_cons_self)
    refine ih _ (fun e he => h e (List.mem_cons_of_mem _ he)) ?_ ?_
    · show -1 ≤ (if s.1 = 0 then d p else if s.2 = d p then s.2 else -1)
      split
      · omega
      · split <;> omega
    · show (if s.1 = 0 then d p else if s.2 = d p then s.2 else -1) < 12
      split
      · omega
      · split <;> omega
def okL (N : Nat) (L : List (Nat → Int)) : Prop := ∀ d ∈ L, ∀ p, -1 ≤ d p ∧ d p < N
theorem okL_a {L M : List (Nat → Int)} (h1 : okL N L) (h2 : okL N M) : okL N (L ++ M) := by
  intro d hd
  rcases List.mem_append.mp hd with g | g
  · exact h1 d g
  · exact h2 d g
theorem s_ct (hT : rlT N Q σ τ) (hD : D ≤ 5) (hst : stC σ C D pk) (hl : hasL σ D w) (hr : rgL N D w) (L : List (Nat → Int)) (hL : L.length < 100000) (hok : okL N L) (ha : acC τ σ D L) : ∃ σ' : cb_St, f_X0_countThis σ = some σ' ∧ scC σ σ' ∧ stC σ' C D pk ∧ σ'.1 108 = σ.1 108 ∧ acC τ σ' D (L ++ [w]) := by
  have hN := hT.1
  obtain ⟨a1, a2, a3, a4⟩ := ha
  obtain ⟨σ', j1, j2, j3, j4, j5, j6, j7, j8, j9, -⟩ := s_ct_2 (N := N) (Q := Q) (τ := τ) hD hr L.length hL D 0 cb_fu σ hT a1 hst.2.1 hl (by omega) (by unfold cb_fu; omega)
  refine ⟨σ', j1, ⟨j2, fun x g1 g2 g3 => j3 x (by omega) (by omega) (by omega)⟩, ⟨by rw [j5]; exact hst.1, by rw [j6]; exact hst.2.1, fun k hk => by rw [j3 107 (by omega) (by omega) (by omega)]; exact hst.2.2 k hk⟩, j3 108 (by omega) (by omega) (by omega), ?_, fun p hp => ?_, fun p g1 g2 => ?_, fun p q o g1 g2 g3 => ?_⟩
  · rw [j4, List.length_append]; rfl
  · obtain ⟨s1, s2⟩ := srC_rng p L (0, -1) (fun d hd => by have := hok d hd p; omega) (by decide) (by decide)
    have s1 : -1 ≤ (srC L p).2 := s1
    have s2 : (srC L p).2 < 12 := s2
    obtain ⟨w1, w2⟩ := rgL_r hr p
    rw [j7 p (by omega) hp, srC_app, a2 p hp]
    have c : (zI (srC L p).2 = zI (w p)) = ((srC L p).2 = w p) := zI_inj (by omega) (by omega) (by omega) (by omega)
    simp only [c]
    by_cases g0 : L.length = 0
    · rw [if_pos g0, if_pos g0]
    · rw [if_neg g0, if_neg g0]
      by_cases g1 : (srC L p).2 = w p
      · rw [if_pos g1, if_pos g1]
      · rw [if_neg g1, if_neg g1]
  · rw [j8 p (by omega)]; exact a3 p g1 g2
  · rw [j9 p q o (by omega) g1 g2 g3, a4 p q o g1 g2 g3, cnt_app]
    by_cases g : mT τ (w p) (w q) = zI (o : Int)
    · rw [if_pos g, if_pos g, show (1 : Int32) = zI 1 from rfl, zI_add, al_1]
    · rw [if_neg g, if_neg g, Nat.add_zero]; exact Int32.add_zero _
theorem hasL_c {t : Nat} (h : hasL σ t w) (e : σ'.1 108 = σ.1 108) : hasL σ' t w := fun p hp => by rw [e]; exact h p hp
theorem sc_seen {s : Nat} (h : seenS σ τ Q s) (hc : scC σ σ') : seenS σ' τ Q s := by
  obtain ⟨h1, h2, h3, h4⟩ := h
  refine ⟨h1, by rw [hc.2 100 (by omega) (by omega) (by omega)]; exact h2, h3, fun i hi => ?_⟩
  rw [hc.2 101 (by omega) (by omega) (by omega), hc.2 102 (by omega) (by omega) (by omega), hc.2 103 (by omega) (by omega) (by omega)]
  exact h4 i hi
theorem fin_ok (N t j : Nat) (hpk : ∀ k, k < C → pk k < N) (s : Nat) : ∀ (j t : Nat) (w : Nat → Int) (u : Nat → Bool) (r : Nat) (d : Nat → Int), rgL N t w → MM C pk (fnS τ s) j t w u r = some d → rgL N (t + j) d := by
  intro j
  induction j with
  | zero =>
    intro t w u r d hr h
    have h : (if mA (sn1 τ w) 0 s then some w else none) = some d := h
    by_cases g : mA (sn1 τ w) 0 s = true
    · rw [if_pos g] at h; injection h with h; rw [← h]; exact hr
    · rw [if_neg g] at h; exact absurd h (by simp)
  | succ j ih =>
    intro t w u r d hr h
    rw [MM_s] at h
    by_cases g : r / 5 ^ j < C ∧ u (r / 5 ^ j) = false
    · rw [if_pos g] at h
      have := ih (t + 1) _ _ _ d (rgL_u hr _ (hpk _ g.1)) h
      have e : t + 1 + j = t + (j + 1) := by omega
      rw [e] at this; exact this
    · rw [if_neg g] at h; exact absurd h (by simp)
theorem s_lay (hC : C ≤ 5) (hD : D ≤ C) (hpk : ∀ k, k < C → pk k < N) {s : Nat} : ∀ (j t d : Nat) (σ : cb_St) (X : Int32) (w : Nat → Int) (u : Nat → Bool) (L : List (Nat → Int)), t + j = D → j < d → rlT N Q σ τ → seenS σ τ Q s → stC σ C D pk → hasL σ t w → rgL N t w → (∀ k, k < 5 → bt X k = u k) → okL N L → L.length + 5 ^ j ≤ 90000 → acC τ σ D L → ∃ σ' : cb_St, f_X0_layFrom d (zI t) X σ = some σ' ∧ scC σ σ' ∧ stC σ' C D pk ∧ (∀ p, p < t → σ'.1 108 p = σ.1 108 p) ∧ acC τ σ' D (L ++ cl (MM C pk (fnS τ s) j t w u) 0 (5 ^ j)) := by
  intro j
  induction j with
  | zero =>
    intro t d σ X w u L e hd hT hS hst hl hr hX hok hlen ha
    obtain ⟨d, rfl⟩ : ∃ g, d = g + 1 := ⟨d - 1, by omega⟩
    have etD : t = D := by omega
    subst etD
    have h2 := s_seen_2 hT (by omega) hst.2.1 hl hr hS s 0 cb_fu (by omega) (by have := hS.1; unfold cb_fu; omega)
    rw [f_X0_layFrom]
    unfold f_X0_layFrom_0 f_X0_layFrom_18 f_X0_isAsSeen
    rw [hst.2.1, if_neg (by rw [show (0 : Int32) = zI 0 from rfl, zI_lt (by omega) (by omega) (by omega) (by omega)]; omega), if_pos (by rw [zI_le (by omega) (by omega) (by omega) (by omega)]; omega)]
    rw [show f_X0_isAsSeen_2 σ cb_fu 0 = _ from h2, bp_s]
    have ecl : cl (MM C pk (fnS τ s) 0 t w u) 0 (5 ^ 0) = if mA (sn1 τ w) 0 s then [w] else [] := by
      show ((if mA (sn1 τ w) 0 s then some w else none).toList ++ []) = _
      split <;> rfl
    rw [ecl]
    by_cases g : mA (sn1 τ w) 0 s = true
    · rw [if_pos g, if_neg z10, if_pos g]
      obtain ⟨σ', k1, k2, k3, k4, k5⟩ := s_ct hT (by omega) hst hl hr L (by omega) hok ha
      rw [k1, bv_s]
      exact ⟨σ', rfl, k2, k3, fun p _ => by rw [k4], k5⟩
    · rw [if_neg g, if_pos z00, if_neg g, List.append_nil]
      exact ⟨σ, rfl, scC_r σ, hst, fun _ _ => rfl, ha⟩
  | succ j ih =>
    intro t d σ X w u L e hd hT hS hst hl hr hX hok hlen ha
    obtain ⟨d, rfl⟩ : ∃ g, d = g + 1 := ⟨d - 1, by omega⟩
    have e1 : ∀ j : Nat, zI (j : Int) + 1 = zI ((j + 1 : Nat) : Int) := fun j => by rw [show (1 : Int32) = zI 1 from rfl, zI_add, al_1]
    have key : ∀ (m k fu : Nat) (σ1 : cb_St) (L1 : List (Nat → Int)), k + m = C → m < fu → scC σ σ1 → stC σ1 C D pk → (∀ p, p < t → σ1.1 108 p = σ.1 108 p) → okL N L1 → L1.length + (5 - k) * 5 ^ j ≤ 90000 → acC τ σ1 D L1 → ∃ σ' : cb_St, f_X0_layFrom_37 (fun σ x1 x2 => f_X0_layFrom d x1 x2 σ) (zI t) X fu σ1 (zI k) = some σ' ∧ scC σ σ' ∧ stC σ' C D pk ∧ (∀ p, p < t → σ'.1 108 p = σ.1 108 p) ∧ acC τ σ' D (L1 ++ cl (MM C pk (fnS τ s) (j + 1) t w u) (k * 5 ^ j) ((5 - k) * 5 ^ j)) := by
      intro m
      induction m with
      | zero =>
        intro k fu σ1 L1 ek hf hc1 hst1 hl1 hok1 hlen1 ha1
        obtain ⟨fu, rfl⟩ : ∃ g, fu = g + 1 := ⟨fu - 1, by omega⟩
        have ekC : k = C := by omega
        subst ekC
        rw [f_X0_layFrom_37, hst1.1, if_pos (by rw [zI_le (by omega) (by omega) (by omega) (by omega)]; omega), MM_end, List.append_nil]
        exact ⟨σ1, rfl, hc1, hst1, hl1, ha1⟩
      | succ m ihm =>
        intro k fu σ1 L1 ek hf hc1 hst1 hl1 hok1 hlen1 ha1
        obtain ⟨fu, rfl⟩ : ∃ g, fu = g + 1 := ⟨fu - 1, by omega⟩
        have e5 : (5 - k) * 5 ^ j = 5 ^ j + (5 - (k + 1)) * 5 ^ j := by
          have : 5 - k = (5 - (k + 1)) + 1 := by omega
          rw [this, Nat.add_mul, Nat.one_mul, Nat.add_comm]
        rw [f_X0_layFrom_37, hst1.1, if_neg (by rw [zI_le (by omega) (by omega) (by omega) (by omega)]; omega), if_neg (by rw [show (5 : Int32) = zI 5 from rfl, zI_le (by omega) (by omega) (by omega) (by omega)]; omega), MM_blk C pk (fnS τ s) j t w u k (by omega)]
        unfold f_X0_layFrom_90
        simp (disch := omega) only [zI_ck, zI_clamp, Int.toNat_natCast, let_s, e1, bit_0 X k (by omega), hX k (by omega), hst1.2.2 k (by omega)]
        by_cases g : u k = false
        · rw [if_pos g, if_pos (show k < C ∧ u k = false from ⟨by omega, g⟩)]
          have hc2 : scC σ1 (cb_sI σ1 108 t (zI (pk k : Int))) := ⟨sI_2 _ _ _ _, fun x _ _ h => by rw [sI_n _ _ _ (by omega)]⟩
          have hc3 := scC_t hc1 hc2
          obtain ⟨σ2, k1, k2, k3, k4, k5⟩ := ih (t + 1) d (cb_sI σ1 108 t (zI (pk k : Int))) (X ||| b1 k) (ui w t (pk k)) (uu u k) L1 (by omega) (by omega) (sc_T hT hc3 (scM_r τ)) (sc_seen hS hc3) ⟨by rw [sI_n _ _ _ (by decide)]; exact hst1.1, by rw [sI_n _ _ _ (by decide)]; exact hst1.2.1, fun x hx => by rw [sI_n _ _ _ (by decide)]; exact hst1.2.2 x hx⟩ (fun p hp => by
              rw [sI_e]
              by_cases q : p = t
              · subst q; rw [upd_e, ui_e]
              · rw [upd_n _ _ q, ui_n _ _ q, hl1 p (by omega)]; exact hl p (by omega)) (rgL_u hr (pk k) (hpk k (by omega))) (fun x hx => by
              rw [show X ||| b1 k = X ||| ((1 : Int32) <<< (zI k &&& 31)) from rfl, bt_or1 X k x (by omega) (by omega), hX x hx]; rfl) hok1 (by omega) (by
              obtain ⟨z1, z2, z3, z4⟩ := ha1
              exact ⟨by rw [sI_n _ _ _ (by decide)]; exact z1, fun p hp => by rw [sI_n _ _ _ (by decide)]; exact z2 p hp, fun p g1 g2 => by rw [sI_n _ _ _ (by decide)]; exact z3 p g1 g2, fun p q o g1 g2 g3 => by rw [sI_n _ _ _ (by decide)]; exact z4 p q o g1 g2 g3⟩)
          rw [show f_X0_layFrom d (zI ((t + 1 : Nat) : Int)) (X ||| 1 <<< (zI (k : Int) &&& 31)) (cb_sI σ1 108 t (zI (pk k : Int))) = _ from k1, bv_s]
          have hlc := cl_len (MM C pk (fnS τ s) j (t + 1) (ui w t (pk k)) (uu u k)) (5 ^ j) 0
          have hokc : okL N (cl (MM C pk (fnS τ s) j (t + 1) (ui w t (pk k)) (uu u k)) 0 (5 ^ j)) := cl_all (5 ^ j) 0 (fun x dd hx p => rgL_r (fin_ok (τ := τ) N 0 0 hpk s j (t + 1) _ _ x dd (rgL_u hr (pk k) (hpk k (by omega))) hx) p)
          obtain ⟨σ3, f1, f2, f3, f4, f5⟩ := ihm (k + 1) fu σ2 _ (by omega) (by omega) (scC_t hc3 k2) k3 (fun p hp => by rw [k4 p (by omega), sI_e, upd_n _ _ (by omega)]; exact hl1 p hp) (okL_a hok1 hokc) (by rw [List.length_append]; omega) k5
          rw [List.append_assoc] at f5
          exact ⟨σ3, f1, f2, f3, f4, f5⟩
        · rw [if_neg g, if_neg (by intro q; exact g q.2), List.nil_append]
          exact ihm (k + 1) fu σ1 L1 (by omega) (by omega) hc1 hst1 hl1 hok1 (Nat.le_trans (Nat.add_le_add_left (Nat.mul_le_mul_right _ (by omega)) _) hlen1) ha1
    have e50 : (0 : Nat) * 5 ^ j = 0 := Nat.zero_mul _
    have e55 : (5 - 0) * 5 ^ j = 5 ^ (j + 1) := by rw [Nat.pow_succ, Nat.mul_comm]
    obtain ⟨σ', f1, f2, f3, f4, f5⟩ := key C 0 cb_fu σ L (by omega) (by unfold cb_fu; omega) (scC_r σ) hst (fun _ _ => rfl) hok (by rw [e55]; exact hlen) ha
    rw [e50, e55] at f5
    refine ⟨σ', ?_, f2, f3, f4, f5⟩
    rw [f_X0_layFrom]
    unfold f_X0_layFrom_0
    rw [hst.2.1, if_neg (by rw [show (0 : Int32) = zI 0 from rfl, zI_lt (by omega) (by omega) (by omega) (by omega)]; omega), if_neg (by rw [zI_le (by omega) (by omega) (by omega) (by omega)]; omega), if_pos (by rw [show (6 : Int32) = zI 6 from rfl, zI_lt (by omega) (by omega) (by omega) (by omega)]; omega)]
    exact f1
end DC
