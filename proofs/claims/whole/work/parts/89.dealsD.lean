/-! ===== deals: all that the class lays; the best pair ===== -/
def w00 : Nat → Int := fun _ => -1
def u00 : Nat → Bool := fun _ => false
/-- all ways -/
def aLL (τ : cb_St) (s C D : Nat) (pk : Nat → Nat) : List (Nat → Int) := cl (MM C pk (fnS τ s) D 0 w00 u00) 0 (5 ^ D)
theorem p5 (j : Nat) (h : j ≤ 5) : 1 ≤ 5 ^ j ∧ 5 ^ j ≤ 3125 := ⟨Nat.pow_pos (by omega), Nat.pow_le_pow_right (by omega) h⟩
section DD
variable {N Q : Nat} {σ σ' τ τ' : cb_St} {n ml : Nat} {pk : Nat → Nat} {hd : Nat → Int} {w : Nat → Int} {C D : Nat}
theorem rgL_0 (N : Nat) : rgL N 0 w00 := ⟨fun p hp => absurd hp (by omega), fun _ _ => rfl⟩
theorem aLL_ok (s : Nat) (hpk : ∀ k, k < C → pk k < N) : ∀ d ∈ aLL τ s C D pk, rgL N D d := by
  refine cl_all (5 ^ D) 0 (fun x d hx => ?_)
  have := fin_ok (τ := τ) N 0 0 hpk s D 0 w00 u00 x d (rgL_0 N) hx
  rw [Nat.zero_add] at this; exact this
theorem aLL_len (s : Nat) (hD : D ≤ 5) : (aLL τ s C D pk).length ≤ 3125 := Nat.le_trans (cl_len _ _ _) (p5 D hD).2
theorem s_lay_39 (x1 : Int32) (hN : N ≤ 12) (hP : rlP N Q σ 13 (τ.1 3) n ml pk hd) : ∀ (m i fu : Nat) (σ1 : cb_St), scC σ σ1 → (∀ k, k < i → k < n → σ1.1 107 k = zI (pk k)) → i + m = 5 → m < fu → ∃ σ2, scC σ σ2 ∧ σ2.1 106 = σ1.1 106 ∧ (∀ k, k < 5 → k < n → σ2.1 107 k = zI (pk k)) ∧ f_X0_lay_39 x1 fu σ1 (zI i) = cb_let (cb_sI σ2 106 0 0) (fun σ_1 => cb_bv (f_J7_fill_53178 109 6 (-1) σ_1) (fun σ_2 => cb_bv (f_J7_fill_53178 110 108 0 σ_2) (fun σ_3 => cb_bv (f_X0_layFrom cb_rd 0 0 σ_3) (fun σ_4 => some σ_4)))) := by
  have hn := hP.1
  intro m
  induction m with
  | zero =>
    intro i fu σ1 hc hk e hf
    obtain ⟨fu, rfl⟩ : ∃ g, fu = g + 1 := ⟨fu - 1, by omega⟩
    refine ⟨σ1, hc, rfl, fun k h1 h2 => hk k (by omega) h2, ?_⟩
    rw [f_X0_lay_39, if_pos (by rw [show (5 : Int32) = zI 5 from rfl, zI_le (by omega) (by omega) (by omega) (by omega)]; omega)]
  | succ m ih =>
    intro i fu σ1 hc hk e hf
    obtain ⟨fu, rfl⟩ : ∃ g, fu = g + 1 := ⟨fu - 1, by omega⟩
    have e1 : zI (i : Int) + 1 = zI ((i + 1 : Nat) : Int) := by rw [show (1 : Int32) = zI 1 from rfl, zI_add, al_1]
    have h13 : σ1.1 13 0 = zI n := by rw [hc.2 13 (by omega) (by omega) (by omega)]; exact hP.2.2.1
    obtain ⟨v, hv, hv2⟩ : ∃ v : Int32, f_X4_cardAt 13 (zI i) σ1 = some v ∧ (i < n → v = zI (pk i)) := by
      by_cases g : i < n
      · refine ⟨_, s_cardAt 13 σ1 h13 (by omega) i g, fun _ => ?_⟩
        rw [hc.2 14 (by omega) (by omega) (by omega)]
        exact (hP.2.2.2.2.2.2.2.1 i g).1
      · exact ⟨_, s_cardAt_n 13 σ1 h13 (by omega) i (by omega) (by omega) (by omega), fun h => absurd h g⟩
    have hc2 : scC σ (cb_sI σ1 107 i v) := scC_t hc ⟨sI_2 _ _ _ _, fun x _ _ h => by rw [sI_n _ _ _ (by omega)]⟩
    obtain ⟨σ2, k1, k2, k3, k4⟩ := ih (i + 1) fu (cb_sI σ1 107 i v) hc2 (fun k h1 h2 => by
      rw [sI_e]
      by_cases q : k = i
      · subst q; rw [upd_e]; exact hv2 h2
      · rw [upd_n _ _ q]; exact hk k (by omega) h2) (by omega) (by omega)
    refine ⟨σ2, k1, by rw [k2, sI_n _ _ _ (by decide)], k3, ?_⟩
    rw [f_X0_lay_39, if_neg (by rw [show (5 : Int32) = zI 5 from rfl, zI_le (by omega) (by omega) (by omega) (by omega)]; omega), hv, bp_s]
    rw [zI_ck _ (by omega) (by omega) (by omega), zI_clamp (by omega) (by omega), Int.toNat_natCast, let_s, let_s, e1]
    exact k4
theorem s_layN (hT : rlT N Q σ τ) (hP : rlP N Q σ 13 (τ.1 3) n ml pk hd) {s : Nat} (hS : seenS σ τ Q s) (x : Nat) (hx : x ≤ 5) (hC : C = min x n) (hD : D = min C Q) : ∃ σ', f_X0_lay (zI x) σ = some σ' ∧ scC σ σ' ∧ stC σ' C D pk ∧ acC τ σ' D (aLL τ s C D pk) := by
  have hN := hT.1
  have hQ := hT.2.1
  have hn := hP.1
  have h5 := hT.2.2.2.2.1
  have hpk : ∀ k, k < C → pk k < N := fun k hk => (hP.2.2.2.2.2.2.2.1 k (by omega)).2.2
  have m1 : f_J9_min_7cf53 (zI (n : Int)) 5 σ = some (zI ((min n 5 : Nat) : Int)) := by
    rw [show (5 : Int32) = zI 5 from rfl, s_min σ (by omega) (by omega) (by omega) (by omega)]; congr 2; omega
  have m2 : f_J9_min_7cf53 (zI (x : Int)) (zI ((min n 5 : Nat) : Int)) σ = some (zI (C : Int)) := by
    rw [s_min σ (by omega) (by omega) (by omega) (by omega)]; congr 2; omega
  have m3 : ∀ σ1, f_J9_min_7cf53 (zI (Q : Int)) 6 σ1 = some (zI (Q : Int)) := fun σ1 => by
    rw [show (6 : Int32) = zI 6 from rfl, s_min σ1 (by omega) (by omega) (by omega) (by omega)]; congr 2; omega
  have m4 : ∀ σ1, f_J9_min_7cf53 (zI (C : Int)) (zI (Q : Int)) σ1 = some (zI (D : Int)) := fun σ1 => by
    rw [s_min σ1 (by omega) (by omega) (by omega) (by omega)]; congr 2; omega
  have hc0 : scC σ (cb_sI (cb_sI σ 106 1 (zI C)) 106 2 (zI D)) := ⟨by rw [sI_2, sI_2], fun q _ _ h => by rw [sI_n _ _ _ (by omega), sI_n _ _ _ (by omega)]⟩
  obtain ⟨σ2, k1, k2, k3, k4⟩ := s_lay_39 (zI x) hN hP 5 0 cb_fu (cb_sI (cb_sI σ 106 1 (zI C)) 106 2 (zI D)) hc0 (fun k h _ => absurd h (by omega)) (by omega) (by unfold cb_fu; omega)
  obtain ⟨g9, a1, a2, a3⟩ := s_fill 109 6 (-1) (by omega) (cb_sI σ2 106 0 0)
  obtain ⟨g10, b1, b2, b3⟩ := s_fill 110 108 0 (by omega) (cb_sA (cb_sI σ2 106 0 0) 109 g9)
  have hc3 : scC σ (cb_sA (cb_sA (cb_sI σ2 106 0 0) 109 g9) 110 g10) := scC_t k1 ⟨by rw [sA_2, sA_2, sI_2], fun q _ _ h => by rw [sA_n _ _ (by omega), sA_n _ _ (by omega), sI_n _ _ _ (by omega)]⟩
  have r106 : (cb_sA (cb_sA (cb_sI σ2 106 0 0) 109 g9) 110 g10).1 106 = upd (σ2.1 106) 0 0 := by rw [sA_n _ _ (by decide), sA_n _ _ (by decide), sI_e]
  have r109 : (cb_sA (cb_sA (cb_sI σ2 106 0 0) 109 g9) 110 g10).1 109 = g9 := by rw [sA_n _ _ (by decide), sA_e]
  have r110 : (cb_sA (cb_sA (cb_sI σ2 106 0 0) 109 g9) 110 g10).1 110 = g10 := sA_e _ _ _
  have r107 : (cb_sA (cb_sA (cb_sI σ2 106 0 0) 109 g9) 110 g10).1 107 = σ2.1 107 := by rw [sA_n _ _ (by decide), sA_n _ _ (by decide), sI_n _ _ _ (by decide)]
  have hst : stC (cb_sA (cb_sA (cb_sI σ2 106 0 0) 109 g9) 110 g10) C D pk := by
    refine ⟨?_, ?_, fun k hk => ?_⟩
    · rw [r106, upd_n _ _ (by decide), k2, sI_e, upd_n _ _ (by decide), sI_e, upd_e]
    · rw [r106, upd_n _ _ (by decide), k2, sI_e, upd_e]
    · rw [r107]; exact k3 k (by omega) (by omega)
  have hac : acC τ (cb_sA (cb_sA (cb_sI σ2 106 0 0) 109 g9) 110 g10) D [] := by
    refine ⟨?_, fun p hp => ?_, fun p _ hp => ?_, fun p q o h1 h2 h3 => ?_⟩
    · rw [r106, upd_e]; rfl
    · rw [r109, a2 p (by omega), zI_m1]; rfl
    · rw [r109, a2 p (by omega), zI_m1]
    · rw [r110, b2 _ (by omega)]; rfl
  obtain ⟨σ', f1, f2, f3, -, f5⟩ := s_lay (N := N) (Q := Q) (τ := τ) (C := C) (D := D) (pk := pk) (by omega) (by omega) hpk D 0 cb_rd _ 0 w00 u00 [] (by omega) (by unfold cb_rd; omega) (sc_T hT hc3 (scM_r τ)) (sc_seen hS hc3) hst (fun p hp => absurd hp (by omega)) (rgL_0 N) (fun k _ => b_0 k) (fun d hd => absurd hd (by simp)) (by have := p5 D (by omega); simp; omega) hac
  refine ⟨σ', ?_, scC_t hc3 f2, f3, f5⟩
  unfold f_X0_lay
  rw [hP.2.2.1, m1, bp_s, m2, bp_s, let_s]
  rw [show (cb_sI σ 106 1 (zI (C : Int))).1 9 5 = zI (Q : Int) from by rw [sI_n _ _ _ (by decide)]; exact h5, m3, bp_s]
  rw [show (cb_sI σ 106 1 (zI (C : Int))).1 106 1 = zI (C : Int) from by rw [sI_e, upd_e], m4, bp_s, let_s]
  rw [show f_X0_lay_39 (zI (x : Int)) cb_fu (cb_sI (cb_sI σ 106 1 (zI (C : Int))) 106 2 (zI (D : Int))) 0 = _ from k4, let_s, a1, bv_s, b1, bv_s]
  rw [show f_X0_layFrom cb_rd 0 0 (cb_sA (cb_sA (cb_sI σ2 106 0 0) 109 g9) 110 g10) = _ from f1, bv_s]
/-- the pair whose greatest part is the least -/
def gP (τ : cb_St) (L : List (Nat → Int)) (p q : Nat) : Nat := max (cnt τ L p q 0) (max (cnt τ L p q 1) (cnt τ L p q 2))
def bP (D : Nat) (g : Nat → Nat → Nat) (i : Nat) : Nat → Nat → Int32 → Int32
  | 0, _, a => a
  | m + 1, b, a => if i / 6 < i % 6 ∧ i % 6 < D ∧ g (i / 6) (i % 6) < b then bP D g (i + 1) m (g (i / 6) (i % 6)) (zI ((10 * (i / 6) + i % 6 : Nat) : Int)) else bP D g (i + 1) m b a
theorem bP_s (D : Nat) (g : Nat → Nat → Nat) (i m b : Nat) (a : Int32) : bP D g i (m + 1) b a = if i / 6 < i % 6 ∧ i % 6 < D ∧ g (i / 6) (i % 6) < b then bP D g (i + 1) m (g (i / 6) (i % 6)) (zI ((10 * (i / 6) + i % 6 : Nat) : Int)) else bP D g (i + 1) m b a := rfl
theorem bP_skip (D : Nat) (g : Nat → Nat → Nat) (b : Nat) (a : Int32) : ∀ (k i : Nat), i + k ≤ 36 → (∀ q, i ≤ q → q < i + k → ¬ (q / 6 < q % 6 ∧ q % 6 < D)) → bP D g i (36 - i) b a = bP D g (i + k) (36 - (i + k)) b a := by
  intro k
  induction k with
  | zero => intro i _ _; rfl
  | succ k ih =>
    intro i h1 h2
    have e : 36 - i = (36 - (i + 1)) + 1 := by omega
    have h3 := h2 i (by omega) (by omega)
    rw [e, bP_s, if_neg (fun q => h3 ⟨q.1, q.2.1⟩), ih (i + 1) (by omega) (fun q g1 g2 => h2 q (by omega) (by omega))]
    have e2 : i + 1 + k = i + (k + 1) := by omega
    rw [e2]
theorem s_greatest_5 (L : List (Nat → Int)) (hL : L.length ≤ 3125) (hD : D ≤ 5) (ha : acC τ σ D L) (p q : Nat) (hpq : p < q) (hq : q < D) : ∀ (m i fu a : Nat), i + m = 3 → m < fu → a ≤ 3125 → f_X0_greatest_5 (zI p) (zI q) σ fu (zI a) (zI i) = some (zI (mMx (cnt τ L p q) i m a : Nat)) := by
  intro m
  induction m with
  | zero =>
    intro i fu a e hf ha
    obtain ⟨fu, rfl⟩ : ∃ g, fu = g + 1 := ⟨fu - 1, by omega⟩
    rw [f_X0_greatest_5, if_pos (by rw [show (3 : Int32) = zI 3 from rfl, zI_le (by omega) (by omega) (by omega) (by omega)]; omega)]; rfl
  | succ m ih =>
    intro i fu a e hf hb
    obtain ⟨fu, rfl⟩ : ∃ g, fu = g + 1 := ⟨fu - 1, by omega⟩
    have e1 : zI (i : Int) + 1 = zI ((i + 1 : Nat) : Int) := by rw [show (1 : Int32) = zI 1 from rfl, zI_add, al_1]
    have hc := Nat.le_trans (cnt_le τ L p q i) hL
    have hidx : (((6 : Int32) * zI p) + zI q) * 3 + zI (i : Int) = zI (((6 * p + q) * 3 + i : Nat) : Int) := by
      rw [show (6 : Int32) = zI ((6 : Nat) : Int) from rfl, show (3 : Int32) = zI ((3 : Nat) : Int) from rfl, zI_mul, zI_add, zI_mul, zI_add, ← Int.natCast_mul, ← Int.natCast_add, ← Int.natCast_mul, ← Int.natCast_add]
    have hlt : (6 * p + q) * 3 + i < 108 := by omega
    have h4 := ha.2.2.2 p q i hpq hq (by omega)
    have hmx : f_J9_max_7cf53 (zI (a : Int)) (zI (cnt τ L p q i : Nat)) σ = some (zI ((max a (cnt τ L p q i) : Nat) : Int)) := by
      unfold f_J9_max_7cf53
      by_cases h : a < cnt τ L p q i
      · rw [if_pos (by rw [zI_lt (by omega) (by omega) (by omega) (by omega)]; omega), Nat.max_eq_right (by omega)]
      · rw [if_neg (by rw [zI_lt (by omega) (by omega) (by omega) (by omega)]; omega), Nat.max_eq_left (by omega)]
    rw [f_X0_greatest_5, if_neg (by rw [show (3 : Int32) = zI 3 from rfl, zI_le (by omega) (by omega) (by omega) (by omega)]; omega), mMx_s]
    unfold f_X0_partOf f_X0_greatest_47
    rw [bp_s, hidx, if_neg (by rw [show (0 : Int32) = zI 0 from rfl, zI_lt (by omega) (by omega) (by omega) (by omega)]; omega), if_neg (by rw [show (108 : Int32) = zI 108 from rfl, zI_le (by omega) (by omega) (by omega) (by omega)]; omega)]
    rw [zI_ck _ (by omega) (by omega) (by omega), zI_clamp (by omega) (by omega), Int.toNat_natCast, h4, hmx, bp_s, let_s, e1, ih (i + 1) fu _ (by omega) (by omega) (by omega)]
theorem s_greatest (L : List (Nat → Int)) (hL : L.length ≤ 3125) (hD : D ≤ 5) (ha : acC τ σ D L) (p q : Nat) (hpq : p < q) (hq : q < D) : f_X0_greatest (zI p) (zI q) σ = some (zI (gP τ L p q : Nat)) := by
  have h := s_greatest_5 L hL hD ha p q hpq hq 3 0 cb_fu 0 (by omega) (by unfold cb_fu; omega) (by omega)
  have e : mMx (cnt τ L p q) 0 3 0 = gP τ L p q := by
    show max (max (max 0 (cnt τ L p q 0)) (cnt τ L p q 1)) (cnt τ L p q 2) = max _ (max _ _)
    omega
  rw [e] at h
  exact h
theorem gP_le (L : List (Nat → Int)) (p q : Nat) : gP τ L p q ≤ L.length := by
  have h0 := cnt_le τ L p q 0
  have h1 := cnt_le τ L p q 1
  have h2 := cnt_le τ L p q 2
  unfold gP; omega
theorem s_bp_22 (L : List (Nat → Int)) (hL : L.length ≤ 3125) (hD : D ≤ 5) (ha : acC τ σ D L) (hs : σ.1 106 2 = zI D) (p : Nat) (hp : p < D) (K : Int32 → Int32 → Int32 → Option Int32) (hK : ∀ (b : Nat) (a : Int32), b ≤ 3125 → K (zI b) a (zI ((p + 1 : Nat) : Int)) = some (bP D (gP τ L) (6 * (p + 1)) (36 - 6 * (p + 1)) b a)) : ∀ (m q fu b : Nat) (a : Int32), p < q → q + m = D → m < fu → b ≤ 3125 → f_X0_bestPair_22 K σ fu (zI b) a (zI p) (zI q) = some (bP D (gP τ L) (6 * p + q) (36 - (6 * p + q)) b a) := by
  have e1 : ∀ j : Nat, zI (j : Int) + 1 = zI ((j + 1 : Nat) : Int) := fun j => by rw [show (1 : Int32) = zI 1 from rfl, zI_add, al_1]
  intro m
  induction m with
  | zero =>
    intro q fu b a hpq e hf hb
    obtain ⟨fu, rfl⟩ : ∃ g, fu = g + 1 := ⟨fu - 1, by omega⟩
    rw [f_X0_bestPair_22, hs, if_pos (by rw [zI_le (by omega) (by omega) (by omega) (by omega)]; omega), let_s, e1, hK b a hb]
    have hsk := bP_skip D (gP τ L) b a (6 - q) (6 * p + q) (by omega) (fun x g1 g2 => by omega)
    have e2 : 6 * p + q + (6 - q) = 6 * (p + 1) := by omega
    rw [e2] at hsk
    rw [hsk]
  | succ m ih =>
    intro q fu b a hpq e hf hb
    obtain ⟨fu, rfl⟩ : ∃ g, fu = g + 1 := ⟨fu - 1, by omega⟩
    have hg := Nat.le_trans (gP_le (τ := τ) L p q) hL
    have e2 : 36 - (6 * p + q) = (36 - (6 * p + (q + 1))) + 1 := by omega
    have d1 : (6 * p + q) / 6 = p := by omega
    have d2 : (6 * p + q) % 6 = q := by omega
    rw [f_X0_bestPair_22, hs, if_neg (by rw [zI_le (by omega) (by omega) (by omega) (by omega)]; omega), s_greatest L hL hD ha p q hpq (by omega), bp_s, e2, bP_s, d1, d2]
    unfold f_X0_bestPair_57
    rw [let_s, let_s, let_s, e1, ih (q + 1) fu b a (by omega) (by omega) (by omega) hb, ih (q + 1) fu (gP τ L p q) _ (by omega) (by omega) (by omega) hg]
    have e3 : 6 * p + (q + 1) = 6 * p + q + 1 := by omega
    rw [e3]
    by_cases h : gP τ L p q < b
    · rw [if_neg (by rw [zI_le (by omega) (by omega) (by omega) (by omega)]; omega), if_pos ⟨by omega, by omega, h⟩, show (10 : Int32) = zI ((10 : Nat) : Int) from rfl, zI_mul, zI_add, ← Int.natCast_mul, ← Int.natCast_add]
    · rw [if_pos (by rw [zI_le (by omega) (by omega) (by omega) (by omega)]; omega), if_neg (fun z => h z.2.2)]
theorem s_bp_9 (L : List (Nat → Int)) (hL : L.length ≤ 3125) (hD : D ≤ 5) (ha : acC τ σ D L) (hs : σ.1 106 2 = zI D) : ∀ (m p fu b : Nat) (a : Int32), p + m = D → m < fu → b ≤ 3125 → f_X0_bestPair_9 σ fu (zI b) a (zI p) = some (bP D (gP τ L) (6 * p) (36 - 6 * p) b a) := by
  have e1 : ∀ j : Nat, zI (j : Int) + 1 = zI ((j + 1 : Nat) : Int) := fun j => by rw [show (1 : Int32) = zI 1 from rfl, zI_add, al_1]
  intro m
  induction m with
  | zero =>
    intro p fu b a e hf hb
    obtain ⟨fu, rfl⟩ : ∃ g, fu = g + 1 := ⟨fu - 1, by omega⟩
    rw [f_X0_bestPair_9, hs, if_pos (by rw [zI_le (by omega) (by omega) (by omega) (by omega)]; omega)]
    have hsk := bP_skip D (gP τ L) b a (36 - 6 * p) (6 * p) (by omega) (fun x g1 g2 => by omega)
    have e2 : 6 * p + (36 - 6 * p) = 36 := by omega
    rw [e2] at hsk
    rw [hsk]; rfl
  | succ m ih =>
    intro p fu b a e hf hb
    obtain ⟨fu, rfl⟩ : ∃ g, fu = g + 1 := ⟨fu - 1, by omega⟩
    rw [f_X0_bestPair_9, hs, if_neg (by rw [zI_le (by omega) (by omega) (by omega) (by omega)]; omega), let_s, e1]
    rw [s_bp_22 L hL hD ha hs p (by omega) (f_X0_bestPair_9 σ fu) (fun b a hb => ih (p + 1) fu b a (by omega) (by omega) hb) (D - (p + 1)) (p + 1) cb_fu b a (by omega) (by omega) (by unfold cb_fu; omega) hb]
    have hsk := bP_skip D (gP τ L) b a (p + 1) (6 * p) (by omega) (fun x g1 g2 => by omega)
    rw [hsk]
theorem s_bp (L : List (Nat → Int)) (hL : L.length ≤ 3125) (hD : D ≤ 5) (ha : acC τ σ D L) (hs : σ.1 106 2 = zI D) : f_X0_bestPair σ = some (bP D (gP τ L) 0 36 L.length (-1)) := by
  have h := s_bp_9 L hL hD ha hs D 0 cb_fu L.length (-1) (by omega) (by unfold cb_fu; omega) hL
  unfold f_X0_bestPair
  rw [let_s, ha.1]
  exact h
theorem s_sureOf (L : List (Nat → Int)) (ha : acC τ σ D L) (hD : D ≤ 5) (p : Nat) (hp : p < 6) : f_X0_sureOf (zI p) σ = some (zI (if p < D then (srC L p).2 else -1)) := by
  unfold f_X0_sureOf f_X0_sureOf_10
  simp (disch := omega) only [zI_lit, zI_neg, zI_add, zI_sub, zI_mul, zI_lt, zI_le, zI_inj, zI_ck, zI_clamp, ← Int.natCast_add, la_1, al_1, la_2, al_2, la_3, al_3, la_4, al_4, la_5, al_5, la_6, al_6, la_7, al_7, la_8, al_8, la_9, al_9, la_10, al_10, la_11, al_11, la_12, al_12, la_13, al_13, la_16, al_16, la_19, al_19, la_20, al_20, la_24, al_24, la_25, al_25, la_26, al_26, la_27, al_27, la_51, al_51, la_52, al_52, la_0, Int.toNat_natCast, bp_s, let_s, bi_s, bv_s, b1_f]
  rw [if_neg (by omega), if_pos (by omega)]
  by_cases g : p < D
  · rw [if_pos g, ha.2.1 p g]
  · rw [if_neg g, ha.2.2.1 p (by omega) hp]
end DD
