/-! ===== deals and ask alike ===== -/
def mSt (c : (Nat → Int) → Int) (s : Nat × Int × Bool) (d : Nat → Int) : Nat × Int × Bool := (s.1 + 1, c d, s.2.2 && (decide (s.1 = 0) || decide (c d = s.2.1)))
def mRR (x2 : Int32) (s : Nat × Int × Bool) : Int32 := if x2 = -1 then zI (s.1 : Nat) else if s.2.2 then zI s.2.1 else -1
def oo (τ τ' : cb_St) : Prop := ∀ q, q ≠ 12 → q ≠ 16 → τ'.1 q = τ.1 q
theorem oo_r (τ : cb_St) : oo τ τ := fun _ _ _ => rfl
theorem oo_t {a b c : cb_St} (h1 : oo a b) (h2 : oo b c) : oo a c := fun q g1 g2 => (h2 q g1 g2).trans (h1 q g1 g2)
theorem oo_sc {τ τ' : cb_St} (h : oo τ τ') : scM τ τ' := ⟨fun j _ => by rw [h 0 (by decide) (by decide)], fun q hq => h q (by omega) (by omega)⟩
theorem o16_oo {τ τ' : cb_St} (h : o16 τ τ') : oo τ τ' := fun q _ g => h q g
theorem fnS_c {τ τ' : cb_St} (h : scM τ τ') (s : Nat) : fnS τ' s = fnS τ s := by
  funext w u; unfold fnS; rw [sn1_c h]
theorem cnt_c {τ τ' : cb_St} (h : scM τ τ') (L : List (Nat → Int)) (p q o : Nat) : cnt τ' L p q o = cnt τ L p q o := by
  unfold cnt
  congr 1
  funext d
  rw [sc_mT h]
theorem cnt_cons (τ : cb_St) (L : List (Nat → Int)) (d : Nat → Int) (p q o : Nat) : cnt τ (d :: L) p q o = (if mT τ (d p) (d q) = zI (o : Int) then 1 else 0) + cnt τ L p q o := by
  unfold cnt
  rw [List.countP_cons, Nat.add_comm]
  congr 1
  by_cases h : mT τ (d p) (d q) = zI (o : Int)
  · rw [decide_eq_true h, if_pos rfl, if_pos h]
  · rw [decide_eq_false h, if_neg Bool.false_ne_true, if_neg h]
theorem sc_seenM {σ τ τ' : cb_St} {Q s : Nat} (h : seenS σ τ Q s) (hc : scM τ τ') : seenS σ τ' Q s := by
  obtain ⟨h1, h2, h3, h4⟩ := h
  refine ⟨h1, h2, by rw [hc.1 28 (by omega)]; exact h3, fun i hi => ?_⟩
  rw [hc.2 13 (by omega), hc.2 14 (by omega), hc.2 15 (by omega)]
  exact h4 i hi
section AK
variable {N Q : Nat} {σ σ' τ τ' : cb_St} {n ml : Nat} {pk : Nat → Nat} {hd : Nat → Int} {w : Nat → Int} {C D s : Nat}
/-- one code, at any scratch -/
theorem m_dd (hT : rlT N Q σ τ) (hP : rlP N Q σ 13 (τ.1 3) n ml pk hd) (hS : seenS σ τ Q s) (hC : C ≤ 5) (hCn : C ≤ n) (hDC : D ≤ C) (h33 : τ.1 0 33 = zI D) (h34 : τ.1 0 34 = zI C) (ho : oo τ τ') (r : Nat) (hr : r < 5 ^ D) : ∃ ρ τ'', f_X8_dealsBy (zI r) τ' = some (ρ, τ'') ∧ o16 τ' τ'' ∧ ((ρ = 0 ∧ MM C pk (fnS τ s) D 0 w00 u00 r = none) ∨ (ρ = 1 ∧ ∃ d, MM C pk (fnS τ s) D 0 w00 u00 r = some d ∧ has16 τ'' d)) := by
  have hsc := oo_sc ho
  have hh := m_d (τ := τ') (sc_T hT (scC_r σ) hsc) (sc_P hT.1 hP (scC_r σ) hsc) (sc_seenM hS hsc) hC hCn hDC (by rw [ho 0 (by decide) (by decide)]; exact h33) (by rw [ho 0 (by decide) (by decide)]; exact h34) r hr
  rw [fnS_c hsc] at hh
  exact hh
theorem m_deals_47 (hT : rlT N Q σ τ) (hP : rlP N Q σ 13 (τ.1 3) n ml pk hd) (hS : seenS σ τ Q s) (hC : C ≤ 5) (hCn : C ≤ n) (hDC : D ≤ C) (h33 : τ.1 0 33 = zI D) (h34 : τ.1 0 34 = zI C) (x1 x2 : Int32) (c : (Nat → Int) → Int) (hx : (x2 = -1 ∧ c = fun _ => -1) ∨ ∃ p : Nat, p < 6 ∧ x2 = zI p ∧ c = fun d => d p) : ∀ (m i fu : Nat) (τ' : cb_St) (st : Nat × Int × Bool), i + m = 5 ^ D → m < fu → oo τ τ' → st.1 + m ≤ 90000 → -1 ≤ st.2.1 → st.2.1 < 12 → ∃ τ'', f_X8_deals_47 x1 x2 fu τ' (zI st.1) (zI st.2.1) (if st.2.2 then 1 else 0) (zI i) = some (mRR x2 ((cl (MM C pk (fnS τ s) D 0 w00 u00) i m).foldl (mSt c) st), τ'') ∧ oo τ τ'' := by
  have hN := hT.1
  obtain ⟨q1, q2⟩ := p5 D (by omega)
  have hpk : ∀ k, k < C → pk k < N := fun k hk => (hP.2.2.2.2.2.2.2.1 k (by have := hP.1; omega)).2.2
  have e1 : ∀ j : Nat, zI (j : Int) + 1 = zI ((j + 1 : Nat) : Int) := fun j => by rw [show (1 : Int32) = zI 1 from rfl, zI_add, al_1]
  intro m
  induction m with
  | zero =>
    intro i fu τ' st e hf ho hb r1 r2
    obtain ⟨fu, rfl⟩ : ∃ g, fu = g + 1 := ⟨fu - 1, by omega⟩
    refine ⟨τ', ?_, ho⟩
    rw [f_X8_deals_47, ho 0 (by decide) (by decide), h33, m_power5 τ' D (by omega), bp_s, if_pos (by rw [zI_le (by omega) (by omega) (by omega) (by omega)]; omega)]
    show _ = some (mRR x2 st, τ')
    unfold mRR
    by_cases g : x2 = -1
    · rw [if_pos g, if_pos g]
    · rw [if_neg g, if_neg g]
      cases st.2.2 <;> rfl
  | succ m ih =>
    intro i fu τ' st e hf ho hb r1 r2
    obtain ⟨fu, rfl⟩ : ∃ g, fu = g + 1 := ⟨fu - 1, by omega⟩
    obtain ⟨ρ, τ2, j1, j2, j3⟩ := m_dd hT hP hS hC hCn hDC h33 h34 ho i (by omega)
    have ho2 := oo_t ho (o16_oo j2)
    rw [f_X8_deals_47, ho 0 (by decide) (by decide), h33, m_power5 τ' D (by omega), bp_s, if_neg (by rw [zI_le (by omega) (by omega) (by omega) (by omega)]; omega), j1, bi_s, cl_s]
    unfold f_X8_deals_116
    rcases j3 with ⟨hρ, hn⟩ | ⟨hρ, d, hd1, hd2⟩
    · rw [hρ, if_pos rfl, hn, let_s, e1]
      exact ih (i + 1) fu τ2 st (by omega) (by omega) ho2 (by omega) r1 r2
    · have hrd := rgL_r (fin_ok (τ := τ) N 0 0 hpk s D 0 w00 u00 i d (rgL_0 N) hd1)
      have hcr : -1 ≤ c d ∧ c d < 12 := by
        rcases hx with ⟨-, hc⟩ | ⟨p, -, -, hc⟩
        · rw [hc]; (try dsimp only); omega
        · rw [hc]; (try dsimp only); have := hrd p; omega
      have key : f_X8_deals_84 (f_X8_deals_47 x1 x2 fu) x1 x2 τ2 (zI st.1) (zI st.2.1) (if st.2.2 then 1 else 0) (zI i) (zI (c d)) = f_X8_deals_47 x1 x2 fu τ2 (zI (mSt c st d).1) (zI (mSt c st d).2.1) (if (mSt c st d).2.2 then 1 else 0) (zI ((i + 1 : Nat) : Int)) := by
        unfold f_X8_deals_84 f_X8_deals_106 f_X8_deals_102 f_X8_deals_107 f_X8_deals_116
        have c0 : (zI (st.1 : Int) = 0) = (st.1 = 0) := by
          rw [show (0 : Int32) = zI 0 from rfl, zI_inj (by omega) (by omega) (by omega) (by omega)]; exact propext ⟨fun h => by omega, fun h => by omega⟩
        have c1 : (zI (c d) = zI st.2.1) = (c d = st.2.1) := zI_inj (by omega) (by omega) (by omega) (by omega)
        simp only [let_s, e1, c0, c1]
        unfold mSt
        cases hb2 : st.2.2
        · rw [if_neg Bool.false_ne_true, if_pos rfl]; rfl
        · rw [if_pos rfl, if_neg (show ¬ (1 : Int32) = 0 from by decide)]
          by_cases g0 : st.1 = 0
          · rw [if_pos g0]; simp only [g0, decide_true, Bool.true_or, Bool.and_self, if_true]
          · rw [if_neg g0]
            by_cases g1 : c d = st.2.1
            · rw [if_pos g1]; simp only [g1, decide_true, Bool.or_true, Bool.and_self, if_true]
            · rw [if_neg g1]; simp only [g0, g1, decide_false, Bool.or_self, Bool.and_false, if_neg Bool.false_ne_true]
      rw [hρ, if_neg (show ¬ (1 : Int32) = 0 from by decide), hd1]
      show ∃ τ'', _ = some (mRR x2 (List.foldl (mSt c) st (d :: cl (MM C pk (fnS τ s) D 0 w00 u00) (i + 1) m)), τ'') ∧ _
      rw [List.foldl_cons]
      have hih := ih (i + 1) fu τ2 (mSt c st d) (by omega) (by omega) ho2 (by show st.1 + 1 + m ≤ 90000; omega) hcr.1 hcr.2
      rcases hx with ⟨hx2, hc⟩ | ⟨p, hp, hx2, hc⟩
      · rw [if_pos hx2]
        have ec : (-1 : Int32) = zI (c d) := by rw [hc, zI_m1]
        rw [ec, key]; exact hih
      · have hne : ¬ x2 = -1 := by rw [hx2, zI_m1, zI_inj (by omega) (by omega) (by omega) (by omega)]; omega
        rw [if_neg hne, hx2]
        simp (disch := omega) only [zI_ck, zI_clamp, Int.toNat_natCast, hd2 p hp]
        have ec : d p = c d := by rw [hc]
        rw [ec, ← hx2, key]; exact hih
theorem sr_sim (p : Nat) : ∀ (L : List (Nat → Int)) (k : Nat) (a s' : Int) (b : Bool), (∀ d ∈ L, 0 ≤ d p) → (k = 0 → b = true) → a = (if b then s' else -1) → (L.foldl (srS p) (k, a)).2 = (if (L.foldl (mSt (fun d => d p)) (k, s', b)).2.2 then (L.foldl (mSt (fun d => d p)) (k, s', b)).2.1 else -1) := by
  intro L
  induction L with
  | nil => intro k a s' b _ _ h; exact h
  | cons d L ih =>
    intro k a s' b hL hk h
    have hd := hL d (List.mem_cons_self)
    rw [List.foldl_cons, List.foldl_cons]
    refine ih (k + 1) _ (d p) _ (fun e he => hL e (List.mem_cons_of_mem _ he)) (fun h => absurd h (by omega)) ?_
    (try dsimp only)
    by_cases g0 : k = 0
    · rw [hk g0]; simp [g0]
    · cases b
      · simp at h; simp [g0, h]
      · simp at h; subst h
        by_cases g1 : a = d p
        · simp [g0, g1]
        · have g2 : ¬ d p = a := fun z => g1 z.symm
          simp [g0, g1, g2]
theorem sr_m1 (c : (Nat → Int) → Int) : ∀ (L : List (Nat → Int)) (k : Nat), (∀ d ∈ L, c d = -1) → L.foldl (mSt c) (k, -1, true) = (k + L.length, -1, true) := by
  intro L
  induction L with
  | nil => intro k _; rfl
  | cons d L ih =>
    intro k h
    have hd := h d (List.mem_cons_self)
    have e : mSt c (k, -1, true) d = (k + 1, -1, true) := by unfold mSt; rw [hd]; simp
    rw [List.foldl_cons, e, ih (k + 1) (fun e he => h e (List.mem_cons_of_mem _ he)), List.length_cons]
    congr 1; omega
theorem m_begin (hP : rlP N Q σ 13 (τ.1 3) n ml pk hd) (hN : N ≤ 12) (hQ : Q ≤ 6) (h7 : τ.1 0 7 = zI Q) (x : Nat) (hx : x ≤ 5) (hC : C = min x n) (hD : D = min C Q) : ∃ τ1, f_X8_beginDeals (zI x) τ = some τ1 ∧ scM τ τ1 ∧ τ1.1 0 33 = zI D ∧ τ1.1 0 34 = zI C := by
  have hn := hP.1
  have t12 : Int32.toNatClampNeg 12 = 12 := by decide
  have k12 : ∀ y, cb_ck (0 ≤ Int32.toInt 12 ∧ Int32.toInt 12 < 51) y = y := fun y => ck_t (β := cb_St) y (by decide)
  have h23 : f_X8_beginDeals_23 (zI x) τ (zI C) = some (cb_sI (cb_sI τ 0 34 (zI C)) 0 33 (zI D)) := by
    unfold f_X8_beginDeals_23 f_X8_beginDeals_49
    rw [let_s, let_s, let_s]
    have a7 : (cb_sI τ 0 34 (zI (C : Int))).1 0 7 = zI Q := by rw [sI_e, upd_n _ _ (by decide)]; exact h7
    have a34 : (cb_sI τ 0 34 (zI (C : Int))).1 0 34 = zI C := by rw [sI_e, upd_e]
    rw [a7, a34]
    by_cases g : Q ≤ C
    · rw [if_pos (by rw [zI_le (by omega) (by omega) (by omega) (by omega)]; omega), hD, Nat.min_eq_right g]
    · rw [if_neg (by rw [zI_le (by omega) (by omega) (by omega) (by omega)]; omega), hD, Nat.min_eq_left (by omega)]
  refine ⟨cb_sI (cb_sI τ 0 34 (zI C)) 0 33 (zI D), ?_, ⟨fun j hj => ?_, fun q hq => ?_⟩, ?_, ?_⟩
  · unfold f_X8_beginDeals
    rw [k12, k12, t12, hP.2.2.2.1]
    by_cases g : n ≤ x
    · rw [if_pos (by rw [zI_le (by omega) (by omega) (by omega) (by omega)]; omega)]
      have : (n : Nat) = C := by omega
      rw [this]; exact h23
    · rw [if_neg (by rw [zI_le (by omega) (by omega) (by omega) (by omega)]; omega)]
      have : (x : Nat) = C := by omega
      rw [show zI (x : Int) = zI (C : Int) from by rw [this], ← this]
      rw [← this] at h23
      exact h23
  · rw [sI_e, upd_n _ _ (by omega), sI_e, upd_n _ _ (by omega)]
  · rw [sI_n _ _ _ (by omega), sI_n _ _ _ (by omega)]
  · rw [sI_e, upd_e]
  · rw [sI_e, upd_n _ _ (by decide), sI_e, upd_e]
theorem rlB_seen (hB : rlB N Q σ τ) : ∃ s, seenS σ τ Q s := by
  obtain ⟨s, w, h1, h2, h3, h4, h5, h6, h7, h8⟩ := hB
  exact ⟨s, h1, h3, h4, h7⟩
theorem l64_5 : (5 : Int64).toInt = 5 := by decide
/-- deals, once the arguments are good -/
theorem q_deals_in (h : Rel σ τ) (x : Nat) (h1 : 1 ≤ x) (hx : x ≤ 5) (x2 : Int32) (hp : x2 = -1 ∨ ∃ p : Nat, p < 6 ∧ x2 = zI p) : simI σ τ (f_X7_deals_19 (zI x) x2 σ) (f_X8_deals_16 (zI x) x2 τ) := by
  have h0 := h
  obtain ⟨N, Q, n, ml, pk, hd, u, v, hX, hP, hU, hS⟩ := h
  have hT := hX.1
  have hN := hT.1
  have hQ := hT.2.1
  have hn := hP.1
  obtain ⟨s, hs⟩ := rlB_seen hX.2.2.1
  have hpk : ∀ k, k < min x n → pk k < N := fun k hk => (hP.2.2.2.2.2.2.2.1 k (by omega)).2.2
  obtain ⟨σ1, f1, f2, f3, f4⟩ := s_layN hT hP hs x hx rfl rfl
  obtain ⟨τ1, g1, g2, g3, g4⟩ := m_begin hP hN hQ hT.2.2.2.2.2.1 x hx rfl rfl
  have hT1 := sc_T hT (scC_r σ) g2
  have hP1 := sc_P hN hP (scC_r σ) g2
  have hs1 := sc_seenM hs g2
  have hlen := aLL_len (τ := τ) (C := min x n) (D := min (min x n) Q) (pk := pk) s (by omega)
  unfold f_X7_deals_19 f_X8_deals_16
  rw [s_in, bp_s, zI_64 (by omega) (by omega), show (1 : Int64).toInt = 1 from l64_1, l64_5, if_pos (show (1 : Int) ≤ (x : Int) ∧ (x : Int) ≤ 5 by omega), if_neg z10, if_neg (by rw [show (1 : Int32) = zI 1 from rfl, zI_lt (by omega) (by omega) (by omega) (by omega)]; omega), if_pos (by rw [show (5 : Int32) = zI 5 from rfl, zI_le (by omega) (by omega) (by omega) (by omega)]; omega)]
  rw [f1, bv_s, g1, bv_s]
  have e0 : cl (MM (min x n) pk (fnS τ1 s) (min (min x n) Q) 0 w00 u00) 0 (5 ^ min (min x n) Q) = aLL τ s (min x n) (min (min x n) Q) pk := by rw [fnS_c g2]; rfl
  rcases hp with hp | ⟨p, hp6, hp⟩
  · obtain ⟨τ2, j1, j2⟩ := m_deals_47 hT1 hP1 hs1 (by omega) (by omega) (by omega) g3 g4 (zI x) x2 (fun _ => -1) (Or.inl ⟨hp, rfl⟩) (5 ^ min (min x n) Q) 0 cb_fu τ1 (0, -1, true) (by omega) (by have := p5 (min (min x n) Q) (by omega); unfold cb_fu; omega) (oo_r τ1) (by have := p5 (min (min x n) Q) (by omega); show 0 + _ ≤ 90000; omega) (by decide) (by decide)
    rw [e0, sr_m1 _ _ 0 (fun _ _ => rfl)] at j1
    have j1' : f_X8_deals_47 (zI x) x2 cb_fu τ1 0 (-1) 1 0 = _ := j1
    rw [j1', if_pos hp, f4.1]
    refine ⟨_, _, _, rfl, ?_, sc_Rel h0 f2 (scM_t g2 (oo_sc j2))⟩
    unfold mRR
    rw [if_pos hp, Nat.zero_add]
  · obtain ⟨τ2, j1, j2⟩ := m_deals_47 hT1 hP1 hs1 (by omega) (by omega) (by omega) g3 g4 (zI x) x2 (fun d => d p) (Or.inr ⟨p, hp6, hp, rfl⟩) (5 ^ min (min x n) Q) 0 cb_fu τ1 (0, -1, true) (by omega) (by have := p5 (min (min x n) Q) (by omega); unfold cb_fu; omega) (oo_r τ1) (by have := p5 (min (min x n) Q) (by omega); show 0 + _ ≤ 90000; omega) (by decide) (by decide)
    rw [e0] at j1
    have j1' : f_X8_deals_47 (zI x) x2 cb_fu τ1 0 (-1) 1 0 = _ := j1
    have hne : ¬ x2 = -1 := by rw [hp, zI_m1, zI_inj (by omega) (by omega) (by omega) (by omega)]; omega
    rw [j1', if_neg hne, hp, s_sureOf _ f4 (by omega) p hp6, bp_s]
    refine ⟨_, _, _, rfl, ?_, sc_Rel h0 f2 (scM_t g2 (oo_sc j2))⟩
    unfold mRR
    rw [if_neg (by rw [hp] at hne; exact hne)]
    have hall := aLL_ok (τ := τ) (C := min x n) (D := min (min x n) Q) (pk := pk) (N := N) s hpk
    by_cases g : p < min (min x n) Q
    · rw [if_pos g]
      have hsim := sr_sim p (aLL τ s (min x n) (min (min x n) Q) pk) 0 (-1) (-1) true (fun d hd => ((hall d hd).1 p g).1) (fun _ => rfl) (by simp)
      rw [show (srC (aLL τ s (min x n) (min (min x n) Q) pk) p).2 = _ from hsim]
      split <;> first | rfl | (rw [zI_m1])
    · rw [if_neg g, sr_m1 _ _ 0 (fun d hd => (hall d hd).2 p (by omega))]
      rfl
theorem q_deals (h : Rel σ τ) (x y : Int32) : simI σ τ (f_X7_deals x y σ) (f_X8_deals x y τ) := by
  have h0 := h
  obtain ⟨N, Q, n, ml, pk, hd, u, v, hX, hP, hU, hS⟩ := h
  have hT := hX.1
  have hQ := hT.2.1
  obtain ⟨a, rfl, a1, a2⟩ := zI_ex x
  obtain ⟨b, rfl, b1, b2⟩ := zI_ex y
  have key : (zI b = -1 ∨ ∃ p : Nat, p < 6 ∧ zI b = zI p) → simI σ τ (f_X7_deals_19 (zI a) (zI b) σ) (f_X8_deals_16 (zI a) (zI b) τ) := by
    intro hp
    by_cases ha : 1 ≤ a ∧ a ≤ 5
    · obtain ⟨x, rfl⟩ := Int.eq_ofNat_of_zero_le (show 0 ≤ a by omega)
      exact q_deals_in h0 x (by omega) (by omega) (zI b) hp
    · unfold f_X7_deals_19 f_X8_deals_16 f_X7_deals_29
      rw [s_in, bp_s, zI_64 a1 a2, show (1 : Int64).toInt = 1 from l64_1, l64_5, if_neg ha, if_pos z00]
      by_cases g : a < 1
      · rw [if_pos (by rw [show (1 : Int32) = zI 1 from rfl, zI_lt (by omega) (by omega) (by omega) (by omega)]; omega)]; exact sim_no h0
      · rw [if_neg (by rw [show (1 : Int32) = zI 1 from rfl, zI_lt (by omega) (by omega) (by omega) (by omega)]; omega), if_neg (by rw [show (5 : Int32) = zI 5 from rfl, zI_le (by omega) (by omega) (by omega) (by omega)]; omega)]; exact sim_no h0
  unfold f_X7_deals f_X8_deals
  by_cases hb : zI b = -1
  · rw [if_pos hb, if_pos hb]; exact key (Or.inl hb)
  · rw [if_neg hb, if_neg hb, s_hasPerson 9 σ hT.2.2.2.2.1 hQ b b1 b2, m_isPerson τ hT.2.2.2.2.2.1 hQ b b1 b2, bp_s, bp_s]
    by_cases g : 0 ≤ b ∧ b < Q
    · rw [if_pos g, if_neg z10, if_neg z10]
      obtain ⟨p, rfl⟩ := Int.eq_ofNat_of_zero_le g.1
      exact key (Or.inr ⟨p, by omega, rfl⟩)
    · rw [if_neg g, if_pos z00, if_pos z00]; exact sim_no h0
theorem m_ask_72 (K : cb_St → Int32 → Int32 → Int32 → Option (Int32 × cb_St)) (x1 x2 x3 x4 x5 x6 : Int32) : ∀ (m i fu : Nat) (τ : cb_St), i + m = 3 → m < fu → ∃ τ', f_X8_ask_72 K x1 fu τ x2 x3 x4 x5 x6 (zI i) = f_X8_ask_95 K x1 cb_fu τ' x2 x3 x4 x5 x6 0 ∧ oo τ τ' ∧ (∀ j, i ≤ j → j < 3 → τ'.1 12 j = zI 0) ∧ ∀ j, j < i → τ'.1 12 j = τ.1 12 j := by
  intro m
  induction m with
  | zero =>
    intro i fu τ e hf
    obtain ⟨fu, rfl⟩ : ∃ g, fu = g + 1 := ⟨fu - 1, by omega⟩
    refine ⟨τ, ?_, oo_r τ, fun j h1 h2 => absurd h2 (by omega), fun _ _ => rfl⟩
    rw [f_X8_ask_72, if_pos (by rw [show (3 : Int32) = zI 3 from rfl, zI_le (by omega) (by omega) (by omega) (by omega)]; omega)]
  | succ m ih =>
    intro i fu τ e hf
    obtain ⟨fu, rfl⟩ : ∃ g, fu = g + 1 := ⟨fu - 1, by omega⟩
    have e1 : zI (i : Int) + 1 = zI ((i + 1 : Nat) : Int) := by rw [show (1 : Int32) = zI 1 from rfl, zI_add, al_1]
    obtain ⟨τ', h1, h2, h3, h4⟩ := ih (i + 1) fu (cb_sI τ 12 i 0) (by omega) (by omega)
    refine ⟨τ', ?_, oo_t (fun q g1 _ => sI_n _ _ _ g1) h2, fun j g1 g2 => ?_, fun j g1 => ?_⟩
    · rw [f_X8_ask_72, if_neg (by rw [show (3 : Int32) = zI 3 from rfl, zI_le (by omega) (by omega) (by omega) (by omega)]; omega)]
      simp (disch := omega) only [zI_ck, zI_clamp, Int.toNat_natCast, let_s, e1]
      exact h1
    · by_cases hj : j = i
      · subst hj; rw [h4 j (by omega), sI_e, upd_e]; rfl
      · exact h3 j (by omega) g2
    · rw [h4 j (by omega), sI_e, upd_n _ _ (by omega)]
theorem m_gp2 {B : Nat} (hB : B < 100000) (g : Nat → Nat) (hg : ∀ j, j < 3 → τ.1 12 j = zI (g j) ∧ g j ≤ B) : f_X8_greatestPart τ = some (zI ((max (g 0) (max (g 1) (g 2)) : Nat) : Int)) := by
  have h4 : ∀ (m i fu a : Nat), i + m = 3 → m < fu → a ≤ B → f_X8_greatestPart_4 τ fu (zI a) (zI i) = some (zI (mMx g i m a : Nat)) := by
    intro m
    induction m with
    | zero =>
      intro i fu a e hf ha
      obtain ⟨fu, rfl⟩ : ∃ g, fu = g + 1 := ⟨fu - 1, by omega⟩
      rw [f_X8_greatestPart_4, if_pos (by rw [show (3 : Int32) = zI 3 from rfl, zI_le (by omega) (by omega) (by omega) (by omega)]; omega)]; rfl
    | succ m ih =>
      intro i fu a e hf ha
      obtain ⟨fu, rfl⟩ : ∃ g, fu = g + 1 := ⟨fu - 1, by omega⟩
      obtain ⟨h1, h2⟩ := hg i (by omega)
      have e1 : zI (i : Int) + 1 = zI ((i + 1 : Nat) : Int) := by rw [show (1 : Int32) = zI 1 from rfl, zI_add, al_1]
      rw [f_X8_greatestPart_4, if_neg (by rw [show (3 : Int32) = zI 3 from rfl, zI_le (by omega) (by omega) (by omega) (by omega)]; omega), mMx_s]
      unfold f_X8_greatestPart_29
      simp (disch := omega) only [zI_ck, zI_clamp, Int.toNat_natCast, let_s, e1, h1, zI_le]
      by_cases h : g i ≤ a
      · rw [if_pos (by omega), ih (i + 1) fu a (by omega) (by omega) ha, Nat.max_eq_left h]
      · rw [if_neg (by omega), ih (i + 1) fu (g i) (by omega) (by omega) h2, Nat.max_eq_right (by omega)]
  have h := h4 3 0 cb_fu 0 (by omega) (by unfold cb_fu; omega) (by omega)
  have e : mMx g 0 3 0 = max (g 0) (max (g 1) (g 2)) := by
    show max (max (max 0 (g 0)) (g 1)) (g 2) = _
    omega
  rw [e] at h
  exact h
theorem m_ask_95 (hT : rlT N Q σ τ) (hP : rlP N Q σ 13 (τ.1 3) n ml pk hd) (hS : seenS σ τ Q s) (hC : C ≤ 5) (hCn : C ≤ n) (hDC : D ≤ C) (h33 : τ.1 0 33 = zI D) (h34 : τ.1 0 34 = zI C) (K : cb_St → Int32 → Int32 → Int32 → Option (Int32 × cb_St)) (x1 x2 : Int32) (b two p q : Nat) (hb : b ≤ 3125) (hpq : p < q) (hqD : q < D) : ∀ (m i fu : Nat) (τ' : cb_St) (k : Nat → Nat), i + m = 5 ^ D → m < fu → oo τ τ' → (∀ o, o < 3 → τ'.1 12 o = zI (k o) ∧ k o ≤ i) → ∃ τ'', oo τ τ'' ∧ f_X8_ask_95 K x1 fu τ' x2 (zI b) (zI two) (zI p) (zI q) (zI i) = if b ≤ max (k 0 + cnt τ (cl (MM C pk (fnS τ s) D 0 w00 u00) i m) p q 0) (max (k 1 + cnt τ (cl (MM C pk (fnS τ s) D 0 w00 u00) i m) p q 1) (k 2 + cnt τ (cl (MM C pk (fnS τ s) D 0 w00 u00) i m) p q 2)) then K τ'' x2 (zI b) (zI ((two + 1 : Nat) : Int)) else K τ'' (10 * zI p + zI q) (zI ((max (k 0 + cnt τ (cl (MM C pk (fnS τ s) D 0 w00 u00) i m) p q 0) (max (k 1 + cnt τ (cl (MM C pk (fnS τ s) D 0 w00 u00) i m) p q 1) (k 2 + cnt τ (cl (MM C pk (fnS τ s) D 0 w00 u00) i m) p q 2)) : Nat) : Int)) (zI ((two + 1 : Nat) : Int)) := by
  have hN := hT.1
  obtain ⟨q1, q2⟩ := p5 D (by omega)
  have hpk : ∀ k, k < C → pk k < N := fun k hk => (hP.2.2.2.2.2.2.2.1 k (by have := hP.1; omega)).2.2
  have e1 : ∀ j : Nat, zI (j : Int) + 1 = zI ((j + 1 : Nat) : Int) := fun j => by rw [show (1 : Int32) = zI 1 from rfl, zI_add, al_1]
  intro m
  induction m with
  | zero =>
    intro i fu τ' k e hf ho hk
    obtain ⟨fu, rfl⟩ : ∃ g, fu = g + 1 := ⟨fu - 1, by omega⟩
    refine ⟨τ', ho, ?_⟩
    have k0 := (hk 0 (by omega)).2
    have k1 := (hk 1 (by omega)).2
    have k2 := (hk 2 (by omega)).2
    rw [f_X8_ask_95, ho 0 (by decide) (by decide), h33, m_power5 τ' D (by omega), bp_s, if_pos (by rw [zI_le (by omega) (by omega) (by omega) (by omega)]; omega), m_gp2 (B := i) (by omega) k hk, bp_s]
    unfold f_X8_ask_174 f_X8_ask_187 f_X8_ask_188
    have z : ∀ o, cnt τ (cl (MM C pk (fnS τ s) D 0 w00 u00) i 0) p q o = 0 := fun _ => rfl
    simp only [z, Nat.add_zero, let_s, e1]
    generalize hG : max (k 0) (max (k 1) (k 2)) = G
    have c1 : (zI (b : Int) ≤ zI (G : Int)) = (b ≤ G) := by
      rw [zI_le (by omega) (by omega) (by omega) (by omega)]; exact propext ⟨fun h => by omega, fun h => by omega⟩
    simp only [c1]
    by_cases h : b ≤ G
    · simp only [if_pos h]
    · simp only [if_neg h]
  | succ m ih =>
    intro i fu τ' k e hf ho hk
    obtain ⟨fu, rfl⟩ : ∃ g, fu = g + 1 := ⟨fu - 1, by omega⟩
    obtain ⟨ρ, τ2, j1, j2, j3⟩ := m_dd hT hP hS hC hCn hDC h33 h34 ho i (by omega)
    have ho2 := oo_t ho (o16_oo j2)
    have hk2 : ∀ o, o < 3 → τ2.1 12 o = zI (k o) ∧ k o ≤ i := fun o h => by rw [j2 12 (by decide)]; exact hk o h
    rw [f_X8_ask_95, ho 0 (by decide) (by decide), h33, m_power5 τ' D (by omega), bp_s, if_neg (by rw [zI_le (by omega) (by omega) (by omega) (by omega)]; omega), j1, bi_s, cl_s]
    unfold f_X8_ask_144
    rcases j3 with ⟨hρ, hn⟩ | ⟨hρ, d, hd1, hd2⟩
    · rw [hρ, if_pos rfl, hn, let_s, e1]
      show ∃ τ'', oo τ τ'' ∧ _ = if b ≤ max (k 0 + cnt τ (cl (MM C pk (fnS τ s) D 0 w00 u00) (i + 1) m) p q 0) (max (k 1 + cnt τ (cl (MM C pk (fnS τ s) D 0 w00 u00) (i + 1) m) p q 1) (k 2 + cnt τ (cl (MM C pk (fnS τ s) D 0 w00 u00) (i + 1) m) p q 2)) then _ else K τ'' _ (zI ((max (k 0 + cnt τ (cl (MM C pk (fnS τ s) D 0 w00 u00) (i + 1) m) p q 0) (max (k 1 + cnt τ (cl (MM C pk (fnS τ s) D 0 w00 u00) (i + 1) m) p q 1) (k 2 + cnt τ (cl (MM C pk (fnS τ s) D 0 w00 u00) (i + 1) m) p q 2)) : Nat) : Int)) _
      exact ih (i + 1) fu τ2 k (by omega) (by omega) ho2 (fun o h => ⟨(hk2 o h).1, by have := (hk2 o h).2; omega⟩)
    · have hrd := fin_ok (τ := τ) N 0 0 hpk s D 0 w00 u00 i d (rgL_0 N) hd1
      rw [Nat.zero_add] at hrd
      obtain ⟨p1, p2⟩ := hrd.1 p (by omega)
      obtain ⟨p3, p4⟩ := hrd.1 q (by omega)
      obtain ⟨c, hc⟩ := Int.eq_ofNat_of_zero_le p1
      obtain ⟨c', hc'⟩ := Int.eq_ofNat_of_zero_le p3
      obtain ⟨o, ho3, hm⟩ := mT_nat τ (d p) (d q)
      have hko := (hk2 o ho3).2
      have ek : ∀ j, j < 3 → (k j + if j = o then 1 else 0) + cnt τ (cl (MM C pk (fnS τ s) D 0 w00 u00) (i + 1) m) p q j = k j + cnt τ (d :: cl (MM C pk (fnS τ s) D 0 w00 u00) (i + 1) m) p q j := by
        intro j hj
        rw [cnt_cons, hm, Nat.add_assoc]
        congr 2
        by_cases g : j = o
        · subst g; rw [if_pos rfl, if_pos rfl]
        · rw [if_neg g, if_neg (by rw [zI_inj (by omega) (by omega) (by omega) (by omega)]; omega)]
      obtain ⟨τ3, y1, y2⟩ := ih (i + 1) fu (cb_sI τ2 12 o (zI ((k o + 1 : Nat) : Int))) (fun j => k j + if j = o then 1 else 0) (by omega) (by omega) (oo_t ho2 (fun x g1 _ => sI_n _ _ _ g1)) (fun j hj => by
        have hkj := hk2 j hj
        rw [sI_e]
        by_cases g : j = o
        · subst g; rw [upd_e, if_pos rfl]; exact ⟨rfl, by omega⟩
        · rw [upd_n _ _ g, if_neg g, Nat.add_zero]; exact ⟨hkj.1, by omega⟩)
      refine ⟨τ3, y1, ?_⟩
      rw [hρ, if_neg (show ¬ (1 : Int32) = 0 from by decide), hd1, zI_ck _ (by omega) (by omega) (by omega), zI_ck _ (by omega) (by omega) (by omega), zI_clamp (by omega) (by omega), zI_clamp (by omega) (by omega), Int.toNat_natCast, Int.toNat_natCast, hd2 p (by omega), hd2 q (by omega), hc, hc', m_cardsMeet τ2 c c' (by omega) (by omega), bp_s, sc_mT (oo_sc ho2), ← hc, ← hc', hm]
      rw [zI_ck _ (by omega) (by omega) (by omega), zI_ck _ (by omega) (by omega) (by omega), zI_clamp (by omega) (by omega), Int.toNat_natCast, (hk2 o ho3).1, e1, let_s, let_s, e1, y2]
      show _ = if b ≤ max (k 0 + cnt τ (d :: cl (MM C pk (fnS τ s) D 0 w00 u00) (i + 1) m) p q 0) (max (k 1 + cnt τ (d :: cl (MM C pk (fnS τ s) D 0 w00 u00) (i + 1) m) p q 1) (k 2 + cnt τ (d :: cl (MM C pk (fnS τ s) D 0 w00 u00) (i + 1) m) p q 2)) then _ else K τ3 _ (zI ((max (k 0 + cnt τ (d :: cl (MM C pk (fnS τ s) D 0 w00 u00) (i + 1) m) p q 0) (max (k 1 + cnt τ (d :: cl (MM C pk (fnS τ s) D 0 w00 u00) (i + 1) m) p q 1) (k 2 + cnt τ (d :: cl (MM C pk (fnS τ s) D 0 w00 u00) (i + 1) m) p q 2)) : Nat) : Int)) _
      rw [ek 0 (by omega), ek 1 (by omega), ek 2 (by omega)]
theorem cd_6 : ∀ q : Nat, q < 36 → zI q / 6 = zI ((q / 6 : Nat) : Int) ∧ zI q - zI q / 6 * 6 = zI ((q % 6 : Nat) : Int) := by decide +kernel
theorem m_ask_32 (hT : rlT N Q σ τ) (hP : rlP N Q σ 13 (τ.1 3) n ml pk hd) (hS : seenS σ τ Q s) (hC : C ≤ 5) (hCn : C ≤ n) (hDC : D ≤ C) (h33 : τ.1 0 33 = zI D) (h34 : τ.1 0 34 = zI C) (x1 : Int32) : ∀ (m i fu : Nat) (τ' : cb_St) (b : Nat) (a : Int32), i + m = 36 → m < fu → oo τ τ' → b ≤ 3125 → ∃ τ'', f_X8_ask_32 x1 fu τ' a (zI b) (zI i) = some (bP D (gP τ (aLL τ s C D pk)) i m b a, τ'') ∧ oo τ τ'' := by
  have e1 : ∀ j : Nat, zI (j : Int) + 1 = zI ((j + 1 : Nat) : Int) := fun j => by rw [show (1 : Int32) = zI 1 from rfl, zI_add, al_1]
  have hL := aLL_len (τ := τ) (C := C) (D := D) (pk := pk) s (by omega)
  intro m
  induction m with
  | zero =>
    intro i fu τ' b a e hf ho hb
    obtain ⟨fu, rfl⟩ : ∃ g, fu = g + 1 := ⟨fu - 1, by omega⟩
    refine ⟨τ', ?_, ho⟩
    rw [f_X8_ask_32, if_pos (by rw [show (36 : Int32) = zI 36 from rfl, zI_le (by omega) (by omega) (by omega) (by omega)]; omega)]; rfl
  | succ m ih =>
    intro i fu τ' b a e hf ho hb
    obtain ⟨fu, rfl⟩ : ∃ g, fu = g + 1 := ⟨fu - 1, by omega⟩
    obtain ⟨c1, c2⟩ := cd_6 i (by omega)
    have h6 : i % 6 < 6 := Nat.mod_lt _ (by omega)
    have h66 : i / 6 < 6 := by omega
    rw [f_X8_ask_32, if_neg (by rw [show (36 : Int32) = zI 36 from rfl, zI_le (by omega) (by omega) (by omega) (by omega)]; omega), let_s, let_s, c2, c1, bP_s, ho 0 (by decide) (by decide), h33]
    unfold f_X8_ask_188
    rw [let_s, e1]
    generalize i / 6 = p at *
    generalize i % 6 = q at *
    by_cases g1 : p < q
    · rw [if_neg (by rw [zI_le (by omega) (by omega) (by omega) (by omega)]; omega)]
      by_cases g2 : q < D
      · rw [if_neg (by rw [zI_le (by omega) (by omega) (by omega) (by omega)]; omega)]
        obtain ⟨τ1, k1, k2, k3, -⟩ := m_ask_72 (f_X8_ask_32 x1 fu) x1 a (zI b) (zI i) (zI p) (zI q) 3 0 cb_fu τ' (by omega) (by unfold cb_fu; omega)
        obtain ⟨τ2, j1, j2⟩ := m_ask_95 hT hP hS hC hCn hDC h33 h34 (f_X8_ask_32 x1 fu) x1 a b i p q hb g1 g2 (5 ^ D) 0 cb_fu τ1 (fun _ => 0) (by omega) (by have := p5 D (by omega); unfold cb_fu; omega) (oo_t ho k2) (fun o ho => ⟨k3 o (by omega) ho, by omega⟩)
        simp only [Nat.zero_add] at j2
        rw [show f_X8_ask_72 (f_X8_ask_32 x1 fu) x1 cb_fu τ' a (zI b) (zI i) (zI p) (zI q) 0 = _ from k1]
        rw [show f_X8_ask_95 (f_X8_ask_32 x1 fu) x1 cb_fu τ1 a (zI b) (zI i) (zI p) (zI q) 0 = _ from j2]
        have hg := Nat.le_trans (gP_le (τ := τ) (aLL τ s C D pk) p q) hL
        show ∃ τ'', (if b ≤ gP τ (aLL τ s C D pk) p q then _ else f_X8_ask_32 x1 fu τ2 _ (zI (gP τ (aLL τ s C D pk) p q : Nat)) _) = _ ∧ _
        by_cases g3 : gP τ (aLL τ s C D pk) p q < b
        · rw [if_neg (by omega), if_pos ⟨g1, g2, g3⟩, show (10 : Int32) = zI ((10 : Nat) : Int) from rfl, zI_mul, zI_add, ← Int.natCast_mul, ← Int.natCast_add]
          exact ih (i + 1) fu τ2 _ _ (by omega) (by omega) j1 hg
        · rw [if_pos (by omega), if_neg (fun z => g3 z.2.2)]
          exact ih (i + 1) fu τ2 b a (by omega) (by omega) j1 hb
      · rw [if_pos (by rw [zI_le (by omega) (by omega) (by omega) (by omega)]; omega), if_neg (fun z => g2 z.2.1)]
        exact ih (i + 1) fu τ' b a (by omega) (by omega) ho hb
    · rw [if_pos (by rw [zI_le (by omega) (by omega) (by omega) (by omega)]; omega), if_neg (fun z => g1 z.1)]
      exact ih (i + 1) fu τ' b a (by omega) (by omega) ho hb
theorem q_ask (h : Rel σ τ) (x : Int32) : simI σ τ (f_X7_ask x σ) (f_X8_ask x τ) := by
  have h0 := h
  obtain ⟨N, Q, n, ml, pk, hd, u, v, hX, hP, hU, hS⟩ := h
  have hT := hX.1
  have hN := hT.1
  have hQ := hT.2.1
  have hn := hP.1
  obtain ⟨a, rfl, a1, a2⟩ := zI_ex x
  unfold f_X7_ask f_X8_ask f_X7_ask_10
  rw [s_in, bp_s, zI_64 a1 a2, show (1 : Int64).toInt = 1 from l64_1, l64_5]
  by_cases ha : 1 ≤ a ∧ a ≤ 5
  · rw [if_pos ha, if_neg z10, if_neg (by rw [show (1 : Int32) = zI 1 from rfl, zI_lt (by omega) (by omega) (by omega) (by omega)]; omega), if_pos (by rw [show (5 : Int32) = zI 5 from rfl, zI_le (by omega) (by omega) (by omega) (by omega)]; omega)]
    obtain ⟨x, rfl⟩ := Int.eq_ofNat_of_zero_le (show 0 ≤ a by omega)
    have hx : x ≤ 5 := by omega
    obtain ⟨s, hs⟩ := rlB_seen hX.2.2.1
    obtain ⟨σ1, f1, f2, f3, f4⟩ := s_layN hT hP hs x hx rfl rfl
    obtain ⟨τ1, g1, g2, g3, g4⟩ := m_begin hP hN hQ hT.2.2.2.2.2.1 x hx rfl rfl
    have hT1 := sc_T hT (scC_r σ) g2
    have hP1 := sc_P hN hP (scC_r σ) g2
    have hs1 := sc_seenM hs g2
    obtain ⟨τ2, d1, d2, d3, d4⟩ := m_begin hP1 hN hQ hT1.2.2.2.2.2.1 x hx rfl rfl
    have hT2 := sc_T hT1 (scC_r σ) d2
    have hP2 := sc_P hN hP1 (scC_r σ) d2
    have hs2 := sc_seenM hs1 d2
    have hsc2 := scM_t g2 d2
    have hp5 := p5 (min (min x n) Q) (by omega)
    obtain ⟨τ3, j1, j2⟩ := m_deals_47 hT2 hP2 hs2 (by omega) (by omega) (by omega) d3 d4 (zI x) (-1) (fun _ => -1) (Or.inl ⟨rfl, rfl⟩) (5 ^ min (min x n) Q) 0 cb_fu τ2 (0, -1, true) (by omega) (by unfold cb_fu; omega) (oo_r τ2) (by show 0 + _ ≤ 90000; omega) (by decide) (by decide)
    rw [sr_m1 _ _ 0 (fun _ _ => rfl)] at j1
    have hlen := aLL_len (τ := τ2) (C := min x n) (D := min (min x n) Q) (pk := pk) s (by omega)
    have j1' : f_X8_deals_47 (zI x) (-1) cb_fu τ2 0 (-1) 1 0 = some (zI ((aLL τ2 s (min x n) (min (min x n) Q) pk).length : Nat), τ3) := by
      have : f_X8_deals_47 (zI x) (-1) cb_fu τ2 0 (-1) 1 0 = _ := j1
      rw [this]
      unfold mRR
      rw [if_pos rfl, Nat.zero_add]; rfl
    have hdl : f_X8_deals (zI x) (-1) τ1 = some (zI ((aLL τ2 s (min x n) (min (min x n) Q) pk).length : Nat), τ3) := by
      unfold f_X8_deals f_X8_deals_16
      rw [if_pos rfl, s_in, bp_s, zI_64 (by omega) (by omega), show (1 : Int64).toInt = 1 from l64_1, l64_5, if_pos ha, if_neg z10, d1, bv_s]
      exact j1'
    obtain ⟨τ4, y1, y2⟩ := m_ask_32 hT2 hP2 hs2 (by omega) (by omega) (by omega) d3 d4 (zI x) 36 0 cb_fu τ3 (aLL τ2 s (min x n) (min (min x n) Q) pk).length (-1) (by omega) (by unfold cb_fu; omega) j2 hlen
    have eA : aLL τ2 s (min x n) (min (min x n) Q) pk = aLL τ s (min x n) (min (min x n) Q) pk := by unfold aLL; rw [fnS_c hsc2]
    have eG : gP τ2 = gP τ := by funext L p q; unfold gP; rw [cnt_c hsc2, cnt_c hsc2, cnt_c hsc2]
    rw [f1, bv_s, s_bp _ (by rw [← eA]; exact hlen) (by omega) f4 f3.2.1, bp_s, g1, bv_s, hdl, bi_s]
    rw [eA, eG] at y1
    refine ⟨_, _, _, rfl, ?_, sc_Rel h0 f2 (scM_t hsc2 (oo_sc y2))⟩
    rw [eA]
    exact y1
  · rw [if_neg ha, if_pos z00]
    by_cases g : a < 1
    · rw [if_pos (by rw [show (1 : Int32) = zI 1 from rfl, zI_lt (by omega) (by omega) (by omega) (by omega)]; omega)]; exact sim_no h0
    · rw [if_neg (by rw [show (1 : Int32) = zI 1 from rfl, zI_lt (by omega) (by omega) (by omega) (by omega)]; omega), if_neg (by rw [show (5 : Int32) = zI 5 from rfl, zI_le (by omega) (by omega) (by omega) (by omega)]; omega)]; exact sim_no h0
end AK
