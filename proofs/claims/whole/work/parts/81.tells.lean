/-! ===== what scratch rows hold does not matter; tells ===== -/
def scC (σ σ' : cb_St) : Prop := σ'.2 = σ.2 ∧ ∀ q, q ≠ 1 → q ≠ 2 → ¬ (106 ≤ q ∧ q ≤ 110) → σ'.1 q = σ.1 q
def scM (τ τ' : cb_St) : Prop := (∀ j, (j ≤ 12 ∨ j = 22 ∨ j = 28 ∨ j = 35) → τ'.1 0 j = τ.1 0 j) ∧ ∀ q, (1 ≤ q ∧ q ≤ 4) ∨ q = 8 ∨ (13 ≤ q ∧ q ≤ 15) ∨ (17 ≤ q ∧ q ≤ 20) → τ'.1 q = τ.1 q
theorem scC_r (σ : cb_St) : scC σ σ := ⟨rfl, fun _ _ _ _ => rfl⟩
theorem scM_r (τ : cb_St) : scM τ τ := ⟨fun _ _ => rfl, fun _ _ => rfl⟩
theorem scC_t {a b c : cb_St} (h1 : scC a b) (h2 : scC b c) : scC a c := ⟨h2.1.trans h1.1, fun q e1 e2 e3 => (h2.2 q e1 e2 e3).trans (h1.2 q e1 e2 e3)⟩
theorem scM_t {a b c : cb_St} (h1 : scM a b) (h2 : scM b c) : scM a c := ⟨fun j h => (h2.1 j h).trans (h1.1 j h), fun q h => (h2.2 q h).trans (h1.2 q h)⟩
theorem sc_agC {σ σ' : cb_St} (h : scC σ σ') : agC σ σ' := ⟨h.1, fun q hq => h.2 q (by omega) (by omega) (by omega)⟩
theorem sc_agM {τ τ' : cb_St} (h : scM τ τ') : agM τ τ' := ⟨fun j hj => h.1 j (by omega), fun q hq => h.2 q (by omega)⟩
theorem sc_P {N Q : Nat} {σ σ' τ τ' : cb_St} {n ml : Nat} {pk : Nat → Nat} {hd : Nat → Int} (hN : N ≤ 12) (hP : rlP N Q σ 13 (τ.1 3) n ml pk hd) (hc : scC σ σ') (hm : scM τ τ') : rlP N Q σ' 13 (τ'.1 3) n ml pk hd :=
  rlP_c hN hP (fun q h1 h2 => hc.2 q (by omega) (by omega) (by omega)) (fun i _ => by rw [hm.2 3 (by omega)])
theorem sc_T {N Q : Nat} {σ σ' τ τ' : cb_St} (hT : rlT N Q σ τ) (hc : scC σ σ') (hm : scM τ τ') : rlT N Q σ' τ' := rlT_c hT (sc_agC hc) (sc_agM hm)
theorem sc_Rel {σ σ' τ τ' : cb_St} (h : Rel σ τ) (hc : scC σ σ') (hm : scM τ τ') : Rel σ' τ' := by
  obtain ⟨N, Q, n, ml, pk, hd, u, z, hX, hP, hU, hS⟩ := h
  refine ⟨N, Q, n, ml, pk, hd, u, z, rlX_c hX (sc_agC hc) (sc_agM hm), sc_P hX.1.1 hP hc hm, rlU_c hX.1.1 hU (fun q hq => hc.2 q (by omega) (by omega) (by omega)) (hm.1 22 (by omega)) (hm.2 8 (by omega)), rlS_c hS (by rw [hc.2 0 (by omega) (by omega) (by omega)]) (hm.1 9 (by omega))⟩
theorem sc_mRu {τ τ' : cb_St} (hm : scM τ τ') (r c d : Nat) : mRu τ' r c d = mRu τ r c d := by
  unfold mRu; rw [hm.2 1 (by omega), hm.2 2 (by omega), hm.1 3 (by omega)]
theorem sc_12 (τ : cb_St) (i : Nat) (v : Int32) : scM τ (cb_sI τ 12 i v) := ⟨fun j _ => by rw [sI_n _ _ _ (by decide)], fun q hq => by rw [sI_n _ _ _ (by omega)]⟩
section TE
variable {N Q : Nat} {σ σ' τ τ' : cb_St} {n ml : Nat} {pk : Nat → Nat} {hd : Nat → Int}
/-- how many of the rules in H give two cards the outcome o -/
def mK (τ : cb_St) (H : Int32) (c d o : Nat) (i m : Nat) : Nat := mC (fun r => bt H r && decide (mRu τ r c d = zI (o : Int))) i m
theorem mK_s (τ : cb_St) (H : Int32) (c d o i m : Nat) : mK τ H c d o i (m + 1) = (if bt H i && decide (mRu τ i c d = zI (o : Int)) then 1 else 0) + mK τ H c d o (i + 1) m := rfl
theorem s_mx2 (a b : Nat) (ha : a < 100) (hb : b < 100) : f_J9_max_7cf53 (zI a) (zI b) σ = some (zI ((max a b : Nat) : Int)) := by
  unfold f_J9_max_7cf53; simp (disch := omega) only [zI_lit, zI_neg, zI_add, zI_sub, zI_mul, zI_lt, zI_le, zI_inj, zI_ck, zI_clamp, ← Int.natCast_add, la_1, al_1, la_2, al_2, la_3, al_3, la_4, al_4, la_5, al_5, la_6, al_6, la_7, al_7, la_8, al_8, la_9, al_9, la_10, al_10, la_11, al_11, la_12, al_12, la_13, al_13, la_16, al_16, la_19, al_19, la_20, al_20, la_24, al_24, la_25, al_25, la_26, al_26, la_27, al_27, la_51, al_51, la_52, al_52, la_0, Int.toNat_natCast, bp_s, let_s, bi_s, bv_s, b1_f]
  by_cases h : a < b
  · rw [if_pos (by omega), Nat.max_eq_right (by omega)]
  · rw [if_neg (by omega), Nat.max_eq_left (by omega)]
theorem s_gp_12 (hT : rlT N Q σ τ) (H : Int32) (c d : Nat) (hc : c < N) (hd : d < N) : ∀ (m i fu k0 k1 k2 : Nat), i + m = 10 → m < fu → k0 ≤ i → k1 ≤ i → k2 ≤ i → f_X7_greatestPart_12 (zI c) (zI d) H σ fu (zI k0) (zI k1) (zI k2) (zI i) = some (zI ((max (k0 + mK τ H c d 0 i m) (max (k1 + mK τ H c d 1 i m) (k2 + mK τ H c d 2 i m)) : Nat) : Int)) := by
  intro m
  induction m with
  | zero =>
    intro i fu k0 k1 k2 e hf h0 h1 h2
    obtain ⟨fu, rfl⟩ : ∃ g, fu = g + 1 := ⟨fu - 1, by omega⟩
    have h10 : i = 10 := by omega
    rw [f_X7_greatestPart_12, if_pos (by subst h10; decide), s_mx2 k1 k2 (by omega) (by omega), bp_s, s_mx2 k0 (max k1 k2) (by omega) (by omega), bp_s]
    rfl
  | succ m ih =>
    intro i fu k0 k1 k2 e hf h0 h1 h2
    obtain ⟨fu, rfl⟩ : ∃ g, fu = g + 1 := ⟨fu - 1, by omega⟩
    have e1 : ∀ j : Nat, zI (j : Int) + 1 = zI ((j + 1 : Nat) : Int) := fun j => by rw [show (1 : Int32) = zI 1 from rfl, zI_add, al_1]
    rw [f_X7_greatestPart_12, if_neg (by rw [show (10 : Int32) = zI 10 from rfl, zI_le (by omega) (by omega) (by omega) (by omega)]; omega), bit1 H i (by omega), s_byRule hT i c d (by omega) hc hd, mK_s, mK_s, mK_s]
    unfold f_X7_greatestPart_68
    simp only [bp_s, let_s, e1]
    rw [ih (i + 1) fu k0 k1 k2 (by omega) (by omega) (by omega) (by omega) (by omega), ih (i + 1) fu (k0 + 1) k1 k2 (by omega) (by omega) (by omega) (by omega) (by omega), ih (i + 1) fu k0 (k1 + 1) k2 (by omega) (by omega) (by omega) (by omega) (by omega), ih (i + 1) fu k0 k1 (k2 + 1) (by omega) (by omega) (by omega) (by omega) (by omega)]
    by_cases hb : bt H i = true
    · rw [hb, if_pos rfl, if_pos rfl]
      rcases mRu_3 τ i c d with g | g | g
      · rw [g, if_pos (by decide), if_pos (by decide), if_neg (by decide), if_neg (by decide)]
        simp only [Nat.zero_add, Nat.add_assoc]
      · rw [g, if_neg (by decide), if_pos (by decide), if_neg (by decide), if_pos (by decide), if_neg (by decide)]
        simp only [Nat.zero_add, Nat.add_assoc]
      · rw [g, if_neg (by decide), if_neg (by decide), if_neg (by decide), if_neg (by decide), if_pos (by decide)]
        simp only [Nat.zero_add, Nat.add_assoc]
    · have hb : bt H i = false := by simpa using hb
      simp only [hb, Bool.false_and, if_neg Bool.false_ne_true, Nat.zero_add, if_neg (show ¬ (0 : Int32) = 1 from by decide)]
def mG (τ : cb_St) (H : Int32) (c d : Nat) : Nat := max (mK τ H c d 0 0 10) (max (mK τ H c d 1 0 10) (mK τ H c d 2 0 10))
theorem s_gp (hT : rlT N Q σ τ) (H : Int32) (c d : Nat) (hc : c < N) (hd : d < N) : f_X7_greatestPart (zI c) (zI d) H σ = some (zI (mG τ H c d : Nat)) := by
  have h := s_gp_12 hT H c d hc hd 10 0 cb_fu 0 0 0 (by omega) (by unfold cb_fu; omega) (by omega) (by omega) (by omega)
  simp only [Nat.zero_add] at h
  exact h
theorem mK_le (τ : cb_St) (H : Int32) (c d o i m : Nat) : mK τ H c d o i m ≤ m := mC_le _ _ _
def mMx (g : Nat → Nat) (i : Nat) : Nat → Nat → Nat
  | 0, a => a
  | m + 1, a => mMx g (i + 1) m (max a (g i))
theorem mMx_s (g : Nat → Nat) (i m a : Nat) : mMx g i (m + 1) a = mMx g (i + 1) m (max a (g i)) := rfl
theorem m_gp_4 (g : Nat → Nat) (hg : ∀ j, j < 3 → τ.1 12 j = zI (g j) ∧ g j ≤ 10) : ∀ (m i fu a : Nat), i + m = 3 → m < fu → a ≤ 10 → f_X8_greatestPart_4 τ fu (zI a) (zI i) = some (zI (mMx g i m a : Nat)) := by
  intro m
  induction m with
  | zero =>
    intro i fu a e hf ha
    obtain ⟨fu, rfl⟩ : ∃ g, fu = g + 1 := ⟨fu - 1, by omega⟩
    rw [f_X8_greatestPart_4, if_pos (by rw [show (3 : Int32) = zI 3 from rfl, zI_le (by omega) (by omega) (by omega) (by omega)]; omega)]; rfl
  | succ m ih =>
    intro i fu a e hf ha
    obtain ⟨fu, rfl⟩ : ∃ g, fu = g + 1 := ⟨fu - 1, by omega⟩
    obtain ⟨h1, h2⟩ := hg i (by omega)
    have e1 : zI (i : Int) + 1 = zI ((i + 1 : Nat) : Int) := by rw [show (1 : Int32) = zI 1 from rfl, zI_add, al_1]
    rw [f_X8_greatestPart_4, if_neg (by rw [show (3 : Int32) = zI 3 from rfl, zI_le (by omega) (by omega) (by omega) (by omega)]; omega), mMx_s]
    unfold f_X8_greatestPart_29
    simp (disch := omega) only [zI_ck, zI_clamp, Int.toNat_natCast, let_s, e1, h1, zI_le]
    by_cases h : g i ≤ a
    · rw [if_pos (by omega), ih (i + 1) fu a (by omega) (by omega) ha, Nat.max_eq_left h]
    · rw [if_neg (by omega), ih (i + 1) fu (g i) (by omega) (by omega) h2, Nat.max_eq_right (by omega)]
theorem m_gp (g : Nat → Nat) (hg : ∀ j, j < 3 → τ.1 12 j = zI (g j) ∧ g j ≤ 10) : f_X8_greatestPart τ = some (zI ((max (g 0) (max (g 1) (g 2)) : Nat) : Int)) := by
  have h := m_gp_4 g hg 3 0 cb_fu 0 (by omega) (by unfold cb_fu; omega) (by omega)
  have e : mMx g 0 3 0 = max (g 0) (max (g 1) (g 2)) := by
    show max (max (max 0 (g 0)) (g 1)) (g 2) = _
    omega
  rw [e] at h
  exact h
variable (K : cb_St → Int32 → Int32 → Int32 → Int32 → Option (Int32 × cb_St)) (K' : cb_St → Int32 → Int32 → Int32 → Int32 → Int32 → Option (Int32 × cb_St))
theorem m_tl_42 (H x2 x3 x4 x5 : Int32) : ∀ (m i fu : Nat) (τ : cb_St), i + m = 3 → m < fu → ∃ τ', f_X8_tells_42 K K' fu τ H x2 x3 x4 x5 (zI i) = f_X8_tells_65 K K' cb_fu τ' H x2 x3 x4 x5 0 ∧ scM τ τ' ∧ (∀ j, i ≤ j → j < 3 → τ'.1 12 j = zI 0) ∧ ∀ j, j < i → τ'.1 12 j = τ.1 12 j := by
  intro m
  induction m with
  | zero =>
    intro i fu τ e hf
    obtain ⟨fu, rfl⟩ : ∃ g, fu = g + 1 := ⟨fu - 1, by omega⟩
    refine ⟨τ, ?_, scM_r τ, fun j h1 h2 => absurd h2 (by omega), fun _ _ => rfl⟩
    rw [f_X8_tells_42, if_pos (by rw [show (3 : Int32) = zI 3 from rfl, zI_le (by omega) (by omega) (by omega) (by omega)]; omega)]
  | succ m ih =>
    intro i fu τ e hf
    obtain ⟨fu, rfl⟩ : ∃ g, fu = g + 1 := ⟨fu - 1, by omega⟩
    have e1 : zI (i : Int) + 1 = zI ((i + 1 : Nat) : Int) := by rw [show (1 : Int32) = zI 1 from rfl, zI_add, al_1]
    obtain ⟨τ', h1, h2, h3, h4⟩ := ih (i + 1) fu (cb_sI τ 12 i 0) (by omega) (by omega)
    refine ⟨τ', ?_, scM_t (sc_12 τ i 0) h2, fun j g1 g2 => ?_, fun j g1 => ?_⟩
    · rw [f_X8_tells_42, if_neg (by rw [show (3 : Int32) = zI 3 from rfl, zI_le (by omega) (by omega) (by omega) (by omega)]; omega)]
      simp (disch := omega) only [zI_ck, zI_clamp, Int.toNat_natCast, let_s, e1]
      exact h1
    · by_cases hj : j = i
      · subst hj; rw [h4 j (by omega), sI_e, upd_e]; rfl
      · exact h3 j (by omega) g2
    · rw [h4 j (by omega), sI_e, upd_n _ _ (by omega)]
theorem m_tl_65 (τ0 : cb_St) (H x2 : Int32) (b c d : Nat) (hb : b ≤ 10) (hc : c < 12) (hd : d < 12) : ∀ (m i fu : Nat) (τ : cb_St) (k : Nat → Nat), i + m = 10 → m < fu → scM τ0 τ → (∀ o, o < 3 → τ.1 12 o = zI (k o) ∧ k o ≤ i) → ∃ τ', scM τ0 τ' ∧ f_X8_tells_65 K K' fu τ H x2 (zI b) (zI c) (zI d) (zI i) = if b ≤ max (k 0 + mK τ0 H c d 0 i m) (max (k 1 + mK τ0 H c d 1 i m) (k 2 + mK τ0 H c d 2 i m)) then K' τ' H x2 (zI b) (zI c) (zI ((d + 1 : Nat) : Int)) else K' τ' H (100 * zI c + zI d) (zI ((max (k 0 + mK τ0 H c d 0 i m) (max (k 1 + mK τ0 H c d 1 i m) (k 2 + mK τ0 H c d 2 i m)) : Nat) : Int)) (zI c) (zI ((d + 1 : Nat) : Int)) := by
  intro m
  induction m with
  | zero =>
    intro i fu τ k e hf hs hk
    obtain ⟨fu, rfl⟩ : ∃ g, fu = g + 1 := ⟨fu - 1, by omega⟩
    have e1 : zI (d : Int) + 1 = zI ((d + 1 : Nat) : Int) := by rw [show (1 : Int32) = zI 1 from rfl, zI_add, al_1]
    refine ⟨τ, hs, ?_⟩
    rw [f_X8_tells_65, if_pos (by rw [show (10 : Int32) = zI 10 from rfl, zI_le (by omega) (by omega) (by omega) (by omega)]; omega), m_gp k (fun j hj => ⟨(hk j hj).1, by have := (hk j hj).2; omega⟩), bp_s]
    unfold f_X8_tells_132 f_X8_tells_145
    have z : ∀ o, mK τ0 H c d o i 0 = 0 := fun _ => rfl
    simp only [z, Nat.add_zero, let_s, e1]
    have k0 := (hk 0 (by omega)).2
    have k1 := (hk 1 (by omega)).2
    have k2 := (hk 2 (by omega)).2
    generalize hG : max (k 0) (max (k 1) (k 2)) = G
    have hG2 : G ≤ 10 := by omega
    have c1 : (zI (b : Int) ≤ zI (G : Int)) = (b ≤ G) := by
      rw [zI_le (by omega) (by omega) (by omega) (by omega)]; exact propext ⟨fun h => by omega, fun h => by omega⟩
    simp only [c1]
    by_cases h : b ≤ G
    · simp only [if_pos h]
    · simp only [if_neg h]
  | succ m ih =>
    intro i fu τ k e hf hs hk
    obtain ⟨fu, rfl⟩ : ∃ g, fu = g + 1 := ⟨fu - 1, by omega⟩
    have e1 : zI (i : Int) + 1 = zI ((i + 1 : Nat) : Int) := by rw [show (1 : Int32) = zI 1 from rfl, zI_add, al_1]
    obtain ⟨o, ho, hR⟩ : ∃ o : Nat, o < 3 ∧ mRu τ0 i c d = zI (o : Int) := by
      rcases mRu_3 τ0 i c d with g | g | g
      · exact ⟨0, by omega, g⟩
      · exact ⟨1, by omega, g⟩
      · exact ⟨2, by omega, g⟩
    have hbit := bit1n H i (by omega)
    have hbit2 : (H >>> (zI (i : Int) &&& 31)) &&& 1 = zI ((if bt H i then 1 else 0 : Nat) : Int) := by
      rw [show (H >>> (zI (i : Int) &&& 31)) &&& 1 = _ from hbit]; cases bt H i <;> rfl
    have hko := (hk o ho).2
    obtain ⟨τ', h1, h2⟩ := ih (i + 1) fu (cb_sI τ 12 o (zI ((k o + if bt H i then 1 else 0 : Nat) : Int))) (fun j => k j + if j = o ∧ bt H i = true then 1 else 0) (by omega) (by omega) (scM_t hs (sc_12 _ _ _)) (fun j hj => by
      rw [sI_e]
      by_cases g : j = o
      · subst g; rw [upd_e]
        constructor
        · by_cases q : bt H i = true <;> simp [q]
        · split <;> omega
      · rw [upd_n _ _ g, (hk j hj).1]
        have := (hk j hj).2
        refine ⟨by simp [g], by split <;> omega⟩)
    refine ⟨τ', h1, ?_⟩
    rw [f_X8_tells_65, if_neg (by rw [show (10 : Int32) = zI 10 from rfl, zI_le (by omega) (by omega) (by omega) (by omega)]; omega), m_byRule i c d (by omega) hc hd, bp_s, sc_mRu hs, hR]
    simp (disch := omega) only [zI_ck, zI_clamp, Int.toNat_natCast, let_s, e1, hbit2, (hk o ho).1, zI_add, ← Int.natCast_add]
    rw [h2]
    have ek : ∀ j, j < 3 → (k j + if j = o ∧ bt H i = true then 1 else 0) + mK τ0 H c d j (i + 1) m = k j + mK τ0 H c d j i (m + 1) := by
      intro j hj
      have g : decide (zI (o : Int) = zI (j : Int)) = decide (j = o) := by
        rw [decide_eq_decide, zI_inj (by omega) (by omega) (by omega) (by omega)]; omega
      rw [mK_s, hR, g, Nat.add_assoc]
      congr 2
      by_cases g : j = o <;> cases bt H i <;> simp [g]
    rw [ek 0 (by omega), ek 1 (by omega), ek 2 (by omega)]
theorem mG_le (τ : cb_St) (H : Int32) (c d : Nat) : mG τ H c d ≤ 10 := by
  have h0 := mK_le τ H c d 0 0 10
  have h1 := mK_le τ H c d 1 0 10
  have h2 := mK_le τ H c d 2 0 10
  unfold mG; omega
theorem tl_in (τ0 : cb_St) (hT : rlT N Q σ τ0) (H : Int32) (c : Nat) (hc : c < N) (KC : Int32 → Int32 → Int32 → Int32 → Option Int32) (hK : ∀ (τ1 : cb_St) (b : Nat) (pr : Int32), scM τ0 τ1 → b ≤ 10 → ∃ r τ2, KC H (zI b) pr (zI ((c + 1 : Nat) : Int)) = some r ∧ K τ1 H pr (zI b) (zI ((c + 1 : Nat) : Int)) = some (r, τ2) ∧ scM τ0 τ2) : ∀ (m j fu fu' : Nat) (τ : cb_St) (b : Nat) (pr : Int32), j + m = N → m < fu → m < fu' → scM τ0 τ → b ≤ 10 → ∃ r τ2, f_X7_tells_33 KC σ fu H (zI b) pr (zI c) (zI j) = some r ∧ f_X8_tells_30 K fu' τ H pr (zI b) (zI c) (zI j) = some (r, τ2) ∧ scM τ0 τ2 := by
  have hN := hT.1
  have h4 := hT.2.2.1
  have h4' := hT.2.2.2.1
  have e1 : ∀ j : Nat, zI (j : Int) + 1 = zI ((j + 1 : Nat) : Int) := fun j => by rw [show (1 : Int32) = zI 1 from rfl, zI_add, al_1]
  intro m
  induction m with
  | zero =>
    intro j fu fu' τ b pr e hf hf' hs hb
    obtain ⟨fu, rfl⟩ : ∃ g, fu = g + 1 := ⟨fu - 1, by omega⟩
    obtain ⟨fu', rfl⟩ : ∃ g, fu' = g + 1 := ⟨fu' - 1, by omega⟩
    have cc : zI (N : Int) ≤ zI (j : Int) := by rw [zI_le (by omega) (by omega) (by omega) (by omega)]; omega
    rw [f_X7_tells_33, f_X8_tells_30, h4, hs.1 4 (by omega), h4', if_pos cc, if_pos cc, let_s, let_s, e1]
    exact hK τ b pr hs hb
  | succ m ih =>
    intro j fu fu' τ b pr e hf hf' hs hb
    obtain ⟨fu, rfl⟩ : ∃ g, fu = g + 1 := ⟨fu - 1, by omega⟩
    obtain ⟨fu', rfl⟩ : ∃ g, fu' = g + 1 := ⟨fu' - 1, by omega⟩
    have cc : ¬ zI (N : Int) ≤ zI (j : Int) := by rw [zI_le (by omega) (by omega) (by omega) (by omega)]; omega
    rw [f_X7_tells_33, f_X8_tells_30, h4, hs.1 4 (by omega), h4', if_neg cc, if_neg cc, s_gp hT H c j hc (by omega), bp_s]
    obtain ⟨τ1, g1, g2, g3, -⟩ := m_tl_42 K (f_X8_tells_30 K fu') H pr (zI b) (zI c) (zI j) 3 0 cb_fu τ (by omega) (by unfold cb_fu; omega)
    obtain ⟨τ2, k1, k2⟩ := m_tl_65 K (f_X8_tells_30 K fu') τ0 H pr b c j hb (by omega) (by omega) 10 0 cb_fu τ1 (fun _ => 0) (by omega) (by unfold cb_fu; omega) (scM_t hs g2) (fun o ho => ⟨g3 o (by omega) ho, by omega⟩)
    simp only [Nat.zero_add] at k2
    rw [show f_X8_tells_42 K (f_X8_tells_30 K fu') cb_fu τ H pr (zI b) (zI c) (zI j) 0 = _ from g1]
    rw [show f_X8_tells_65 K (f_X8_tells_30 K fu') cb_fu τ1 H pr (zI b) (zI c) (zI j) 0 = _ from k2]
    unfold f_X7_tells_74
    have hG := mG_le τ0 H c j
    show ∃ r τ2, (if zI (b : Int) ≤ zI (mG τ0 H c j : Nat) then _ else _) = some r ∧ (if b ≤ mG τ0 H c j then _ else f_X8_tells_30 K fu' _ H _ (zI (mG τ0 H c j : Nat)) _ _) = some (r, τ2) ∧ _
    generalize mG τ0 H c j = G at *
    have c1 : (zI (b : Int) ≤ zI (G : Int)) = (b ≤ G) := by
      rw [zI_le (by omega) (by omega) (by omega) (by omega)]; exact propext ⟨fun h => by omega, fun h => by omega⟩
    simp only [c1, let_s, e1]
    by_cases h : b ≤ G
    · rw [if_pos h, if_pos h]
      exact ih (j + 1) fu fu' τ2 b pr (by omega) (by omega) (by omega) k1 hb
    · rw [if_neg h, if_neg h]
      exact ih (j + 1) fu fu' τ2 G _ (by omega) (by omega) (by omega) k1 hG
theorem tl_out (τ0 : cb_St) (hT : rlT N Q σ τ0) (H : Int32) : ∀ (m c fu fu' : Nat) (τ : cb_St) (b : Nat) (pr : Int32), c + m = N → m < fu → m < fu' → scM τ0 τ → b ≤ 10 → ∃ r τ2, f_X7_tells_15 σ fu H (zI b) pr (zI c) = some r ∧ f_X8_tells_15 fu' τ H pr (zI b) (zI c) = some (r, τ2) ∧ scM τ0 τ2 := by
  have hN := hT.1
  have h4 := hT.2.2.1
  have h4' := hT.2.2.2.1
  have e1 : ∀ j : Nat, zI (j : Int) + 1 = zI ((j + 1 : Nat) : Int) := fun j => by rw [show (1 : Int32) = zI 1 from rfl, zI_add, al_1]
  intro m
  induction m with
  | zero =>
    intro c fu fu' τ b pr e hf hf' hs hb
    obtain ⟨fu, rfl⟩ : ∃ g, fu = g + 1 := ⟨fu - 1, by omega⟩
    obtain ⟨fu', rfl⟩ : ∃ g, fu' = g + 1 := ⟨fu' - 1, by omega⟩
    have cc : zI (N : Int) ≤ zI (c : Int) := by rw [zI_le (by omega) (by omega) (by omega) (by omega)]; omega
    rw [f_X7_tells_15, f_X8_tells_15, h4, hs.1 4 (by omega), h4', if_pos cc, if_pos cc]
    exact ⟨_, _, rfl, rfl, hs⟩
  | succ m ih =>
    intro c fu fu' τ b pr e hf hf' hs hb
    obtain ⟨fu, rfl⟩ : ∃ g, fu = g + 1 := ⟨fu - 1, by omega⟩
    obtain ⟨fu', rfl⟩ : ∃ g, fu' = g + 1 := ⟨fu' - 1, by omega⟩
    have cc : ¬ zI (N : Int) ≤ zI (c : Int) := by rw [zI_le (by omega) (by omega) (by omega) (by omega)]; omega
    rw [f_X7_tells_15, f_X8_tells_15, h4, hs.1 4 (by omega), h4', if_neg cc, if_neg cc, let_s, let_s, e1]
    exact tl_in (f_X8_tells_15 fu') τ0 hT H c (by omega) (f_X7_tells_15 σ fu) (fun τ1 b pr h1 h2 => ih (c + 1) fu fu' τ1 b pr (by omega) (by omega) (by omega) h1 h2) m (c + 1) cb_fu cb_fu τ b pr (by omega) (by unfold cb_fu; omega) (by unfold cb_fu; omega) hs hb
theorem mC_le10 (P : Nat → Bool) : mC (bt (mS P 0 10 (zI 0))) 0 12 ≤ 10 := by
  have e : mC (bt (mS P 0 10 (zI 0))) 0 12 = mC (bt (mS P 0 10 (zI 0))) 0 10 := by
    rw [show (12 : Nat) = 10 + 2 from rfl, mC_add, mC_zero _ 2 (0 + 10) (fun q h1 h2 => mS_hi P 10 (by omega) q (by omega) (by omega))]; rfl
  rw [e]; exact mC_le _ _ _
theorem q_tells (h : Rel σ τ) : ∃ r τ', f_X7_tells σ = some r ∧ f_X8_tells τ = some (r, τ') ∧ Rel σ τ' := by
  have h0 := h
  obtain ⟨N, Q, n, ml, pk, hd, u, z, hX, hP, hU, hS⟩ := h
  have hT := hX.1
  unfold f_X7_tells f_X8_tells
  rw [s_hr hT hP, m_hr hT hP, bp_s, bp_s]
  rw [show f_J6_bitCount_0f7a4 σ (mH τ ml) = _ from s_bits σ (mH τ ml) (mS_hi _ 10 (by omega)), m_bits, bp_s, bp_s]
  obtain ⟨r, τ2, h1, h2, h3⟩ := tl_out τ hT (mH τ ml) N 0 cb_fu cb_fu τ (mC (bt (mH τ ml)) 0 12) (-1) (by omega) (by have := hT.1; unfold cb_fu; omega) (by have := hT.1; unfold cb_fu; omega) (scM_r τ) (mC_le10 _)
  exact ⟨r, τ2, h1, h2, sc_Rel h0 (scC_r σ) h3⟩
end TE
