/-! ===== what scratch rows hold does not matter; tells ===== -/
def scC (σ σ' : cb_St) : Prop := σ'.2 = σ.2 ∧ ∀ q, q ≠ 1 → q ≠ 2 → ¬ (106 ≤ q ∧ q ≤ 110) → σ'.1 q = σ.1 q
def scM (τ τ' : cb_St) : Prop := (∀ j, (j ≤ 12 ∨ j = 22 ∨ j = 28 ∨ j = 35) → τ'.1 0 j = τ.1 0 j) ∧ ∀ q, (1 ≤ q ∧ q ≤ 4) ∨ q = 8 ∨ (13 ≤ q ∧ q ≤ 15) ∨ (17 ≤ q ∧ q ≤ 20) → τ'.1 q = τ.1 q
theorem scC_r (σ : cb_St) : scC σ σ := ⟨rfl, fun _ _ _ _ => rfl⟩
theorem scM_r (τ : cb_St) : scM τ τ := ⟨fun _ _ => rfl, fun _ _ => rfl⟩
theorem scC_t {a b c : cb_St} (h1 : scC a b) (h2 : scC b c) : scC a c := ⟨h2.1.trans h1.1, fun q e1 e2 e3 => (h2.2 q e1 e2 e3).trans (h1.2 q e1 e2 e3)⟩
theorem scM_t {a b c : cb_St} (h1 : scM a b) (h2 : scM b c) : scM a c := ⟨fun j h => (h2.1 j h).trans (h1.1 j h), fun q h => (h2.2 q h).trans (h1.2 q h)⟩
theorem sc_agC {σ σ' : cb_St} (h : scC σ σ') : agC σ σ' := ⟨h.1, fun q hq => h.2 q (by omega) (by omega) (by omega)⟩
theorem sc_agM {τ τ' : cb_St} (h : scM τ τ') : agM τ τ' := ⟨fun j hj => h.1 j (by omega), fun q hq => h.2 q (by omega)⟩
theorem sc_P {N Q : Nat} {σ σ' τ τ' : cb_St} {n ml : Nat} {pk : Nat → Nat} {hd : Nat → Int} (hN : N ≤ 12) (hP : rlP N Q σ 13 (τ.1 3) n ml pk hd) (hc : scC σ σ') (hm : scM τ τ') : rlP N Q σ' 13 (τ'.1 3) n ml pk hd :=
  rlP_c hN hP (fun q h1 h2 => hc.2 q (by omega) (by omega) (by omega)) (fun i _ => by rw [hm.2 3 (by omega)])
theorem sc_T {N Q : Nat} {σ σ' τ τ' : cb_St} (hT : rlT N Q σ τ) (hc : scC σ σ') (hm : scM τ τ') : rlT N Q σ' τ' := rlT_c hT (sc_agC hc) (sc_agM hm)
theorem sc_Rel {σ σ' τ τ' : cb_St} (h : Rel σ τ) (hc : scC σ σ') (hm : scM τ τ') : Rel σ' τ' := by
  obtain ⟨N, Q, n, ml, pk, hd, u, z, hX, hP, hU, hS⟩ := h
  refine ⟨N, Q, n, ml, pk, hd, u, z, rlX_c hX (sc_agC hc) (sc_agM hm), sc_P hX.1.1 hP hc hm, rlU_c hX.1.1 hU (fun q hq => hc.2 q (by omega) (by omega) (by omega)) (hm.1 22 (by omega)) (hm.2 8 (by omega)), rlS_c hS (by rw [hc.2 0 (by omega) (by omega) (by omega)]) (hm.1 9 (by omega))⟩
theorem sc_mRu {τ τ' : cb_St} (hm : scM τ τ') (r c d : Nat) : mRu τ' r c d = mRu τ r c d := by
  unfold mRu; rw [hm.2 1 (by omega), hm.2 2 (by omega), hm.1 3 (by omega)]
theorem sc_12 (τ : cb_St) (i : Nat) (v : Int32) : scM τ (cb_sI τ 12 i v) := ⟨fun j _ => by rw [sI_n _ _ _ (by decide)], fun q hq => by rw [sI_n _ _ _ (by omega)]⟩
section TE
variable {N Q : Nat} {σ σ' τ τ' : cb_St} {n ml : Nat} {pk : Nat → Nat} {hd : Nat → Int}
/-- how many of the rules in H give two cards the outcome o -/
def mK (τ : cb_St) (H : Int32) (c d o : Nat) (i m : Nat) : Nat := mC (fun r => bt H r && decide (mRu τ r c d = zI (o : Int))) i m
theorem mK_s (τ : cb_St) (H : Int32) (c d o i m : Nat) : mK τ H c d o i (m + 1) = (if bt H i && decide (mRu τ i c d = zI (o : Int)) then 1 else 0) + mK τ H c d o (i + 1) m := rfl
theorem s_max (a b : Nat) (ha : a < 100) (hb : b < 100) : f_J9_max_7cf53 (zI a) (zI b) σ = some (zI ((max a b : Nat) : Int)) := by
  unfold f_J9_max_7cf53; simp (disch := omega) only [zI_lit, zI_neg, zI_add, zI_sub, zI_mul, zI_lt, zI_le, zI_inj, zI_ck, zI_clamp, ← Int.natCast_add, la_1, al_1, la_2, al_2, la_3, al_3, la_4, al_4, la_5, al_5, la_6, al_6, la_7, al_7, la_8, al_8, la_9, al_9, la_10, al_10, la_11, al_11, la_12, al_12, la_13, al_13, la_16, al_16, la_19, al_19, la_20, al_20, la_24, al_24, la_25, al_25, la_26, al_26, la_27, al_27, la_51, al_51, la_52, al_52, la_0, Int.toNat_natCast, bp_s, let_s, bi_s, bv_s, b1_f]
  by_cases h : a < b
  · rw [if_pos (by omega), Nat.max_eq_right (by omega)]
  · rw [if_neg (by omega), Nat.max_eq_left (by omega)]
theorem s_gp_12 (hT : rlT N Q σ τ) (H : Int32) (c d : Nat) (hc : c < N) (hd : d < N) : ∀ (m i fu k0 k1 k2 : Nat), i + m = 10 → m < fu → k0 ≤ i → k1 ≤ i → k2 ≤ i → f_X7_greatestPart_12 (zI c) (zI d) H σ fu (zI k0) (zI k1) (zI k2) (zI i) = some (zI ((max (k0 + mK τ H c d 0 i m) (max (k1 + mK τ H c d 1 i m) (k2 + mK τ H c d 2 i m)) : Nat) : Int)) := by
  intro m
  induction m with
  | zero =>
    intro i fu k0 k1 k2 e hf h0 h1 h2
    obtain ⟨fu, rfl⟩ : ∃ g, fu = g + 1 := ⟨fu - 1, by omega⟩
    have h10 : i = 10 := by omega
    rw [f_X7_greatestPart_12, if_pos (by subst h10; decide), s_max k1 k2 (by omega) (by omega), bp_s, s_max k0 (max k1 k2) (by omega) (by omega), bp_s]
    rfl
  | succ m ih =>
    intro i fu k0 k1 k2 e hf h0 h1 h2
    obtain ⟨fu, rfl⟩ : ∃ g, fu = g + 1 := ⟨fu - 1, by omega⟩
    have e1 : ∀ j : Nat, zI (j : Int) + 1 = zI ((j + 1 : Nat) : Int) := fun j => by rw [show (1 : Int32) = zI 1 from rfl, zI_add, al_1]
    rw [f_X7_greatestPart_12, if_neg (by rw [show (10 : Int32) = zI 10 from rfl, zI_le (by omega) (by omega) (by omega) (by omega)]; omega), bit1 H i (by omega), s_byRule hT i c d (by omega) hc hd, mK_s, mK_s, mK_s]
    unfold f_X7_greatestPart_68
    simp only [bp_s, let_s, e1]
    rw [ih (i + 1) fu k0 k1 k2 (by omega) (by omega) (by omega) (by omega) (by omega), ih (i + 1) fu (k0 + 1) k1 k2 (by omega) (by omega) (by omega) (by omega) (by omega), ih (i + 1) fu k0 (k1 + 1) k2 (by omega) (by omega) (by omega) (by omega) (by omega), ih (i + 1) fu k0 k1 (k2 + 1) (by omega) (by omega) (by omega) (by omega) (by omega)]
    by_cases hb : bt H i = true
    · rw [hb, if_pos rfl, if_pos rfl]
      rcases mRu_3 τ i c d with g | g | g
      · rw [g, if_pos (by decide), if_pos (by decide), if_neg (by decide), if_neg (by decide)]
        simp only [Nat.zero_add, Nat.add_assoc]
      · rw [g, if_neg (by decide), if_pos (by decide), if_neg (by decide), if_pos (by decide), if_neg (by decide)]
        simp only [Nat.zero_add, Nat.add_assoc]
      · rw [g, if_neg (by decide), if_neg (by decide), if_neg (by decide), if_neg (by decide), if_pos (by decide)]
        simp only [Nat.zero_add, Nat.add_assoc]
    · have hb : bt H i = false := by simpa using hb
      rw [hb, if_neg (by decide), if_neg (by decide)]
      simp only [Bool.false_and, if_neg Bool.false_ne_true, Nat.zero_add]
def mG (τ : cb_St) (H : Int32) (c d : Nat) : Nat := max (mK τ H c d 0 0 10) (max (mK τ H c d 1 0 10) (mK τ H c d 2 0 10))
theorem s_gp (hT : rlT N Q σ τ) (H : Int32) (c d : Nat) (hc : c < N) (hd : d < N) : f_X7_greatestPart (zI c) (zI d) H σ = some (zI (mG τ H c d : Nat)) := by
  have h := s_gp_12 hT H c d hc hd 10 0 cb_fu 0 0 0 (by omega) (by unfold cb_fu; omega) (by omega) (by omega) (by omega)
  simp only [Nat.zero_add] at h
  exact h
theorem mK_le (τ : cb_St) (H : Int32) (c d o i m : Nat) : mK τ H c d o i m ≤ m := mC_le _ _ _
end TE
