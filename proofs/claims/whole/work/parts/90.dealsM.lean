/-! ===== deals: the reference ===== -/
def o16 (τ τ' : cb_St) : Prop := ∀ q, q ≠ 16 → τ'.1 q = τ.1 q
theorem o16_r (τ : cb_St) : o16 τ τ := fun _ _ => rfl
theorem o16_t {a b c : cb_St} (h1 : o16 a b) (h2 : o16 b c) : o16 a c := fun q h => (h2 q h).trans (h1 q h)
theorem o16_s (τ : cb_St) (i : Nat) (v : Int32) : o16 τ (cb_sI τ 16 i v) := fun q h => sI_n _ _ _ h
theorem o16_sc {τ τ' : cb_St} (h : o16 τ τ') : scM τ τ' := ⟨fun j _ => by rw [h 0 (by decide)], fun q hq => h q (by omega)⟩
theorem sn1_c {τ τ' : cb_St} (h : scM τ τ') (w : Nat → Int) : sn1 τ' w = sn1 τ w := by
  funext i; unfold sn1; rw [h.2 13 (by omega), h.2 14 (by omega), h.2 15 (by omega), sc_mT h]
def alC (A u : Nat → Bool) : Bool := mA (fun k => !(A k) || !(u k)) 0 5
theorem alC_i (A u : Nat → Bool) : alC A u = true ↔ ∀ k, k < 5 → A k = true → u k = false := by
  unfold alC
  rw [mA_i]
  constructor
  · intro h p hp hA
    have := h p (by omega) (by omega)
    rw [hA] at this
    simpa using this
  · intro h p _ hp
    cases hA : A p
    · rfl
    · rw [h p (by omega) hA]; rfl
def ovm (m : Nat) (b w : Nat → Int) : Nat → Int := fun p => if p < m then w p else b p
def GA (τ : cb_St) (s : Nat) (A : Nat → Bool) (m : Nat) (b : Nat → Int) (w : Nat → Int) (u : Nat → Bool) : Option (Nat → Int) := if alC A u then fnS τ s (ovm m b w) u else none
section DM
variable {N Q : Nat} {σ σ' τ τ' : cb_St} {n ml : Nat} {pk : Nat → Nat} {hd : Nat → Int} {w : Nat → Int} {C D : Nat}
theorem m_power5_4 (τ : cb_St) (k : Nat) (hk : k ≤ 6) : ∀ (m i fu x : Nat), i + m = k → m < fu → f_X8_power_4 5 (zI k) τ fu (zI x) (zI i) = some (zI ((x * 5 ^ m : Nat) : Int)) := by
  intro m
  induction m with
  | zero =>
    intro i fu x e hf
    obtain ⟨fu, rfl⟩ : ∃ g, fu = g + 1 := ⟨fu - 1, by omega⟩
    rw [f_X8_power_4, if_pos (by rw [zI_le (by omega) (by omega) (by omega) (by omega)]; omega), Nat.pow_zero, Nat.mul_one]
  | succ m ih =>
    intro i fu x e hf
    obtain ⟨fu, rfl⟩ : ∃ g, fu = g + 1 := ⟨fu - 1, by omega⟩
    have e1 : zI (i : Int) + 1 = zI ((i + 1 : Nat) : Int) := by rw [show (1 : Int32) = zI 1 from rfl, zI_add, al_1]
    rw [f_X8_power_4, if_neg (by rw [zI_le (by omega) (by omega) (by omega) (by omega)]; omega), let_s, let_s, e1, show (5 : Int32) = zI ((5 : Nat) : Int) from rfl, zI_mul, ← Int.natCast_mul]
    rw [show f_X8_power_4 (zI ((5 : Nat) : Int)) (zI k) τ fu (zI ((x * 5 : Nat) : Int)) (zI ((i + 1 : Nat) : Int)) = _ from ih (i + 1) fu (x * 5) (by omega) (by omega)]
    rw [Nat.pow_succ, Nat.mul_assoc, Nat.mul_comm 5]
theorem m_power5 (τ : cb_St) (k : Nat) (hk : k ≤ 6) : f_X8_power 5 (zI k) τ = some (zI ((5 ^ k : Nat) : Int)) := by
  have h := m_power5_4 τ k hk k 0 cb_fu 1 (by omega) (by unfold cb_fu; omega)
  rw [Nat.one_mul] at h
  exact h
def has16 (τ : cb_St) (b : Nat → Int) : Prop := ∀ p, p < 6 → τ.1 16 p = zI (b p)
theorem m_d_105 (x1 : Int32) (hN : N ≤ 12) (hQ : Q ≤ 6) {s : Nat} (hS : seenS σ τ Q s) (b : Nat → Int) (hb : has16 τ b) (hr : ∀ p, -1 ≤ b p ∧ b p < N) : ∀ (m i fu : Nat), i + m = s → m < fu → f_X8_dealsBy_105 x1 fu τ (zI 1) (zI i) = some (if mA (sn1 τ b) i m then zI 1 else zI 0, τ) := by
  obtain ⟨s6, -, s1, s3⟩ := hS
  intro m
  induction m with
  | zero =>
    intro i fu e hf
    obtain ⟨fu, rfl⟩ : ∃ g, fu = g + 1 := ⟨fu - 1, by omega⟩
    rw [f_X8_dealsBy_105, s1, if_pos (by rw [zI_le (by omega) (by omega) (by omega) (by omega)]; omega)]
    unfold f_X8_dealsBy_188
    rw [ck_t _ (show zI 1 = 0 ∨ zI 1 = 1 from Or.inr rfl)]; rfl
  | succ m ih =>
    intro i fu e hf
    obtain ⟨fu, rfl⟩ : ∃ g, fu = g + 1 := ⟨fu - 1, by omega⟩
    have e1 : zI (i : Int) + 1 = zI ((i + 1 : Nat) : Int) := by rw [show (1 : Int32) = zI 1 from rfl, zI_add, al_1]
    obtain ⟨p, q, r, h1, h2, h3, -, k2, -, k4, -, k6⟩ := s3 i (by omega)
    obtain ⟨r1, r2⟩ := hr p
    obtain ⟨r3, r4⟩ := hr q
    have i1 : f_X8_dealsBy_105 x1 fu τ 1 (zI ((i + 1 : Nat) : Int)) = _ := ih (i + 1) fu (by omega) (by omega)
    have i0 : f_X8_dealsBy_105 x1 fu τ 0 (zI ((i + 1 : Nat) : Int)) = some (zI 0, τ) := by
      obtain ⟨fu, rfl⟩ : ∃ g, fu = g + 1 := ⟨fu - 1, by omega⟩
      rw [f_X8_dealsBy_105]
      unfold f_X8_dealsBy_188
      rw [if_pos rfl, ck_t _ (Or.inl rfl)]
      exact ite_self _
    rw [f_X8_dealsBy_105, s1, if_neg (by rw [zI_le (by omega) (by omega) (by omega) (by omega)]; omega), if_neg z10, mA_s]
    unfold f_X8_dealsBy_179 f_X8_dealsBy_180
    simp (disch := omega) only [zI_ck, zI_clamp, Int.toNat_natCast, let_s, k2, k4, k6, hb p (by omega), hb q (by omega), e1, i0, i1]
    rw [show sn1 τ b i = (decide (¬ b (yN (τ.1 13 i)) = -1) && (decide (¬ b (yN (τ.1 14 i)) = -1) && decide (mT τ (b (yN (τ.1 13 i))) (b (yN (τ.1 14 i))) = τ.1 15 i))) from rfl, k2, k4, k6, yN_z p (by omega), yN_z q (by omega)]
    by_cases g1 : b p = -1
    · rw [if_pos (by rw [show (0 : Int32) = zI 0 from rfl, zI_lt (by omega) (by omega) (by omega) (by omega)]; omega), decide_eq_false (fun h => h g1)]; rfl
    · rw [if_neg (by rw [show (0 : Int32) = zI 0 from rfl, zI_lt (by omega) (by omega) (by omega) (by omega)]; omega), decide_eq_true g1]
      by_cases g2 : b q = -1
      · rw [if_pos (by rw [show (0 : Int32) = zI 0 from rfl, zI_lt (by omega) (by omega) (by omega) (by omega)]; omega), decide_eq_false (fun h => h g2)]; rfl
      · rw [if_neg (by rw [show (0 : Int32) = zI 0 from rfl, zI_lt (by omega) (by omega) (by omega) (by omega)]; omega), decide_eq_true g2]
        obtain ⟨c, hc⟩ := Int.eq_ofNat_of_zero_le (show 0 ≤ b p by omega)
        obtain ⟨d, hd⟩ := Int.eq_ofNat_of_zero_le (show 0 ≤ b q by omega)
        rw [hc, hd, m_cardsMeet τ c d (by omega) (by omega), bp_s]
        by_cases g3 : mT τ (c : Int) (d : Int) = zI (r : Int)
        · rw [if_pos g3, decide_eq_true g3]; rfl
        · rw [if_neg g3, decide_eq_false g3]; rfl
theorem m_d_36 (τ0 : cb_St) (x1 : Int32) (hT : rlT N Q σ τ0) (hP : rlP N Q σ 13 (τ0.1 3) n ml pk hd) {s : Nat} (hS : seenS σ τ0 Q s) (hC : C ≤ 5) (hCn : C ≤ n) (h34 : τ0.1 0 34 = zI C) : ∀ (m r fu : Nat) (τ : cb_St) (X : Int32) (A : Nat → Bool) (b : Nat → Int), m ≤ 5 → r < 5 ^ m → m < fu → o16 τ0 τ → (∀ k, k < 5 → bt X k = A k) → has16 τ b → (∀ p, -1 ≤ b p ∧ b p < N) → ∃ ρ τ', f_X8_dealsBy_36 x1 fu τ X (zI r) (zI ((m : Int) - 1)) = some (ρ, τ') ∧ o16 τ0 τ' ∧ ((ρ = 0 ∧ MM C pk (GA τ0 s A m b) m 0 w00 u00 r = none) ∨ (ρ = 1 ∧ ∃ d, MM C pk (GA τ0 s A m b) m 0 w00 u00 r = some d ∧ has16 τ' d)) := by
  have hN := hT.1
  have hQ := hT.2.1
  have hn := hP.1
  intro m
  induction m with
  | zero =>
    intro r fu τ X A b hm hr hf hs hX hB hg
    obtain ⟨fu, rfl⟩ : ∃ g, fu = g + 1 := ⟨fu - 1, by omega⟩
    have hS2 : seenS σ τ Q s := by
      obtain ⟨z1, z2, z3, z4⟩ := hS
      refine ⟨z1, z2, by rw [hs 0 (by decide)]; exact z3, fun i hi => ?_⟩
      rw [hs 13 (by decide), hs 14 (by decide), hs 15 (by decide)]; exact z4 i hi
    have h105 := m_d_105 x1 hN hQ hS2 b hB hg s 0 cb_fu (by omega) (by have := hS.1; unfold cb_fu; omega)
    rw [f_X8_dealsBy_36, if_pos (by decide)]
    rw [show f_X8_dealsBy_105 x1 cb_fu τ 1 0 = _ from h105]
    have eG : MM C pk (GA τ0 s A 0 b) 0 0 w00 u00 r = if mA (sn1 τ0 b) 0 s then some b else none := by
      show (if alC A u00 then fnS τ0 s (ovm 0 b w00) u00 else none) = _
      rw [if_pos ((alC_i A u00).mpr (fun _ _ _ => rfl))]
      have : ovm 0 b w00 = b := by funext p; unfold ovm; rw [if_neg (by omega)]
      rw [this]; rfl
    rw [eG, sn1_c (o16_sc hs)]
    by_cases g : mA (sn1 τ0 b) 0 s = true
    · rw [if_pos g, if_pos g]; exact ⟨_, τ, rfl, hs, Or.inr ⟨rfl, b, rfl, hB⟩⟩
    · rw [if_neg g, if_neg g]; exact ⟨_, τ, rfl, hs, Or.inl ⟨rfl, rfl⟩⟩
  | succ m ih =>
    intro r fu τ X A b hm hr hf hs hX hB hg
    obtain ⟨fu, rfl⟩ : ∃ g, fu = g + 1 := ⟨fu - 1, by omega⟩
    obtain ⟨q1, q2⟩ := p5 (m + 1) hm
    have hk5 : r % 5 < 5 := Nat.mod_lt _ (by omega)
    have hr5 : r / 5 < 5 ^ m := by
      rw [Nat.div_lt_iff_lt_mul (by omega), ← Nat.pow_succ]; exact hr
    have em : zI (((m + 1 : Nat) : Int) - 1) = zI (m : Int) := by congr 1; omega
    have em1 : zI (m : Int) + -1 = zI ((m : Int) - 1) := by rw [zI_m1, zI_add]; congr 1
    have e00 : ∀ k : Nat, (0 : Int32) + zI (k : Int) = zI (k : Int) := fun k => by rw [show (0 : Int32) = zI 0 from rfl, zI_add, la_0]
    rw [MM_last C pk _ m 0 w00 u00 r hr, f_X8_dealsBy_36, em, if_neg (by rw [show (0 : Int32) = zI 0 from rfl, zI_lt (by omega) (by omega) (by omega) (by omega)]; omega), show (5 : Int32) = zI ((5 : Nat) : Int) from rfl, yN_mod r 5 (by omega) (by omega) (by omega), yN_div r 5 (by omega) (by omega) (by omega), let_s, let_s, hs 0 (by decide), h34]
    unfold f_X8_dealsBy_68
    generalize r % 5 = k at *
    by_cases g1 : k < C
    · obtain ⟨-, d1, d3⟩ := hP.2.2.2.2.2.2.2.1 k (by omega)
      rw [if_neg (by rw [zI_le (by omega) (by omega) (by omega) (by omega)]; omega), m_has X k (by omega), bp_s, hX k hk5, e00]
      simp (disch := omega) only [zI_ck, zI_clamp, Int.toNat_natCast, let_s, hs 3 (by decide), d1, em1]
      cases hA : A k
      · rw [if_neg Bool.false_ne_true, if_pos z00]
        obtain ⟨ρ, τ', k1, k2, k3⟩ := ih (r / 5) fu (cb_sI τ 16 m (zI (pk k : Int))) (X ||| b1 k) (uu A k) (ui b m (pk k)) (by omega) hr5 (by omega) (o16_t hs (o16_s _ _ _)) (fun x hx => by
            rw [show X ||| b1 k = X ||| ((1 : Int32) <<< (zI k &&& 31)) from rfl, bt_or1 X k x (by omega) (by omega), hX x hx]; rfl) (fun p hp => by
            rw [sI_e]
            by_cases e : p = m
            · subst e; rw [upd_e, ui_e]
            · rw [upd_n _ _ e, ui_n _ _ e]; exact hB p hp) (fun p => by
            by_cases e : p = m
            · subst e; rw [ui_e]; omega
            · rw [ui_n _ _ e]; exact hg p)
        refine ⟨ρ, τ', k1, k2, ?_⟩
        have ec : (fun (w' : Nat → Int) (u' : Nat → Bool) => if k < C ∧ u' k = false then GA τ0 s A (m + 1) b (ui w' (0 + m) (pk k)) (uu u' k) else none) = GA τ0 s (uu A k) m (ui b m (pk k)) := by
          funext w' u'
          rw [Nat.zero_add]
          unfold GA
          have eo : ovm (m + 1) b (ui w' m (pk k)) = ovm m (ui b m (pk k)) w' := by
            funext p
            unfold ovm
            by_cases e : p = m
            · subst e; rw [if_pos (by omega), if_neg (by omega), ui_e, ui_e]
            · rw [ui_n _ _ e, ui_n _ _ e]
              by_cases e2 : p < m
              · rw [if_pos (by omega), if_pos e2]
              · rw [if_neg (by omega), if_neg e2]
          rw [eo]
          have ea : (k < C ∧ u' k = false ∧ alC A (uu u' k) = true) ↔ alC (uu A k) u' = true := by
            rw [alC_i, alC_i]
            constructor
            · rintro ⟨-, z1, z2⟩ x hx hh
              unfold uu at hh
              rw [Bool.or_eq_true, decide_eq_true_eq] at hh
              rcases hh with hh | hh
              · have := z2 x hx hh
                unfold uu at this
                rw [Bool.or_eq_false_iff] at this
                exact this.1
              · rw [hh]; exact z1
            · intro z
              refine ⟨g1, z k hk5 (by unfold uu; simp), fun x hx hh => ?_⟩
              have hne : x ≠ k := by intro e; rw [e, hA] at hh; exact absurd hh Bool.false_ne_true
              unfold uu
              rw [z x hx (by unfold uu; rw [hh, Bool.true_or]), decide_eq_false hne]; rfl
          by_cases z : alC (uu A k) u' = true
          · obtain ⟨z1, z2, z3⟩ := ea.mpr z
            rw [if_pos ⟨z1, z2⟩, if_pos z3, if_pos z]; rfl
          · rw [if_neg z]
            by_cases y : k < C ∧ u' k = false
            · rw [if_pos y, if_neg (fun y2 => z (ea.mp ⟨y.1, y.2, y2⟩))]
            · rw [if_neg y]
        rw [ec]; exact k3
      · rw [if_pos rfl, if_neg z10]
        refine ⟨0, τ, rfl, hs, Or.inl ⟨rfl, ?_⟩⟩
        have ec : (fun (w' : Nat → Int) (u' : Nat → Bool) => if k < C ∧ u' k = false then GA τ0 s A (m + 1) b (ui w' (0 + m) (pk k)) (uu u' k) else none) = fun _ _ => none := by
          funext w' u'
          unfold GA
          have hz : ¬ alC A (uu u' k) = true := by
            rw [alC_i]
            intro z
            have := z k hk5 hA
            unfold uu at this
            simp at this
          rw [if_neg hz, ite_self]
        rw [ec, MM_none]
    · rw [if_pos (by rw [zI_le (by omega) (by omega) (by omega) (by omega)]; omega)]
      refine ⟨0, τ, rfl, hs, Or.inl ⟨rfl, ?_⟩⟩
      have ec : (fun (w' : Nat → Int) (u' : Nat → Bool) => if k < C ∧ u' k = false then GA τ0 s A (m + 1) b (ui w' (0 + m) (pk k)) (uu u' k) else none) = fun _ _ => none := by
        funext w' u'
        rw [if_neg (fun z => g1 z.1)]
      rw [ec, MM_none]
theorem m_d_7 (x1 x2 x3 : Int32) (h33 : τ.1 0 33 = zI D) : ∀ (m i fu : Nat) (τ' : cb_St), o16 τ τ' → (∀ j, j < i → τ'.1 16 j = zI (-1)) → i + m = 6 → m < fu → ∃ τ'', f_X8_dealsBy_7 x1 fu τ' x2 x3 (zI i) = f_X8_dealsBy_36 x1 cb_fu τ'' x2 x3 (zI ((D : Int) - 1)) ∧ o16 τ τ'' ∧ has16 τ'' w00 := by
  intro m
  induction m with
  | zero =>
    intro i fu τ' hs hj e hf
    obtain ⟨fu, rfl⟩ : ∃ g, fu = g + 1 := ⟨fu - 1, by omega⟩
    refine ⟨τ', ?_, hs, fun j hh => hj j (by omega)⟩
    rw [f_X8_dealsBy_7, if_pos (by rw [show (6 : Int32) = zI 6 from rfl, zI_le (by omega) (by omega) (by omega) (by omega)]; omega), let_s, hs 0 (by decide), h33, show (1 : Int32) = zI 1 from rfl, zI_sub]
  | succ m ih =>
    intro i fu τ' hs hj e hf
    obtain ⟨fu, rfl⟩ : ∃ g, fu = g + 1 := ⟨fu - 1, by omega⟩
    have e1 : zI (i : Int) + 1 = zI ((i + 1 : Nat) : Int) := by rw [show (1 : Int32) = zI 1 from rfl, zI_add, al_1]
    obtain ⟨τ'', k1, k2, k3⟩ := ih (i + 1) fu (cb_sI τ' 16 i (-1)) (o16_t hs (o16_s _ _ _)) (fun j hh => by
      rw [sI_e]
      by_cases q : j = i
      · subst q; rw [upd_e, zI_m1]
      · rw [upd_n _ _ q]; exact hj j (by omega)) (by omega) (by omega)
    refine ⟨τ'', ?_, k2, k3⟩
    rw [f_X8_dealsBy_7, if_neg (by rw [show (6 : Int32) = zI 6 from rfl, zI_le (by omega) (by omega) (by omega) (by omega)]; omega)]
    simp (disch := omega) only [zI_ck, zI_clamp, Int.toNat_natCast, let_s, e1]
    exact k1
theorem m_d (hT : rlT N Q σ τ) (hP : rlP N Q σ 13 (τ.1 3) n ml pk hd) {s : Nat} (hS : seenS σ τ Q s) (hC : C ≤ 5) (hCn : C ≤ n) (hDC : D ≤ C) (h33 : τ.1 0 33 = zI D) (h34 : τ.1 0 34 = zI C) (r : Nat) (hr : r < 5 ^ D) : ∃ ρ τ', f_X8_dealsBy (zI r) τ = some (ρ, τ') ∧ o16 τ τ' ∧ ((ρ = 0 ∧ MM C pk (fnS τ s) D 0 w00 u00 r = none) ∨ (ρ = 1 ∧ ∃ d, MM C pk (fnS τ s) D 0 w00 u00 r = some d ∧ has16 τ' d)) := by
  obtain ⟨τ1, k1, k2, k3⟩ := m_d_7 (zI r) 0 (zI r) h33 6 0 cb_fu τ (o16_r τ) (fun j h => absurd h (by omega)) (by omega) (by unfold cb_fu; omega)
  obtain ⟨ρ, τ2, j1, j2, j3⟩ := m_d_36 τ (zI r) hT hP hS hC hCn h34 D r cb_fu τ1 0 (fun _ => false) w00 (by omega) hr (by unfold cb_fu; omega) k2 (fun k _ => b_0 k) k3 (fun p => by unfold w00; omega)
  have ec : MM C pk (GA τ s (fun _ => false) D w00) D 0 w00 u00 r = MM C pk (fnS τ s) D 0 w00 u00 r := by
    -- the last digits are none yet
    have hgen : ∀ (j t : Nat) (w : Nat → Int) (u : Nat → Bool) (r : Nat), (∀ p, t + j ≤ p → w p = -1) → MM C pk (GA τ s (fun _ => false) (t + j) w00) j t w u r = MM C pk (fnS τ s) j t w u r := by
      intro j
      induction j with
      | zero =>
        intro t w u r hw
        show GA τ s (fun _ => false) (t + 0) w00 w u = fnS τ s w u
        unfold GA
        rw [if_pos ((alC_i _ u).mpr (fun _ _ h => absurd h Bool.false_ne_true))]
        have : ovm (t + 0) w00 w = w := by
          funext p; unfold ovm
          by_cases g : p < t + 0
          · rw [if_pos g]
          · rw [if_neg g, hw p (by omega)]; rfl
        rw [this]
      | succ j ih =>
        intro t w u r hw
        rw [MM_s, MM_s]
        have e : t + (j + 1) = t + 1 + j := by omega
        rw [e, ih (t + 1) _ _ _ (fun p hp => by rw [ui_n _ _ (by omega)]; exact hw p (by omega))]
    have := hgen D 0 w00 u00 r (fun _ _ => rfl)
    rw [Nat.zero_add] at this
    exact this
  rw [ec] at j3
  refine ⟨ρ, τ2, ?_, j2, j3⟩
  unfold f_X8_dealsBy
  rw [show f_X8_dealsBy_7 (zI r) cb_fu τ 0 (zI r) 0 = _ from k1]
  exact j1
end DM
