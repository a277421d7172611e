/-! ===== order: the reference ===== -/
def hasB (τ : cb_St) (w : Nat → Int) : Prop := ∀ p, p < 6 → τ.1 10 p = zI (w p)
theorem sc_10 (τ : cb_St) (i : Nat) (v : Int32) : scM τ (cb_sI τ 10 i v) := ⟨fun j _ => by rw [sI_n _ _ _ (by decide)], fun q hq => by rw [sI_n _ _ _ (by omega)]⟩
theorem sc_mT {τ τ' : cb_St} (h : scM τ τ') (c d : Int) : mT τ' c d = mT τ c d := mT_c (sc_agM h) c d
theorem sc_win {τ τ' : cb_St} (h : scM τ τ') (S : Int32) (Q : Nat) (b : Nat → Int) : win τ' S Q b = win τ S Q b := by
  unfold win
  have e : wi1 τ' S b = wi1 τ S b := by
    funext p q; unfold wi1; rw [sc_mT h]
  rw [e]
theorem mA_c {P R : Nat → Bool} : ∀ (m i : Nat), (∀ q, i ≤ q → q < i + m → P q = R q) → mA P i m = mA R i m := by
  intro m
  induction m with
  | zero => intro i _; rfl
  | succ m ih => intro i h; rw [mA_s, mA_s, h i (by omega) (by omega), ih (i + 1) (fun q h1 h2 => h q (by omega) (by omega))]
theorem win_c {τ : cb_St} {S : Int32} {Q : Nat} {b b' : Nat → Int} (h : ∀ p, p < Q → b p = b' p) : win τ S Q b = win τ S Q b' := by
  unfold win
  exact mA_c Q 0 (fun p _ h1 => mA_c Q 0 (fun q _ h2 => by unfold wi1; rw [h p (by omega), h q (by omega)]))
section OM
variable {N Q : Nat} {σ σ' τ τ' : cb_St} {n ml : Nat} {pk : Nat → Nat} {hd : Nat → Int} {w : Nat → Int}
theorem m_ab_15 (h7 : τ.1 0 7 = zI Q) (hQ : Q ≤ 6) (hN : N ≤ 12) (ho : hasB τ w) (hr : rgO N w) (S : Int32) (K : Int32 → Int32 → Option Int32) (p : Nat) (hp : p < Q) : ∀ (m q fu : Nat), q + m = Q → m < fu → f_X8_allBeat_15 K S τ fu (zI 1) (zI p) (zI q) = K (if mA (wi1 τ S w p) q m then zI 1 else zI 0) (zI ((p + 1 : Nat) : Int)) := by
  have e1 : ∀ j : Nat, zI (j : Int) + 1 = zI ((j + 1 : Nat) : Int) := fun j => by rw [show (1 : Int32) = zI 1 from rfl, zI_add, al_1]
  intro m
  induction m with
  | zero =>
    intro q fu e hf
    obtain ⟨fu, rfl⟩ : ∃ g, fu = g + 1 := ⟨fu - 1, by omega⟩
    rw [f_X8_allBeat_15, h7, if_pos (by rw [zI_le (by omega) (by omega) (by omega) (by omega)]; omega)]
    unfold f_X8_allBeat_77
    rw [let_s, e1]; rfl
  | succ m ih =>
    intro q fu e hf
    obtain ⟨fu, rfl⟩ : ∃ g, fu = g + 1 := ⟨fu - 1, by omega⟩
    obtain ⟨r1, r2⟩ := hr p (by omega)
    obtain ⟨r3, r4⟩ := hr q (by omega)
    have i0 : f_X8_allBeat_15 K S τ fu 0 (zI p) (zI ((q + 1 : Nat) : Int)) = K 0 (zI ((p + 1 : Nat) : Int)) := by
      obtain ⟨fu, rfl⟩ : ∃ g, fu = g + 1 := ⟨fu - 1, by omega⟩
      rw [f_X8_allBeat_15]
      unfold f_X8_allBeat_77
      rw [let_s, e1, if_pos rfl]
      exact ite_self _
    have i1 : f_X8_allBeat_15 K S τ fu 1 (zI p) (zI ((q + 1 : Nat) : Int)) = _ := ih (q + 1) fu (by omega) (by omega)
    rw [f_X8_allBeat_15, h7, if_neg (by rw [zI_le (by omega) (by omega) (by omega) (by omega)]; omega), if_neg z10, mA_s]
    unfold f_X8_allBeat_65 f_X8_allBeat_70
    rw [m_has S p (by omega), m_has S q (by omega)]
    simp (disch := omega) only [bp_s, let_s, e1, zI_ck, zI_clamp, Int.toNat_natCast, ho p (by omega), ho q (by omega), m_meetBy τ (w p) (w q) r1 (by omega) r3 (by omega), i0, i1]
    rw [show wi1 τ S w p q = (!(bt S p) || (bt S q || decide (mT τ (w p) (w q) = zI 0))) from rfl]
    cases bt S p
    · rfl
    · cases bt S q
      · by_cases h : mT τ (w p) (w q) = zI 0
        · rw [decide_eq_true h, if_pos rfl, if_neg z10, if_neg Bool.false_ne_true, if_pos z00, if_pos (show mT τ (w p) (w q) = 0 from h)]; rfl
        · rw [decide_eq_false h, if_pos rfl, if_neg z10, if_neg Bool.false_ne_true, if_pos z00, if_neg (show ¬ mT τ (w p) (w q) = 0 from h)]; rfl
      · rfl
theorem m_ab_4 (h7 : τ.1 0 7 = zI Q) (hQ : Q ≤ 6) (hN : N ≤ 12) (ho : hasB τ w) (hr : rgO N w) (S : Int32) : ∀ (m p fu : Nat) (a : Bool), p + m = Q → m < fu → f_X8_allBeat_4 S τ fu (if a then zI 1 else zI 0) (zI p) = some (if a && mA (fun p => mA (wi1 τ S w p) 0 Q) p m then zI 1 else zI 0) := by
  have e1 : ∀ j : Nat, zI (j : Int) + 1 = zI ((j + 1 : Nat) : Int) := fun j => by rw [show (1 : Int32) = zI 1 from rfl, zI_add, al_1]
  intro m
  induction m with
  | zero =>
    intro p fu a e hf
    obtain ⟨fu, rfl⟩ : ∃ g, fu = g + 1 := ⟨fu - 1, by omega⟩
    rw [f_X8_allBeat_4, h7, if_pos (by rw [zI_le (by omega) (by omega) (by omega) (by omega)]; omega), ck_t _ (by cases a <;> decide)]
    cases a <;> rfl
  | succ m ih =>
    intro p fu a e hf
    obtain ⟨fu, rfl⟩ : ∃ g, fu = g + 1 := ⟨fu - 1, by omega⟩
    rw [f_X8_allBeat_4, h7, if_neg (by rw [zI_le (by omega) (by omega) (by omega) (by omega)]; omega), mA_s]
    cases a
    · obtain ⟨gg, hgg⟩ : ∃ g, cb_fu = g + 1 := ⟨cb_fu - 1, by unfold cb_fu; omega⟩
      rw [hgg, f_X8_allBeat_15]
      unfold f_X8_allBeat_77
      rw [let_s, e1, if_neg Bool.false_ne_true, if_pos z00, ite_self]
      exact ih (p + 1) fu false (by omega) (by omega)
    · rw [if_pos rfl]
      rw [show f_X8_allBeat_15 (f_X8_allBeat_4 S τ fu) S τ cb_fu (zI 1) (zI p) 0 = _ from m_ab_15 h7 hQ hN ho hr S (f_X8_allBeat_4 S τ fu) p (by omega) Q 0 cb_fu (by omega) (by unfold cb_fu; omega)]
      rw [ih (p + 1) fu _ (by omega) (by omega), Bool.true_and]
theorem m_allBeat (h7 : τ.1 0 7 = zI Q) (hQ : Q ≤ 6) (hN : N ≤ 12) (ho : hasB τ w) (hr : rgO N w) (S : Int32) : f_X8_allBeat S τ = some (if win τ S Q w then zI 1 else zI 0) :=
  m_ab_4 h7 hQ hN ho hr S Q 0 cb_fu true (by omega) (by unfold cb_fu; omega)
theorem m_power_4 (τ : cb_St) (k : Nat) (hk : k ≤ 6) : ∀ (m i fu x : Nat), i + m = k → m < fu → f_X8_power_4 6 (zI k) τ fu (zI x) (zI i) = some (zI ((x * 6 ^ m : Nat) : Int)) := by
  intro m
  induction m with
  | zero =>
    intro i fu x e hf
    obtain ⟨fu, rfl⟩ : ∃ g, fu = g + 1 := ⟨fu - 1, by omega⟩
    rw [f_X8_power_4, if_pos (by rw [zI_le (by omega) (by omega) (by omega) (by omega)]; omega), Nat.pow_zero, Nat.mul_one]
  | succ m ih =>
    intro i fu x e hf
    obtain ⟨fu, rfl⟩ : ∃ g, fu = g + 1 := ⟨fu - 1, by omega⟩
    have e1 : zI (i : Int) + 1 = zI ((i + 1 : Nat) : Int) := by rw [show (1 : Int32) = zI 1 from rfl, zI_add, al_1]
    rw [f_X8_power_4, if_neg (by rw [zI_le (by omega) (by omega) (by omega) (by omega)]; omega), let_s, let_s, e1, show (6 : Int32) = zI ((6 : Nat) : Int) from rfl, zI_mul, ← Int.natCast_mul]
    rw [show f_X8_power_4 (zI ((6 : Nat) : Int)) (zI k) τ fu (zI ((x * 6 : Nat) : Int)) (zI ((i + 1 : Nat) : Int)) = _ from ih (i + 1) fu (x * 6) (by omega) (by omega)]
    rw [Nat.pow_succ, Nat.mul_assoc, Nat.mul_comm 6]
theorem m_power (τ : cb_St) (k : Nat) (hk : k ≤ 6) : f_X8_power 6 (zI k) τ = some (zI ((6 ^ k : Nat) : Int)) := by
  have h := m_power_4 τ k hk k 0 cb_fu 1 (by omega) (by unfold cb_fu; omega)
  rw [Nat.one_mul] at h
  exact h
theorem p6 (j : Nat) (h : j ≤ 6) : 1 ≤ 6 ^ j ∧ 6 ^ j ≤ 46656 := ⟨Nat.pow_pos (by omega), Nat.pow_le_pow_right (by omega) h⟩
theorem m_o92 (S : Int32) (τ : cb_St) (k r : Nat) (hk : k ≤ 6) (hr : r < 46656) : ∀ (j i fu v : Nat), i + j = k → j < fu → f_X8_order_92 S fu τ (zI k) (zI r) (zI v) (zI i) = some (zI ((v * 10 ^ j + FF j (r % 6 ^ j) : Nat) : Int), τ) := by
  intro j
  induction j with
  | zero =>
    intro i fu v e hf
    obtain ⟨fu, rfl⟩ : ∃ g, fu = g + 1 := ⟨fu - 1, by omega⟩
    rw [f_X8_order_92, if_pos (by rw [zI_le (by omega) (by omega) (by omega) (by omega)]; omega)]
    show _ = some (zI ((v * 1 + 0 : Nat) : Int), τ)
    rw [Nat.mul_one]; rfl
  | succ j ih =>
    intro i fu v e hf
    obtain ⟨fu, rfl⟩ : ∃ g, fu = g + 1 := ⟨fu - 1, by omega⟩
    have e1 : ∀ j : Nat, zI (j : Int) + 1 = zI ((j + 1 : Nat) : Int) := fun j => by rw [show (1 : Int32) = zI 1 from rfl, zI_add, al_1]
    have ej : zI (k : Int) - 1 - zI (i : Int) = zI (j : Int) := by
      rw [show (1 : Int32) = zI 1 from rfl, zI_sub, zI_sub]; congr 1; omega
    obtain ⟨q1, q2⟩ := p6 j (by omega)
    rw [f_X8_order_92, if_neg (by rw [zI_le (by omega) (by omega) (by omega) (by omega)]; omega), ej, m_power τ j (by omega), bp_s, ck_t _ (by rw [show (0 : Int32) = zI 0 from rfl, zI_inj (by omega) (by omega) (by omega) (by omega)]; omega), let_s, let_s]
    have hd : r / 6 ^ j ≤ r := Nat.div_le_self _ _
    rw [yN_div r (6 ^ j) (by omega) (by omega) (by omega), show (6 : Int32) = zI ((6 : Nat) : Int) from rfl, yN_mod (r / 6 ^ j) 6 (by omega) (by omega) (by omega), show (10 : Int32) = zI ((10 : Nat) : Int) from rfl, zI_mul, ← Int.natCast_mul, zI_add, ← Int.natCast_add, e1, e1, ih (i + 1) fu _ (by omega) (by omega)]
    have k1 : r % 6 ^ (j + 1) / 6 ^ j = r / 6 ^ j % 6 := by
      rw [Nat.pow_succ]; exact Nat.mod_mul_right_div_self r (6 ^ j) 6
    have k2 : r % 6 ^ (j + 1) % 6 ^ j = r % 6 ^ j := Nat.mod_mod_of_dvd r ⟨6, by rw [Nat.pow_succ]⟩
    have ev : (10 * v + r / 6 ^ j % 6 + 1) * 10 ^ j + FF j (r % 6 ^ j) = v * 10 ^ (j + 1) + FF (j + 1) (r % 6 ^ (j + 1)) := by
      rw [FF_s, k1, k2, Nat.pow_succ]
      generalize 10 ^ j = X
      generalize r / 6 ^ j % 6 = Y
      grind
    rw [ev]
def ovA (A : Nat → Bool) (b w : Nat → Int) : Nat → Int := fun p => if A p then b p else w p
def alA (A : Nat → Bool) (w : Nat → Int) : Bool := mA (fun p => !(A p) || decide (w p = -1)) 0 6
theorem alA_i (A : Nat → Bool) (w : Nat → Int) : alA A w = true ↔ ∀ p, p < 6 → A p = true → w p = -1 := by
  unfold alA
  rw [mA_i]
  constructor
  · intro h p hp hA
    have := h p (by omega) (by omega)
    rw [hA] at this
    simpa using this
  · intro h p _ hp
    cases hA : A p
    · rfl
    · rw [decide_eq_true (h p (by omega) hA)]; rfl
def PA (τ : cb_St) (S : Int32) (Q : Nat) (A : Nat → Bool) (b w : Nat → Int) : Bool := alA A w && win τ S Q (ovA A b w)
theorem m_db_39 (τ0 : cb_St) (x1 x2 : Int32) (S : Int32) (hT : rlT N Q σ τ0) (hP : rlP N Q σ 13 (τ0.1 3) n ml pk hd) : ∀ (m r fu : Nat) (τ : cb_St) (X : Int32) (A : Nat → Bool) (b : Nat → Int), m ≤ n → m ≤ 6 → r < 6 ^ m → m < fu → scM τ0 τ → (∀ p, p < 6 → bt X p = A p) → hasB τ b → rgO N b → (∀ p, p < 6 → A p = false → b p = hd p) → (∀ p, p < 6 → A p = true → hd p = -1) → ∃ ρ τ', f_X8_drawsBy_39 x1 x2 fu τ X (zI r) (zI ((m : Int) - 1)) = some (ρ, τ') ∧ scM τ0 τ' ∧ ((ρ = 0 ∧ TT Q pk (PA τ0 S Q A b) m 0 hd r = false) ∨ (ρ = 1 ∧ ∃ b', hasB τ' b' ∧ rgO N b' ∧ TT Q pk (PA τ0 S Q A b) m 0 hd r = win τ0 S Q b')) := by
  have hN := hT.1
  have hQ := hT.2.1
  have h7 := hT.2.2.2.2.2.1
  have hn := hP.1
  intro m
  induction m with
  | zero =>
    intro r fu τ X A b hm hm6 hr hf hs hX hB hg hb0 hb1
    obtain ⟨fu, rfl⟩ : ∃ g, fu = g + 1 := ⟨fu - 1, by omega⟩
    refine ⟨1, τ, ?_, hs, Or.inr ⟨rfl, b, hB, hg, ?_⟩⟩
    · rw [f_X8_drawsBy_39, if_pos (by decide)]
    · show PA τ0 S Q A b hd = _
      unfold PA
      rw [(alA_i A hd).mpr hb1, Bool.true_and]
      apply win_c
      intro p hp
      unfold ovA
      cases hA : A p
      · rw [if_neg Bool.false_ne_true, hb0 p (by omega) hA]
      · rw [if_pos rfl]
  | succ m ih =>
    intro r fu τ X A b hm hm6 hr hf hs hX hB hg hb0 hb1
    obtain ⟨fu, rfl⟩ : ∃ g, fu = g + 1 := ⟨fu - 1, by omega⟩
    obtain ⟨q1, q2⟩ := p6 (m + 1) hm6
    have hp6 : r % 6 < 6 := Nat.mod_lt _ (by omega)
    have hr6 : r / 6 < 6 ^ m := by
      rw [Nat.div_lt_iff_lt_mul (by omega), ← Nat.pow_succ]; exact hr
    have em : zI (((m + 1 : Nat) : Int) - 1) = zI (m : Int) := by congr 1; omega
    have em1 : zI (m : Int) + -1 = zI ((m : Int) - 1) := by rw [zI_m1, zI_add]; congr 1
    have e13 : ∀ p : Nat, (13 : Int32) + zI p = zI ((13 + p : Nat) : Int) := fun p => by rw [show (13 : Int32) = zI 13 from rfl, zI_add, la_13]
    have e00 : (0 : Int32) + zI (m : Int) = zI (m : Int) := by rw [show (0 : Int32) = zI 0 from rfl, zI_add, la_0]
    obtain ⟨-, c1, c2, c3⟩ := hP.2.2.2.2.2.2.2.2.1 (r % 6) hp6
    obtain ⟨-, d1, d3⟩ := hP.2.2.2.2.2.2.2.1 m (by omega)
    have hs3 := hs.2 3 (by omega)
    rw [TT_last Q pk _ m 0 hd r hr, f_X8_drawsBy_39, em, if_neg (by rw [show (0 : Int32) = zI 0 from rfl, zI_lt (by omega) (by omega) (by omega) (by omega)]; omega), show (6 : Int32) = zI ((6 : Nat) : Int) from rfl, yN_mod r 6 (by omega) (by omega) (by omega), yN_div r 6 (by omega) (by omega) (by omega), let_s, let_s, hs.1 7 (by omega), h7]
    unfold f_X8_drawsBy_89
    generalize r % 6 = p at *
    by_cases g1 : p < Q
    · rw [if_neg (by rw [zI_le (by omega) (by omega) (by omega) (by omega)]; omega), e13, e00]
      simp (disch := omega) only [zI_ck, zI_clamp, Int.toNat_natCast, let_s, hs3, c1, d1, m_has X p (by omega), bp_s, em1]
      by_cases g2 : hd p = -1
      · rw [if_neg (by rw [show (0 : Int32) = zI 0 from rfl, zI_le (by omega) (by omega) (by omega) (by omega)]; omega), hX p hp6]
        cases hA : A p
        · rw [if_neg Bool.false_ne_true, if_pos z00]
          obtain ⟨ρ, τ', k1, k2, k3⟩ := ih (r / 6) fu (cb_sI τ 10 p (zI (pk m : Int))) (X ||| b1 p) (fun q => A q || decide (q = p)) (ui b p (pk m)) (by omega) (by omega) hr6 (by omega) (scM_t hs (sc_10 _ _ _)) (fun q hq => by
              rw [show X ||| b1 p = X ||| ((1 : Int32) <<< (zI p &&& 31)) from rfl, bt_or1 X p q (by omega) (by omega), hX q hq]) (fun q hq => by
              rw [sI_e]
              by_cases e : q = p
              · subst e; rw [upd_e, ui_e]
              · rw [upd_n _ _ e, ui_n _ _ e]; exact hB q hq) (rgO_u hg p _ (by omega) (by omega)) (fun q hq hh => by
              rw [Bool.or_eq_false_iff, decide_eq_false_iff_not] at hh
              rw [ui_n _ _ hh.2]; exact hb0 q hq hh.1) (fun q hq hh => by
              rw [Bool.or_eq_true, decide_eq_true_eq] at hh
              rcases hh with hh | hh
              · exact hb1 q hq hh
              · rw [hh]; exact g2)
          refine ⟨ρ, τ', k1, k2, ?_⟩
          have ec : TT Q pk (fun w' => decide (p < Q) && (decide (w' p = -1) && PA τ0 S Q A b (ui w' p (pk (0 + m))))) m 0 hd (r / 6) = TT Q pk (PA τ0 S Q (fun q => A q || decide (q = p)) (ui b p (pk m))) m 0 hd (r / 6) := by
            apply TT_c
            intro w'' _
            rw [decide_eq_true g1, Bool.true_and, Nat.zero_add]
            unfold PA
            rw [← Bool.and_assoc]
            have eo : win τ0 S Q (ovA A b (ui w'' p (pk m))) = win τ0 S Q (ovA (fun q => A q || decide (q = p)) (ui b p (pk m)) w'') := by
              apply win_c
              intro q _
              unfold ovA
              by_cases e : q = p
              · subst e; rw [hA, ui_e, ui_e]; simp
              · rw [ui_n _ _ e, ui_n _ _ e]; simp [e]
            rw [eo]
            congr 1
            rw [Bool.eq_iff_iff, Bool.and_eq_true, decide_eq_true_eq, alA_i, alA_i]
            constructor
            · rintro ⟨z1, z2⟩ q hq hh
              rw [Bool.or_eq_true, decide_eq_true_eq] at hh
              rcases hh with hh | hh
              · have hne : q ≠ p := by intro e; rw [e, hA] at hh; exact absurd hh Bool.false_ne_true
                have := z2 q hq hh
                rw [ui_n _ _ hne] at this; exact this
              · rw [hh]; exact z1
            · intro z
              refine ⟨z p hp6 (by simp), fun q hq hh => ?_⟩
              have hne : q ≠ p := by intro e; rw [e, hA] at hh; exact absurd hh Bool.false_ne_true
              rw [ui_n _ _ hne]
              exact z q hq (by rw [hh, Bool.true_or])
          rw [ec]; exact k3
        · rw [if_pos rfl, if_neg z10]
          refine ⟨0, τ, rfl, hs, Or.inl ⟨rfl, TT_n _ _ _ _ (fun w'' _ => ?_)⟩⟩
          have : PA τ0 S Q A b (ui w'' p (pk (0 + m))) = false := by
            unfold PA
            have hz : alA A (ui w'' p (pk (0 + m))) = false := by
              rw [Bool.eq_false_iff, ne_eq, alA_i]
              intro z
              have := z p hp6 hA
              rw [ui_e] at this; omega
            rw [hz, Bool.false_and]
          rw [this, Bool.and_false, Bool.and_false]
      · rw [if_pos (by rw [show (0 : Int32) = zI 0 from rfl, zI_le (by omega) (by omega) (by omega) (by omega)]; omega)]
        refine ⟨0, τ, rfl, hs, Or.inl ⟨rfl, TT_n _ _ _ _ (fun w'' hw => ?_)⟩⟩
        rw [decide_eq_false (show ¬ w'' p = -1 from by rw [hw p g2]; exact g2), Bool.false_and, Bool.and_false]
    · rw [if_pos (by rw [zI_le (by omega) (by omega) (by omega) (by omega)]; omega)]
      refine ⟨0, τ, rfl, hs, Or.inl ⟨rfl, TT_n _ _ _ _ (fun w'' _ => ?_)⟩⟩
      rw [decide_eq_false g1, Bool.false_and]
theorem m_db_2 (x1 x2 : Int32) (hP : rlP N Q σ 13 (τ.1 3) n ml pk hd) : ∀ (m i fu : Nat) (τ' : cb_St), scM τ τ' → (∀ j, j < i → τ'.1 10 j = zI (hd j)) → i + m = 6 → m < fu → ∃ τ'', f_X8_drawsBy_2 x1 x2 fu τ' (zI i) = f_X8_drawsBy_39 x1 x2 cb_fu τ'' 0 x1 (x2 - 1) ∧ scM τ τ'' ∧ hasB τ'' hd := by
  intro m
  induction m with
  | zero =>
    intro i fu τ' hs hj e hf
    obtain ⟨fu, rfl⟩ : ∃ g, fu = g + 1 := ⟨fu - 1, by omega⟩
    refine ⟨τ', ?_, hs, fun j hh => hj j (by omega)⟩
    rw [f_X8_drawsBy_2, if_pos (by rw [show (6 : Int32) = zI 6 from rfl, zI_le (by omega) (by omega) (by omega) (by omega)]; omega), let_s]
  | succ m ih =>
    intro i fu τ' hs hj e hf
    obtain ⟨fu, rfl⟩ : ∃ g, fu = g + 1 := ⟨fu - 1, by omega⟩
    have e1 : zI (i : Int) + 1 = zI ((i + 1 : Nat) : Int) := by rw [show (1 : Int32) = zI 1 from rfl, zI_add, al_1]
    have e13 : (13 : Int32) + zI i = zI ((13 + i : Nat) : Int) := by rw [show (13 : Int32) = zI 13 from rfl, zI_add, la_13]
    obtain ⟨-, c1, c2, c3⟩ := hP.2.2.2.2.2.2.2.2.1 i (by omega)
    obtain ⟨τ'', k1, k2, k3⟩ := ih (i + 1) fu (cb_sI τ' 10 i (zI (hd i))) (scM_t hs (sc_10 _ _ _)) (fun j hh => by
      rw [sI_e]
      by_cases q : j = i
      · subst q; rw [upd_e]
      · rw [upd_n _ _ q]; exact hj j (by omega)) (by omega) (by omega)
    refine ⟨τ'', ?_, k2, k3⟩
    rw [f_X8_drawsBy_2, if_neg (by rw [show (6 : Int32) = zI 6 from rfl, zI_le (by omega) (by omega) (by omega) (by omega)]; omega), e13]
    simp (disch := omega) only [zI_ck, zI_clamp, Int.toNat_natCast, let_s, e1, hs.2 3 (by omega), c1]
    exact k1
theorem m_o59 (τ0 : cb_St) (S : Int32) (hT : rlT N Q σ τ0) (hP : rlP N Q σ 13 (τ0.1 3) n ml pk hd) (k : Nat) (hk : k ≤ 6) (hkn : k ≤ n) : ∀ (m i fu : Nat) (τ : cb_St), i + m = 6 ^ k → m < fu → scM τ0 τ → ∃ τ', f_X8_order_59 S fu τ (zI k) (zI i) = some (zI (rO k 0 (mF (TT Q pk (win τ0 S Q) k 0 hd) i m)), τ') ∧ scM τ0 τ' := by
  have hN := hT.1
  have hQ := hT.2.1
  have h7 := hT.2.2.2.2.2.1
  obtain ⟨q1, q2⟩ := p6 k hk
  have e1 : ∀ j : Nat, zI (j : Int) + 1 = zI ((j + 1 : Nat) : Int) := fun j => by rw [show (1 : Int32) = zI 1 from rfl, zI_add, al_1]
  intro m
  induction m with
  | zero =>
    intro i fu τ e hf hs
    obtain ⟨fu, rfl⟩ : ∃ g, fu = g + 1 := ⟨fu - 1, by omega⟩
    refine ⟨τ, ?_, hs⟩
    rw [f_X8_order_59, m_power τ k hk, bp_s, if_pos (by rw [zI_le (by omega) (by omega) (by omega) (by omega)]; omega), zI_m1]; rfl
  | succ m ih =>
    intro i fu τ e hf hs
    obtain ⟨fu, rfl⟩ : ∃ g, fu = g + 1 := ⟨fu - 1, by omega⟩
    rw [f_X8_order_59, m_power τ k hk, bp_s, if_neg (by rw [zI_le (by omega) (by omega) (by omega) (by omega)]; omega), mF_s]
    unfold f_X8_drawsBy f_X8_order_133
    obtain ⟨τ1, k1, k2, k3⟩ := m_db_2 (τ := τ0) (zI i) (zI k) hP 6 0 cb_fu τ hs (fun j h => absurd h (by omega)) (by omega) (by unfold cb_fu; omega)
    rw [show f_X8_drawsBy_2 (zI i) (zI k) cb_fu τ 0 = _ from k1, show zI (k : Int) - 1 = zI ((k : Int) - 1) from by rw [show (1 : Int32) = zI 1 from rfl, zI_sub]]
    obtain ⟨ρ, τ2, j1, j2, j3⟩ := m_db_39 τ0 (zI i) (zI k) S hT hP k i cb_fu τ1 0 (fun _ => false) hd hkn hk (by omega) (by unfold cb_fu; omega) k2 (fun p _ => b_0 p) k3 (fun p hp => ⟨(hP.2.2.2.2.2.2.2.2.1 p hp).2.2.1, (hP.2.2.2.2.2.2.2.2.1 p hp).2.2.2⟩) (fun _ _ _ => rfl) (fun _ _ h => absurd h Bool.false_ne_true)
    have ec : TT Q pk (PA τ0 S Q (fun _ => false) hd) k 0 hd i = TT Q pk (win τ0 S Q) k 0 hd i := by
      apply TT_c
      intro w'' _
      unfold PA
      rw [(alA_i (fun _ => false) w'').mpr (fun p _ h => absurd h Bool.false_ne_true), Bool.true_and]
      apply win_c
      intro p _
      unfold ovA
      rw [if_neg Bool.false_ne_true]
    rw [ec] at j3
    rw [j1, bi_s]
    simp only [let_s, e1]
    have hcont : ∀ τ', scM τ0 τ' → ∃ τ'', f_X8_order_59 S fu τ' (zI k) (zI ((i + 1 : Nat) : Int)) = some (zI (rO k 0 (mF (TT Q pk (win τ0 S Q) k 0 hd) (i + 1) m)), τ'') ∧ scM τ0 τ'' := fun τ' h => ih (i + 1) fu τ' (by omega) (by omega) h
    rcases j3 with ⟨hρ, hf⟩ | ⟨hρ, b', hb1, hb2, hw⟩
    · rw [hρ, if_pos rfl, hf, if_neg Bool.false_ne_true]
      exact hcont τ2 j2
    · rw [hρ, if_neg (show ¬ (1 : Int32) = 0 from by decide), hw]
      rw [m_allBeat (by rw [j2.1 7 (by omega)]; exact h7) hQ hN hb1 hb2 S, bp_s, sc_win j2]
      by_cases g : win τ0 S Q b' = true
      · rw [if_pos g, if_neg z10, if_pos g]
        refine ⟨τ2, ?_, j2⟩
        rw [show f_X8_order_92 S cb_fu τ2 (zI k) (zI i) 0 0 = _ from m_o92 S τ2 k i hk (by omega) k 0 cb_fu 0 (by omega) (by unfold cb_fu; omega)]
        have : rO k 0 (i : Int) = ((0 * 10 ^ k + FF k i : Nat) : Int) := by
          unfold rO; rw [if_neg (by omega), Int.toNat_natCast]
        rw [this, Nat.mod_eq_of_lt (by omega)]
      · rw [if_neg g, if_pos z00, if_neg g]
        exact hcont τ2 j2
/-- how many of the told persons are themselves -/
theorem s_or_24 (S : Int32) (hN : N ≤ 12) (hQ : Q ≤ 6) (σ0 : cb_St) (hP : rlP N Q σ0 13 (τ.1 3) n ml pk hd) (h5 : σ0.1 9 5 = zI Q) : ∀ (m i fu a : Nat) (σ : cb_St), scC σ0 σ → (∀ j, j < i → σ.1 1 j = zI (hd j)) → i + m = 6 → m < fu → a ≤ i → ∃ σ', scC σ0 σ' ∧ hasO σ' hd ∧ f_X7_order_24 S fu σ (zI a) (zI i) = cb_bp (f_J9_min_7cf53 (zI ((a + mC (fun p => decide (p < Q ∧ hd p = -1)) i m : Nat) : Int)) (zI n) σ') (fun r => cb_bi (f_X7_orderFrom cb_rd 0 r S 0 σ') (fun r_2 σ_3 => some (r_2, σ_3))) := by
  intro m
  induction m with
  | zero =>
    intro i fu a σ hs hj e hf ha
    obtain ⟨fu, rfl⟩ : ∃ g, fu = g + 1 := ⟨fu - 1, by omega⟩
    refine ⟨σ, hs, fun j hh => hj j (by omega), ?_⟩
    rw [f_X7_order_24, if_pos (by rw [show (6 : Int32) = zI 6 from rfl, zI_le (by omega) (by omega) (by omega) (by omega)]; omega), hs.2 13 (by omega) (by omega) (by omega), hP.2.2.1]
    rfl
  | succ m ih =>
    intro i fu a σ hs hj e hf ha
    obtain ⟨fu, rfl⟩ : ∃ g, fu = g + 1 := ⟨fu - 1, by omega⟩
    have e1 : ∀ j : Nat, zI (j : Int) + 1 = zI ((j + 1 : Nat) : Int) := fun j => by rw [show (1 : Int32) = zI 1 from rfl, zI_add, al_1]
    obtain ⟨c1, -, c2, c3⟩ := hP.2.2.2.2.2.2.2.2.1 i (by omega)
    have hs' := scC_t hs (sc_1 σ i (zI (hd i)))
    have hj' : ∀ j, j < i + 1 → (cb_sI σ 1 i (zI (hd i))).1 1 j = zI (hd j) := fun j hh => by
      rw [sI_e]
      by_cases q : j = i
      · subst q; rw [upd_e]
      · rw [upd_n _ _ q]; exact hj j (by omega)
    have cp : (zI (hd i) = -1) = (hd i = -1) := by
      rw [zI_m1]; exact zI_inj (by omega) (by omega) (by omega) (by omega)
    have cq : (zI (Q : Int) ≤ zI (i : Int)) = (Q ≤ i) := by
      rw [zI_le (by omega) (by omega) (by omega) (by omega)]; exact propext ⟨fun h => by omega, fun h => by omega⟩
    rw [f_X7_order_24, if_neg (by rw [show (6 : Int32) = zI 6 from rfl, zI_le (by omega) (by omega) (by omega) (by omega)]; omega), s_cardOf 13 σ i (by omega), bp_s, hs.2 15 (by omega) (by omega) (by omega), c1, mC_s]
    unfold f_X7_order_68
    simp (disch := omega) only [zI_ck, zI_clamp, Int.toNat_natCast, let_s, e1, hs'.2 9 (by omega) (by omega) (by omega), h5, sI_e, upd_e, cp, cq]
    by_cases g1 : Q ≤ i
    · rw [if_pos g1, decide_eq_false (by omega), if_neg Bool.false_ne_true, Nat.zero_add]
      exact ih (i + 1) fu a _ hs' hj' (by omega) (by omega) (by omega)
    · rw [if_neg g1]
      by_cases g2 : hd i = -1
      · rw [if_pos g2, decide_eq_true (by omega), if_pos rfl, ← Nat.add_assoc]
        exact ih (i + 1) fu (a + 1) _ hs' hj' (by omega) (by omega) (by omega)
      · rw [if_neg g2, decide_eq_false (by omega), if_neg Bool.false_ne_true, Nat.zero_add]
        exact ih (i + 1) fu a _ hs' hj' (by omega) (by omega) (by omega)
theorem mC_not (P : Nat → Bool) : ∀ (m i : Nat), mC P i m + mC (fun q => !(P q)) i m = m := by
  intro m
  induction m with
  | zero => intro i; rfl
  | succ m ih =>
    intro i
    have := ih (i + 1)
    rw [mC_s, mC_s]
    cases P i <;> simp <;> omega
theorem many_eq (hP : rlP N Q σ 13 (τ.1 3) n ml pk hd) (hQ : Q ≤ 6) : mC (bt (mS (fun j => decide (0 ≤ hd j)) 0 6 (zI 0))) 0 12 + mC (fun p => decide (p < Q ∧ hd p = -1)) 0 6 = Q := by
  have hh := hP.2.2.2.2.2.2.2.2.1
  have hq := hP.2.2.2.2.2.2.2.2.2.1
  have e1 : mC (bt (mS (fun j => decide (0 ≤ hd j)) 0 6 (zI 0))) 0 12 = mC (fun j => decide (0 ≤ hd j)) 0 6 := by
    rw [show (12 : Nat) = 6 + 6 from rfl, mC_add, mC_zero _ 6 (0 + 6) (fun q h1 h2 => by
      rw [mS_bt _ 6 0 _ (by omega) q (by omega), show bt (zI 0) q = false from b_0 q, decide_eq_false (show ¬ q < 0 + 6 by omega), Bool.and_false, Bool.false_and]; rfl), Nat.add_zero]
    exact mC_congr 6 0 (fun q _ h2 => bt_mS0 _ 6 q (by omega) (by omega))
  have e2 : mC (fun j => decide (0 ≤ hd j)) 0 6 = mC (fun j => decide (0 ≤ hd j)) 0 Q := by
    have : (6 : Nat) = Q + (6 - Q) := by omega
    rw [this, mC_add, mC_zero _ (6 - Q) (0 + Q) (fun q h1 h2 => decide_eq_false (by rw [hq q (by omega) (by omega)]; omega)), Nat.add_zero]
  have e3 : mC (fun p => decide (p < Q ∧ hd p = -1)) 0 6 = mC (fun j => !(decide (0 ≤ hd j))) 0 Q := by
    have : (6 : Nat) = Q + (6 - Q) := by omega
    rw [this, mC_add, mC_zero _ (6 - Q) (0 + Q) (fun q h1 h2 => decide_eq_false (by omega)), Nat.add_zero]
    refine mC_congr Q 0 (fun q _ h2 => ?_)
    obtain ⟨-, -, c2, -⟩ := hh q (by omega)
    rw [← decide_not, decide_eq_decide]; omega
  rw [e1, e2, e3]
  exact mC_not _ Q 0
theorem b1_Q : ∀ Q : Nat, Q < 7 → b1 Q = zI ((2 ^ Q : Nat) : Int) := by decide +kernel
theorem q_order (h : Rel σ τ) (x : Int32) : simI σ τ (f_X7_order x σ) (f_X8_order x τ) := by
  have h0 := h
  obtain ⟨N, Q, n, ml, pk, hd, u, v, hX, hP, hU, hS⟩ := h
  have hT := hX.1
  have hN := hT.1
  have hQ := hT.2.1
  have hn := hP.1
  obtain ⟨a, rfl, a1, a2⟩ := zI_ex x
  have h2Q : 1 ≤ 2 ^ Q ∧ 2 ^ Q ≤ 64 := ⟨Nat.pow_pos (by omega), Nat.pow_le_pow_right (by omega) hQ⟩
  have t12 : Int32.toNatClampNeg 12 = 12 := by decide
  have k12 : ∀ y, cb_ck (0 ≤ Int32.toInt 12 ∧ Int32.toInt 12 < 51) y = y := fun y => ck_t (β := Int32 × cb_St) y (by decide)
  unfold f_X7_order f_X8_order f_X7_order_17 f_X8_order_56
  rw [hT.2.2.2.2.1, hT.2.2.2.2.2.1, show (1 : Int32) <<< (zI (Q : Int) &&& 31) = _ from b1_Q Q (by omega), show zI ((2 ^ Q : Nat) : Int) - 1 = zI (((2 ^ Q : Nat) : Int) - 1) from by rw [show (1 : Int32) = zI 1 from rfl, zI_sub]]
  simp only [s_in, bp_s, k12, t12, hP.2.2.2.1, m_whoAre hT hP, m_bits, let_s]
  rw [zI_64 a1 a2, zI_64 (by omega) (by omega), l64_0]
  by_cases ha : 0 ≤ a ∧ a ≤ ((2 ^ Q : Nat) : Int) - 1
  · rw [if_pos ha, if_neg z10, if_neg (by rw [show (0 : Int32) = zI 0 from rfl, zI_lt (by omega) (by omega) (by omega) (by omega)]; omega), if_pos (by rw [zI_lt (by omega) (by omega) (by omega) (by omega)]; omega)]
    have hm := many_eq hP hQ
    obtain ⟨σ', f1, f2, f3⟩ := s_or_24 (zI a) hN hQ σ hP hT.2.2.2.2.1 6 0 cb_fu 0 σ (scC_r σ) (fun j h => absurd h (by omega)) (by omega) (by unfold cb_fu; omega) (by omega)
    rw [show f_X7_order_24 (zI a) cb_fu σ 0 0 = _ from f3, Nat.zero_add]
    generalize mC (fun p => decide (p < Q ∧ hd p = -1)) 0 6 = k at *
    generalize mC (bt (mS (fun j => decide (0 ≤ hd j)) 0 6 (zI 0))) 0 12 = c at *
    have ek : zI (Q : Int) - zI (c : Int) = zI (k : Int) := by rw [zI_sub]; congr 1; omega
    rw [ek, s_min _ (by omega) (by omega) (by omega) (by omega), bp_s]
    have hrg : rgO N hd := fun p hp => ⟨(hP.2.2.2.2.2.2.2.2.1 p hp).2.2.1, (hP.2.2.2.2.2.2.2.2.1 p hp).2.2.2⟩
    have fin : ∀ K : Nat, K ≤ 6 → K ≤ n → simI σ τ (cb_bi (f_X7_orderFrom cb_rd 0 (zI (K : Int)) (zI a) 0 σ') (fun r_2 σ_3 => some (r_2, σ_3))) (f_X8_order_59 (zI a) cb_fu τ (zI K) 0) := by
      intro K hK hKn
      have c := s_of (τ := τ) (Q := Q) (zI a) K hK hKn K 0 cb_rd 0 σ' hd (sc_T hT f1 (scM_r τ)) (sc_P hN hP f1 (scM_r τ)) f2 hrg (by omega) (by unfold cb_rd; omega) (by decide)
      rw [show f_X7_orderFrom cb_rd 0 (zI (K : Int)) (zI a) 0 σ' = _ from c, bi_s]
      obtain ⟨τ', g1, g2⟩ := m_o59 τ (zI a) hT hP K hK hKn (6 ^ K) 0 cb_fu τ (by omega) (by have := p6 K hK; unfold cb_fu; omega) (scM_r τ)
      exact ⟨_, _, _, rfl, g1, sc_Rel h0 f1 g2⟩
    by_cases hk : k ≤ n
    · by_cases hk2 : k = n
      · subst hk2
        rw [if_neg (by omega), if_pos (by rw [zI_le (by omega) (by omega) (by omega) (by omega)]; omega)]
        exact fin k (by omega) (by omega)
      · rw [if_neg (by omega), if_neg (by rw [zI_le (by omega) (by omega) (by omega) (by omega)]; omega)]
        exact fin k (by omega) hk
    · rw [if_pos (by omega), if_pos (by rw [zI_le (by omega) (by omega) (by omega) (by omega)]; omega)]
      exact fin n (by omega) (by omega)
  · rw [if_neg ha, if_pos z00]
    by_cases g : a < 0
    · rw [if_pos (by rw [show (0 : Int32) = zI 0 from rfl, zI_lt (by omega) (by omega) (by omega) (by omega)]; omega)]; exact sim_no h0
    · rw [if_neg (by rw [show (0 : Int32) = zI 0 from rfl, zI_lt (by omega) (by omega) (by omega) (by omega)]; omega), if_neg (by rw [zI_lt (by omega) (by omega) (by omega) (by omega)]; omega)]; exact sim_no h0
end OM
