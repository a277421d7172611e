/-! ===== order: the class ===== -/
def hasO (σ : cb_St) (w : Nat → Int) : Prop := ∀ p, p < 6 → σ.1 1 p = zI (w p)
def rgO (N : Nat) (w : Nat → Int) : Prop := ∀ p, p < 6 → -1 ≤ w p ∧ w p < N
theorem sc_1 (σ : cb_St) (i : Nat) (v : Int32) : scC σ (cb_sI σ 1 i v) := ⟨sI_2 _ _ _ _, fun q h _ _ => by rw [sI_n _ _ _ h]⟩
theorem sI_back (σ : cb_St) (k i : Nat) (a v : Int32) (h : σ.1 k i = v) : cb_sI (cb_sI σ k i a) k i v = σ := by
  have e : cb_sI (cb_sI σ k i a) k i v = cb_sI σ k i v := by
    show cb_sA (cb_sI σ k i a) k (upd ((cb_sI σ k i a).1 k) i v) = cb_sA σ k (upd (σ.1 k) i v)
    rw [sA_sI, sI_e]
    have : upd (upd (σ.1 k) i a) i v = upd (σ.1 k) i v := by
      funext j
      by_cases hj : j = i
      · subst hj; rw [upd_e, upd_e]
      · rw [upd_n _ _ hj, upd_n _ _ hj, upd_n _ _ hj]
    rw [this]
  rw [e, sI_id σ k i v h]
theorem hasO_u {σ : cb_St} {w : Nat → Int} (h : hasO σ w) (p : Nat) (c : Int) : hasO (cb_sI σ 1 p (zI c)) (ui w p c) := by
  intro q hq
  rw [sI_e]
  by_cases e : q = p
  · subst e; rw [upd_e, ui_e]
  · rw [upd_n _ _ e, ui_n _ _ e]; exact h q hq
theorem rgO_u {N : Nat} {w : Nat → Int} (h : rgO N w) (p : Nat) (c : Int) (h1 : -1 ≤ c) (h2 : c < N) : rgO N (ui w p c) := by
  intro q hq
  by_cases e : q = p
  · subst e; rw [ui_e]; exact ⟨h1, h2⟩
  · rw [ui_n _ _ e]; exact h q hq
section OC
variable {N Q : Nat} {σ σ' τ τ' : cb_St} {n ml : Nat} {pk : Nat → Nat} {hd : Nat → Int} {w : Nat → Int}
theorem s_wouldBe (ho : hasO σ w) (p : Nat) (hp : p < 6) : f_X7_wouldBe (zI p) σ = some (zI (w p)) := by
  unfold f_X7_wouldBe f_X7_wouldBe_10; simp (disch := omega) only [zI_lit, zI_neg, zI_add, zI_sub, zI_mul, zI_lt, zI_le, zI_inj, zI_ck, zI_clamp, ← Int.natCast_add, la_1, al_1, la_2, al_2, la_3, al_3, la_4, al_4, la_5, al_5, la_6, al_6, la_7, al_7, la_8, al_8, la_9, al_9, la_10, al_10, la_11, al_11, la_12, al_12, la_13, al_13, la_16, al_16, la_19, al_19, la_20, al_20, la_24, al_24, la_25, al_25, la_26, al_26, la_27, al_27, la_51, al_51, la_52, al_52, la_0, Int.toNat_natCast, bp_s, let_s, bi_s, bv_s, b1_f]
  rw [if_neg (by omega), if_pos (by omega), ho p hp]
theorem bit_1 (S : Int32) (p : Nat) (hp : p < 32) : ((S >>> (zI (p : Int) &&& 31)) &&& 1 = 1) = (bt S p = true) := by
  rw [bit1 S p hp]; cases bt S p <;> simp
theorem bit_0 (S : Int32) (p : Nat) (hp : p < 32) : ((S >>> (zI (p : Int) &&& 31)) &&& 1 = 0) = (bt S p = false) := by
  rw [bit1 S p hp]; cases bt S p <;> simp
theorem s_setWins_15 (hT : rlT N Q σ τ) (ho : hasO σ w) (hr : rgO N w) (S : Int32) (K : Int32 → Option Int32) (p : Nat) (hp : p < Q) : ∀ (m q fu : Nat), q + m = Q → m < fu → f_X7_setWins_15 K S σ fu (zI p) (zI q) = if mA (wi1 τ S w p) q m then K (zI ((p + 1 : Nat) : Int)) else some (zI 0) := by
  have hQ := hT.2.1
  have h5 := hT.2.2.2.2.1
  have e1 : ∀ j : Nat, zI (j : Int) + 1 = zI ((j + 1 : Nat) : Int) := fun j => by rw [show (1 : Int32) = zI 1 from rfl, zI_add, al_1]
  intro m
  induction m with
  | zero =>
    intro q fu e hf
    obtain ⟨fu, rfl⟩ : ∃ g, fu = g + 1 := ⟨fu - 1, by omega⟩
    rw [f_X7_setWins_15, h5, if_pos (by rw [zI_le (by omega) (by omega) (by omega) (by omega)]; omega), let_s, e1]; rfl
  | succ m ih =>
    intro q fu e hf
    obtain ⟨fu, rfl⟩ : ∃ g, fu = g + 1 := ⟨fu - 1, by omega⟩
    obtain ⟨r1, r2⟩ := hr p (by omega)
    obtain ⟨r3, r4⟩ := hr q (by omega)
    rw [f_X7_setWins_15, h5, if_neg (by rw [zI_le (by omega) (by omega) (by omega) (by omega)]; omega), mA_s]
    unfold f_X7_setWins_47 f_X7_setWins_48 f_X7_setWins_77
    rw [s_wouldBe ho p (by omega), s_wouldBe ho q (by omega)]
    simp only [bp_s, let_s, e1, s_between hT (w p) (w q) r1 r2 r3 r4, ih (q + 1) fu (by omega) (by omega), bit_1 S p (by omega), bit_0 S q (by omega), if_true, if_neg (show ¬ (1 : Int32) = 0 from by decide)]
    rw [show wi1 τ S w p q = (!(bt S p) || (bt S q || decide (mT τ (w p) (w q) = zI 0))) from rfl]
    cases bt S p
    · simp
    · cases bt S q
      · by_cases h : mT τ (w p) (w q) = zI 0
        · rw [decide_eq_true h, if_pos rfl, if_pos rfl, if_pos (show mT τ (w p) (w q) = 0 from h)]; rfl
        · rw [decide_eq_false h, if_pos rfl, if_pos rfl, if_neg (show ¬ mT τ (w p) (w q) = 0 from h)]; rfl
      · simp
theorem s_setWins_2 (hT : rlT N Q σ τ) (ho : hasO σ w) (hr : rgO N w) (S : Int32) : ∀ (m p fu : Nat), p + m = Q → m < fu → f_X7_setWins_2 S σ fu (zI p) = some (if mA (fun p => mA (wi1 τ S w p) 0 Q) p m then zI 1 else zI 0) := by
  have hQ := hT.2.1
  have h5 := hT.2.2.2.2.1
  intro m
  induction m with
  | zero =>
    intro p fu e hf
    obtain ⟨fu, rfl⟩ : ∃ g, fu = g + 1 := ⟨fu - 1, by omega⟩
    rw [f_X7_setWins_2, h5, if_pos (by rw [zI_le (by omega) (by omega) (by omega) (by omega)]; omega)]; rfl
  | succ m ih =>
    intro p fu e hf
    obtain ⟨fu, rfl⟩ : ∃ g, fu = g + 1 := ⟨fu - 1, by omega⟩
    rw [f_X7_setWins_2, h5, if_neg (by rw [zI_le (by omega) (by omega) (by omega) (by omega)]; omega), mA_s]
    rw [show f_X7_setWins_15 (f_X7_setWins_2 S σ fu) S σ cb_fu (zI p) 0 = _ from s_setWins_15 hT ho hr S (f_X7_setWins_2 S σ fu) p (by omega) Q 0 cb_fu (by omega) (by unfold cb_fu; omega)]
    rw [ih (p + 1) fu (by omega) (by omega)]
    cases mA (wi1 τ S w p) 0 Q
    · rfl
    · rfl
theorem s_setWins (hT : rlT N Q σ τ) (ho : hasO σ w) (hr : rgO N w) (S : Int32) : f_X7_setWins S σ = some (if win τ S Q w then zI 1 else zI 0) :=
  s_setWins_2 hT ho hr S Q 0 cb_fu (by omega) (by have := hT.2.1; unfold cb_fu; omega)
/-- nothing that is settled spoils it -/
def nh1 (τ : cb_St) (S : Int32) (w : Nat → Int) (p q : Nat) : Bool := (bt S q == bt S p) || (decide (w q = -1) || decide (mT τ (w p) (w q) = if bt S p then zI 0 else zI 1))
theorem s_nh_21 (hT : rlT N Q σ τ) (ho : hasO σ w) (hr : rgO N w) (S : Int32) (p : Nat) (hp : p < 6) : ∀ (m q fu : Nat), q + m = Q → m < fu → f_X7_isNoHindrance_21 (zI p) S σ fu (if bt S p then 1 else 0) (if bt S p then zI 0 else zI 1) (zI q) = some (if mA (nh1 τ S w p) q m then zI 1 else zI 0) := by
  have hQ := hT.2.1
  have h5 := hT.2.2.2.2.1
  have e1 : ∀ j : Nat, zI (j : Int) + 1 = zI ((j + 1 : Nat) : Int) := fun j => by rw [show (1 : Int32) = zI 1 from rfl, zI_add, al_1]
  intro m
  induction m with
  | zero =>
    intro q fu e hf
    obtain ⟨fu, rfl⟩ : ∃ g, fu = g + 1 := ⟨fu - 1, by omega⟩
    rw [f_X7_isNoHindrance_21, h5, if_pos (by rw [zI_le (by omega) (by omega) (by omega) (by omega)]; omega)]; rfl
  | succ m ih =>
    intro q fu e hf
    obtain ⟨fu, rfl⟩ : ∃ g, fu = g + 1 := ⟨fu - 1, by omega⟩
    obtain ⟨r1, r2⟩ := hr p (by omega)
    obtain ⟨r3, r4⟩ := hr q (by omega)
    have hN := hT.1
    rw [f_X7_isNoHindrance_21, h5, if_neg (by rw [zI_le (by omega) (by omega) (by omega) (by omega)]; omega), mA_s]
    unfold f_X7_isNoHindrance_57 f_X7_isNoHindrance_58 f_X7_isNoHindrance_90
    rw [s_wouldBe ho p (by omega), s_wouldBe ho q (by omega), bit1 S q (by omega)]
    simp only [bp_s, let_s, e1, s_between hT (w p) (w q) r1 r2 r3 r4, ih (q + 1) fu (by omega) (by omega), if_true, if_neg (show ¬ (1 : Int32) = 0 from by decide)]
    have cq : (zI (w q) = -1) = (w q = -1) := by
      rw [zI_m1]; exact zI_inj (by omega) (by omega) (by omega) (by omega)
    simp only [cq]
    have hs : ((if bt S q = true then (1 : Int32) else 0) = if bt S p = true then 1 else 0) = ((bt S q == bt S p) = true) := by
      cases bt S q <;> cases bt S p <;> decide
    simp only [hs]
    rw [show nh1 τ S w p q = ((bt S q == bt S p) || (decide (w q = -1) || decide (mT τ (w p) (w q) = if bt S p then zI 0 else zI 1))) from rfl]
    by_cases g1 : (bt S q == bt S p) = true
    · rw [if_pos g1, g1]; rfl
    · rw [if_neg g1, Bool.eq_false_iff.mpr g1]
      by_cases g2 : w q = -1
      · rw [if_pos g2, decide_eq_true g2]; rfl
      · rw [if_neg g2, decide_eq_false g2]
        by_cases g3 : mT τ (w p) (w q) = if bt S p = true then zI 0 else zI 1
        · rw [if_pos g3, decide_eq_true g3]; rfl
        · rw [if_neg g3, decide_eq_false g3]; rfl
theorem s_nh (hT : rlT N Q σ τ) (ho : hasO σ w) (hr : rgO N w) (S : Int32) (p : Nat) (hp : p < 6) : f_X7_isNoHindrance (zI p) S σ = some (if mA (nh1 τ S w p) 0 Q then zI 1 else zI 0) := by
  have h := s_nh_21 hT ho hr S p hp Q 0 cb_fu (by omega) (by have := hT.2.1; unfold cb_fu; omega)
  unfold f_X7_isNoHindrance f_X7_isNoHindrance_16
  rw [let_s, bit1 S p (by omega)]
  cases hb : bt S p
  · rw [hb] at h; exact h
  · rw [hb] at h; exact h
theorem nh_no (S : Int32) (p : Nat) (hp : p < Q) (hw : w p ≠ -1) (h : mA (nh1 τ S w p) 0 Q = false) : ∀ w'' : Nat → Int, (∀ q, w q ≠ -1 → w'' q = w q) → win τ S Q w'' = false := by
  intro w'' hx
  have : ¬ ∀ j, 0 ≤ j → j < 0 + Q → nh1 τ S w p j = true := by
    intro hh; rw [(mA_i _ Q 0).mpr hh] at h; exact absurd h (by decide)
  obtain ⟨q, hq⟩ := Classical.not_forall.mp this
  have hq2 : q < Q ∧ ¬ nh1 τ S w p q = true := by
    refine ⟨?_, ?_⟩
    · exact Classical.byContradiction fun g => hq (fun _ g2 => absurd g2 (by omega))
    · exact fun g => hq (fun _ _ => g)
  obtain ⟨q1, q2⟩ := hq2
  unfold nh1 at q2
  rw [Bool.or_eq_true, Bool.or_eq_true, decide_eq_true_eq, decide_eq_true_eq] at q2
  have g2 : w q ≠ -1 := fun g => q2 (Or.inr (Or.inl g))
  have g3 : ¬ mT τ (w p) (w q) = if bt S p then zI 0 else zI 1 := fun g => q2 (Or.inr (Or.inr g))
  have g1 : ¬ (bt S q == bt S p) = true := fun g => q2 (Or.inl g)
  have ep := hx p hw
  have eq := hx q g2
  cases hp' : bt S p
  · rw [hp'] at g1 g3
    have hq' : bt S q = true := by cases hb : bt S q <;> simp_all
    apply win_no q p q1 hp
    unfold wi1
    rw [hq', hp', ep, eq]
    have := mT_sw τ (w q) (w p)
    have g4 : ¬ mT τ (w q) (w p) = zI 0 := fun g => g3 (this.mp g)
    rw [decide_eq_false g4]; rfl
  · rw [hp'] at g1 g3
    have hq' : bt S q = false := by cases hb : bt S q <;> simp_all
    apply win_no p q hp q1
    unfold wi1
    rw [hq', hp', ep, eq]
    rw [decide_eq_false (show ¬ mT τ (w p) (w q) = zI 0 from g3)]; rfl
/-- the number of an order, or -1 -/
def rO (j fig : Nat) (a : Int) : Int := if a = -1 then -1 else ((fig * 10 ^ j + FF j a.toNat : Nat) : Int)
theorem s_of_29 (hT : rlT N Q σ τ) (hP : rlP N Q σ 13 (τ.1 3) n ml pk hd) (ho : hasO σ w) (hr : rgO N w) (S : Int32) (k t j fig : Nat) (hk : k ≤ 6) (hkn : k ≤ n) (htj : t + (j + 1) = k) (hfig : fig < 10 ^ t) (Rc : cb_St → Int32 → Int32 → Int32 → Int32 → Option (Int32 × cb_St)) (hRc : ∀ p, p < Q → w p = -1 → Rc (cb_sI σ 1 p (zI (pk t))) (zI ((t + 1 : Nat) : Int)) (zI k) S (zI ((10 * fig + p + 1 : Nat) : Int)) = some (zI (rO j (10 * fig + p + 1) (mF (TT Q pk (win τ S Q) j (t + 1) (ui w p (pk t))) 0 (6 ^ j))), cb_sI σ 1 p (zI (pk t)))) : ∀ (m p fu : Nat), p + m = Q → m < fu → f_X7_orderFrom_29 Rc (zI t) (zI k) S (zI fig) fu σ (zI p) = some (zI (rO (j + 1) fig (mF (TT Q pk (win τ S Q) (j + 1) t w) (p * 6 ^ j) ((6 - p) * 6 ^ j))), σ) := by
  have hN := hT.1
  have hQ := hT.2.1
  have hn := hP.1
  have h5 := hT.2.2.2.2.1
  have e1 : ∀ j : Nat, zI (j : Int) + 1 = zI ((j + 1 : Nat) : Int) := fun j => by rw [show (1 : Int32) = zI 1 from rfl, zI_add, al_1]
  obtain ⟨d1, -, d3⟩ := hP.2.2.2.2.2.2.2.1 t (by omega)
  intro m
  induction m with
  | zero =>
    intro p fu e hf
    obtain ⟨fu, rfl⟩ : ∃ g, fu = g + 1 := ⟨fu - 1, by omega⟩
    have e0 : p = Q := by omega
    subst e0
    rw [f_X7_orderFrom_29, h5, if_pos (by rw [zI_le (by omega) (by omega) (by omega) (by omega)]; omega), TT_end p pk _ j t w hQ]
    unfold f_X7_orderFrom_132
    rw [zI_m1]; rfl
  | succ m ih =>
    intro p fu e hf
    obtain ⟨fu, rfl⟩ : ∃ g, fu = g + 1 := ⟨fu - 1, by omega⟩
    obtain ⟨r1, r2⟩ := hr p (by omega)
    have hop := ho p (by omega)
    have cp : (zI (w p) = -1) = (w p = -1) := by
      rw [zI_m1]; exact zI_inj (by omega) (by omega) (by omega) (by omega)
    rw [f_X7_orderFrom_29, h5, if_neg (by rw [zI_le (by omega) (by omega) (by omega) (by omega)]; omega), if_neg (by rw [show (6 : Int32) = zI 6 from rfl, zI_le (by omega) (by omega) (by omega) (by omega)]; omega), TT_blk Q pk _ j t w p (by omega)]
    unfold f_X7_orderFrom_107 f_X7_orderFrom_126
    simp (disch := omega) only [zI_ck, zI_clamp, Int.toNat_natCast, let_s, e1, hop, cp]
    by_cases g : w p = -1
    · rw [if_pos g, s_cardAt 13 σ hP.2.2.1 (by omega) t (by omega), bp_s, d1]
      have hc := sc_1 σ p (zI (pk t : Int))
      have hT2 := sc_T hT hc (scM_r τ)
      have ho2 := hasO_u ho p (pk t : Int)
      have hr2 := rgO_u hr p (pk t : Int) (by omega) (by omega)
      rw [s_nh hT2 ho2 hr2 S p (by omega), bp_s]
      have hb := sI_back σ 1 p (zI (pk t : Int)) (-1) (by rw [hop, g, zI_m1])
      have ef : ((10 : Int32) * zI fig) + zI p + 1 = zI ((10 * fig + p + 1 : Nat) : Int) := by
        rw [show (10 : Int32) = zI ((10 : Nat) : Int) from rfl, zI_mul, zI_add, ← Int.natCast_mul, ← Int.natCast_add, e1]
      rw [ef, hRc p (by omega) g, bi_s, hb, ih (p + 1) fu (by omega) (by omega), if_pos trivial]
      by_cases h : mA (nh1 τ S (ui w p (pk t)) p) 0 Q = true
      · rw [if_pos h, if_neg z10]
        generalize hA : mF (TT Q pk (win τ S Q) j (t + 1) (ui w p (pk t))) 0 (6 ^ j) = A
        have hrA := mF_rng (TT Q pk (win τ S Q) j (t + 1) (ui w p (pk t))) (6 ^ j) 0
        rw [hA] at hrA
        by_cases hA1 : A = -1
        · rw [hA1]
          rw [if_pos (show zI (rO j (10 * fig + p + 1) (-1)) = -1 from by rw [zI_m1]; rfl), if_neg (by intro q; exact q.2.2 rfl)]
        · obtain ⟨a, ha⟩ := Int.eq_ofNat_of_zero_le (show 0 ≤ A by omega)
          have hle : FF j a < 10 ^ j := FF_lt j a (by omega)
          obtain ⟨k1, k2⟩ := blk j p a (by omega)
          have ev : (10 * fig + p + 1) * 10 ^ j + FF j a = fig * 10 ^ (j + 1) + FF (j + 1) (p * 6 ^ j + a) := by
            rw [FF_s, k1, k2, Nat.pow_succ]
            generalize 10 ^ j = X
            grind
          have hbd : fig * 10 ^ (j + 1) + FF (j + 1) (p * 6 ^ j + a) < 10 ^ 6 := by
            have hF : FF (j + 1) (p * 6 ^ j + a) < 10 ^ (j + 1) := FF_lt (j + 1) _ (by
              have : (p + 1) * 6 ^ j ≤ 6 * 6 ^ j := Nat.mul_le_mul_right _ (by omega)
              rw [Nat.add_mul, Nat.one_mul] at this
              rw [Nat.pow_succ]; omega)
            have h1 : (fig + 1) * 10 ^ (j + 1) ≤ 10 ^ t * 10 ^ (j + 1) := Nat.mul_le_mul_right _ hfig
            rw [← Nat.pow_add, Nat.add_mul, Nat.one_mul] at h1
            have h2 : 10 ^ (t + (j + 1)) ≤ 10 ^ 6 := Nat.pow_le_pow_right (by omega) (by omega)
            omega
          have ev1 : rO j (10 * fig + p + 1) A = ((fig * 10 ^ (j + 1) + FF (j + 1) (p * 6 ^ j + a) : Nat) : Int) := by
            unfold rO; rw [if_neg hA1, ha, Int.toNat_natCast, ev]
          have ev2 : rO (j + 1) fig (((p * 6 ^ j : Nat) : Int) + A) = ((fig * 10 ^ (j + 1) + FF (j + 1) (p * 6 ^ j + a) : Nat) : Int) := by
            have e9 : ((p * 6 ^ j : Nat) : Int) + A = ((p * 6 ^ j + a : Nat) : Int) := by rw [ha, Int.natCast_add]
            unfold rO; rw [e9, if_neg (by omega), Int.toNat_natCast]
          rw [if_pos (show p < Q ∧ w p = -1 ∧ ¬ A = -1 from ⟨by omega, g, hA1⟩), ev1, ev2]
          have hbd' : fig * 10 ^ (j + 1) + FF (j + 1) (p * 6 ^ j + a) < 1000000 := hbd
          rw [if_neg (by rw [zI_m1, zI_inj (by omega) (by omega) (by omega) (by omega)]; omega)]
      · have hf2 : mA (nh1 τ S (ui w p (pk t)) p) 0 Q = false := Bool.eq_false_iff.mpr h
        rw [if_neg h, if_pos z00]
        have hno := nh_no (Q := Q) S p (by omega) (by rw [ui_e]; omega) hf2
        have hA : mF (TT Q pk (win τ S Q) j (t + 1) (ui w p (pk t))) 0 (6 ^ j) = -1 := mF_false _ _ (fun x _ _ => TT_n j (t + 1) _ x hno)
        rw [if_neg (by intro q; exact q.2.2 hA)]
    · rw [if_neg g, ih (p + 1) fu (by omega) (by omega), if_neg (by intro q; exact g q.2.1)]
theorem s_of (S : Int32) (k : Nat) (hk : k ≤ 6) (hkn : k ≤ n) : ∀ (j t d fig : Nat) (σ : cb_St) (w : Nat → Int), rlT N Q σ τ → rlP N Q σ 13 (τ.1 3) n ml pk hd → hasO σ w → rgO N w → t + j = k → j < d → fig < 10 ^ t → f_X7_orderFrom d (zI t) (zI k) S (zI fig) σ = some (zI (rO j fig (mF (TT Q pk (win τ S Q) j t w) 0 (6 ^ j))), σ) := by
  intro j
  induction j with
  | zero =>
    intro t d fig σ w hT hP ho hr e hd hfig
    obtain ⟨d, rfl⟩ : ∃ g, d = g + 1 := ⟨d - 1, by omega⟩
    rw [f_X7_orderFrom]
    unfold f_X7_orderFrom_0 f_X7_orderFrom_11
    rw [if_pos (by rw [zI_le (by omega) (by omega) (by omega) (by omega)]; omega), s_setWins hT ho hr S, bp_s]
    show _ = some (zI (rO 0 fig (if win τ S Q w then ((0 : Nat) : Int) else -1)), σ)
    by_cases h : win τ S Q w = true
    · rw [if_pos h, if_neg z10, if_pos h]
      have : rO 0 fig ((0 : Nat) : Int) = (fig : Int) := by
        unfold rO; rw [if_neg (by omega), Int.toNat_natCast]; show ((fig * 1 + 0 : Nat) : Int) = _; omega
      rw [this]
    · rw [if_neg h, if_pos z00, if_neg h, zI_m1]; rfl
  | succ j ih =>
    intro t d fig σ w hT hP ho hr e hd hfig
    obtain ⟨d, rfl⟩ : ∃ g, d = g + 1 := ⟨d - 1, by omega⟩
    have hN := hT.1
    have hQ := hT.2.1
    have hn := hP.1
    obtain ⟨d1, -, d3⟩ := hP.2.2.2.2.2.2.2.1 t (by omega)
    rw [f_X7_orderFrom]
    unfold f_X7_orderFrom_0
    rw [if_neg (by rw [zI_le (by omega) (by omega) (by omega) (by omega)]; omega), if_pos (by rw [show (6 : Int32) = zI 6 from rfl, zI_lt (by omega) (by omega) (by omega) (by omega)]; omega)]
    have h29 := s_of_29 hT hP ho hr S k t j fig hk hkn e hfig (fun σ x1 x2 x3 x4 => f_X7_orderFrom d x1 x2 x3 x4 σ) (fun p hp hw => by
      have hc := sc_1 σ p (zI (pk t : Int))
      refine ih (t + 1) d (10 * fig + p + 1) _ _ (sc_T hT hc (scM_r τ)) (sc_P hN hP hc (scM_r τ)) (hasO_u ho p _) (rgO_u hr p _ (by omega) (by omega)) (by omega) (by omega) ?_
      rw [Nat.pow_succ]; omega) Q 0 cb_fu (by omega) (by unfold cb_fu; omega)
    have e0 : (0 : Nat) * 6 ^ j = 0 := Nat.zero_mul _
    have e6 : (6 - 0) * 6 ^ j = 6 ^ (j + 1) := by rw [Nat.pow_succ, Nat.mul_comm]
    rw [e0, e6] at h29
    exact h29
end OC
