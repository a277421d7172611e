/-! ===== a clause of the text on both sides ===== -/
section CL
variable {T : Nat → Nat} {L : Nat} {σ0 τ0 σ τ σ' τ' : cb_St} {a k m : Nat}
theorem lt_eqM (h : txM T L τ) (a : Nat) (c : Nat) (hc : c < 256) : (lt T L a = zI (c : Int)) = (a < L ∧ T a = c) := by
  unfold lt
  by_cases g : a < L
  · have := (h.2.2 a g).2
    rw [if_pos g, zI_inj (by omega) (by omega) (by omega) (by omega)]
    exact propext ⟨fun e => ⟨g, by omega⟩, fun e => by omega⟩
  · rw [if_neg g, zI_m1, zI_inj (by omega) (by omega) (by omega) (by omega)]
    exact propext ⟨fun e => absurd e (by omega), fun e => absurd e.1 g⟩
theorem m_161_n (τ : cb_St) (f : Nat) (hf : 1 ≤ f) (hf4 : f ≤ 4) : f_X8_takeClause_161 τ (zI f) = some (zI f, cb_sI τ 0 13 (τ.1 0 13 + 1)) := by
  unfold f_X8_takeClause_161 f_X8_takeClause_187
  rw [if_neg (by rw [show (0 : Int32) = zI 0 from rfl, zI_inj (by omega) (by omega) (by omega) (by omega)]; omega), let_s]
theorem m_161_0 (h : txM T L τ) {e : Nat} (h13 : τ.1 0 13 = zI e) (he : e ≤ L) : f_X8_takeClause_161 τ 0 = if skp T L e < L ∧ T (skp T L e) = 59 then some (0, cb_sI τ 0 13 (zI ((skp T L e + 1 : Nat) : Int))) else some (zI ((1 : Nat) : Int), cb_sI (cb_sI τ 0 13 (zI (skp T L e : Nat))) 0 12 (zI (skp T L e : Nat))) := by
  have e1 : zI (skp T L e : Nat) + 1 = zI ((skp T L e + 1 : Nat) : Int) := by rw [show (1 : Int32) = zI 1 from rfl, zI_add, al_1]
  unfold f_X8_takeClause_161 f_X8_takeClause_187 f_X8_fails
  rw [if_pos rfl, m_here h h13 he, bi_s, sI_i, let_s, let_s, bi_s, e1, sI_sI]
  simp only [show (59 : Int32) = zI ((59 : Nat) : Int) from rfl, lt_eqM h _ 59 (by omega)]
  rfl
theorem s_hasTold4 (K v : Nat) (hv : v < 52) (σ : cb_St) : f_X6_hasTold K (zI v) σ = some (if bL (σ.2 K) v then zI 1 else zI 0) := by
  unfold f_X6_hasTold
  simp only [lg_cmp_0, bL_bit _ v hv]
  by_cases h : bL (σ.2 K) v = true
  · rw [if_pos h, if_pos h]; rfl
  · rw [if_neg h, if_neg h]; rfl
def dup (τ : cb_St) (k j : Nat) : Bool := decide (τ.1 6 j = τ.1 6 k) && decide (τ.1 7 j = τ.1 7 k)
theorem m_tc_50 (τ : cb_St) (k : Nat) (hk : k < 12) : ∀ (n i fu : Nat), i + n = k → n < fu → f_X8_takeCard_50 fu τ (zI k) 0 (zI i) = if mO (dup τ k) i n then some (4, cb_sI τ 0 12 (τ.1 0 15)) else some (0, τ) := by
  intro n
  induction n with
  | zero =>
    intro i fu e hf
    obtain ⟨fu, rfl⟩ : ∃ g, fu = g + 1 := ⟨fu - 1, by omega⟩
    rw [f_X8_takeCard_50, if_pos (by rw [zI_le (by omega) (by omega) (by omega) (by omega)]; omega)]
    rfl
  | succ n ih =>
    intro i fu e hf
    obtain ⟨fu, rfl⟩ : ∃ g, fu = g + 1 := ⟨fu - 1, by omega⟩
    have e1 : zI (i : Int) + 1 = zI ((i + 1 : Nat) : Int) := by rw [show (1 : Int32) = zI 1 from rfl, zI_add, al_1]
    rw [f_X8_takeCard_50, if_neg (by rw [zI_le (by omega) (by omega) (by omega) (by omega)]; omega), if_pos rfl, mO_s]
    unfold f_X8_takeCard_99 f_X8_fails
    simp (disch := omega) only [zI_ck, zI_clamp, Int.toNat_natCast, let_s, bi_s, e1, ih (i + 1) fu (by omega) (by omega)]
    rw [show dup τ k i = (decide (τ.1 6 i = τ.1 6 k) && decide (τ.1 7 i = τ.1 7 k)) from rfl]
    by_cases g1 : τ.1 6 i = τ.1 6 k
    · rw [if_pos g1, decide_eq_true g1]
      by_cases g2 : τ.1 7 i = τ.1 7 k
      · rw [if_pos g2, decide_eq_true g2]; rfl
      · rw [if_neg g2, decide_eq_false g2]; rfl
    · rw [if_neg g1, decide_eq_false g1]; rfl
theorem m_tc_50n (τ : cb_St) (x : Int32) (f : Nat) (hf : 1 ≤ f) (hf4 : f ≤ 4) : f_X8_takeCard_50 cb_fu τ x (zI f) 0 = some (zI f, τ) := by
  obtain ⟨gg, hgg⟩ : ∃ g, cb_fu = g + 1 := ⟨cb_fu - 1, by unfold cb_fu; omega⟩
  rw [hgg, f_X8_takeCard_50]
  unfold f_X8_takeCard_105
  have c : ¬ zI (f : Int) = 0 := by rw [show (0 : Int32) = zI 0 from rfl, zI_inj (by omega) (by omega) (by omega) (by omega)]; omega
  rw [if_neg c]
  exact ite_self _
theorem bL_or (x : Int64) (v : Nat) (hv : v < 52) (j : Nat) (hj : j < 52) : bL (x ||| ((1 : Int64) <<< (Int32.toInt64 (zI v) &&& 63))) j = (bL x j || decide (j = v)) := by
  unfold bL
  rw [Int64.toBitVec_or, BitVec.getLsbD_or]
  congr 1
  rw [Int64.toBitVec_shiftLeft, BitVec.shiftLeft_eq', bit64_0 v hv, BitVec.getLsbD_shiftLeft]
  show (decide (j < 64) && !decide (j < v) && (1#64).getLsbD (j - v)) = decide (j = v)
  rw [BitVec.getLsbD_one]
  by_cases e : j = v
  · subst e; simp; omega
  · have h1 : decide (j = v) = false := decide_eq_false e
    rw [h1]
    by_cases g : j < v
    · simp [g]
    · have : ¬ (j - v = 0) := by omega
      simp [this]
theorem dt_c (h : dtR σ τ k m) (s4 : σ'.1 4 = σ.1 4) (s5 : σ'.1 5 = σ.1 5) (s6 : σ'.1 6 = σ.1 6) (sL : σ'.2 4 = σ.2 4) (t0 : ∀ j, (j = 16 ∨ j = 18 ∨ j = 21) → τ'.1 0 j = τ.1 0 j) (t5 : τ'.1 5 = τ.1 5) (t6 : τ'.1 6 = τ.1 6) (t7 : τ'.1 7 = τ.1 7) : dtR σ' τ' k m := by
  unfold dtR at h ⊢
  rw [s4, s5, s6, sL, t0 16 (by omega), t0 18 (by omega), t0 21 (by omega), t5, t6, t7]
  exact h
theorem dt_add (h : dtR σ τ k m) (hk : k < 12) (r q : Nat) (h1 : 1 ≤ r) (h2 : r ≤ 13) (h3 : q ≤ 3) (s4 : σ'.1 4 = upd (σ.1 4) 4 (zI ((k + 1 : Nat) : Int))) (s5 : σ'.1 5 = upd (σ.1 5) k (zI r)) (s6 : σ'.1 6 = upd (σ.1 6) k (zI q)) (sL : ∀ j, j < 52 → bL (σ'.2 4) j = (bL (σ.2 4) j || decide (j + 1 = 13 * q + r))) (t16 : τ'.1 0 16 = τ.1 0 16) (t18 : τ'.1 0 18 = zI ((k + 1 : Nat) : Int)) (t21 : τ'.1 0 21 = τ.1 0 21) (t5 : τ'.1 5 = τ.1 5) (t6 : τ'.1 6 = upd (τ.1 6) k (zI r)) (t7 : τ'.1 7 = upd (τ.1 7) k (zI q)) : dtR σ' τ' (k + 1) m := by
  obtain ⟨⟨a1, a2⟩, ⟨b1, b2, b3⟩, ⟨c1, c2, c3, c4, c5, c6⟩, d, e⟩ := h
  refine ⟨⟨by rw [s4, upd_n _ _ (by decide)]; exact a1, by rw [t16]; exact a2⟩, ⟨by rw [s4, upd_n _ _ (by decide), t5]; exact b1, by rw [s4, upd_n _ _ (by decide), t5]; exact b2, by rw [s4, upd_n _ _ (by decide), t5]; exact b3⟩, ⟨by omega, c2, by rw [s4, upd_e], t18, by rw [s4, upd_n _ _ (by decide)]; exact c5, by rw [t21]; exact c6⟩, fun i hi => ?_, fun v hv => ?_⟩
  · rw [s5, s6, t6, t7]
    by_cases g : i = k
    · subst g; rw [upd_e, upd_e, upd_e, upd_e]; exact ⟨rfl, rfl, r, q, rfl, rfl, h1, h2, h3⟩
    · rw [upd_n _ _ g, upd_n _ _ g, upd_n _ _ g, upd_n _ _ g]; exact d i (by omega)
  · rw [sL v hv, Bool.or_eq_true, e v hv, decide_eq_true_eq, t6, t7]
    constructor
    · rintro (⟨i, r', q', g1, g2, g3, g4⟩ | g)
      · exact ⟨i, r', q', by omega, by rw [upd_n _ _ (by omega)]; exact g2, by rw [upd_n _ _ (by omega)]; exact g3, g4⟩
      · exact ⟨k, r, q, by omega, by rw [upd_e], by rw [upd_e], h1, h2, h3, by omega⟩
    · rintro ⟨i, r', q', g1, g2, g3, g4, g5, g6, g7⟩
      by_cases g : i = k
      · subst g
        rw [upd_e, zI_inj (by omega) (by omega) (by omega) (by omega)] at g2 g3
        right; omega
      · rw [upd_n _ _ g] at g2 g3
        left; exact ⟨i, r', q', by omega, g2, g3, g4, g5, g6, g7⟩
theorem dt_per (h : dtR σ τ k m) (hm : m < 6) (s4 : σ'.1 4 = upd (σ.1 4) 5 (zI ((m + 1 : Nat) : Int))) (s5 : σ'.1 5 = σ.1 5) (s6 : σ'.1 6 = σ.1 6) (sL : σ'.2 4 = σ.2 4) (t16 : τ'.1 0 16 = τ.1 0 16) (t18 : τ'.1 0 18 = τ.1 0 18) (t21 : τ'.1 0 21 = zI ((m + 1 : Nat) : Int)) (t5 : τ'.1 5 = τ.1 5) (t6 : τ'.1 6 = τ.1 6) (t7 : τ'.1 7 = τ.1 7) : dtR σ' τ' k (m + 1) := by
  obtain ⟨⟨a1, a2⟩, ⟨b1, b2, b3⟩, ⟨c1, c2, c3, c4, c5, c6⟩, d, e⟩ := h
  refine ⟨⟨by rw [s4, upd_n _ _ (by decide)]; exact a1, by rw [t16]; exact a2⟩, ⟨by rw [s4, upd_n _ _ (by decide), t5]; exact b1, by rw [s4, upd_n _ _ (by decide), t5]; exact b2, by rw [s4, upd_n _ _ (by decide), t5]; exact b3⟩, ⟨c1, by omega, by rw [s4, upd_n _ _ (by decide)]; exact c3, by rw [t18]; exact c4, by rw [s4, upd_e], t21⟩, fun i hi => ?_, fun v hv => ?_⟩
  · rw [s5, s6, t6, t7]; exact d i hi
  · rw [sL, t6, t7]; exact e v hv
/-- what comes of a clause -/
def okO (T : Nat → Nat) (L : Nat) (σ0 τ0 : cb_St) (s : Nat) (F : Option cb_St) (G : Option (Int32 × cb_St)) : Prop :=
  (∃ σ1 σ2 τ2 a k m, F = some σ1 ∧ f_X5_skipBlanks σ1 = some σ2 ∧ G = some (0, τ2) ∧ RD T L σ0 τ0 a k m σ2 τ2 ∧ s < a) ∨ (∃ f p σ1 τ2, F = some σ1 ∧ FC T L σ0 f p σ1 ∧ G = some (zI ((f : Nat) : Int), τ2) ∧ scR τ0 τ2 ∧ τ2.1 0 12 = zI ((p : Nat) : Int))
theorem nb_12 (lo hi s e v : Nat) (h : ¬ nbF lo hi s e v = 0) : 1 ≤ nbF lo hi s e v ∧ nbF lo hi s e v ≤ 4 := by
  unfold nbF at h ⊢
  by_cases g : e = s
  · rw [if_pos g]; omega
  · rw [if_neg g] at h ⊢
    by_cases g2 : 3 < e - s ∨ v < lo ∨ hi < v
    · rw [if_pos g2]; omega
    · rw [if_neg g2] at h; omega
theorem nb_0 {lo hi s e v : Nat} (h : nbF lo hi s e v = 0) : s ≠ e ∧ lo ≤ v ∧ v ≤ hi := by
  unfold nbF at h
  by_cases g : e = s
  · rw [if_pos g] at h; omega
  · rw [if_neg g] at h
    by_cases g2 : 3 < e - s ∨ v < lo ∨ hi < v
    · rw [if_pos g2] at h; omega
    · omega
/-- the end of a good clause -/
theorem RD_end (hc : rdC σ0 σ) (hs : scR τ0 τ) (hx : txC T L σ) (hy : txM T L τ) (ha : a ≤ L) (h5 : σ.1 3 5 = zI a) (h13 : τ.1 0 13 = zI a) (h1 : σ.1 3 1 = 0) (h2 : σ.1 3 2 = zI (-1)) (h12 : τ.1 0 12 = zI (-1)) (hd : dtR σ τ k m) : ∃ σ2, f_X5_skipBlanks σ = some σ2 ∧ RD T L σ0 τ0 a k m σ2 τ := by
  refine ⟨_, s_skip hx h5 ha, rdC_t hc (rdC_3 _ _ _ (by decide)), hs, txC_5 hx _, hy, ha, sI_i _ _ _ _, h13, by rw [sI_j _ _ _ (by decide)]; exact h1, by rw [sI_j _ _ _ (by decide)]; exact h2, h12, dt_c hd (sI_n _ _ _ (by decide)) (sI_n _ _ _ (by decide)) (sI_n _ _ _ (by decide)) (by rw [sI_2]) (fun _ _ => rfl) rfl rfl rfl⟩
theorem cl_person (h : RD T L σ0 τ0 a k m σ τ) (hs : skp T L a < L) (hc : T (skp T L a) = 112) : okO T L σ0 τ0 (skp T L a) (f_X5_readPerson σ) (f_X8_takeClause_62 (cb_sI τ 0 13 (zI (skp T L a : Nat))) 2) := by
  obtain ⟨r1, r2, r3, r4, r5, r6, r7, r8, r9, r10, r11⟩ := h
  have hL := r3.1
  obtain ⟨-, -, ⟨c1, c2, c3, c4, c5, c6⟩, -, -⟩ := id r11
  generalize skp T L a = s at *
  have hss : skp T L s = s := skp_at T L s hs (by omega)
  have e1 : zI (s : Int) + 1 = zI ((s + 1 : Nat) : Int) := by rw [show (1 : Int32) = zI 1 from rfl, zI_add, al_1]
  have em1 : zI (m : Int) + 1 = zI ((m + 1 : Nat) : Int) := by rw [show (1 : Int32) = zI 1 from rfl, zI_add, al_1]
  unfold f_X5_readPerson f_X8_takeClause_62
  rw [c5, if_neg (show ¬ (2 : Int32) = 0 from by decide), if_neg (show ¬ (2 : Int32) = 1 from by decide), sI_j _ _ _ (show (21 : Nat) ≠ 13 by decide), c6]
  unfold f_X8_takeClause_109
  by_cases g : m = 6
  · subst g
    right
    rw [if_neg (show ¬ zI ((6 : Nat) : Int) < 6 from by decide), r6, show (3 : Int32) = zI ((3 : Nat) : Int) from rfl, s_fail, bv_s]
    obtain ⟨σ1, k1, k2⟩ := FC_p21 (FC_new r1 r3 r8 3 s (by omega) (by omega) (by omega) s (by omega) r6)
    unfold f_X8_fails
    rw [if_pos (show zI ((6 : Nat) : Int) = 6 from rfl), if_neg (show ¬ (1 : Int32) = 0 from by decide), sI_i, let_s, bi_s]
    exact ⟨3, s, σ1, _, k1, k2, rfl, scR_t r2 (scR_t (scR_0 _ 13 _ (by omega)) (scR_0 _ 12 _ (by omega))), sI_i _ _ _ _⟩
  · rw [if_pos (by rw [show (6 : Int32) = zI 6 from rfl, zI_lt (by omega) (by omega) (by omega) (by omega)]; omega), if_neg (show ¬ zI (m : Int) = 6 from by rw [show (6 : Int32) = zI 6 from rfl, zI_inj (by omega) (by omega) (by omega) (by omega)]; omega), if_pos rfl, let_s, sI_i, e1, sI_sI, if_neg (show ¬ (2 : Int32) = 0 from by decide), if_neg (show ¬ (2 : Int32) = 1 from by decide)]
    unfold f_X5_readPerson_21 f_X8_takePerson
    have hw1 := s_takeWord r3 r6 (by omega) 112 (by omega)
    rw [hss, if_pos ⟨hs, hc⟩] at hw1
    have hx1 := txC_5 r3 (zI ((s + 1 : Nat) : Int))
    have hw2 := s_takeWord hx1 (sI_i _ _ _ _) (show s + 1 ≤ L by omega) 59 (by omega)
    rw [sI_sI, sI_sI] at hw2
    obtain ⟨q1, q2⟩ := skp_rng T L (s + 1) (by omega)
    rw [show f_X5_takeWord 112 σ = _ from hw1, bv_s, show f_X5_takeWord 59 (cb_sI σ 3 5 (zI ((s + 1 : Nat) : Int))) = _ from hw2, bv_s]
    rw [let_s, let_s, sI_j _ _ _ (show (21 : Nat) ≠ 13 by decide), c6, em1, bi_s]
    have hsc : scR τ (cb_sI (cb_sI τ 0 13 (zI ((s + 1 : Nat) : Int))) 0 21 (zI ((m + 1 : Nat) : Int))) := scR_t (scR_0 _ 13 _ (by omega)) (scR_0 _ 21 _ (by omega))
    rw [m_161_0 (txM_sc r4 hsc) (show (cb_sI (cb_sI τ 0 13 (zI ((s + 1 : Nat) : Int))) 0 21 (zI ((m + 1 : Nat) : Int))).1 0 13 = zI ((s + 1 : Nat) : Int) from by rw [sI_j _ _ _ (by decide), sI_i]) (by omega)]
    by_cases g2 : skp T L (s + 1) < L ∧ T (skp T L (s + 1)) = 59
    · left
      rw [if_pos g2, if_pos g2, sI_j _ _ _ (show (1 : Nat) ≠ 5 by decide), if_pos r8, sI_n _ _ _ (show (4 : Nat) ≠ 3 by decide), c5, em1]
      generalize skp T L (s + 1) = s3 at *
      have hrd := rdC_t r1 (rdC_t (rdC_3 σ 5 (zI ((s3 + 1 : Nat) : Int)) (by decide)) (rdC_4 _ 4 5 (zI ((m + 1 : Nat) : Int)) (by omega)))
      have hsc2 := scR_t r2 (scR_t hsc (scR_0 _ 13 (zI ((s3 + 1 : Nat) : Int)) (by omega)))
      obtain ⟨σ2, z1, z2⟩ := RD_end (a := s3 + 1) hrd hsc2 (txC_rd r3 (rdC_t (rdC_3 σ 5 _ (by decide)) (rdC_4 _ 4 5 _ (by omega)))) (txM_sc r4 (scR_t hsc (scR_0 _ 13 _ (by omega)))) (by omega) (by rw [sI_n _ _ _ (by decide), sI_i]) (sI_i _ _ _ _) (by rw [sI_n _ _ _ (by decide), sI_j _ _ _ (by decide)]; exact r8) (by rw [sI_n _ _ _ (by decide), sI_j _ _ _ (by decide)]; exact r9) (by rw [sI_j _ _ _ (by decide), sI_j _ _ _ (by decide), sI_j _ _ _ (by decide)]; exact r10) (dt_per r11 (by omega) (by rw [sI_e, sI_n _ _ _ (by decide)]) (by rw [sI_n _ _ _ (by decide), sI_n _ _ _ (by decide)]) (by rw [sI_n _ _ _ (by decide), sI_n _ _ _ (by decide)]) (by rw [sI_2, sI_2]) (by rw [sI_j _ _ _ (by decide), sI_j _ _ _ (by decide), sI_j _ _ _ (by decide)]) (by rw [sI_j _ _ _ (by decide), sI_j _ _ _ (by decide), sI_j _ _ _ (by decide)]) (by rw [sI_j _ _ _ (by decide), sI_i]) (by rw [sI_n _ _ _ (by decide), sI_n _ _ _ (by decide), sI_n _ _ _ (by decide)]) (by rw [sI_n _ _ _ (by decide), sI_n _ _ _ (by decide), sI_n _ _ _ (by decide)]) (by rw [sI_n _ _ _ (by decide), sI_n _ _ _ (by decide), sI_n _ _ _ (by decide)]))
      exact ⟨_, σ2, _, s3 + 1, k, m + 1, rfl, z1, rfl, z2, by omega⟩
    · right
      rw [if_neg g2, if_neg g2]
      have hF := FC_new (T := T) (L := L) (rdC_t r1 (rdC_3 σ 5 (zI (skp T L (s + 1) : Nat)) (by decide))) (txC_5 r3 _) (by rw [sI_j _ _ _ (by decide)]; exact r8) 1 (skp T L (s + 1)) (by omega) (by omega) (by omega) (skp T L (s + 1)) q2 (sI_i _ _ _ _)
      rw [if_neg (FC_ne hF)]
      exact ⟨1, skp T L (s + 1), _, _, rfl, hF, rfl, scR_t r2 (scR_t hsc (scR_t (scR_0 _ 13 _ (by omega)) (scR_0 _ 12 _ (by omega)))), sI_i _ _ _ _⟩
end CL
