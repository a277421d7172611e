section OP
variable {N Q : Nat} {σ σ' τ : cb_St} {n ml : Nat} {pk : Nat → Nat} {hd : Nat → Int}
theorem m_meet_38 (x1 x2 x3 : Int32) : ∀ (m i fu : Nat) (τ : cb_St), τ.1 3 26 = zI 24 → 1 ≤ i → i + m = 24 → m < fu → ∃ g : Nat → Int32, f_X8_meetNow_38 x1 x2 fu τ x3 (zI i) = f_X8_meetNow_84 x1 x2 (cb_sI (cb_sA τ 3 g) 3 26 (zI ((23 : Nat) : Int))) x3 ∧ (∀ j, i ≤ j → j < 24 → g (27 + (j - 1)) = τ.1 3 (27 + j)) ∧ ∀ q, (q + 1 < 27 + i ∨ 50 ≤ q) → g q = τ.1 3 q := by
  intro m
  induction m with
  | zero =>
    intro i fu τ h26 hi e hf
    obtain ⟨fu, rfl⟩ : ∃ g, fu = g + 1 := ⟨fu - 1, by omega⟩
    refine ⟨τ.1 3, ?_, fun j h1 h2 => absurd h2 (by omega), fun q _ => rfl⟩
    have e23 : zI 24 - 1 = zI ((23 : Nat) : Int) := by decide
    rw [f_X8_meetNow_38, sA_id, if_pos (by rw [show (24 : Int32) = zI 24 from rfl, zI_le (by omega) (by omega) (by omega) (by omega)]; omega), ck_t _ k26, ck_t _ k26, let_s, c26, h26, e23]
  | succ m ih =>
    intro i fu τ h26 hi e hf
    obtain ⟨fu, rfl⟩ : ∃ g, fu = g + 1 := ⟨fu - 1, by omega⟩
    have ei : ((27 + i : Nat) : Int) - 1 = ((27 + (i - 1) : Nat) : Int) := by omega
    have hstep : f_X8_meetNow_38 x1 x2 (fu + 1) τ x3 (zI i) = f_X8_meetNow_38 x1 x2 fu (cb_sI τ 3 (27 + (i - 1)) (τ.1 3 (27 + i))) x3 (zI ((i + 1 : Nat) : Int)) := by
      rw [f_X8_meetNow_38]; simp (disch := omega) only [ei, zI_lit, zI_neg, zI_add, zI_sub, zI_mul, zI_lt, zI_le, zI_inj, zI_ck, zI_clamp, ← Int.natCast_add, la_1, al_1, la_2, al_2, la_3, al_3, la_4, al_4, la_5, al_5, la_6, al_6, la_7, al_7, la_8, al_8, la_9, al_9, la_10, al_10, la_11, al_11, la_12, al_12, la_13, al_13, la_16, al_16, la_19, al_19, la_20, al_20, la_24, al_24, la_25, al_25, la_26, al_26, la_27, al_27, la_51, al_51, la_52, al_52, la_0, Int.toNat_natCast, bp_s, let_s, bi_s, bv_s, b1_f, tn_0, tn_12, tn_25, tn_26]
      rw [if_neg (by omega)]
    obtain ⟨g, h1, h2, h3⟩ := ih (i + 1) fu (cb_sI τ 3 (27 + (i - 1)) (τ.1 3 (27 + i))) (by rw [sI_e, upd_n _ _ (by omega)]; exact h26) (by omega) (by omega) (by omega)
    refine ⟨g, by rw [hstep, h1, sA_sI], fun j g1 g2 => ?_, fun q hq => ?_⟩
    · by_cases hj : j = i
      · subst hj
        rw [h3 (27 + (j - 1)) (by omega), sI_e, upd_e]
      · rw [h2 j (by omega) g2, sI_e, upd_n _ _ (by omega)]
    · rw [h3 q (by omega), sI_e, upd_n _ _ (by omega)]
/-- the reference logs a meeting; who has won is still to be counted -/
theorem m_log (hN : N ≤ 12) (hP : rlP N Q σ 13 (τ.1 3) n ml pk hd) (p q w : Nat) (hp : p < 6) (hq : q < 6) (hw : w ≤ 2) (hm : mT τ (hd p) (hd q) = zI w) : ∃ v' : Nat → Int32, f_X8_meetNow (zI p) (zI q) τ = f_X8_meetNow_170 (zI p) (zI q) (cb_sA τ 3 v') (if w = 0 then zI p else if w = 1 then zI q else zI (-1)) ∧ (∀ c, c < 26 → v' c = τ.1 3 c) ∧ v' 26 = zI ((min ml 23 + 1 : Nat) : Int) ∧ (∀ i, i < min ml 23 → v' (27 + i) = τ.1 3 (27 + (i + (ml - min ml 23)))) ∧ v' (27 + min ml 23) = zI ((w + 4 * (hd q + 1).toNat + 64 * (hd p + 1).toNat + 1024 * q + 8192 * p : Nat) : Int) := by
  obtain ⟨a1, a2, a3, a4, a5, a6, a7, a8, a9, a10, a11, a12, a13, a14, a15, a16, a17, a18⟩ := hP
  obtain ⟨-, c2, c3, c4⟩ := a9 p hp
  obtain ⟨-, d2, d3, d4⟩ := a9 q hq
  have key : ∀ (ρ : cb_St) (m0 : Nat), m0 < 24 → ρ.1 3 26 = zI m0 → (∀ c, c < 26 → ρ.1 3 c = τ.1 3 c) → f_X8_meetNow_84 (zI p) (zI q) ρ (zI w) = f_X8_meetNow_170 (zI p) (zI q) (cb_sI (cb_sI ρ 3 (27 + m0) (zI ((w + 4 * (hd q + 1).toNat + 64 * (hd p + 1).toNat + 1024 * q + 8192 * p : Nat) : Int))) 3 26 (zI ((m0 + 1 : Nat) : Int))) (if w = 0 then zI p else if w = 1 then zI q else zI (-1)) := by
    intro ρ m0 hm0 h26 hc
    have r1 : ρ.1 3 (13 + p) = zI (hd p) := by rw [hc _ (by omega)]; exact c2
    have r2 : ρ.1 3 (13 + q) = zI (hd q) := by rw [hc _ (by omega)]; exact d2
    have eE : (w : Int) + 4 * (hd q + 1) + 64 * (hd p + 1) + 1024 * (q : Int) + 8192 * (p : Int) = ((w + 4 * (hd q + 1).toNat + 64 * (hd p + 1).toNat + 1024 * q + 8192 * p : Nat) : Int) := by omega
    have r3 : (cb_sI ρ 3 (27 + m0) (zI ((w + 4 * (hd q + 1).toNat + 64 * (hd p + 1).toNat + 1024 * q + 8192 * p : Nat) : Int))).1 3 26 = zI m0 := by rw [sI_e, upd_n _ _ (by omega)]; exact h26
    unfold f_X8_meetNow_84
    simp (disch := omega) only [h26, r1, r2, eE, r3, zI_lit, zI_neg, zI_add, zI_sub, zI_mul, zI_lt, zI_le, zI_inj, zI_ck, zI_clamp, ← Int.natCast_add, la_1, al_1, la_2, al_2, la_3, al_3, la_4, al_4, la_5, al_5, la_6, al_6, la_7, al_7, la_8, al_8, la_9, al_9, la_10, al_10, la_11, al_11, la_12, al_12, la_13, al_13, la_16, al_16, la_19, al_19, la_20, al_20, la_24, al_24, la_25, al_25, la_26, al_26, la_27, al_27, la_51, al_51, la_52, al_52, la_0, Int.toNat_natCast, bp_s, let_s, bi_s, bv_s, b1_f, tn_0, tn_12, tn_25, tn_26]
    have hw3 : w = 0 ∨ w = 1 ∨ w = 2 := by omega
    rcases hw3 with rfl | rfl | rfl
    · rfl
    · rfl
    · rfl
  have hstart : f_X8_meetNow (zI p) (zI q) τ = if ml = 24 then f_X8_meetNow_38 (zI p) (zI q) cb_fu τ (zI w) (zI ((1 : Nat) : Int)) else f_X8_meetNow_84 (zI p) (zI q) τ (zI w) := by
    unfold f_X8_meetNow
    have hmm := m_meetBy τ (hd p) (hd q) c3 (by omega) d3 (by omega)
    rw [hm] at hmm
    rw [e13p, e13p]
    simp (disch := omega) only [zI_ck, zI_clamp, Int.toNat_natCast, c2, d2, hmm, bp_s]
    rw [ck_t _ k26, c26, a6]
    by_cases h24 : ml = 24
    · rw [if_pos h24, if_pos (by rw [h24]; rfl)]; rfl
    · rw [if_neg h24, if_neg (by rw [show (24 : Int32) = zI 24 from rfl, zI_inj (by omega) (by omega) (by omega) (by omega)]; omega)]
  by_cases h24 : ml = 24
  · obtain ⟨g, h1, h2, h3⟩ := m_meet_38 (zI p) (zI q) (zI w) 23 1 cb_fu τ (by rw [a6, h24]; rfl) (by omega) (by omega) (by unfold cb_fu; omega)
    have e23 : min ml 23 = 23 := by omega
    rw [hstart, if_pos h24, h1, key _ 23 (by omega) (by rw [sI_e, upd_e]) (fun c hc => by rw [sI_e, upd_n _ _ (by omega), sA_e]; exact h3 c (by omega)), e23]
    refine ⟨upd (upd (upd g 26 (zI ((23 : Nat) : Int))) (27 + 23) (zI ((w + 4 * (hd q + 1).toNat + 64 * (hd p + 1).toNat + 1024 * q + 8192 * p : Nat) : Int))) 26 (zI ((23 + 1 : Nat) : Int)), ?_, fun c hc => ?_, upd_e _ _ _, fun i hi => ?_, ?_⟩
    · unfold cb_sI
      rw [sA_sA, sA_e, sA_sA, sA_e, sA_sA, sA_e]
    · rw [upd_n _ _ (by omega), upd_n _ _ (by omega), upd_n _ _ (by omega)]; exact h3 c (by omega)
    · rw [upd_n _ _ (by omega), upd_n _ _ (by omega), upd_n _ _ (by omega)]
      have := h2 (i + 1) (by omega) (by omega)
      rw [Nat.add_sub_cancel] at this
      rw [this]
      have e9 : i + (ml - 23) = i + 1 := by omega
      rw [e9]
    · rw [upd_n _ _ (by omega), upd_e]
  · have e23 : min ml 23 = ml := by omega
    rw [hstart, if_neg h24, key τ ml (by omega) a6 (fun _ _ => rfl), e23]
    refine ⟨upd (upd (τ.1 3) (27 + ml) (zI ((w + 4 * (hd q + 1).toNat + 64 * (hd p + 1).toNat + 1024 * q + 8192 * p : Nat) : Int))) 26 (zI ((ml + 1 : Nat) : Int)), ?_, fun c hc => ?_, upd_e _ _ _, fun i hi => ?_, ?_⟩
    · unfold cb_sI
      rw [sA_sA, sA_e]
    · rw [upd_n _ _ (by omega), upd_n _ _ (by omega)]
    · rw [upd_n _ _ (by omega), upd_n _ _ (by omega)]
      have e9 : i + (ml - ml) = i := by omega
      rw [e9]
    · rw [upd_n _ _ (by omega), upd_e]
theorem m_win (ρ : cb_St) (x1 x2 : Int32) (p w : Nat) (hp : p < 6) (hw : w ≤ 999999) (h : ρ.1 3 (19 + p) = zI w) : f_X8_meetNow_170 x1 x2 ρ (zI p) = some (zI p, cb_sI ρ 3 (19 + p) (zI ((min (w + 1) 999999 : Nat) : Int))) := by
  unfold f_X8_meetNow_170 f_X8_meetNow_208 f_X8_meetNow_210
  simp (disch := omega) only [h, zI_lit, zI_neg, zI_add, zI_sub, zI_mul, zI_lt, zI_le, zI_inj, zI_ck, zI_clamp, ← Int.natCast_add, la_1, al_1, la_2, al_2, la_3, al_3, la_4, al_4, la_5, al_5, la_6, al_6, la_7, al_7, la_8, al_8, la_9, al_9, la_10, al_10, la_11, al_11, la_12, al_12, la_13, al_13, la_16, al_16, la_19, al_19, la_20, al_20, la_24, al_24, la_25, al_25, la_26, al_26, la_27, al_27, la_51, al_51, la_52, al_52, la_0, Int.toNat_natCast, bp_s, let_s, bi_s, bv_s, b1_f, tn_0, tn_12, tn_25, tn_26]
  rw [if_neg (by omega)]
  by_cases g : w < 999999
  · have e : min (w + 1) 999999 = w + 1 := by omega
    rw [if_neg (by omega), e]
  · have e : min (w + 1) 999999 = w := by omega
    rw [if_pos (by omega), e, show (w : Int) + 0 = w from by omega]
/-- two meet, on both sides -/
theorem r_meet {u x : Nat} (hT : rlT N Q σ τ) (hP : rlP N Q σ 13 (τ.1 3) n ml pk hd) (p q : Nat) (hp : p < Q) (hq : q < Q) : ∃ (w : Nat) (σ' τ' : cb_St), w ≤ 2 ∧ f_X7_letMeet (zI p) (zI q) σ = some (zI w, σ') ∧ f_X8_meetNow (zI p) (zI q) τ = some (if w = 0 then zI p else if w = 1 then zI q else zI (-1), τ') ∧ frC σ σ' ∧ frM τ τ' ∧ rlP N Q σ' 13 (τ'.1 3) n (min ml 23 + 1) pk hd := by
  have hN := hT.1
  have hQ := hT.2.1
  have hP0 := hP
  obtain ⟨a1, a2, a3, a4, a5, a6, a7, a8, a9, a10, a11, a12, a13, a14, a15, a16, a17, a18⟩ := hP
  obtain ⟨c1, c2, c3, c4⟩ := a9 p (by omega)
  obtain ⟨d1, d2, d3, d4⟩ := a9 q (by omega)
  obtain ⟨w, hw, hmw⟩ : ∃ w : Nat, w ≤ 2 ∧ mT τ (hd p) (hd q) = zI w := by
    rcases mT_3 τ (hd p) (hd q) with e | e | e
    · exact ⟨0, by omega, e⟩
    · exact ⟨1, by omega, e⟩
    · exact ⟨2, by omega, e⟩
  obtain ⟨v', m1, m2, m3, m4, m5⟩ := m_log hN hP0 p q w (by omega) (by omega) hw hmw
  have hl : rlL N (zI ((p + 16 * q + 256 * (hd p + 1).toNat + 4096 * (hd q + 1).toNat + 65536 * w : Nat) : Int)) (zI ((w + 4 * (hd q + 1).toNat + 64 * (hd p + 1).toNat + 1024 * q + 8192 * p : Nat) : Int)) := ⟨p, q, (hd p + 1).toNat, (hd q + 1).toNat, w, by omega, by omega, by omega, by omega, hw, rfl, rfl⟩
  have hlet : ∀ (ρ : cb_St), f_X4_noteMeeting 13 (zI p) (zI q) (zI w) σ = some ρ → f_X7_letMeet (zI p) (zI q) σ = some (zI w, ρ) := by
    intro ρ hρ
    unfold f_X7_letMeet
    rw [s_cardOf 13 σ p (by omega), s_cardOf 13 σ q (by omega), bp_s, bp_s, c1, d1, s_between hT _ _ c3 c4 d3 d4, bp_s, hmw, hρ, bv_s]
  -- the winner counted, then logged
  have go : ∀ (z : Nat), z < 6 → (∀ ρ : cb_St, (f_X4_countWin 13 (zI z) σ = some ρ → ∀ ρ2, f_X4_noteMeeting_22 13 (zI p) (zI q) (zI w) ρ = some ρ2 → f_X4_noteMeeting 13 (zI p) (zI q) (zI w) σ = some ρ2)) → (if w = 0 then zI (p : Int) else if w = 1 then zI (q : Int) else zI (-1)) = zI z → ∃ (w : Nat) (σ' τ' : cb_St), w ≤ 2 ∧ f_X7_letMeet (zI p) (zI q) σ = some (zI w, σ') ∧ f_X8_meetNow (zI p) (zI q) τ = some (if w = 0 then zI p else if w = 1 then zI q else zI (-1), τ') ∧ frC σ σ' ∧ frM τ τ' ∧ rlP N Q σ' 13 (τ'.1 3) n (min ml 23 + 1) pk hd := by
    intro z hz hn hwho
    obtain ⟨w1, k, kw, kle⟩ := a11 z hz
    rw [kw] at w1
    have hcw := s_countWin σ z k hz kle w1
    have hPw := rlP_win hP0 hN z (min (k + 1) 999999) hz (Nat.min_le_right _ _)
    obtain ⟨σ2, s1, s2, s3, s4, s5, s6, s7, s8⟩ := s_note_22 hN hPw p q w (by omega) (by omega) hw
    have hmw2 := m_win (cb_sA τ 3 v') (zI p) (zI q) z k hz kle (by rw [sA_e, m2 _ (by omega)]; exact kw)
    refine ⟨w, σ2, _, hw, hlet σ2 (hn _ hcw σ2 s1), by rw [m1, hwho, hmw2], ?_, ?_, ?_⟩
    · refine ⟨by rw [s3, sI_2], fun c g1 g2 => ?_⟩
      rw [s2 c (by omega) (by omega), sI_n _ _ _ (by omega)]
    · intro c g1 g2
      rw [sI_n _ _ _ g1, sA_n _ _ g1]
    · rw [sI_e, sA_e]
      refine rlP_log hN hPw hl rfl s4 s5 s6 (s2 _ (by decide) (by decide)) (s2 _ (by decide) (by decide)) (s2 _ (by decide) (by decide)) s7 s8 (fun c hc => ?_) ?_ (fun i hi => ?_) ?_
      · by_cases hcz : c = 19 + z
        · rw [hcz, upd_e, upd_e]
        · rw [upd_n _ _ hcz, upd_n _ _ hcz, m2 c hc]
      · rw [upd_n _ _ (by omega)]; exact m3
      · rw [upd_n _ _ (by omega), upd_n _ _ (by omega)]; exact m4 i hi
      · rw [upd_n _ _ (by omega)]; exact m5
  have hw3 : w = 0 ∨ w = 1 ∨ w = 2 := by omega
  rcases hw3 with e | e | e
  · refine go p (by omega) (fun ρ h1 ρ2 h2 => ?_) (by rw [if_pos e])
    unfold f_X4_noteMeeting
    rw [e] at h2 ⊢
    rw [if_pos (show zI ((0 : Nat) : Int) = 0 from rfl), h1, bv_s]
    exact h2
  · refine go q (by omega) (fun ρ h1 ρ2 h2 => ?_) (by rw [if_neg (by omega), if_pos e])
    unfold f_X4_noteMeeting
    rw [e] at h2 ⊢
    rw [if_neg (by decide), if_pos (show zI ((1 : Nat) : Int) = 1 from rfl), h1, bv_s]
    exact h2
  · obtain ⟨σ2, s1, s2, s3, s4, s5, s6, s7, s8⟩ := s_note_22 hN hP0 p q w (by omega) (by omega) hw
    refine ⟨w, σ2, cb_sA τ 3 v', hw, hlet σ2 ?_, ?_, ⟨s3, fun c g1 g2 => s2 c (by omega) (by omega)⟩, fun c g1 g2 => sA_n _ _ g1, ?_⟩
    · unfold f_X4_noteMeeting
      rw [e, if_neg (by decide), if_neg (by decide), ← s1, e]
    · rw [m1, if_neg (by omega), if_neg (by omega)]
      rfl
    · rw [sA_e]
      exact rlP_log hN hP0 hl rfl s4 s5 s6 (s2 _ (by decide) (by decide)) (s2 _ (by decide) (by decide)) (s2 _ (by decide) (by decide)) s7 s8 m2 m3 m4 m5
end OP
