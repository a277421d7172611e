/-! ===== two meet ===== -/
theorem sI_id (σ : cb_St) (k i : Nat) (v : Int32) (h : σ.1 k i = v) : cb_sI σ k i v = σ := by
  unfold cb_sI
  have : upd (σ.1 k) i v = σ.1 k := by
    funext j
    by_cases hj : j = i
    · subst hj; rw [upd_e]; exact h.symm
    · rw [upd_n _ _ hj]
  rw [this, sA_id]
section OP
variable {N Q : Nat} {σ σ' τ : cb_St} {n ml : Nat} {pk : Nat → Nat} {hd : Nat → Int} {v v' : Nat → Int32}
theorem rlP_win (hP : rlP N Q σ 13 v n ml pk hd) (hN : N ≤ 12) (p w : Nat) (hp : p < 6) (hw : w ≤ 999999) : rlP N Q (cb_sI σ (13 + 3) p (zI w)) 13 (upd v (19 + p) (zI w)) n ml pk hd := by
  obtain ⟨a1, a2, a3, a4, a5, a6, a7, a8, a9, a10, a11, a12, a13, a14, a15, a16, a17, a18⟩ := hP
  have g : ∀ q, q ≠ 19 + p → upd v (19 + p) (zI w) q = v q := fun q hq => upd_n _ _ hq
  refine ⟨a1, a2, by rw [sI_n _ _ _ (by decide)]; exact a3, by rw [g 12 (by omega)]; exact a4, by rw [sI_n _ _ _ (by decide)]; exact a5, by rw [g 26 (by omega)]; exact a6, by rw [sI_n _ _ _ (by decide), g 25 (by omega)]; exact a7, ?_, ?_, a10, ?_, ?_, a13, a14, a15, ?_, ?_, ?_⟩
  · intro i hi; rw [sI_n _ _ _ (by decide), g i (by omega)]; exact a8 i hi
  · intro q hq; rw [sI_n _ _ _ (by decide), g (13 + q) (by omega)]; exact a9 q hq
  · intro q hq
    rw [sI_e]
    by_cases hqp : q = p
    · subst hqp; rw [upd_e, upd_e]; exact ⟨rfl, w, rfl, hw⟩
    · rw [upd_n _ _ hqp, g (19 + q) (by omega)]; exact a11 q hq
  · intro i hi; rw [sI_n _ _ _ (by decide), g (27 + i) (by omega)]; exact a12 i hi
  · intro i hi; rw [g 25 (by omega)]; exact a16 i hi
  · intro q hq h0; rw [g 25 (by omega)]; exact a17 q hq h0
  · intro j g1 g2; rw [g 25 (by omega)]; exact a18 j g1 g2
theorem rlP_log (hN : N ≤ 12) (hP : rlP N Q σ 13 v n ml pk hd) {x y : Int32} (hl : rlL N x y) {m0 : Nat} (hm0 : m0 = min ml 23) (s0 : σ'.1 13 0 = σ.1 13 0) (s1 : σ'.1 13 1 = σ.1 13 1) (s2 : σ'.1 13 2 = zI ((m0 + 1 : Nat) : Int)) (s14 : σ'.1 (13 + 1) = σ.1 (13 + 1)) (s15 : σ'.1 (13 + 2) = σ.1 (13 + 2)) (s16 : σ'.1 (13 + 3) = σ.1 (13 + 3)) (s17 : ∀ i, i < m0 → σ'.1 (13 + 4) i = σ.1 (13 + 4) (i + (ml - m0))) (s17e : σ'.1 (13 + 4) m0 = x) (hv : ∀ q, q < 26 → v' q = v q) (hv26 : v' 26 = zI ((m0 + 1 : Nat) : Int)) (hvl : ∀ i, i < m0 → v' (27 + i) = v (27 + (i + (ml - m0)))) (hve : v' (27 + m0) = y) : rlP N Q σ' 13 v' n (m0 + 1) pk hd := by
  obtain ⟨a1, a2, a3, a4, a5, a6, a7, a8, a9, a10, a11, a12, a13, a14, a15, a16, a17, a18⟩ := hP
  refine ⟨a1, by omega, by rw [s0]; exact a3, by rw [hv 12 (by omega)]; exact a4, s2, hv26, by rw [s1, hv 25 (by omega)]; exact a7, ?_, ?_, a10, ?_, ?_, a13, a14, a15, ?_, ?_, ?_⟩
  · intro i hi; rw [s14, hv i (by omega)]; exact a8 i hi
  · intro q hq; rw [s15, hv (13 + q) (by omega)]; exact a9 q hq
  · intro q hq; rw [s16, hv (19 + q) (by omega)]; exact a11 q hq
  · intro i hi
    by_cases e : i = m0
    · rw [e, s17e, hve]; exact hl
    · rw [s17 i (by omega), hvl i (by omega)]; exact a12 (i + (ml - m0)) (by omega)
  · intro i hi; rw [hv 25 (by omega)]; exact a16 i hi
  · intro q hq h0; rw [hv 25 (by omega)]; exact a17 q hq h0
  · intro j g1 g2; rw [hv 25 (by omega)]; exact a18 j g1 g2
theorem s_countWin (σ : cb_St) (p w : Nat) (hp : p < 6) (hw : w ≤ 999999) (h : σ.1 (13 + 3) p = zI w) : f_X4_countWin 13 (zI p) σ = some (cb_sI σ (13 + 3) p (zI ((min (w + 1) 999999 : Nat) : Int))) := by
  unfold f_X4_countWin
  rw [s_isPerson σ p hp, bp_s, if_neg z10]
  simp (disch := omega) only [zI_ck, zI_clamp, Int.toNat_natCast, h]
  by_cases g : w < 999999
  · rw [if_neg (by rw [show (999999 : Int32) = zI 999999 from rfl, zI_le (by omega) (by omega) (by omega) (by omega)]; omega)]
    rw [let_s, show zI (w : Int) + 1 = zI ((w + 1 : Nat) : Int) from by rw [show (1 : Int32) = zI 1 from rfl, zI_add, al_1]]
    have e : min (w + 1) 999999 = w + 1 := by omega
    rw [e]
  · rw [if_pos (by rw [show (999999 : Int32) = zI 999999 from rfl, zI_le (by omega) (by omega) (by omega) (by omega)]; omega)]
    have e : min (w + 1) 999999 = w := by omega
    rw [e, sI_id σ _ _ _ h]
/-- the class logs a meeting -/
theorem s_note_22 (hN : N ≤ 12) (hP : rlP N Q σ 13 v n ml pk hd) (p q w : Nat) (hp : p < 6) (hq : q < 6) (hw : w ≤ 2) : ∃ σ' : cb_St, f_X4_noteMeeting_22 13 (zI p) (zI q) (zI w) σ = some σ' ∧ (∀ c, c ≠ 13 → c ≠ 13 + 4 → σ'.1 c = σ.1 c) ∧ σ'.2 = σ.2 ∧ σ'.1 13 0 = σ.1 13 0 ∧ σ'.1 13 1 = σ.1 13 1 ∧ σ'.1 13 2 = zI ((min ml 23 + 1 : Nat) : Int) ∧ (∀ i, i < min ml 23 → σ'.1 (13 + 4) i = σ.1 (13 + 4) (i + (ml - min ml 23))) ∧ σ'.1 (13 + 4) (min ml 23) = zI ((p + 16 * q + 256 * (hd p + 1).toNat + 4096 * (hd q + 1).toNat + 65536 * w : Nat) : Int) := by
  obtain ⟨a1, a2, a3, a4, a5, a6, a7, a8, a9, a10, a11, a12, a13, a14, a15, a16, a17, a18⟩ := hP
  obtain ⟨c1, -, c3, c4⟩ := a9 p hp
  obtain ⟨d1, -, d3, d4⟩ := a9 q hq
  have key : ∀ (ρ : cb_St) (m0 : Nat), m0 < 24 → ρ.1 13 2 = zI m0 → ρ.1 (13 + 2) = σ.1 (13 + 2) → f_X4_noteMeeting_52 13 (zI p) (zI q) (zI w) ρ = some (cb_sI (cb_sI ρ (13 + 4) m0 (zI ((p + 16 * q + 256 * (hd p + 1).toNat + 4096 * (hd q + 1).toNat + 65536 * w : Nat) : Int))) 13 2 (zI ((m0 + 1 : Nat) : Int))) := by
    intro ρ m0 hm h2 h15
    unfold f_X4_noteMeeting_52
    rw [h2, if_neg (by rw [show (0 : Int32) = zI 0 from rfl, zI_lt (by omega) (by omega) (by omega) (by omega)]; omega)]
    rw [s_cardOf 13 ρ p hp, s_cardOf 13 ρ q hq, bp_s, bp_s, h15, c1, d1]
    simp (disch := omega) only [zI_ck, zI_clamp, Int.toNat_natCast, let_s]
    rw [show zI (hd p) + 1 = zI (((hd p + 1).toNat : Nat) : Int) from by rw [show (1 : Int32) = zI 1 from rfl, zI_add, Int.toNat_of_nonneg (by omega)]]
    rw [show zI (hd q) + 1 = zI (((hd q + 1).toNat : Nat) : Int) from by rw [show (1 : Int32) = zI 1 from rfl, zI_add, Int.toNat_of_nonneg (by omega)]]
    rw [log_E p q _ _ w hp hq (by omega) (by omega) (by omega)]
    rw [sI_n _ _ _ (by decide), h2, show zI (m0 : Int) + 1 = zI ((m0 + 1 : Nat) : Int) from by rw [show (1 : Int32) = zI 1 from rfl, zI_add, al_1]]
  unfold f_X4_noteMeeting_22
  by_cases h24 : ml = 24
  · rw [a5, if_neg (by rw [show (24 : Int32) = zI 24 from rfl, zI_lt (by omega) (by omega) (by omega) (by omega)]; omega), ck_t _ (by decide), let_s, let_s]
    have e23 : min ml 23 = 23 := by omega
    rw [show (23 : Int32) = zI ((23 : Nat) : Int) from rfl]
    rw [key _ 23 (by omega) (by rw [sI_e, upd_e]) (by rw [sI_n _ _ _ (by decide), sA_n _ _ (by decide)]), e23]
    refine ⟨_, rfl, fun c g1 g2 => ?_, ?_, ?_, ?_, ?_, ?_, ?_⟩
    · rw [sI_n _ _ _ g1, sI_n _ _ _ g2, sI_n _ _ _ g1, sA_n _ _ g2]
    · rw [sI_2, sI_2, sI_2, sA_2]
    · rw [sI_e, upd_n _ _ (by decide), sI_n _ _ _ (by decide), sI_e, upd_n _ _ (by decide), sA_n _ _ (by decide)]
    · rw [sI_e, upd_n _ _ (by decide), sI_n _ _ _ (by decide), sI_e, upd_n _ _ (by decide), sA_n _ _ (by decide)]
    · rw [sI_e, upd_e]
    · intro i hi
      rw [sI_n _ _ _ (by decide), sI_e, upd_n _ _ (by omega), sI_n _ _ _ (by decide), sA_e]
      show va_cpy _ _ 1 0 23 i = _
      unfold va_cpy
      rw [if_pos (by omega)]
      have e9 : 1 + (i - 0) = i + (ml - 23) := by omega
      rw [e9]
    · rw [sI_n _ _ _ (by decide), sI_e, upd_e]
  · rw [a5, if_pos (by rw [show (24 : Int32) = zI 24 from rfl, zI_lt (by omega) (by omega) (by omega) (by omega)]; omega)]
    have e23 : min ml 23 = ml := by omega
    rw [key σ ml (by omega) a5 rfl, e23]
    refine ⟨_, rfl, fun c g1 g2 => ?_, ?_, ?_, ?_, ?_, ?_, ?_⟩
    · rw [sI_n _ _ _ g1, sI_n _ _ _ g2]
    · rw [sI_2, sI_2]
    · rw [sI_e, upd_n _ _ (by decide), sI_n _ _ _ (by decide)]
    · rw [sI_e, upd_n _ _ (by decide), sI_n _ _ _ (by decide)]
    · rw [sI_e, upd_e]
    · intro i hi
      rw [sI_n _ _ _ (by decide), sI_e, upd_n _ _ (by omega)]
      have e9 : i + (ml - ml) = i := by omega
      rw [e9]
    · rw [sI_n _ _ _ (by decide), sI_e, upd_e]
end OP
