/-! ===== table() on both sides ===== -/
section TB
variable {σ τ σ1 τ1 : cb_St}
def tbE (σ_1 : cb_St) : Option (Int32 × cb_St) := if (σ_1.1 3 1) = 0 then (cb_bv (f_X6_become 9 σ_1) (fun σ_2 => cb_bv (f_X4_begin 13 (σ_2.1 9 4) σ_2) (fun σ_3 => cb_bv (f_X2_empty σ_3) (fun σ_4 => cb_bv (f_X3_forget σ_4) (fun σ_5 => f_X7_table_72 cb_fu σ_5 0))))) else (some ((-10) - (σ_1.1 3 1), σ_1))
/-- what was read, of a text with rules or of none -/
def dtX (σ τ : cb_St) (k m : Nat) : Prop := ((σ.1 4 0 = 1 ∧ τ.1 0 16 = 1 ∧ σ.1 4 1 = τ.1 5 0 ∧ σ.1 4 2 = τ.1 5 1 ∧ σ.1 4 3 = τ.1 5 2) ∨ (σ.1 4 0 = 0 ∧ τ.1 0 16 = 0 ∧ σ.1 4 1 = zI (-1) ∧ σ.1 4 2 = 0 ∧ σ.1 4 3 = 0 ∧ k = 0 ∧ m = 0)) ∧ (k ≤ 12 ∧ m ≤ 6 ∧ σ.1 4 4 = zI k ∧ τ.1 0 18 = zI k ∧ σ.1 4 5 = zI m ∧ τ.1 0 21 = zI m) ∧ (∀ i, i < k → σ.1 5 i = τ.1 6 i ∧ σ.1 6 i = τ.1 7 i ∧ ∃ r q : Nat, τ.1 6 i = zI r ∧ τ.1 7 i = zI q ∧ 1 ≤ r ∧ r ≤ 13 ∧ q ≤ 3) ∧ ∀ v : Nat, v < 52 → (bL (σ.2 4) v = true ↔ ∃ i r q : Nat, i < k ∧ τ.1 6 i = zI r ∧ τ.1 7 i = zI q ∧ 1 ≤ r ∧ r ≤ 13 ∧ q ≤ 3 ∧ 13 * q + r = v + 1)
theorem dtX_c {σ' τ' : cb_St} {k m : Nat} (h : dtX σ τ k m) (s4 : σ'.1 4 = σ.1 4) (s5 : σ'.1 5 = σ.1 5) (s6 : σ'.1 6 = σ.1 6) (sL : σ'.2 4 = σ.2 4) (t0 : ∀ j, (j = 16 ∨ j = 18 ∨ j = 21) → τ'.1 0 j = τ.1 0 j) (t5 : τ'.1 5 = τ.1 5) (t6 : τ'.1 6 = τ.1 6) (t7 : τ'.1 7 = τ.1 7) : dtX σ' τ' k m := by
  unfold dtX at h ⊢
  rw [s4, s5, s6, sL, t0 16 (by omega), t0 18 (by omega), t0 21 (by omega), t5, t6, t7]
  exact h
theorem dtX_of {k m : Nat} (h : dtR σ τ k m) : dtX σ τ k m := by
  obtain ⟨⟨a1, a2⟩, ⟨b1, b2, b3⟩, c, d, e⟩ := h
  exact ⟨Or.inl ⟨a1, a2, b1, b2, b3⟩, c, d, e⟩
/-- the new table alike -/
theorem laid_T {σ9 τ9 : cb_St} {k m : Nat} (h : dtX σ τ k m) (b : σ9.1 9 0 = σ.1 4 0 ∧ σ9.1 9 1 = σ.1 4 1 ∧ σ9.1 9 2 = σ.1 4 2 ∧ σ9.1 9 3 = σ.1 4 3 ∧ σ9.1 9 4 = σ.1 4 4 ∧ σ9.1 9 5 = σ.1 4 5) (c1 : ∀ i, i < 12 → σ9.1 10 i = σ.1 5 i) (c2 : ∀ i, i < 12 → σ9.1 11 i = σ.1 6 i) (c3 : ∀ c, c < k → σ9.1 12 c = aB σ9 k c) (c4 : σ9.2 9 = σ.2 4) (d0 : τ9.1 0 0 = τ.1 0 16) (d1 : τ.1 0 16 = 1 → τ9.1 0 1 = τ.1 5 0 ∧ τ9.1 0 2 = τ.1 5 1 ∧ τ9.1 0 3 = τ.1 5 2) (d2 : τ.1 0 16 = 0 → τ9.1 0 1 = 0 ∧ τ9.1 0 2 = 0 ∧ τ9.1 0 3 = 0) (d3 : τ9.1 0 4 = zI k) (d4 : τ9.1 0 7 = τ.1 0 21) (d5 : ∀ j, j < k → τ9.1 1 j = τ.1 6 j ∧ τ9.1 2 j = τ.1 7 j ∧ τ9.1 3 j = zI j) : rlT k m σ9 τ9 := by
  obtain ⟨b0, b1, b2, b3, b4, b5⟩ := b
  obtain ⟨e0, ⟨e1, e2, e3, e4, e5, e6⟩, e7, e8⟩ := h
  refine ⟨e1, e2, b4.trans e3, d3, b5.trans e5, d4.trans e6, ?_, ?_, ?_, ?_, ?_, ?_, ?_, ?_, ?_, ?_⟩
  · rcases e0 with e | e
    · rw [b0, d0, e.1, e.2.1]
    · rw [b0, d0, e.1, e.2.1]
  · rcases e0 with e | e
    · right; rw [d0]; exact e.2.1
    · left; rw [d0]; exact e.2.1
  · intro q
    rcases e0 with e | e
    · rw [b1, (d1 e.2.1).1]; exact e.2.2.1
    · rw [d0, e.2.1] at q; exact absurd q (by decide)
  · intro q
    rcases e0 with e | e
    · rw [d0, e.2.1] at q; exact absurd q (by decide)
    · exact ⟨by rw [b1]; exact e.2.2.1, e.2.2.2.2.2⟩
  · rcases e0 with e | e
    · rw [b2, (d1 e.2.1).2.1]; exact e.2.2.2.1
    · rw [b2, (d2 e.2.1).2.1]; exact e.2.2.2.1
  · rcases e0 with e | e
    · rw [b3, (d1 e.2.1).2.2]; exact e.2.2.2.2
    · rw [b3, (d2 e.2.1).2.2]; exact e.2.2.2.2.1
  · intro i hi
    obtain ⟨x1, x2, x3⟩ := e7 i hi
    obtain ⟨y1, y2, y3⟩ := d5 i hi
    rw [c1 i (by omega), c2 i (by omega), x1, x2, y1, y2]
    exact ⟨rfl, rfl⟩
  · intro i hi
    obtain ⟨x1, x2, x3⟩ := e7 i hi
    obtain ⟨y1, y2, y3⟩ := d5 i hi
    rw [y1, y2]; exact x3
  · intro c d hc hd
    rcases e0 with e | e
    · have f1 := d1 e.2.1
      obtain ⟨xc1, xc2, xc3⟩ := e7 c hc
      obtain ⟨yc1, yc2, yc3⟩ := d5 c hc
      obtain ⟨xd1, xd2, xd3⟩ := e7 d hd
      obtain ⟨yd1, yd2, yd3⟩ := d5 d hd
      rw [c3 c hc]
      unfold aB mT
      rw [mS_bt _ k 0 0 (by omega) d (by omega), if_neg (by omega), Int.toNat_natCast, Int.toNat_natCast, b_0, Bool.false_or, decide_eq_true (Nat.zero_le d), decide_eq_true (show d < 0 + k by omega), Bool.true_and, Bool.true_and, c1 c (by omega), c1 d (by omega), c2 c (by omega), c2 d (by omega), b1, b2, b3, xc1, xc2, xd1, xd2, yc1, yc2, yd1, yd2, f1.1, f1.2.1, f1.2.2, e.2.2.1, e.2.2.2.1, e.2.2.2.2]
    · exact absurd hc (by omega)
  · intro v hv
    rw [c4, e8 v hv]
    constructor
    · rintro ⟨i, r, q, g1, g2, g3, g4⟩
      obtain ⟨y1, y2, y3⟩ := d5 i g1
      exact ⟨i, r, q, g1, by rw [y1]; exact g2, by rw [y2]; exact g3, g4⟩
    · rintro ⟨i, r, q, g1, g2, g3, g4⟩
      obtain ⟨y1, y2, y3⟩ := d5 i g1
      exact ⟨i, r, q, g1, by rw [← y1]; exact g2, by rw [← y2]; exact g3, g4⟩
theorem zm1 : (-1 : Int32) = zI (-1) := zI_m1
theorem laid_rel (h : Rel σ τ) {k m : Nat} (hc : rdC σ σ1) (hs : scR τ τ1) (h31 : σ1.1 3 1 = 0) (h32 : σ1.1 3 2 = zI (-1)) (h12 : τ1.1 0 12 = zI (-1)) (hd : dtX σ1 τ1 k m) : simI σ τ (tbE (cb_sI σ1 3 3 0)) (f_X8_table_46 τ1 0) := by
  obtain ⟨N, Q, n, ml, pk, hdd, u, z, hX, hP, hU, hS⟩ := h
  have hD := dtX_c (σ' := cb_sI σ1 3 3 0) (τ' := cb_sI τ1 0 11 0) hd (sI_n _ _ _ (by decide)) (sI_n _ _ _ (by decide)) (sI_n _ _ _ (by decide)) (by rw [sI_2]) (fun j hj => sI_j _ _ _ (by omega)) (sI_n _ _ _ (by decide)) (sI_n _ _ _ (by decide)) (sI_n _ _ _ (by decide))
  have k0 : (cb_sI σ1 3 3 0).1 4 0 = 0 ∨ (cb_sI σ1 3 3 0).1 4 0 = 1 := by
    rcases hD.1 with e | e
    · right; exact e.1
    · left; exact e.1
  have k16 : (cb_sI τ1 0 11 0).1 0 16 = 0 ∨ (cb_sI τ1 0 11 0).1 0 16 = 1 := by
    rcases hD.1 with e | e
    · right; exact e.2.1
    · left; exact e.2.1
  obtain ⟨e1, e2, e3, e4, e5, e6⟩ := hD.2.1
  obtain ⟨σ9, s0, s1, s2, s3, s4, s5, s6⟩ := s_laid k e1 k0 e3
  obtain ⟨σ8, p0, p1, p2, p3, p4, p5, p6, p7, p8⟩ := s_begin k e1 σ9
  obtain ⟨τ9, t0, t1, t2, t3, t4, t5, t6, t7, t8, t9, t10, t11⟩ := m_takeRead k e1 k16 e4
  have hT := laid_T hD s1 s2 s3 s4 s5 t1 t2 t3 t4 t5 t7
  have F : tbE (cb_sI σ1 3 3 0) = some (σ8.1 9 5, cb_sI (cb_sI (cb_sI (cb_sI (cb_sI σ8 100 0 0) 100 1 0) 18 0 0) 112 0 0) 118 0 0) := by
    unfold tbE f_X2_empty f_X3_forget
    rw [if_pos (show (cb_sI σ1 3 3 0).1 3 1 = 0 from by rw [sI_j _ _ _ (by decide)]; exact h31), s0, bv_s, s1.2.2.2.2.1, e3, p0, bv_s, let_s, let_s, bv_s, let_s, bv_s, s_tab_72, sI_n _ _ _ (by decide), sI_n _ _ _ (by decide), sI_n _ _ _ (by decide)]
  have G : f_X8_table_46 τ1 0 = some (τ9.1 0 7, cb_sI (cb_sI (cb_sI (cb_sI (cb_sI τ9 0 28 0) 0 35 0) 0 22 0) 20 0 0) 20 1 0) := by
    unfold f_X8_table_46
    rw [let_s, if_pos (show (0 : Int32) ≤ 0 from by decide), t0, bv_s, let_s, let_s, let_s, ck_t _ (by decide), let_s, ck_t _ (by decide), let_s]
    show some ((cb_sI (cb_sI (cb_sI (cb_sI (cb_sI τ9 0 28 0) 0 35 0) 0 22 0) 20 0 0) 20 1 0).1 0 7, cb_sI (cb_sI (cb_sI (cb_sI (cb_sI τ9 0 28 0) 0 35 0) 0 22 0) 20 0 0) 20 1 0) = _
    rw [sI_n _ _ _ (by decide), sI_n _ _ _ (by decide), sI_j _ _ _ (by decide), sI_j _ _ _ (by decide), sI_j _ _ _ (by decide)]
  have fC : ∀ q, q ≠ 100 → q ≠ 18 → q ≠ 112 → q ≠ 118 → (cb_sI (cb_sI (cb_sI (cb_sI (cb_sI σ8 100 0 0) 100 1 0) 18 0 0) 112 0 0) 118 0 0).1 q = σ8.1 q := fun q g1 g2 g3 g4 => by
    rw [sI_n _ _ _ g4, sI_n _ _ _ g3, sI_n _ _ _ g2, sI_n _ _ _ g1, sI_n _ _ _ g1]
  have fM : ∀ q, q ≠ 0 → q ≠ 20 → (cb_sI (cb_sI (cb_sI (cb_sI (cb_sI τ9 0 28 0) 0 35 0) 0 22 0) 20 0 0) 20 1 0).1 q = τ9.1 q := fun q g1 g2 => by
    rw [sI_n _ _ _ g2, sI_n _ _ _ g2, sI_n _ _ _ g1, sI_n _ _ _ g1, sI_n _ _ _ g1]
  have f0 : ∀ j, j ≠ 28 → j ≠ 35 → j ≠ 22 → (cb_sI (cb_sI (cb_sI (cb_sI (cb_sI τ9 0 28 0) 0 35 0) 0 22 0) 20 0 0) 20 1 0).1 0 j = τ9.1 0 j := fun j g1 g2 g3 => by
    rw [sI_n _ _ _ (by decide), sI_n _ _ _ (by decide), sI_j _ _ _ g3, sI_j _ _ _ g2, sI_j _ _ _ g1]
  have s2L : (cb_sI (cb_sI (cb_sI (cb_sI (cb_sI σ8 100 0 0) 100 1 0) 18 0 0) 112 0 0) 118 0 0).2 = σ8.2 := by rw [sI_2, sI_2, sI_2, sI_2, sI_2]
  have b0 : (cb_sI (cb_sI (cb_sI (cb_sI (cb_sI σ8 100 0 0) 100 1 0) 18 0 0) 112 0 0) 118 0 0).1 100 0 = 0 ∧ (cb_sI (cb_sI (cb_sI (cb_sI (cb_sI σ8 100 0 0) 100 1 0) 18 0 0) 112 0 0) 118 0 0).1 100 1 = 0 ∧ (cb_sI (cb_sI (cb_sI (cb_sI (cb_sI σ8 100 0 0) 100 1 0) 18 0 0) 112 0 0) 118 0 0).1 18 0 = 0 ∧ (cb_sI (cb_sI (cb_sI (cb_sI (cb_sI σ8 100 0 0) 100 1 0) 18 0 0) 112 0 0) 118 0 0).1 18 1 = σ8.1 18 1 ∧ (cb_sI (cb_sI (cb_sI (cb_sI (cb_sI σ8 100 0 0) 100 1 0) 18 0 0) 112 0 0) 118 0 0).1 112 0 = 0 ∧ (cb_sI (cb_sI (cb_sI (cb_sI (cb_sI σ8 100 0 0) 100 1 0) 18 0 0) 112 0 0) 118 0 0).1 118 0 = 0 := by
    refine ⟨?_, ?_, ?_, ?_, ?_, ?_⟩
    · rw [sI_n _ _ _ (by decide), sI_n _ _ _ (by decide), sI_n _ _ _ (by decide), sI_j _ _ _ (by decide), sI_i]
    · rw [sI_n _ _ _ (by decide), sI_n _ _ _ (by decide), sI_n _ _ _ (by decide), sI_i]
    · rw [sI_n _ _ _ (by decide), sI_n _ _ _ (by decide), sI_i]
    · rw [sI_n _ _ _ (by decide), sI_n _ _ _ (by decide), sI_j _ _ _ (by decide), sI_n _ _ _ (by decide), sI_n _ _ _ (by decide)]
    · rw [sI_n _ _ _ (by decide), sI_i]
    · rw [sI_i]
  have m0 : (cb_sI (cb_sI (cb_sI (cb_sI (cb_sI τ9 0 28 0) 0 35 0) 0 22 0) 20 0 0) 20 1 0).1 0 28 = 0 ∧ (cb_sI (cb_sI (cb_sI (cb_sI (cb_sI τ9 0 28 0) 0 35 0) 0 22 0) 20 0 0) 20 1 0).1 0 35 = 0 ∧ (cb_sI (cb_sI (cb_sI (cb_sI (cb_sI τ9 0 28 0) 0 35 0) 0 22 0) 20 0 0) 20 1 0).1 0 22 = 0 ∧ (cb_sI (cb_sI (cb_sI (cb_sI (cb_sI τ9 0 28 0) 0 35 0) 0 22 0) 20 0 0) 20 1 0).1 20 0 = 0 ∧ (cb_sI (cb_sI (cb_sI (cb_sI (cb_sI τ9 0 28 0) 0 35 0) 0 22 0) 20 0 0) 20 1 0).1 20 1 = 0 := by
    refine ⟨?_, ?_, ?_, ?_, ?_⟩
    · rw [sI_n _ _ _ (by decide), sI_n _ _ _ (by decide), sI_j _ _ _ (by decide), sI_j _ _ _ (by decide), sI_i]
    · rw [sI_n _ _ _ (by decide), sI_n _ _ _ (by decide), sI_j _ _ _ (by decide), sI_i]
    · rw [sI_n _ _ _ (by decide), sI_n _ _ _ (by decide), sI_i]
    · rw [sI_j _ _ _ (by decide), sI_i]
    · rw [sI_i]
  rw [F, G]
  generalize cb_sI (cb_sI (cb_sI (cb_sI (cb_sI σ8 100 0 0) 100 1 0) 18 0 0) 112 0 0) 118 0 0 = σe at *
  generalize cb_sI (cb_sI (cb_sI (cb_sI (cb_sI τ9 0 28 0) 0 35 0) 0 22 0) 20 0 0) 20 1 0 = τe at *
  have q95 : σ8.1 9 5 = τ9.1 0 7 := by rw [p7 9 (by omega), s1.2.2.2.2.2, e5, t5, e6]
  refine ⟨τ9.1 0 7, σe, τe, by rw [q95], rfl, k, m, k, 0, fun i => i, fun _ => -1, 0, z, ⟨?_, ?_, ?_, ?_⟩, ?_, ?_, ?_⟩
  · exact rlT_d hT (by rw [fC 9 (by decide) (by decide) (by decide) (by decide), p7 9 (by omega)]) (by rw [fC 10 (by decide) (by decide) (by decide) (by decide), p7 10 (by omega)]) (by rw [fC 11 (by decide) (by decide) (by decide) (by decide), p7 11 (by omega)]) (by rw [fC 12 (by decide) (by decide) (by decide) (by decide), p7 12 (by omega)]) (by rw [s2L, p8]) (fun j hj => f0 j (by omega) (by omega) (by omega)) (fM 1 (by decide) (by decide)) (fM 2 (by decide) (by decide))
  · intro i hi
    have : i = 0 ∨ i = 1 := by omega
    rcases this with rfl | rfl
    · rw [m0.2.2.2.1]; exact ⟨b0.2.2.2.2.1, Or.inl rfl, fun q => absurd q (by decide)⟩
    · rw [m0.2.2.2.2]; exact ⟨b0.2.2.2.2.2, Or.inl rfl, fun q => absurd q (by decide)⟩
  · exact ⟨0, 0, by omega, by omega, b0.1, m0.1, b0.2.1, m0.2.1, fun i hi => absurd hi (by omega), fun i hi => absurd hi (by omega)⟩
  · refine ⟨0, by omega, ?_, ?_, ?_, fun i hi => absurd hi (by omega)⟩
    · rw [fC 3 (by decide) (by decide) (by decide) (by decide), p7 3 (by omega), s6 3 (by omega), sI_i]; rfl
    · rw [f0 11 (by decide) (by decide) (by decide), t6 11 (by omega) (by omega), sI_i]; rfl
    · rw [fC 3 (by decide) (by decide) (by decide) (by decide), p7 3 (by omega), s6 3 (by omega), sI_j _ _ _ (by decide), h32, f0 12 (by decide) (by decide) (by decide), t6 12 (by omega) (by omega), sI_j _ _ _ (by decide), h12]
  · have v3 : τe.1 3 = τ9.1 3 := fM 3 (by decide) (by decide)
    have c13 : σe.1 13 = σ8.1 13 := fC 13 (by decide) (by decide) (by decide) (by decide)
    have c14 : σe.1 14 = σ8.1 14 := fC 14 (by decide) (by decide) (by decide) (by decide)
    have c15 : σe.1 15 = σ8.1 15 := fC 15 (by decide) (by decide) (by decide) (by decide)
    have c16 : σe.1 16 = σ8.1 16 := fC 16 (by decide) (by decide) (by decide) (by decide)
    rw [v3]
    refine ⟨Nat.le_refl _, by omega, by rw [c13]; exact p1, t8, by rw [c13]; exact p3, t10 26 (by omega) (by omega), by rw [c13, p2, t10 25 (by omega) (by omega)], fun i hi => ⟨?_, (t7 i hi).2.2, hi⟩, fun p hp => ⟨?_, ?_, Int.le_refl _, ?_⟩, fun p _ _ => rfl, fun p hp => ⟨?_, 0, ?_, by omega⟩, fun i hi => absurd hi (by omega), fun i j h1 _ => Nat.ne_of_lt h1, fun p q _ _ h0 => absurd h0 (show ¬ (0 : Int) ≤ -1 by decide), fun i p _ _ => ?_, fun i hi => ?_, fun p _ h0 => absurd h0 (show ¬ (0 : Int) ≤ -1 by decide), fun j _ hj => ?_⟩
    · show σe.1 14 i = _; rw [c14]; exact p4 i (by omega)
    · show σe.1 15 p = _; rw [c15, p5 p hp, zI_m1]
    · rw [t9 p hp, zI_m1]
    · show (-1 : Int) < (k : Int); omega
    · show σe.1 16 p = _; rw [c16, p6 p hp, t10 (19 + p) (by omega) (by omega)]
    · rw [t10 (19 + p) (by omega) (by omega)]; rfl
    · show (-1 : Int) ≠ (i : Int); omega
    · rw [t10 25 (by omega) (by omega)]; exact b_0 _
    · rw [t10 25 (by omega) (by omega)]; exact b_0 _
  · exact ⟨by omega, hU.2.1, b0.2.2.1, m0.2.2.1, by rw [b0.2.2.2.1, p7 18 (by omega), s6 18 (by omega), sI_n _ _ _ (by decide), hc.1 18 (by omega)]; exact hU.2.2.2.2.1, fun j hj => absurd hj (by omega)⟩
  · exact rlS_c hS (by rw [fC 0 (by decide) (by decide) (by decide) (by decide), p7 0 (by omega), s6 0 (by omega), sI_n _ _ _ (by decide), hc.1 0 (by omega)]) (by rw [f0 9 (by decide) (by decide) (by decide), t6 9 (by omega) (by omega), sI_j _ _ _ (by decide), hs.1 9 (by omega) (by omega) (by omega)])
/-- a text with a fault leaves all as it was -/
theorem fault_rel (h : Rel σ τ) {T : Nat → Nat} {L f p : Nat} (hF : FC T L σ f p σ1) (hs : scR τ τ1) (h12 : τ1.1 0 12 = zI ((p : Nat) : Int)) : simI σ τ (tbE (cb_sI σ1 3 3 0)) (f_X8_table_46 τ1 (zI ((f : Nat) : Int))) := by
  obtain ⟨N, Q, n, ml, pk, hd, u, z, hX, hP, hU, hS⟩ := h
  have hN := hX.1.1
  have hne := FC_ne hF
  obtain ⟨⟨r1, r2, r3⟩, -, f1, f4, -, f31, f32, -⟩ := hF
  have cC : ∀ q, ¬ (3 ≤ q ∧ q ≤ 7) → (cb_sI σ1 3 3 0).1 q = σ.1 q := fun q hq => by rw [sI_n _ _ _ (by omega), r1 q hq]
  have cM : ∀ q, q ≠ 0 → q ≠ 5 → q ≠ 6 → q ≠ 7 → (cb_sI τ1 0 11 0).1 q = τ.1 q := fun q g1 g2 g3 g4 => by rw [sI_n _ _ _ g1, hs.2 q g1 g2 g3 g4]
  have c0 : ∀ j, ¬ (11 ≤ j ∧ j ≤ 16) → j ≠ 18 → j ≠ 21 → (cb_sI τ1 0 11 0).1 0 j = τ.1 0 j := fun j g1 g2 g3 => by rw [sI_j _ _ _ (by omega), hs.1 j (by omega) g2 g3]
  unfold tbE f_X8_table_46
  rw [if_neg (show ¬ (cb_sI σ1 3 3 0).1 3 1 = 0 from by rw [sI_j _ _ _ (by decide)]; exact hne), let_s, if_neg (show ¬ zI (f : Int) ≤ 0 from by rw [show (0 : Int32) = zI 0 from rfl, zI_le (by omega) (by omega) (by omega) (by omega)]; omega), show (cb_sI σ1 3 3 0).1 3 1 = zI f from by rw [sI_j _ _ _ (by decide)]; exact f31]
  refine ⟨_, _, _, rfl, rfl, N, Q, n, ml, pk, hd, u, z, ⟨?_, ?_, ?_, ?_⟩, ?_, ?_, ?_⟩
  · exact rlT_d hX.1 (cC 9 (by omega)) (cC 10 (by omega)) (cC 11 (by omega)) (cC 12 (by omega)) (by rw [sI_2]; exact r2) (fun j hj => c0 j (by omega) (by omega) (by omega)) (cM 1 (by decide) (by decide) (by decide) (by decide)) (cM 2 (by decide) (by decide) (by decide) (by decide))
  · exact rlI_d hN hX.2.1 (fun q h1 h2 => cC q (by omega)) (cM 19 (by decide) (by decide) (by decide) (by decide)) (cM 20 (by decide) (by decide) (by decide) (by decide))
  · exact rlB_d hX.2.2.1 (fun q h1 h2 => cC q (by omega)) (c0 28 (by omega) (by omega) (by omega)) (c0 35 (by omega) (by omega) (by omega)) (cM 13 (by decide) (by decide) (by decide) (by decide)) (cM 14 (by decide) (by decide) (by decide) (by decide)) (cM 15 (by decide) (by decide) (by decide) (by decide)) (cM 17 (by decide) (by decide) (by decide) (by decide)) (cM 18 (by decide) (by decide) (by decide) (by decide))
  · exact ⟨0, by omega, sI_i _ _ _ _, sI_i _ _ _ _, by rw [sI_j _ _ _ (by decide), sI_j _ _ _ (by decide), f32, h12], fun i hi => absurd hi (by omega)⟩
  · exact rlP_c hN hP (fun q h1 h2 => cC q (by omega)) (fun i _ => by rw [cM 3 (by decide) (by decide) (by decide) (by decide)])
  · exact rlU_c hN hU (fun q hq => cC q (by omega)) (c0 22 (by omega) (by omega) (by omega)) (cM 8 (by decide) (by decide) (by decide) (by decide))
  · exact rlS_c hS (by rw [cC 0 (by omega)]) (c0 9 (by omega) (by omega) (by omega))
theorem s_read_a (σ : cb_St) : ∃ σa, f_X5_read σ = cb_bv (f_X5_skipBlanks σa) (fun σ_5 => if (σ_5.1 3 3) ≤ (σ_5.1 3 5) then (f_X5_read_41 σ_5) else (cb_bv (f_X5_readAll σ_5) (fun σ_6 => f_X5_read_41 σ_6))) ∧ rdC σ σa ∧ σa.1 3 5 = zI ((0 : Nat) : Int) ∧ σa.1 3 1 = 0 ∧ σa.1 3 2 = zI (-1) ∧ σa.1 4 0 = 0 ∧ σa.1 4 1 = zI (-1) ∧ σa.1 4 2 = 0 ∧ σa.1 4 3 = 0 ∧ σa.1 4 4 = zI ((0 : Nat) : Int) ∧ σa.1 4 5 = zI ((0 : Nat) : Int) ∧ σa.2 4 = 0 := by
  unfold f_X5_read f_X6_clear
  rw [let_s, let_s, let_s, let_s, let_s, let_s, let_s, let_s, let_s, let_s, bv_s]
  refine ⟨_, rfl, ?_, ?_, ?_, ?_, ?_, ?_, ?_, ?_, ?_, ?_, ?_⟩
  · refine rdC_t (rdC_3 σ 5 _ (by decide)) (rdC_t (rdC_3 _ 1 _ (by decide)) (rdC_t (rdC_3 _ 2 _ (by decide)) (rdC_t (rdC_4 _ 4 0 _ (by omega)) (rdC_t (rdC_4 _ 4 1 _ (by omega)) (rdC_t (rdC_4 _ 4 2 _ (by omega)) (rdC_t (rdC_4 _ 4 3 _ (by omega)) (rdC_t (rdC_4 _ 4 4 _ (by omega)) (rdC_t (rdC_4 _ 4 5 _ (by omega)) ⟨fun q _ => by rw [sL_1], by rw [sL_n _ _ (by decide)], by rw [sL_1]⟩))))))))
  · simp (disch := omega) only [sL_1, sI_n, sI_j, sI_i]; rfl
  · simp (disch := omega) only [sL_1, sI_n, sI_j, sI_i]
  · simp (disch := omega) only [sL_1, sI_n, sI_j, sI_i]; exact zI_m1
  · simp (disch := omega) only [sL_1, sI_n, sI_j, sI_i]
  · simp (disch := omega) only [sL_1, sI_n, sI_j, sI_i]; exact zI_m1
  · simp (disch := omega) only [sL_1, sI_n, sI_j, sI_i]
  · simp (disch := omega) only [sL_1, sI_n, sI_j, sI_i]
  · simp (disch := omega) only [sL_1, sI_n, sI_j, sI_i]; rfl
  · simp (disch := omega) only [sL_1, sI_n, sI_j, sI_i]; rfl
  · exact sL_e _ _ _
theorem m_tab_a (τ : cb_St) : ∃ τa, f_X8_table τ = f_X8_table_27 cb_fu τa 0 ∧ scR τ τa ∧ τa.1 0 12 = zI (-1) ∧ τa.1 0 13 = zI ((0 : Nat) : Int) ∧ τa.1 0 16 = 0 ∧ τa.1 0 18 = zI ((0 : Nat) : Int) ∧ τa.1 0 21 = zI ((0 : Nat) : Int) := by
  unfold f_X8_table
  rw [let_s, let_s, let_s, let_s, let_s]
  refine ⟨_, rfl, ?_, ?_, ?_, ?_, ?_, ?_⟩
  · exact scR_t (scR_0 τ 12 _ (by omega)) (scR_t (scR_0 _ 13 _ (by omega)) (scR_t (scR_0 _ 16 _ (by omega)) (scR_t (scR_0 _ 18 _ (by omega)) (scR_0 _ 21 _ (by omega)))))
  · simp (disch := omega) only [sI_j, sI_i]; exact zI_m1
  · simp (disch := omega) only [sI_j, sI_i]; rfl
  · simp (disch := omega) only [sI_j, sI_i]
  · simp (disch := omega) only [sI_j, sI_i]; rfl
  · rw [sI_i]; rfl
theorem X7_table_e (σ : cb_St) : f_X7_table σ = cb_bv (f_X5_read σ) tbE := by
  unfold f_X7_table tbE; rfl
theorem X7_41 (σ : cb_St) : f_X5_read_41 σ = some (cb_sI σ 3 3 0) := by
  unfold f_X5_read_41; rw [let_s]
theorem q_table (h : Rel σ τ) : simI σ τ (f_X7_table σ) (f_X8_table τ) := by
  have h0 := h
  obtain ⟨N, Q, n, ml, pk, hd, u, z, hX, hP, hU, hS⟩ := h
  obtain ⟨L, l1, l2, l3, l4, l5⟩ := hX.2.2.2
  obtain ⟨T, hT⟩ : ∃ T : Nat → Nat, ∀ i, i < L → τ.1 4 i = zI ((T i : Nat) : Int) ∧ T i < 256 := by
    refine ⟨fun i => (τ.1 4 i).toNatClampNeg, fun i hi => ?_⟩
    obtain ⟨-, b, e, hb⟩ := l5 i hi
    show τ.1 4 i = zI (((τ.1 4 i).toNatClampNeg : Nat) : Int) ∧ (τ.1 4 i).toNatClampNeg < 256
    rw [e, zI_clamp (by omega) (by omega), Int.toNat_natCast]; exact ⟨rfl, hb⟩
  have xC : txC T L σ := ⟨l1, l2, fun i hi => by rw [(l5 i hi).1]; exact hT i hi⟩
  have xM : txM T L τ := ⟨l1, l3, hT⟩
  obtain ⟨σa, a1, a2, a5, a31, a32, a40, a41, a42, a43, a44, a45, a4L⟩ := s_read_a σ
  obtain ⟨τa, b1, b2, b12, b13, b16, b18, b21⟩ := m_tab_a τ
  have xCa := txC_rd xC a2
  have xMa := txM_sc xM b2
  obtain ⟨s1, s2⟩ := skp_rng T L 0 (by omega)
  have hss := skp_skp T L 0 (by omega)
  obtain ⟨gg, hgg⟩ : ∃ g, cb_fu = g + 1 := ⟨cb_fu - 1, by unfold cb_fu; omega⟩
  have hg2 : 1000 ≤ gg ∧ 1000 ≤ cb_fu := by have q := hgg; unfold cb_fu at q ⊢; omega
  rw [X7_table_e, a1, s_skip xCa a5 (by omega), bv_s, b1]
  rw [show f_X8_table_27 cb_fu τa 0 = f_X8_table_27 (gg + 1) τa 0 from by rw [hgg], f_X8_table_27, if_pos rfl, m_here xMa b13 (by omega), bi_s]
  have hrb : rdC σ (cb_sI σa 3 5 (zI (skp T L 0 : Nat))) := rdC_t a2 (rdC_3 _ _ _ (by decide))
  have hsb : scR τ (cb_sI τa 0 13 (zI (skp T L 0 : Nat))) := scR_t b2 (scR_0 _ 13 _ (by omega))
  generalize skp T L 0 = s at *
  rw [show (cb_sI σa 3 5 (zI (s : Int))).1 3 3 = zI L from by rw [sI_j _ _ _ (by decide)]; exact xCa.2.1, sI_i]
  by_cases g : s < L
  · rw [if_neg (show ¬ zI (L : Int) ≤ zI (s : Int) from by rw [zI_le (by omega) (by omega) (by omega) (by omega)]; omega), if_neg (show ¬ lt T L s < 0 from by
      unfold lt
      have := (hT s g).2
      rw [if_pos g, show (0 : Int32) = zI 0 from rfl, zI_lt (by omega) (by omega) (by omega) (by omega)]; omega)]
    have hPR : PR T L σ τ s (cb_sI (cb_sI σa 3 5 (zI (s : Int))) 4 0 1) (cb_sI τa 0 13 (zI (s : Int))) := by
      refine ⟨rdC_t hrb (rdC_4 _ 4 0 _ (by omega)), hsb, txC_rd (txC_5 xCa _) (rdC_4 _ 4 0 _ (by omega)), txM_13 xMa _, g, hss, ?_, sI_i _ _ _ _, ?_, ?_, ?_, sI_i _ _ _ _, ?_, ?_, ?_, ?_, ?_, ?_⟩
      · rw [sI_n _ _ _ (by decide), sI_i]
      · rw [sI_n _ _ _ (by decide), sI_j _ _ _ (by decide)]; exact a31
      · rw [sI_n _ _ _ (by decide), sI_j _ _ _ (by decide)]; exact a32
      · rw [sI_j _ _ _ (by decide)]; exact b12
      · rw [sI_j _ _ _ (by decide), sI_n _ _ _ (by decide)]; exact a44
      · rw [sI_j _ _ _ (by decide), sI_n _ _ _ (by decide)]; exact a45
      · rw [sI_2, sI_2]; exact a4L
      · rw [sI_j _ _ _ (by decide)]; exact b16
      · rw [sI_j _ _ _ (by decide)]; exact b18
      · rw [sI_j _ _ _ (by decide)]; exact b21
    have hok : okO T L σ τ s (f_X5_readRules (cb_sI (cb_sI σa 3 5 (zI (s : Int))) 4 0 1)) (f_X8_takeClause (cb_sI τa 0 13 (zI (s : Int)))) := by
      by_cases g2 : T s = 114
      · exact rl_yes hPR g2
      · exact rl_not hPR g2
    have hk := rd_step (L + 1) (rd_loop (L + 1)) s 0 cb_fu gg g l1 (by omega) (by omega) (by omega) (by omega) _ _ hok
    have eA : ∀ o, cb_bv (f_X5_readRules (cb_sI (cb_sI σa 3 5 (zI (s : Int))) 4 0 1)) (fun σ_1 => cb_bv (f_X5_skipBlanks σ_1) (fun σ_2 => f_X5_readAll_18 cb_fu σ_2 (zI ((0 : Nat) : Int)))) = some o → f_X5_readAll (cb_sI σa 3 5 (zI (s : Int))) = some o := by
      intro o ho
      unfold f_X5_readAll
      rw [let_s]
      exact ho
    rcases hk with ⟨σ1, τ1, k, m, k1, k2, k3⟩ | ⟨f, p, σ1, τ1, k1, k2, k3, k4, k5⟩
    · rw [eA _ k1, bv_s, X7_41, bv_s, k2]
      obtain ⟨r1, r2, r3, r4, r5, r6, r7, r8, r9, r10, r11⟩ := k3
      exact laid_rel h0 r1 r2 r8 r9 r10 (dtX_of r11)
    · rw [eA _ k1, bv_s, X7_41, bv_s, k3]
      exact fault_rel h0 k2 k4 k5
  · rw [if_pos (show zI (L : Int) ≤ zI (s : Int) from by rw [zI_le (by omega) (by omega) (by omega) (by omega)]; omega), if_pos (show lt T L s < 0 from by unfold lt; rw [if_neg g]; decide), X7_41, bv_s]
    refine laid_rel h0 (k := 0) (m := 0) hrb hsb (by rw [sI_j _ _ _ (by decide)]; exact a31) (by rw [sI_j _ _ _ (by decide)]; exact a32) (by rw [sI_j _ _ _ (by decide)]; exact b12) ⟨Or.inr ⟨?_, ?_, ?_, ?_, ?_, rfl, rfl⟩, ⟨by omega, by omega, ?_, ?_, ?_, ?_⟩, fun i hi => absurd hi (by omega), fun v hv => ?_⟩
    · rw [sI_n _ _ _ (by decide)]; exact a40
    · rw [sI_j _ _ _ (by decide)]; exact b16
    · rw [sI_n _ _ _ (by decide)]; exact a41
    · rw [sI_n _ _ _ (by decide)]; exact a42
    · rw [sI_n _ _ _ (by decide)]; exact a43
    · rw [sI_n _ _ _ (by decide)]; exact a44
    · rw [sI_j _ _ _ (by decide)]; exact b18
    · rw [sI_n _ _ _ (by decide)]; exact a45
    · rw [sI_j _ _ _ (by decide)]; exact b21
    · rw [sI_2, a4L, bL_0]
      exact ⟨fun q => absurd q (by decide), fun ⟨i, _, _, q, _⟩ => absurd q (by omega)⟩
end TB
