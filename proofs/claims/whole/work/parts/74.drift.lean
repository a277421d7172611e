/-! ===== evenings by draws ===== -/
def relB (N Q u x : Nat) (σ τ : cb_St) : Prop := ∃ (n ml : Nat) (pk : Nat → Nat) (hd : Nat → Int), rlX N Q σ τ ∧ rlP N Q σ 13 (τ.1 3) n ml pk hd ∧ rlU N Q σ τ u x ∧ rlS σ τ
theorem relB_R {N Q u x : Nat} {σ τ : cb_St} (h : relB N Q u x σ τ) : Rel σ τ := by
  obtain ⟨n, ml, pk, hd, h1, h2, h3, h4⟩ := h
  exact ⟨N, Q, n, ml, pk, hd, u, x, h1, h2, h3, h4⟩
section OP
variable {N Q u x : Nat} {σ τ : cb_St}
theorem relB_fr {n ml : Nat} {pk : Nat → Nat} {hd : Nat → Int} {σ' τ' : cb_St} (hX : rlX N Q σ τ) (hU : rlU N Q σ τ u x) (hS : rlS σ τ) (fc : frC σ σ') (fm : frM τ τ') (hP : rlP N Q σ' 13 (τ'.1 3) n ml pk hd) : relB N Q u x σ' τ' := by
  obtain ⟨h1, h2, h3⟩ := fr_rel hX hU hS fc fm
  exact ⟨n, ml, pk, hd, h1, hP, h2, h3⟩
theorem r_seed (h : relB N Q u x σ τ) (m : Nat) (hm : 1 ≤ m) (hm2 : m ≤ 6) : ∃ (r : Nat) (σ' τ' : cb_St), r < m ∧ f_X7_nextDraw (zI m) σ = some (zI r, σ') ∧ f_X8_draw (zI m) τ = some (zI r, τ') ∧ relB N Q u x σ' τ' := by
  obtain ⟨n, ml, pk, hd, hX, hP, hU, hS⟩ := h
  have hN := hX.1.1
  obtain ⟨s1, a, s2, s3⟩ := hS
  have hlt : (a * 1103515245 + 12345) % 2147483648 < 2147483648 := Nat.mod_lt _ (by omega)
  have e1 := seed_i a s3
  have e2 := seed_l a s3
  generalize (a * 1103515245 + 12345) % 2147483648 = a' at e1 e2 hlt
  have hd65 : a' / 65536 < 32768 := by omega
  have er : zI (a' : Int) / 65536 - zI (a' : Int) / 65536 / zI m * zI m = zI ((a' / 65536 % m : Nat) : Int) := by
    rw [show (65536 : Int32) = zI 65536 from rfl, zI_div (by omega) (by omega) (by omega) (by omega)]
    rw [show (a' : Int) / 65536 = ((a' / 65536 : Nat) : Int) from by omega]
    rw [zI_div (by omega) (by omega) (by omega) (by omega), zI_mul, zI_sub]
    congr 1
    generalize a' / 65536 = b
    rw [← Int.natCast_ediv, ← Int.natCast_mul]
    have := Nat.div_add_mod b m
    have h2 : b / m * m = m * (b / m) := Nat.mul_comm _ _
    omega
  have hne : ¬ zI (m : Int) = 0 := by rw [show (0 : Int32) = zI 0 from rfl, zI_inj (by omega) (by omega) (by omega) (by omega)]; omega
  refine ⟨a' / 65536 % m, cb_sI σ 0 0 (zI a'), cb_sI τ 0 9 (zI a'), Nat.mod_lt _ (by omega), ?_, ?_, n, ml, pk, hd, ?_, ?_, ?_, ?_⟩
  · unfold f_X7_nextDraw
    rw [let_s, s1, s2, e1, if_pos (by rw [show (0 : Int32) = zI 0 from rfl, zI_lt (by omega) (by omega) (by omega) (by omega)]; omega), ck_t _ hne, sI_e, upd_e, er]
  · unfold f_X8_draw
    rw [let_s, s2, e2, ck_t _ hne, sI_e, upd_e, er]
  · exact rlX_c hX ⟨sI_2 _ _ _ _, fun q h => sI_n _ _ _ (by omega)⟩ ⟨fun j h => by rw [sI_e, upd_n _ _ (by omega)], fun q h => sI_n _ _ _ (by omega)⟩
  · exact rlP_c hN hP (fun q h1 h2 => sI_n _ _ _ (by omega)) (fun i _ => by rw [sI_n _ _ _ (by decide)])
  · exact rlU_c hN hU (fun q h => sI_n _ _ _ (by omega)) (by rw [sI_e, upd_n _ _ (by decide)]) (sI_n _ _ _ (by decide))
  · exact ⟨by rw [sI_e, sI_e, upd_e, upd_e], a', by rw [sI_e, upd_e], hlt⟩
/-- one thing happens -/
theorem r_once (h : relB N Q u x σ τ) (hQ0 : 1 ≤ Q) : ∃ (σ' τ' : cb_St), f_X7_driftOnce σ = some σ' ∧ f_X8_happen τ = some τ' ∧ relB N Q u x σ' τ' := by
  have h9 : σ.1 9 5 = zI Q := by obtain ⟨n, ml, pk, hd, hX, -⟩ := h; exact hX.1.2.2.2.2.1
  have h7 : τ.1 0 7 = zI Q := by obtain ⟨n, ml, pk, hd, hX, -⟩ := h; exact hX.1.2.2.2.2.2.1
  have hQ : Q ≤ 6 := by obtain ⟨n, ml, pk, hd, hX, -⟩ := h; exact hX.1.2.1
  obtain ⟨p, σ1, τ1, hp, e1, e2, hB1⟩ := r_seed h Q hQ0 hQ
  obtain ⟨w, σ2, τ2, hw, e3, e4, hB2⟩ := r_seed hB1 5 (by omega) (by omega)
  unfold f_X7_driftOnce f_X8_happen
  rw [h9, h7, e1, e2, bi_s, bi_s]
  rw [show (5 : Int32) = zI ((5 : Nat) : Int) from rfl, e3, e4, bi_s, bi_s]
  have hB2' := hB2
  obtain ⟨n, ml, pk, hd, hX, hP, hU, hS⟩ := hB2
  have hN := hX.1.1
  have h92 : σ2.1 9 5 = zI Q := hX.1.2.2.2.2.1
  have h72 : τ2.1 0 7 = zI Q := hX.1.2.2.2.2.2.1
  obtain ⟨c1, c2, c3, c4⟩ := hP.2.2.2.2.2.2.2.2.1 p (by omega)
  have hn := hP.1
  have hw5 : w = 0 ∨ w = 1 ∨ w = 2 ∨ w = 3 ∨ w = 4 := by omega
  have hdraw : ∃ (σ' τ' : cb_St), (cb_bi (f_X4_draw 13 (zI p) σ2) (fun r_14 σ_15 => some σ_15)) = some σ' ∧ (cb_bp (f_X8_canDraw (zI p) τ2) (fun r_5 => if r_5 = 0 then (some τ2) else (cb_bi (f_X8_takeAt 0 τ2) (fun r_6 σ_7 => cb_ck (0 ≤ Int32.toInt (13 + zI p) ∧ Int32.toInt (13 + zI p) < 51) (cb_let (cb_sI σ_7 3 (Int32.toNatClampNeg (13 + zI p)) r_6) (fun σ_8 => some σ_8)))))) = some τ' ∧ relB N Q u x σ' τ' := by
    rw [m_canDraw τ2 p (by omega) hP.2.2.2.1 (by omega) c2 c3 (by omega), bp_s]
    by_cases hcd : hd p = -1 ∧ 0 < n
    · obtain ⟨σ3, τ3, f1, f2, fc, fm, hP3⟩ := r_draw hN hQ hP p (by omega) hcd.1 hcd.2
      rw [if_pos hcd, if_neg z10, f1, f2, bi_s, bi_s, e13p]
      simp (disch := omega) only [zI_ck, zI_clamp, Int.toNat_natCast, let_s]
      exact ⟨_, _, rfl, rfl, relB_fr hX hU hS fc fm hP3⟩
    · have hcs := s_canDraw σ2 p (by omega) hP.2.2.1 (by omega) c1 c3 (by omega)
      rw [if_neg hcd] at hcs
      rw [if_neg hcd, if_pos z00]
      unfold f_X4_draw
      rw [hcs, bp_s, if_pos z00, bi_s]
      exact ⟨_, _, rfl, rfl, hB2'⟩
  rcases hw5 with rfl | rfl | rfl | rfl | rfl
  · obtain ⟨σ', τ', r1, r2, r3⟩ := hdraw
    refine ⟨σ', τ', ?_, ?_, r3⟩
    · rw [if_neg (by decide)]; exact r1
    · rw [if_neg (by decide)]; exact r2
  · obtain ⟨σ', τ', r1, r2, r3⟩ := hdraw
    refine ⟨σ', τ', ?_, ?_, r3⟩
    · rw [if_neg (by decide)]; exact r1
    · rw [if_neg (by decide)]; exact r2
  · rw [if_pos (by decide), if_pos (show zI ((2 : Nat) : Int) = 2 from rfl), if_pos (by decide)]
    unfold f_X8_happen_45
    rw [if_pos (show zI ((2 : Nat) : Int) = 2 from rfl), e13p]
    simp (disch := omega) only [zI_ck, zI_clamp, Int.toNat_natCast, c2]
    by_cases hd1 : hd p = -1
    · rw [if_pos (by rw [show (0 : Int32) = zI 0 from rfl, zI_lt (by omega) (by omega) (by omega) (by omega)]; omega)]
      unfold f_X8_happen_70
      rw [if_neg (by decide), if_neg (by decide)]
      unfold f_X4_giveBack f_X4_giveBack_16
      rw [s_layDown σ2 p (by omega), bi_s, c1, hd1, if_pos zI_m1.symm, bi_s, sI_id σ2 _ _ _ (by rw [c1, hd1])]
      exact ⟨_, _, rfl, rfl, hB2'⟩
    · rw [if_neg (by rw [show (0 : Int32) = zI 0 from rfl, zI_lt (by omega) (by omega) (by omega) (by omega)]; omega)]
      obtain ⟨c, hc⟩ := Int.eq_ofNat_of_zero_le (show 0 ≤ hd p by omega)
      obtain ⟨σ3, τ3, f1, f2, fc, fm, hP3⟩ := r_giveBack hN hQ hP p c (by omega) hc
      rw [f1, f2, bi_s, bv_s]
      exact ⟨_, _, rfl, rfl, relB_fr hX hU hS fc fm hP3⟩
  · rw [if_pos (by decide), if_neg (by decide), if_pos (show zI ((3 : Nat) : Int) = 3 from rfl), if_pos (by decide)]
    unfold f_X8_happen_45
    rw [if_neg (by decide)]
    unfold f_X8_happen_70
    rw [if_pos (show zI ((3 : Nat) : Int) = 3 from rfl), h92, h72]
    obtain ⟨q, σ3, τ3, hq, e5, e6, hB3⟩ := r_seed hB2' Q hQ0 hQ
    rw [e5, e6, bi_s, bi_s]
    by_cases hpq : p = q
    · subst hpq
      rw [if_pos rfl, if_pos rfl]
      exact ⟨_, _, rfl, rfl, hB3⟩
    · rw [if_neg (by rw [zI_inj (by omega) (by omega) (by omega) (by omega)]; omega), if_neg (by rw [zI_inj (by omega) (by omega) (by omega) (by omega)]; omega)]
      obtain ⟨n3, ml3, pk3, hd3, hX3, hP3, hU3, hS3⟩ := hB3
      obtain ⟨w3, σ4, τ4, -, f1, f2, fc, fm, hP4⟩ := r_meet (u := 0) (x := 0) hX3.1 hP3 p q hp hq
      rw [f1, f2, bi_s, bi_s]
      exact ⟨_, _, rfl, rfl, relB_fr hX3 hU3 hS3 fc fm hP4⟩
  · rw [if_pos (by decide), if_neg (by decide), if_neg (by decide), if_pos (by decide)]
    unfold f_X8_happen_45
    rw [if_neg (by decide)]
    unfold f_X8_happen_70
    rw [if_neg (by decide), if_pos (show zI ((4 : Nat) : Int) = 4 from rfl)]
    obtain ⟨k, σ3, τ3, hk, e5, e6, hB3⟩ := r_seed hB2' 3 (by omega) (by omega)
    rw [show (3 : Int32) = zI ((3 : Nat) : Int) from rfl, e5, e6, bi_s, bi_s]
    obtain ⟨n3, ml3, pk3, hd3, hX3, hP3, hU3, hS3⟩ := hB3
    obtain ⟨σ4, τ4, f1, f2, fc, fm, hP4⟩ := r_mix hN hP3 k hk
    rw [f1, f2, bv_s, bv_s]
    exact ⟨_, _, rfl, rfl, relB_fr hX3 hU3 hS3 fc fm hP4⟩
theorem r_who (h : relB N Q u x σ τ) : ∃ r, f_X4_holders 13 σ = some r ∧ f_X8_whoAreCards τ = some r := by
  obtain ⟨n, ml, pk, hd, hX, hP, hU, hS⟩ := h
  exact ⟨_, c_holders hX.1.1 hP, m_whoAre hX.1 hP⟩
theorem r_drift (cnt : Nat) (hc : cnt ≤ 60) (hQ0 : 1 ≤ Q) : ∀ (m i fu fv : Nat) (σ τ : cb_St), relB N Q u x σ τ → i + m = cnt → m < fu → m < fv → simI σ τ (f_X7_drift_50 (zI cnt) fu σ (zI i)) (f_X8_drift_31 (zI cnt) fv τ (zI i)) := by
  intro m
  induction m with
  | zero =>
    intro i fu fv σ τ h e hf hg
    obtain ⟨fu, rfl⟩ : ∃ g, fu = g + 1 := ⟨fu - 1, by omega⟩
    obtain ⟨fv, rfl⟩ : ∃ g, fv = g + 1 := ⟨fv - 1, by omega⟩
    obtain ⟨r, r1, r2⟩ := r_who h
    rw [f_X7_drift_50, f_X8_drift_31]
    have hle : zI (cnt : Int) ≤ zI (i : Int) := by rw [zI_le (by omega) (by omega) (by omega) (by omega)]; omega
    rw [if_pos hle, if_pos hle]
    unfold f_X7_drift_65 f_X8_drift_53
    rw [r1, r2, bp_s, bp_s]
    exact ⟨_, _, _, rfl, rfl, relB_R h⟩
  | succ m ih =>
    intro i fu fv σ τ h e hf hg
    obtain ⟨fu, rfl⟩ : ∃ g, fu = g + 1 := ⟨fu - 1, by omega⟩
    obtain ⟨fv, rfl⟩ : ∃ g, fv = g + 1 := ⟨fv - 1, by omega⟩
    obtain ⟨σ1, τ1, e1, e2, hB⟩ := r_once h hQ0
    have h7 : τ.1 0 7 = zI Q := by obtain ⟨n, ml, pk, hd, hX, -⟩ := h; exact hX.1.2.2.2.2.2.1
    have hQ : Q ≤ 6 := by obtain ⟨n, ml, pk, hd, hX, -⟩ := h; exact hX.1.2.1
    have hle : ¬ zI (cnt : Int) ≤ zI (i : Int) := by rw [zI_le (by omega) (by omega) (by omega) (by omega)]; omega
    have ei : zI (i : Int) + 1 = zI ((i + 1 : Nat) : Int) := by rw [show (1 : Int32) = zI 1 from rfl, zI_add, al_1]
    rw [f_X7_drift_50, f_X8_drift_31, if_neg hle, if_neg hle, h7, if_neg (by rw [show (0 : Int32) = zI 0 from rfl, zI_le (by omega) (by omega) (by omega) (by omega)]; omega), e1, e2, bv_s, bv_s, let_s, let_s, ei]
    exact ih (i + 1) fu fv σ1 τ1 hB (by omega) (by omega) (by omega)
end OP
theorem q_drift {σ τ : cb_St} (h : Rel σ τ) (y : Int32) : simI σ τ (f_X7_drift y σ) (f_X8_drift y τ) := by
  have h0 := h
  obtain ⟨N, Q, n, ml, pk, hd, u, z, hX, hP, hU, hS⟩ := h
  have hN := hX.1.1
  have hQ := hX.1.2.1
  obtain ⟨a, rfl, g1, g2⟩ := zI_ex y
  unfold f_X7_drift f_X7_drift_11 f_X8_drift
  rw [s_in, bp_s, zI_64 g1 g2, show (1 : Int64).toInt = 1 from by decide, show (60 : Int64).toInt = 60 from by decide, stands_eq hX.1]
  have c1 : (zI a < 1) = (a < 1) := by rw [show (1 : Int32) = zI 1 from rfl, zI_lt g1 g2 (by omega) (by omega)]
  have c2 : (zI a ≤ 60) = (a ≤ 60) := by rw [show (60 : Int32) = zI 60 from rfl, zI_le g1 g2 (by omega) (by omega)]
  simp only [c1, c2]
  by_cases hp : 1 ≤ a ∧ a ≤ 60
  · rw [if_neg (by omega), if_pos (by omega), if_pos hp, if_neg z10]
    obtain ⟨k, rfl⟩ := Int.eq_ofNat_of_zero_le (show 0 ≤ a by omega)
    by_cases ht : τ.1 0 0 = 0
    · rw [if_pos ht, if_pos ht]; exact sim_no h0
    · rw [if_neg ht, if_neg ht]
      obtain ⟨σ1, τ1, u', y', e1, e2, hX1, hP1, hU1, hS1⟩ := r_push hX hP hU hS
      have hB : relB N Q u' y' σ1 τ1 := ⟨n, ml, pk, hd, hX1, hP1, hU1, hS1⟩
      rw [e1, e2, bv_s, bv_s, hX1.1.2.2.2.2.1]
      by_cases hQ0 : Q = 0
      · obtain ⟨r, r1, r2⟩ := r_who hB
        rw [if_pos (by rw [hQ0]; decide), show cb_fu = 99999 + 1 from rfl, f_X8_drift_31]
        unfold f_X7_drift_65 f_X8_drift_53
        rw [hX1.1.2.2.2.2.2.1, if_neg (by rw [show (0 : Int32) = zI 0 from rfl, zI_le (by omega) (by omega) (by omega) (by omega)]; omega), if_pos (by rw [hQ0]; decide), r1, r2, bp_s, bp_s]
        exact ⟨_, _, _, rfl, rfl, relB_R hB⟩
      · rw [if_neg (by rw [show (0 : Int32) = zI 0 from rfl, zI_le (by omega) (by omega) (by omega) (by omega)]; omega)]
        exact r_drift k (by omega) (by omega) k 0 cb_fu cb_fu σ1 τ1 hB (by omega) (by unfold cb_fu; omega) (by unfold cb_fu; omega)
  · rw [if_neg hp, if_pos z00]
    by_cases g : a < 1
    · rw [if_pos g]; exact sim_no h0
    · rw [if_neg g, if_neg (by omega)]; exact sim_no h0
