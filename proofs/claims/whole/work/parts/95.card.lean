/-! ===== the clause of a card on both sides ===== -/
theorem sL_1 (σ : cb_St) (k : Nat) (v : Int64) : (cb_sL σ k v).1 = σ.1 := rfl
theorem sL_e (σ : cb_St) (k : Nat) (v : Int64) : (cb_sL σ k v).2 k = v := by simp [cb_sL]
theorem sL_n (σ : cb_St) {k q : Nat} (v : Int64) (h : q ≠ k) : (cb_sL σ k v).2 q = σ.2 q := by simp [cb_sL, h]
theorem s_addCard (σ : cb_St) (k : Nat) (hk : k < 12) (h : σ.1 4 4 = zI k) (r q o : Nat) (ho : o + 1 = 13 * q + r) : f_X6_addCard 4 (zI r) (zI q) σ = some (cb_sL (cb_sI (cb_sI (cb_sI σ 5 k (zI r)) 6 k (zI q)) 4 4 (zI ((k + 1 : Nat) : Int))) 4 (σ.2 4 ||| ((1 : Int64) <<< (Int32.toInt64 (zI o) &&& 63)))) := by
  have e1 : zI (k : Int) + 1 = zI ((k + 1 : Nat) : Int) := by rw [show (1 : Int32) = zI 1 from rfl, zI_add, al_1]
  have eo : ((13 : Int32) * zI q) + zI r - 1 = zI (o : Int) := by
    rw [show (13 : Int32) = zI 13 from rfl, show (1 : Int32) = zI 1 from rfl, zI_mul, zI_add, zI_sub]; congr 1; omega
  unfold f_X6_addCard f_X6_oneOfAll
  rw [h, if_neg (by rw [show (0 : Int32) = zI 0 from rfl, zI_lt (by omega) (by omega) (by omega) (by omega)]; omega), if_neg (by rw [show (12 : Int32) = zI 12 from rfl, zI_le (by omega) (by omega) (by omega) (by omega)]; omega), zI_ck _ (by omega) (by omega) (by omega), zI_clamp (by omega) (by omega), Int.toNat_natCast, let_s]
  rw [show (cb_sI σ (4 + 1) k (zI (r : Int))).1 4 4 = zI k from by rw [sI_n _ _ _ (by decide)]; exact h, zI_ck _ (by omega) (by omega) (by omega), zI_clamp (by omega) (by omega), Int.toNat_natCast, let_s]
  rw [show (cb_sI (cb_sI σ (4 + 1) k (zI (r : Int))) (4 + 2) k (zI (q : Int))).1 4 4 = zI k from by rw [sI_n _ _ _ (by decide), sI_n _ _ _ (by decide)]; exact h, e1, let_s, bp_s, eo, let_s]
  rw [sI_2, sI_2, sI_2]
section CA
variable {T : Nat → Nat} {L : Nat} {σ0 τ0 σ τ σ' τ' : cb_St} {a k m : Nat}
theorem dup_told (h : dtR σ τ k m) (hk : k < 12) (r q o : Nat) (h1 : 1 ≤ r) (h2 : r ≤ 13) (h3 : q ≤ 3) (ho : o + 1 = 13 * q + r) (t6 : τ'.1 6 = upd (τ.1 6) k (zI r)) (t7 : τ'.1 7 = upd (τ.1 7) k (zI q)) : mO (dup τ' k) 0 k = bL (σ.2 4) o := by
  obtain ⟨-, -, -, d, e⟩ := h
  rw [Bool.eq_iff_iff, e o (by omega), mO_i]
  constructor
  · rintro ⟨j, -, j2, j3⟩
    unfold dup at j3
    rw [t6, t7, upd_e, upd_e, upd_n _ _ (by omega), upd_n _ _ (by omega), Bool.and_eq_true, decide_eq_true_eq, decide_eq_true_eq] at j3
    exact ⟨j, r, q, by omega, j3.1, j3.2, h1, h2, h3, by omega⟩
  · rintro ⟨j, r', q', j1, j2, j3, g1, g2, g3, g4⟩
    refine ⟨j, by omega, by omega, ?_⟩
    have er : r' = r := by omega
    have eq : q' = q := by omega
    unfold dup
    rw [t6, t7, upd_e, upd_e, upd_n _ _ (by omega), upd_n _ _ (by omega), j2, j3, er, eq]
    simp
theorem cl_card (h : RD T L σ0 τ0 a k m σ τ) (hs : skp T L a < L) (hc : T (skp T L a) = 99) : okO T L σ0 τ0 (skp T L a) (f_X5_readCard σ) (f_X8_takeClause_62 (cb_sI τ 0 13 (zI (skp T L a : Nat))) 1) := by
  obtain ⟨r1, r2, r3, r4, r5, r6, r7, r8, r9, r10, r11⟩ := h
  have hL := r3.1
  obtain ⟨-, -, ⟨c1, c2, c3, c4, c5, c6⟩, -, -⟩ := id r11
  generalize skp T L a = s at *
  have hss : skp T L s = s := skp_at T L s hs (by omega)
  have e1 : zI (s : Int) + 1 = zI ((s + 1 : Nat) : Int) := by rw [show (1 : Int32) = zI 1 from rfl, zI_add, al_1]
  have ek1 : zI (k : Int) + 1 = zI ((k + 1 : Nat) : Int) := by rw [show (1 : Int32) = zI 1 from rfl, zI_add, al_1]
  unfold f_X5_readCard f_X8_takeClause_62
  rw [c3, if_neg (show ¬ (1 : Int32) = 0 from by decide), if_pos rfl, sI_j _ _ _ (show (18 : Nat) ≠ 13 by decide), c4]
  unfold f_X8_takeClause_109
  by_cases g : k = 12
  · subst g
    right
    rw [if_neg (show ¬ zI ((12 : Nat) : Int) < 12 from by decide), r6, show (3 : Int32) = zI ((3 : Nat) : Int) from rfl, s_fail, bv_s]
    obtain ⟨σ1, k1, k2⟩ := FC_c21 (FC_new r1 r3 r8 3 s (by omega) (by omega) (by omega) s (by omega) r6)
    unfold f_X8_fails
    rw [if_pos (show zI ((12 : Nat) : Int) = 12 from rfl), if_neg (show ¬ (1 : Int32) = 0 from by decide), sI_i, let_s, bi_s]
    exact ⟨3, s, σ1, _, k1, k2, rfl, scR_t r2 (scR_t (scR_0 _ 13 _ (by omega)) (scR_0 _ 12 _ (by omega))), sI_i _ _ _ _⟩
  · rw [if_pos (by rw [show (12 : Int32) = zI 12 from rfl, zI_lt (by omega) (by omega) (by omega) (by omega)]; omega), if_neg (show ¬ zI (k : Int) = 12 from by rw [show (12 : Int32) = zI 12 from rfl, zI_inj (by omega) (by omega) (by omega) (by omega)]; omega), if_pos rfl, let_s, sI_i, e1, sI_sI, if_neg (show ¬ (1 : Int32) = 0 from by decide), if_pos rfl]
    unfold f_X5_readCard_21 f_X8_takeCard f_X8_takeCard_47
    have hw1 := s_takeWord r3 r6 (by omega) 99 (by omega)
    rw [hss, if_pos ⟨hs, hc⟩] at hw1
    have hx1 := txC_5 r3 (zI ((s + 1 : Nat) : Int))
    have hn1 := s_number hx1 (sI_i _ _ _ _) (show s + 1 ≤ L by omega) 1 13 (by omega) (by omega) rfl rfl rfl
    rw [sI_sI] at hn1
    rw [show f_X5_takeWord 99 σ = _ from hw1, bv_s, show f_X5_number 1 13 (cb_sI σ 3 5 (zI ((s + 1 : Nat) : Int))) = _ from hn1, bi_s]
    rw [let_s, let_s, sI_j _ _ _ (show (18 : Nat) ≠ 13 by decide), c4, ek1]
    have hsc : scR τ (cb_sI (cb_sI τ 0 13 (zI ((s + 1 : Nat) : Int))) 0 18 (zI ((k + 1 : Nat) : Int))) := scR_t (scR_0 _ 13 _ (by omega)) (scR_0 _ 18 _ (by omega))
    obtain ⟨τ4, y1, y2, y3, y4⟩ := m_into (txM_sc r4 hsc) (show (cb_sI (cb_sI τ 0 13 (zI ((s + 1 : Nat) : Int))) 0 18 (zI ((k + 1 : Nat) : Int))).1 0 13 = zI ((s + 1 : Nat) : Int) from by rw [sI_j _ _ _ (by decide), sI_i]) (show s + 1 ≤ L by omega) 1 13 (by omega) (by omega) rfl rfl rfl 6 12 k (by omega) (by omega)
    rw [show f_X8_into 6 12 (zI k) 1 13 (cb_sI (cb_sI τ 0 13 (zI ((s + 1 : Nat) : Int))) 0 18 (zI ((k + 1 : Nat) : Int))) = _ from y1, bi_s]
    obtain ⟨q1, q2⟩ := skp_rng T L (s + 1) (by omega)
    generalize hs1 : skp T L (s + 1) = s1 at *
    have er1 := dgN_rng (T := T) (L - s1) s1
    generalize he1 : dgN T s1 (L - s1) = en1 at *
    have hv1 : vlN T s1 (min (en1 - s1) 3) < 1000 := vl_3 (L := L) he1.symm
    generalize vlN T s1 (min (en1 - s1) 3) = v1 at *
    have hsc4 := scR_t hsc (scR_n y2)
    by_cases n1 : nbF 1 13 s1 en1 v1 = 0
    · rw [if_pos n1, n1, if_pos (show zI ((0 : Nat) : Int) ≤ 0 from by decide)]
      obtain ⟨-, v1a, v1b⟩ := nb_0 n1
      obtain ⟨t12, t13, t14, t15⟩ := y3 n1
      have hx2 := txC_5 r3 (zI (en1 : Int))
      rw [s_skip hx2 (sI_i _ _ _ _) (by omega), bv_s, let_s, sI_i, sI_sI]
      obtain ⟨q3, q4⟩ := skp_rng T L en1 (by omega)
      have hsk := skp_skp T L en1 (by omega)
      have hx3 := txC_5 r3 (zI (skp T L en1 : Nat))
      have hn2 := s_number hx3 (sI_i _ _ _ _) q4 0 3 (by omega) (by omega) rfl rfl rfl
      rw [hsk, sI_sI] at hn2
      rw [show f_X5_number 0 3 (cb_sI σ 3 5 (zI (skp T L en1 : Nat))) = _ from hn2, bi_s]
      have hsc5 := scR_t hsc4 (scR_5 τ4 6 k (τ4.1 0 14) (by omega))
      obtain ⟨τ6, u1, u2, u3, u4⟩ := m_into (txM_sc r4 hsc5) (show (cb_sI τ4 6 k (τ4.1 0 14)).1 0 13 = zI (en1 : Int) from by rw [sI_n _ _ _ (by decide)]; exact t13) (show en1 ≤ L by omega) 0 3 (by omega) (by omega) rfl rfl rfl 7 12 k (by omega) (by omega)
      rw [show f_X8_into 7 12 (zI k) 0 3 (cb_sI τ4 6 k (τ4.1 0 14)) = _ from u1, bi_s]
      generalize hs2 : skp T L en1 = s2 at *
      have er2 := dgN_rng (T := T) (L - s2) s2
      generalize he2 : dgN T s2 (L - s2) = en2 at *
      have hv2 : vlN T s2 (min (en2 - s2) 3) < 1000 := vl_3 (L := L) he2.symm
      generalize vlN T s2 (min (en2 - s2) 3) = v2 at *
      have hsc6 := scR_t hsc5 (scR_n u2)
      have hsc7 := scR_t hsc6 (scR_5 τ6 7 k (τ6.1 0 14) (by omega))
      have i6 : τ6.1 6 = upd (τ.1 6) k (zI (v1 : Int)) := by
        rw [u2.2 6 (by decide), sI_e, y2.2 6 (by decide), sI_n _ _ _ (by decide), sI_n _ _ _ (by decide), t14]
      have i7 : τ6.1 7 = τ.1 7 := by
        rw [u2.2 7 (by decide), sI_n _ _ _ (by decide), y2.2 7 (by decide), sI_n _ _ _ (by decide), sI_n _ _ _ (by decide)]
      by_cases n2 : nbF 0 3 s2 en2 v2 = 0
      · rw [if_pos n2, n2]
        obtain ⟨-, v2a, v2b⟩ := nb_0 n2
        obtain ⟨w12, w13, w14, w15⟩ := u3 n2
        rw [sI_j _ _ _ (show (1 : Nat) ≠ 5 by decide), if_pos r8]
        unfold f_X6_oneOfAll
        obtain ⟨o, ho⟩ : ∃ o, o + 1 = 13 * v2 + v1 := ⟨13 * v2 + v1 - 1, by omega⟩
        have eo : ((13 : Int32) * zI (v2 : Int)) + zI (v1 : Int) - 1 = zI (o : Int) := by
          rw [show (13 : Int32) = zI 13 from rfl, show (1 : Int32) = zI 1 from rfl, zI_mul, zI_add, zI_sub]; congr 1; omega
        rw [bp_s, eo, s_hasTold4 4 o (by omega), bp_s, sI_2]
        have j6 : (cb_sI τ6 7 k (τ6.1 0 14)).1 6 = upd (τ.1 6) k (zI (v1 : Int)) := by rw [sI_n _ _ _ (by decide)]; exact i6
        have j7 : (cb_sI τ6 7 k (τ6.1 0 14)).1 7 = upd (τ.1 7) k (zI (v2 : Int)) := by rw [sI_e, i7, w14]
        have hdup := dup_told (τ' := cb_sI τ6 7 k (τ6.1 0 14)) r11 (by omega) v1 v2 o v1a v1b v2b ho j6 j7
        rw [show f_X8_takeCard_50 cb_fu (cb_sI τ6 7 k (τ6.1 0 14)) (zI k) (zI ((0 : Nat) : Int)) 0 = _ from m_tc_50 (cb_sI τ6 7 k (τ6.1 0 14)) k (by omega) k 0 cb_fu (by omega) (by unfold cb_fu; omega), hdup]
        by_cases tl : bL (σ.2 4) o = true
        · right
          rw [if_pos tl, if_neg z10, if_pos tl, show (4 : Int32) = zI ((4 : Nat) : Int) from rfl, s_fail, bv_s, bi_s, m_161_n _ 4 (by omega) (by omega)]
          obtain ⟨σ1, k1, k2⟩ := FC_79 (FC_new (T := T) (L := L) (rdC_t r1 (rdC_3 σ 5 (zI (en2 : Int)) (by decide))) (txC_5 r3 _) (by rw [sI_j _ _ _ (by decide)]; exact r8) 4 s2 (by omega) (by omega) (by omega) en2 (by omega) (sI_i _ _ _ _)) (zI v1) (zI v2)
          refine ⟨4, s2, σ1, _, k1, k2, rfl, scR_t r2 (scR_t hsc7 (scR_t (scR_0 _ 12 _ (by omega)) (scR_0 _ 13 _ (by omega)))), ?_⟩
          rw [sI_j _ _ _ (by decide), sI_i, sI_n _ _ _ (by decide), w15]
        · rw [if_neg tl, if_pos z00, if_neg tl, bi_s]
          unfold f_X5_readCard_79
          have hw2 := s_takeWord (txC_5 r3 (zI (en2 : Int))) (sI_i _ _ _ _) (show en2 ≤ L by omega) 59 (by omega)
          rw [sI_sI, sI_sI] at hw2
          obtain ⟨q5, q6⟩ := skp_rng T L en2 (by omega)
          rw [show f_X5_takeWord 59 (cb_sI σ 3 5 (zI (en2 : Int))) = _ from hw2, bv_s]
          rw [m_161_0 (txM_sc r4 hsc7) (show (cb_sI τ6 7 k (τ6.1 0 14)).1 0 13 = zI (en2 : Int) from by rw [sI_n _ _ _ (by decide)]; exact w13) (by omega)]
          by_cases g2 : skp T L en2 < L ∧ T (skp T L en2) = 59
          · left
            rw [if_pos g2, if_pos g2, sI_j _ _ _ (show (1 : Nat) ≠ 5 by decide), if_pos r8]
            generalize skp T L en2 = s3 at *
            rw [s_addCard (cb_sI σ 3 5 (zI ((s3 + 1 : Nat) : Int))) k (by omega) (by rw [sI_n _ _ _ (by decide)]; exact c3) v1 v2 o ho, bv_s]
            have hrd0 : rdC σ (cb_sL (cb_sI (cb_sI (cb_sI (cb_sI σ 3 5 (zI ((s3 + 1 : Nat) : Int))) 5 k (zI (v1 : Int))) 6 k (zI (v2 : Int))) 4 4 (zI ((k + 1 : Nat) : Int))) 4 ((cb_sI σ 3 5 (zI ((s3 + 1 : Nat) : Int))).2 4 ||| ((1 : Int64) <<< (Int32.toInt64 (zI (o : Int)) &&& 63)))) := by
              refine rdC_t (rdC_t (rdC_3 σ 5 _ (by decide)) (rdC_t (rdC_4 _ 5 k _ (by omega)) (rdC_t (rdC_4 _ 6 k _ (by omega)) (rdC_4 _ 4 4 _ (by omega))))) ⟨fun q _ => by rw [sL_1], by rw [sL_n _ _ (by decide)], by rw [sL_1]⟩
            have hsc8 := scR_t hsc7 (scR_0 (cb_sI τ6 7 k (τ6.1 0 14)) 13 (zI ((s3 + 1 : Nat) : Int)) (by omega))
            obtain ⟨σ2, z1, z2⟩ := RD_end (a := s3 + 1) (rdC_t r1 hrd0) (scR_t r2 hsc8) (txC_rd r3 hrd0) (txM_sc r4 hsc8) (by omega) (by rw [sL_1, sI_n _ _ _ (by decide), sI_n _ _ _ (by decide), sI_n _ _ _ (by decide), sI_i]) (sI_i _ _ _ _) (by rw [sL_1, sI_n _ _ _ (by decide), sI_n _ _ _ (by decide), sI_n _ _ _ (by decide), sI_j _ _ _ (by decide)]; exact r8) (by rw [sL_1, sI_n _ _ _ (by decide), sI_n _ _ _ (by decide), sI_n _ _ _ (by decide), sI_j _ _ _ (by decide)]; exact r9) (by rw [sI_j _ _ _ (by decide), sI_n _ _ _ (by decide), w12, sI_n _ _ _ (by decide), t12, sI_j _ _ _ (by decide), sI_j _ _ _ (by decide)]; exact r10) (dt_add (σ := σ) (τ := τ) r11 (by omega) v1 v2 v1a v1b v2b (by rw [sL_1, sI_e, sI_n _ _ _ (by decide), sI_n _ _ _ (by decide), sI_n _ _ _ (by decide)]) (by rw [sL_1, sI_n _ _ _ (by decide), sI_n _ _ _ (by decide), sI_e, sI_n _ _ _ (by decide)]) (by rw [sL_1, sI_n _ _ _ (by decide), sI_e, sI_n _ _ _ (by decide), sI_n _ _ _ (by decide)]) (fun j hj => by
                rw [sL_e, bL_or _ o (by omega) j hj, sI_2]
                congr 1
                rw [decide_eq_decide]; omega) (by rw [sI_j _ _ _ (by decide), sI_n _ _ _ (by decide), u2.1 16 (by decide) (by decide) (by decide) (by decide), sI_n _ _ _ (by decide), y2.1 16 (by decide) (by decide) (by decide) (by decide), sI_j _ _ _ (by decide), sI_j _ _ _ (by decide)]) (by rw [sI_j _ _ _ (by decide), sI_n _ _ _ (by decide), u2.1 18 (by decide) (by decide) (by decide) (by decide), sI_n _ _ _ (by decide), y2.1 18 (by decide) (by decide) (by decide) (by decide), sI_i]) (by rw [sI_j _ _ _ (by decide), sI_n _ _ _ (by decide), u2.1 21 (by decide) (by decide) (by decide) (by decide), sI_n _ _ _ (by decide), y2.1 21 (by decide) (by decide) (by decide) (by decide), sI_j _ _ _ (by decide), sI_j _ _ _ (by decide)]) (by rw [sI_n _ _ _ (by decide), sI_n _ _ _ (by decide), u2.2 5 (by decide), sI_n _ _ _ (by decide), y2.2 5 (by decide), sI_n _ _ _ (by decide), sI_n _ _ _ (by decide)]) (by rw [sI_n _ _ _ (by decide)]; exact j6) (by rw [sI_n _ _ _ (by decide)]; exact j7))
            exact ⟨_, σ2, _, s3 + 1, k + 1, m, rfl, z1, rfl, z2, by omega⟩
          · right
            rw [if_neg g2, if_neg g2]
            have hF := FC_new (T := T) (L := L) (rdC_t r1 (rdC_3 σ 5 (zI (skp T L en2 : Nat)) (by decide))) (txC_5 r3 _) (by rw [sI_j _ _ _ (by decide)]; exact r8) 1 (skp T L en2) (by omega) (by omega) (by omega) (skp T L en2) q6 (sI_i _ _ _ _)
            rw [if_neg (FC_ne hF)]
            exact ⟨1, skp T L en2, _, _, rfl, hF, rfl, scR_t r2 (scR_t hsc7 (scR_t (scR_0 _ 13 _ (by omega)) (scR_0 _ 12 _ (by omega)))), sI_i _ _ _ _⟩
      · right
        obtain ⟨f1, f2⟩ := nb_12 _ _ _ _ _ n2
        have hF := FC_new (T := T) (L := L) (rdC_t r1 (rdC_3 σ 5 (zI (en2 : Int)) (by decide))) (txC_5 r3 _) (by rw [sI_j _ _ _ (by decide)]; exact r8) (nbF 0 3 s2 en2 v2) s2 f1 f2 (by omega) en2 (by omega) (sI_i _ _ _ _)
        obtain ⟨σ1, k1, k2⟩ := FC_79 hF (zI v1) (zI v2)
        rw [if_neg n2, if_neg (FC_ne hF), m_tc_50n _ _ _ f1 f2, bi_s, m_161_n _ _ f1 f2]
        refine ⟨_, s2, σ1, _, k1, k2, rfl, scR_t r2 (scR_t hsc7 (scR_0 _ 13 _ (by omega))), ?_⟩
        rw [sI_j _ _ _ (by decide), sI_n _ _ _ (by decide)]; exact u4 n2
    · right
      obtain ⟨f1, f2⟩ := nb_12 _ _ _ _ _ n1
      have hF := FC_new (T := T) (L := L) (rdC_t r1 (rdC_3 σ 5 (zI (en1 : Int)) (by decide))) (txC_5 r3 _) (by rw [sI_j _ _ _ (by decide)]; exact r8) (nbF 1 13 s1 en1 v1) s1 f1 f2 (by omega) en1 (by omega) (sI_i _ _ _ _)
      obtain ⟨σ2, k1, k2⟩ := FC_skip hF
      obtain ⟨σ3, k3, k4⟩ := FC_suit k2 (zI v1) (σ2.1 3 5)
      rw [if_neg n1, k1, bv_s, let_s, if_neg (by rw [show (0 : Int32) = zI 0 from rfl, zI_le (by omega) (by omega) (by omega) (by omega)]; omega), m_tc_50n _ _ _ f1 f2, bi_s, m_161_n _ _ f1 f2]
      refine ⟨_, s1, σ3, _, k3, k4, rfl, scR_t r2 (scR_t hsc4 (scR_t (scR_5 _ 6 k _ (by omega)) (scR_0 _ 13 _ (by omega)))), ?_⟩
      rw [sI_j _ _ _ (by decide), sI_n _ _ _ (by decide)]; exact y4 n1
end CA
