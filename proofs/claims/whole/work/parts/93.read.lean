/-! ===== the text: after a fault; what both have read ===== -/
def rdC (σ σ' : cb_St) : Prop := (∀ q, ¬ (3 ≤ q ∧ q ≤ 7) → σ'.1 q = σ.1 q) ∧ σ'.2 9 = σ.2 9 ∧ σ'.1 3 3 = σ.1 3 3
theorem rdC_r (σ : cb_St) : rdC σ σ := ⟨fun _ _ => rfl, rfl, rfl⟩
theorem rdC_t {a b c : cb_St} (h1 : rdC a b) (h2 : rdC b c) : rdC a c := ⟨fun q g => (h2.1 q g).trans (h1.1 q g), h2.2.1.trans h1.2.1, h2.2.2.trans h1.2.2⟩
theorem rdC_3 (σ : cb_St) (j : Nat) (v : Int32) (h : j ≠ 3) : rdC σ (cb_sI σ 3 j v) := ⟨fun q g => sI_n _ _ _ (by omega), by rw [sI_2], sI_j _ _ _ (by omega)⟩
theorem rdC_4 (σ : cb_St) (k j : Nat) (v : Int32) (h : 4 ≤ k ∧ k ≤ 7) : rdC σ (cb_sI σ k j v) := ⟨fun q g => sI_n _ _ _ (by omega), by rw [sI_2], by rw [sI_n _ _ _ (by omega)]⟩
def scR (τ τ' : cb_St) : Prop := (∀ j, ¬ (12 ≤ j ∧ j ≤ 16) → j ≠ 18 → j ≠ 21 → τ'.1 0 j = τ.1 0 j) ∧ ∀ q, q ≠ 0 → q ≠ 5 → q ≠ 6 → q ≠ 7 → τ'.1 q = τ.1 q
theorem scR_r (τ : cb_St) : scR τ τ := ⟨fun _ _ _ _ => rfl, fun _ _ _ _ _ => rfl⟩
theorem scR_t {a b c : cb_St} (h1 : scR a b) (h2 : scR b c) : scR a c := ⟨fun j g1 g2 g3 => (h2.1 j g1 g2 g3).trans (h1.1 j g1 g2 g3), fun q g1 g2 g3 g4 => (h2.2 q g1 g2 g3 g4).trans (h1.2 q g1 g2 g3 g4)⟩
theorem scR_n {τ τ' : cb_St} (h : fN τ τ') : scR τ τ' := ⟨fun j g1 _ _ => h.1 j (by omega) (by omega) (by omega) (by omega), fun q g _ _ _ => h.2 q g⟩
theorem scR_0 (τ : cb_St) (j : Nat) (v : Int32) (h : (12 ≤ j ∧ j ≤ 16) ∨ j = 18 ∨ j = 21) : scR τ (cb_sI τ 0 j v) := ⟨fun i g1 g2 g3 => sI_j _ _ _ (by omega), fun q g _ _ _ => sI_n _ _ _ g⟩
theorem scR_5 (τ : cb_St) (k j : Nat) (v : Int32) (h : k = 5 ∨ k = 6 ∨ k = 7) : scR τ (cb_sI τ k j v) := ⟨fun i _ _ _ => by rw [sI_n _ _ _ (by omega)], fun q g g5 g6 g7 => sI_n _ _ _ (by omega)⟩
section RE
variable {T : Nat → Nat} {L : Nat} {σ0 τ0 σ τ σ' τ' : cb_St}
theorem txC_c (h : txC T L σ) (c33 : σ'.1 3 3 = σ.1 3 3) (c8 : σ'.1 8 = σ.1 8) : txC T L σ' := ⟨h.1, by rw [c33]; exact h.2.1, fun i hi => by rw [c8]; exact h.2.2 i hi⟩
theorem txC_rd (h : txC T L σ) (hc : rdC σ σ') : txC T L σ' := txC_c h hc.2.2 (hc.1 8 (by omega))
theorem txM_sc (h : txM T L τ) (hc : scR τ τ') : txM T L τ' := ⟨h.1, by rw [hc.1 11 (by omega) (by omega) (by omega)]; exact h.2.1, fun i hi => by rw [hc.2 4 (by omega) (by omega) (by omega) (by omega)]; exact h.2.2 i hi⟩
def FC (T : Nat → Nat) (L : Nat) (σ0 : cb_St) (f p : Nat) (σ : cb_St) : Prop := rdC σ0 σ ∧ txC T L σ ∧ 1 ≤ f ∧ f ≤ 4 ∧ p ≤ 240 ∧ σ.1 3 1 = zI f ∧ σ.1 3 2 = zI p ∧ ∃ a, a ≤ L ∧ σ.1 3 5 = zI a
variable {f p : Nat}
theorem FC_ne (h : FC T L σ0 f p σ) : ¬ σ.1 3 1 = 0 := by
  obtain ⟨-, -, h1, h2, -, h3, -⟩ := h
  rw [h3, show (0 : Int32) = zI 0 from rfl, zI_inj (by omega) (by omega) (by omega) (by omega)]; omega
theorem FC_fail (h : FC T L σ0 f p σ) (g q : Nat) : failS σ g q = σ := by unfold failS; rw [if_neg (FC_ne h)]
theorem FC_5 (h : FC T L σ0 f p σ) (a : Nat) (ha : a ≤ L) : FC T L σ0 f p (cb_sI σ 3 5 (zI a)) := by
  obtain ⟨h1, h2, h3, h4, h5, h6, h7, -⟩ := h
  exact ⟨rdC_t h1 (rdC_3 _ _ _ (by decide)), txC_5 h2 _, h3, h4, h5, by rw [sI_j _ _ _ (by decide)]; exact h6, by rw [sI_j _ _ _ (by decide)]; exact h7, a, ha, sI_i _ _ _ _⟩
theorem FC_4 (h : FC T L σ0 f p σ) (j : Nat) (v : Int32) : FC T L σ0 f p (cb_sI σ 4 j v) := by
  obtain ⟨h1, h2, h3, h4, h5, h6, h7, a, ha, h8⟩ := h
  have hc := rdC_4 σ 4 j v (by omega)
  exact ⟨rdC_t h1 hc, txC_rd h2 hc, h3, h4, h5, by rw [sI_n _ _ _ (by decide)]; exact h6, by rw [sI_n _ _ _ (by decide)]; exact h7, a, ha, by rw [sI_n _ _ _ (by decide)]; exact h8⟩
theorem FC_new (h1 : rdC σ0 σ) (h2 : txC T L σ) (h3 : σ.1 3 1 = 0) (f p : Nat) (hf : 1 ≤ f) (hf4 : f ≤ 4) (hp : p ≤ 240) (a : Nat) (ha : a ≤ L) (h5 : σ.1 3 5 = zI a) : FC T L σ0 f p (failS σ f p) := by
  unfold failS
  rw [if_pos h3]
  have hc := rdC_t (rdC_3 σ 1 (zI f) (by decide)) (rdC_3 _ 2 (zI p) (by decide))
  exact ⟨rdC_t h1 hc, txC_rd h2 hc, hf, hf4, hp, by rw [sI_j _ _ _ (by decide), sI_i], sI_i _ _ _ _, a, ha, by rw [sI_j _ _ _ (by decide), sI_j _ _ _ (by decide)]; exact h5⟩
theorem FC_skip (h : FC T L σ0 f p σ) : ∃ σ', f_X5_skipBlanks σ = some σ' ∧ FC T L σ0 f p σ' := by
  obtain ⟨a, ha, h5⟩ := h.2.2.2.2.2.2.2
  exact ⟨_, s_skip h.2.1 h5 ha, FC_5 h _ (skp_rng T L a ha).2⟩
theorem FC_word (h : FC T L σ0 f p σ) (c : Nat) (hc : c < 256) : ∃ σ', f_X5_takeWord (zI c) σ = some σ' ∧ FC T L σ0 f p σ' := by
  obtain ⟨a, ha, h5⟩ := h.2.2.2.2.2.2.2
  obtain ⟨s1, s2⟩ := skp_rng T L a ha
  refine ⟨_, s_takeWord h.2.1 h5 ha c hc, ?_⟩
  by_cases g : skp T L a < L ∧ T (skp T L a) = c
  · rw [if_pos g]; exact FC_5 h _ (by omega)
  · rw [if_neg g, FC_fail (FC_5 h _ s2)]; exact FC_5 h _ s2
theorem FC_num (h : FC T L σ0 f p σ) (lo hi : Nat) (hlo : lo < 1000) (hhi : hi < 1000) : ∃ v σ', f_X5_number (zI lo) (zI hi) σ = some (v, σ') ∧ FC T L σ0 f p σ' := by
  obtain ⟨a, ha, h5⟩ := h.2.2.2.2.2.2.2
  obtain ⟨s1, s2⟩ := skp_rng T L a ha
  have er := dgN_rng (T := T) (L - skp T L a) (skp T L a)
  refine ⟨_, _, s_number h.2.1 h5 ha lo hi hlo hhi rfl rfl rfl, ?_⟩
  have h2 := FC_5 h (dgN T (skp T L a) (L - skp T L a)) (by omega)
  split
  · exact h2
  · rw [FC_fail h2]; exact h2
theorem FC_79 (h : FC T L σ0 f p σ) (x y : Int32) : ∃ σ', f_X5_readCard_79 σ x y = some σ' ∧ FC T L σ0 f p σ' := by
  obtain ⟨σ1, k1, k2⟩ := FC_word h 59 (by omega)
  refine ⟨σ1, ?_, k2⟩
  unfold f_X5_readCard_79
  rw [show f_X5_takeWord 59 σ = _ from k1, bv_s, if_neg (FC_ne k2)]
/-- the rest of a card, from its suit on -/
theorem FC_suit (h : FC T L σ0 f p σ) (x y : Int32) : ∃ σ', (cb_bi (f_X5_number 0 3 σ) (fun r_6 σ_7 => if (σ_7.1 3 1) = 0 then (cb_bp (f_X6_oneOfAll x r_6 σ_7) (fun r_8 => cb_bp (f_X6_hasTold 4 r_8 σ_7) (fun r_9 => if r_9 = 0 then (f_X5_readCard_79 σ_7 x r_6) else (cb_bv (f_X5_fail 4 y σ_7) (fun σ_10 => f_X5_readCard_79 σ_10 x r_6))))) else (f_X5_readCard_79 σ_7 x r_6))) = some σ' ∧ FC T L σ0 f p σ' := by
  obtain ⟨v, σ1, k1, k2⟩ := FC_num h 0 3 (by omega) (by omega)
  obtain ⟨σ2, j1, j2⟩ := FC_79 k2 x v
  refine ⟨σ2, ?_, j2⟩
  rw [show f_X5_number 0 3 σ = _ from k1, bi_s, if_neg (FC_ne k2), j1]
theorem FC_c21 (h : FC T L σ0 f p σ) : ∃ σ', f_X5_readCard_21 σ = some σ' ∧ FC T L σ0 f p σ' := by
  obtain ⟨σ1, k1, k2⟩ := FC_word h 99 (by omega)
  obtain ⟨v, σ2, j1, j2⟩ := FC_num k2 1 13 (by omega) (by omega)
  obtain ⟨σ3, y1, y2⟩ := FC_skip j2
  obtain ⟨σ4, z1, z2⟩ := FC_suit y2 v (σ3.1 3 5)
  refine ⟨σ4, ?_, z2⟩
  unfold f_X5_readCard_21
  rw [show f_X5_takeWord 99 σ = _ from k1, bv_s, show f_X5_number 1 13 σ1 = _ from j1, bi_s, y1, bv_s, let_s, z1]
theorem FC_p21 (h : FC T L σ0 f p σ) : ∃ σ', f_X5_readPerson_21 σ = some σ' ∧ FC T L σ0 f p σ' := by
  obtain ⟨σ1, k1, k2⟩ := FC_word h 112 (by omega)
  obtain ⟨σ2, j1, j2⟩ := FC_word k2 59 (by omega)
  refine ⟨σ2, ?_, j2⟩
  unfold f_X5_readPerson_21
  rw [show f_X5_takeWord 112 σ = _ from k1, bv_s, show f_X5_takeWord 59 σ1 = _ from j1, bv_s, if_neg (FC_ne j2)]
/-- what was read so far: k cards, m persons -/
def dtR (σ τ : cb_St) (k m : Nat) : Prop := (σ.1 4 0 = 1 ∧ τ.1 0 16 = 1) ∧ (σ.1 4 1 = τ.1 5 0 ∧ σ.1 4 2 = τ.1 5 1 ∧ σ.1 4 3 = τ.1 5 2) ∧ (k ≤ 12 ∧ m ≤ 6 ∧ σ.1 4 4 = zI k ∧ τ.1 0 18 = zI k ∧ σ.1 4 5 = zI m ∧ τ.1 0 21 = zI m) ∧ (∀ i, i < k → σ.1 5 i = τ.1 6 i ∧ σ.1 6 i = τ.1 7 i ∧ ∃ r q : Nat, τ.1 6 i = zI r ∧ τ.1 7 i = zI q ∧ 1 ≤ r ∧ r ≤ 13 ∧ q ≤ 3) ∧ ∀ v : Nat, v < 52 → (bL (σ.2 4) v = true ↔ ∃ i r q : Nat, i < k ∧ τ.1 6 i = zI r ∧ τ.1 7 i = zI q ∧ 1 ≤ r ∧ r ≤ 13 ∧ q ≤ 3 ∧ 13 * q + r = v + 1)
def RD (T : Nat → Nat) (L : Nat) (σ0 τ0 : cb_St) (a k m : Nat) (σ τ : cb_St) : Prop := rdC σ0 σ ∧ scR τ0 τ ∧ txC T L σ ∧ txM T L τ ∧ a ≤ L ∧ σ.1 3 5 = zI (skp T L a : Nat) ∧ τ.1 0 13 = zI a ∧ σ.1 3 1 = 0 ∧ σ.1 3 2 = zI (-1) ∧ τ.1 0 12 = zI (-1) ∧ dtR σ τ k m
theorem m_into (h : txM T L τ) {a : Nat} (h13 : τ.1 0 13 = zI a) (ha : a ≤ L) (lo hi : Nat) (hlo : lo < 1000) (hhi : hi < 1000) {s e v : Nat} (hs : s = skp T L a) (he : e = dgN T s (L - s)) (hv : v = vlN T s (min (e - s) 3)) (K N2 i : Nat) (hiN : i < N2) (hN : N2 < 100) : ∃ τ', f_X8_into K N2 (zI i) (zI lo) (zI hi) τ = some (zI (nbF lo hi s e v : Nat), cb_sI τ' K i (τ'.1 0 14)) ∧ fN τ τ' ∧ (nbF lo hi s e v = 0 → τ'.1 0 12 = τ.1 0 12 ∧ τ'.1 0 13 = zI e ∧ τ'.1 0 14 = zI v ∧ τ'.1 0 15 = zI s) ∧ (¬ nbF lo hi s e v = 0 → τ'.1 0 12 = zI s) := by
  obtain ⟨τ', k1, k2, k3, k4⟩ := m_number h h13 ha lo hi hlo hhi hs he hv
  refine ⟨τ', ?_, k2, k3, k4⟩
  unfold f_X8_into
  rw [k1, bi_s]
  simp (disch := omega) only [zI_ck, zI_clamp, Int.toNat_natCast, let_s]
end RE
