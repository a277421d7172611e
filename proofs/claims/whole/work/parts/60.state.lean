/-! ===== states: what is read behind what is written ===== -/
theorem sA_e (σ : cb_St) (k : Nat) (f : Nat → Int32) : (cb_sA σ k f).1 k = f := cb_sA_self σ k f
theorem sA_n (σ : cb_St) {k q : Nat} (f : Nat → Int32) (h : q ≠ k) : (cb_sA σ k f).1 q = σ.1 q := cb_sA_ne σ f h
theorem sA_2 (σ : cb_St) (k : Nat) (f : Nat → Int32) : (cb_sA σ k f).2 = σ.2 := rfl
theorem sI_e (σ : cb_St) (k i : Nat) (v : Int32) : (cb_sI σ k i v).1 k = upd (σ.1 k) i v := cb_sA_self σ k _
theorem sI_n (σ : cb_St) {k q : Nat} (i : Nat) (v : Int32) (h : q ≠ k) : (cb_sI σ k i v).1 q = σ.1 q := cb_sA_ne σ _ h
theorem sI_2 (σ : cb_St) (k i : Nat) (v : Int32) : (cb_sI σ k i v).2 = σ.2 := rfl
theorem sA_sA (σ : cb_St) (k : Nat) (f g : Nat → Int32) : cb_sA (cb_sA σ k f) k g = cb_sA σ k g := by
  unfold cb_sA
  refine Prod.ext ?_ rfl
  funext q
  by_cases h : q = k <;> simp [h]
theorem sA_sI (σ : cb_St) (k i : Nat) (v : Int32) (g : Nat → Int32) : cb_sA (cb_sI σ k i v) k g = cb_sA σ k g := sA_sA σ k _ g
theorem sA_id (σ : cb_St) (k : Nat) : cb_sA σ k (σ.1 k) = σ := by
  unfold cb_sA
  refine Prod.ext ?_ rfl
  funext q
  by_cases h : q = k <;> simp [h]
theorem upd_e (f : Nat → Int32) (i : Nat) (x : Int32) : upd f i x i = x := by simp [upd]
theorem upd_n (f : Nat → Int32) {i j : Nat} (x : Int32) (h : j ≠ i) : upd f i x j = f j := by simp [upd, h]
theorem cpy_e (f g : Nat → Int32) {n i : Nat} (h : i < n) : va_cpy f g 0 0 n i = f i := by
  unfold va_cpy; rw [if_pos (by omega)]; simp
theorem clamp_0 : Int32.toNatClampNeg 0 = 0 := rfl
/-- a play becomes another -/
theorem s_become (k k2 : Nat) (hk : k + 5 ≤ k2 ∨ k2 + 5 ≤ k) (σ : cb_St) : ∃ σ' : cb_St, f_X4_become k k2 σ = some σ' ∧ σ'.1 k 0 = σ.1 k2 0 ∧ σ'.1 k 1 = σ.1 k2 1 ∧ σ'.1 k 2 = σ.1 k2 2 ∧ (∀ i, i < 12 → σ'.1 (k + 1) i = σ.1 (k2 + 1) i) ∧ (∀ i, i < 6 → σ'.1 (k + 2) i = σ.1 (k2 + 2) i) ∧ (∀ i, i < 6 → σ'.1 (k + 3) i = σ.1 (k2 + 3) i) ∧ (∀ i, i < 24 → σ'.1 (k + 4) i = σ.1 (k2 + 4) i) ∧ (∀ q, (q < k ∨ k + 5 ≤ q) → σ'.1 q = σ.1 q) ∧ σ'.2 = σ.2 := by
  unfold f_X4_become
  simp only [let_s]
  rw [ck_t _ (by decide), ck_t _ (by decide), ck_t _ (by decide), ck_t _ (by decide)]
  refine ⟨_, rfl, ?_, ?_, ?_, ?_, ?_, ?_, ?_, ?_, rfl⟩
  · simp (disch := omega) only [sA_n, sI_e, sI_n, upd_n, upd_e]
  · simp (disch := omega) only [sA_n, sI_e, sI_n, upd_n, upd_e]
  · simp (disch := omega) only [sA_n, sI_e, sI_n, upd_n, upd_e]
  · intro i hi
    simp (disch := omega) only [sA_n, sA_e, sI_e, sI_n, upd_n, upd_e]
    exact cpy_e _ _ (n := 12) hi
  · intro i hi
    simp (disch := omega) only [sA_n, sA_e, sI_e, sI_n, upd_n, upd_e]
    exact cpy_e _ _ (n := 6) hi
  · intro i hi
    simp (disch := omega) only [sA_n, sA_e, sI_e, sI_n, upd_n, upd_e]
    exact cpy_e _ _ (n := 6) hi
  · intro i hi
    simp (disch := omega) only [sA_n, sA_e, sI_e, sI_n, upd_n, upd_e]
    exact cpy_e _ _ (n := 24) hi
  · intro q hq
    simp (disch := omega) only [sA_n, sI_n]
/-- what a play holds depends on its five cells alone -/
theorem rlP_c {N Q : Nat} (hN : N ≤ 12) {σ σ' : cb_St} {k : Nat} {v v' : Nat → Int32} {n ml : Nat} {pk : Nat → Nat} {hd : Nat → Int} (h : rlP N Q σ k v n ml pk hd) (hs : ∀ q, k ≤ q → q < k + 5 → σ'.1 q = σ.1 q) (hv : ∀ i, i < 51 → v' i = v i) : rlP N Q σ' k v' n ml pk hd := by
  have e0 := hs k (by omega) (by omega)
  have e1 := hs (k + 1) (by omega) (by omega)
  have e2 := hs (k + 2) (by omega) (by omega)
  have e3 := hs (k + 3) (by omega) (by omega)
  have e4 := hs (k + 4) (by omega) (by omega)
  obtain ⟨a1, a2, a3, a4, a5, a6, a7, a8, a9, a10, a11, a12, a13, a14, a15, a16, a17, a18⟩ := h
  refine ⟨a1, a2, by rw [e0]; exact a3, by rw [hv 12 (by omega)]; exact a4, by rw [e0]; exact a5, by rw [hv 26 (by omega)]; exact a6, by rw [e0, hv 25 (by omega)]; exact a7, ?_, ?_, a10, ?_, ?_, a13, a14, a15, ?_, ?_, ?_⟩
  · intro i hi
    by_cases h51 : i < 51
    · rw [e1, hv i h51]; exact a8 i hi
    · exact absurd hi (by omega)
  · intro p hp; rw [e2, hv (13 + p) (by omega)]; exact a9 p hp
  · intro p hp; rw [e3, hv (19 + p) (by omega)]; exact a11 p hp
  · intro i hi; rw [e4, hv (27 + i) (by omega)]; exact a12 i hi
  · intro i hi; rw [hv 25 (by omega)]; exact a16 i hi
  · intro p hp h0; rw [hv 25 (by omega)]; exact a17 p hp h0
  · intro j h1 h2; rw [hv 25 (by omega)]; exact a18 j h1 h2
/-- one play as another's row -/
theorem rlP_k {N Q : Nat} {σ σ' : cb_St} {k k2 : Nat} {v v' : Nat → Int32} {n ml : Nat} {pk : Nat → Nat} {hd : Nat → Int} (hN : N ≤ 12) (h : rlP N Q σ k2 v n ml pk hd) (h0 : σ'.1 k 0 = σ.1 k2 0) (h1 : σ'.1 k 1 = σ.1 k2 1) (h2 : σ'.1 k 2 = σ.1 k2 2) (h3 : ∀ i, i < 12 → σ'.1 (k + 1) i = σ.1 (k2 + 1) i) (h4 : ∀ i, i < 6 → σ'.1 (k + 2) i = σ.1 (k2 + 2) i) (h5 : ∀ i, i < 6 → σ'.1 (k + 3) i = σ.1 (k2 + 3) i) (h6 : ∀ i, i < 24 → σ'.1 (k + 4) i = σ.1 (k2 + 4) i) (hv : ∀ i, i < 51 → v' i = v i) : rlP N Q σ' k v' n ml pk hd := by
  obtain ⟨a1, a2, a3, a4, a5, a6, a7, a8, a9, a10, a11, a12, a13, a14, a15, a16, a17, a18⟩ := h
  refine ⟨a1, a2, by rw [h0]; exact a3, by rw [hv 12 (by omega)]; exact a4, by rw [h2]; exact a5, by rw [hv 26 (by omega)]; exact a6, by rw [h1, hv 25 (by omega)]; exact a7, ?_, ?_, a10, ?_, ?_, a13, a14, a15, ?_, ?_, ?_⟩
  · intro i hi; rw [h3 i (by omega), hv i (by omega)]; exact a8 i hi
  · intro p hp; rw [h4 p hp, hv (13 + p) (by omega)]; exact a9 p hp
  · intro p hp; rw [h5 p hp, hv (19 + p) (by omega)]; exact a11 p hp
  · intro i hi; rw [h6 i (by omega), hv (27 + i) (by omega)]; exact a12 i hi
  · intro i hi; rw [hv 25 (by omega)]; exact a16 i hi
  · intro p hp h0; rw [hv 25 (by omega)]; exact a17 p hp h0
  · intro j h1 h2; rw [hv 25 (by omega)]; exact a18 j h1 h2
