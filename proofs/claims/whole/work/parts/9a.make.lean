/-! ===== making objects: slices of a shape ===== -/
def sl (sh : List Nat) (A : Nat → Nat) (T : Nat → ClassId) (σ : cb_St) (k n : Nat) : va_W := (List.range n).map (fun j => (A (k + j), cb_cE A T (σ.1 (k + j)) (σ.2 (k + j)) (k + j) (sh.getD (k + j) 0)))
theorem sl_0 (sh : List Nat) (A : Nat → Nat) (T : Nat → ClassId) (σ : cb_St) (k : Nat) : sl sh A T σ k 0 = [] := rfl
theorem sl_1 (sh : List Nat) (A : Nat → Nat) (T : Nat → ClassId) (σ : cb_St) (k : Nat) : sl sh A T σ k 1 = [(A k, cb_cE A T (σ.1 k) (σ.2 k) k (sh.getD k 0))] := rfl
theorem sl_len (sh : List Nat) (A : Nat → Nat) (T : Nat → ClassId) (σ : cb_St) (k n : Nat) : (sl sh A T σ k n).length = n := by simp [sl]
theorem sl_app (sh : List Nat) (A : Nat → Nat) (T : Nat → ClassId) (σ : cb_St) (k n m : Nat) : sl sh A T σ k (n + m) = sl sh A T σ k n ++ sl sh A T σ (k + n) m := by
  unfold sl
  rw [List.range_add, List.map_append, List.map_map]
  congr 1
  apply List.map_congr_left
  intro j _
  show (A (k + (n + j)), _) = (A (k + n + j), _)
  rw [Nat.add_assoc]
theorem wS_sl (sh : List Nat) (A : Nat → Nat) (T : Nat → ClassId) (σ : cb_St) : cb_wS sh A T σ = sl sh A T σ 0 sh.length := by
  unfold cb_wS sl
  apply List.map_congr_left
  intro j _
  rw [Nat.zero_add]
theorem sl_at {sh : List Nat} {A : Nat → Nat} {T : Nat → ClassId} {σ : cb_St} {k n i : Nat} {q : Nat × va_E} (h : (sl sh A T σ k n)[i]? = some q) : i < n ∧ q = (A (k + i), cb_cE A T (σ.1 (k + i)) (σ.2 (k + i)) (k + i) (sh.getD (k + i) 0)) := by
  have hl : i < n := by
    have := (List.getElem?_eq_some_iff.mp h).1
    rwa [sl_len] at this
  refine ⟨hl, ?_⟩
  simp only [sl, List.getElem?_map, List.getElem?_range hl, Option.map_some, Option.some.injEq] at h
  exact h.symm
theorem at_sl (sh : List Nat) (A : Nat → Nat) (T : Nat → ClassId) (σ : cb_St) (k n : Nat) {i : Nat} (h : i < n) : (sl sh A T σ k n)[i]? = some (A (k + i), cb_cE A T (σ.1 (k + i)) (σ.2 (k + i)) (k + i) (sh.getD (k + i) 0)) := by
  simp only [sl, List.getElem?_map, List.getElem?_range h, Option.map_some]
/-- how far a kind's references go -/
def rfN (kd : Nat) : Nat := match kd with
  | 0 => 4 | 1 => 1 | 2 => 5 | 3 => 1 | 4 => 4 | 5 => 5 | 6 => 3 | 7 => 111 | 8 => 20 | 10 => 76 | 11 => 7 | _ => 0
theorem arrV_c {cA : ClassId} {n : Nat} {f g : Nat → Value} (h : ∀ i, i < n → f i = g i) : arrV cA n f = arrV cA n g := by
  unfold arrV
  congr 2
  funext j
  exact h j.val j.isLt
theorem cE_at {D : va_G} {A A' : Nat → Nat} {T : Nat → ClassId} {r : Nat → Int32} {g : Int64} {k kd a : Nat} {H : Heap} (hA : ∀ j, k < j → j ≤ k + rfN kd → A' j = A j) (h : va_at D cb_cl (a, cb_cE A T r g k kd) H) : va_at D cb_cl (a, cb_cE A' T r g k kd) H := by
  by_cases h10 : kd = 10
  · subst h10
    have h1 : H[a]? = some (vp_cell (T 1) (16, .inr (.inr (.inr (.inr (fun i => some (A (k + 1 + 5 * i)))))))) := h
    show H[a]? = some (vp_cell (T 1) (16, .inr (.inr (.inr (.inr (fun i => some (A' (k + 1 + 5 * i))))))))
    rw [h1, vp_cell_q, vp_cell_q]
    congr 1
    apply arrV_c
    intro i hi
    rw [hA (k + 1 + 5 * i) (by omega) (by show _ ≤ k + 76; omega)]
  · by_cases h11 : kd = 11
    · subst h11
      have h1 : H[a]? = some (vp_cell (T 2) (2, .inr (.inr (.inr (.inr (fun i => some (A (k + 1 + 6 * i)))))))) := h
      show H[a]? = some (vp_cell (T 2) (2, .inr (.inr (.inr (.inr (fun i => some (A' (k + 1 + 6 * i))))))))
      rw [h1, vp_cell_q, vp_cell_q]
      congr 1
      apply arrV_c
      intro i hi
      rw [hA (k + 1 + 6 * i) (by omega) (by show _ ≤ k + 7; omega)]
    · have e : cb_cE A' T r g k kd = cb_cE A T r g k kd := by
        match kd, h10, h11, hA with
        | 0, _, _, hA =>
          show Sum.inr (0, [Value.int (r 0), .int (r 1), .int (r 2), .ref (A' (k + 1)), .ref (A' (k + 2)), .ref (A' (k + 3)), .ref (A' (k + 4))]) = Sum.inr (0, [Value.int (r 0), .int (r 1), .int (r 2), .ref (A (k + 1)), .ref (A (k + 2)), .ref (A (k + 3)), .ref (A (k + 4))])
          rw [hA (k + 1) (by omega) (Nat.add_le_add_left (by decide) k), hA (k + 2) (by omega) (Nat.add_le_add_left (by decide) k), hA (k + 3) (by omega) (Nat.add_le_add_left (by decide) k), hA (k + 4) (by omega) (Nat.add_le_add_left (by decide) k)]
        | 1, _, _, hA =>
          show Sum.inr (1, [Value.int (r 0), .int (r 1), .ref (A' (k + 1))]) = Sum.inr (1, [Value.int (r 0), .int (r 1), .ref (A (k + 1))])
          rw [hA (k + 1) (by omega) (Nat.add_le_add_left (by decide) k)]
        | 2, _, _, hA =>
          show Sum.inr (2, [Value.int (r 0), .int (r 1), .ref (A' (k + 1)), .ref (A' (k + 2)), .ref (A' (k + 3)), .ref (A' (k + 4)), .ref (A' (k + 5))]) = Sum.inr (2, [Value.int (r 0), .int (r 1), .ref (A (k + 1)), .ref (A (k + 2)), .ref (A (k + 3)), .ref (A (k + 4)), .ref (A (k + 5))])
          rw [hA (k + 1) (by omega) (Nat.add_le_add_left (by decide) k), hA (k + 2) (by omega) (Nat.add_le_add_left (by decide) k), hA (k + 3) (by omega) (Nat.add_le_add_left (by decide) k), hA (k + 4) (by omega) (Nat.add_le_add_left (by decide) k), hA (k + 5) (by omega) (Nat.add_le_add_left (by decide) k)]
        | 3, _, _, hA =>
          show Sum.inr (3, [Value.int (r 0), .int (r 1), .ref (A' (k + 1))]) = Sum.inr (3, [Value.int (r 0), .int (r 1), .ref (A (k + 1))])
          rw [hA (k + 1) (by omega) (Nat.add_le_add_left (by decide) k)]
        | 4, _, _, hA =>
          show Sum.inr (4, [Value.int (r 0), .int (r 1), .int (r 2), .ref (A' (k + 1)), .ref (A' (k + 2)), .ref (A' (k + 3)), .ref (A' (k + 4))]) = Sum.inr (4, [Value.int (r 0), .int (r 1), .int (r 2), .ref (A (k + 1)), .ref (A (k + 2)), .ref (A (k + 3)), .ref (A (k + 4))])
          rw [hA (k + 1) (by omega) (Nat.add_le_add_left (by decide) k), hA (k + 2) (by omega) (Nat.add_le_add_left (by decide) k), hA (k + 3) (by omega) (Nat.add_le_add_left (by decide) k), hA (k + 4) (by omega) (Nat.add_le_add_left (by decide) k)]
        | 5, _, _, hA =>
          show Sum.inr (5, [Value.ref (A' (k + 1)), .int (r 1), .int (r 2), .int (r 3), .ref (A' (k + 5)), .int (r 5)]) = Sum.inr (5, [Value.ref (A (k + 1)), .int (r 1), .int (r 2), .int (r 3), .ref (A (k + 5)), .int (r 5)])
          rw [hA (k + 1) (by omega) (Nat.add_le_add_left (by decide) k), hA (k + 5) (by omega) (Nat.add_le_add_left (by decide) k)]
        | 6, _, _, hA =>
          show Sum.inr (6, [Value.int (r 0), .int (r 1), .int (r 2), .int (r 3), .int (r 4), .int (r 5), .long g, .ref (A' (k + 1)), .ref (A' (k + 2)), .ref (A' (k + 3))]) = Sum.inr (6, [Value.int (r 0), .int (r 1), .int (r 2), .int (r 3), .int (r 4), .int (r 5), .long g, .ref (A (k + 1)), .ref (A (k + 2)), .ref (A (k + 3))])
          rw [hA (k + 1) (by omega) (Nat.add_le_add_left (by decide) k), hA (k + 2) (by omega) (Nat.add_le_add_left (by decide) k), hA (k + 3) (by omega) (Nat.add_le_add_left (by decide) k)]
        | 7, _, _, hA =>
          have h7 : ∀ j, 1 ≤ j → j ≤ 111 → A' (k + j) = A (k + j) := fun j h1 h2 => hA (k + j) (by omega) (Nat.add_le_add_left h2 k)
          show Sum.inr (7, [Value.int (r 0), .ref (A' (k + 3)), .ref (A' (k + 9)), .ref (A' (k + 13)), .ref (A' (k + 18)), .ref (A' (k + 100)), .ref (A' (k + 106)), .ref (A' (k + 111)), .ref (A' (k + 1)), .ref (A' (k + 2))]) = Sum.inr (7, [Value.int (r 0), .ref (A (k + 3)), .ref (A (k + 9)), .ref (A (k + 13)), .ref (A (k + 18)), .ref (A (k + 100)), .ref (A (k + 106)), .ref (A (k + 111)), .ref (A (k + 1)), .ref (A (k + 2))])
          rw [h7 3 (by omega) (by omega), h7 9 (by omega) (by omega), h7 13 (by omega) (by omega), h7 18 (by omega) (by omega), h7 100 (by omega) (by omega), h7 106 (by omega) (by omega), h7 111 (by omega) (by omega), h7 1 (by omega) (by omega), h7 2 (by omega) (by omega)]
        | 8, _, _, hA =>
          have h8 : ∀ j, 1 ≤ j → j ≤ 20 → A' (k + j) = A (k + j) := fun j h1 h2 => hA (k + j) (by omega) (Nat.add_le_add_left h2 k)
          unfold cb_cE
          simp only [h8 1 (by omega) (by omega), h8 2 (by omega) (by omega), h8 3 (by omega) (by omega), h8 4 (by omega) (by omega), h8 5 (by omega) (by omega), h8 6 (by omega) (by omega), h8 7 (by omega) (by omega), h8 8 (by omega) (by omega), h8 9 (by omega) (by omega), h8 10 (by omega) (by omega), h8 11 (by omega) (by omega), h8 12 (by omega) (by omega), h8 13 (by omega) (by omega), h8 14 (by omega) (by omega), h8 15 (by omega) (by omega), h8 16 (by omega) (by omega), h8 17 (by omega) (by omega), h8 18 (by omega) (by omega), h8 19 (by omega) (by omega), h8 20 (by omega) (by omega)]
        | 9, _, _, _ => rfl
        | 10, h, _, _ => exact absurd rfl h
        | 11, _, h, _ => exact absurd rfl h
        | 12, _, _, _ => rfl
        | n + 13, _, _, _ => rfl
      rw [e]; exact h
/-- the slice is closed: its cells refer into it alone -/
def slC (sh : List Nat) (k n : Nat) : Prop := ∀ j, k ≤ j → j < k + n → j + rfN (sh.getD j 0) < k + n
theorem sl_P {D : va_G} {sh : List Nat} {A A' : Nat → Nat} {T : Nat → ClassId} {σ : cb_St} {k n : Nat} {H : Heap} (hc : slC sh k n) (hA : ∀ j, k ≤ j → j < k + n → A' j = A j) (h : va_P D cb_cl (sl sh A T σ k n) H) : va_P D cb_cl (sl sh A' T σ k n) H := by
  intro i q hq
  obtain ⟨hi, rfl⟩ := sl_at hq
  have h1 := h i _ (at_sl sh A T σ k n hi)
  have hcc := hc (k + i) (by omega) (by omega)
  rw [hA (k + i) (by omega) (by omega)]
  exact cE_at (fun j h1 h2 => hA j (by omega) (by omega)) h1
theorem sl_D {sh : List Nat} {A A' : Nat → Nat} {T : Nat → ClassId} {σ : cb_St} {k n : Nat} {P : Nat → Prop} (hA : ∀ j, k ≤ j → j < k + n → A' j = A j) (h : va_D P (sl sh A T σ k n)) : va_D P (sl sh A' T σ k n) := by
  refine ⟨fun i j p q hi hj e => ?_, fun i q hi => ?_⟩
  · obtain ⟨h1, rfl⟩ := sl_at hi
    obtain ⟨h2, rfl⟩ := sl_at hj
    refine h.1 i j _ _ (at_sl sh A T σ k n h1) (at_sl sh A T σ k n h2) ?_
    show A (k + i) = A (k + j)
    rw [← hA (k + i) (by omega) (by omega), ← hA (k + j) (by omega) (by omega)]
    exact e
  · obtain ⟨h1, rfl⟩ := sl_at hi
    show P (A' (k + i))
    rw [hA (k + i) (by omega) (by omega)]
    exact h.2 i _ (at_sl sh A T σ k n h1)
/-- worlds by their addresses -/
theorem D_iff {P : Nat → Prop} {ws : va_W} : va_D P ws ↔ (ws.map (·.1)).Nodup ∧ ∀ q ∈ ws, P q.1 := by
  constructor
  · intro h
    refine ⟨?_, fun q hq => ?_⟩
    · refine List.pairwise_iff_getElem.mpr (fun i j hi hj hij e => ?_)
      rw [List.length_map] at hi hj
      simp only [List.getElem_map] at e
      have := h.1 i j _ _ (List.getElem?_eq_getElem hi) (List.getElem?_eq_getElem hj) e
      omega
    · obtain ⟨i, hi, e⟩ := List.mem_iff_getElem.mp hq
      exact h.2 i q (by rw [List.getElem?_eq_getElem hi, e])
  · intro ⟨h1, h2⟩
    have h3 : ∀ (i j : Nat) (p q : Nat × va_E), ws[i]? = some p → ws[j]? = some q → i < j → p.1 ≠ q.1 := by
      intro i j p q hi hj hij e
      obtain ⟨hi1, ei⟩ := List.getElem?_eq_some_iff.mp hi
      obtain ⟨hj1, ej⟩ := List.getElem?_eq_some_iff.mp hj
      refine List.pairwise_iff_getElem.mp h1 i j (by rw [List.length_map]; exact hi1) (by rw [List.length_map]; exact hj1) hij ?_
      simp only [List.getElem_map, ei, ej]; exact e
    refine ⟨fun i j p q hi hj e => ?_, fun i q hi => h2 q (List.mem_of_getElem? hi)⟩
    rcases Nat.lt_trichotomy i j with g | g | g
    · exact absurd e (h3 i j p q hi hj g)
    · exact g
    · exact absurd e.symm (h3 j i q p hj hi g)
theorem P_iff {D : va_G} {ws : va_W} {H : Heap} : va_P D cb_cl ws H ↔ ∀ q ∈ ws, va_at D cb_cl q H := by
  constructor
  · intro h q hq
    obtain ⟨i, hi, e⟩ := List.mem_iff_getElem.mp hq
    exact h i q (by rw [List.getElem?_eq_getElem hi, e])
  · intro h i q hi
    exact h q (List.mem_of_getElem? hi)
theorem D_perm {P : Nat → Prop} {w1 w2 : va_W} (hp : w1.Perm w2) (h : va_D P w1) : va_D P w2 := by
  rw [D_iff] at h ⊢
  exact ⟨(hp.map _).nodup_iff.mp h.1, fun q hq => h.2 q (hp.mem_iff.mpr hq)⟩
theorem P_perm {D : va_G} {w1 w2 : va_W} {H : Heap} (hp : w1.Perm w2) (h : va_P D cb_cl w1 H) : va_P D cb_cl w2 H := by
  rw [P_iff] at h ⊢
  exact fun q hq => h q (hp.mem_iff.mpr hq)
/-- the cell i anew, the others as they were -/
theorem P_set {D : va_G} {P : Nat → Prop} {ws : va_W} {H H1 : Heap} {i a : Nat} {e0 e : va_E} (h : va_P D cb_cl ws H) (hD : va_D P ws) (hp : ws[i]? = some (a, e0)) (he : va_at D cb_cl (a, e) H1) (oq : ∀ q : Nat, q < H.size → q ≠ a → H1[q]? = H[q]?) : va_P D cb_cl (ws.set i (a, e)) H1 := by
  intro j q hj
  by_cases g : i = j
  · subst g
    rw [List.getElem?_set_self (List.getElem?_eq_some_iff.mp hp).1] at hj
    cases hj
    exact he
  · rw [List.getElem?_set_ne g] at hj
    have h1 := h j q hj
    refine h1.kept (oq q.1 h1.lt (fun q1 => g ?_))
    exact (hD.1 j i q _ hj hp q1).symm
