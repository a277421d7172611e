/-! ===== the constructors of the parts (printed by wip/whole/gen/mk_init.py) ===== -/
def gm : Nat → Int32 := fun j => if j < 6 then -1 else 0
theorem sl_set (sh : List Nat) (A : Nat → Nat) (T : Nat → ClassId) (σ : cb_St) (k n : Nat) {i : Nat} (hi : i < n) {f : Nat → Int32} : (sl sh A T σ k n).set i (A (k + i), cb_cE A T f (σ.2 (k + i)) (k + i) (sh.getD (k + i) 0)) = sl sh A T (cb_sA σ (k + i) f) k n := by
  apply List.ext_getElem?
  intro j
  rw [List.getElem?_set]
  by_cases hj : i = j
  · subst hj
    rw [if_pos rfl, if_pos (by rw [sl_len]; exact hi), at_sl _ _ _ _ _ _ hi, sA_e, sA_2]
  · rw [if_neg hj]
    by_cases hl : j < n
    · rw [at_sl _ _ _ _ _ _ hl, at_sl _ _ _ _ _ _ hl, sA_n _ _ (by omega), sA_2]
    · rw [List.getElem?_eq_none (by rw [sl_len]; omega), List.getElem?_eq_none (by rw [sl_len]; omega)]
theorem sl_fin {sh : List Nat} {A : Nat → Nat} {T : Nat → ClassId} {σ : cb_St} {b n h0 : Nat} {E : va_E} (hE : cb_cE A T (σ.1 b) (σ.2 b) b (sh.getD b 0) = E) (e0 : A b = h0) : sl sh A T σ b (n + 1) = [(h0, E)] ++ sl sh A T σ (b + 1) n := by
  rw [Nat.add_comm n 1, sl_app, sl_1, hE, e0]
theorem slC_of (ks : List Nat) {sh : List Nat} {b N : Nat} (hk : ∀ j, j < N → sh.getD (b + j) 0 = ks.getD j 0) (o n : Nat) (h : ∀ j, j < n → j + rfN (ks.getD (o + j) 0) < n) (ho : o + n ≤ N) : slC sh (b + o) n := by
  intro j h1 h2
  have e : j = b + (j - b) := by omega
  have h3 := hk (j - b) (by omega)
  rw [← e] at h3
  rw [h3]
  have h4 := h (j - b - o) (by omega)
  have e2 : o + (j - b - o) = j - b := by omega
  rw [e2] at h4
  omega
section FG
variable {p : Program} {l : Launch} {e : Env} {s : State} {m : MethodId} {args : Array Value} {below : List Frame} {meth : Method} {c : Code} {sh : List Nat} {A : Nat → Nat} {T : Nat → ClassId} {D : va_G}
set_option maxHeartbeats 4000000 in
set_option maxRecDepth 100000 in
theorem w_fillG_5 (C : cb_C p s m args meth c cJ7_fill_53178 4 none RJ7 D T) {k2 : Nat} {N2 : Nat} {x1 : Int32} {o : cb_St} (hp2 : sh[k2]? = some (N2 + 20)) : ∀ (fu : Nat) (σ : cb_St) (x2 : Int32) (x3 : Int32), f_J7_fill_53178_5 k2 N2 x1 fu σ x2 x3 = some o → ∀ (H : Heap) (locs : List Loc) (ls : Array Slot), cb_H sh A T D σ s.heap H locs → lv_has ls 4 [(0, .ref (A k2)), (1, .int x1), (2, .int x2), (3, .int x3)] → cb_W p l e 1 s m args below meth c sh A T D none o H locs (F0 m 5 ls []) := by
  obtain ⟨hx, hb, hml, hr, hown, hts, hK, hlk, hN⟩ := id C
  intro fu
  induction fu with
  | zero =>
    intro σ x2 x3 hf
    rw [f_J7_fill_53178_5] at hf
    cases hf
  | succ fu ih =>
    intro σ x2 x3 hf H locs ls hs hl
    rw [f_J7_fill_53178_5] at hf
    refine lv_iload_n hx hb dJ7_fill_53178_5 rfl (lv_at hl 2 rfl) ?_
    refine lv_iload_n hx hb dJ7_fill_53178_6 rfl (lv_at hl 3 rfl) ?_
    refine lv_icmp_ge (tgt := 20) hx hb dJ7_fill_53178_7 (by decide) (fun cn => ?_) (fun cn => ?_)
    · replace hf := cb_ifp cn hf
      have hf := Option.some.inj hf
      subst hf
      exact cb_retv C hs dJ7_fill_53178_20
    · replace hf := cb_ifn cn hf
      refine lv_aload_n hx hb dJ7_fill_53178_10 rfl (lv_at hl 0 rfl) ?_
      refine lv_iload_n hx hb dJ7_fill_53178_11 rfl (lv_at hl 2 rfl) ?_
      refine lv_iload_n hx hb dJ7_fill_53178_12 rfl (lv_at hl 1 rfl) ?_
      obtain ⟨hc, hf⟩ := cb_ck_inv hf
      refine cb_iast C hs hp2 (vp_in_iff.mpr hc) dJ7_fill_53178_13 (fun H locs hs => ?_)
      obtain ⟨σ_1, e9, hf⟩ := cb_let_inv hf
      replace hs := cb_Hc e9 hs
      clear e9
      obtain ⟨x2_1, e9, hf⟩ := cb_let_inv hf
      refine lv_iinc (v := x2_1) (lv' := [(2, .int x2_1), (0, .ref (A k2)), (1, .int x1), (3, .int x3)]) hx hb dJ7_fill_53178_14 hl (k := 2) rfl (by rw [e9]; rfl) (by decide) rfl (fun ls hl => ?_)
      clear e9
      refine lv_goto (tgt := 5) hx hb dJ7_fill_53178_17 (by decide) ?_
      exact ih _ _ _ hf _ _ _ hs (lv_sub hl [1, 2, 0, 3] rfl)
set_option maxHeartbeats 4000000 in
set_option maxRecDepth 100000 in
theorem c_fillG {k2 : Nat} {N2 : Nat} {x1 : Int32} (hp2 : sh[k2]? = some (N2 + 20)) {σ : cb_St} {o : cb_St} (hf : f_J7_fill_53178 k2 N2 x1 σ = some o) : cb_M l yJ7_fill_53178 cJ7_fill_53178 4 none 1 sh A T D σ [.ref (A k2), .int x1] none o := by
  refine cb_met (by decide +kernel) (Nat.le_of_ble_eq_true rfl) ?_
  intro p e s m below meth c C hs ls hl
  have hl : lv_has ls 4 [(0, .ref (A k2)), (1, .int x1)] := hl
  obtain ⟨hx, hb, hml, hr, hown, hts, hK, hlk, hN⟩ := id C
  unfold f_J7_fill_53178 at hf
  refine lv_iconst (v := 0) hx hb dJ7_fill_53178_0 (by decide) ?_
  refine lv_istore_n (lv' := [(2, .int 0), (0, .ref (A k2)), (1, .int x1)]) hx hb dJ7_fill_53178_1 rfl hl (by decide) rfl (fun ls hl => ?_)
  refine lv_aload_n hx hb dJ7_fill_53178_2 rfl (lv_at hl 1 rfl) ?_
  refine cb_alen C hs hp2 (v := (Int32.ofNat N2)) rfl dJ7_fill_53178_3 ?_
  obtain ⟨x3_0, e9, hf⟩ := cb_let_inv hf
  refine cb_topi e9 ?_
  clear e9
  refine lv_istore_n (lv' := [(3, .int x3_0), (2, .int 0), (0, .ref (A k2)), (1, .int x1)]) hx hb dJ7_fill_53178_4 rfl hl (by decide) rfl (fun ls hl => ?_)
  exact w_fillG_5 C hp2 cb_fu _ _ _ hf _ _ _ hs (lv_sub hl [2, 3, 1, 0] rfl)
end FG
section FI
variable {p : Program} {l : Launch} {e : Env} {s : State} {m : MethodId} {args : Array Value} {below : List Frame} {meth : Method} {c : Code} {sh : List Nat} {A : Nat → Nat} {T : Nat → ClassId} {D : va_G} {σ : cb_St} {H0 H : Heap} {locs : List Loc} {R : Room} {Q : State → Prop} {P : Nat → Prop} {X : va_W} {cells slots : Nat}
variable {cc : ByteArray} {nL : Nat} {ret : Option FieldType} {own : String} {pc : Nat} {ls : Array Slot} {rest : List Value} {k n : Nat}
theorem fill_e (N : Nat) (hN : N < 90000) (x : Int32) (f : Nat → Int32) (g : Int64) : f_J7_fill_53178 0 N x (fun _ => f, fun _ => g) = some (cb_sA (fun _ => f, fun _ => g) 0 (fun j => if j < N then x else f j)) := by
  obtain ⟨h, h1, h2, h3⟩ := s_fill 0 N x hN (fun _ => f, fun _ => g)
  have e : h = fun j => if j < N then x else f j := by
    funext j
    by_cases q : j < N
    · rw [if_pos q, h2 j q]
    · rw [if_neg q, h3 j (by omega)]
  rw [h1, e]
theorem ci_fill {i a N index : Nat} {x : Int32} {f : Nat → Int32} {lv : List (Nat × Value)} (C : cb_C p s m args meth c cc nL ret own D T) (hs : ci_H P D X s.heap H locs) (hi : X[i]? = some (a, .inl (T 0, N, .inl f))) (hN : N < 90000) (hR0 : 1 + 1 ≤ R.frames) (hl : Cond.methodLink own index yJ7_fill_53178 ∈ cb_gt) (hls : lv_has ls nL lv) (hcat : (rest.map fun v => v.category).sum ≤ 8) (hR : 8 + (4 + 11) + 40 * 1 ≤ R.locals ∧ True) (hcl : cells ≤ R.cells) (hsl : slots ≤ R.slots) (hdg : decode cc pc = .ok (.invokestatic index, 3))
    (kk : ∀ (H1 : Heap) (locs1 : List Loc), ci_H P D (X.set i (a, .inl (T 0, N, .inl (fun j => if j < N then x else f j)))) s.heap H1 locs1 → W p l e R s m args below meth c H1 locs1 cells slots Q (F0 m (pc + 3) ls rest)) : W p l e R s m args below meth c H locs cells slots Q (F0 m pc ls (.int x :: .ref a :: rest)) := by
  have C0 := C
  obtain ⟨hx, hb, hml, hr, hown, hts, hK, hlk, hNn⟩ := C
  obtain ⟨w1, w2, w4, w5⟩ := mw_J7_fill_53178
  have hM := c_fillG (l := l) (T := T) (D := D) (sh := [N + 20]) (A := fun _ => a) (k2 := 0) (N2 := N) (x1 := x) (σ := (fun _ => f, fun _ => 0)) rfl (fill_e N hN x f 0)
  have hw : ∀ g : Nat → Int32, cb_wS [N + 20] (fun _ => a) T (fun _ => g, fun _ => 0) = [(a, .inl (T 0, N, .inl g))] := fun g => by
    show [(a, (Sum.inl (T 0, N + 20 - 20, Sum.inl g) : va_E))] = _
    rw [Nat.add_sub_cancel]
  have hw2 : cb_wS [N + 20] (fun _ => a) T (cb_sA (fun _ => f, fun _ => 0) 0 (fun j => if j < N then x else f j)) = [(a, .inl (T 0, N, .inl (fun j => if j < N then x else f j)))] := by
    show [(a, (Sum.inl (T 0, N + 20 - 20, Sum.inl (fun j => if j < N then x else f j)) : va_E))] = _
    rw [Nat.add_sub_cancel]
  have hPa : va_P D cb_cl [(a, .inl (T 0, N, .inl f))] H := by
    intro j q hj
    have : j = 0 := by
      have := (List.getElem?_eq_some_iff.mp hj).1
      simp at this; exact this
    subst this
    cases hj
    exact hs.1 i _ hi
  have hDa : va_D (cb_fA [N + 20] (fun _ => a)) [(a, (Sum.inl (T 0, N, Sum.inl f) : va_E))] := by
    refine ⟨fun i j p q hi hj _ => ?_, fun i q hi => ?_⟩
    · have h1 := (List.getElem?_eq_some_iff.mp hi).1
      have h2 := (List.getElem?_eq_some_iff.mp hj).1
      simp at h1 h2
      omega
    · have := List.mem_of_getElem? hi
      rw [List.mem_singleton] at this
      rw [this]
      exact ⟨0, Nat.zero_lt_one, rfl⟩
  have hpre : PreS s H (cb_P [N + 20] (fun _ => a) T D (fun _ => f, fun _ => 0) [.ref a, .int x]) [.ref a, .int x] := ⟨cb_blind, fun U hU hW => ⟨rfl, by rw [hU, hw]; exact hPa, by rw [hw]; exact hDa, va_K.moved hW.alike hK, va_Nw.warmM hW hNn⟩⟩
  have hrun := va_runS (l := l) (e := e) (below := below) (meth := meth) (locs := locs) (cells := cells) (slots := slots) (n := 2) (g := F0 m pc ls (.int x :: .ref a :: rest)) (As := [.ref a, .int x]) (rest := rest) (Ts := cb_gt) (R := R) ⟨hx, hb, hml, hown, hts⟩ hM ⟨callB_of (R := R) 2 hts (cb_good (fun _ h => h) w1) rfl rfl rfl (hts _ w4) (hts _ hl) w5 ⟨hR0, hR.1⟩, hts _ w2⟩ hpre rfl rfl hls.1 rfl (lv_room hcat) hdg ⟨by have := hcl; omega, by have := hsl; omega⟩
  intro T0 hT X0
  obtain ⟨v, st₀, t, T', L, h0, X', hL, e1, e2, ⟨hv, hP, hz, hk⟩, st⟩ := hrun T0 hT X0
  cases hv
  rw [h0] at hz hk
  rw [hw2] at hP
  have hat : va_at D cb_cl (a, .inl (T 0, N, .inl (fun j => if j < N then x else f j))) t.heap := hP 0 _ rfl
  have hPa2 : P a := hs.2.1.2 i _ hi
  have hfA : ∀ q, q ≠ a → ¬ cb_fA [N + 20] (fun _ => a) q := fun q hq ⟨_, _, h⟩ => hq h
  obtain ⟨t2, a1, b1⟩ := kk T'.heap (locs ++ L) ⟨by rw [e1]; exact P_set hs.1 hs.2.1 hi hat (fun q h1 h2 => hk q h1 (hfA q h2)), hs.2.1.set hi, Nat.le_trans hs.2.2.1 (by rw [e1]; exact hz), fun q h1 h2 => by
      have hqa : q ≠ a := fun h => h2 (by rw [h]; exact hPa2)
      rw [e1, hk q (Nat.lt_of_lt_of_le h1 hs.2.2.1) (hfA q hqa)]; exact hs.2.2.2.1 q h1 h2, fun q hq => by
      rcases List.mem_append.mp hq with h | h
      · exact hs.2.2.2.2 q h
      · obtain ⟨_, _, h⟩ := hL q h
        show P q.base
        rw [h]; exact hPa2⟩ T' rfl X'
  exact ⟨t2, st t2 a1, b1⟩
theorem ci_newZ {x : Int32} (C : cb_C p s m args meth c cc nL ret own D T) (hA : ∀ q, H0.size ≤ q → P q) (c1 : slC sh k n) (hk : sh.getD (k + n) 0 = 12) (hσ : σ.1 (k + n) = fun _ => 0) (hs : ci_H P D (X ++ sl sh A T σ k n) H0 H locs) (hn : ¬ x < 0) (hN : x.toNatClampNeg = 2) (hc : cells + 1 ≤ R.cells) (hsl : slots + 2 ≤ R.slots) (hdg : decode cc pc = .ok (.newarray .boolean, 2))
    (kk : ∀ (A2 : Nat → Nat) (H1 : Heap), (∀ j, j < k + n → A2 j = A j) → ci_H P D (X ++ sl sh A2 T σ k (n + 1)) H0 H1 locs → W p l e R s m args below meth c H1 locs (cells + 1) (slots + 2) Q (F0 m (pc + 2) ls (.ref (A2 (k + n)) :: rest))) : W p l e R s m args below meth c H locs cells slots Q (F0 m pc ls (.int x :: rest)) := by
  refine ci_newz C hA hs hN hn hc hsl hdg (fun q H1 h => ?_)
  have e1 : sl sh (fun _ => q) T σ (k + n) 1 = [(q, .inl (T 3, 2, .inl (fun _ => 0)))] := by
    rw [sl_1, hk, hσ]
    rfl
  have c2 : slC sh (k + n) 1 := fun j h1 h2 => by
    have : j = k + n := by omega
    subst this
    rw [hk]
    show k + n + 0 < _
    omega
  obtain ⟨j1, j2⟩ := sl_join (X := X) (A := A) (A1 := fun _ => q) c1 c2 h.1 h.2.1 (by rw [e1, List.append_assoc])
  have := kk (fun j => if j < k + n then A j else q) H1 (fun j hj => if_pos hj) ⟨j1, j2, h.2.2⟩
  rw [if_neg (Nat.lt_irrefl _)] at this
  exact this
end FI
theorem dv_X0 : ∀ j, j < 7 → defaultValue (tyX0 j) = vp_V [.int 0, .int 0, .int 0, .null, .null, .null, .null] j := by
  intro j hj
  match j, hj with
  | 0, _ => rfl
  | 1, _ => rfl
  | 2, _ => rfl
  | 3, _ => rfl
  | 4, _ => rfl
  | 5, _ => rfl
  | 6, _ => rfl
  | j + 7, hj => exact absurd hj (by omega)
theorem dv_X1 : ∀ j, j < 3 → defaultValue (tyX1 j) = vp_V [.int 0, .int 0, .null] j := by
  intro j hj
  match j, hj with
  | 0, _ => rfl
  | 1, _ => rfl
  | 2, _ => rfl
  | j + 3, hj => exact absurd hj (by omega)
theorem dv_X2 : ∀ j, j < 7 → defaultValue (tyX2 j) = vp_V [.int 0, .int 0, .null, .null, .null, .null, .null] j := by
  intro j hj
  match j, hj with
  | 0, _ => rfl
  | 1, _ => rfl
  | 2, _ => rfl
  | 3, _ => rfl
  | 4, _ => rfl
  | 5, _ => rfl
  | 6, _ => rfl
  | j + 7, hj => exact absurd hj (by omega)
theorem dv_X3 : ∀ j, j < 3 → defaultValue (tyX3 j) = vp_V [.int 0, .int 0, .null] j := by
  intro j hj
  match j, hj with
  | 0, _ => rfl
  | 1, _ => rfl
  | 2, _ => rfl
  | j + 3, hj => exact absurd hj (by omega)
theorem dv_X4 : ∀ j, j < 7 → defaultValue (tyX4 j) = vp_V [.int 0, .int 0, .int 0, .null, .null, .null, .null] j := by
  intro j hj
  match j, hj with
  | 0, _ => rfl
  | 1, _ => rfl
  | 2, _ => rfl
  | 3, _ => rfl
  | 4, _ => rfl
  | 5, _ => rfl
  | 6, _ => rfl
  | j + 7, hj => exact absurd hj (by omega)
theorem dv_X5 : ∀ j, j < 6 → defaultValue (tyX5 j) = vp_V [.null, .int 0, .int 0, .int 0, .null, .int 0] j := by
  intro j hj
  match j, hj with
  | 0, _ => rfl
  | 1, _ => rfl
  | 2, _ => rfl
  | 3, _ => rfl
  | 4, _ => rfl
  | 5, _ => rfl
  | j + 6, hj => exact absurd hj (by omega)
theorem dv_X6 : ∀ j, j < 10 → defaultValue (tyX6 j) = vp_V [.int 0, .int 0, .int 0, .int 0, .int 0, .int 0, .long 0, .null, .null, .null] j := by
  intro j hj
  match j, hj with
  | 0, _ => rfl
  | 1, _ => rfl
  | 2, _ => rfl
  | 3, _ => rfl
  | 4, _ => rfl
  | 5, _ => rfl
  | 6, _ => rfl
  | 7, _ => rfl
  | 8, _ => rfl
  | 9, _ => rfl
  | j + 10, hj => exact absurd hj (by omega)
theorem dv_X7 : ∀ j, j < 10 → defaultValue (tyX7 j) = vp_V [.int 0, .null, .null, .null, .null, .null, .null, .null, .null, .null] j := by
  intro j hj
  match j, hj with
  | 0, _ => rfl
  | 1, _ => rfl
  | 2, _ => rfl
  | 3, _ => rfl
  | 4, _ => rfl
  | 5, _ => rfl
  | 6, _ => rfl
  | 7, _ => rfl
  | 8, _ => rfl
  | 9, _ => rfl
  | j + 10, hj => exact absurd hj (by omega)
theorem dv_X8 : ∀ j, j < 40 → defaultValue (tyX8 j) = vp_V [.int 0, .int 0, .int 0, .int 0, .int 0, .null, .null, .int 0, .null, .int 0, .null, .int 0, .int 0, .int 0, .int 0, .int 0, .int 0, .null, .int 0, .null, .null, .int 0, .int 0, .null, .null, .null, .null, .null, .int 0, .null, .null, .null, .null, .int 0, .int 0, .int 0, .null, .null, .null, .null] j := by
  intro j hj
  match j, hj with
  | 0, _ => rfl
  | 1, _ => rfl
  | 2, _ => rfl
  | 3, _ => rfl
  | 4, _ => rfl
  | 5, _ => rfl
  | 6, _ => rfl
  | 7, _ => rfl
  | 8, _ => rfl
  | 9, _ => rfl
  | 10, _ => rfl
  | 11, _ => rfl
  | 12, _ => rfl
  | 13, _ => rfl
  | 14, _ => rfl
  | 15, _ => rfl
  | 16, _ => rfl
  | 17, _ => rfl
  | 18, _ => rfl
  | 19, _ => rfl
  | 20, _ => rfl
  | 21, _ => rfl
  | 22, _ => rfl
  | 23, _ => rfl
  | 24, _ => rfl
  | 25, _ => rfl
  | 26, _ => rfl
  | 27, _ => rfl
  | 28, _ => rfl
  | 29, _ => rfl
  | 30, _ => rfl
  | 31, _ => rfl
  | 32, _ => rfl
  | 33, _ => rfl
  | 34, _ => rfl
  | 35, _ => rfl
  | 36, _ => rfl
  | 37, _ => rfl
  | 38, _ => rfl
  | 39, _ => rfl
  | j + 40, hj => exact absurd hj (by omega)
set_option maxHeartbeats 4000000 in
set_option maxRecDepth 100000 in
theorem m_X0 {l : Launch} {T : Nat → ClassId} {D : va_G} {σ : cb_St} {b : Nat} (hk : ∀ j, j < 5 → shC.getD (b + j) 0 = [0, 25, 26, 26, 128].getD j 0) (hb0 : σ.1 b = (fun _ => 0)) (hL0 : σ.2 b = 0) (hz1 : σ.1 (b + 1 + 0) = fun _ => 0) (hz2 : σ.1 (b + 1 + 1) = fun _ => 0) (hz3 : σ.1 (b + 1 + 2) = fun _ => 0) (hz4 : σ.1 (b + 1 + 3) = fun _ => 0) : ci_M l yX0_init cX0_init 1 3 5 200 shC T D σ (.inr (0, [.int 0, .int 0, .int 0, .null, .null, .null, .null])) b 5 := by
  refine ci_met (by decide +kernel) rfl (by decide) ?_
  intro h0 p e s m below meth c P C hN hin hA hs ls hl
  obtain ⟨hx, hb, hml, hr, hown, hts, hK, hlk, hNn⟩ := id C
  obtain ⟨A, e0⟩ : ∃ A : Nat → Nat, A b = h0 := ⟨fun _ => h0, rfl⟩
  have hs : ci_H P D ([(h0, .inr (0, [.int 0, .int 0, .int 0, .null, .null, .null, .null]))] ++ sl shC A T σ (b + 1) 0) s.heap s.heap [] := hs
  refine lv_aload_n hx hb dX0_init_0 rfl (lv_at hl 0 rfl) ?_
  refine ci_obj C ml_X0_3 hl dX0_init_1 (by decide) (by decide) ?_
  refine lv_aload_n hx hb dX0_init_4 rfl (lv_at hl 0 rfl) ?_
  refine lv_iconst (v := 5) hx hb dX0_init_5 (by decide) ?_
  refine ci_newS (n := 0) (N := 5) C hA (slC_of [0, 25, 26, 26, 128] hk 1 0 (by decide) (by decide)) (hk 1 (by decide)) (hz1) hs (by decide) (by decide) (by decide) (by decide) (by decide) dX0_init_6 (fun A1 H1 g1 hs => ?_)
  have e0 := (g1 b (by omega)).trans e0
  obtain ⟨q1, e1⟩ : ∃ q, A1 (b + 1 + 0) = q := ⟨_, rfl⟩
  rw [e1]
  refine va_putF (D := D) (ci := 0) (v := .ref q1) (ty := .array .int) (C := RX0) (T := TX0) (N := 7) hx hb hts fw_X0 tyX0 tyX0_ok nmX0 hown hK hs.1 hs.2.1 hs.2.2 0 rfl rfl 3 (by decide) (hts _ kf_X0_9) (fun _ h9 => h9) rfl hin rfl (by decide +kernel) rfl rfl (Nat.le_of_ble_eq_true rfl) dX0_init_8 (fun H2 locs2 h1 h2 h3 => ?_)
  have hs : ci_H P D ([(h0, .inr (0, [.int 0, .int 0, .int 0, .ref q1, .null, .null, .null]))] ++ sl shC A1 T σ (b + 1) 1) s.heap H2 locs2 := ⟨h1, h2, h3⟩
  refine lv_aload_n hx hb dX0_init_11 rfl (lv_at hl 0 rfl) ?_
  refine lv_bipush (v := 6) hx hb dX0_init_12 (by decide) ?_
  refine ci_newS (n := 1) (N := 6) C hA (slC_of [0, 25, 26, 26, 128] hk 1 1 (by decide) (by decide)) (hk 2 (by decide)) (hz2) hs (by decide) (by decide) (by decide) (by decide) (by decide) dX0_init_14 (fun A3 H3 g3 hs => ?_)
  have e0 := (g3 b (by omega)).trans e0
  have e1 := (g3 (b + 1 + 0) (by omega)).trans e1
  obtain ⟨q2, e2⟩ : ∃ q, A3 (b + 1 + 1) = q := ⟨_, rfl⟩
  rw [e2]
  refine va_putF (D := D) (ci := 0) (v := .ref q2) (ty := .array .int) (C := RX0) (T := TX0) (N := 7) hx hb hts fw_X0 tyX0 tyX0_ok nmX0 hown hK hs.1 hs.2.1 hs.2.2 0 rfl rfl 4 (by decide) (hts _ kf_X0_15) (fun _ h9 => h9) rfl hin rfl (by decide +kernel) rfl rfl (Nat.le_of_ble_eq_true rfl) dX0_init_16 (fun H4 locs4 h1 h2 h3 => ?_)
  have hs : ci_H P D ([(h0, .inr (0, [.int 0, .int 0, .int 0, .ref q1, .ref q2, .null, .null]))] ++ sl shC A3 T σ (b + 1) 2) s.heap H4 locs4 := ⟨h1, h2, h3⟩
  refine lv_aload_n hx hb dX0_init_19 rfl (lv_at hl 0 rfl) ?_
  refine lv_bipush (v := 6) hx hb dX0_init_20 (by decide) ?_
  refine ci_newS (n := 2) (N := 6) C hA (slC_of [0, 25, 26, 26, 128] hk 1 2 (by decide) (by decide)) (hk 3 (by decide)) (hz3) hs (by decide) (by decide) (by decide) (by decide) (by decide) dX0_init_22 (fun A5 H5 g5 hs => ?_)
  have e0 := (g5 b (by omega)).trans e0
  have e1 := (g5 (b + 1 + 0) (by omega)).trans e1
  have e2 := (g5 (b + 1 + 1) (by omega)).trans e2
  obtain ⟨q3, e3⟩ : ∃ q, A5 (b + 1 + 2) = q := ⟨_, rfl⟩
  rw [e3]
  refine va_putF (D := D) (ci := 0) (v := .ref q3) (ty := .array .int) (C := RX0) (T := TX0) (N := 7) hx hb hts fw_X0 tyX0 tyX0_ok nmX0 hown hK hs.1 hs.2.1 hs.2.2 0 rfl rfl 5 (by decide) (hts _ kf_X0_18) (fun _ h9 => h9) rfl hin rfl (by decide +kernel) rfl rfl (Nat.le_of_ble_eq_true rfl) dX0_init_24 (fun H6 locs6 h1 h2 h3 => ?_)
  have hs : ci_H P D ([(h0, .inr (0, [.int 0, .int 0, .int 0, .ref q1, .ref q2, .ref q3, .null]))] ++ sl shC A5 T σ (b + 1) 3) s.heap H6 locs6 := ⟨h1, h2, h3⟩
  refine lv_aload_n hx hb dX0_init_27 rfl (lv_at hl 0 rfl) ?_
  refine lv_bipush (v := 108) hx hb dX0_init_28 (by decide) ?_
  refine ci_newS (n := 3) (N := 108) C hA (slC_of [0, 25, 26, 26, 128] hk 1 3 (by decide) (by decide)) (hk 4 (by decide)) (hz4) hs (by decide) (by decide) (by decide) (by decide) (by decide) dX0_init_30 (fun A7 H7 g7 hs => ?_)
  have e0 := (g7 b (by omega)).trans e0
  have e1 := (g7 (b + 1 + 0) (by omega)).trans e1
  have e2 := (g7 (b + 1 + 1) (by omega)).trans e2
  have e3 := (g7 (b + 1 + 2) (by omega)).trans e3
  obtain ⟨q4, e4⟩ : ∃ q, A7 (b + 1 + 3) = q := ⟨_, rfl⟩
  rw [e4]
  refine va_putF (D := D) (ci := 0) (v := .ref q4) (ty := .array .int) (C := RX0) (T := TX0) (N := 7) hx hb hts fw_X0 tyX0 tyX0_ok nmX0 hown hK hs.1 hs.2.1 hs.2.2 0 rfl rfl 6 (by decide) (hts _ kf_X0_21) (fun _ h9 => h9) rfl hin rfl (by decide +kernel) rfl rfl (Nat.le_of_ble_eq_true rfl) dX0_init_32 (fun H8 locs8 h1 h2 h3 => ?_)
  have hs : ci_H P D ([(h0, .inr (0, [.int 0, .int 0, .int 0, .ref q1, .ref q2, .ref q3, .ref q4]))] ++ sl shC A7 T σ (b + 1) 4) s.heap H8 locs8 := ⟨h1, h2, h3⟩
  have hE : cb_cE A7 T (σ.1 b) (σ.2 b) b (shC.getD b 0) = .inr (0, [.int 0, .int 0, .int 0, .ref q1, .ref q2, .ref q3, .ref q4]) := by
    rw [show shC.getD b 0 = 0 from hk 0 (by decide), hb0, hL0]
    show (Sum.inr (0, [.int 0, .int 0, .int 0, .ref (A7 (b + 1 + 0)), .ref (A7 (b + 1 + 1)), .ref (A7 (b + 1 + 2)), .ref (A7 (b + 1 + 3))]) : va_E) = _
    rw [e1, e2, e3, e4]
  have hs : ci_H P D (sl shC A7 T σ b 5) s.heap H8 locs8 := ci_H.re (sl_fin hE e0) hs
  exact ci_ret C hs e0 (by decide) (by decide) dX0_init_35
set_option maxHeartbeats 4000000 in
set_option maxRecDepth 100000 in
theorem m_X2 {l : Launch} {T : Nat → ClassId} {D : va_G} {σ : cb_St} {b : Nat} (hk : ∀ j, j < 6 → shC.getD (b + j) 0 = [2, 26, 26, 26, 35, 35].getD j 0) (hb0 : σ.1 b = (fun _ => 0)) (hL0 : σ.2 b = 0) (hz1 : σ.1 (b + 1 + 0) = fun _ => 0) (hz2 : σ.1 (b + 1 + 1) = fun _ => 0) (hz3 : σ.1 (b + 1 + 2) = fun _ => 0) (hz4 : σ.1 (b + 1 + 3) = fun _ => 0) (hz5 : σ.1 (b + 1 + 4) = fun _ => 0) : ci_M l yX2_init cX2_init 1 3 6 200 shC T D σ (.inr (2, [.int 0, .int 0, .null, .null, .null, .null, .null])) b 6 := by
  refine ci_met (by decide +kernel) rfl (by decide) ?_
  intro h0 p e s m below meth c P C hN hin hA hs ls hl
  obtain ⟨hx, hb, hml, hr, hown, hts, hK, hlk, hNn⟩ := id C
  obtain ⟨A, e0⟩ : ∃ A : Nat → Nat, A b = h0 := ⟨fun _ => h0, rfl⟩
  have hs : ci_H P D ([(h0, .inr (2, [.int 0, .int 0, .null, .null, .null, .null, .null]))] ++ sl shC A T σ (b + 1) 0) s.heap s.heap [] := hs
  refine lv_aload_n hx hb dX2_init_0 rfl (lv_at hl 0 rfl) ?_
  refine ci_obj C ml_X2_3 hl dX2_init_1 (by decide) (by decide) ?_
  refine lv_aload_n hx hb dX2_init_4 rfl (lv_at hl 0 rfl) ?_
  refine lv_bipush (v := 6) hx hb dX2_init_5 (by decide) ?_
  refine ci_newS (n := 0) (N := 6) C hA (slC_of [2, 26, 26, 26, 35, 35] hk 1 0 (by decide) (by decide)) (hk 1 (by decide)) (hz1) hs (by decide) (by decide) (by decide) (by decide) (by decide) dX2_init_7 (fun A1 H1 g1 hs => ?_)
  have e0 := (g1 b (by omega)).trans e0
  obtain ⟨q1, e1⟩ : ∃ q, A1 (b + 1 + 0) = q := ⟨_, rfl⟩
  rw [e1]
  refine va_putF (D := D) (ci := 2) (v := .ref q1) (ty := .array .int) (C := RX2) (T := TX2) (N := 7) hx hb hts fw_X2 tyX2 tyX2_ok nmX2 hown hK hs.1 hs.2.1 hs.2.2 0 rfl rfl 2 (by decide) (hts _ kf_X2_9) (fun _ h9 => h9) rfl hin rfl (by decide +kernel) rfl rfl (Nat.le_of_ble_eq_true rfl) dX2_init_9 (fun H2 locs2 h1 h2 h3 => ?_)
  have hs : ci_H P D ([(h0, .inr (2, [.int 0, .int 0, .ref q1, .null, .null, .null, .null]))] ++ sl shC A1 T σ (b + 1) 1) s.heap H2 locs2 := ⟨h1, h2, h3⟩
  refine lv_aload_n hx hb dX2_init_12 rfl (lv_at hl 0 rfl) ?_
  refine lv_bipush (v := 6) hx hb dX2_init_13 (by decide) ?_
  refine ci_newS (n := 1) (N := 6) C hA (slC_of [2, 26, 26, 26, 35, 35] hk 1 1 (by decide) (by decide)) (hk 2 (by decide)) (hz2) hs (by decide) (by decide) (by decide) (by decide) (by decide) dX2_init_15 (fun A3 H3 g3 hs => ?_)
  have e0 := (g3 b (by omega)).trans e0
  have e1 := (g3 (b + 1 + 0) (by omega)).trans e1
  obtain ⟨q2, e2⟩ : ∃ q, A3 (b + 1 + 1) = q := ⟨_, rfl⟩
  rw [e2]
  refine va_putF (D := D) (ci := 2) (v := .ref q2) (ty := .array .int) (C := RX2) (T := TX2) (N := 7) hx hb hts fw_X2 tyX2 tyX2_ok nmX2 hown hK hs.1 hs.2.1 hs.2.2 0 rfl rfl 3 (by decide) (hts _ kf_X2_15) (fun _ h9 => h9) rfl hin rfl (by decide +kernel) rfl rfl (Nat.le_of_ble_eq_true rfl) dX2_init_17 (fun H4 locs4 h1 h2 h3 => ?_)
  have hs : ci_H P D ([(h0, .inr (2, [.int 0, .int 0, .ref q1, .ref q2, .null, .null, .null]))] ++ sl shC A3 T σ (b + 1) 2) s.heap H4 locs4 := ⟨h1, h2, h3⟩
  refine lv_aload_n hx hb dX2_init_20 rfl (lv_at hl 0 rfl) ?_
  refine lv_bipush (v := 6) hx hb dX2_init_21 (by decide) ?_
  refine ci_newS (n := 2) (N := 6) C hA (slC_of [2, 26, 26, 26, 35, 35] hk 1 2 (by decide) (by decide)) (hk 3 (by decide)) (hz3) hs (by decide) (by decide) (by decide) (by decide) (by decide) dX2_init_23 (fun A5 H5 g5 hs => ?_)
  have e0 := (g5 b (by omega)).trans e0
  have e1 := (g5 (b + 1 + 0) (by omega)).trans e1
  have e2 := (g5 (b + 1 + 1) (by omega)).trans e2
  obtain ⟨q3, e3⟩ : ∃ q, A5 (b + 1 + 2) = q := ⟨_, rfl⟩
  rw [e3]
  refine va_putF (D := D) (ci := 2) (v := .ref q3) (ty := .array .int) (C := RX2) (T := TX2) (N := 7) hx hb hts fw_X2 tyX2 tyX2_ok nmX2 hown hK hs.1 hs.2.1 hs.2.2 0 rfl rfl 4 (by decide) (hts _ kf_X2_18) (fun _ h9 => h9) rfl hin rfl (by decide +kernel) rfl rfl (Nat.le_of_ble_eq_true rfl) dX2_init_25 (fun H6 locs6 h1 h2 h3 => ?_)
  have hs : ci_H P D ([(h0, .inr (2, [.int 0, .int 0, .ref q1, .ref q2, .ref q3, .null, .null]))] ++ sl shC A5 T σ (b + 1) 3) s.heap H6 locs6 := ⟨h1, h2, h3⟩
  refine lv_aload_n hx hb dX2_init_28 rfl (lv_at hl 0 rfl) ?_
  refine lv_bipush (v := 15) hx hb dX2_init_29 (by decide) ?_
  refine ci_newS (n := 3) (N := 15) C hA (slC_of [2, 26, 26, 26, 35, 35] hk 1 3 (by decide) (by decide)) (hk 4 (by decide)) (hz4) hs (by decide) (by decide) (by decide) (by decide) (by decide) dX2_init_31 (fun A7 H7 g7 hs => ?_)
  have e0 := (g7 b (by omega)).trans e0
  have e1 := (g7 (b + 1 + 0) (by omega)).trans e1
  have e2 := (g7 (b + 1 + 1) (by omega)).trans e2
  have e3 := (g7 (b + 1 + 2) (by omega)).trans e3
  obtain ⟨q4, e4⟩ : ∃ q, A7 (b + 1 + 3) = q := ⟨_, rfl⟩
  rw [e4]
  refine va_putF (D := D) (ci := 2) (v := .ref q4) (ty := .array .int) (C := RX2) (T := TX2) (N := 7) hx hb hts fw_X2 tyX2 tyX2_ok nmX2 hown hK hs.1 hs.2.1 hs.2.2 0 rfl rfl 5 (by decide) (hts _ kf_X2_21) (fun _ h9 => h9) rfl hin rfl (by decide +kernel) rfl rfl (Nat.le_of_ble_eq_true rfl) dX2_init_33 (fun H8 locs8 h1 h2 h3 => ?_)
  have hs : ci_H P D ([(h0, .inr (2, [.int 0, .int 0, .ref q1, .ref q2, .ref q3, .ref q4, .null]))] ++ sl shC A7 T σ (b + 1) 4) s.heap H8 locs8 := ⟨h1, h2, h3⟩
  refine lv_aload_n hx hb dX2_init_36 rfl (lv_at hl 0 rfl) ?_
  refine lv_bipush (v := 15) hx hb dX2_init_37 (by decide) ?_
  refine ci_newS (n := 4) (N := 15) C hA (slC_of [2, 26, 26, 26, 35, 35] hk 1 4 (by decide) (by decide)) (hk 5 (by decide)) (hz5) hs (by decide) (by decide) (by decide) (by decide) (by decide) dX2_init_39 (fun A9 H9 g9 hs => ?_)
  have e0 := (g9 b (by omega)).trans e0
  have e1 := (g9 (b + 1 + 0) (by omega)).trans e1
  have e2 := (g9 (b + 1 + 1) (by omega)).trans e2
  have e3 := (g9 (b + 1 + 2) (by omega)).trans e3
  have e4 := (g9 (b + 1 + 3) (by omega)).trans e4
  obtain ⟨q5, e5⟩ : ∃ q, A9 (b + 1 + 4) = q := ⟨_, rfl⟩
  rw [e5]
  refine va_putF (D := D) (ci := 2) (v := .ref q5) (ty := .array .int) (C := RX2) (T := TX2) (N := 7) hx hb hts fw_X2 tyX2 tyX2_ok nmX2 hown hK hs.1 hs.2.1 hs.2.2 0 rfl rfl 6 (by decide) (hts _ kf_X2_24) (fun _ h9 => h9) rfl hin rfl (by decide +kernel) rfl rfl (Nat.le_of_ble_eq_true rfl) dX2_init_41 (fun H10 locs10 h1 h2 h3 => ?_)
  have hs : ci_H P D ([(h0, .inr (2, [.int 0, .int 0, .ref q1, .ref q2, .ref q3, .ref q4, .ref q5]))] ++ sl shC A9 T σ (b + 1) 5) s.heap H10 locs10 := ⟨h1, h2, h3⟩
  have hE : cb_cE A9 T (σ.1 b) (σ.2 b) b (shC.getD b 0) = .inr (2, [.int 0, .int 0, .ref q1, .ref q2, .ref q3, .ref q4, .ref q5]) := by
    rw [show shC.getD b 0 = 2 from hk 0 (by decide), hb0, hL0]
    show (Sum.inr (2, [.int 0, .int 0, .ref (A9 (b + 1 + 0)), .ref (A9 (b + 1 + 1)), .ref (A9 (b + 1 + 2)), .ref (A9 (b + 1 + 3)), .ref (A9 (b + 1 + 4))]) : va_E) = _
    rw [e1, e2, e3, e4, e5]
  have hs : ci_H P D (sl shC A9 T σ b 6) s.heap H10 locs10 := ci_H.re (sl_fin hE e0) hs
  exact ci_ret C hs e0 (by decide) (by decide) dX2_init_44
set_option maxHeartbeats 4000000 in
set_option maxRecDepth 100000 in
theorem m_X6 {l : Launch} {T : Nat → ClassId} {D : va_G} {σ : cb_St} {b : Nat} (hk : ∀ j, j < 4 → shC.getD (b + j) 0 = [6, 32, 32, 32].getD j 0) (hb0 : σ.1 b = (fun i => if i = 1 then -1 else 0)) (hL0 : σ.2 b = 0) (hz1 : σ.1 (b + 1 + 0) = fun _ => 0) (hz2 : σ.1 (b + 1 + 1) = fun _ => 0) (hz3 : σ.1 (b + 1 + 2) = fun _ => 0) : ci_M l yX6_init cX6_init 1 3 4 100 shC T D σ (.inr (6, [.int 0, .int 0, .int 0, .int 0, .int 0, .int 0, .long 0, .null, .null, .null])) b 4 := by
  refine ci_met (by decide +kernel) rfl (by decide) ?_
  intro h0 p e s m below meth c P C hN hin hA hs ls hl
  obtain ⟨hx, hb, hml, hr, hown, hts, hK, hlk, hNn⟩ := id C
  obtain ⟨A, e0⟩ : ∃ A : Nat → Nat, A b = h0 := ⟨fun _ => h0, rfl⟩
  have hs : ci_H P D ([(h0, .inr (6, [.int 0, .int 0, .int 0, .int 0, .int 0, .int 0, .long 0, .null, .null, .null]))] ++ sl shC A T σ (b + 1) 0) s.heap s.heap [] := hs
  refine lv_aload_n hx hb dX6_init_0 rfl (lv_at hl 0 rfl) ?_
  refine ci_obj C ml_X6_3 hl dX6_init_1 (by decide) (by decide) ?_
  refine lv_aload_n hx hb dX6_init_4 rfl (lv_at hl 0 rfl) ?_
  refine lv_iconst (v := (-1)) hx hb dX6_init_5 (by decide) ?_
  refine va_put (D := D) (ci := 6) (v := .int (-1)) (ty := .int) (C := RX6) (T := TX6) (N := 10) hx hb hts fw_X6 tyX6 tyX6_ok nmX6 hown hK hs.1 hs.2.1 hs.2.2 0 rfl rfl 1 (by decide) (hts _ kf_X6_9) (fun _ h9 => h9) rfl (by decide +kernel) rfl rfl (Nat.le_of_ble_eq_true rfl) dX6_init_6 (fun H1 locs1 h1 h2 h3 => ?_)
  have hs : ci_H P D ([(h0, .inr (6, [.int 0, .int (-1), .int 0, .int 0, .int 0, .int 0, .long 0, .null, .null, .null]))] ++ sl shC A T σ (b + 1) 0) s.heap H1 locs1 := ⟨h1, h2, h3⟩
  refine lv_aload_n hx hb dX6_init_9 rfl (lv_at hl 0 rfl) ?_
  refine lv_bipush (v := 12) hx hb dX6_init_10 (by decide) ?_
  refine ci_newS (n := 0) (N := 12) C hA (slC_of [6, 32, 32, 32] hk 1 0 (by decide) (by decide)) (hk 1 (by decide)) (hz1) hs (by decide) (by decide) (by decide) (by decide) (by decide) dX6_init_12 (fun A2 H2 g2 hs => ?_)
  have e0 := (g2 b (by omega)).trans e0
  obtain ⟨q1, e1⟩ : ∃ q, A2 (b + 1 + 0) = q := ⟨_, rfl⟩
  rw [e1]
  refine va_putF (D := D) (ci := 6) (v := .ref q1) (ty := .array .int) (C := RX6) (T := TX6) (N := 10) hx hb hts fw_X6 tyX6 tyX6_ok nmX6 hown hK hs.1 hs.2.1 hs.2.2 0 rfl rfl 7 (by decide) (hts _ kf_X6_15) (fun _ h9 => h9) rfl hin rfl (by decide +kernel) rfl rfl (Nat.le_of_ble_eq_true rfl) dX6_init_14 (fun H3 locs3 h1 h2 h3 => ?_)
  have hs : ci_H P D ([(h0, .inr (6, [.int 0, .int (-1), .int 0, .int 0, .int 0, .int 0, .long 0, .ref q1, .null, .null]))] ++ sl shC A2 T σ (b + 1) 1) s.heap H3 locs3 := ⟨h1, h2, h3⟩
  refine lv_aload_n hx hb dX6_init_17 rfl (lv_at hl 0 rfl) ?_
  refine lv_bipush (v := 12) hx hb dX6_init_18 (by decide) ?_
  refine ci_newS (n := 1) (N := 12) C hA (slC_of [6, 32, 32, 32] hk 1 1 (by decide) (by decide)) (hk 2 (by decide)) (hz2) hs (by decide) (by decide) (by decide) (by decide) (by decide) dX6_init_20 (fun A4 H4 g4 hs => ?_)
  have e0 := (g4 b (by omega)).trans e0
  have e1 := (g4 (b + 1 + 0) (by omega)).trans e1
  obtain ⟨q2, e2⟩ : ∃ q, A4 (b + 1 + 1) = q := ⟨_, rfl⟩
  rw [e2]
  refine va_putF (D := D) (ci := 6) (v := .ref q2) (ty := .array .int) (C := RX6) (T := TX6) (N := 10) hx hb hts fw_X6 tyX6 tyX6_ok nmX6 hown hK hs.1 hs.2.1 hs.2.2 0 rfl rfl 8 (by decide) (hts _ kf_X6_19) (fun _ h9 => h9) rfl hin rfl (by decide +kernel) rfl rfl (Nat.le_of_ble_eq_true rfl) dX6_init_22 (fun H5 locs5 h1 h2 h3 => ?_)
  have hs : ci_H P D ([(h0, .inr (6, [.int 0, .int (-1), .int 0, .int 0, .int 0, .int 0, .long 0, .ref q1, .ref q2, .null]))] ++ sl shC A4 T σ (b + 1) 2) s.heap H5 locs5 := ⟨h1, h2, h3⟩
  refine lv_aload_n hx hb dX6_init_25 rfl (lv_at hl 0 rfl) ?_
  refine lv_bipush (v := 12) hx hb dX6_init_26 (by decide) ?_
  refine ci_newS (n := 2) (N := 12) C hA (slC_of [6, 32, 32, 32] hk 1 2 (by decide) (by decide)) (hk 3 (by decide)) (hz3) hs (by decide) (by decide) (by decide) (by decide) (by decide) dX6_init_28 (fun A6 H6 g6 hs => ?_)
  have e0 := (g6 b (by omega)).trans e0
  have e1 := (g6 (b + 1 + 0) (by omega)).trans e1
  have e2 := (g6 (b + 1 + 1) (by omega)).trans e2
  obtain ⟨q3, e3⟩ : ∃ q, A6 (b + 1 + 2) = q := ⟨_, rfl⟩
  rw [e3]
  refine va_putF (D := D) (ci := 6) (v := .ref q3) (ty := .array .int) (C := RX6) (T := TX6) (N := 10) hx hb hts fw_X6 tyX6 tyX6_ok nmX6 hown hK hs.1 hs.2.1 hs.2.2 0 rfl rfl 9 (by decide) (hts _ kf_X6_22) (fun _ h9 => h9) rfl hin rfl (by decide +kernel) rfl rfl (Nat.le_of_ble_eq_true rfl) dX6_init_30 (fun H7 locs7 h1 h2 h3 => ?_)
  have hs : ci_H P D ([(h0, .inr (6, [.int 0, .int (-1), .int 0, .int 0, .int 0, .int 0, .long 0, .ref q1, .ref q2, .ref q3]))] ++ sl shC A6 T σ (b + 1) 3) s.heap H7 locs7 := ⟨h1, h2, h3⟩
  have hE : cb_cE A6 T (σ.1 b) (σ.2 b) b (shC.getD b 0) = .inr (6, [.int 0, .int (-1), .int 0, .int 0, .int 0, .int 0, .long 0, .ref q1, .ref q2, .ref q3]) := by
    rw [show shC.getD b 0 = 6 from hk 0 (by decide), hb0, hL0]
    show (Sum.inr (6, [.int 0, .int (-1), .int 0, .int 0, .int 0, .int 0, .long 0, .ref (A6 (b + 1 + 0)), .ref (A6 (b + 1 + 1)), .ref (A6 (b + 1 + 2))]) : va_E) = _
    rw [e1, e2, e3]
  have hs : ci_H P D (sl shC A6 T σ b 4) s.heap H7 locs7 := ci_H.re (sl_fin hE e0) hs
  exact ci_ret C hs e0 (by decide) (by decide) dX6_init_33
set_option maxHeartbeats 4000000 in
set_option maxRecDepth 100000 in
theorem m_X4 {l : Launch} {T : Nat → ClassId} {D : va_G} {σ : cb_St} {b : Nat} (hk : ∀ j, j < 5 → shC.getD (b + j) 0 = [4, 32, 26, 26, 44].getD j 0) (hb0 : σ.1 b = (fun _ => 0)) (hL0 : σ.2 b = 0) (hy1 : σ.1 (b + 1 + 0) = fun _ => 0) (hy2 : σ.1 (b + 1 + 1) = gm) (hy3 : σ.1 (b + 1 + 2) = fun _ => 0) (hy4 : σ.1 (b + 1 + 3) = fun _ => 0) : ci_M l yX4_init cX4_init 1 3 5 100 shC T D σ (.inr (4, [.int 0, .int 0, .int 0, .null, .null, .null, .null])) b 5 := by
  refine ci_met (by decide +kernel) rfl (by decide) ?_
  intro h0 p e s m below meth c P C hN hin hA hs ls hl
  obtain ⟨hx, hb, hml, hr, hown, hts, hK, hlk, hNn⟩ := id C
  have hz1 : (cb_sA σ (b + 1 + 1) (fun _ => 0)).1 (b + 1 + 0) = fun _ => 0 := by rw [sA_n _ _ (by omega)]; exact hy1
  have hz2 : (cb_sA σ (b + 1 + 1) (fun _ => 0)).1 (b + 1 + 1) = fun _ => 0 := sA_e _ _ _
  have hz3 : (cb_sA σ (b + 1 + 1) (fun _ => 0)).1 (b + 1 + 2) = fun _ => 0 := by rw [sA_n _ _ (by omega)]; exact hy3
  have hz4 : (cb_sA σ (b + 1 + 1) (fun _ => 0)).1 (b + 1 + 3) = fun _ => 0 := by rw [sA_n _ _ (by omega)]; exact hy4
  obtain ⟨A, e0⟩ : ∃ A : Nat → Nat, A b = h0 := ⟨fun _ => h0, rfl⟩
  have hs : ci_H P D ([(h0, .inr (4, [.int 0, .int 0, .int 0, .null, .null, .null, .null]))] ++ sl shC A T (cb_sA σ (b + 1 + 1) (fun _ => 0)) (b + 1) 0) s.heap s.heap [] := hs
  refine lv_aload_n hx hb dX4_init_0 rfl (lv_at hl 0 rfl) ?_
  refine ci_obj C ml_X4_3 hl dX4_init_1 (by decide) (by decide) ?_
  refine lv_aload_n hx hb dX4_init_4 rfl (lv_at hl 0 rfl) ?_
  refine lv_bipush (v := 12) hx hb dX4_init_5 (by decide) ?_
  refine ci_newS (n := 0) (N := 12) C hA (slC_of [4, 32, 26, 26, 44] hk 1 0 (by decide) (by decide)) (hk 1 (by decide)) (hz1) hs (by decide) (by decide) (by decide) (by decide) (by decide) dX4_init_7 (fun A1 H1 g1 hs => ?_)
  have e0 := (g1 b (by omega)).trans e0
  obtain ⟨q1, e1⟩ : ∃ q, A1 (b + 1 + 0) = q := ⟨_, rfl⟩
  rw [e1]
  refine va_putF (D := D) (ci := 4) (v := .ref q1) (ty := .array .int) (C := RX4) (T := TX4) (N := 7) hx hb hts fw_X4 tyX4 tyX4_ok nmX4 hown hK hs.1 hs.2.1 hs.2.2 0 rfl rfl 3 (by decide) (hts _ kf_X4_9) (fun _ h9 => h9) rfl hin rfl (by decide +kernel) rfl rfl (Nat.le_of_ble_eq_true rfl) dX4_init_9 (fun H2 locs2 h1 h2 h3 => ?_)
  have hs : ci_H P D ([(h0, .inr (4, [.int 0, .int 0, .int 0, .ref q1, .null, .null, .null]))] ++ sl shC A1 T (cb_sA σ (b + 1 + 1) (fun _ => 0)) (b + 1) 1) s.heap H2 locs2 := ⟨h1, h2, h3⟩
  refine lv_aload_n hx hb dX4_init_12 rfl (lv_at hl 0 rfl) ?_
  refine lv_bipush (v := 6) hx hb dX4_init_13 (by decide) ?_
  refine ci_newS (n := 1) (N := 6) C hA (slC_of [4, 32, 26, 26, 44] hk 1 1 (by decide) (by decide)) (hk 2 (by decide)) (hz2) hs (by decide) (by decide) (by decide) (by decide) (by decide) dX4_init_15 (fun A3 H3 g3 hs => ?_)
  have e0 := (g3 b (by omega)).trans e0
  have e1 := (g3 (b + 1 + 0) (by omega)).trans e1
  obtain ⟨q2, e2⟩ : ∃ q, A3 (b + 1 + 1) = q := ⟨_, rfl⟩
  rw [e2]
  refine va_putF (D := D) (ci := 4) (v := .ref q2) (ty := .array .int) (C := RX4) (T := TX4) (N := 7) hx hb hts fw_X4 tyX4 tyX4_ok nmX4 hown hK hs.1 hs.2.1 hs.2.2 0 rfl rfl 4 (by decide) (hts _ kf_X4_15) (fun _ h9 => h9) rfl hin rfl (by decide +kernel) rfl rfl (Nat.le_of_ble_eq_true rfl) dX4_init_17 (fun H4 locs4 h1 h2 h3 => ?_)
  have hs : ci_H P D ([(h0, .inr (4, [.int 0, .int 0, .int 0, .ref q1, .ref q2, .null, .null]))] ++ sl shC A3 T (cb_sA σ (b + 1 + 1) (fun _ => 0)) (b + 1) 2) s.heap H4 locs4 := ⟨h1, h2, h3⟩
  refine lv_aload_n hx hb dX4_init_20 rfl (lv_at hl 0 rfl) ?_
  refine lv_bipush (v := 6) hx hb dX4_init_21 (by decide) ?_
  refine ci_newS (n := 2) (N := 6) C hA (slC_of [4, 32, 26, 26, 44] hk 1 2 (by decide) (by decide)) (hk 3 (by decide)) (hz3) hs (by decide) (by decide) (by decide) (by decide) (by decide) dX4_init_23 (fun A5 H5 g5 hs => ?_)
  have e0 := (g5 b (by omega)).trans e0
  have e1 := (g5 (b + 1 + 0) (by omega)).trans e1
  have e2 := (g5 (b + 1 + 1) (by omega)).trans e2
  obtain ⟨q3, e3⟩ : ∃ q, A5 (b + 1 + 2) = q := ⟨_, rfl⟩
  rw [e3]
  refine va_putF (D := D) (ci := 4) (v := .ref q3) (ty := .array .int) (C := RX4) (T := TX4) (N := 7) hx hb hts fw_X4 tyX4 tyX4_ok nmX4 hown hK hs.1 hs.2.1 hs.2.2 0 rfl rfl 5 (by decide) (hts _ kf_X4_18) (fun _ h9 => h9) rfl hin rfl (by decide +kernel) rfl rfl (Nat.le_of_ble_eq_true rfl) dX4_init_25 (fun H6 locs6 h1 h2 h3 => ?_)
  have hs : ci_H P D ([(h0, .inr (4, [.int 0, .int 0, .int 0, .ref q1, .ref q2, .ref q3, .null]))] ++ sl shC A5 T (cb_sA σ (b + 1 + 1) (fun _ => 0)) (b + 1) 3) s.heap H6 locs6 := ⟨h1, h2, h3⟩
  refine lv_aload_n hx hb dX4_init_28 rfl (lv_at hl 0 rfl) ?_
  refine lv_bipush (v := 24) hx hb dX4_init_29 (by decide) ?_
  refine ci_newS (n := 3) (N := 24) C hA (slC_of [4, 32, 26, 26, 44] hk 1 3 (by decide) (by decide)) (hk 4 (by decide)) (hz4) hs (by decide) (by decide) (by decide) (by decide) (by decide) dX4_init_31 (fun A7 H7 g7 hs => ?_)
  have e0 := (g7 b (by omega)).trans e0
  have e1 := (g7 (b + 1 + 0) (by omega)).trans e1
  have e2 := (g7 (b + 1 + 1) (by omega)).trans e2
  have e3 := (g7 (b + 1 + 2) (by omega)).trans e3
  obtain ⟨q4, e4⟩ : ∃ q, A7 (b + 1 + 3) = q := ⟨_, rfl⟩
  rw [e4]
  refine va_putF (D := D) (ci := 4) (v := .ref q4) (ty := .array .int) (C := RX4) (T := TX4) (N := 7) hx hb hts fw_X4 tyX4 tyX4_ok nmX4 hown hK hs.1 hs.2.1 hs.2.2 0 rfl rfl 6 (by decide) (hts _ kf_X4_21) (fun _ h9 => h9) rfl hin rfl (by decide +kernel) rfl rfl (Nat.le_of_ble_eq_true rfl) dX4_init_33 (fun H8 locs8 h1 h2 h3 => ?_)
  have hs : ci_H P D ([(h0, .inr (4, [.int 0, .int 0, .int 0, .ref q1, .ref q2, .ref q3, .ref q4]))] ++ sl shC A7 T (cb_sA σ (b + 1 + 1) (fun _ => 0)) (b + 1) 4) s.heap H8 locs8 := ⟨h1, h2, h3⟩
  refine lv_aload_n hx hb dX4_init_36 rfl (lv_at hl 0 rfl) ?_
  refine va_get (D := D) (ci := 4) (v := .ref q2) (C := RX4) (T := TX4) (N := 7) hx hb hts fw_X4 hown hK hs.1 0 rfl rfl 4 (by decide) (hts _ kf_X4_15) (fun _ h => h) rfl dX4_init_37 ?_
  refine lv_iconst (v := -1) hx hb dX4_init_40 (by decide) ?_
  have hi2 : ([(h0, .inr (4, [.int 0, .int 0, .int 0, .ref q1, .ref q2, .ref q3, .ref q4]))] ++ sl shC A7 T (cb_sA σ (b + 1 + 1) (fun _ => 0)) (b + 1) 4)[2]? = some (q2, .inl (T 0, 6, .inl (fun _ => 0))) := by
    show (sl shC A7 T (cb_sA σ (b + 1 + 1) (fun _ => 0)) (b + 1) 4)[1]? = _
    rw [at_sl _ _ _ _ _ _ (show 1 < 4 by decide), e2, hz2, show shC.getD (b + 1 + 1) 0 = 26 from hk 2 (by decide)]
    rfl
  refine ci_fill C hs hi2 (by decide) (by decide) ml_X4_24 hl (rest := []) (by decide) ⟨by decide, trivial⟩ (by decide) (by decide) dX4_init_41 (fun H locs hs => ?_)
  have hs : ci_H P D ([(h0, .inr (4, [.int 0, .int 0, .int 0, .ref q1, .ref q2, .ref q3, .ref q4]))] ++ sl shC A7 T σ (b + 1) 4) s.heap H locs := by
    refine ci_H.re ?_ hs
    show _ = [(h0, (Sum.inr (4, [.int 0, .int 0, .int 0, .ref q1, .ref q2, .ref q3, .ref q4]) : va_E))] ++ (sl shC A7 T (cb_sA σ (b + 1 + 1) (fun _ => 0)) (b + 1) 4).set 1 (q2, .inl (T 0, 6, .inl (fun j => if j < 6 then -1 else 0)))
    have q : (q2, (Sum.inl (T 0, 6, Sum.inl (fun j => if j < 6 then -1 else 0)) : va_E)) = (A7 (b + 1 + 1), cb_cE A7 T gm ((cb_sA σ (b + 1 + 1) (fun _ => 0)).2 (b + 1 + 1)) (b + 1 + 1) (shC.getD (b + 1 + 1) 0)) := by
      rw [e2, show shC.getD (b + 1 + 1) 0 = 26 from hk 2 (by decide)]; rfl
    rw [q, sl_set _ _ _ _ _ _ (show 1 < 4 by decide), sA_sA, ← hy2, sA_id]
  have hE : cb_cE A7 T (σ.1 b) (σ.2 b) b (shC.getD b 0) = .inr (4, [.int 0, .int 0, .int 0, .ref q1, .ref q2, .ref q3, .ref q4]) := by
    rw [show shC.getD b 0 = 4 from hk 0 (by decide), hb0, hL0]
    show (Sum.inr (4, [.int 0, .int 0, .int 0, .ref (A7 (b + 1 + 0)), .ref (A7 (b + 1 + 1)), .ref (A7 (b + 1 + 2)), .ref (A7 (b + 1 + 3))]) : va_E) = _
    rw [e1, e2, e3, e4]
  have hs : ci_H P D (sl shC A7 T σ b 5) s.heap H locs := ci_H.re (sl_fin hE e0) hs
  exact ci_ret C hs e0 (by decide) (by decide) dX4_init_44
set_option maxHeartbeats 4000000 in
set_option maxRecDepth 100000 in
theorem m_X5 {l : Launch} {T : Nat → ClassId} {D : va_G} {σ : cb_St} {b : Nat} (hk : ∀ j, j < 6 → shC.getD (b + j) 0 = [5, 6, 32, 32, 32, 260].getD j 0) (hb0 : σ.1 b = (fun i => if i = 2 then -1 else 0)) (hL0 : σ.2 b = 0) (hM6 : ci_M l yX6_init cX6_init 1 3 4 100 shC T D σ (.inr (6, [.int 0, .int 0, .int 0, .int 0, .int 0, .int 0, .long 0, .null, .null, .null])) (b + 1 + 0) 4) (hz5 : σ.1 (b + 1 + 4) = fun _ => 0) : ci_M l yX5_init cX5_init 1 4 12 500 shC T D σ (.inr (5, [.null, .int 0, .int 0, .int 0, .null, .int 0])) b 6 := by
  refine ci_met (by decide +kernel) rfl (by decide) ?_
  intro h0 p e s m below meth c P C hN hin hA hs ls hl
  obtain ⟨hx, hb, hml, hr, hown, hts, hK, hlk, hNn⟩ := id C
  obtain ⟨A, e0⟩ : ∃ A : Nat → Nat, A b = h0 := ⟨fun _ => h0, rfl⟩
  have hs : ci_H P D ([(h0, .inr (5, [.null, .int 0, .int 0, .int 0, .null, .int 0]))] ++ sl shC A T σ (b + 1) 0) s.heap s.heap [] := hs
  refine lv_aload_n hx hb dX5_init_0 rfl (lv_at hl 0 rfl) ?_
  refine ci_obj C ml_X5_3 hl dX5_init_1 (by decide) (by decide) ?_
  refine lv_aload_n hx hb dX5_init_4 rfl (lv_at hl 0 rfl) ?_
  refine ci_newI (n := 0) (kd := 6) (Nc := 10) (n' := 4) (fs := [.int 0, .int 0, .int 0, .int 0, .int 0, .int 0, .long 0, .null, .null, .null]) C hN hA hM6 rfl fw_X6 tyX6 tyX6_ok dv_X6 (cb_in (cb_t1 (List.mem_of_getElem? (i := 28) rfl)) rfl) (cb_in (cb_t1 (List.mem_of_getElem? (i := 29) rfl)) rfl) (cb_in (cb_t1 (List.mem_of_getElem? (i := 3) rfl)) rfl) (cb_in (cb_t1 (List.mem_of_getElem? (i := 32) rfl)) rfl) (cb_in (cb_t1 (List.mem_of_getElem? (i := 31) rfl)) rfl) ⟨by decide +kernel, by decide +kernel, by decide +kernel⟩ rfl (Or.inr hN.2.2.2.2.2.2.1) ⟨by decide, by decide⟩ (by decide) (by decide) (slC_of [5, 6, 32, 32, 32, 260] hk 1 0 (by decide) (by decide)) (slC_of [5, 6, 32, 32, 32, 260] hk (1 + 0) 4 (by decide) (by decide)) hs hl (Nat.le_of_ble_eq_true rfl) dX5_init_5 dX5_init_8 dX5_init_9 (fun A1 H1 locs1 g1 hs _ => ?_) (by decide)
  have e0 := (g1 b (by omega)).trans e0
  obtain ⟨q1, e1⟩ : ∃ q, A1 (b + 1 + 0) = q := ⟨_, rfl⟩
  rw [e1]
  refine va_putF (D := D) (ci := 5) (v := .ref q1) (ty := .object "CardBecome$Table") (C := RX5) (T := TX5) (N := 6) hx hb hts fw_X5 tyX5 tyX5_ok nmX5 hown hK hs.1 hs.2.1 hs.2.2 0 rfl rfl 0 (by decide) (hts _ kf_X5_12) (fun _ h9 => h9) rfl hin rfl (by decide +kernel) rfl rfl (Nat.le_of_ble_eq_true rfl) dX5_init_12 (fun H2 locs2 h1 h2 h3 => ?_)
  have hs : ci_H P D ([(h0, .inr (5, [.ref q1, .int 0, .int 0, .int 0, .null, .int 0]))] ++ sl shC A1 T σ (b + 1) 4) s.heap H2 locs2 := ⟨h1, h2, h3⟩
  refine lv_aload_n hx hb dX5_init_15 rfl (lv_at hl 0 rfl) ?_
  refine lv_iconst (v := (-1)) hx hb dX5_init_16 (by decide) ?_
  refine va_put (D := D) (ci := 5) (v := .int (-1)) (ty := .int) (C := RX5) (T := TX5) (N := 6) hx hb hts fw_X5 tyX5 tyX5_ok nmX5 hown hK hs.1 hs.2.1 hs.2.2 0 rfl rfl 2 (by decide) (hts _ kf_X5_18) (fun _ h9 => h9) rfl (by decide +kernel) rfl rfl (Nat.le_of_ble_eq_true rfl) dX5_init_17 (fun H3 locs3 h1 h2 h3 => ?_)
  have hs : ci_H P D ([(h0, .inr (5, [.ref q1, .int 0, .int (-1), .int 0, .null, .int 0]))] ++ sl shC A1 T σ (b + 1) 4) s.heap H3 locs3 := ⟨h1, h2, h3⟩
  refine lv_aload_n hx hb dX5_init_20 rfl (lv_at hl 0 rfl) ?_
  refine lv_sipush (v := 240) hx hb dX5_init_21 (by decide) ?_
  refine ci_newS (n := 4) (N := 240) C hA (slC_of [5, 6, 32, 32, 32, 260] hk 1 4 (by decide) (by decide)) (hk 5 (by decide)) (hz5) hs (by decide) (by decide) (by decide) (by decide) (by decide) dX5_init_24 (fun A4 H4 g4 hs => ?_)
  have e0 := (g4 b (by omega)).trans e0
  have e1 := (g4 (b + 1 + 0) (by omega)).trans e1
  obtain ⟨q5, e5⟩ : ∃ q, A4 (b + 1 + 4) = q := ⟨_, rfl⟩
  rw [e5]
  refine va_putF (D := D) (ci := 5) (v := .ref q5) (ty := .array .int) (C := RX5) (T := TX5) (N := 6) hx hb hts fw_X5 tyX5 tyX5_ok nmX5 hown hK hs.1 hs.2.1 hs.2.2 0 rfl rfl 4 (by decide) (hts _ kf_X5_22) (fun _ h9 => h9) rfl hin rfl (by decide +kernel) rfl rfl (Nat.le_of_ble_eq_true rfl) dX5_init_26 (fun H5 locs5 h1 h2 h3 => ?_)
  have hs : ci_H P D ([(h0, .inr (5, [.ref q1, .int 0, .int (-1), .int 0, .ref q5, .int 0]))] ++ sl shC A4 T σ (b + 1) 5) s.heap H5 locs5 := ⟨h1, h2, h3⟩
  have hE : cb_cE A4 T (σ.1 b) (σ.2 b) b (shC.getD b 0) = .inr (5, [.ref q1, .int 0, .int (-1), .int 0, .ref q5, .int 0]) := by
    rw [show shC.getD b 0 = 5 from hk 0 (by decide), hb0, hL0]
    show (Sum.inr (5, [.ref (A4 (b + 1 + 0)), .int 0, .int (-1), .int 0, .ref (A4 (b + 1 + 4)), .int 0]) : va_E) = _
    rw [e1, e5]
  have hs : ci_H P D (sl shC A4 T σ b 6) s.heap H5 locs5 := ci_H.re (sl_fin hE e0) hs
  exact ci_ret C hs e0 (by decide) (by decide) dX5_init_29
set_option maxHeartbeats 4000000 in
set_option maxRecDepth 100000 in
theorem m_X1 {l : Launch} {T : Nat → ClassId} {D : va_G} {σ : cb_St} {b : Nat} (hk : ∀ j, j < 6 → shC.getD (b + j) 0 = [1, 4, 32, 26, 26, 44].getD j 0) (hb0 : σ.1 b = (fun _ => 0)) (hL0 : σ.2 b = 0) (hM4 : ci_M l yX4_init cX4_init 1 3 5 100 shC T D σ (.inr (4, [.int 0, .int 0, .int 0, .null, .null, .null, .null])) (b + 1 + 0) 5) : ci_M l yX1_init cX1_init 1 4 12 200 shC T D σ (.inr (1, [.int 0, .int 0, .null])) b 6 := by
  refine ci_met (by decide +kernel) rfl (by decide) ?_
  intro h0 p e s m below meth c P C hN hin hA hs ls hl
  obtain ⟨hx, hb, hml, hr, hown, hts, hK, hlk, hNn⟩ := id C
  obtain ⟨A, e0⟩ : ∃ A : Nat → Nat, A b = h0 := ⟨fun _ => h0, rfl⟩
  have hs : ci_H P D ([(h0, .inr (1, [.int 0, .int 0, .null]))] ++ sl shC A T σ (b + 1) 0) s.heap s.heap [] := hs
  refine lv_aload_n hx hb dX1_init_0 rfl (lv_at hl 0 rfl) ?_
  refine ci_obj C ml_X1_1 hl dX1_init_1 (by decide) (by decide) ?_
  refine lv_aload_n hx hb dX1_init_4 rfl (lv_at hl 0 rfl) ?_
  refine ci_newI (n := 0) (kd := 4) (Nc := 7) (n' := 5) (fs := [.int 0, .int 0, .int 0, .null, .null, .null, .null]) C hN hA hM4 rfl fw_X4 tyX4 tyX4_ok dv_X4 (cb_in (cb_t1 (List.mem_of_getElem? (i := 226) rfl)) rfl) (cb_in (cb_t1 (List.mem_of_getElem? (i := 105) rfl)) rfl) (cb_in (cb_t1 (List.mem_of_getElem? (i := 4) rfl)) rfl) (cb_in (cb_t1 (List.mem_of_getElem? (i := 108) rfl)) rfl) (cb_in (cb_t1 (List.mem_of_getElem? (i := 107) rfl)) rfl) ⟨by decide +kernel, by decide +kernel, by decide +kernel⟩ rfl (Or.inl ml_X1_9) ⟨by decide, by decide⟩ (by decide) (by decide) (slC_of [1, 4, 32, 26, 26, 44] hk 1 0 (by decide) (by decide)) (slC_of [1, 4, 32, 26, 26, 44] hk (1 + 0) 5 (by decide) (by decide)) hs hl (Nat.le_of_ble_eq_true rfl) dX1_init_5 dX1_init_8 dX1_init_9 (fun A1 H1 locs1 g1 hs _ => ?_) (by decide)
  have e0 := (g1 b (by omega)).trans e0
  obtain ⟨q1, e1⟩ : ∃ q, A1 (b + 1 + 0) = q := ⟨_, rfl⟩
  rw [e1]
  refine va_putF (D := D) (ci := 1) (v := .ref q1) (ty := .object "CardBecome$Play") (C := RX1) (T := TX1) (N := 3) hx hb hts fw_X1 tyX1 tyX1_ok nmX1 hown hK hs.1 hs.2.1 hs.2.2 0 rfl rfl 2 (by decide) (hts _ kf_X1_10) (fun _ h9 => h9) rfl hin rfl (by decide +kernel) rfl rfl (Nat.le_of_ble_eq_true rfl) dX1_init_12 (fun H2 locs2 h1 h2 h3 => ?_)
  have hs : ci_H P D ([(h0, .inr (1, [.int 0, .int 0, .ref q1]))] ++ sl shC A1 T σ (b + 1) 5) s.heap H2 locs2 := ⟨h1, h2, h3⟩
  have hE : cb_cE A1 T (σ.1 b) (σ.2 b) b (shC.getD b 0) = .inr (1, [.int 0, .int 0, .ref q1]) := by
    rw [show shC.getD b 0 = 1 from hk 0 (by decide), hb0, hL0]
    show (Sum.inr (1, [.int 0, .int 0, .ref (A1 (b + 1 + 0))]) : va_E) = _
    rw [e1]
  have hs : ci_H P D (sl shC A1 T σ b 6) s.heap H2 locs2 := ci_H.re (sl_fin hE e0) hs
  exact ci_ret C hs e0 (by decide) (by decide) dX1_init_15
