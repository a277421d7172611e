/-! ===== the past: sixteen plays; the class; the reference (partly printed by wip/whole/gen/mk_init.py) ===== -/
abbrev rw_ (cA : ClassId) (n : Nat) (f : Nat → Option Nat) : va_E := .inl (cA, n, .inr (.inr (.inr (.inr f))))
abbrev pl0 : va_E := .inr (4, [.int 0, .int 0, .int 0, .null, .null, .null, .null])
abbrev im0 : va_E := .inr (1, [.int 0, .int 0, .null])
theorem row_at {D : va_G} {q n : Nat} {cA : ClassId} {f f' : Nat → Option Nat} {H : Heap} (h : ∀ i, i < n → f i = f' i) (hv : va_at D cb_cl (q, rw_ cA n f) H) : va_at D cb_cl (q, rw_ cA n f') H := by
  have h1 : H[q]? = some (vp_cell cA (n, .inr (.inr (.inr (.inr f))))) := hv
  show H[q]? = some (vp_cell cA (n, .inr (.inr (.inr (.inr f')))))
  rw [h1, vp_cell_q, vp_cell_q]
  congr 1
  apply arrV_c
  intro i hi
  rw [h i hi]
theorem row_re {P : Nat → Prop} {D : va_G} {H0 H : Heap} {locs : List Loc} {a : Nat × va_E} {q n : Nat} {cA : ClassId} {f f' : Nat → Option Nat} {S : va_W} (h : ∀ i, i < n → f i = f' i) (hs : ci_H P D (a :: (q, rw_ cA n f) :: S) H0 H locs) : ci_H P D (a :: (q, rw_ cA n f') :: S) H0 H locs := by
  refine ⟨?_, D_map (w1 := a :: (q, rw_ cA n f) :: S) rfl hs.2.1, hs.2.2⟩
  have h1 := P_iff.mp hs.1
  rw [P_iff]
  intro z hz
  rcases List.mem_cons.mp hz with e | hz
  · exact h1 z (by rw [e]; exact List.mem_cons_self)
  · rcases List.mem_cons.mp hz with e | hz
    · rw [e]; exact row_at h (h1 _ (List.mem_cons_of_mem _ List.mem_cons_self))
    · exact h1 z (List.mem_cons_of_mem _ (List.mem_cons_of_mem _ hz))
theorem sl_pls : ∀ i, i < 16 → ∀ j, j < 5 → shC.getD (20 + 5 * i + j) 0 = [4, 32, 26, 26, 44].getD j 0 := by decide
theorem slC_pls : ∀ i, i < 17 → slC shC 20 (5 * i) := by
  have h : ∀ j, j < 80 → rfN (shC.getD (20 + j) 0) = (if j % 5 = 0 then 4 else 0) := by decide
  intro i hi j h1 h2
  have h3 := h (j - 20) (by omega)
  rw [show 20 + (j - 20) = j by omega] at h3
  rw [h3]
  split <;> omega
theorem slC_one (k i : Nat) (hi : k = 20 + 5 * i) (h : i < 16) : slC shC k 5 := by
  subst hi
  exact slC_of [4, 32, 26, 26, 44] (sl_pls i h) 0 5 (by decide) (by decide)
theorem va_up_e (f : Nat → Option Nat) (i : Nat) (v : Option Nat) : va_up f i v i = v := by simp [va_up]
theorem va_up_n (f : Nat → Option Nat) {i j : Nat} (v : Option Nat) (h : j ≠ i) : va_up f i v j = f j := by simp [va_up, h]
set_option maxHeartbeats 4000000 in
set_option maxRecDepth 100000 in
theorem past_loop {l : Launch} {T : Nat → ClassId} {D : va_G} {σ : cb_St} {p : Program} {e : Env} {s : State} {m : MethodId} {below : List Frame} {meth : Method} {c : Code} {P : Nat → Prop} {h0 q : Nat} (C : cb_C p s m #[.ref h0] meth c cX3_init 2 none RX3 D T) (hN : ci_N s) (hA : ∀ q, s.heap.size ≤ q → P q) (hM : ∀ i, i < 16 → ci_M l yX4_init cX4_init 1 3 5 100 shC T D σ pl0 (20 + 5 * i) 5) (hb0 : σ.1 18 = fun _ => 0) :
    ∀ (r i : Nat), i + r = 16 → ∀ (A : Nat → Nat) (f : Nat → Option Nat) (H : Heap) (locs : List Loc) (ls : Array Slot), A 18 = h0 → A 19 = q → (∀ j, j < i → f j = some (A (20 + 5 * j))) → ci_H P D ([(h0, .inr (3, [.int 0, .int 0, .ref q])), (q, rw_ (T 1) 16 f)] ++ sl shC A T σ 20 (5 * i)) s.heap H locs → lv_has ls 2 [(0, .ref h0), (1, .int (zI i))] →
      W p l e (ci_R 4 100 2000) s m #[.ref h0] below meth c H locs (1 + 6 * i) (16 + 107 * i) (MQ below (ci_Q shC T D σ 18 82 h0 P) #[.ref h0] s 100 2000 P) (F0 m 15 ls []) := by
  obtain ⟨hx, hb, hml, hr, hown, hts, hK, hlk, hNn⟩ := id C
  intro r
  induction r with
  | zero =>
    intro i hi A f H locs ls e0 e1 hf hs hl
    refine lv_iload_n hx hb dX3_init_15 rfl (lv_at hl 1 rfl) ?_
    refine lv_bipush (v := 16) hx hb dX3_init_16 (by decide) ?_
    refine lv_icmp_ge (tgt := 40) hx hb dX3_init_18 (by decide) (fun cn => ?_) (fun cn => ?_)
    · have hi : i = 16 := by omega
      subst hi
      have hs2 := row_re (f' := fun i => some (A (19 + 1 + 5 * i))) (fun j hj => hf j hj) hs
      have hE18 : cb_cE A T (σ.1 18) (σ.2 18) 18 (shC.getD 18 0) = .inr (3, [.int 0, .int 0, .ref q]) := by
        rw [hb0, ← e1]; rfl
      have hs3 : ci_H P D (sl shC A T σ 18 82) s.heap H locs := by
        refine ci_H.re ?_ hs2
        rw [show (82 : Nat) = 1 + (1 + 80) from rfl, sl_app, sl_app, sl_1, sl_1, hE18, e0, e1]
        rfl
      exact ci_ret C hs3 e0 (by decide) (by decide) dX3_init_40
    · exact absurd (by rw [show (16 : Int32) = zI 16 from rfl, zI_le (by omega) (by omega) (by omega) (by omega)]; omega) cn
  | succ r ih =>
    intro i hi A f H locs ls e0 e1 hf hs hl
    refine lv_iload_n hx hb dX3_init_15 rfl (lv_at hl 1 rfl) ?_
    refine lv_bipush (v := 16) hx hb dX3_init_16 (by decide) ?_
    refine lv_icmp_ge (tgt := 40) hx hb dX3_init_18 (by decide) (fun cn => ?_) (fun cn => ?_)
    · exact absurd cn (by rw [show (16 : Int32) = zI 16 from rfl, zI_le (by omega) (by omega) (by omega) (by omega)]; omega)
    · clear cn
      refine lv_aload_n hx hb dX3_init_21 rfl (lv_at hl 0 rfl) ?_
      refine va_get (D := D) (ci := 3) (v := .ref q) (C := RX3) (T := TX3) (N := 3) hx hb hts fw_X3 hown hK hs.1 0 rfl rfl 2 (by decide) (hts _ kf_X3_11) (fun _ h => h) rfl dX3_init_22 ?_
      refine lv_iload_n hx hb dX3_init_25 rfl (lv_at hl 1 rfl) ?_
      refine ci_newI (k := 20) (n := 5 * i) (kd := 4) (Nc := 7) (n' := 5) C hN hA (hM i (by omega)) rfl fw_X4 tyX4 tyX4_ok dv_X4 (cb_in (cb_t1 (List.mem_of_getElem? (i := 145) rfl)) rfl) (cb_in (cb_t1 (List.mem_of_getElem? (i := 105) rfl)) rfl) (cb_in (cb_t1 (List.mem_of_getElem? (i := 4) rfl)) rfl) (cb_in (cb_t1 (List.mem_of_getElem? (i := 108) rfl)) rfl) (cb_in (cb_t1 (List.mem_of_getElem? (i := 107) rfl)) rfl) ⟨by decide +kernel, by decide +kernel, by decide +kernel⟩ rfl (Or.inl ml_X3_17) ⟨by decide, by decide⟩ (by show 1 + 6 * i + 1 + 5 ≤ 100; omega) (by show 16 + 107 * i + 7 + 100 ≤ 2000; omega) (slC_pls i (by omega)) (slC_one _ i rfl (by omega)) hs hl (Nat.le_of_ble_eq_true rfl) dX3_init_26 dX3_init_29 dX3_init_30 (fun A2 H2 locs2 g hs _ => ?_) (by decide)
      have hkd : shC.getD (20 + 5 * i) 0 = 4 := sl_pls i (by omega) 0 (by decide)
      have hat : ([(h0, (Sum.inr (3, [.int 0, .int 0, .ref q]) : va_E)), (q, rw_ (T 1) 16 f)] ++ sl shC A2 T σ 20 (5 * i + 5))[2 + 5 * i]? = some (A2 (20 + 5 * i), .inr (4, [.int (σ.1 (20 + 5 * i) 0), .int (σ.1 (20 + 5 * i) 1), .int (σ.1 (20 + 5 * i) 2), .ref (A2 (20 + 5 * i + 1)), .ref (A2 (20 + 5 * i + 2)), .ref (A2 (20 + 5 * i + 3)), .ref (A2 (20 + 5 * i + 4))])) := by
        rw [List.getElem?_append_right (by show 2 ≤ 2 + 5 * i; omega), show 2 + 5 * i - [(h0, (Sum.inr (3, [.int 0, .int 0, .ref q]) : va_E)), (q, rw_ (T 1) 16 f)].length = 5 * i from by show 2 + 5 * i - 2 = 5 * i; omega, at_sl _ _ _ _ _ _ (show 5 * i < 5 * i + 5 by omega), hkd]
        rfl
      have hin : vp_in (zI (i : Int)) 16 := by
        intro q
        rcases q with q | q
        · rw [show (0 : Int32) = zI 0 from rfl, zI_lt (by omega) (by omega) (by omega) (by omega)] at q; omega
        · rw [zI_clamp (by omega) (by omega)] at q; omega
      refine va_astq hx hb hK hs.1 hs.2.1 hs.2.2 1 1 (2 + 5 * i) 4 (r := (RX4, TX4, 7)) (i := zI (i : Int)) rfl rfl hat rfl hin dX3_init_33 (fun H3 locs3 h1 h2 h3 => ?_)
      rw [show (zI (i : Int)).toNatClampNeg = i from by rw [zI_clamp (by omega) (by omega), Int.toNat_natCast]] at h1 h2
      have hs : ci_H P D ([(h0, (Sum.inr (3, [.int 0, .int 0, .ref q]) : va_E)), (q, rw_ (T 1) 16 (va_up f i (some (A2 (20 + 5 * i)))))] ++ sl shC A2 T σ 20 (5 * i + 5)) s.heap H3 locs3 := ⟨h1, h2, h3⟩
      refine lv_iinc (v := zI ((i + 1 : Nat) : Int)) (lv' := [(1, .int (zI ((i + 1 : Nat) : Int))), (0, .ref h0)]) hx hb dX3_init_34 hl (k := 1) rfl (by rw [show Int32.ofInt 1 = zI 1 from rfl, zI_add, al_1]) (by decide) rfl (fun ls hl => ?_)
      refine lv_goto (tgt := 15) hx hb dX3_init_37 (by decide) ?_
      refine W.widen (k := 1 + 6 * (i + 1)) (n := 16 + 107 * (i + 1)) (by omega) (by omega) ?_
      refine ih (i + 1) (by omega) A2 _ _ _ _ ((g 18 (by omega)).trans e0) ((g 19 (by omega)).trans e1) (fun j hj => ?_) hs (lv_sub hl [1, 0] rfl)
      by_cases hji : j = i
      · subst hji; rw [va_up_e]
      · rw [va_up_n _ _ hji, hf j (by omega), g (20 + 5 * j) (by omega)]
theorem rowT1 {U : State} {D : va_G} {T : Nat → ClassId} {cA : ClassId} (h1 : va_K D cb_cl (cb_ty T) U) (h2 : va_K D cb_cl (cb_ty T ++ [(cA, .object RX4)]) U) : cA = T 1 := by
  obtain ⟨-, -, -, -, -, a⟩ := (h1.2 1 _ rfl).2
  obtain ⟨-, -, -, -, -, b⟩ := (h2.2 4 _ rfl).2
  exact Option.some.inj (b.symm.trans a)
theorem rowT2 {U : State} {D : va_G} {T : Nat → ClassId} {cA : ClassId} (h1 : va_K D cb_cl (cb_ty T) U) (h2 : va_K D cb_cl (cb_ty T ++ [(cA, .object RX1)]) U) : cA = T 2 := by
  obtain ⟨-, -, -, -, -, a⟩ := (h1.2 2 _ rfl).2
  obtain ⟨-, -, -, -, -, b⟩ := (h2.2 4 _ rfl).2
  exact Option.some.inj (b.symm.trans a)
set_option maxHeartbeats 4000000 in
set_option maxRecDepth 100000 in
theorem m_X3 {l : Launch} {T : Nat → ClassId} {D : va_G} {σ : cb_St} (hM : ∀ i, i < 16 → ci_M l yX4_init cX4_init 1 3 5 100 shC T D σ pl0 (20 + 5 * i) 5) (hb0 : σ.1 18 = fun _ => 0) : ci_M l yX3_init cX3_init 2 4 100 2000 shC T D σ (.inr (3, [.int 0, .int 0, .null])) 18 82 := by
  refine ci_met (by decide +kernel) rfl (by decide) ?_
  intro h0 p e s m below meth c P C hN hin hA hs ls hl
  obtain ⟨hx, hb, hml, hr, hown, hts, hK, hlk, hNn⟩ := id C
  refine lv_aload_n hx hb dX3_init_0 rfl (lv_at hl 0 rfl) ?_
  refine ci_obj C ml_X3_3 hl dX3_init_1 (by decide) (by decide) ?_
  refine lv_aload_n hx hb dX3_init_4 rfl (lv_at hl 0 rfl) ?_
  refine lv_bipush (v := 16) hx hb dX3_init_5 (by decide) ?_
  refine va_newq hx hb hown (hts (.classLink RX3 9 RX4) (cb_in (cb_t1 (List.mem_of_getElem? (i := 145) rfl)) rfl)) hN.2.2.2.2.2.2.2.1 hK hs.1 hs.2.1 hs.2.2 hA (N' := 16) (by decide) (by decide) (by decide) (by decide) (by decide) dX3_init_7 (fun q cA H1 hK1 h1 h2 h3 => ?_)
  have eT := rowT1 hK hK1
  subst eT
  refine va_putF (D := D) (ci := 3) (v := .ref q) (ty := .array (.object "CardBecome$Play")) (C := RX3) (T := TX3) (N := 3) hx hb hts fw_X3 tyX3 tyX3_ok nmX3 hown hK h1 h2 h3 0 rfl rfl 2 (by decide) (hts _ kf_X3_11) (fun _ h9 => h9) rfl hin rfl (by decide +kernel) rfl rfl (Nat.le_of_ble_eq_true rfl) dX3_init_10 (fun H2 locs2 h1 h2 h3 => ?_)
  refine lv_iconst (v := 0) hx hb dX3_init_13 (by decide) ?_
  refine lv_istore_n (lv' := [(1, .int 0), (0, .ref h0)]) hx hb dX3_init_14 rfl hl (by decide) rfl (fun ls hl => ?_)
  refine W.widen (k := 1 + 6 * 0) (n := 16 + 107 * 0) (by decide) (by decide) ?_
  exact past_loop C hN hA hM hb0 16 0 rfl (fun j => if j = 18 then h0 else q) (fun _ => none) H2 locs2 ls rfl rfl (fun j hj => absurd hj (by omega)) ⟨h1, h2, h3⟩ (lv_sub hl [1, 0] rfl)
