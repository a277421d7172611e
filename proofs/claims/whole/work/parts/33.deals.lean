section
variable {p : Program} {l : Launch} {e : Env} {s : State} {m : MethodId} {args : Array Value} {below : List Frame} {meth : Method} {c : Code} {A : Nat → Nat} {T : Nat → ClassId} {D : va_G}
/-! ===== CardBecome$Deals.partOf ===== -/
def f_X0_partOf (x0 : Int32) (x1 : Int32) (x2 : Int32) (σ : cb_St)  : Option (Int32) := some ((((6 * x0) + x1) * 3) + x2)
set_option maxHeartbeats 4000000 in
set_option maxRecDepth 100000 in
theorem c_X0_partOf {x0 : Int32} {x1 : Int32} {x2 : Int32} {σ : cb_St}   {o : Int32} (hf : f_X0_partOf x0 x1 x2 σ = some o) : cb_M l yX0_partOf cX0_partOf 3 (some .int) 1 shC A T D σ [.int x0, .int x1, .int x2] (some (.int o)) σ := by
  refine cb_met (by decide +kernel) (Nat.le_of_ble_eq_true rfl) ?_
  intro p e s m below meth c C hs ls hl
  have hl : lv_has ls 3 [(0, .int x0), (1, .int x1), (2, .int x2)] := hl
  obtain ⟨hx, hb, hml, hr, hown, hts, hK, hlk, hN⟩ := id C
  unfold f_X0_partOf at hf
  refine lv_bipush (v := 6) hx hb dX0_partOf_0 (by decide) ?_
  refine lv_iload_n hx hb dX0_partOf_2 rfl (lv_at hl 0 rfl) ?_
  refine lv_imul hx hb dX0_partOf_3 ?_
  refine lv_iload_n hx hb dX0_partOf_4 rfl (lv_at hl 1 rfl) ?_
  refine lv_iadd hx hb dX0_partOf_5 ?_
  refine lv_iconst (v := 3) hx hb dX0_partOf_6 (by decide) ?_
  refine lv_imul hx hb dX0_partOf_7 ?_
  refine lv_iload_n hx hb dX0_partOf_8 rfl (lv_at hl 2 rfl) ?_
  refine lv_iadd hx hb dX0_partOf_9 ?_
  have hf := Option.some.inj hf
  subst hf
  exact cb_reti C hs dX0_partOf_10
/-! ===== CardBecome$Deals.greatest ===== -/
def f_X0_greatest_47 (K5 : Int32 → Int32 → Option (Int32)) (x1 : Int32) (x2 : Int32) (σ : cb_St) (x3 : Int32) (x4 : Int32) : Option (Int32) := cb_let (x4 + 1) (fun x4_0 => K5 x3 x4_0)
set_option maxHeartbeats 4000000 in
set_option maxRecDepth 100000 in
theorem w_X0_greatest_47 (C : cb_C p s m args meth c cX0_greatest 6 (some .int) RX0 D T) {K5 : Int32 → Int32 → Option (Int32)} {x1 : Int32} {x2 : Int32} {σ : cb_St} {o : Int32} (hK5 : ∀ (x3 : Int32) (x4 : Int32), K5 x3 x4 = some o → ∀ (H : Heap) (locs : List Loc) (ls : Array Slot), cb_H shC A T D σ s.heap H locs → lv_has ls 6 [(0, .ref (A 106)), (1, .int x1), (2, .int x2), (3, .int x3), (4, .int x4)] → cb_W p l e 2 s m args below meth c shC A T D (some (.int o)) σ H locs (F0 m 5 ls [])) {x3 : Int32} {x4 : Int32} (hf : f_X0_greatest_47 K5 x1 x2 σ x3 x4 = some o) {H : Heap} {locs : List Loc} {ls : Array Slot} (hs : cb_H shC A T D σ s.heap H locs) (hl : lv_has ls 6 [(0, .ref (A 106)), (1, .int x1), (2, .int x2), (3, .int x3), (4, .int x4)]) : cb_W p l e 2 s m args below meth c shC A T D (some (.int o)) σ H locs (F0 m 47 ls []) := by
  obtain ⟨hx, hb, hml, hr, hown, hts, hK, hlk, hN⟩ := id C
  unfold f_X0_greatest_47 at hf
  obtain ⟨x4_0, e9, hf⟩ := cb_let_inv hf
  refine lv_iinc (v := x4_0) (lv' := [(4, .int x4_0), (0, .ref (A 106)), (1, .int x1), (2, .int x2), (3, .int x3)]) hx hb dX0_greatest_47 hl (k := 4) rfl (by rw [e9]; rfl) (by decide) rfl (fun ls hl => ?_)
  clear e9
  refine lv_goto (tgt := 5) hx hb dX0_greatest_50 (by decide) ?_
  exact hK5 _ _ hf _ _ _ hs (lv_sub hl [1, 2, 3, 4, 0] rfl)
def f_X0_greatest_5 (x1 : Int32) (x2 : Int32) (σ : cb_St) : Nat → Int32 → Int32 → Option (Int32)
  | 0, _, _ => none
  | fu + 1, x3, x4 => if 3 ≤ x4 then (some x3) else (cb_bp (f_X0_partOf x1 x2 x4 σ) (fun r_1 => if r_1 < 0 then (f_X0_greatest_47 (f_X0_greatest_5 x1 x2 σ fu) x1 x2 σ x3 x4) else (if 108 ≤ r_1 then (f_X0_greatest_47 (f_X0_greatest_5 x1 x2 σ fu) x1 x2 σ x3 x4) else (cb_ck (0 ≤ Int32.toInt r_1 ∧ Int32.toInt r_1 < 108) (cb_bp (f_J9_max_7cf53 x3 (σ.1 110 (Int32.toNatClampNeg r_1)) σ) (fun r_2 => f_X0_greatest_47 (f_X0_greatest_5 x1 x2 σ fu) x1 x2 σ r_2 x4))))))
set_option maxHeartbeats 4000000 in
set_option maxRecDepth 100000 in
theorem w_X0_greatest_5 (C : cb_C p s m args meth c cX0_greatest 6 (some .int) RX0 D T) {x1 : Int32} {x2 : Int32} {σ : cb_St} {o : Int32}  : ∀ (fu : Nat) (x3 : Int32) (x4 : Int32), f_X0_greatest_5 x1 x2 σ fu x3 x4 = some o → ∀ (H : Heap) (locs : List Loc) (ls : Array Slot), cb_H shC A T D σ s.heap H locs → lv_has ls 6 [(0, .ref (A 106)), (1, .int x1), (2, .int x2), (3, .int x3), (4, .int x4)] → cb_W p l e 2 s m args below meth c shC A T D (some (.int o)) σ H locs (F0 m 5 ls []) := by
  obtain ⟨hx, hb, hml, hr, hown, hts, hK, hlk, hN⟩ := id C
  intro fu
  induction fu with
  | zero =>
    intro x3 x4 hf
    rw [f_X0_greatest_5] at hf
    cases hf
  | succ fu ih =>
    intro x3 x4 hf H locs ls hs hl
    rw [f_X0_greatest_5] at hf
    refine lv_iload hx hb dX0_greatest_5 (lv_at hl 4 rfl) ?_
    refine lv_iconst (v := 3) hx hb dX0_greatest_7 (by decide) ?_
    refine lv_icmp_ge (tgt := 53) hx hb dX0_greatest_8 (by decide) (fun cn => ?_) (fun cn => ?_)
    · replace hf := cb_ifp cn hf
      refine lv_iload_n hx hb dX0_greatest_53 rfl (lv_at hl 3 rfl) ?_
      have hf := Option.some.inj hf
      subst hf
      exact cb_reti C hs dX0_greatest_54
    · replace hf := cb_ifn cn hf
      refine lv_iload_n hx hb dX0_greatest_11 rfl (lv_at hl 1 rfl) ?_
      refine lv_iload_n hx hb dX0_greatest_12 rfl (lv_at hl 2 rfl) ?_
      refine lv_iload hx hb dX0_greatest_13 (lv_at hl 4 rfl) ?_
      obtain ⟨r_1, hc, hf⟩ := cb_bp_inv hf
      refine cb_callSi C (c_X0_partOf  hc) mw_X0_partOf ml_X0_95 rfl ⟨Nat.le_of_ble_eq_true rfl, Nat.le_of_ble_eq_true rfl⟩ hs hl rfl (Nat.le_of_ble_eq_true rfl) dX0_greatest_15 (fun H locs hs => ?_)
      clear hc
      refine lv_istore (lv' := [(5, .int r_1), (0, .ref (A 106)), (1, .int x1), (2, .int x2), (3, .int x3), (4, .int x4)]) hx hb dX0_greatest_18 hl (by decide) rfl (fun ls hl => ?_)
      refine lv_iload hx hb dX0_greatest_20 (lv_at hl 0 rfl) ?_
      refine lv_if_lt (tgt := 47) hx hb dX0_greatest_22 (by decide) (fun cn => ?_) (fun cn => ?_)
      · replace hf := cb_ifp cn hf
        exact w_X0_greatest_47 C ih hf hs (lv_sub hl [1, 2, 3, 4, 5] rfl)
      · replace hf := cb_ifn cn hf
        refine lv_iload hx hb dX0_greatest_25 (lv_at hl 0 rfl) ?_
        refine lv_aload_n hx hb dX0_greatest_27 rfl (lv_at hl 1 rfl) ?_
        refine gf_X0_21 C hs rfl dX0_greatest_28 ?_
        refine cb_alen C hs rfl (v := 108) (by decide) dX0_greatest_31 ?_
        refine lv_icmp_ge (tgt := 47) hx hb dX0_greatest_32 (by decide) (fun cn => ?_) (fun cn => ?_)
        · replace hf := cb_ifp cn hf
          exact w_X0_greatest_47 C ih hf hs (lv_sub hl [1, 2, 3, 4, 5] rfl)
        · replace hf := cb_ifn cn hf
          refine lv_iload_n hx hb dX0_greatest_35 rfl (lv_at hl 4 rfl) ?_
          refine lv_aload_n hx hb dX0_greatest_36 rfl (lv_at hl 1 rfl) ?_
          refine gf_X0_21 C hs rfl dX0_greatest_37 ?_
          refine lv_iload hx hb dX0_greatest_40 (lv_at hl 0 rfl) ?_
          obtain ⟨hc, hf⟩ := cb_ck_inv hf
          refine cb_iald C hs rfl (vp_in_iff.mpr hc) dX0_greatest_42 ?_
          obtain ⟨r_2, hc, hf⟩ := cb_bp_inv hf
          refine cb_callSi C (c_J9_max_7cf53  hc) mw_J9_max_7cf53 ml_X0_99 rfl ⟨Nat.le_of_ble_eq_true rfl, Nat.le_of_ble_eq_true rfl⟩ hs hl rfl (Nat.le_of_ble_eq_true rfl) dX0_greatest_43 (fun H locs hs => ?_)
          clear hc
          refine lv_istore_n (lv' := [(3, .int r_2), (5, .int r_1), (0, .ref (A 106)), (1, .int x1), (2, .int x2), (4, .int x4)]) hx hb dX0_greatest_46 rfl hl (by decide) rfl (fun ls hl => ?_)
          exact w_X0_greatest_47 C ih hf hs (lv_sub hl [2, 3, 4, 0, 5] rfl)
def f_X0_greatest (x1 : Int32) (x2 : Int32) (σ : cb_St)  : Option (Int32) := f_X0_greatest_5 x1 x2 σ cb_fu 0 0
set_option maxHeartbeats 4000000 in
set_option maxRecDepth 100000 in
theorem c_X0_greatest {x1 : Int32} {x2 : Int32} {σ : cb_St}   {o : Int32} (hf : f_X0_greatest x1 x2 σ = some o) : cb_M l yX0_greatest cX0_greatest 6 (some .int) 2 shC A T D σ [.ref (A 106), .int x1, .int x2] (some (.int o)) σ := by
  refine cb_met (by decide +kernel) (Nat.le_of_ble_eq_true rfl) ?_
  intro p e s m below meth c C hs ls hl
  have hl : lv_has ls 6 [(0, .ref (A 106)), (1, .int x1), (2, .int x2)] := hl
  obtain ⟨hx, hb, hml, hr, hown, hts, hK, hlk, hN⟩ := id C
  unfold f_X0_greatest at hf
  refine lv_iconst (v := 0) hx hb dX0_greatest_0 (by decide) ?_
  refine lv_istore_n (lv' := [(3, .int 0), (0, .ref (A 106)), (1, .int x1), (2, .int x2)]) hx hb dX0_greatest_1 rfl hl (by decide) rfl (fun ls hl => ?_)
  refine lv_iconst (v := 0) hx hb dX0_greatest_2 (by decide) ?_
  refine lv_istore (lv' := [(4, .int 0), (3, .int 0), (0, .ref (A 106)), (1, .int x1), (2, .int x2)]) hx hb dX0_greatest_3 hl (by decide) rfl (fun ls hl => ?_)
  exact w_X0_greatest_5 C  cb_fu _ _ hf _ _ _ hs (lv_sub hl [2, 3, 4, 1, 0] rfl)
/-! ===== CardBecome$Deals.bestPair ===== -/
def f_X0_bestPair_57 (K9 : Int32 → Int32 → Int32 → Option (Int32)) (K22 : Int32 → Int32 → Int32 → Int32 → Option (Int32)) (σ : cb_St) (x1 : Int32) (x2 : Int32) (x3 : Int32) (x4 : Int32) : Option (Int32) := cb_let (x4 + 1) (fun x4_0 => K22 x1 x2 x3 x4_0)
set_option maxHeartbeats 4000000 in
set_option maxRecDepth 100000 in
theorem w_X0_bestPair_57 (C : cb_C p s m args meth c cX0_bestPair 6 (some .int) RX0 D T) {K9 : Int32 → Int32 → Int32 → Option (Int32)} {K22 : Int32 → Int32 → Int32 → Int32 → Option (Int32)} {σ : cb_St} {o : Int32} (hK9 : ∀ (x1 : Int32) (x2 : Int32) (x3 : Int32), K9 x1 x2 x3 = some o → ∀ (H : Heap) (locs : List Loc) (ls : Array Slot), cb_H shC A T D σ s.heap H locs → lv_has ls 6 [(0, .ref (A 106)), (1, .int x1), (2, .int x2), (3, .int x3)] → cb_W p l e 3 s m args below meth c shC A T D (some (.int o)) σ H locs (F0 m 9 ls [])) (hK22 : ∀ (x1 : Int32) (x2 : Int32) (x3 : Int32) (x4 : Int32), K22 x1 x2 x3 x4 = some o → ∀ (H : Heap) (locs : List Loc) (ls : Array Slot), cb_H shC A T D σ s.heap H locs → lv_has ls 6 [(0, .ref (A 106)), (1, .int x1), (2, .int x2), (3, .int x3), (4, .int x4)] → cb_W p l e 3 s m args below meth c shC A T D (some (.int o)) σ H locs (F0 m 22 ls [])) {x1 : Int32} {x2 : Int32} {x3 : Int32} {x4 : Int32} (hf : f_X0_bestPair_57 K9 K22 σ x1 x2 x3 x4 = some o) {H : Heap} {locs : List Loc} {ls : Array Slot} (hs : cb_H shC A T D σ s.heap H locs) (hl : lv_has ls 6 [(0, .ref (A 106)), (1, .int x1), (2, .int x2), (3, .int x3), (4, .int x4)]) : cb_W p l e 3 s m args below meth c shC A T D (some (.int o)) σ H locs (F0 m 57 ls []) := by
  obtain ⟨hx, hb, hml, hr, hown, hts, hK, hlk, hN⟩ := id C
  unfold f_X0_bestPair_57 at hf
  obtain ⟨x4_0, e9, hf⟩ := cb_let_inv hf
  refine lv_iinc (v := x4_0) (lv' := [(4, .int x4_0), (0, .ref (A 106)), (1, .int x1), (2, .int x2), (3, .int x3)]) hx hb dX0_bestPair_57 hl (k := 4) rfl (by rw [e9]; rfl) (by decide) rfl (fun ls hl => ?_)
  clear e9
  refine lv_goto (tgt := 22) hx hb dX0_bestPair_60 (by decide) ?_
  exact hK22 _ _ _ _ hf _ _ _ hs (lv_sub hl [1, 2, 3, 4, 0] rfl)
def f_X0_bestPair_22 (K9 : Int32 → Int32 → Int32 → Option (Int32)) (σ : cb_St) : Nat → Int32 → Int32 → Int32 → Int32 → Option (Int32)
  | 0, _, _, _, _ => none
  | fu + 1, x1, x2, x3, x4 => if (σ.1 106 2) ≤ x4 then (cb_let (x3 + 1) (fun x3_0 => K9 x1 x2 x3_0)) else (cb_bp (f_X0_greatest x3 x4 σ) (fun r_2 => if x1 ≤ r_2 then (f_X0_bestPair_57 K9 (f_X0_bestPair_22 K9 σ fu) σ x1 x2 x3 x4) else (cb_let ((10 * x3) + x4) (fun x2_2 => f_X0_bestPair_57 K9 (f_X0_bestPair_22 K9 σ fu) σ r_2 x2_2 x3 x4))))
set_option maxHeartbeats 4000000 in
set_option maxRecDepth 100000 in
theorem w_X0_bestPair_22 (C : cb_C p s m args meth c cX0_bestPair 6 (some .int) RX0 D T) {K9 : Int32 → Int32 → Int32 → Option (Int32)} {σ : cb_St} {o : Int32} (hK9 : ∀ (x1 : Int32) (x2 : Int32) (x3 : Int32), K9 x1 x2 x3 = some o → ∀ (H : Heap) (locs : List Loc) (ls : Array Slot), cb_H shC A T D σ s.heap H locs → lv_has ls 6 [(0, .ref (A 106)), (1, .int x1), (2, .int x2), (3, .int x3)] → cb_W p l e 3 s m args below meth c shC A T D (some (.int o)) σ H locs (F0 m 9 ls [])) : ∀ (fu : Nat) (x1 : Int32) (x2 : Int32) (x3 : Int32) (x4 : Int32), f_X0_bestPair_22 K9 σ fu x1 x2 x3 x4 = some o → ∀ (H : Heap) (locs : List Loc) (ls : Array Slot), cb_H shC A T D σ s.heap H locs → lv_has ls 6 [(0, .ref (A 106)), (1, .int x1), (2, .int x2), (3, .int x3), (4, .int x4)] → cb_W p l e 3 s m args below meth c shC A T D (some (.int o)) σ H locs (F0 m 22 ls []) := by
  obtain ⟨hx, hb, hml, hr, hown, hts, hK, hlk, hN⟩ := id C
  intro fu
  induction fu with
  | zero =>
    intro x1 x2 x3 x4 hf
    rw [f_X0_bestPair_22] at hf
    cases hf
  | succ fu ih =>
    intro x1 x2 x3 x4 hf H locs ls hs hl
    rw [f_X0_bestPair_22] at hf
    refine lv_iload hx hb dX0_bestPair_22 (lv_at hl 4 rfl) ?_
    refine lv_aload_n hx hb dX0_bestPair_24 rfl (lv_at hl 0 rfl) ?_
    refine gf_X0_44 C hs rfl dX0_bestPair_25 ?_
    refine lv_icmp_ge (tgt := 63) hx hb dX0_bestPair_28 (by decide) (fun cn => ?_) (fun cn => ?_)
    · replace hf := cb_ifp cn hf
      obtain ⟨x3_0, e9, hf⟩ := cb_let_inv hf
      refine lv_iinc (v := x3_0) (lv' := [(3, .int x3_0), (0, .ref (A 106)), (1, .int x1), (2, .int x2), (4, .int x4)]) hx hb dX0_bestPair_63 hl (k := 3) rfl (by rw [e9]; rfl) (by decide) rfl (fun ls hl => ?_)
      clear e9
      refine lv_goto (tgt := 9) hx hb dX0_bestPair_66 (by decide) ?_
      exact hK9 _ _ _ hf _ _ _ hs (lv_sub hl [1, 2, 3, 0] rfl)
    · replace hf := cb_ifn cn hf
      refine lv_aload_n hx hb dX0_bestPair_31 rfl (lv_at hl 0 rfl) ?_
      refine lv_iload_n hx hb dX0_bestPair_32 rfl (lv_at hl 3 rfl) ?_
      refine lv_iload hx hb dX0_bestPair_33 (lv_at hl 4 rfl) ?_
      obtain ⟨r_2, hc, hf⟩ := cb_bp_inv hf
      refine cb_callVi C (c_X0_greatest  hc) mw_X0_greatest ml_X0_64 rfl ⟨Nat.le_of_ble_eq_true rfl, Nat.le_of_ble_eq_true rfl⟩ rfl (Nat.le_of_ble_eq_true rfl) rfl hs hl rfl (Nat.le_of_ble_eq_true rfl) dX0_bestPair_35 (fun H locs hs => ?_)
      clear hc
      refine lv_istore (lv' := [(5, .int r_2), (0, .ref (A 106)), (1, .int x1), (2, .int x2), (3, .int x3), (4, .int x4)]) hx hb dX0_bestPair_38 hl (by decide) rfl (fun ls hl => ?_)
      refine lv_iload hx hb dX0_bestPair_40 (lv_at hl 0 rfl) ?_
      refine lv_iload_n hx hb dX0_bestPair_42 rfl (lv_at hl 2 rfl) ?_
      refine lv_icmp_ge (tgt := 57) hx hb dX0_bestPair_43 (by decide) (fun cn => ?_) (fun cn => ?_)
      · replace hf := cb_ifp cn hf
        exact w_X0_bestPair_57 C hK9 ih hf hs (lv_sub hl [1, 2, 3, 4, 5] rfl)
      · replace hf := cb_ifn cn hf
        refine lv_iload hx hb dX0_bestPair_46 (lv_at hl 0 rfl) ?_
        refine lv_istore_n (lv' := [(1, .int r_2), (5, .int r_2), (0, .ref (A 106)), (2, .int x2), (3, .int x3), (4, .int x4)]) hx hb dX0_bestPair_48 rfl hl (by decide) rfl (fun ls hl => ?_)
        refine lv_bipush (v := 10) hx hb dX0_bestPair_49 (by decide) ?_
        refine lv_iload_n hx hb dX0_bestPair_51 rfl (lv_at hl 4 rfl) ?_
        refine lv_imul hx hb dX0_bestPair_52 ?_
        refine lv_iload hx hb dX0_bestPair_53 (lv_at hl 5 rfl) ?_
        refine lv_iadd hx hb dX0_bestPair_55 ?_
        obtain ⟨x2_2, e9, hf⟩ := cb_let_inv hf
        refine cb_topi e9 ?_
        clear e9
        refine lv_istore_n (lv' := [(2, .int x2_2), (1, .int r_2), (5, .int r_2), (0, .ref (A 106)), (3, .int x3), (4, .int x4)]) hx hb dX0_bestPair_56 rfl hl (by decide) rfl (fun ls hl => ?_)
        exact w_X0_bestPair_57 C hK9 ih hf hs (lv_sub hl [3, 1, 0, 4, 5] rfl)
def f_X0_bestPair_9 (σ : cb_St) : Nat → Int32 → Int32 → Int32 → Option (Int32)
  | 0, _, _, _ => none
  | fu + 1, x1, x2, x3 => if (σ.1 106 2) ≤ x3 then (some x2) else (cb_let (x3 + 1) (fun x4_0 => f_X0_bestPair_22 (f_X0_bestPair_9 σ fu) σ cb_fu x1 x2 x3 x4_0))
set_option maxHeartbeats 4000000 in
set_option maxRecDepth 100000 in
theorem w_X0_bestPair_9 (C : cb_C p s m args meth c cX0_bestPair 6 (some .int) RX0 D T) {σ : cb_St} {o : Int32}  : ∀ (fu : Nat) (x1 : Int32) (x2 : Int32) (x3 : Int32), f_X0_bestPair_9 σ fu x1 x2 x3 = some o → ∀ (H : Heap) (locs : List Loc) (ls : Array Slot), cb_H shC A T D σ s.heap H locs → lv_has ls 6 [(0, .ref (A 106)), (1, .int x1), (2, .int x2), (3, .int x3)] → cb_W p l e 3 s m args below meth c shC A T D (some (.int o)) σ H locs (F0 m 9 ls []) := by
  obtain ⟨hx, hb, hml, hr, hown, hts, hK, hlk, hN⟩ := id C
  intro fu
  induction fu with
  | zero =>
    intro x1 x2 x3 hf
    rw [f_X0_bestPair_9] at hf
    cases hf
  | succ fu ih =>
    intro x1 x2 x3 hf H locs ls hs hl
    rw [f_X0_bestPair_9] at hf
    refine lv_iload_n hx hb dX0_bestPair_9 rfl (lv_at hl 3 rfl) ?_
    refine lv_aload_n hx hb dX0_bestPair_10 rfl (lv_at hl 0 rfl) ?_
    refine gf_X0_44 C hs rfl dX0_bestPair_11 ?_
    refine lv_icmp_ge (tgt := 69) hx hb dX0_bestPair_14 (by decide) (fun cn => ?_) (fun cn => ?_)
    · replace hf := cb_ifp cn hf
      refine lv_iload_n hx hb dX0_bestPair_69 rfl (lv_at hl 2 rfl) ?_
      have hf := Option.some.inj hf
      subst hf
      exact cb_reti C hs dX0_bestPair_70
    · replace hf := cb_ifn cn hf
      refine lv_iload_n hx hb dX0_bestPair_17 rfl (lv_at hl 3 rfl) ?_
      refine lv_iconst (v := 1) hx hb dX0_bestPair_18 (by decide) ?_
      refine lv_iadd hx hb dX0_bestPair_19 ?_
      obtain ⟨x4_0, e9, hf⟩ := cb_let_inv hf
      refine cb_topi e9 ?_
      clear e9
      refine lv_istore (lv' := [(4, .int x4_0), (0, .ref (A 106)), (1, .int x1), (2, .int x2), (3, .int x3)]) hx hb dX0_bestPair_20 hl (by decide) rfl (fun ls hl => ?_)
      exact w_X0_bestPair_22 C ih cb_fu _ _ _ _ hf _ _ _ hs (lv_sub hl [1, 2, 3, 4, 0] rfl)
def f_X0_bestPair (σ : cb_St)  : Option (Int32) := cb_let (σ.1 106 0) (fun x1_0 => f_X0_bestPair_9 σ cb_fu x1_0 (-1) 0)
set_option maxHeartbeats 4000000 in
set_option maxRecDepth 100000 in
theorem c_X0_bestPair {σ : cb_St}   {o : Int32} (hf : f_X0_bestPair σ = some o) : cb_M l yX0_bestPair cX0_bestPair 6 (some .int) 3 shC A T D σ [.ref (A 106)] (some (.int o)) σ := by
  refine cb_met (by decide +kernel) (Nat.le_of_ble_eq_true rfl) ?_
  intro p e s m below meth c C hs ls hl
  have hl : lv_has ls 6 [(0, .ref (A 106))] := hl
  obtain ⟨hx, hb, hml, hr, hown, hts, hK, hlk, hN⟩ := id C
  unfold f_X0_bestPair at hf
  refine lv_aload_n hx hb dX0_bestPair_0 rfl (lv_at hl 0 rfl) ?_
  refine gf_X0_51 C hs rfl dX0_bestPair_1 ?_
  obtain ⟨x1_0, e9, hf⟩ := cb_let_inv hf
  refine cb_topi e9 ?_
  clear e9
  refine lv_istore_n (lv' := [(1, .int x1_0), (0, .ref (A 106))]) hx hb dX0_bestPair_4 rfl hl (by decide) rfl (fun ls hl => ?_)
  refine lv_iconst (v := (-1)) hx hb dX0_bestPair_5 (by decide) ?_
  refine lv_istore_n (lv' := [(2, .int (-1)), (1, .int x1_0), (0, .ref (A 106))]) hx hb dX0_bestPair_6 rfl hl (by decide) rfl (fun ls hl => ?_)
  refine lv_iconst (v := 0) hx hb dX0_bestPair_7 (by decide) ?_
  refine lv_istore_n (lv' := [(3, .int 0), (2, .int (-1)), (1, .int x1_0), (0, .ref (A 106))]) hx hb dX0_bestPair_8 rfl hl (by decide) rfl (fun ls hl => ?_)
  exact w_X0_bestPair_9 C  cb_fu _ _ _ hf _ _ _ hs (lv_sub hl [3, 2, 1, 0] rfl)
/-! ===== CardBecome$Deals.cardBefore ===== -/
def f_X0_cardBefore_18 (x1 : Int32) (σ : cb_St)  : Option (Int32) := some (-1)
set_option maxHeartbeats 4000000 in
set_option maxRecDepth 100000 in
theorem w_X0_cardBefore_18 (C : cb_C p s m args meth c cX0_cardBefore 2 (some .int) RX0 D T) {x1 : Int32} {σ : cb_St} {o : Int32}   (hf : f_X0_cardBefore_18 x1 σ = some o) {H : Heap} {locs : List Loc} {ls : Array Slot} (hs : cb_H shC A T D σ s.heap H locs) (hl : lv_has ls 2 [(0, .ref (A 106)), (1, .int x1)]) : cb_W p l e 1 s m args below meth c shC A T D (some (.int o)) σ H locs (F0 m 18 ls []) := by
  obtain ⟨hx, hb, hml, hr, hown, hts, hK, hlk, hN⟩ := id C
  unfold f_X0_cardBefore_18 at hf
  refine lv_iconst (v := (-1)) hx hb dX0_cardBefore_18 (by decide) ?_
  refine lv_goto (tgt := 28) hx hb dX0_cardBefore_19 (by decide) ?_
  have hf := Option.some.inj hf
  subst hf
  exact cb_reti C hs dX0_cardBefore_28
def f_X0_cardBefore (x1 : Int32) (σ : cb_St)  : Option (Int32) := if x1 < 0 then (f_X0_cardBefore_18 x1 σ) else (if (σ.1 106 2) ≤ x1 then (f_X0_cardBefore_18 x1 σ) else (if x1 < 6 then (cb_ck (0 ≤ Int32.toInt x1 ∧ Int32.toInt x1 < 6) (some (σ.1 108 (Int32.toNatClampNeg x1)))) else (f_X0_cardBefore_18 x1 σ)))
set_option maxHeartbeats 4000000 in
set_option maxRecDepth 100000 in
theorem c_X0_cardBefore {x1 : Int32} {σ : cb_St}   {o : Int32} (hf : f_X0_cardBefore x1 σ = some o) : cb_M l yX0_cardBefore cX0_cardBefore 2 (some .int) 1 shC A T D σ [.ref (A 106), .int x1] (some (.int o)) σ := by
  refine cb_met (by decide +kernel) (Nat.le_of_ble_eq_true rfl) ?_
  intro p e s m below meth c C hs ls hl
  have hl : lv_has ls 2 [(0, .ref (A 106)), (1, .int x1)] := hl
  obtain ⟨hx, hb, hml, hr, hown, hts, hK, hlk, hN⟩ := id C
  unfold f_X0_cardBefore at hf
  refine lv_iload_n hx hb dX0_cardBefore_0 rfl (lv_at hl 1 rfl) ?_
  refine lv_if_lt (tgt := 18) hx hb dX0_cardBefore_1 (by decide) (fun cn => ?_) (fun cn => ?_)
  · replace hf := cb_ifp cn hf
    exact w_X0_cardBefore_18 C  hf hs (lv_sub hl [0, 1] rfl)
  · replace hf := cb_ifn cn hf
    refine lv_iload_n hx hb dX0_cardBefore_4 rfl (lv_at hl 1 rfl) ?_
    refine lv_aload_n hx hb dX0_cardBefore_5 rfl (lv_at hl 0 rfl) ?_
    refine gf_X0_44 C hs rfl dX0_cardBefore_6 ?_
    refine lv_icmp_ge (tgt := 18) hx hb dX0_cardBefore_9 (by decide) (fun cn => ?_) (fun cn => ?_)
    · replace hf := cb_ifp cn hf
      exact w_X0_cardBefore_18 C  hf hs (lv_sub hl [0, 1] rfl)
    · replace hf := cb_ifn cn hf
      refine lv_iload_n hx hb dX0_cardBefore_12 rfl (lv_at hl 1 rfl) ?_
      refine lv_bipush (v := 6) hx hb dX0_cardBefore_13 (by decide) ?_
      refine lv_icmp_lt (tgt := 22) hx hb dX0_cardBefore_15 (by decide) (fun cn => ?_) (fun cn => ?_)
      · replace hf := cb_ifp cn hf
        refine lv_aload_n hx hb dX0_cardBefore_22 rfl (lv_at hl 0 rfl) ?_
        refine gf_X0_15 C hs rfl dX0_cardBefore_23 ?_
        refine lv_iload_n hx hb dX0_cardBefore_26 rfl (lv_at hl 1 rfl) ?_
        obtain ⟨hc, hf⟩ := cb_ck_inv hf
        refine cb_iald C hs rfl (vp_in_iff.mpr hc) dX0_cardBefore_27 ?_
        have hf := Option.some.inj hf
        subst hf
        exact cb_reti C hs dX0_cardBefore_28
      · replace hf := cb_ifn cn hf
        exact w_X0_cardBefore_18 C  hf hs (lv_sub hl [0, 1] rfl)
/-! ===== CardBecome$Deals.countThis ===== -/
def f_X0_countThis_132  (σ : cb_St) : Option (cb_St) := cb_let (cb_sI σ 106 0 ((σ.1 106 0) + 1)) (fun σ_1 => some σ_1)
set_option maxHeartbeats 4000000 in
set_option maxRecDepth 100000 in
theorem w_X0_countThis_132 (C : cb_C p s m args meth c cX0_countThis 5 none RX0 D T)  {o : cb_St}  {σ : cb_St} (hf : f_X0_countThis_132 σ = some o) {H : Heap} {locs : List Loc} {ls : Array Slot} (hs : cb_H shC A T D σ s.heap H locs) (hl : lv_has ls 5 [(0, .ref (A 106)), (1, .ref (A 9))]) : cb_W p l e 3 s m args below meth c shC A T D none o H locs (F0 m 132 ls []) := by
  obtain ⟨hx, hb, hml, hr, hown, hts, hK, hlk, hN⟩ := id C
  unfold f_X0_countThis_132 at hf
  refine lv_aload_n hx hb dX0_countThis_132 rfl (lv_at hl 0 rfl) ?_
  refine lv_dup hx hb dX0_countThis_133 rfl ?_
  refine gf_X0_51 C hs rfl dX0_countThis_134 ?_
  refine lv_iconst (v := 1) hx hb dX0_countThis_137 (by decide) ?_
  refine lv_iadd hx hb dX0_countThis_138 ?_
  refine pf_X0_51 C hs rfl dX0_countThis_139 (fun H locs hs => ?_)
  obtain ⟨σ_1, e9, hf⟩ := cb_let_inv hf
  replace hs := cb_Hc e9 hs
  clear e9
  have hf := Option.some.inj hf
  subst hf
  exact cb_retv C hs dX0_countThis_142
def f_X0_countThis_120 (K2 : cb_St → Int32 → Option (cb_St)) (K64 : cb_St → Int32 → Int32 → Option (cb_St)) (σ : cb_St) (x2 : Int32) (x3 : Int32) : Option (cb_St) := cb_let (x3 + 1) (fun x3_0 => K64 σ x2 x3_0)
set_option maxHeartbeats 4000000 in
set_option maxRecDepth 100000 in
theorem w_X0_countThis_120 (C : cb_C p s m args meth c cX0_countThis 5 none RX0 D T) {K2 : cb_St → Int32 → Option (cb_St)} {K64 : cb_St → Int32 → Int32 → Option (cb_St)} {o : cb_St} (hK2 : ∀ (σ : cb_St) (x2 : Int32), K2 σ x2 = some o → ∀ (H : Heap) (locs : List Loc) (ls : Array Slot), cb_H shC A T D σ s.heap H locs → lv_has ls 5 [(0, .ref (A 106)), (1, .ref (A 9)), (2, .int x2)] → cb_W p l e 3 s m args below meth c shC A T D none o H locs (F0 m 2 ls [])) (hK64 : ∀ (σ : cb_St) (x2 : Int32) (x3 : Int32), K64 σ x2 x3 = some o → ∀ (H : Heap) (locs : List Loc) (ls : Array Slot), cb_H shC A T D σ s.heap H locs → lv_has ls 5 [(0, .ref (A 106)), (1, .ref (A 9)), (2, .int x2), (3, .int x3)] → cb_W p l e 3 s m args below meth c shC A T D none o H locs (F0 m 64 ls [])) {σ : cb_St} {x2 : Int32} {x3 : Int32} (hf : f_X0_countThis_120 K2 K64 σ x2 x3 = some o) {H : Heap} {locs : List Loc} {ls : Array Slot} (hs : cb_H shC A T D σ s.heap H locs) (hl : lv_has ls 5 [(0, .ref (A 106)), (1, .ref (A 9)), (2, .int x2), (3, .int x3)]) : cb_W p l e 3 s m args below meth c shC A T D none o H locs (F0 m 120 ls []) := by
  obtain ⟨hx, hb, hml, hr, hown, hts, hK, hlk, hN⟩ := id C
  unfold f_X0_countThis_120 at hf
  obtain ⟨x3_0, e9, hf⟩ := cb_let_inv hf
  refine lv_iinc (v := x3_0) (lv' := [(3, .int x3_0), (0, .ref (A 106)), (1, .ref (A 9)), (2, .int x2)]) hx hb dX0_countThis_120 hl (k := 3) rfl (by rw [e9]; rfl) (by decide) rfl (fun ls hl => ?_)
  clear e9
  refine lv_goto (tgt := 64) hx hb dX0_countThis_123 (by decide) ?_
  exact hK64 _ _ _ hf _ _ _ hs (lv_sub hl [1, 2, 3, 0] rfl)
def f_X0_countThis_64 (K2 : cb_St → Int32 → Option (cb_St)) : Nat → cb_St → Int32 → Int32 → Option (cb_St)
  | 0, _, _, _ => none
  | fu + 1, σ, x2, x3 => if (σ.1 106 2) ≤ x3 then (cb_let (x2 + 1) (fun x2_0 => K2 σ x2_0)) else (cb_ck (0 ≤ Int32.toInt x2 ∧ Int32.toInt x2 < 6) (cb_bp (f_X0_cardBefore x3 σ) (fun r_2 => cb_bp (f_X6_between 9 (σ.1 108 (Int32.toNatClampNeg x2)) r_2 σ) (fun r_3 => cb_bp (f_X0_partOf x2 x3 r_3 σ) (fun r_4 => if r_4 < 0 then (f_X0_countThis_120 K2 (f_X0_countThis_64 K2 fu) σ x2 x3) else (if 108 ≤ r_4 then (f_X0_countThis_120 K2 (f_X0_countThis_64 K2 fu) σ x2 x3) else (cb_ck (0 ≤ Int32.toInt r_4 ∧ Int32.toInt r_4 < 108) (cb_ck (0 ≤ Int32.toInt r_4 ∧ Int32.toInt r_4 < 108) (cb_let (cb_sI σ 110 (Int32.toNatClampNeg r_4) ((σ.1 110 (Int32.toNatClampNeg r_4)) + 1)) (fun σ_5 => f_X0_countThis_120 K2 (f_X0_countThis_64 K2 fu) σ_5 x2 x3))))))))))
set_option maxHeartbeats 4000000 in
set_option maxRecDepth 100000 in
theorem w_X0_countThis_64 (C : cb_C p s m args meth c cX0_countThis 5 none RX0 D T) {K2 : cb_St → Int32 → Option (cb_St)} {o : cb_St} (hK2 : ∀ (σ : cb_St) (x2 : Int32), K2 σ x2 = some o → ∀ (H : Heap) (locs : List Loc) (ls : Array Slot), cb_H shC A T D σ s.heap H locs → lv_has ls 5 [(0, .ref (A 106)), (1, .ref (A 9)), (2, .int x2)] → cb_W p l e 3 s m args below meth c shC A T D none o H locs (F0 m 2 ls [])) : ∀ (fu : Nat) (σ : cb_St) (x2 : Int32) (x3 : Int32), f_X0_countThis_64 K2 fu σ x2 x3 = some o → ∀ (H : Heap) (locs : List Loc) (ls : Array Slot), cb_H shC A T D σ s.heap H locs → lv_has ls 5 [(0, .ref (A 106)), (1, .ref (A 9)), (2, .int x2), (3, .int x3)] → cb_W p l e 3 s m args below meth c shC A T D none o H locs (F0 m 64 ls []) := by
  obtain ⟨hx, hb, hml, hr, hown, hts, hK, hlk, hN⟩ := id C
  intro fu
  induction fu with
  | zero =>
    intro σ x2 x3 hf
    rw [f_X0_countThis_64] at hf
    cases hf
  | succ fu ih =>
    intro σ x2 x3 hf H locs ls hs hl
    rw [f_X0_countThis_64] at hf
    refine lv_iload_n hx hb dX0_countThis_64 rfl (lv_at hl 3 rfl) ?_
    refine lv_aload_n hx hb dX0_countThis_65 rfl (lv_at hl 0 rfl) ?_
    refine gf_X0_44 C hs rfl dX0_countThis_66 ?_
    refine lv_icmp_ge (tgt := 126) hx hb dX0_countThis_69 (by decide) (fun cn => ?_) (fun cn => ?_)
    · replace hf := cb_ifp cn hf
      obtain ⟨x2_0, e9, hf⟩ := cb_let_inv hf
      refine lv_iinc (v := x2_0) (lv' := [(2, .int x2_0), (0, .ref (A 106)), (1, .ref (A 9)), (3, .int x3)]) hx hb dX0_countThis_126 hl (k := 2) rfl (by rw [e9]; rfl) (by decide) rfl (fun ls hl => ?_)
      clear e9
      refine lv_goto (tgt := 2) hx hb dX0_countThis_129 (by decide) ?_
      exact hK2 _ _ hf _ _ _ hs (lv_sub hl [1, 2, 0] rfl)
    · replace hf := cb_ifn cn hf
      refine lv_iload_n hx hb dX0_countThis_72 rfl (lv_at hl 2 rfl) ?_
      refine lv_iload_n hx hb dX0_countThis_73 rfl (lv_at hl 3 rfl) ?_
      refine lv_aload_n hx hb dX0_countThis_74 rfl (lv_at hl 1 rfl) ?_
      refine lv_aload_n hx hb dX0_countThis_75 rfl (lv_at hl 0 rfl) ?_
      refine gf_X0_15 C hs rfl dX0_countThis_76 ?_
      refine lv_iload_n hx hb dX0_countThis_79 rfl (lv_at hl 2 rfl) ?_
      obtain ⟨hc, hf⟩ := cb_ck_inv hf
      refine cb_iald C hs rfl (vp_in_iff.mpr hc) dX0_countThis_80 ?_
      refine lv_aload_n hx hb dX0_countThis_81 rfl (lv_at hl 0 rfl) ?_
      refine lv_iload_n hx hb dX0_countThis_82 rfl (lv_at hl 3 rfl) ?_
      obtain ⟨r_2, hc, hf⟩ := cb_bp_inv hf
      refine cb_callVi C (c_X0_cardBefore  hc) mw_X0_cardBefore ml_X0_83 rfl ⟨Nat.le_of_ble_eq_true rfl, Nat.le_of_ble_eq_true rfl⟩ rfl (Nat.le_of_ble_eq_true rfl) rfl hs hl rfl (Nat.le_of_ble_eq_true rfl) dX0_countThis_83 (fun H locs hs => ?_)
      clear hc
      obtain ⟨r_3, hc, hf⟩ := cb_bp_inv hf
      refine cb_callVi C (c_X6_between cb_tb9 hc) mw_X6_between ml_X0_89 rfl ⟨Nat.le_of_ble_eq_true rfl, Nat.le_of_ble_eq_true rfl⟩ cb_tb9.1 (Nat.le_of_ble_eq_true rfl) rfl hs hl rfl (Nat.le_of_ble_eq_true rfl) dX0_countThis_86 (fun H locs hs => ?_)
      clear hc
      obtain ⟨r_4, hc, hf⟩ := cb_bp_inv hf
      refine cb_callSi C (c_X0_partOf  hc) mw_X0_partOf ml_X0_95 rfl ⟨Nat.le_of_ble_eq_true rfl, Nat.le_of_ble_eq_true rfl⟩ hs hl rfl (Nat.le_of_ble_eq_true rfl) dX0_countThis_89 (fun H locs hs => ?_)
      clear hc
      refine lv_istore (lv' := [(4, .int r_4), (0, .ref (A 106)), (1, .ref (A 9)), (2, .int x2), (3, .int x3)]) hx hb dX0_countThis_92 hl (by decide) rfl (fun ls hl => ?_)
      refine lv_iload hx hb dX0_countThis_94 (lv_at hl 0 rfl) ?_
      refine lv_if_lt (tgt := 120) hx hb dX0_countThis_96 (by decide) (fun cn => ?_) (fun cn => ?_)
      · replace hf := cb_ifp cn hf
        exact w_X0_countThis_120 C hK2 ih hf hs (lv_sub hl [1, 2, 3, 4] rfl)
      · replace hf := cb_ifn cn hf
        refine lv_iload hx hb dX0_countThis_99 (lv_at hl 0 rfl) ?_
        refine lv_aload_n hx hb dX0_countThis_101 rfl (lv_at hl 1 rfl) ?_
        refine gf_X0_21 C hs rfl dX0_countThis_102 ?_
        refine cb_alen C hs rfl (v := 108) (by decide) dX0_countThis_105 ?_
        refine lv_icmp_ge (tgt := 120) hx hb dX0_countThis_106 (by decide) (fun cn => ?_) (fun cn => ?_)
        · replace hf := cb_ifp cn hf
          exact w_X0_countThis_120 C hK2 ih hf hs (lv_sub hl [1, 2, 3, 4] rfl)
        · replace hf := cb_ifn cn hf
          refine lv_aload_n hx hb dX0_countThis_109 rfl (lv_at hl 1 rfl) ?_
          refine gf_X0_21 C hs rfl dX0_countThis_110 ?_
          refine lv_iload hx hb dX0_countThis_113 (lv_at hl 0 rfl) ?_
          refine lv_dup2_11 hx hb dX0_countThis_115 rfl rfl ?_
          obtain ⟨hc, hf⟩ := cb_ck_inv hf
          refine cb_iald C hs rfl (vp_in_iff.mpr hc) dX0_countThis_116 ?_
          refine lv_iconst (v := 1) hx hb dX0_countThis_117 (by decide) ?_
          refine lv_iadd hx hb dX0_countThis_118 ?_
          obtain ⟨hc, hf⟩ := cb_ck_inv hf
          refine cb_iast C hs rfl (vp_in_iff.mpr hc) dX0_countThis_119 (fun H locs hs => ?_)
          obtain ⟨σ_5, e9, hf⟩ := cb_let_inv hf
          replace hs := cb_Hc e9 hs
          clear e9
          exact w_X0_countThis_120 C hK2 ih hf hs (lv_sub hl [1, 2, 3, 4] rfl)
def f_X0_countThis_60 (K2 : cb_St → Int32 → Option (cb_St)) (σ : cb_St) (x2 : Int32) : Option (cb_St) := cb_let (x2 + 1) (fun x3_0 => f_X0_countThis_64 K2 cb_fu σ x2 x3_0)
set_option maxHeartbeats 4000000 in
set_option maxRecDepth 100000 in
theorem w_X0_countThis_60 (C : cb_C p s m args meth c cX0_countThis 5 none RX0 D T) {K2 : cb_St → Int32 → Option (cb_St)} {o : cb_St} (hK2 : ∀ (σ : cb_St) (x2 : Int32), K2 σ x2 = some o → ∀ (H : Heap) (locs : List Loc) (ls : Array Slot), cb_H shC A T D σ s.heap H locs → lv_has ls 5 [(0, .ref (A 106)), (1, .ref (A 9)), (2, .int x2)] → cb_W p l e 3 s m args below meth c shC A T D none o H locs (F0 m 2 ls [])) {σ : cb_St} {x2 : Int32} (hf : f_X0_countThis_60 K2 σ x2 = some o) {H : Heap} {locs : List Loc} {ls : Array Slot} (hs : cb_H shC A T D σ s.heap H locs) (hl : lv_has ls 5 [(0, .ref (A 106)), (1, .ref (A 9)), (2, .int x2)]) : cb_W p l e 3 s m args below meth c shC A T D none o H locs (F0 m 60 ls []) := by
  obtain ⟨hx, hb, hml, hr, hown, hts, hK, hlk, hN⟩ := id C
  unfold f_X0_countThis_60 at hf
  refine lv_iload_n hx hb dX0_countThis_60 rfl (lv_at hl 2 rfl) ?_
  refine lv_iconst (v := 1) hx hb dX0_countThis_61 (by decide) ?_
  refine lv_iadd hx hb dX0_countThis_62 ?_
  obtain ⟨x3_0, e9, hf⟩ := cb_let_inv hf
  refine cb_topi e9 ?_
  clear e9
  refine lv_istore_n (lv' := [(3, .int x3_0), (0, .ref (A 106)), (1, .ref (A 9)), (2, .int x2)]) hx hb dX0_countThis_63 rfl hl (by decide) rfl (fun ls hl => ?_)
  exact w_X0_countThis_64 C hK2 cb_fu _ _ _ hf _ _ _ hs (lv_sub hl [1, 2, 3, 0] rfl)
def f_X0_countThis_2  : Nat → cb_St → Int32 → Option (cb_St)
  | 0, _, _ => none
  | fu + 1, σ, x2 => if (σ.1 106 2) ≤ x2 then (f_X0_countThis_132 σ) else (if 6 ≤ x2 then (f_X0_countThis_132 σ) else (if (σ.1 106 0) = 0 then (cb_ck (0 ≤ Int32.toInt x2 ∧ Int32.toInt x2 < 6) (cb_ck (0 ≤ Int32.toInt x2 ∧ Int32.toInt x2 < 6) (cb_let (cb_sI σ 109 (Int32.toNatClampNeg x2) (σ.1 108 (Int32.toNatClampNeg x2))) (fun σ_2 => f_X0_countThis_60 (f_X0_countThis_2 fu) σ_2 x2)))) else (cb_ck (0 ≤ Int32.toInt x2 ∧ Int32.toInt x2 < 6) (cb_ck (0 ≤ Int32.toInt x2 ∧ Int32.toInt x2 < 6) (if (σ.1 109 (Int32.toNatClampNeg x2)) = (σ.1 108 (Int32.toNatClampNeg x2)) then (f_X0_countThis_60 (f_X0_countThis_2 fu) σ x2) else (cb_ck (0 ≤ Int32.toInt x2 ∧ Int32.toInt x2 < 6) (cb_let (cb_sI σ 109 (Int32.toNatClampNeg x2) (-1)) (fun σ_1 => f_X0_countThis_60 (f_X0_countThis_2 fu) σ_1 x2))))))))
set_option maxHeartbeats 4000000 in
set_option maxRecDepth 100000 in
theorem w_X0_countThis_2 (C : cb_C p s m args meth c cX0_countThis 5 none RX0 D T)  {o : cb_St}  : ∀ (fu : Nat) (σ : cb_St) (x2 : Int32), f_X0_countThis_2 fu σ x2 = some o → ∀ (H : Heap) (locs : List Loc) (ls : Array Slot), cb_H shC A T D σ s.heap H locs → lv_has ls 5 [(0, .ref (A 106)), (1, .ref (A 9)), (2, .int x2)] → cb_W p l e 3 s m args below meth c shC A T D none o H locs (F0 m 2 ls []) := by
  obtain ⟨hx, hb, hml, hr, hown, hts, hK, hlk, hN⟩ := id C
  intro fu
  induction fu with
  | zero =>
    intro σ x2 hf
    rw [f_X0_countThis_2] at hf
    cases hf
  | succ fu ih =>
    intro σ x2 hf H locs ls hs hl
    rw [f_X0_countThis_2] at hf
    refine lv_iload_n hx hb dX0_countThis_2 rfl (lv_at hl 2 rfl) ?_
    refine lv_aload_n hx hb dX0_countThis_3 rfl (lv_at hl 0 rfl) ?_
    refine gf_X0_44 C hs rfl dX0_countThis_4 ?_
    refine lv_icmp_ge (tgt := 132) hx hb dX0_countThis_7 (by decide) (fun cn => ?_) (fun cn => ?_)
    · replace hf := cb_ifp cn hf
      exact w_X0_countThis_132 C  hf hs (lv_sub hl [0, 1] rfl)
    · replace hf := cb_ifn cn hf
      refine lv_iload_n hx hb dX0_countThis_10 rfl (lv_at hl 2 rfl) ?_
      refine lv_bipush (v := 6) hx hb dX0_countThis_11 (by decide) ?_
      refine lv_icmp_ge (tgt := 132) hx hb dX0_countThis_13 (by decide) (fun cn => ?_) (fun cn => ?_)
      · replace hf := cb_ifp cn hf
        exact w_X0_countThis_132 C  hf hs (lv_sub hl [0, 1] rfl)
      · replace hf := cb_ifn cn hf
        refine lv_aload_n hx hb dX0_countThis_16 rfl (lv_at hl 0 rfl) ?_
        refine gf_X0_51 C hs rfl dX0_countThis_17 ?_
        refine lv_if_ne (tgt := 38) hx hb dX0_countThis_20 (by decide) (fun cn => ?_) (fun cn => ?_)
        · replace hf := cb_ifn cn hf
          refine lv_aload_n hx hb dX0_countThis_38 rfl (lv_at hl 0 rfl) ?_
          refine gf_X0_18 C hs rfl dX0_countThis_39 ?_
          refine lv_iload_n hx hb dX0_countThis_42 rfl (lv_at hl 2 rfl) ?_
          obtain ⟨hc, hf⟩ := cb_ck_inv hf
          refine cb_iald C hs rfl (vp_in_iff.mpr hc) dX0_countThis_43 ?_
          refine lv_aload_n hx hb dX0_countThis_44 rfl (lv_at hl 0 rfl) ?_
          refine gf_X0_15 C hs rfl dX0_countThis_45 ?_
          refine lv_iload_n hx hb dX0_countThis_48 rfl (lv_at hl 2 rfl) ?_
          obtain ⟨hc, hf⟩ := cb_ck_inv hf
          refine cb_iald C hs rfl (vp_in_iff.mpr hc) dX0_countThis_49 ?_
          refine lv_icmp_eq (tgt := 60) hx hb dX0_countThis_50 (by decide) (fun cn => ?_) (fun cn => ?_)
          · replace hf := cb_ifp cn hf
            exact w_X0_countThis_60 C ih hf hs (lv_sub hl [0, 1, 2] rfl)
          · replace hf := cb_ifn cn hf
            refine lv_aload_n hx hb dX0_countThis_53 rfl (lv_at hl 0 rfl) ?_
            refine gf_X0_18 C hs rfl dX0_countThis_54 ?_
            refine lv_iload_n hx hb dX0_countThis_57 rfl (lv_at hl 2 rfl) ?_
            refine lv_iconst (v := (-1)) hx hb dX0_countThis_58 (by decide) ?_
            obtain ⟨hc, hf⟩ := cb_ck_inv hf
            refine cb_iast C hs rfl (vp_in_iff.mpr hc) dX0_countThis_59 (fun H locs hs => ?_)
            obtain ⟨σ_1, e9, hf⟩ := cb_let_inv hf
            replace hs := cb_Hc e9 hs
            clear e9
            exact w_X0_countThis_60 C ih hf hs (lv_sub hl [0, 1, 2] rfl)
        · replace hf := cb_ifp cn hf
          refine lv_aload_n hx hb dX0_countThis_23 rfl (lv_at hl 0 rfl) ?_
          refine gf_X0_18 C hs rfl dX0_countThis_24 ?_
          refine lv_iload_n hx hb dX0_countThis_27 rfl (lv_at hl 2 rfl) ?_
          refine lv_aload_n hx hb dX0_countThis_28 rfl (lv_at hl 0 rfl) ?_
          refine gf_X0_15 C hs rfl dX0_countThis_29 ?_
          refine lv_iload_n hx hb dX0_countThis_32 rfl (lv_at hl 2 rfl) ?_
          obtain ⟨hc, hf⟩ := cb_ck_inv hf
          refine cb_iald C hs rfl (vp_in_iff.mpr hc) dX0_countThis_33 ?_
          obtain ⟨hc, hf⟩ := cb_ck_inv hf
          refine cb_iast C hs rfl (vp_in_iff.mpr hc) dX0_countThis_34 (fun H locs hs => ?_)
          obtain ⟨σ_2, e9, hf⟩ := cb_let_inv hf
          replace hs := cb_Hc e9 hs
          clear e9
          refine lv_goto (tgt := 60) hx hb dX0_countThis_35 (by decide) ?_
          exact w_X0_countThis_60 C ih hf hs (lv_sub hl [0, 1, 2] rfl)
def f_X0_countThis  (σ : cb_St) : Option (cb_St) := f_X0_countThis_2 cb_fu σ 0
set_option maxHeartbeats 4000000 in
set_option maxRecDepth 100000 in
theorem c_X0_countThis   {σ : cb_St} {o : cb_St} (hf : f_X0_countThis σ = some o) : cb_M l yX0_countThis cX0_countThis 5 none 3 shC A T D σ [.ref (A 106), .ref (A 9)] none o := by
  refine cb_met (by decide +kernel) (Nat.le_of_ble_eq_true rfl) ?_
  intro p e s m below meth c C hs ls hl
  have hl : lv_has ls 5 [(0, .ref (A 106)), (1, .ref (A 9))] := hl
  obtain ⟨hx, hb, hml, hr, hown, hts, hK, hlk, hN⟩ := id C
  unfold f_X0_countThis at hf
  refine lv_iconst (v := 0) hx hb dX0_countThis_0 (by decide) ?_
  refine lv_istore_n (lv' := [(2, .int 0), (0, .ref (A 106)), (1, .ref (A 9))]) hx hb dX0_countThis_1 rfl hl (by decide) rfl (fun ls hl => ?_)
  exact w_X0_countThis_2 C  cb_fu _ _ hf _ _ _ hs (lv_sub hl [1, 2, 0] rfl)
/-! ===== CardBecome$Deals.isAsSeen ===== -/
def f_X0_isAsSeen_60 (σ : cb_St)  : Option (Int32) := some 0
set_option maxHeartbeats 4000000 in
set_option maxRecDepth 100000 in
theorem w_X0_isAsSeen_60 (C : cb_C p s m args meth c cX0_isAsSeen 6 (some .boolean) RX0 D T) {σ : cb_St} {o : Int32}   (hf : f_X0_isAsSeen_60 σ = some o) {H : Heap} {locs : List Loc} {ls : Array Slot} (hs : cb_H shC A T D σ s.heap H locs) (hl : lv_has ls 6 [(0, .ref (A 106)), (1, .ref (A 9)), (2, .ref (A 100))]) : cb_W p l e 3 s m args below meth c shC A T D (some (.int o)) σ H locs (F0 m 60 ls []) := by
  obtain ⟨hx, hb, hml, hr, hown, hts, hK, hlk, hN⟩ := id C
  unfold f_X0_isAsSeen_60 at hf
  refine lv_iconst (v := 0) hx hb dX0_isAsSeen_60 (by decide) ?_
  have hf := Option.some.inj hf
  subst hf
  exact cb_retz C hs (Or.inl rfl) dX0_isAsSeen_61
def f_X0_isAsSeen_2 (σ : cb_St) : Nat → Int32 → Option (Int32)
  | 0, _ => none
  | fu + 1, x3 => if (σ.1 100 0) ≤ x3 then (some 1) else (cb_bp (f_X2_firstSeen x3 σ) (fun r_1 => cb_bp (f_X0_cardBefore r_1 σ) (fun r_2 => cb_bp (f_X2_secondSeen x3 σ) (fun r_3 => cb_bp (f_X0_cardBefore r_3 σ) (fun r_4 => if r_2 = (-1) then (f_X0_isAsSeen_60 σ) else (if r_4 = (-1) then (f_X0_isAsSeen_60 σ) else (cb_bp (f_X6_between 9 r_2 r_4 σ) (fun r_5 => cb_bp (f_X2_whoSeen x3 σ) (fun r_6 => if r_5 = r_6 then (cb_let (x3 + 1) (fun x3_6 => f_X0_isAsSeen_2 σ fu x3_6)) else (f_X0_isAsSeen_60 σ))))))))))
set_option maxHeartbeats 4000000 in
set_option maxRecDepth 100000 in
theorem w_X0_isAsSeen_2 (C : cb_C p s m args meth c cX0_isAsSeen 6 (some .boolean) RX0 D T) {σ : cb_St} {o : Int32}  : ∀ (fu : Nat) (x3 : Int32), f_X0_isAsSeen_2 σ fu x3 = some o → ∀ (H : Heap) (locs : List Loc) (ls : Array Slot), cb_H shC A T D σ s.heap H locs → lv_has ls 6 [(0, .ref (A 106)), (1, .ref (A 9)), (2, .ref (A 100)), (3, .int x3)] → cb_W p l e 3 s m args below meth c shC A T D (some (.int o)) σ H locs (F0 m 2 ls []) := by
  obtain ⟨hx, hb, hml, hr, hown, hts, hK, hlk, hN⟩ := id C
  intro fu
  induction fu with
  | zero =>
    intro x3 hf
    rw [f_X0_isAsSeen_2] at hf
    cases hf
  | succ fu ih =>
    intro x3 hf H locs ls hs hl
    rw [f_X0_isAsSeen_2] at hf
    refine lv_iload_n hx hb dX0_isAsSeen_2 rfl (lv_at hl 3 rfl) ?_
    refine lv_aload_n hx hb dX0_isAsSeen_3 rfl (lv_at hl 2 rfl) ?_
    refine gf_X0_75 C hs rfl dX0_isAsSeen_4 ?_
    refine lv_icmp_ge (tgt := 68) hx hb dX0_isAsSeen_7 (by decide) (fun cn => ?_) (fun cn => ?_)
    · replace hf := cb_ifp cn hf
      refine lv_iconst (v := 1) hx hb dX0_isAsSeen_68 (by decide) ?_
      have hf := Option.some.inj hf
      subst hf
      exact cb_retz C hs (Or.inr rfl) dX0_isAsSeen_69
    · replace hf := cb_ifn cn hf
      refine lv_aload_n hx hb dX0_isAsSeen_10 rfl (lv_at hl 0 rfl) ?_
      refine lv_aload_n hx hb dX0_isAsSeen_11 rfl (lv_at hl 2 rfl) ?_
      refine lv_iload_n hx hb dX0_isAsSeen_12 rfl (lv_at hl 3 rfl) ?_
      obtain ⟨r_1, hc, hf⟩ := cb_bp_inv hf
      refine cb_callVi C (c_X2_firstSeen  hc) mw_X2_firstSeen ml_X0_80 rfl ⟨Nat.le_of_ble_eq_true rfl, Nat.le_of_ble_eq_true rfl⟩ rfl (Nat.le_of_ble_eq_true rfl) rfl hs hl rfl (Nat.le_of_ble_eq_true rfl) dX0_isAsSeen_13 (fun H locs hs => ?_)
      clear hc
      obtain ⟨r_2, hc, hf⟩ := cb_bp_inv hf
      refine cb_callVi C (c_X0_cardBefore  hc) mw_X0_cardBefore ml_X0_83 rfl ⟨Nat.le_of_ble_eq_true rfl, Nat.le_of_ble_eq_true rfl⟩ rfl (Nat.le_of_ble_eq_true rfl) rfl hs hl rfl (Nat.le_of_ble_eq_true rfl) dX0_isAsSeen_16 (fun H locs hs => ?_)
      clear hc
      refine lv_istore (lv' := [(4, .int r_2), (0, .ref (A 106)), (1, .ref (A 9)), (2, .ref (A 100)), (3, .int x3)]) hx hb dX0_isAsSeen_19 hl (by decide) rfl (fun ls hl => ?_)
      refine lv_aload_n hx hb dX0_isAsSeen_21 rfl (lv_at hl 1 rfl) ?_
      refine lv_aload_n hx hb dX0_isAsSeen_22 rfl (lv_at hl 3 rfl) ?_
      refine lv_iload_n hx hb dX0_isAsSeen_23 rfl (lv_at hl 4 rfl) ?_
      obtain ⟨r_3, hc, hf⟩ := cb_bp_inv hf
      refine cb_callVi C (c_X2_secondSeen  hc) mw_X2_secondSeen ml_X0_86 rfl ⟨Nat.le_of_ble_eq_true rfl, Nat.le_of_ble_eq_true rfl⟩ rfl (Nat.le_of_ble_eq_true rfl) rfl hs hl rfl (Nat.le_of_ble_eq_true rfl) dX0_isAsSeen_24 (fun H locs hs => ?_)
      clear hc
      obtain ⟨r_4, hc, hf⟩ := cb_bp_inv hf
      refine cb_callVi C (c_X0_cardBefore  hc) mw_X0_cardBefore ml_X0_83 rfl ⟨Nat.le_of_ble_eq_true rfl, Nat.le_of_ble_eq_true rfl⟩ rfl (Nat.le_of_ble_eq_true rfl) rfl hs hl rfl (Nat.le_of_ble_eq_true rfl) dX0_isAsSeen_27 (fun H locs hs => ?_)
      clear hc
      refine lv_istore (lv' := [(5, .int r_4), (4, .int r_2), (0, .ref (A 106)), (1, .ref (A 9)), (2, .ref (A 100)), (3, .int x3)]) hx hb dX0_isAsSeen_30 hl (by decide) rfl (fun ls hl => ?_)
      refine lv_iload hx hb dX0_isAsSeen_32 (lv_at hl 1 rfl) ?_
      refine lv_iconst (v := (-1)) hx hb dX0_isAsSeen_34 (by decide) ?_
      refine lv_icmp_eq (tgt := 60) hx hb dX0_isAsSeen_35 (by decide) (fun cn => ?_) (fun cn => ?_)
      · replace hf := cb_ifp cn hf
        exact w_X0_isAsSeen_60 C  hf hs (lv_sub hl [2, 3, 4] rfl)
      · replace hf := cb_ifn cn hf
        refine lv_iload hx hb dX0_isAsSeen_38 (lv_at hl 0 rfl) ?_
        refine lv_iconst (v := (-1)) hx hb dX0_isAsSeen_40 (by decide) ?_
        refine lv_icmp_eq (tgt := 60) hx hb dX0_isAsSeen_41 (by decide) (fun cn => ?_) (fun cn => ?_)
        · replace hf := cb_ifp cn hf
          exact w_X0_isAsSeen_60 C  hf hs (lv_sub hl [2, 3, 4] rfl)
        · replace hf := cb_ifn cn hf
          refine lv_aload_n hx hb dX0_isAsSeen_44 rfl (lv_at hl 3 rfl) ?_
          refine lv_iload hx hb dX0_isAsSeen_45 (lv_at hl 1 rfl) ?_
          refine lv_iload hx hb dX0_isAsSeen_47 (lv_at hl 0 rfl) ?_
          obtain ⟨r_5, hc, hf⟩ := cb_bp_inv hf
          refine cb_callVi C (c_X6_between cb_tb9 hc) mw_X6_between ml_X0_89 rfl ⟨Nat.le_of_ble_eq_true rfl, Nat.le_of_ble_eq_true rfl⟩ cb_tb9.1 (Nat.le_of_ble_eq_true rfl) rfl hs hl rfl (Nat.le_of_ble_eq_true rfl) dX0_isAsSeen_49 (fun H locs hs => ?_)
          clear hc
          refine lv_aload_n hx hb dX0_isAsSeen_52 rfl (lv_at hl 4 rfl) ?_
          refine lv_iload_n hx hb dX0_isAsSeen_53 rfl (lv_at hl 5 rfl) ?_
          obtain ⟨r_6, hc, hf⟩ := cb_bp_inv hf
          refine cb_callVi C (c_X2_whoSeen  hc) mw_X2_whoSeen ml_X0_92 rfl ⟨Nat.le_of_ble_eq_true rfl, Nat.le_of_ble_eq_true rfl⟩ rfl (Nat.le_of_ble_eq_true rfl) rfl hs hl rfl (Nat.le_of_ble_eq_true rfl) dX0_isAsSeen_54 (fun H locs hs => ?_)
          clear hc
          refine lv_icmp_eq (tgt := 62) hx hb dX0_isAsSeen_57 (by decide) (fun cn => ?_) (fun cn => ?_)
          · replace hf := cb_ifp cn hf
            obtain ⟨x3_6, e9, hf⟩ := cb_let_inv hf
            refine lv_iinc (v := x3_6) (lv' := [(3, .int x3_6), (5, .int r_4), (4, .int r_2), (0, .ref (A 106)), (1, .ref (A 9)), (2, .ref (A 100))]) hx hb dX0_isAsSeen_62 hl (k := 5) rfl (by rw [e9]; rfl) (by decide) rfl (fun ls hl => ?_)
            clear e9
            refine lv_goto (tgt := 2) hx hb dX0_isAsSeen_65 (by decide) ?_
            exact ih _ hf _ _ _ hs (lv_sub hl [3, 4, 5, 0] rfl)
          · replace hf := cb_ifn cn hf
            exact w_X0_isAsSeen_60 C  hf hs (lv_sub hl [2, 3, 4] rfl)
def f_X0_isAsSeen (σ : cb_St)  : Option (Int32) := f_X0_isAsSeen_2 σ cb_fu 0
set_option maxHeartbeats 4000000 in
set_option maxRecDepth 100000 in
theorem c_X0_isAsSeen {σ : cb_St}   {o : Int32} (hf : f_X0_isAsSeen σ = some o) : cb_M l yX0_isAsSeen cX0_isAsSeen 6 (some .boolean) 3 shC A T D σ [.ref (A 106), .ref (A 9), .ref (A 100)] (some (.int o)) σ := by
  refine cb_met (by decide +kernel) (Nat.le_of_ble_eq_true rfl) ?_
  intro p e s m below meth c C hs ls hl
  have hl : lv_has ls 6 [(0, .ref (A 106)), (1, .ref (A 9)), (2, .ref (A 100))] := hl
  obtain ⟨hx, hb, hml, hr, hown, hts, hK, hlk, hN⟩ := id C
  unfold f_X0_isAsSeen at hf
  refine lv_iconst (v := 0) hx hb dX0_isAsSeen_0 (by decide) ?_
  refine lv_istore_n (lv' := [(3, .int 0), (0, .ref (A 106)), (1, .ref (A 9)), (2, .ref (A 100))]) hx hb dX0_isAsSeen_1 rfl hl (by decide) rfl (fun ls hl => ?_)
  exact w_X0_isAsSeen_2 C  cb_fu _ hf _ _ _ hs (lv_sub hl [1, 2, 3, 0] rfl)
/-! ===== CardBecome$Deals.layFrom ===== -/
def f_X0_layFrom_90 (Rc : cb_St → Int32 → Int32 → Option (cb_St)) (K37 : cb_St → Int32 → Option (cb_St)) (x1 : Int32) (x2 : Int32) (σ : cb_St) (x5 : Int32) : Option (cb_St) := cb_let (x5 + 1) (fun x5_0 => K37 σ x5_0)
set_option maxHeartbeats 4000000 in
set_option maxRecDepth 100000 in
theorem w_X0_layFrom_90 {d : Nat} (C : cb_C p s m args meth c cX0_layFrom 6 none RX0 D T) {Rc : cb_St → Int32 → Int32 → Option (cb_St)} {K37 : cb_St → Int32 → Option (cb_St)} {x1 : Int32} {x2 : Int32} {o : cb_St} (hRc : ∀ {σ : cb_St} {x1 : Int32} {x2 : Int32} {o : cb_St}, Rc σ x1 x2 = some o → cb_M l yX0_layFrom cX0_layFrom 6 none (4 + d) shC A T D σ [.ref (A 106), .int x1, .int x2, .ref (A 9), .ref (A 100)] none o) (hK37 : ∀ (σ : cb_St) (x5 : Int32), K37 σ x5 = some o → ∀ (H : Heap) (locs : List Loc) (ls : Array Slot), cb_H shC A T D σ s.heap H locs → lv_has ls 6 [(0, .ref (A 106)), (1, .int x1), (2, .int x2), (3, .ref (A 9)), (4, .ref (A 100)), (5, .int x5)] → cb_W p l e (4 + (d + 1)) s m args below meth c shC A T D none o H locs (F0 m 37 ls [])) {σ : cb_St} {x5 : Int32} (hf : f_X0_layFrom_90 Rc K37 x1 x2 σ x5 = some o) {H : Heap} {locs : List Loc} {ls : Array Slot} (hs : cb_H shC A T D σ s.heap H locs) (hl : lv_has ls 6 [(0, .ref (A 106)), (1, .int x1), (2, .int x2), (3, .ref (A 9)), (4, .ref (A 100)), (5, .int x5)]) : cb_W p l e (4 + (d + 1)) s m args below meth c shC A T D none o H locs (F0 m 90 ls []) := by
  obtain ⟨hx, hb, hml, hr, hown, hts, hK, hlk, hN⟩ := id C
  unfold f_X0_layFrom_90 at hf
  obtain ⟨x5_0, e9, hf⟩ := cb_let_inv hf
  refine lv_iinc (v := x5_0) (lv' := [(5, .int x5_0), (0, .ref (A 106)), (1, .int x1), (2, .int x2), (3, .ref (A 9)), (4, .ref (A 100))]) hx hb dX0_layFrom_90 hl (k := 5) rfl (by rw [e9]; rfl) (by decide) rfl (fun ls hl => ?_)
  clear e9
  refine lv_goto (tgt := 37) hx hb dX0_layFrom_93 (by decide) ?_
  exact hK37 _ _ hf _ _ _ hs (lv_sub hl [1, 2, 3, 4, 5, 0] rfl)
def f_X0_layFrom_37 (Rc : cb_St → Int32 → Int32 → Option (cb_St)) (x1 : Int32) (x2 : Int32) : Nat → cb_St → Int32 → Option (cb_St)
  | 0, _, _ => none
  | fu + 1, σ, x5 => if (σ.1 106 1) ≤ x5 then (some σ) else (if 5 ≤ x5 then (some σ) else (if ((x2 >>> (x5 &&& 31)) &&& 1) = 0 then (cb_ck (0 ≤ Int32.toInt x5 ∧ Int32.toInt x5 < 5) (cb_ck (0 ≤ Int32.toInt x1 ∧ Int32.toInt x1 < 6) (cb_let (cb_sI σ 108 (Int32.toNatClampNeg x1) (σ.1 107 (Int32.toNatClampNeg x5))) (fun σ_1 => cb_bv (Rc σ_1 (x1 + 1) (x2 ||| (1 <<< (x5 &&& 31)))) (fun σ_2 => f_X0_layFrom_90 Rc (f_X0_layFrom_37 Rc x1 x2 fu) x1 x2 σ_2 x5))))) else (f_X0_layFrom_90 Rc (f_X0_layFrom_37 Rc x1 x2 fu) x1 x2 σ x5)))
set_option maxHeartbeats 4000000 in
set_option maxRecDepth 100000 in
theorem w_X0_layFrom_37 {d : Nat} (C : cb_C p s m args meth c cX0_layFrom 6 none RX0 D T) {Rc : cb_St → Int32 → Int32 → Option (cb_St)} {x1 : Int32} {x2 : Int32} {o : cb_St} (hRc : ∀ {σ : cb_St} {x1 : Int32} {x2 : Int32} {o : cb_St}, Rc σ x1 x2 = some o → cb_M l yX0_layFrom cX0_layFrom 6 none (4 + d) shC A T D σ [.ref (A 106), .int x1, .int x2, .ref (A 9), .ref (A 100)] none o) : ∀ (fu : Nat) (σ : cb_St) (x5 : Int32), f_X0_layFrom_37 Rc x1 x2 fu σ x5 = some o → ∀ (H : Heap) (locs : List Loc) (ls : Array Slot), cb_H shC A T D σ s.heap H locs → lv_has ls 6 [(0, .ref (A 106)), (1, .int x1), (2, .int x2), (3, .ref (A 9)), (4, .ref (A 100)), (5, .int x5)] → cb_W p l e (4 + (d + 1)) s m args below meth c shC A T D none o H locs (F0 m 37 ls []) := by
  obtain ⟨hx, hb, hml, hr, hown, hts, hK, hlk, hN⟩ := id C
  intro fu
  induction fu with
  | zero =>
    intro σ x5 hf
    rw [f_X0_layFrom_37] at hf
    cases hf
  | succ fu ih =>
    intro σ x5 hf H locs ls hs hl
    rw [f_X0_layFrom_37] at hf
    refine lv_iload hx hb dX0_layFrom_37 (lv_at hl 5 rfl) ?_
    refine lv_aload_n hx hb dX0_layFrom_39 rfl (lv_at hl 0 rfl) ?_
    refine gf_X0_36 C hs rfl dX0_layFrom_40 ?_
    refine lv_icmp_ge (tgt := 96) hx hb dX0_layFrom_43 (by decide) (fun cn => ?_) (fun cn => ?_)
    · replace hf := cb_ifp cn hf
      have hf := Option.some.inj hf
      subst hf
      exact cb_retv C hs dX0_layFrom_96
    · replace hf := cb_ifn cn hf
      refine lv_iload hx hb dX0_layFrom_46 (lv_at hl 5 rfl) ?_
      refine lv_iconst (v := 5) hx hb dX0_layFrom_48 (by decide) ?_
      refine lv_icmp_ge (tgt := 96) hx hb dX0_layFrom_49 (by decide) (fun cn => ?_) (fun cn => ?_)
      · replace hf := cb_ifp cn hf
        have hf := Option.some.inj hf
        subst hf
        exact cb_retv C hs dX0_layFrom_96
      · replace hf := cb_ifn cn hf
        refine lv_iload_n hx hb dX0_layFrom_52 rfl (lv_at hl 2 rfl) ?_
        refine lv_iload hx hb dX0_layFrom_53 (lv_at hl 5 rfl) ?_
        refine lv_ishr hx hb dX0_layFrom_55 ?_
        refine lv_iconst (v := 1) hx hb dX0_layFrom_56 (by decide) ?_
        refine lv_iand hx hb dX0_layFrom_57 ?_
        refine lv_if_ne (tgt := 90) hx hb dX0_layFrom_58 (by decide) (fun cn => ?_) (fun cn => ?_)
        · replace hf := cb_ifn cn hf
          exact w_X0_layFrom_90 C hRc ih hf hs (lv_sub hl [0, 1, 2, 3, 4, 5] rfl)
        · replace hf := cb_ifp cn hf
          refine lv_aload_n hx hb dX0_layFrom_61 rfl (lv_at hl 0 rfl) ?_
          refine gf_X0_15 C hs rfl dX0_layFrom_62 ?_
          refine lv_iload_n hx hb dX0_layFrom_65 rfl (lv_at hl 1 rfl) ?_
          refine lv_aload_n hx hb dX0_layFrom_66 rfl (lv_at hl 0 rfl) ?_
          refine gf_X0_9 C hs rfl dX0_layFrom_67 ?_
          refine lv_iload hx hb dX0_layFrom_70 (lv_at hl 5 rfl) ?_
          obtain ⟨hc, hf⟩ := cb_ck_inv hf
          refine cb_iald C hs rfl (vp_in_iff.mpr hc) dX0_layFrom_72 ?_
          obtain ⟨hc, hf⟩ := cb_ck_inv hf
          refine cb_iast C hs rfl (vp_in_iff.mpr hc) dX0_layFrom_73 (fun H locs hs => ?_)
          obtain ⟨σ_1, e9, hf⟩ := cb_let_inv hf
          replace hs := cb_Hc e9 hs
          clear e9
          refine lv_aload_n hx hb dX0_layFrom_74 rfl (lv_at hl 0 rfl) ?_
          refine lv_iload_n hx hb dX0_layFrom_75 rfl (lv_at hl 1 rfl) ?_
          refine lv_iconst (v := 1) hx hb dX0_layFrom_76 (by decide) ?_
          refine lv_iadd hx hb dX0_layFrom_77 ?_
          refine lv_iload_n hx hb dX0_layFrom_78 rfl (lv_at hl 2 rfl) ?_
          refine lv_iconst (v := 1) hx hb dX0_layFrom_79 (by decide) ?_
          refine lv_iload hx hb dX0_layFrom_80 (lv_at hl 5 rfl) ?_
          refine lv_ishl hx hb dX0_layFrom_82 ?_
          refine lv_ior hx hb dX0_layFrom_83 ?_
          refine lv_aload_n hx hb dX0_layFrom_84 rfl (lv_at hl 3 rfl) ?_
          refine lv_aload hx hb dX0_layFrom_85 (lv_at hl 4 rfl) ?_
          obtain ⟨σ_2, hc, hf⟩ := cb_bv_inv hf
          refine cb_callVv C (hRc hc) mw_X0_layFrom ml_X0_60 rfl ⟨by omega, by omega⟩ rfl (Nat.le_of_ble_eq_true rfl) rfl hs hl rfl (Nat.le_of_ble_eq_true rfl) dX0_layFrom_87 (fun H locs hs => ?_)
          clear hc
          exact w_X0_layFrom_90 C hRc ih hf hs (lv_sub hl [0, 1, 2, 3, 4, 5] rfl)
def f_X0_layFrom_18 (Rc : cb_St → Int32 → Int32 → Option (cb_St)) (x1 : Int32) (x2 : Int32) (σ : cb_St) : Option (cb_St) := cb_bp (f_X0_isAsSeen σ) (fun r_1 => if r_1 = 0 then (some σ) else (cb_bv (f_X0_countThis σ) (fun σ_2 => some σ_2)))
set_option maxHeartbeats 4000000 in
set_option maxRecDepth 100000 in
theorem w_X0_layFrom_18 {d : Nat} (C : cb_C p s m args meth c cX0_layFrom 6 none RX0 D T) {Rc : cb_St → Int32 → Int32 → Option (cb_St)} {x1 : Int32} {x2 : Int32} {o : cb_St} (hRc : ∀ {σ : cb_St} {x1 : Int32} {x2 : Int32} {o : cb_St}, Rc σ x1 x2 = some o → cb_M l yX0_layFrom cX0_layFrom 6 none (4 + d) shC A T D σ [.ref (A 106), .int x1, .int x2, .ref (A 9), .ref (A 100)] none o) {σ : cb_St} (hf : f_X0_layFrom_18 Rc x1 x2 σ = some o) {H : Heap} {locs : List Loc} {ls : Array Slot} (hs : cb_H shC A T D σ s.heap H locs) (hl : lv_has ls 6 [(0, .ref (A 106)), (1, .int x1), (2, .int x2), (3, .ref (A 9)), (4, .ref (A 100))]) : cb_W p l e (4 + (d + 1)) s m args below meth c shC A T D none o H locs (F0 m 18 ls []) := by
  obtain ⟨hx, hb, hml, hr, hown, hts, hK, hlk, hN⟩ := id C
  unfold f_X0_layFrom_18 at hf
  refine lv_aload_n hx hb dX0_layFrom_18 rfl (lv_at hl 0 rfl) ?_
  refine lv_aload_n hx hb dX0_layFrom_19 rfl (lv_at hl 3 rfl) ?_
  refine lv_aload hx hb dX0_layFrom_20 (lv_at hl 4 rfl) ?_
  obtain ⟨r_1, hc, hf⟩ := cb_bp_inv hf
  refine cb_callVi C (c_X0_isAsSeen  hc) mw_X0_isAsSeen ml_X0_67 rfl ⟨by omega, by omega⟩ rfl (Nat.le_of_ble_eq_true rfl) rfl hs hl rfl (Nat.le_of_ble_eq_true rfl) dX0_layFrom_22 (fun H locs hs => ?_)
  clear hc
  refine lv_if_eq (tgt := 33) hx hb dX0_layFrom_25 (by decide) (fun cn => ?_) (fun cn => ?_)
  · replace hf := cb_ifp cn hf
    have hf := Option.some.inj hf
    subst hf
    exact cb_retv C hs dX0_layFrom_33
  · replace hf := cb_ifn cn hf
    refine lv_aload_n hx hb dX0_layFrom_28 rfl (lv_at hl 0 rfl) ?_
    refine lv_aload_n hx hb dX0_layFrom_29 rfl (lv_at hl 3 rfl) ?_
    obtain ⟨σ_2, hc, hf⟩ := cb_bv_inv hf
    refine cb_callVv C (c_X0_countThis  hc) mw_X0_countThis ml_X0_71 rfl ⟨by omega, by omega⟩ rfl (Nat.le_of_ble_eq_true rfl) rfl hs hl rfl (Nat.le_of_ble_eq_true rfl) dX0_layFrom_30 (fun H locs hs => ?_)
    clear hc
    have hf := Option.some.inj hf
    subst hf
    exact cb_retv C hs dX0_layFrom_33
def f_X0_layFrom_0 (Rc : cb_St → Int32 → Int32 → Option (cb_St)) (x1 : Int32) (x2 : Int32) (σ : cb_St) : Option (cb_St) := if x1 < 0 then (f_X0_layFrom_18 Rc x1 x2 σ) else (if (σ.1 106 2) ≤ x1 then (f_X0_layFrom_18 Rc x1 x2 σ) else (if x1 < 6 then (f_X0_layFrom_37 Rc x1 x2 cb_fu σ 0) else (f_X0_layFrom_18 Rc x1 x2 σ)))
def f_X0_layFrom : Nat → Int32 → Int32 → cb_St → Option (cb_St)
  | 0, _, _, _ => none
  | d + 1, x1, x2, σ => f_X0_layFrom_0 (fun σ x1 x2 => f_X0_layFrom d x1 x2 σ) x1 x2 σ
set_option maxHeartbeats 4000000 in
set_option maxRecDepth 100000 in
theorem c_X0_layFrom : ∀ (d : Nat) {x1 : Int32} {x2 : Int32} {σ : cb_St} {o : cb_St}, f_X0_layFrom d x1 x2 σ = some o → cb_M l yX0_layFrom cX0_layFrom 6 none (4 + d) shC A T D σ [.ref (A 106), .int x1, .int x2, .ref (A 9), .ref (A 100)] none o := by
  intro d
  induction d with
  | zero =>
    intro x1 x2 σ o hf
    rw [f_X0_layFrom] at hf
    cases hf
  | succ d hRc =>
    intro x1 x2 σ o hf
    rw [f_X0_layFrom] at hf
    refine cb_met (by decide +kernel) (Nat.le_of_ble_eq_true rfl) ?_
    intro p e s m below meth c C hs ls hl
    have hl : lv_has ls 6 [(0, .ref (A 106)), (1, .int x1), (2, .int x2), (3, .ref (A 9)), (4, .ref (A 100))] := hl
    obtain ⟨hx, hb, hml, hr, hown, hts, hK, hlk, hN⟩ := id C
    unfold f_X0_layFrom_0 at hf
    refine lv_iload_n hx hb dX0_layFrom_0 rfl (lv_at hl 1 rfl) ?_
    refine lv_if_lt (tgt := 18) hx hb dX0_layFrom_1 (by decide) (fun cn => ?_) (fun cn => ?_)
    · replace hf := cb_ifp cn hf
      exact w_X0_layFrom_18 C hRc hf hs (lv_sub hl [0, 1, 2, 3, 4] rfl)
    · replace hf := cb_ifn cn hf
      refine lv_iload_n hx hb dX0_layFrom_4 rfl (lv_at hl 1 rfl) ?_
      refine lv_aload_n hx hb dX0_layFrom_5 rfl (lv_at hl 0 rfl) ?_
      refine gf_X0_44 C hs rfl dX0_layFrom_6 ?_
      refine lv_icmp_ge (tgt := 18) hx hb dX0_layFrom_9 (by decide) (fun cn => ?_) (fun cn => ?_)
      · replace hf := cb_ifp cn hf
        exact w_X0_layFrom_18 C hRc hf hs (lv_sub hl [0, 1, 2, 3, 4] rfl)
      · replace hf := cb_ifn cn hf
        refine lv_iload_n hx hb dX0_layFrom_12 rfl (lv_at hl 1 rfl) ?_
        refine lv_bipush (v := 6) hx hb dX0_layFrom_13 (by decide) ?_
        refine lv_icmp_lt (tgt := 34) hx hb dX0_layFrom_15 (by decide) (fun cn => ?_) (fun cn => ?_)
        · replace hf := cb_ifp cn hf
          refine lv_iconst (v := 0) hx hb dX0_layFrom_34 (by decide) ?_
          refine lv_istore (lv' := [(5, .int 0), (0, .ref (A 106)), (1, .int x1), (2, .int x2), (3, .ref (A 9)), (4, .ref (A 100))]) hx hb dX0_layFrom_35 hl (by decide) rfl (fun ls hl => ?_)
          exact w_X0_layFrom_37 C hRc cb_fu _ _ hf _ _ _ hs (lv_sub hl [1, 2, 3, 4, 5, 0] rfl)
        · replace hf := cb_ifn cn hf
          exact w_X0_layFrom_18 C hRc hf hs (lv_sub hl [0, 1, 2, 3, 4] rfl)
/-! ===== CardBecome$Deals.lay ===== -/
def f_X0_lay_39 (x1 : Int32) : Nat → cb_St → Int32 → Option (cb_St)
  | 0, _, _ => none
  | fu + 1, σ, x5 => if 5 ≤ x5 then (cb_let (cb_sI σ 106 0 0) (fun σ_1 => cb_bv (f_J7_fill_53178 109 6 (-1) σ_1) (fun σ_2 => cb_bv (f_J7_fill_53178 110 108 0 σ_2) (fun σ_3 => cb_bv (f_X0_layFrom cb_rd 0 0 σ_3) (fun σ_4 => some σ_4))))) else (cb_bp (f_X4_cardAt 13 x5 σ) (fun r_5 => cb_ck (0 ≤ Int32.toInt x5 ∧ Int32.toInt x5 < 5) (cb_let (cb_sI σ 107 (Int32.toNatClampNeg x5) r_5) (fun σ_6 => cb_let (x5 + 1) (fun x5_6 => f_X0_lay_39 x1 fu σ_6 x5_6)))))
set_option maxHeartbeats 4000000 in
set_option maxRecDepth 100000 in
theorem w_X0_lay_39 (C : cb_C p s m args meth c cX0_lay 6 none RX0 D T) {x1 : Int32} {o : cb_St}  : ∀ (fu : Nat) (σ : cb_St) (x5 : Int32), f_X0_lay_39 x1 fu σ x5 = some o → ∀ (H : Heap) (locs : List Loc) (ls : Array Slot), cb_H shC A T D σ s.heap H locs → lv_has ls 6 [(0, .ref (A 106)), (1, .int x1), (2, .ref (A 9)), (3, .ref (A 13)), (4, .ref (A 100)), (5, .int x5)] → cb_W p l e 14 s m args below meth c shC A T D none o H locs (F0 m 39 ls []) := by
  obtain ⟨hx, hb, hml, hr, hown, hts, hK, hlk, hN⟩ := id C
  intro fu
  induction fu with
  | zero =>
    intro σ x5 hf
    rw [f_X0_lay_39] at hf
    cases hf
  | succ fu ih =>
    intro σ x5 hf H locs ls hs hl
    rw [f_X0_lay_39] at hf
    refine lv_iload hx hb dX0_lay_39 (lv_at hl 5 rfl) ?_
    refine lv_iconst (v := 5) hx hb dX0_lay_41 (by decide) ?_
    refine lv_icmp_ge (tgt := 64) hx hb dX0_lay_42 (by decide) (fun cn => ?_) (fun cn => ?_)
    · replace hf := cb_ifp cn hf
      refine lv_aload_n hx hb dX0_lay_64 rfl (lv_at hl 0 rfl) ?_
      refine lv_iconst (v := 0) hx hb dX0_lay_65 (by decide) ?_
      refine pf_X0_51 C hs rfl dX0_lay_66 (fun H locs hs => ?_)
      obtain ⟨σ_1, e9, hf⟩ := cb_let_inv hf
      replace hs := cb_Hc e9 hs
      clear e9
      refine lv_aload_n hx hb dX0_lay_69 rfl (lv_at hl 0 rfl) ?_
      refine gf_X0_18 C hs rfl dX0_lay_70 ?_
      refine lv_iconst (v := (-1)) hx hb dX0_lay_73 (by decide) ?_
      obtain ⟨σ_2, hc, hf⟩ := cb_bv_inv hf
      refine cb_callSv C (c_J7_fill_53178 rfl hc) mw_J7_fill_53178 ml_X0_54 rfl ⟨Nat.le_of_ble_eq_true rfl, Nat.le_of_ble_eq_true rfl⟩ hs hl rfl (Nat.le_of_ble_eq_true rfl) dX0_lay_74 (fun H locs hs => ?_)
      clear hc
      refine lv_aload_n hx hb dX0_lay_77 rfl (lv_at hl 0 rfl) ?_
      refine gf_X0_21 C hs rfl dX0_lay_78 ?_
      refine lv_iconst (v := 0) hx hb dX0_lay_81 (by decide) ?_
      obtain ⟨σ_3, hc, hf⟩ := cb_bv_inv hf
      refine cb_callSv C (c_J7_fill_53178 rfl hc) mw_J7_fill_53178 ml_X0_54 rfl ⟨Nat.le_of_ble_eq_true rfl, Nat.le_of_ble_eq_true rfl⟩ hs hl rfl (Nat.le_of_ble_eq_true rfl) dX0_lay_82 (fun H locs hs => ?_)
      clear hc
      refine lv_aload_n hx hb dX0_lay_85 rfl (lv_at hl 0 rfl) ?_
      refine lv_iconst (v := 0) hx hb dX0_lay_86 (by decide) ?_
      refine lv_iconst (v := 0) hx hb dX0_lay_87 (by decide) ?_
      refine lv_aload_n hx hb dX0_lay_88 rfl (lv_at hl 2 rfl) ?_
      refine lv_aload hx hb dX0_lay_89 (lv_at hl 4 rfl) ?_
      obtain ⟨σ_4, hc, hf⟩ := cb_bv_inv hf
      refine cb_callVv C (c_X0_layFrom cb_rd hc) mw_X0_layFrom ml_X0_60 rfl ⟨Nat.le_of_ble_eq_true rfl, Nat.le_of_ble_eq_true rfl⟩ rfl (Nat.le_of_ble_eq_true rfl) rfl hs hl rfl (Nat.le_of_ble_eq_true rfl) dX0_lay_91 (fun H locs hs => ?_)
      clear hc
      have hf := Option.some.inj hf
      subst hf
      exact cb_retv C hs dX0_lay_94
    · replace hf := cb_ifn cn hf
      refine lv_aload_n hx hb dX0_lay_45 rfl (lv_at hl 0 rfl) ?_
      refine gf_X0_9 C hs rfl dX0_lay_46 ?_
      refine lv_iload hx hb dX0_lay_49 (lv_at hl 5 rfl) ?_
      refine lv_aload_n hx hb dX0_lay_51 rfl (lv_at hl 3 rfl) ?_
      refine lv_iload hx hb dX0_lay_52 (lv_at hl 5 rfl) ?_
      obtain ⟨r_5, hc, hf⟩ := cb_bp_inv hf
      refine cb_callVi C (c_X4_cardAt cb_pl13 hc) mw_X4_cardAt ml_X0_47 rfl ⟨Nat.le_of_ble_eq_true rfl, Nat.le_of_ble_eq_true rfl⟩ cb_pl13.1 (Nat.le_of_ble_eq_true rfl) rfl hs hl rfl (Nat.le_of_ble_eq_true rfl) dX0_lay_54 (fun H locs hs => ?_)
      clear hc
      obtain ⟨hc, hf⟩ := cb_ck_inv hf
      refine cb_iast C hs rfl (vp_in_iff.mpr hc) dX0_lay_57 (fun H locs hs => ?_)
      obtain ⟨σ_6, e9, hf⟩ := cb_let_inv hf
      replace hs := cb_Hc e9 hs
      clear e9
      obtain ⟨x5_6, e9, hf⟩ := cb_let_inv hf
      refine lv_iinc (v := x5_6) (lv' := [(5, .int x5_6), (0, .ref (A 106)), (1, .int x1), (2, .ref (A 9)), (3, .ref (A 13)), (4, .ref (A 100))]) hx hb dX0_lay_58 hl (k := 5) rfl (by rw [e9]; rfl) (by decide) rfl (fun ls hl => ?_)
      clear e9
      refine lv_goto (tgt := 39) hx hb dX0_lay_61 (by decide) ?_
      exact ih _ _ hf _ _ _ hs (lv_sub hl [1, 2, 3, 4, 5, 0] rfl)
def f_X0_lay (x1 : Int32) (σ : cb_St) : Option (cb_St) := cb_bp (f_J9_min_7cf53 (σ.1 13 0) 5 σ) (fun r_1 => cb_bp (f_J9_min_7cf53 x1 r_1 σ) (fun r_2 => cb_let (cb_sI σ 106 1 r_2) (fun σ_3 => cb_bp (f_J9_min_7cf53 (σ_3.1 9 5) 6 σ_3) (fun r_4 => cb_bp (f_J9_min_7cf53 (σ_3.1 106 1) r_4 σ_3) (fun r_5 => cb_let (cb_sI σ_3 106 2 r_5) (fun σ_6 => f_X0_lay_39 x1 cb_fu σ_6 0))))))
set_option maxHeartbeats 4000000 in
set_option maxRecDepth 100000 in
theorem c_X0_lay {x1 : Int32}  {σ : cb_St} {o : cb_St} (hf : f_X0_lay x1 σ = some o) : cb_M l yX0_lay cX0_lay 6 none 14 shC A T D σ [.ref (A 106), .int x1, .ref (A 9), .ref (A 13), .ref (A 100)] none o := by
  refine cb_met (by decide +kernel) (Nat.le_of_ble_eq_true rfl) ?_
  intro p e s m below meth c C hs ls hl
  have hl : lv_has ls 6 [(0, .ref (A 106)), (1, .int x1), (2, .ref (A 9)), (3, .ref (A 13)), (4, .ref (A 100))] := hl
  obtain ⟨hx, hb, hml, hr, hown, hts, hK, hlk, hN⟩ := id C
  unfold f_X0_lay at hf
  refine lv_aload_n hx hb dX0_lay_0 rfl (lv_at hl 0 rfl) ?_
  refine lv_iload_n hx hb dX0_lay_1 rfl (lv_at hl 1 rfl) ?_
  refine lv_aload_n hx hb dX0_lay_2 rfl (lv_at hl 3 rfl) ?_
  refine gf_X0_24 C hs cb_pl13.1 dX0_lay_3 ?_
  refine lv_iconst (v := 5) hx hb dX0_lay_6 (by decide) ?_
  obtain ⟨r_1, hc, hf⟩ := cb_bp_inv hf
  refine cb_callSi C (c_J9_min_7cf53  hc) mw_J9_min_7cf53 ml_X0_30 rfl ⟨Nat.le_of_ble_eq_true rfl, Nat.le_of_ble_eq_true rfl⟩ hs hl rfl (Nat.le_of_ble_eq_true rfl) dX0_lay_7 (fun H locs hs => ?_)
  clear hc
  obtain ⟨r_2, hc, hf⟩ := cb_bp_inv hf
  refine cb_callSi C (c_J9_min_7cf53  hc) mw_J9_min_7cf53 ml_X0_30 rfl ⟨Nat.le_of_ble_eq_true rfl, Nat.le_of_ble_eq_true rfl⟩ hs hl rfl (Nat.le_of_ble_eq_true rfl) dX0_lay_10 (fun H locs hs => ?_)
  clear hc
  refine pf_X0_36 C hs rfl dX0_lay_13 (fun H locs hs => ?_)
  obtain ⟨σ_3, e9, hf⟩ := cb_let_inv hf
  replace hs := cb_Hc e9 hs
  clear e9
  refine lv_aload_n hx hb dX0_lay_16 rfl (lv_at hl 0 rfl) ?_
  refine lv_aload_n hx hb dX0_lay_17 rfl (lv_at hl 0 rfl) ?_
  refine gf_X0_36 C hs rfl dX0_lay_18 ?_
  refine lv_aload_n hx hb dX0_lay_21 rfl (lv_at hl 2 rfl) ?_
  refine gf_X0_39 C hs cb_tb9.1 dX0_lay_22 ?_
  refine lv_bipush (v := 6) hx hb dX0_lay_25 (by decide) ?_
  obtain ⟨r_4, hc, hf⟩ := cb_bp_inv hf
  refine cb_callSi C (c_J9_min_7cf53  hc) mw_J9_min_7cf53 ml_X0_30 rfl ⟨Nat.le_of_ble_eq_true rfl, Nat.le_of_ble_eq_true rfl⟩ hs hl rfl (Nat.le_of_ble_eq_true rfl) dX0_lay_27 (fun H locs hs => ?_)
  clear hc
  obtain ⟨r_5, hc, hf⟩ := cb_bp_inv hf
  refine cb_callSi C (c_J9_min_7cf53  hc) mw_J9_min_7cf53 ml_X0_30 rfl ⟨Nat.le_of_ble_eq_true rfl, Nat.le_of_ble_eq_true rfl⟩ hs hl rfl (Nat.le_of_ble_eq_true rfl) dX0_lay_30 (fun H locs hs => ?_)
  clear hc
  refine pf_X0_44 C hs rfl dX0_lay_33 (fun H locs hs => ?_)
  obtain ⟨σ_6, e9, hf⟩ := cb_let_inv hf
  replace hs := cb_Hc e9 hs
  clear e9
  refine lv_iconst (v := 0) hx hb dX0_lay_36 (by decide) ?_
  refine lv_istore (lv' := [(5, .int 0), (0, .ref (A 106)), (1, .int x1), (2, .ref (A 9)), (3, .ref (A 13)), (4, .ref (A 100))]) hx hb dX0_lay_37 hl (by decide) rfl (fun ls hl => ?_)
  exact w_X0_lay_39 C  cb_fu _ _ hf _ _ _ hs (lv_sub hl [1, 2, 3, 4, 5, 0] rfl)
/-! ===== CardBecome$Deals.sureOf ===== -/
def f_X0_sureOf_10 (x1 : Int32) (σ : cb_St)  : Option (Int32) := some (-1)
set_option maxHeartbeats 4000000 in
set_option maxRecDepth 100000 in
theorem w_X0_sureOf_10 (C : cb_C p s m args meth c cX0_sureOf 2 (some .int) RX0 D T) {x1 : Int32} {σ : cb_St} {o : Int32}   (hf : f_X0_sureOf_10 x1 σ = some o) {H : Heap} {locs : List Loc} {ls : Array Slot} (hs : cb_H shC A T D σ s.heap H locs) (hl : lv_has ls 2 [(0, .ref (A 106)), (1, .int x1)]) : cb_W p l e 1 s m args below meth c shC A T D (some (.int o)) σ H locs (F0 m 10 ls []) := by
  obtain ⟨hx, hb, hml, hr, hown, hts, hK, hlk, hN⟩ := id C
  unfold f_X0_sureOf_10 at hf
  refine lv_iconst (v := (-1)) hx hb dX0_sureOf_10 (by decide) ?_
  refine lv_goto (tgt := 20) hx hb dX0_sureOf_11 (by decide) ?_
  have hf := Option.some.inj hf
  subst hf
  exact cb_reti C hs dX0_sureOf_20
def f_X0_sureOf (x1 : Int32) (σ : cb_St)  : Option (Int32) := if x1 < 0 then (f_X0_sureOf_10 x1 σ) else (if x1 < 6 then (cb_ck (0 ≤ Int32.toInt x1 ∧ Int32.toInt x1 < 6) (some (σ.1 109 (Int32.toNatClampNeg x1)))) else (f_X0_sureOf_10 x1 σ))
set_option maxHeartbeats 4000000 in
set_option maxRecDepth 100000 in
theorem c_X0_sureOf {x1 : Int32} {σ : cb_St}   {o : Int32} (hf : f_X0_sureOf x1 σ = some o) : cb_M l yX0_sureOf cX0_sureOf 2 (some .int) 1 shC A T D σ [.ref (A 106), .int x1] (some (.int o)) σ := by
  refine cb_met (by decide +kernel) (Nat.le_of_ble_eq_true rfl) ?_
  intro p e s m below meth c C hs ls hl
  have hl : lv_has ls 2 [(0, .ref (A 106)), (1, .int x1)] := hl
  obtain ⟨hx, hb, hml, hr, hown, hts, hK, hlk, hN⟩ := id C
  unfold f_X0_sureOf at hf
  refine lv_iload_n hx hb dX0_sureOf_0 rfl (lv_at hl 1 rfl) ?_
  refine lv_if_lt (tgt := 10) hx hb dX0_sureOf_1 (by decide) (fun cn => ?_) (fun cn => ?_)
  · replace hf := cb_ifp cn hf
    exact w_X0_sureOf_10 C  hf hs (lv_sub hl [0, 1] rfl)
  · replace hf := cb_ifn cn hf
    refine lv_iload_n hx hb dX0_sureOf_4 rfl (lv_at hl 1 rfl) ?_
    refine lv_bipush (v := 6) hx hb dX0_sureOf_5 (by decide) ?_
    refine lv_icmp_lt (tgt := 14) hx hb dX0_sureOf_7 (by decide) (fun cn => ?_) (fun cn => ?_)
    · replace hf := cb_ifp cn hf
      refine lv_aload_n hx hb dX0_sureOf_14 rfl (lv_at hl 0 rfl) ?_
      refine gf_X0_18 C hs rfl dX0_sureOf_15 ?_
      refine lv_iload_n hx hb dX0_sureOf_18 rfl (lv_at hl 1 rfl) ?_
      obtain ⟨hc, hf⟩ := cb_ck_inv hf
      refine cb_iald C hs rfl (vp_in_iff.mpr hc) dX0_sureOf_19 ?_
      have hf := Option.some.inj hf
      subst hf
      exact cb_reti C hs dX0_sureOf_20
    · replace hf := cb_ifn cn hf
      exact w_X0_sureOf_10 C  hf hs (lv_sub hl [0, 1] rfl)
end
