section
variable {p : Program} {l : Launch} {e : Env} {s : State} {m : MethodId} {args : Array Value} {below : List Frame} {meth : Method} {c : Code} {A : Nat → Nat} {T : Nat → ClassId} {D : va_G}
/-! ===== CardBecome$Reader.add ===== -/
def f_X5_add_17 (x1 : Int32) (σ : cb_St) : Option (Int32 × cb_St) := some (0, σ)
set_option maxHeartbeats 4000000 in
set_option maxRecDepth 100000 in
theorem w_X5_add_17 (C : cb_C p s m args meth c cX5_add 2 (some .boolean) RX5 D T) {x1 : Int32} {o : Int32 × cb_St}  {σ : cb_St} (hf : f_X5_add_17 x1 σ = some o) {H : Heap} {locs : List Loc} {ls : Array Slot} (hs : cb_H shC A T D σ s.heap H locs) (hl : lv_has ls 2 [(0, .ref (A 3)), (1, .int x1)]) : cb_W p l e 1 s m args below meth c shC A T D (some (.int o.1)) o.2 H locs (F0 m 17 ls []) := by
  obtain ⟨hx, hb, hml, hr, hown, hts, hK, hlk, hN⟩ := id C
  unfold f_X5_add_17 at hf
  refine lv_iconst (v := 0) hx hb dX5_add_17 (by decide) ?_
  have hf := Option.some.inj hf
  subst hf
  exact cb_retz C hs (Or.inl rfl) dX5_add_18
def f_X5_add (x1 : Int32) (σ : cb_St) : Option (Int32 × cb_St) := if (σ.1 3 3) < 0 then (f_X5_add_17 x1 σ) else (if (σ.1 3 3) < 240 then (cb_ck (0 ≤ Int32.toInt (σ.1 3 3) ∧ Int32.toInt (σ.1 3 3) < 240) (cb_let (cb_sI σ 8 (Int32.toNatClampNeg (σ.1 3 3)) x1) (fun σ_1 => cb_let (cb_sI σ_1 3 3 ((σ_1.1 3 3) + 1)) (fun σ_2 => some (1, σ_2))))) else (f_X5_add_17 x1 σ))
set_option maxHeartbeats 4000000 in
set_option maxRecDepth 100000 in
theorem c_X5_add {x1 : Int32}  {σ : cb_St} {o : Int32 × cb_St} (hf : f_X5_add x1 σ = some o) : cb_M l yX5_add cX5_add 2 (some .boolean) 1 shC A T D σ [.ref (A 3), .int x1] (some (.int o.1)) o.2 := by
  refine cb_met (by decide +kernel) (Nat.le_of_ble_eq_true rfl) ?_
  intro p e s m below meth c C hs ls hl
  have hl : lv_has ls 2 [(0, .ref (A 3)), (1, .int x1)] := hl
  obtain ⟨hx, hb, hml, hr, hown, hts, hK, hlk, hN⟩ := id C
  unfold f_X5_add at hf
  refine lv_aload_n hx hb dX5_add_0 rfl (lv_at hl 0 rfl) ?_
  refine gf_X5_26 C hs rfl dX5_add_1 ?_
  refine lv_if_lt (tgt := 17) hx hb dX5_add_4 (by decide) (fun cn => ?_) (fun cn => ?_)
  · replace hf := cb_ifp cn hf
    exact w_X5_add_17 C  hf hs (lv_sub hl [0, 1] rfl)
  · replace hf := cb_ifn cn hf
    refine lv_aload_n hx hb dX5_add_7 rfl (lv_at hl 0 rfl) ?_
    refine gf_X5_26 C hs rfl dX5_add_8 ?_
    refine lv_sipush (v := 240) hx hb dX5_add_11 (by decide) ?_
    refine lv_icmp_lt (tgt := 19) hx hb dX5_add_14 (by decide) (fun cn => ?_) (fun cn => ?_)
    · replace hf := cb_ifp cn hf
      refine lv_aload_n hx hb dX5_add_19 rfl (lv_at hl 0 rfl) ?_
      refine gf_X5_22 C hs rfl dX5_add_20 ?_
      refine lv_aload_n hx hb dX5_add_23 rfl (lv_at hl 0 rfl) ?_
      refine gf_X5_26 C hs rfl dX5_add_24 ?_
      refine lv_iload_n hx hb dX5_add_27 rfl (lv_at hl 1 rfl) ?_
      obtain ⟨hc, hf⟩ := cb_ck_inv hf
      refine cb_iast C hs rfl (vp_in_iff.mpr hc) dX5_add_28 (fun H locs hs => ?_)
      obtain ⟨σ_1, e9, hf⟩ := cb_let_inv hf
      replace hs := cb_Hc e9 hs
      clear e9
      refine lv_aload_n hx hb dX5_add_29 rfl (lv_at hl 0 rfl) ?_
      refine lv_dup hx hb dX5_add_30 rfl ?_
      refine gf_X5_26 C hs rfl dX5_add_31 ?_
      refine lv_iconst (v := 1) hx hb dX5_add_34 (by decide) ?_
      refine lv_iadd hx hb dX5_add_35 ?_
      refine pf_X5_26 C hs rfl dX5_add_36 (fun H locs hs => ?_)
      obtain ⟨σ_2, e9, hf⟩ := cb_let_inv hf
      replace hs := cb_Hc e9 hs
      clear e9
      refine lv_iconst (v := 1) hx hb dX5_add_39 (by decide) ?_
      have hf := Option.some.inj hf
      subst hf
      exact cb_retz C hs (Or.inr rfl) dX5_add_40
    · replace hf := cb_ifn cn hf
      exact w_X5_add_17 C  hf hs (lv_sub hl [0, 1] rfl)
/-! ===== CardBecome$Reader.fail ===== -/
def f_X5_fail (x1 : Int32) (x2 : Int32) (σ : cb_St) : Option (cb_St) := if (σ.1 3 1) = 0 then (cb_let (cb_sI σ 3 1 x1) (fun σ_1 => cb_let (cb_sI σ_1 3 2 x2) (fun σ_2 => some σ_2))) else (some σ)
set_option maxHeartbeats 4000000 in
set_option maxRecDepth 100000 in
theorem c_X5_fail {x1 : Int32} {x2 : Int32}  {σ : cb_St} {o : cb_St} (hf : f_X5_fail x1 x2 σ = some o) : cb_M l yX5_fail cX5_fail 3 none 1 shC A T D σ [.ref (A 3), .int x1, .int x2] none o := by
  refine cb_met (by decide +kernel) (Nat.le_of_ble_eq_true rfl) ?_
  intro p e s m below meth c C hs ls hl
  have hl : lv_has ls 3 [(0, .ref (A 3)), (1, .int x1), (2, .int x2)] := hl
  obtain ⟨hx, hb, hml, hr, hown, hts, hK, hlk, hN⟩ := id C
  unfold f_X5_fail at hf
  refine lv_aload_n hx hb dX5_fail_0 rfl (lv_at hl 0 rfl) ?_
  refine gf_X5_32 C hs rfl dX5_fail_1 ?_
  refine lv_if_ne (tgt := 17) hx hb dX5_fail_4 (by decide) (fun cn => ?_) (fun cn => ?_)
  · replace hf := cb_ifn cn hf
    have hf := Option.some.inj hf
    subst hf
    exact cb_retv C hs dX5_fail_17
  · replace hf := cb_ifp cn hf
    refine lv_aload_n hx hb dX5_fail_7 rfl (lv_at hl 0 rfl) ?_
    refine lv_iload_n hx hb dX5_fail_8 rfl (lv_at hl 1 rfl) ?_
    refine pf_X5_32 C hs rfl dX5_fail_9 (fun H locs hs => ?_)
    obtain ⟨σ_1, e9, hf⟩ := cb_let_inv hf
    replace hs := cb_Hc e9 hs
    clear e9
    refine lv_aload_n hx hb dX5_fail_12 rfl (lv_at hl 0 rfl) ?_
    refine lv_iload_n hx hb dX5_fail_13 rfl (lv_at hl 2 rfl) ?_
    refine pf_X5_18 C hs rfl dX5_fail_14 (fun H locs hs => ?_)
    obtain ⟨σ_2, e9, hf⟩ := cb_let_inv hf
    replace hs := cb_Hc e9 hs
    clear e9
    have hf := Option.some.inj hf
    subst hf
    exact cb_retv C hs dX5_fail_17
/-! ===== CardBecome$Reader.isFigure ===== -/
def f_X5_isFigure_16 (x1 : Int32) (σ : cb_St)  : Option (Int32) := some 0
set_option maxHeartbeats 4000000 in
set_option maxRecDepth 100000 in
theorem w_X5_isFigure_16 (C : cb_C p s m args meth c cX5_isFigure 2 (some .boolean) RX5 D T) {x1 : Int32} {σ : cb_St} {o : Int32}   (hf : f_X5_isFigure_16 x1 σ = some o) {H : Heap} {locs : List Loc} {ls : Array Slot} (hs : cb_H shC A T D σ s.heap H locs) (hl : lv_has ls 2 [(0, .ref (A 3)), (1, .int x1)]) : cb_W p l e 1 s m args below meth c shC A T D (some (.int o)) σ H locs (F0 m 16 ls []) := by
  obtain ⟨hx, hb, hml, hr, hown, hts, hK, hlk, hN⟩ := id C
  unfold f_X5_isFigure_16 at hf
  refine lv_iconst (v := 0) hx hb dX5_isFigure_16 (by decide) ?_
  have hf := Option.some.inj hf
  subst hf
  exact cb_retz C hs (Or.inl rfl) dX5_isFigure_17
def f_X5_isFigure (x1 : Int32) (σ : cb_St)  : Option (Int32) := if x1 < 48 then (f_X5_isFigure_16 x1 σ) else (if 57 < x1 then (f_X5_isFigure_16 x1 σ) else (some 1))
set_option maxHeartbeats 4000000 in
set_option maxRecDepth 100000 in
theorem c_X5_isFigure {x1 : Int32} {σ : cb_St}   {o : Int32} (hf : f_X5_isFigure x1 σ = some o) : cb_M l yX5_isFigure cX5_isFigure 2 (some .boolean) 1 shC A T D σ [.ref (A 3), .int x1] (some (.int o)) σ := by
  refine cb_met (by decide +kernel) (Nat.le_of_ble_eq_true rfl) ?_
  intro p e s m below meth c C hs ls hl
  have hl : lv_has ls 2 [(0, .ref (A 3)), (1, .int x1)] := hl
  obtain ⟨hx, hb, hml, hr, hown, hts, hK, hlk, hN⟩ := id C
  unfold f_X5_isFigure at hf
  refine lv_iload_n hx hb dX5_isFigure_0 rfl (lv_at hl 1 rfl) ?_
  refine lv_bipush (v := 48) hx hb dX5_isFigure_1 (by decide) ?_
  refine lv_icmp_lt (tgt := 16) hx hb dX5_isFigure_3 (by decide) (fun cn => ?_) (fun cn => ?_)
  · replace hf := cb_ifp cn hf
    exact w_X5_isFigure_16 C  hf hs (lv_sub hl [0, 1] rfl)
  · replace hf := cb_ifn cn hf
    refine lv_iload_n hx hb dX5_isFigure_6 rfl (lv_at hl 1 rfl) ?_
    refine lv_bipush (v := 57) hx hb dX5_isFigure_7 (by decide) ?_
    refine lv_icmp_gt (tgt := 16) hx hb dX5_isFigure_9 (by decide) (fun cn => ?_) (fun cn => ?_)
    · replace hf := cb_ifp cn hf
      exact w_X5_isFigure_16 C  hf hs (lv_sub hl [0, 1] rfl)
    · replace hf := cb_ifn cn hf
      refine lv_iconst (v := 1) hx hb dX5_isFigure_12 (by decide) ?_
      refine lv_goto (tgt := 17) hx hb dX5_isFigure_13 (by decide) ?_
      have hf := Option.some.inj hf
      subst hf
      exact cb_retz C hs (Or.inr rfl) dX5_isFigure_17
/-! ===== CardBecome$Reader.letterAt ===== -/
def f_X5_letterAt_19 (x1 : Int32) (σ : cb_St)  : Option (Int32) := some (-1)
set_option maxHeartbeats 4000000 in
set_option maxRecDepth 100000 in
theorem w_X5_letterAt_19 (C : cb_C p s m args meth c cX5_letterAt 2 (some .int) RX5 D T) {x1 : Int32} {σ : cb_St} {o : Int32}   (hf : f_X5_letterAt_19 x1 σ = some o) {H : Heap} {locs : List Loc} {ls : Array Slot} (hs : cb_H shC A T D σ s.heap H locs) (hl : lv_has ls 2 [(0, .ref (A 3)), (1, .int x1)]) : cb_W p l e 1 s m args below meth c shC A T D (some (.int o)) σ H locs (F0 m 19 ls []) := by
  obtain ⟨hx, hb, hml, hr, hown, hts, hK, hlk, hN⟩ := id C
  unfold f_X5_letterAt_19 at hf
  refine lv_iconst (v := (-1)) hx hb dX5_letterAt_19 (by decide) ?_
  refine lv_goto (tgt := 29) hx hb dX5_letterAt_20 (by decide) ?_
  have hf := Option.some.inj hf
  subst hf
  exact cb_reti C hs dX5_letterAt_29
def f_X5_letterAt (x1 : Int32) (σ : cb_St)  : Option (Int32) := if x1 < 0 then (f_X5_letterAt_19 x1 σ) else (if (σ.1 3 3) ≤ x1 then (f_X5_letterAt_19 x1 σ) else (if x1 < 240 then (cb_ck (0 ≤ Int32.toInt x1 ∧ Int32.toInt x1 < 240) (some (σ.1 8 (Int32.toNatClampNeg x1)))) else (f_X5_letterAt_19 x1 σ)))
set_option maxHeartbeats 4000000 in
set_option maxRecDepth 100000 in
theorem c_X5_letterAt {x1 : Int32} {σ : cb_St}   {o : Int32} (hf : f_X5_letterAt x1 σ = some o) : cb_M l yX5_letterAt cX5_letterAt 2 (some .int) 1 shC A T D σ [.ref (A 3), .int x1] (some (.int o)) σ := by
  refine cb_met (by decide +kernel) (Nat.le_of_ble_eq_true rfl) ?_
  intro p e s m below meth c C hs ls hl
  have hl : lv_has ls 2 [(0, .ref (A 3)), (1, .int x1)] := hl
  obtain ⟨hx, hb, hml, hr, hown, hts, hK, hlk, hN⟩ := id C
  unfold f_X5_letterAt at hf
  refine lv_iload_n hx hb dX5_letterAt_0 rfl (lv_at hl 1 rfl) ?_
  refine lv_if_lt (tgt := 19) hx hb dX5_letterAt_1 (by decide) (fun cn => ?_) (fun cn => ?_)
  · replace hf := cb_ifp cn hf
    exact w_X5_letterAt_19 C  hf hs (lv_sub hl [0, 1] rfl)
  · replace hf := cb_ifn cn hf
    refine lv_iload_n hx hb dX5_letterAt_4 rfl (lv_at hl 1 rfl) ?_
    refine lv_aload_n hx hb dX5_letterAt_5 rfl (lv_at hl 0 rfl) ?_
    refine gf_X5_26 C hs rfl dX5_letterAt_6 ?_
    refine lv_icmp_ge (tgt := 19) hx hb dX5_letterAt_9 (by decide) (fun cn => ?_) (fun cn => ?_)
    · replace hf := cb_ifp cn hf
      exact w_X5_letterAt_19 C  hf hs (lv_sub hl [0, 1] rfl)
    · replace hf := cb_ifn cn hf
      refine lv_iload_n hx hb dX5_letterAt_12 rfl (lv_at hl 1 rfl) ?_
      refine lv_sipush (v := 240) hx hb dX5_letterAt_13 (by decide) ?_
      refine lv_icmp_lt (tgt := 23) hx hb dX5_letterAt_16 (by decide) (fun cn => ?_) (fun cn => ?_)
      · replace hf := cb_ifp cn hf
        refine lv_aload_n hx hb dX5_letterAt_23 rfl (lv_at hl 0 rfl) ?_
        refine gf_X5_22 C hs rfl dX5_letterAt_24 ?_
        refine lv_iload_n hx hb dX5_letterAt_27 rfl (lv_at hl 1 rfl) ?_
        obtain ⟨hc, hf⟩ := cb_ck_inv hf
        refine cb_iald C hs rfl (vp_in_iff.mpr hc) dX5_letterAt_28 ?_
        have hf := Option.some.inj hf
        subst hf
        exact cb_reti C hs dX5_letterAt_29
      · replace hf := cb_ifn cn hf
        exact w_X5_letterAt_19 C  hf hs (lv_sub hl [0, 1] rfl)
/-! ===== CardBecome$Reader.skipBlanks ===== -/
def f_X5_skipBlanks_0  : Nat → cb_St → Option (cb_St)
  | 0, _ => none
  | fu + 1, σ => if (σ.1 3 3) ≤ (σ.1 3 5) then (some σ) else (cb_bp (f_X5_letterAt (σ.1 3 5) σ) (fun r_1 => if r_1 = 32 then (cb_let (cb_sI σ 3 5 ((σ.1 3 5) + 1)) (fun σ_2 => f_X5_skipBlanks_0 fu σ_2)) else (some σ)))
set_option maxHeartbeats 4000000 in
set_option maxRecDepth 100000 in
theorem w_X5_skipBlanks_0 (C : cb_C p s m args meth c cX5_skipBlanks 1 none RX5 D T)  {o : cb_St}  : ∀ (fu : Nat) (σ : cb_St), f_X5_skipBlanks_0 fu σ = some o → ∀ (H : Heap) (locs : List Loc) (ls : Array Slot), cb_H shC A T D σ s.heap H locs → lv_has ls 1 [(0, .ref (A 3))] → cb_W p l e 2 s m args below meth c shC A T D none o H locs (F0 m 0 ls []) := by
  obtain ⟨hx, hb, hml, hr, hown, hts, hK, hlk, hN⟩ := id C
  intro fu
  induction fu with
  | zero =>
    intro σ hf
    rw [f_X5_skipBlanks_0] at hf
    cases hf
  | succ fu ih =>
    intro σ hf H locs ls hs hl
    rw [f_X5_skipBlanks_0] at hf
    refine lv_aload_n hx hb dX5_skipBlanks_0 rfl (lv_at hl 0 rfl) ?_
    refine gf_X5_29 C hs rfl dX5_skipBlanks_1 ?_
    refine lv_aload_n hx hb dX5_skipBlanks_4 rfl (lv_at hl 0 rfl) ?_
    refine gf_X5_26 C hs rfl dX5_skipBlanks_5 ?_
    refine lv_icmp_ge (tgt := 37) hx hb dX5_skipBlanks_8 (by decide) (fun cn => ?_) (fun cn => ?_)
    · replace hf := cb_ifp cn hf
      have hf := Option.some.inj hf
      subst hf
      exact cb_retv C hs dX5_skipBlanks_37
    · replace hf := cb_ifn cn hf
      refine lv_aload_n hx hb dX5_skipBlanks_11 rfl (lv_at hl 0 rfl) ?_
      refine lv_aload_n hx hb dX5_skipBlanks_12 rfl (lv_at hl 0 rfl) ?_
      refine gf_X5_29 C hs rfl dX5_skipBlanks_13 ?_
      obtain ⟨r_1, hc, hf⟩ := cb_bp_inv hf
      refine cb_callVi C (c_X5_letterAt  hc) mw_X5_letterAt ml_X5_71 rfl ⟨Nat.le_of_ble_eq_true rfl, Nat.le_of_ble_eq_true rfl⟩ rfl (Nat.le_of_ble_eq_true rfl) rfl hs hl rfl (Nat.le_of_ble_eq_true rfl) dX5_skipBlanks_16 (fun H locs hs => ?_)
      clear hc
      refine lv_bipush (v := 32) hx hb dX5_skipBlanks_19 (by decide) ?_
      refine lv_icmp_ne (tgt := 37) hx hb dX5_skipBlanks_21 (by decide) (fun cn => ?_) (fun cn => ?_)
      · replace hf := cb_ifn cn hf
        have hf := Option.some.inj hf
        subst hf
        exact cb_retv C hs dX5_skipBlanks_37
      · replace hf := cb_ifp cn hf
        refine lv_aload_n hx hb dX5_skipBlanks_24 rfl (lv_at hl 0 rfl) ?_
        refine lv_dup hx hb dX5_skipBlanks_25 rfl ?_
        refine gf_X5_29 C hs rfl dX5_skipBlanks_26 ?_
        refine lv_iconst (v := 1) hx hb dX5_skipBlanks_29 (by decide) ?_
        refine lv_iadd hx hb dX5_skipBlanks_30 ?_
        refine pf_X5_29 C hs rfl dX5_skipBlanks_31 (fun H locs hs => ?_)
        obtain ⟨σ_2, e9, hf⟩ := cb_let_inv hf
        replace hs := cb_Hc e9 hs
        clear e9
        refine lv_goto (tgt := 0) hx hb dX5_skipBlanks_34 (by decide) ?_
        exact ih _ hf _ _ _ hs (lv_sub hl [0] rfl)
def f_X5_skipBlanks  (σ : cb_St) : Option (cb_St) := if (σ.1 3 3) ≤ (σ.1 3 5) then (some σ) else (cb_bp (f_X5_letterAt (σ.1 3 5) σ) (fun r_1 => if r_1 = 32 then (cb_let (cb_sI σ 3 5 ((σ.1 3 5) + 1)) (fun σ_2 => f_X5_skipBlanks_0 cb_fu σ_2)) else (some σ)))
set_option maxHeartbeats 4000000 in
set_option maxRecDepth 100000 in
theorem c_X5_skipBlanks   {σ : cb_St} {o : cb_St} (hf : f_X5_skipBlanks σ = some o) : cb_M l yX5_skipBlanks cX5_skipBlanks 1 none 2 shC A T D σ [.ref (A 3)] none o := by
  refine cb_met (by decide +kernel) (Nat.le_of_ble_eq_true rfl) ?_
  intro p e s m below meth c C hs ls hl
  have hl : lv_has ls 1 [(0, .ref (A 3))] := hl
  obtain ⟨hx, hb, hml, hr, hown, hts, hK, hlk, hN⟩ := id C
  unfold f_X5_skipBlanks at hf
  refine lv_aload_n hx hb dX5_skipBlanks_0 rfl (lv_at hl 0 rfl) ?_
  refine gf_X5_29 C hs rfl dX5_skipBlanks_1 ?_
  refine lv_aload_n hx hb dX5_skipBlanks_4 rfl (lv_at hl 0 rfl) ?_
  refine gf_X5_26 C hs rfl dX5_skipBlanks_5 ?_
  refine lv_icmp_ge (tgt := 37) hx hb dX5_skipBlanks_8 (by decide) (fun cn => ?_) (fun cn => ?_)
  · replace hf := cb_ifp cn hf
    have hf := Option.some.inj hf
    subst hf
    exact cb_retv C hs dX5_skipBlanks_37
  · replace hf := cb_ifn cn hf
    refine lv_aload_n hx hb dX5_skipBlanks_11 rfl (lv_at hl 0 rfl) ?_
    refine lv_aload_n hx hb dX5_skipBlanks_12 rfl (lv_at hl 0 rfl) ?_
    refine gf_X5_29 C hs rfl dX5_skipBlanks_13 ?_
    obtain ⟨r_1, hc, hf⟩ := cb_bp_inv hf
    refine cb_callVi C (c_X5_letterAt  hc) mw_X5_letterAt ml_X5_71 rfl ⟨Nat.le_of_ble_eq_true rfl, Nat.le_of_ble_eq_true rfl⟩ rfl (Nat.le_of_ble_eq_true rfl) rfl hs hl rfl (Nat.le_of_ble_eq_true rfl) dX5_skipBlanks_16 (fun H locs hs => ?_)
    clear hc
    refine lv_bipush (v := 32) hx hb dX5_skipBlanks_19 (by decide) ?_
    refine lv_icmp_ne (tgt := 37) hx hb dX5_skipBlanks_21 (by decide) (fun cn => ?_) (fun cn => ?_)
    · replace hf := cb_ifn cn hf
      have hf := Option.some.inj hf
      subst hf
      exact cb_retv C hs dX5_skipBlanks_37
    · replace hf := cb_ifp cn hf
      refine lv_aload_n hx hb dX5_skipBlanks_24 rfl (lv_at hl 0 rfl) ?_
      refine lv_dup hx hb dX5_skipBlanks_25 rfl ?_
      refine gf_X5_29 C hs rfl dX5_skipBlanks_26 ?_
      refine lv_iconst (v := 1) hx hb dX5_skipBlanks_29 (by decide) ?_
      refine lv_iadd hx hb dX5_skipBlanks_30 ?_
      refine pf_X5_29 C hs rfl dX5_skipBlanks_31 (fun H locs hs => ?_)
      obtain ⟨σ_2, e9, hf⟩ := cb_let_inv hf
      replace hs := cb_Hc e9 hs
      clear e9
      refine lv_goto (tgt := 0) hx hb dX5_skipBlanks_34 (by decide) ?_
      exact w_X5_skipBlanks_0 C  cb_fu _ hf _ _ _ hs (lv_sub hl [0] rfl)
/-! ===== CardBecome$Reader.number ===== -/
def f_X5_number_125 (x1 : Int32) (x2 : Int32) (σ : cb_St) (x4 : Int32) : Option (Int32 × cb_St) := some (x4, σ)
set_option maxHeartbeats 4000000 in
set_option maxRecDepth 100000 in
theorem w_X5_number_125 (C : cb_C p s m args meth c cX5_number 5 (some .int) RX5 D T) {x1 : Int32} {x2 : Int32} {o : Int32 × cb_St}  {σ : cb_St} {x4 : Int32} (hf : f_X5_number_125 x1 x2 σ x4 = some o) {H : Heap} {locs : List Loc} {ls : Array Slot} (hs : cb_H shC A T D σ s.heap H locs) (hl : lv_has ls 5 [(0, .ref (A 3)), (1, .int x1), (2, .int x2), (4, .int x4)]) : cb_W p l e 3 s m args below meth c shC A T D (some (.int o.1)) o.2 H locs (F0 m 125 ls []) := by
  obtain ⟨hx, hb, hml, hr, hown, hts, hK, hlk, hN⟩ := id C
  unfold f_X5_number_125 at hf
  refine lv_iload hx hb dX5_number_125 (lv_at hl 3 rfl) ?_
  have hf := Option.some.inj hf
  subst hf
  exact cb_reti C hs dX5_number_127
def f_X5_number_119 (x1 : Int32) (x2 : Int32) (σ : cb_St) (x3 : Int32) (x4 : Int32) : Option (Int32 × cb_St) := cb_bv (f_X5_fail 2 x3 σ) (fun σ_1 => f_X5_number_125 x1 x2 σ_1 x4)
set_option maxHeartbeats 4000000 in
set_option maxRecDepth 100000 in
theorem w_X5_number_119 (C : cb_C p s m args meth c cX5_number 5 (some .int) RX5 D T) {x1 : Int32} {x2 : Int32} {o : Int32 × cb_St}  {σ : cb_St} {x3 : Int32} {x4 : Int32} (hf : f_X5_number_119 x1 x2 σ x3 x4 = some o) {H : Heap} {locs : List Loc} {ls : Array Slot} (hs : cb_H shC A T D σ s.heap H locs) (hl : lv_has ls 5 [(0, .ref (A 3)), (1, .int x1), (2, .int x2), (3, .int x3), (4, .int x4)]) : cb_W p l e 3 s m args below meth c shC A T D (some (.int o.1)) o.2 H locs (F0 m 119 ls []) := by
  obtain ⟨hx, hb, hml, hr, hown, hts, hK, hlk, hN⟩ := id C
  unfold f_X5_number_119 at hf
  refine lv_aload_n hx hb dX5_number_119 rfl (lv_at hl 0 rfl) ?_
  refine lv_iconst (v := 2) hx hb dX5_number_120 (by decide) ?_
  refine lv_iload_n hx hb dX5_number_121 rfl (lv_at hl 3 rfl) ?_
  obtain ⟨σ_1, hc, hf⟩ := cb_bv_inv hf
  refine cb_callVv C (c_X5_fail  hc) mw_X5_fail ml_X5_81 rfl ⟨Nat.le_of_ble_eq_true rfl, Nat.le_of_ble_eq_true rfl⟩ rfl (Nat.le_of_ble_eq_true rfl) rfl hs hl rfl (Nat.le_of_ble_eq_true rfl) dX5_number_122 (fun H locs hs => ?_)
  clear hc
  exact w_X5_number_125 C  hf hs (lv_sub hl [0, 1, 2, 4] rfl)
def f_X5_number_80 (x1 : Int32) (x2 : Int32) (σ : cb_St) (x3 : Int32) (x4 : Int32) : Option (Int32 × cb_St) := if (σ.1 3 5) = x3 then (cb_bv (f_X5_fail 1 x3 σ) (fun σ_1 => f_X5_number_125 x1 x2 σ_1 x4)) else (if 3 < ((σ.1 3 5) - x3) then (f_X5_number_119 x1 x2 σ x3 x4) else (if x4 < x1 then (f_X5_number_119 x1 x2 σ x3 x4) else (if x4 ≤ x2 then (f_X5_number_125 x1 x2 σ x4) else (f_X5_number_119 x1 x2 σ x3 x4))))
set_option maxHeartbeats 4000000 in
set_option maxRecDepth 100000 in
theorem w_X5_number_80 (C : cb_C p s m args meth c cX5_number 5 (some .int) RX5 D T) {x1 : Int32} {x2 : Int32} {o : Int32 × cb_St}  {σ : cb_St} {x3 : Int32} {x4 : Int32} (hf : f_X5_number_80 x1 x2 σ x3 x4 = some o) {H : Heap} {locs : List Loc} {ls : Array Slot} (hs : cb_H shC A T D σ s.heap H locs) (hl : lv_has ls 5 [(0, .ref (A 3)), (1, .int x1), (2, .int x2), (3, .int x3), (4, .int x4)]) : cb_W p l e 3 s m args below meth c shC A T D (some (.int o.1)) o.2 H locs (F0 m 80 ls []) := by
  obtain ⟨hx, hb, hml, hr, hown, hts, hK, hlk, hN⟩ := id C
  unfold f_X5_number_80 at hf
  refine lv_aload_n hx hb dX5_number_80 rfl (lv_at hl 0 rfl) ?_
  refine gf_X5_29 C hs rfl dX5_number_81 ?_
  refine lv_iload_n hx hb dX5_number_84 rfl (lv_at hl 3 rfl) ?_
  refine lv_icmp_ne (tgt := 97) hx hb dX5_number_85 (by decide) (fun cn => ?_) (fun cn => ?_)
  · replace hf := cb_ifn cn hf
    refine lv_aload_n hx hb dX5_number_97 rfl (lv_at hl 0 rfl) ?_
    refine gf_X5_29 C hs rfl dX5_number_98 ?_
    refine lv_iload_n hx hb dX5_number_101 rfl (lv_at hl 3 rfl) ?_
    refine lv_isub hx hb dX5_number_102 ?_
    refine lv_iconst (v := 3) hx hb dX5_number_103 (by decide) ?_
    refine lv_icmp_gt (tgt := 119) hx hb dX5_number_104 (by decide) (fun cn => ?_) (fun cn => ?_)
    · replace hf := cb_ifp cn hf
      exact w_X5_number_119 C  hf hs (lv_sub hl [0, 1, 2, 3, 4] rfl)
    · replace hf := cb_ifn cn hf
      refine lv_iload hx hb dX5_number_107 (lv_at hl 4 rfl) ?_
      refine lv_iload_n hx hb dX5_number_109 rfl (lv_at hl 1 rfl) ?_
      refine lv_icmp_lt (tgt := 119) hx hb dX5_number_110 (by decide) (fun cn => ?_) (fun cn => ?_)
      · replace hf := cb_ifp cn hf
        exact w_X5_number_119 C  hf hs (lv_sub hl [0, 1, 2, 3, 4] rfl)
      · replace hf := cb_ifn cn hf
        refine lv_iload hx hb dX5_number_113 (lv_at hl 4 rfl) ?_
        refine lv_iload_n hx hb dX5_number_115 rfl (lv_at hl 2 rfl) ?_
        refine lv_icmp_le (tgt := 125) hx hb dX5_number_116 (by decide) (fun cn => ?_) (fun cn => ?_)
        · replace hf := cb_ifp cn hf
          exact w_X5_number_125 C  hf hs (lv_sub hl [0, 1, 2, 4] rfl)
        · replace hf := cb_ifn cn hf
          exact w_X5_number_119 C  hf hs (lv_sub hl [0, 1, 2, 3, 4] rfl)
  · replace hf := cb_ifp cn hf
    refine lv_aload_n hx hb dX5_number_88 rfl (lv_at hl 0 rfl) ?_
    refine lv_iconst (v := 1) hx hb dX5_number_89 (by decide) ?_
    refine lv_iload_n hx hb dX5_number_90 rfl (lv_at hl 3 rfl) ?_
    obtain ⟨σ_1, hc, hf⟩ := cb_bv_inv hf
    refine cb_callVv C (c_X5_fail  hc) mw_X5_fail ml_X5_81 rfl ⟨Nat.le_of_ble_eq_true rfl, Nat.le_of_ble_eq_true rfl⟩ rfl (Nat.le_of_ble_eq_true rfl) rfl hs hl rfl (Nat.le_of_ble_eq_true rfl) dX5_number_91 (fun H locs hs => ?_)
    clear hc
    refine lv_goto (tgt := 125) hx hb dX5_number_94 (by decide) ?_
    exact w_X5_number_125 C  hf hs (lv_sub hl [0, 1, 2, 4] rfl)
def f_X5_number_67 (K12 : cb_St → Int32 → Int32 → Option (Int32 × cb_St)) (x1 : Int32) (x2 : Int32) (σ : cb_St) (x3 : Int32) (x4 : Int32) : Option (Int32 × cb_St) := cb_let (cb_sI σ 3 5 ((σ.1 3 5) + 1)) (fun σ_1 => K12 σ_1 x3 x4)
set_option maxHeartbeats 4000000 in
set_option maxRecDepth 100000 in
theorem w_X5_number_67 (C : cb_C p s m args meth c cX5_number 5 (some .int) RX5 D T) {K12 : cb_St → Int32 → Int32 → Option (Int32 × cb_St)} {x1 : Int32} {x2 : Int32} {o : Int32 × cb_St} (hK12 : ∀ (σ : cb_St) (x3 : Int32) (x4 : Int32), K12 σ x3 x4 = some o → ∀ (H : Heap) (locs : List Loc) (ls : Array Slot), cb_H shC A T D σ s.heap H locs → lv_has ls 5 [(0, .ref (A 3)), (1, .int x1), (2, .int x2), (3, .int x3), (4, .int x4)] → cb_W p l e 3 s m args below meth c shC A T D (some (.int o.1)) o.2 H locs (F0 m 12 ls [])) {σ : cb_St} {x3 : Int32} {x4 : Int32} (hf : f_X5_number_67 K12 x1 x2 σ x3 x4 = some o) {H : Heap} {locs : List Loc} {ls : Array Slot} (hs : cb_H shC A T D σ s.heap H locs) (hl : lv_has ls 5 [(0, .ref (A 3)), (1, .int x1), (2, .int x2), (3, .int x3), (4, .int x4)]) : cb_W p l e 3 s m args below meth c shC A T D (some (.int o.1)) o.2 H locs (F0 m 67 ls []) := by
  obtain ⟨hx, hb, hml, hr, hown, hts, hK, hlk, hN⟩ := id C
  unfold f_X5_number_67 at hf
  refine lv_aload_n hx hb dX5_number_67 rfl (lv_at hl 0 rfl) ?_
  refine lv_dup hx hb dX5_number_68 rfl ?_
  refine gf_X5_29 C hs rfl dX5_number_69 ?_
  refine lv_iconst (v := 1) hx hb dX5_number_72 (by decide) ?_
  refine lv_iadd hx hb dX5_number_73 ?_
  refine pf_X5_29 C hs rfl dX5_number_74 (fun H locs hs => ?_)
  obtain ⟨σ_1, e9, hf⟩ := cb_let_inv hf
  replace hs := cb_Hc e9 hs
  clear e9
  refine lv_goto (tgt := 12) hx hb dX5_number_77 (by decide) ?_
  exact hK12 _ _ _ hf _ _ _ hs (lv_sub hl [0, 1, 2, 3, 4] rfl)
def f_X5_number_12 (x1 : Int32) (x2 : Int32) : Nat → cb_St → Int32 → Int32 → Option (Int32 × cb_St)
  | 0, _, _, _ => none
  | fu + 1, σ, x3, x4 => if (σ.1 3 3) ≤ (σ.1 3 5) then (f_X5_number_80 x1 x2 σ x3 x4) else (cb_bp (f_X5_letterAt (σ.1 3 5) σ) (fun r_1 => cb_bp (f_X5_isFigure r_1 σ) (fun r_2 => if r_2 = 0 then (f_X5_number_80 x1 x2 σ x3 x4) else (if 3 ≤ ((σ.1 3 5) - x3) then (f_X5_number_67 (f_X5_number_12 x1 x2 fu) x1 x2 σ x3 x4) else (cb_bp (f_X5_letterAt (σ.1 3 5) σ) (fun r_3 => cb_let (((10 * x4) + r_3) - 48) (fun x4_3 => f_X5_number_67 (f_X5_number_12 x1 x2 fu) x1 x2 σ x3 x4_3)))))))
set_option maxHeartbeats 4000000 in
set_option maxRecDepth 100000 in
theorem w_X5_number_12 (C : cb_C p s m args meth c cX5_number 5 (some .int) RX5 D T) {x1 : Int32} {x2 : Int32} {o : Int32 × cb_St}  : ∀ (fu : Nat) (σ : cb_St) (x3 : Int32) (x4 : Int32), f_X5_number_12 x1 x2 fu σ x3 x4 = some o → ∀ (H : Heap) (locs : List Loc) (ls : Array Slot), cb_H shC A T D σ s.heap H locs → lv_has ls 5 [(0, .ref (A 3)), (1, .int x1), (2, .int x2), (3, .int x3), (4, .int x4)] → cb_W p l e 3 s m args below meth c shC A T D (some (.int o.1)) o.2 H locs (F0 m 12 ls []) := by
  obtain ⟨hx, hb, hml, hr, hown, hts, hK, hlk, hN⟩ := id C
  intro fu
  induction fu with
  | zero =>
    intro σ x3 x4 hf
    rw [f_X5_number_12] at hf
    cases hf
  | succ fu ih =>
    intro σ x3 x4 hf H locs ls hs hl
    rw [f_X5_number_12] at hf
    refine lv_aload_n hx hb dX5_number_12 rfl (lv_at hl 0 rfl) ?_
    refine gf_X5_29 C hs rfl dX5_number_13 ?_
    refine lv_aload_n hx hb dX5_number_16 rfl (lv_at hl 0 rfl) ?_
    refine gf_X5_26 C hs rfl dX5_number_17 ?_
    refine lv_icmp_ge (tgt := 80) hx hb dX5_number_20 (by decide) (fun cn => ?_) (fun cn => ?_)
    · replace hf := cb_ifp cn hf
      exact w_X5_number_80 C  hf hs (lv_sub hl [0, 1, 2, 3, 4] rfl)
    · replace hf := cb_ifn cn hf
      refine lv_aload_n hx hb dX5_number_23 rfl (lv_at hl 0 rfl) ?_
      refine lv_aload_n hx hb dX5_number_24 rfl (lv_at hl 0 rfl) ?_
      refine lv_aload_n hx hb dX5_number_25 rfl (lv_at hl 0 rfl) ?_
      refine gf_X5_29 C hs rfl dX5_number_26 ?_
      obtain ⟨r_1, hc, hf⟩ := cb_bp_inv hf
      refine cb_callVi C (c_X5_letterAt  hc) mw_X5_letterAt ml_X5_71 rfl ⟨Nat.le_of_ble_eq_true rfl, Nat.le_of_ble_eq_true rfl⟩ rfl (Nat.le_of_ble_eq_true rfl) rfl hs hl rfl (Nat.le_of_ble_eq_true rfl) dX5_number_29 (fun H locs hs => ?_)
      clear hc
      obtain ⟨r_2, hc, hf⟩ := cb_bp_inv hf
      refine cb_callVi C (c_X5_isFigure  hc) mw_X5_isFigure ml_X5_101 rfl ⟨Nat.le_of_ble_eq_true rfl, Nat.le_of_ble_eq_true rfl⟩ rfl (Nat.le_of_ble_eq_true rfl) rfl hs hl rfl (Nat.le_of_ble_eq_true rfl) dX5_number_32 (fun H locs hs => ?_)
      clear hc
      refine lv_if_eq (tgt := 80) hx hb dX5_number_35 (by decide) (fun cn => ?_) (fun cn => ?_)
      · replace hf := cb_ifp cn hf
        exact w_X5_number_80 C  hf hs (lv_sub hl [0, 1, 2, 3, 4] rfl)
      · replace hf := cb_ifn cn hf
        refine lv_aload_n hx hb dX5_number_38 rfl (lv_at hl 0 rfl) ?_
        refine gf_X5_29 C hs rfl dX5_number_39 ?_
        refine lv_iload_n hx hb dX5_number_42 rfl (lv_at hl 3 rfl) ?_
        refine lv_isub hx hb dX5_number_43 ?_
        refine lv_iconst (v := 3) hx hb dX5_number_44 (by decide) ?_
        refine lv_icmp_ge (tgt := 67) hx hb dX5_number_45 (by decide) (fun cn => ?_) (fun cn => ?_)
        · replace hf := cb_ifp cn hf
          exact w_X5_number_67 C ih hf hs (lv_sub hl [0, 1, 2, 3, 4] rfl)
        · replace hf := cb_ifn cn hf
          refine lv_bipush (v := 10) hx hb dX5_number_48 (by decide) ?_
          refine lv_iload hx hb dX5_number_50 (lv_at hl 4 rfl) ?_
          refine lv_imul hx hb dX5_number_52 ?_
          refine lv_aload_n hx hb dX5_number_53 rfl (lv_at hl 0 rfl) ?_
          refine lv_aload_n hx hb dX5_number_54 rfl (lv_at hl 0 rfl) ?_
          refine gf_X5_29 C hs rfl dX5_number_55 ?_
          obtain ⟨r_3, hc, hf⟩ := cb_bp_inv hf
          refine cb_callVi C (c_X5_letterAt  hc) mw_X5_letterAt ml_X5_71 rfl ⟨Nat.le_of_ble_eq_true rfl, Nat.le_of_ble_eq_true rfl⟩ rfl (Nat.le_of_ble_eq_true rfl) rfl hs hl rfl (Nat.le_of_ble_eq_true rfl) dX5_number_58 (fun H locs hs => ?_)
          clear hc
          refine lv_iadd hx hb dX5_number_61 ?_
          refine lv_bipush (v := 48) hx hb dX5_number_62 (by decide) ?_
          refine lv_isub hx hb dX5_number_64 ?_
          obtain ⟨x4_3, e9, hf⟩ := cb_let_inv hf
          refine cb_topi e9 ?_
          clear e9
          refine lv_istore (lv' := [(4, .int x4_3), (0, .ref (A 3)), (1, .int x1), (2, .int x2), (3, .int x3)]) hx hb dX5_number_65 hl (by decide) rfl (fun ls hl => ?_)
          exact w_X5_number_67 C ih hf hs (lv_sub hl [1, 2, 3, 4, 0] rfl)
def f_X5_number (x1 : Int32) (x2 : Int32) (σ : cb_St) : Option (Int32 × cb_St) := cb_bv (f_X5_skipBlanks σ) (fun σ_1 => cb_let (σ_1.1 3 5) (fun x3_1 => f_X5_number_12 x1 x2 cb_fu σ_1 x3_1 0))
set_option maxHeartbeats 4000000 in
set_option maxRecDepth 100000 in
theorem c_X5_number {x1 : Int32} {x2 : Int32}  {σ : cb_St} {o : Int32 × cb_St} (hf : f_X5_number x1 x2 σ = some o) : cb_M l yX5_number cX5_number 5 (some .int) 3 shC A T D σ [.ref (A 3), .int x1, .int x2] (some (.int o.1)) o.2 := by
  refine cb_met (by decide +kernel) (Nat.le_of_ble_eq_true rfl) ?_
  intro p e s m below meth c C hs ls hl
  have hl : lv_has ls 5 [(0, .ref (A 3)), (1, .int x1), (2, .int x2)] := hl
  obtain ⟨hx, hb, hml, hr, hown, hts, hK, hlk, hN⟩ := id C
  unfold f_X5_number at hf
  refine lv_aload_n hx hb dX5_number_0 rfl (lv_at hl 0 rfl) ?_
  obtain ⟨σ_1, hc, hf⟩ := cb_bv_inv hf
  refine cb_callVv C (c_X5_skipBlanks  hc) mw_X5_skipBlanks ml_X5_38 rfl ⟨Nat.le_of_ble_eq_true rfl, Nat.le_of_ble_eq_true rfl⟩ rfl (Nat.le_of_ble_eq_true rfl) rfl hs hl rfl (Nat.le_of_ble_eq_true rfl) dX5_number_1 (fun H locs hs => ?_)
  clear hc
  refine lv_aload_n hx hb dX5_number_4 rfl (lv_at hl 0 rfl) ?_
  refine gf_X5_29 C hs rfl dX5_number_5 ?_
  obtain ⟨x3_1, e9, hf⟩ := cb_let_inv hf
  refine cb_topi e9 ?_
  clear e9
  refine lv_istore_n (lv' := [(3, .int x3_1), (0, .ref (A 3)), (1, .int x1), (2, .int x2)]) hx hb dX5_number_8 rfl hl (by decide) rfl (fun ls hl => ?_)
  refine lv_iconst (v := 0) hx hb dX5_number_9 (by decide) ?_
  refine lv_istore (lv' := [(4, .int 0), (3, .int x3_1), (0, .ref (A 3)), (1, .int x1), (2, .int x2)]) hx hb dX5_number_10 hl (by decide) rfl (fun ls hl => ?_)
  exact w_X5_number_12 C  cb_fu _ _ _ hf _ _ _ hs (lv_sub hl [2, 3, 4, 1, 0] rfl)
/-! ===== CardBecome$Reader.takeWord ===== -/
def f_X5_takeWord (x1 : Int32) (σ : cb_St) : Option (cb_St) := cb_bv (f_X5_skipBlanks σ) (fun σ_1 => cb_bp (f_X5_letterAt (σ_1.1 3 5) σ_1) (fun r_2 => if r_2 = x1 then (cb_let (cb_sI σ_1 3 5 ((σ_1.1 3 5) + 1)) (fun σ_4 => some σ_4)) else (cb_bv (f_X5_fail 1 (σ_1.1 3 5) σ_1) (fun σ_3 => some σ_3))))
set_option maxHeartbeats 4000000 in
set_option maxRecDepth 100000 in
theorem c_X5_takeWord {x1 : Int32}  {σ : cb_St} {o : cb_St} (hf : f_X5_takeWord x1 σ = some o) : cb_M l yX5_takeWord cX5_takeWord 2 none 3 shC A T D σ [.ref (A 3), .int x1] none o := by
  refine cb_met (by decide +kernel) (Nat.le_of_ble_eq_true rfl) ?_
  intro p e s m below meth c C hs ls hl
  have hl : lv_has ls 2 [(0, .ref (A 3)), (1, .int x1)] := hl
  obtain ⟨hx, hb, hml, hr, hown, hts, hK, hlk, hN⟩ := id C
  unfold f_X5_takeWord at hf
  refine lv_aload_n hx hb dX5_takeWord_0 rfl (lv_at hl 0 rfl) ?_
  obtain ⟨σ_1, hc, hf⟩ := cb_bv_inv hf
  refine cb_callVv C (c_X5_skipBlanks  hc) mw_X5_skipBlanks ml_X5_38 rfl ⟨Nat.le_of_ble_eq_true rfl, Nat.le_of_ble_eq_true rfl⟩ rfl (Nat.le_of_ble_eq_true rfl) rfl hs hl rfl (Nat.le_of_ble_eq_true rfl) dX5_takeWord_1 (fun H locs hs => ?_)
  clear hc
  refine lv_aload_n hx hb dX5_takeWord_4 rfl (lv_at hl 0 rfl) ?_
  refine lv_aload_n hx hb dX5_takeWord_5 rfl (lv_at hl 0 rfl) ?_
  refine gf_X5_29 C hs rfl dX5_takeWord_6 ?_
  obtain ⟨r_2, hc, hf⟩ := cb_bp_inv hf
  refine cb_callVi C (c_X5_letterAt  hc) mw_X5_letterAt ml_X5_71 rfl ⟨Nat.le_of_ble_eq_true rfl, Nat.le_of_ble_eq_true rfl⟩ rfl (Nat.le_of_ble_eq_true rfl) rfl hs hl rfl (Nat.le_of_ble_eq_true rfl) dX5_takeWord_9 (fun H locs hs => ?_)
  clear hc
  refine lv_iload_n hx hb dX5_takeWord_12 rfl (lv_at hl 1 rfl) ?_
  refine lv_icmp_ne (tgt := 29) hx hb dX5_takeWord_13 (by decide) (fun cn => ?_) (fun cn => ?_)
  · replace hf := cb_ifn cn hf
    refine lv_aload_n hx hb dX5_takeWord_29 rfl (lv_at hl 0 rfl) ?_
    refine lv_iconst (v := 1) hx hb dX5_takeWord_30 (by decide) ?_
    refine lv_aload_n hx hb dX5_takeWord_31 rfl (lv_at hl 0 rfl) ?_
    refine gf_X5_29 C hs rfl dX5_takeWord_32 ?_
    obtain ⟨σ_3, hc, hf⟩ := cb_bv_inv hf
    refine cb_callVv C (c_X5_fail  hc) mw_X5_fail ml_X5_81 rfl ⟨Nat.le_of_ble_eq_true rfl, Nat.le_of_ble_eq_true rfl⟩ rfl (Nat.le_of_ble_eq_true rfl) rfl hs hl rfl (Nat.le_of_ble_eq_true rfl) dX5_takeWord_35 (fun H locs hs => ?_)
    clear hc
    have hf := Option.some.inj hf
    subst hf
    exact cb_retv C hs dX5_takeWord_38
  · replace hf := cb_ifp cn hf
    refine lv_aload_n hx hb dX5_takeWord_16 rfl (lv_at hl 0 rfl) ?_
    refine lv_dup hx hb dX5_takeWord_17 rfl ?_
    refine gf_X5_29 C hs rfl dX5_takeWord_18 ?_
    refine lv_iconst (v := 1) hx hb dX5_takeWord_21 (by decide) ?_
    refine lv_iadd hx hb dX5_takeWord_22 ?_
    refine pf_X5_29 C hs rfl dX5_takeWord_23 (fun H locs hs => ?_)
    obtain ⟨σ_4, e9, hf⟩ := cb_let_inv hf
    replace hs := cb_Hc e9 hs
    clear e9
    refine lv_goto (tgt := 38) hx hb dX5_takeWord_26 (by decide) ?_
    have hf := Option.some.inj hf
    subst hf
    exact cb_retv C hs dX5_takeWord_38
/-! ===== CardBecome$Reader.readCard ===== -/
def f_X5_readCard_79  (σ : cb_St) (x1 : Int32) (x3 : Int32) : Option (cb_St) := cb_bv (f_X5_takeWord 59 σ) (fun σ_1 => if (σ_1.1 3 1) = 0 then (cb_bv (f_X6_addCard 4 x1 x3 σ_1) (fun σ_2 => some σ_2)) else (some σ_1))
set_option maxHeartbeats 4000000 in
set_option maxRecDepth 100000 in
theorem w_X5_readCard_79 (C : cb_C p s m args meth c cX5_readCard 4 none RX5 D T)  {o : cb_St}  {σ : cb_St} {x1 : Int32} {x3 : Int32} (hf : f_X5_readCard_79 σ x1 x3 = some o) {H : Heap} {locs : List Loc} {ls : Array Slot} (hs : cb_H shC A T D σ s.heap H locs) (hl : lv_has ls 4 [(0, .ref (A 3)), (1, .int x1), (3, .int x3)]) : cb_W p l e 4 s m args below meth c shC A T D none o H locs (F0 m 79 ls []) := by
  obtain ⟨hx, hb, hml, hr, hown, hts, hK, hlk, hN⟩ := id C
  unfold f_X5_readCard_79 at hf
  refine lv_aload_n hx hb dX5_readCard_79 rfl (lv_at hl 0 rfl) ?_
  refine lv_bipush (v := 59) hx hb dX5_readCard_80 (by decide) ?_
  obtain ⟨σ_1, hc, hf⟩ := cb_bv_inv hf
  refine cb_callVv C (c_X5_takeWord  hc) mw_X5_takeWord ml_X5_54 rfl ⟨Nat.le_of_ble_eq_true rfl, Nat.le_of_ble_eq_true rfl⟩ rfl (Nat.le_of_ble_eq_true rfl) rfl hs hl rfl (Nat.le_of_ble_eq_true rfl) dX5_readCard_82 (fun H locs hs => ?_)
  clear hc
  refine lv_aload_n hx hb dX5_readCard_85 rfl (lv_at hl 0 rfl) ?_
  refine gf_X5_32 C hs rfl dX5_readCard_86 ?_
  refine lv_if_ne (tgt := 101) hx hb dX5_readCard_89 (by decide) (fun cn => ?_) (fun cn => ?_)
  · replace hf := cb_ifn cn hf
    have hf := Option.some.inj hf
    subst hf
    exact cb_retv C hs dX5_readCard_101
  · replace hf := cb_ifp cn hf
    refine lv_aload_n hx hb dX5_readCard_92 rfl (lv_at hl 0 rfl) ?_
    refine gf_X5_12 C hs rfl dX5_readCard_93 ?_
    refine lv_iload_n hx hb dX5_readCard_96 rfl (lv_at hl 1 rfl) ?_
    refine lv_iload_n hx hb dX5_readCard_97 rfl (lv_at hl 2 rfl) ?_
    obtain ⟨σ_2, hc, hf⟩ := cb_bv_inv hf
    refine cb_callVv C (c_X6_addCard cb_tb4 hc) mw_X6_addCard ml_X5_95 rfl ⟨Nat.le_of_ble_eq_true rfl, Nat.le_of_ble_eq_true rfl⟩ cb_tb4.1 (Nat.le_of_ble_eq_true rfl) rfl hs hl rfl (Nat.le_of_ble_eq_true rfl) dX5_readCard_98 (fun H locs hs => ?_)
    clear hc
    have hf := Option.some.inj hf
    subst hf
    exact cb_retv C hs dX5_readCard_101
def f_X5_readCard_21  (σ : cb_St) : Option (cb_St) := cb_bv (f_X5_takeWord 99 σ) (fun σ_1 => cb_bi (f_X5_number 1 13 σ_1) (fun r_2 σ_3 => cb_bv (f_X5_skipBlanks σ_3) (fun σ_4 => cb_let (σ_4.1 3 5) (fun x2_4 => cb_bi (f_X5_number 0 3 σ_4) (fun r_6 σ_7 => if (σ_7.1 3 1) = 0 then (cb_bp (f_X6_oneOfAll r_2 r_6 σ_7) (fun r_8 => cb_bp (f_X6_hasTold 4 r_8 σ_7) (fun r_9 => if r_9 = 0 then (f_X5_readCard_79 σ_7 r_2 r_6) else (cb_bv (f_X5_fail 4 x2_4 σ_7) (fun σ_10 => f_X5_readCard_79 σ_10 r_2 r_6))))) else (f_X5_readCard_79 σ_7 r_2 r_6))))))
set_option maxHeartbeats 4000000 in
set_option maxRecDepth 100000 in
theorem w_X5_readCard_21 (C : cb_C p s m args meth c cX5_readCard 4 none RX5 D T)  {o : cb_St}  {σ : cb_St} (hf : f_X5_readCard_21 σ = some o) {H : Heap} {locs : List Loc} {ls : Array Slot} (hs : cb_H shC A T D σ s.heap H locs) (hl : lv_has ls 4 [(0, .ref (A 3))]) : cb_W p l e 4 s m args below meth c shC A T D none o H locs (F0 m 21 ls []) := by
  obtain ⟨hx, hb, hml, hr, hown, hts, hK, hlk, hN⟩ := id C
  unfold f_X5_readCard_21 at hf
  refine lv_aload_n hx hb dX5_readCard_21 rfl (lv_at hl 0 rfl) ?_
  refine lv_bipush (v := 99) hx hb dX5_readCard_22 (by decide) ?_
  obtain ⟨σ_1, hc, hf⟩ := cb_bv_inv hf
  refine cb_callVv C (c_X5_takeWord  hc) mw_X5_takeWord ml_X5_54 rfl ⟨Nat.le_of_ble_eq_true rfl, Nat.le_of_ble_eq_true rfl⟩ rfl (Nat.le_of_ble_eq_true rfl) rfl hs hl rfl (Nat.le_of_ble_eq_true rfl) dX5_readCard_24 (fun H locs hs => ?_)
  clear hc
  refine lv_aload_n hx hb dX5_readCard_27 rfl (lv_at hl 0 rfl) ?_
  refine lv_iconst (v := 1) hx hb dX5_readCard_28 (by decide) ?_
  refine lv_bipush (v := 13) hx hb dX5_readCard_29 (by decide) ?_
  obtain ⟨r_2, σ_3, hc, hf⟩ := cb_bi_inv hf
  refine cb_callVi C (c_X5_number  hc) mw_X5_number ml_X5_58 rfl ⟨Nat.le_of_ble_eq_true rfl, Nat.le_of_ble_eq_true rfl⟩ rfl (Nat.le_of_ble_eq_true rfl) rfl hs hl rfl (Nat.le_of_ble_eq_true rfl) dX5_readCard_31 (fun H locs hs => ?_)
  clear hc
  refine lv_istore_n (lv' := [(1, .int r_2), (0, .ref (A 3))]) hx hb dX5_readCard_34 rfl hl (by decide) rfl (fun ls hl => ?_)
  refine lv_aload_n hx hb dX5_readCard_35 rfl (lv_at hl 1 rfl) ?_
  obtain ⟨σ_4, hc, hf⟩ := cb_bv_inv hf
  refine cb_callVv C (c_X5_skipBlanks  hc) mw_X5_skipBlanks ml_X5_38 rfl ⟨Nat.le_of_ble_eq_true rfl, Nat.le_of_ble_eq_true rfl⟩ rfl (Nat.le_of_ble_eq_true rfl) rfl hs hl rfl (Nat.le_of_ble_eq_true rfl) dX5_readCard_36 (fun H locs hs => ?_)
  clear hc
  refine lv_aload_n hx hb dX5_readCard_39 rfl (lv_at hl 1 rfl) ?_
  refine gf_X5_29 C hs rfl dX5_readCard_40 ?_
  obtain ⟨x2_4, e9, hf⟩ := cb_let_inv hf
  refine cb_topi e9 ?_
  clear e9
  refine lv_istore_n (lv' := [(2, .int x2_4), (1, .int r_2), (0, .ref (A 3))]) hx hb dX5_readCard_43 rfl hl (by decide) rfl (fun ls hl => ?_)
  refine lv_aload_n hx hb dX5_readCard_44 rfl (lv_at hl 2 rfl) ?_
  refine lv_iconst (v := 0) hx hb dX5_readCard_45 (by decide) ?_
  refine lv_iconst (v := 3) hx hb dX5_readCard_46 (by decide) ?_
  obtain ⟨r_6, σ_7, hc, hf⟩ := cb_bi_inv hf
  refine cb_callVi C (c_X5_number  hc) mw_X5_number ml_X5_58 rfl ⟨Nat.le_of_ble_eq_true rfl, Nat.le_of_ble_eq_true rfl⟩ rfl (Nat.le_of_ble_eq_true rfl) rfl hs hl rfl (Nat.le_of_ble_eq_true rfl) dX5_readCard_47 (fun H locs hs => ?_)
  clear hc
  refine lv_istore_n (lv' := [(3, .int r_6), (2, .int x2_4), (1, .int r_2), (0, .ref (A 3))]) hx hb dX5_readCard_50 rfl hl (by decide) rfl (fun ls hl => ?_)
  refine lv_aload_n hx hb dX5_readCard_51 rfl (lv_at hl 3 rfl) ?_
  refine gf_X5_32 C hs rfl dX5_readCard_52 ?_
  refine lv_if_ne (tgt := 79) hx hb dX5_readCard_55 (by decide) (fun cn => ?_) (fun cn => ?_)
  · replace hf := cb_ifn cn hf
    exact w_X5_readCard_79 C  hf hs (lv_sub hl [3, 2, 0] rfl)
  · replace hf := cb_ifp cn hf
    refine lv_aload_n hx hb dX5_readCard_58 rfl (lv_at hl 3 rfl) ?_
    refine gf_X5_12 C hs rfl dX5_readCard_59 ?_
    refine lv_iload_n hx hb dX5_readCard_62 rfl (lv_at hl 2 rfl) ?_
    refine lv_iload_n hx hb dX5_readCard_63 rfl (lv_at hl 0 rfl) ?_
    obtain ⟨r_8, hc, hf⟩ := cb_bp_inv hf
    refine cb_callSi C (c_X6_oneOfAll  hc) mw_X6_oneOfAll ml_X5_88 rfl ⟨Nat.le_of_ble_eq_true rfl, Nat.le_of_ble_eq_true rfl⟩ hs hl rfl (Nat.le_of_ble_eq_true rfl) dX5_readCard_64 (fun H locs hs => ?_)
    clear hc
    obtain ⟨r_9, hc, hf⟩ := cb_bp_inv hf
    refine cb_callVi C (c_X6_hasTold cb_tb4 hc) mw_X6_hasTold ml_X5_91 rfl ⟨Nat.le_of_ble_eq_true rfl, Nat.le_of_ble_eq_true rfl⟩ cb_tb4.1 (Nat.le_of_ble_eq_true rfl) rfl hs hl rfl (Nat.le_of_ble_eq_true rfl) dX5_readCard_67 (fun H locs hs => ?_)
    clear hc
    refine lv_if_eq (tgt := 79) hx hb dX5_readCard_70 (by decide) (fun cn => ?_) (fun cn => ?_)
    · replace hf := cb_ifp cn hf
      exact w_X5_readCard_79 C  hf hs (lv_sub hl [3, 2, 0] rfl)
    · replace hf := cb_ifn cn hf
      refine lv_aload_n hx hb dX5_readCard_73 rfl (lv_at hl 3 rfl) ?_
      refine lv_iconst (v := 4) hx hb dX5_readCard_74 (by decide) ?_
      refine lv_iload_n hx hb dX5_readCard_75 rfl (lv_at hl 1 rfl) ?_
      obtain ⟨σ_10, hc, hf⟩ := cb_bv_inv hf
      refine cb_callVv C (c_X5_fail  hc) mw_X5_fail ml_X5_81 rfl ⟨Nat.le_of_ble_eq_true rfl, Nat.le_of_ble_eq_true rfl⟩ rfl (Nat.le_of_ble_eq_true rfl) rfl hs hl rfl (Nat.le_of_ble_eq_true rfl) dX5_readCard_76 (fun H locs hs => ?_)
      clear hc
      exact w_X5_readCard_79 C  hf hs (lv_sub hl [3, 2, 0] rfl)
def f_X5_readCard  (σ : cb_St) : Option (cb_St) := if (σ.1 4 4) < 12 then (f_X5_readCard_21 σ) else (cb_bv (f_X5_fail 3 (σ.1 3 5) σ) (fun σ_1 => f_X5_readCard_21 σ_1))
set_option maxHeartbeats 4000000 in
set_option maxRecDepth 100000 in
theorem c_X5_readCard   {σ : cb_St} {o : cb_St} (hf : f_X5_readCard σ = some o) : cb_M l yX5_readCard cX5_readCard 4 none 4 shC A T D σ [.ref (A 3)] none o := by
  refine cb_met (by decide +kernel) (Nat.le_of_ble_eq_true rfl) ?_
  intro p e s m below meth c C hs ls hl
  have hl : lv_has ls 4 [(0, .ref (A 3))] := hl
  obtain ⟨hx, hb, hml, hr, hown, hts, hK, hlk, hN⟩ := id C
  unfold f_X5_readCard at hf
  refine lv_aload_n hx hb dX5_readCard_0 rfl (lv_at hl 0 rfl) ?_
  refine gf_X5_12 C hs rfl dX5_readCard_1 ?_
  refine gf_X5_85 C hs cb_tb4.1 dX5_readCard_4 ?_
  refine lv_bipush (v := 12) hx hb dX5_readCard_7 (by decide) ?_
  refine lv_icmp_lt (tgt := 21) hx hb dX5_readCard_9 (by decide) (fun cn => ?_) (fun cn => ?_)
  · replace hf := cb_ifp cn hf
    exact w_X5_readCard_21 C  hf hs (lv_sub hl [0] rfl)
  · replace hf := cb_ifn cn hf
    refine lv_aload_n hx hb dX5_readCard_12 rfl (lv_at hl 0 rfl) ?_
    refine lv_iconst (v := 3) hx hb dX5_readCard_13 (by decide) ?_
    refine lv_aload_n hx hb dX5_readCard_14 rfl (lv_at hl 0 rfl) ?_
    refine gf_X5_29 C hs rfl dX5_readCard_15 ?_
    obtain ⟨σ_1, hc, hf⟩ := cb_bv_inv hf
    refine cb_callVv C (c_X5_fail  hc) mw_X5_fail ml_X5_81 rfl ⟨Nat.le_of_ble_eq_true rfl, Nat.le_of_ble_eq_true rfl⟩ rfl (Nat.le_of_ble_eq_true rfl) rfl hs hl rfl (Nat.le_of_ble_eq_true rfl) dX5_readCard_18 (fun H locs hs => ?_)
    clear hc
    exact w_X5_readCard_21 C  hf hs (lv_sub hl [0] rfl)
/-! ===== CardBecome$Reader.readPerson ===== -/
def f_X5_readPerson_21  (σ : cb_St) : Option (cb_St) := cb_bv (f_X5_takeWord 112 σ) (fun σ_1 => cb_bv (f_X5_takeWord 59 σ_1) (fun σ_2 => if (σ_2.1 3 1) = 0 then (cb_let (cb_sI σ_2 4 5 ((σ_2.1 4 5) + 1)) (fun σ_3 => some σ_3)) else (some σ_2)))
set_option maxHeartbeats 4000000 in
set_option maxRecDepth 100000 in
theorem w_X5_readPerson_21 (C : cb_C p s m args meth c cX5_readPerson 1 none RX5 D T)  {o : cb_St}  {σ : cb_St} (hf : f_X5_readPerson_21 σ = some o) {H : Heap} {locs : List Loc} {ls : Array Slot} (hs : cb_H shC A T D σ s.heap H locs) (hl : lv_has ls 1 [(0, .ref (A 3))]) : cb_W p l e 4 s m args below meth c shC A T D none o H locs (F0 m 21 ls []) := by
  obtain ⟨hx, hb, hml, hr, hown, hts, hK, hlk, hN⟩ := id C
  unfold f_X5_readPerson_21 at hf
  refine lv_aload_n hx hb dX5_readPerson_21 rfl (lv_at hl 0 rfl) ?_
  refine lv_bipush (v := 112) hx hb dX5_readPerson_22 (by decide) ?_
  obtain ⟨σ_1, hc, hf⟩ := cb_bv_inv hf
  refine cb_callVv C (c_X5_takeWord  hc) mw_X5_takeWord ml_X5_54 rfl ⟨Nat.le_of_ble_eq_true rfl, Nat.le_of_ble_eq_true rfl⟩ rfl (Nat.le_of_ble_eq_true rfl) rfl hs hl rfl (Nat.le_of_ble_eq_true rfl) dX5_readPerson_24 (fun H locs hs => ?_)
  clear hc
  refine lv_aload_n hx hb dX5_readPerson_27 rfl (lv_at hl 0 rfl) ?_
  refine lv_bipush (v := 59) hx hb dX5_readPerson_28 (by decide) ?_
  obtain ⟨σ_2, hc, hf⟩ := cb_bv_inv hf
  refine cb_callVv C (c_X5_takeWord  hc) mw_X5_takeWord ml_X5_54 rfl ⟨Nat.le_of_ble_eq_true rfl, Nat.le_of_ble_eq_true rfl⟩ rfl (Nat.le_of_ble_eq_true rfl) rfl hs hl rfl (Nat.le_of_ble_eq_true rfl) dX5_readPerson_30 (fun H locs hs => ?_)
  clear hc
  refine lv_aload_n hx hb dX5_readPerson_33 rfl (lv_at hl 0 rfl) ?_
  refine gf_X5_32 C hs rfl dX5_readPerson_34 ?_
  refine lv_if_ne (tgt := 53) hx hb dX5_readPerson_37 (by decide) (fun cn => ?_) (fun cn => ?_)
  · replace hf := cb_ifn cn hf
    have hf := Option.some.inj hf
    subst hf
    exact cb_retv C hs dX5_readPerson_53
  · replace hf := cb_ifp cn hf
    refine lv_aload_n hx hb dX5_readPerson_40 rfl (lv_at hl 0 rfl) ?_
    refine gf_X5_12 C hs rfl dX5_readPerson_41 ?_
    refine lv_dup hx hb dX5_readPerson_44 rfl ?_
    refine gf_X5_98 C hs cb_tb4.1 dX5_readPerson_45 ?_
    refine lv_iconst (v := 1) hx hb dX5_readPerson_48 (by decide) ?_
    refine lv_iadd hx hb dX5_readPerson_49 ?_
    refine pf_X5_98 C hs cb_tb4.1 dX5_readPerson_50 (fun H locs hs => ?_)
    obtain ⟨σ_3, e9, hf⟩ := cb_let_inv hf
    replace hs := cb_Hc e9 hs
    clear e9
    have hf := Option.some.inj hf
    subst hf
    exact cb_retv C hs dX5_readPerson_53
def f_X5_readPerson  (σ : cb_St) : Option (cb_St) := if (σ.1 4 5) < 6 then (f_X5_readPerson_21 σ) else (cb_bv (f_X5_fail 3 (σ.1 3 5) σ) (fun σ_1 => f_X5_readPerson_21 σ_1))
set_option maxHeartbeats 4000000 in
set_option maxRecDepth 100000 in
theorem c_X5_readPerson   {σ : cb_St} {o : cb_St} (hf : f_X5_readPerson σ = some o) : cb_M l yX5_readPerson cX5_readPerson 1 none 4 shC A T D σ [.ref (A 3)] none o := by
  refine cb_met (by decide +kernel) (Nat.le_of_ble_eq_true rfl) ?_
  intro p e s m below meth c C hs ls hl
  have hl : lv_has ls 1 [(0, .ref (A 3))] := hl
  obtain ⟨hx, hb, hml, hr, hown, hts, hK, hlk, hN⟩ := id C
  unfold f_X5_readPerson at hf
  refine lv_aload_n hx hb dX5_readPerson_0 rfl (lv_at hl 0 rfl) ?_
  refine gf_X5_12 C hs rfl dX5_readPerson_1 ?_
  refine gf_X5_98 C hs cb_tb4.1 dX5_readPerson_4 ?_
  refine lv_bipush (v := 6) hx hb dX5_readPerson_7 (by decide) ?_
  refine lv_icmp_lt (tgt := 21) hx hb dX5_readPerson_9 (by decide) (fun cn => ?_) (fun cn => ?_)
  · replace hf := cb_ifp cn hf
    exact w_X5_readPerson_21 C  hf hs (lv_sub hl [0] rfl)
  · replace hf := cb_ifn cn hf
    refine lv_aload_n hx hb dX5_readPerson_12 rfl (lv_at hl 0 rfl) ?_
    refine lv_iconst (v := 3) hx hb dX5_readPerson_13 (by decide) ?_
    refine lv_aload_n hx hb dX5_readPerson_14 rfl (lv_at hl 0 rfl) ?_
    refine gf_X5_29 C hs rfl dX5_readPerson_15 ?_
    obtain ⟨σ_1, hc, hf⟩ := cb_bv_inv hf
    refine cb_callVv C (c_X5_fail  hc) mw_X5_fail ml_X5_81 rfl ⟨Nat.le_of_ble_eq_true rfl, Nat.le_of_ble_eq_true rfl⟩ rfl (Nat.le_of_ble_eq_true rfl) rfl hs hl rfl (Nat.le_of_ble_eq_true rfl) dX5_readPerson_18 (fun H locs hs => ?_)
    clear hc
    exact w_X5_readPerson_21 C  hf hs (lv_sub hl [0] rfl)
/-! ===== CardBecome$Reader.readClause ===== -/
def f_X5_readClause_47  (σ : cb_St) (s0 : Int32) : Option (cb_St) := cb_bv (f_X5_fail s0 (σ.1 3 5) σ) (fun σ_1 => some σ_1)
set_option maxHeartbeats 4000000 in
set_option maxRecDepth 100000 in
theorem w_X5_readClause_47 (C : cb_C p s m args meth c cX5_readClause 2 none RX5 D T)  {o : cb_St}  {σ : cb_St} {s0 : Int32} (hf : f_X5_readClause_47 σ s0 = some o) {H : Heap} {locs : List Loc} {ls : Array Slot} (hs : cb_H shC A T D σ s.heap H locs) (hl : lv_has ls 2 [(0, .ref (A 3))]) : cb_W p l e 5 s m args below meth c shC A T D none o H locs (F0 m 47 ls [.int s0, .ref (A 3)]) := by
  obtain ⟨hx, hb, hml, hr, hown, hts, hK, hlk, hN⟩ := id C
  unfold f_X5_readClause_47 at hf
  refine lv_aload_n hx hb dX5_readClause_47 rfl (lv_at hl 0 rfl) ?_
  refine gf_X5_29 C hs rfl dX5_readClause_48 ?_
  obtain ⟨σ_1, hc, hf⟩ := cb_bv_inv hf
  refine cb_callVv C (c_X5_fail  hc) mw_X5_fail ml_X5_81 rfl ⟨Nat.le_of_ble_eq_true rfl, Nat.le_of_ble_eq_true rfl⟩ rfl (Nat.le_of_ble_eq_true rfl) rfl hs hl rfl (Nat.le_of_ble_eq_true rfl) dX5_readClause_51 (fun H locs hs => ?_)
  clear hc
  have hf := Option.some.inj hf
  subst hf
  exact cb_retv C hs dX5_readClause_54
def f_X5_readClause  (σ : cb_St) : Option (cb_St) := cb_bp (f_X5_letterAt (σ.1 3 5) σ) (fun r_1 => if r_1 = 99 then (cb_bv (f_X5_readCard σ) (fun σ_3 => some σ_3)) else (if r_1 = 112 then (cb_bv (f_X5_readPerson σ) (fun σ_2 => some σ_2)) else (if r_1 = 114 then (f_X5_readClause_47 σ 3) else (f_X5_readClause_47 σ 1))))
set_option maxHeartbeats 4000000 in
set_option maxRecDepth 100000 in
theorem c_X5_readClause   {σ : cb_St} {o : cb_St} (hf : f_X5_readClause σ = some o) : cb_M l yX5_readClause cX5_readClause 2 none 5 shC A T D σ [.ref (A 3)] none o := by
  refine cb_met (by decide +kernel) (Nat.le_of_ble_eq_true rfl) ?_
  intro p e s m below meth c C hs ls hl
  have hl : lv_has ls 2 [(0, .ref (A 3))] := hl
  obtain ⟨hx, hb, hml, hr, hown, hts, hK, hlk, hN⟩ := id C
  unfold f_X5_readClause at hf
  refine lv_aload_n hx hb dX5_readClause_0 rfl (lv_at hl 0 rfl) ?_
  refine lv_aload_n hx hb dX5_readClause_1 rfl (lv_at hl 0 rfl) ?_
  refine gf_X5_29 C hs rfl dX5_readClause_2 ?_
  obtain ⟨r_1, hc, hf⟩ := cb_bp_inv hf
  refine cb_callVi C (c_X5_letterAt  hc) mw_X5_letterAt ml_X5_71 rfl ⟨Nat.le_of_ble_eq_true rfl, Nat.le_of_ble_eq_true rfl⟩ rfl (Nat.le_of_ble_eq_true rfl) rfl hs hl rfl (Nat.le_of_ble_eq_true rfl) dX5_readClause_5 (fun H locs hs => ?_)
  clear hc
  refine lv_istore_n (lv' := [(1, .int r_1), (0, .ref (A 3))]) hx hb dX5_readClause_8 rfl hl (by decide) rfl (fun ls hl => ?_)
  refine lv_iload_n hx hb dX5_readClause_9 rfl (lv_at hl 0 rfl) ?_
  refine lv_bipush (v := 99) hx hb dX5_readClause_10 (by decide) ?_
  refine lv_icmp_ne (tgt := 22) hx hb dX5_readClause_12 (by decide) (fun cn => ?_) (fun cn => ?_)
  · replace hf := cb_ifn cn hf
    refine lv_iload_n hx hb dX5_readClause_22 rfl (lv_at hl 0 rfl) ?_
    refine lv_bipush (v := 112) hx hb dX5_readClause_23 (by decide) ?_
    refine lv_icmp_ne (tgt := 35) hx hb dX5_readClause_25 (by decide) (fun cn => ?_) (fun cn => ?_)
    · replace hf := cb_ifn cn hf
      refine lv_aload_n hx hb dX5_readClause_35 rfl (lv_at hl 1 rfl) ?_
      refine lv_iload_n hx hb dX5_readClause_36 rfl (lv_at hl 0 rfl) ?_
      refine lv_bipush (v := 114) hx hb dX5_readClause_37 (by decide) ?_
      refine lv_icmp_ne (tgt := 46) hx hb dX5_readClause_39 (by decide) (fun cn => ?_) (fun cn => ?_)
      · replace hf := cb_ifn cn hf
        refine lv_iconst (v := 1) hx hb dX5_readClause_46 (by decide) ?_
        exact w_X5_readClause_47 C  hf hs (lv_sub hl [1] rfl)
      · replace hf := cb_ifp cn hf
        refine lv_iconst (v := 3) hx hb dX5_readClause_42 (by decide) ?_
        refine lv_goto (tgt := 47) hx hb dX5_readClause_43 (by decide) ?_
        exact w_X5_readClause_47 C  hf hs (lv_sub hl [1] rfl)
    · replace hf := cb_ifp cn hf
      refine lv_aload_n hx hb dX5_readClause_28 rfl (lv_at hl 1 rfl) ?_
      obtain ⟨σ_2, hc, hf⟩ := cb_bv_inv hf
      refine cb_callVv C (c_X5_readPerson  hc) mw_X5_readPerson ml_X5_78 rfl ⟨Nat.le_of_ble_eq_true rfl, Nat.le_of_ble_eq_true rfl⟩ rfl (Nat.le_of_ble_eq_true rfl) rfl hs hl rfl (Nat.le_of_ble_eq_true rfl) dX5_readClause_29 (fun H locs hs => ?_)
      clear hc
      refine lv_goto (tgt := 54) hx hb dX5_readClause_32 (by decide) ?_
      have hf := Option.some.inj hf
      subst hf
      exact cb_retv C hs dX5_readClause_54
  · replace hf := cb_ifp cn hf
    refine lv_aload_n hx hb dX5_readClause_15 rfl (lv_at hl 1 rfl) ?_
    obtain ⟨σ_3, hc, hf⟩ := cb_bv_inv hf
    refine cb_callVv C (c_X5_readCard  hc) mw_X5_readCard ml_X5_75 rfl ⟨Nat.le_of_ble_eq_true rfl, Nat.le_of_ble_eq_true rfl⟩ rfl (Nat.le_of_ble_eq_true rfl) rfl hs hl rfl (Nat.le_of_ble_eq_true rfl) dX5_readClause_16 (fun H locs hs => ?_)
    clear hc
    refine lv_goto (tgt := 54) hx hb dX5_readClause_19 (by decide) ?_
    have hf := Option.some.inj hf
    subst hf
    exact cb_retv C hs dX5_readClause_54
/-! ===== CardBecome$Reader.readRules ===== -/
def f_X5_readRules  (σ : cb_St) : Option (cb_St) := cb_bv (f_X5_takeWord 114 σ) (fun σ_1 => cb_bi (f_X5_number 0 4 σ_1) (fun r_2 σ_3 => cb_let (cb_sI σ_3 4 1 r_2) (fun σ_4 => cb_bi (f_X5_number 0 1 σ_4) (fun r_5 σ_6 => cb_let (cb_sI σ_6 4 2 r_5) (fun σ_7 => cb_bi (f_X5_number 0 1 σ_7) (fun r_8 σ_9 => cb_let (cb_sI σ_9 4 3 r_8) (fun σ_10 => cb_bv (f_X5_takeWord 59 σ_10) (fun σ_11 => some σ_11))))))))
set_option maxHeartbeats 4000000 in
set_option maxRecDepth 100000 in
theorem c_X5_readRules   {σ : cb_St} {o : cb_St} (hf : f_X5_readRules σ = some o) : cb_M l yX5_readRules cX5_readRules 1 none 4 shC A T D σ [.ref (A 3)] none o := by
  refine cb_met (by decide +kernel) (Nat.le_of_ble_eq_true rfl) ?_
  intro p e s m below meth c C hs ls hl
  have hl : lv_has ls 1 [(0, .ref (A 3))] := hl
  obtain ⟨hx, hb, hml, hr, hown, hts, hK, hlk, hN⟩ := id C
  unfold f_X5_readRules at hf
  refine lv_aload_n hx hb dX5_readRules_0 rfl (lv_at hl 0 rfl) ?_
  refine lv_bipush (v := 114) hx hb dX5_readRules_1 (by decide) ?_
  obtain ⟨σ_1, hc, hf⟩ := cb_bv_inv hf
  refine cb_callVv C (c_X5_takeWord  hc) mw_X5_takeWord ml_X5_54 rfl ⟨Nat.le_of_ble_eq_true rfl, Nat.le_of_ble_eq_true rfl⟩ rfl (Nat.le_of_ble_eq_true rfl) rfl hs hl rfl (Nat.le_of_ble_eq_true rfl) dX5_readRules_3 (fun H locs hs => ?_)
  clear hc
  refine lv_aload_n hx hb dX5_readRules_6 rfl (lv_at hl 0 rfl) ?_
  refine gf_X5_12 C hs rfl dX5_readRules_7 ?_
  refine lv_aload_n hx hb dX5_readRules_10 rfl (lv_at hl 0 rfl) ?_
  refine lv_iconst (v := 0) hx hb dX5_readRules_11 (by decide) ?_
  refine lv_iconst (v := 4) hx hb dX5_readRules_12 (by decide) ?_
  obtain ⟨r_2, σ_3, hc, hf⟩ := cb_bi_inv hf
  refine cb_callVi C (c_X5_number  hc) mw_X5_number ml_X5_58 rfl ⟨Nat.le_of_ble_eq_true rfl, Nat.le_of_ble_eq_true rfl⟩ rfl (Nat.le_of_ble_eq_true rfl) rfl hs hl rfl (Nat.le_of_ble_eq_true rfl) dX5_readRules_13 (fun H locs hs => ?_)
  clear hc
  refine pf_X5_62 C hs cb_tb4.1 dX5_readRules_16 (fun H locs hs => ?_)
  obtain ⟨σ_4, e9, hf⟩ := cb_let_inv hf
  replace hs := cb_Hc e9 hs
  clear e9
  refine lv_aload_n hx hb dX5_readRules_19 rfl (lv_at hl 0 rfl) ?_
  refine gf_X5_12 C hs rfl dX5_readRules_20 ?_
  refine lv_aload_n hx hb dX5_readRules_23 rfl (lv_at hl 0 rfl) ?_
  refine lv_iconst (v := 0) hx hb dX5_readRules_24 (by decide) ?_
  refine lv_iconst (v := 1) hx hb dX5_readRules_25 (by decide) ?_
  obtain ⟨r_5, σ_6, hc, hf⟩ := cb_bi_inv hf
  refine cb_callVi C (c_X5_number  hc) mw_X5_number ml_X5_58 rfl ⟨Nat.le_of_ble_eq_true rfl, Nat.le_of_ble_eq_true rfl⟩ rfl (Nat.le_of_ble_eq_true rfl) rfl hs hl rfl (Nat.le_of_ble_eq_true rfl) dX5_readRules_26 (fun H locs hs => ?_)
  clear hc
  refine pf_X5_65 C hs cb_tb4.1 dX5_readRules_29 (fun H locs hs => ?_)
  obtain ⟨σ_7, e9, hf⟩ := cb_let_inv hf
  replace hs := cb_Hc e9 hs
  clear e9
  refine lv_aload_n hx hb dX5_readRules_32 rfl (lv_at hl 0 rfl) ?_
  refine gf_X5_12 C hs rfl dX5_readRules_33 ?_
  refine lv_aload_n hx hb dX5_readRules_36 rfl (lv_at hl 0 rfl) ?_
  refine lv_iconst (v := 0) hx hb dX5_readRules_37 (by decide) ?_
  refine lv_iconst (v := 1) hx hb dX5_readRules_38 (by decide) ?_
  obtain ⟨r_8, σ_9, hc, hf⟩ := cb_bi_inv hf
  refine cb_callVi C (c_X5_number  hc) mw_X5_number ml_X5_58 rfl ⟨Nat.le_of_ble_eq_true rfl, Nat.le_of_ble_eq_true rfl⟩ rfl (Nat.le_of_ble_eq_true rfl) rfl hs hl rfl (Nat.le_of_ble_eq_true rfl) dX5_readRules_39 (fun H locs hs => ?_)
  clear hc
  refine pf_X5_68 C hs cb_tb4.1 dX5_readRules_42 (fun H locs hs => ?_)
  obtain ⟨σ_10, e9, hf⟩ := cb_let_inv hf
  replace hs := cb_Hc e9 hs
  clear e9
  refine lv_aload_n hx hb dX5_readRules_45 rfl (lv_at hl 0 rfl) ?_
  refine lv_bipush (v := 59) hx hb dX5_readRules_46 (by decide) ?_
  obtain ⟨σ_11, hc, hf⟩ := cb_bv_inv hf
  refine cb_callVv C (c_X5_takeWord  hc) mw_X5_takeWord ml_X5_54 rfl ⟨Nat.le_of_ble_eq_true rfl, Nat.le_of_ble_eq_true rfl⟩ rfl (Nat.le_of_ble_eq_true rfl) rfl hs hl rfl (Nat.le_of_ble_eq_true rfl) dX5_readRules_48 (fun H locs hs => ?_)
  clear hc
  have hf := Option.some.inj hf
  subst hf
  exact cb_retv C hs dX5_readRules_51
/-! ===== CardBecome$Reader.readAll ===== -/
def f_X5_readAll_18  : Nat → cb_St → Int32 → Option (cb_St)
  | 0, _, _ => none
  | fu + 1, σ, x1 => if 240 ≤ x1 then (some σ) else (if (σ.1 3 1) = 0 then (if (σ.1 3 3) ≤ (σ.1 3 5) then (some σ) else (cb_bv (f_X5_readClause σ) (fun σ_1 => cb_bv (f_X5_skipBlanks σ_1) (fun σ_2 => cb_let (x1 + 1) (fun x1_2 => f_X5_readAll_18 fu σ_2 x1_2))))) else (some σ))
set_option maxHeartbeats 4000000 in
set_option maxRecDepth 100000 in
theorem w_X5_readAll_18 (C : cb_C p s m args meth c cX5_readAll 2 none RX5 D T)  {o : cb_St}  : ∀ (fu : Nat) (σ : cb_St) (x1 : Int32), f_X5_readAll_18 fu σ x1 = some o → ∀ (H : Heap) (locs : List Loc) (ls : Array Slot), cb_H shC A T D σ s.heap H locs → lv_has ls 2 [(0, .ref (A 3)), (1, .int x1)] → cb_W p l e 6 s m args below meth c shC A T D none o H locs (F0 m 18 ls []) := by
  obtain ⟨hx, hb, hml, hr, hown, hts, hK, hlk, hN⟩ := id C
  intro fu
  induction fu with
  | zero =>
    intro σ x1 hf
    rw [f_X5_readAll_18] at hf
    cases hf
  | succ fu ih =>
    intro σ x1 hf H locs ls hs hl
    rw [f_X5_readAll_18] at hf
    refine lv_iload_n hx hb dX5_readAll_18 rfl (lv_at hl 1 rfl) ?_
    refine lv_sipush (v := 240) hx hb dX5_readAll_19 (by decide) ?_
    refine lv_icmp_ge (tgt := 57) hx hb dX5_readAll_22 (by decide) (fun cn => ?_) (fun cn => ?_)
    · replace hf := cb_ifp cn hf
      have hf := Option.some.inj hf
      subst hf
      exact cb_retv C hs dX5_readAll_57
    · replace hf := cb_ifn cn hf
      refine lv_aload_n hx hb dX5_readAll_25 rfl (lv_at hl 0 rfl) ?_
      refine gf_X5_32 C hs rfl dX5_readAll_26 ?_
      refine lv_if_ne (tgt := 57) hx hb dX5_readAll_29 (by decide) (fun cn => ?_) (fun cn => ?_)
      · replace hf := cb_ifn cn hf
        have hf := Option.some.inj hf
        subst hf
        exact cb_retv C hs dX5_readAll_57
      · replace hf := cb_ifp cn hf
        refine lv_aload_n hx hb dX5_readAll_32 rfl (lv_at hl 0 rfl) ?_
        refine gf_X5_29 C hs rfl dX5_readAll_33 ?_
        refine lv_aload_n hx hb dX5_readAll_36 rfl (lv_at hl 0 rfl) ?_
        refine gf_X5_26 C hs rfl dX5_readAll_37 ?_
        refine lv_icmp_ge (tgt := 57) hx hb dX5_readAll_40 (by decide) (fun cn => ?_) (fun cn => ?_)
        · replace hf := cb_ifp cn hf
          have hf := Option.some.inj hf
          subst hf
          exact cb_retv C hs dX5_readAll_57
        · replace hf := cb_ifn cn hf
          refine lv_aload_n hx hb dX5_readAll_43 rfl (lv_at hl 0 rfl) ?_
          obtain ⟨σ_1, hc, hf⟩ := cb_bv_inv hf
          refine cb_callVv C (c_X5_readClause  hc) mw_X5_readClause ml_X5_51 rfl ⟨Nat.le_of_ble_eq_true rfl, Nat.le_of_ble_eq_true rfl⟩ rfl (Nat.le_of_ble_eq_true rfl) rfl hs hl rfl (Nat.le_of_ble_eq_true rfl) dX5_readAll_44 (fun H locs hs => ?_)
          clear hc
          refine lv_aload_n hx hb dX5_readAll_47 rfl (lv_at hl 0 rfl) ?_
          obtain ⟨σ_2, hc, hf⟩ := cb_bv_inv hf
          refine cb_callVv C (c_X5_skipBlanks  hc) mw_X5_skipBlanks ml_X5_38 rfl ⟨Nat.le_of_ble_eq_true rfl, Nat.le_of_ble_eq_true rfl⟩ rfl (Nat.le_of_ble_eq_true rfl) rfl hs hl rfl (Nat.le_of_ble_eq_true rfl) dX5_readAll_48 (fun H locs hs => ?_)
          clear hc
          obtain ⟨x1_2, e9, hf⟩ := cb_let_inv hf
          refine lv_iinc (v := x1_2) (lv' := [(1, .int x1_2), (0, .ref (A 3))]) hx hb dX5_readAll_51 hl (k := 1) rfl (by rw [e9]; rfl) (by decide) rfl (fun ls hl => ?_)
          clear e9
          refine lv_goto (tgt := 18) hx hb dX5_readAll_54 (by decide) ?_
          exact ih _ _ hf _ _ _ hs (lv_sub hl [1, 0] rfl)
def f_X5_readAll  (σ : cb_St) : Option (cb_St) := cb_let (cb_sI σ 4 0 1) (fun σ_1 => cb_bv (f_X5_readRules σ_1) (fun σ_2 => cb_bv (f_X5_skipBlanks σ_2) (fun σ_3 => f_X5_readAll_18 cb_fu σ_3 0)))
set_option maxHeartbeats 4000000 in
set_option maxRecDepth 100000 in
theorem c_X5_readAll   {σ : cb_St} {o : cb_St} (hf : f_X5_readAll σ = some o) : cb_M l yX5_readAll cX5_readAll 2 none 6 shC A T D σ [.ref (A 3)] none o := by
  refine cb_met (by decide +kernel) (Nat.le_of_ble_eq_true rfl) ?_
  intro p e s m below meth c C hs ls hl
  have hl : lv_has ls 2 [(0, .ref (A 3))] := hl
  obtain ⟨hx, hb, hml, hr, hown, hts, hK, hlk, hN⟩ := id C
  unfold f_X5_readAll at hf
  refine lv_aload_n hx hb dX5_readAll_0 rfl (lv_at hl 0 rfl) ?_
  refine gf_X5_12 C hs rfl dX5_readAll_1 ?_
  refine lv_iconst (v := 1) hx hb dX5_readAll_4 (by decide) ?_
  refine pf_X5_44 C hs cb_tb4.1 (Or.inr rfl) dX5_readAll_5 (fun H locs hs => ?_)
  obtain ⟨σ_1, e9, hf⟩ := cb_let_inv hf
  replace hs := cb_Hc e9 hs
  clear e9
  refine lv_aload_n hx hb dX5_readAll_8 rfl (lv_at hl 0 rfl) ?_
  obtain ⟨σ_2, hc, hf⟩ := cb_bv_inv hf
  refine cb_callVv C (c_X5_readRules  hc) mw_X5_readRules ml_X5_48 rfl ⟨Nat.le_of_ble_eq_true rfl, Nat.le_of_ble_eq_true rfl⟩ rfl (Nat.le_of_ble_eq_true rfl) rfl hs hl rfl (Nat.le_of_ble_eq_true rfl) dX5_readAll_9 (fun H locs hs => ?_)
  clear hc
  refine lv_aload_n hx hb dX5_readAll_12 rfl (lv_at hl 0 rfl) ?_
  obtain ⟨σ_3, hc, hf⟩ := cb_bv_inv hf
  refine cb_callVv C (c_X5_skipBlanks  hc) mw_X5_skipBlanks ml_X5_38 rfl ⟨Nat.le_of_ble_eq_true rfl, Nat.le_of_ble_eq_true rfl⟩ rfl (Nat.le_of_ble_eq_true rfl) rfl hs hl rfl (Nat.le_of_ble_eq_true rfl) dX5_readAll_13 (fun H locs hs => ?_)
  clear hc
  refine lv_iconst (v := 0) hx hb dX5_readAll_16 (by decide) ?_
  refine lv_istore_n (lv' := [(1, .int 0), (0, .ref (A 3))]) hx hb dX5_readAll_17 rfl hl (by decide) rfl (fun ls hl => ?_)
  exact w_X5_readAll_18 C  cb_fu _ _ hf _ _ _ hs (lv_sub hl [1, 0] rfl)
/-! ===== CardBecome$Reader.read ===== -/
def f_X5_read_41  (σ : cb_St) : Option (cb_St) := cb_let (cb_sI σ 3 3 0) (fun σ_1 => some σ_1)
set_option maxHeartbeats 4000000 in
set_option maxRecDepth 100000 in
theorem w_X5_read_41 (C : cb_C p s m args meth c cX5_read 1 none RX5 D T)  {o : cb_St}  {σ : cb_St} (hf : f_X5_read_41 σ = some o) {H : Heap} {locs : List Loc} {ls : Array Slot} (hs : cb_H shC A T D σ s.heap H locs) (hl : lv_has ls 1 [(0, .ref (A 3))]) : cb_W p l e 7 s m args below meth c shC A T D none o H locs (F0 m 41 ls []) := by
  obtain ⟨hx, hb, hml, hr, hown, hts, hK, hlk, hN⟩ := id C
  unfold f_X5_read_41 at hf
  refine lv_aload_n hx hb dX5_read_41 rfl (lv_at hl 0 rfl) ?_
  refine lv_iconst (v := 0) hx hb dX5_read_42 (by decide) ?_
  refine pf_X5_26 C hs rfl dX5_read_43 (fun H locs hs => ?_)
  obtain ⟨σ_1, e9, hf⟩ := cb_let_inv hf
  replace hs := cb_Hc e9 hs
  clear e9
  have hf := Option.some.inj hf
  subst hf
  exact cb_retv C hs dX5_read_46
def f_X5_read  (σ : cb_St) : Option (cb_St) := cb_let (cb_sI σ 3 5 0) (fun σ_1 => cb_let (cb_sI σ_1 3 1 0) (fun σ_2 => cb_let (cb_sI σ_2 3 2 (-1)) (fun σ_3 => cb_bv (f_X6_clear 4 σ_3) (fun σ_4 => cb_bv (f_X5_skipBlanks σ_4) (fun σ_5 => if (σ_5.1 3 3) ≤ (σ_5.1 3 5) then (f_X5_read_41 σ_5) else (cb_bv (f_X5_readAll σ_5) (fun σ_6 => f_X5_read_41 σ_6)))))))
set_option maxHeartbeats 4000000 in
set_option maxRecDepth 100000 in
theorem c_X5_read   {σ : cb_St} {o : cb_St} (hf : f_X5_read σ = some o) : cb_M l yX5_read cX5_read 1 none 7 shC A T D σ [.ref (A 3)] none o := by
  refine cb_met (by decide +kernel) (Nat.le_of_ble_eq_true rfl) ?_
  intro p e s m below meth c C hs ls hl
  have hl : lv_has ls 1 [(0, .ref (A 3))] := hl
  obtain ⟨hx, hb, hml, hr, hown, hts, hK, hlk, hN⟩ := id C
  unfold f_X5_read at hf
  refine lv_aload_n hx hb dX5_read_0 rfl (lv_at hl 0 rfl) ?_
  refine lv_iconst (v := 0) hx hb dX5_read_1 (by decide) ?_
  refine pf_X5_29 C hs rfl dX5_read_2 (fun H locs hs => ?_)
  obtain ⟨σ_1, e9, hf⟩ := cb_let_inv hf
  replace hs := cb_Hc e9 hs
  clear e9
  refine lv_aload_n hx hb dX5_read_5 rfl (lv_at hl 0 rfl) ?_
  refine lv_iconst (v := 0) hx hb dX5_read_6 (by decide) ?_
  refine pf_X5_32 C hs rfl dX5_read_7 (fun H locs hs => ?_)
  obtain ⟨σ_2, e9, hf⟩ := cb_let_inv hf
  replace hs := cb_Hc e9 hs
  clear e9
  refine lv_aload_n hx hb dX5_read_10 rfl (lv_at hl 0 rfl) ?_
  refine lv_iconst (v := (-1)) hx hb dX5_read_11 (by decide) ?_
  refine pf_X5_18 C hs rfl dX5_read_12 (fun H locs hs => ?_)
  obtain ⟨σ_3, e9, hf⟩ := cb_let_inv hf
  replace hs := cb_Hc e9 hs
  clear e9
  refine lv_aload_n hx hb dX5_read_15 rfl (lv_at hl 0 rfl) ?_
  refine gf_X5_12 C hs rfl dX5_read_16 ?_
  obtain ⟨σ_4, hc, hf⟩ := cb_bv_inv hf
  refine cb_callVv C (c_X6_clear cb_tb4 hc) mw_X6_clear ml_X5_35 rfl ⟨Nat.le_of_ble_eq_true rfl, Nat.le_of_ble_eq_true rfl⟩ cb_tb4.1 (Nat.le_of_ble_eq_true rfl) rfl hs hl rfl (Nat.le_of_ble_eq_true rfl) dX5_read_19 (fun H locs hs => ?_)
  clear hc
  refine lv_aload_n hx hb dX5_read_22 rfl (lv_at hl 0 rfl) ?_
  obtain ⟨σ_5, hc, hf⟩ := cb_bv_inv hf
  refine cb_callVv C (c_X5_skipBlanks  hc) mw_X5_skipBlanks ml_X5_38 rfl ⟨Nat.le_of_ble_eq_true rfl, Nat.le_of_ble_eq_true rfl⟩ rfl (Nat.le_of_ble_eq_true rfl) rfl hs hl rfl (Nat.le_of_ble_eq_true rfl) dX5_read_23 (fun H locs hs => ?_)
  clear hc
  refine lv_aload_n hx hb dX5_read_26 rfl (lv_at hl 0 rfl) ?_
  refine gf_X5_29 C hs rfl dX5_read_27 ?_
  refine lv_aload_n hx hb dX5_read_30 rfl (lv_at hl 0 rfl) ?_
  refine gf_X5_26 C hs rfl dX5_read_31 ?_
  refine lv_icmp_ge (tgt := 41) hx hb dX5_read_34 (by decide) (fun cn => ?_) (fun cn => ?_)
  · replace hf := cb_ifp cn hf
    exact w_X5_read_41 C  hf hs (lv_sub hl [0] rfl)
  · replace hf := cb_ifn cn hf
    refine lv_aload_n hx hb dX5_read_37 rfl (lv_at hl 0 rfl) ?_
    obtain ⟨σ_6, hc, hf⟩ := cb_bv_inv hf
    refine cb_callVv C (c_X5_readAll  hc) mw_X5_readAll ml_X5_41 rfl ⟨Nat.le_of_ble_eq_true rfl, Nat.le_of_ble_eq_true rfl⟩ rfl (Nat.le_of_ble_eq_true rfl) rfl hs hl rfl (Nat.le_of_ble_eq_true rfl) dX5_read_38 (fun H locs hs => ?_)
    clear hc
    exact w_X5_read_41 C  hf hs (lv_sub hl [0] rfl)
end
