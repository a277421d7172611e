section
variable {p : Program} {l : Launch} {e : Env} {s : State} {m : MethodId} {args : Array Value} {below : List Frame} {meth : Method} {c : Code} {A : Nat → Nat} {T : Nat → ClassId} {D : va_G}
/-! ===== CardBecomeModel.canDraw ===== -/
def f_X8_canDraw_26 (x1 : Int32) (σ : cb_St)  : Option (Int32) := some 0
set_option maxHeartbeats 4000000 in
set_option maxRecDepth 100000 in
theorem w_X8_canDraw_26 (C : cb_C p s m args meth c cX8_canDraw 2 (some .boolean) RX8 D T) {x1 : Int32} {σ : cb_St} {o : Int32}   (hf : f_X8_canDraw_26 x1 σ = some o) {H : Heap} {locs : List Loc} {ls : Array Slot} (hs : cb_H shM A T D σ s.heap H locs) (hl : lv_has ls 2 [(0, .ref (A 0)), (1, .int x1)]) : cb_W p l e 1 s m args below meth c shM A T D (some (.int o)) σ H locs (F0 m 26 ls []) := by
  obtain ⟨hx, hb, hml, hr, hown, hts, hK, hlk, hN⟩ := id C
  unfold f_X8_canDraw_26 at hf
  refine lv_iconst (v := 0) hx hb dX8_canDraw_26 (by decide) ?_
  have hf := Option.some.inj hf
  subst hf
  exact cb_retz C hs (Or.inl rfl) dX8_canDraw_27
def f_X8_canDraw (x1 : Int32) (σ : cb_St)  : Option (Int32) := cb_ck (0 ≤ Int32.toInt (13 + x1) ∧ Int32.toInt (13 + x1) < 51) (if 0 ≤ (σ.1 3 (Int32.toNatClampNeg (13 + x1))) then (f_X8_canDraw_26 x1 σ) else (cb_ck (0 ≤ Int32.toInt 12 ∧ Int32.toInt 12 < 51) (if (σ.1 3 (Int32.toNatClampNeg 12)) ≤ 0 then (f_X8_canDraw_26 x1 σ) else (some 1))))
set_option maxHeartbeats 4000000 in
set_option maxRecDepth 100000 in
theorem c_X8_canDraw {x1 : Int32} {σ : cb_St}   {o : Int32} (hf : f_X8_canDraw x1 σ = some o) : cb_M l yX8_canDraw cX8_canDraw 2 (some .boolean) 1 shM A T D σ [.ref (A 0), .int x1] (some (.int o)) σ := by
  refine cb_met (by decide +kernel) (Nat.le_of_ble_eq_true rfl) ?_
  intro p e s m below meth c C hs ls hl
  have hl : lv_has ls 2 [(0, .ref (A 0)), (1, .int x1)] := hl
  obtain ⟨hx, hb, hml, hr, hown, hts, hK, hlk, hN⟩ := id C
  unfold f_X8_canDraw at hf
  refine lv_aload_n hx hb dX8_canDraw_0 rfl (lv_at hl 0 rfl) ?_
  refine gf_X8_16 C hs rfl dX8_canDraw_1 ?_
  refine lv_bipush (v := 13) hx hb dX8_canDraw_4 (by decide) ?_
  refine lv_iload_n hx hb dX8_canDraw_6 rfl (lv_at hl 1 rfl) ?_
  refine lv_iadd hx hb dX8_canDraw_7 ?_
  obtain ⟨hc, hf⟩ := cb_ck_inv hf
  refine cb_iald C hs rfl (vp_in_iff.mpr hc) dX8_canDraw_8 ?_
  refine lv_if_ge (tgt := 26) hx hb dX8_canDraw_9 (by decide) (fun cn => ?_) (fun cn => ?_)
  · replace hf := cb_ifp cn hf
    exact w_X8_canDraw_26 C  hf hs (lv_sub hl [0, 1] rfl)
  · replace hf := cb_ifn cn hf
    refine lv_aload_n hx hb dX8_canDraw_12 rfl (lv_at hl 0 rfl) ?_
    refine gf_X8_16 C hs rfl dX8_canDraw_13 ?_
    refine lv_bipush (v := 12) hx hb dX8_canDraw_16 (by decide) ?_
    obtain ⟨hc, hf⟩ := cb_ck_inv hf
    refine cb_iald C hs rfl (vp_in_iff.mpr hc) dX8_canDraw_18 ?_
    refine lv_if_le (tgt := 26) hx hb dX8_canDraw_19 (by decide) (fun cn => ?_) (fun cn => ?_)
    · replace hf := cb_ifp cn hf
      exact w_X8_canDraw_26 C  hf hs (lv_sub hl [0, 1] rfl)
    · replace hf := cb_ifn cn hf
      refine lv_iconst (v := 1) hx hb dX8_canDraw_22 (by decide) ?_
      refine lv_goto (tgt := 27) hx hb dX8_canDraw_23 (by decide) ?_
      have hf := Option.some.inj hf
      subst hf
      exact cb_retz C hs (Or.inr rfl) dX8_canDraw_27
/-! ===== CardBecomeModel.placeOf ===== -/
def f_X8_placeOf_2 (x1 : Int32) (σ : cb_St) : Nat → Int32 → Option (Int32)
  | 0, _ => none
  | fu + 1, x2 => cb_ck (0 ≤ Int32.toInt 12 ∧ Int32.toInt 12 < 51) (if (σ.1 3 (Int32.toNatClampNeg 12)) ≤ x2 then (some (-1)) else (cb_ck (0 ≤ Int32.toInt (0 + x2) ∧ Int32.toInt (0 + x2) < 51) (if (σ.1 3 (Int32.toNatClampNeg (0 + x2))) = x1 then (some x2) else (cb_let (x2 + 1) (fun x2_0 => f_X8_placeOf_2 x1 σ fu x2_0)))))
set_option maxHeartbeats 4000000 in
set_option maxRecDepth 100000 in
theorem w_X8_placeOf_2 (C : cb_C p s m args meth c cX8_placeOf 3 (some .int) RX8 D T) {x1 : Int32} {σ : cb_St} {o : Int32}  : ∀ (fu : Nat) (x2 : Int32), f_X8_placeOf_2 x1 σ fu x2 = some o → ∀ (H : Heap) (locs : List Loc) (ls : Array Slot), cb_H shM A T D σ s.heap H locs → lv_has ls 3 [(0, .ref (A 0)), (1, .int x1), (2, .int x2)] → cb_W p l e 1 s m args below meth c shM A T D (some (.int o)) σ H locs (F0 m 2 ls []) := by
  obtain ⟨hx, hb, hml, hr, hown, hts, hK, hlk, hN⟩ := id C
  intro fu
  induction fu with
  | zero =>
    intro x2 hf
    rw [f_X8_placeOf_2] at hf
    cases hf
  | succ fu ih =>
    intro x2 hf H locs ls hs hl
    rw [f_X8_placeOf_2] at hf
    refine lv_iload_n hx hb dX8_placeOf_2 rfl (lv_at hl 2 rfl) ?_
    refine lv_aload_n hx hb dX8_placeOf_3 rfl (lv_at hl 0 rfl) ?_
    refine gf_X8_16 C hs rfl dX8_placeOf_4 ?_
    refine lv_bipush (v := 12) hx hb dX8_placeOf_7 (by decide) ?_
    obtain ⟨hc, hf⟩ := cb_ck_inv hf
    refine cb_iald C hs rfl (vp_in_iff.mpr hc) dX8_placeOf_9 ?_
    refine lv_icmp_ge (tgt := 33) hx hb dX8_placeOf_10 (by decide) (fun cn => ?_) (fun cn => ?_)
    · replace hf := cb_ifp cn hf
      refine lv_iconst (v := (-1)) hx hb dX8_placeOf_33 (by decide) ?_
      have hf := Option.some.inj hf
      subst hf
      exact cb_reti C hs dX8_placeOf_34
    · replace hf := cb_ifn cn hf
      refine lv_aload_n hx hb dX8_placeOf_13 rfl (lv_at hl 0 rfl) ?_
      refine gf_X8_16 C hs rfl dX8_placeOf_14 ?_
      refine lv_iconst (v := 0) hx hb dX8_placeOf_17 (by decide) ?_
      refine lv_iload_n hx hb dX8_placeOf_18 rfl (lv_at hl 2 rfl) ?_
      refine lv_iadd hx hb dX8_placeOf_19 ?_
      obtain ⟨hc, hf⟩ := cb_ck_inv hf
      refine cb_iald C hs rfl (vp_in_iff.mpr hc) dX8_placeOf_20 ?_
      refine lv_iload_n hx hb dX8_placeOf_21 rfl (lv_at hl 1 rfl) ?_
      refine lv_icmp_ne (tgt := 27) hx hb dX8_placeOf_22 (by decide) (fun cn => ?_) (fun cn => ?_)
      · replace hf := cb_ifn cn hf
        obtain ⟨x2_0, e9, hf⟩ := cb_let_inv hf
        refine lv_iinc (v := x2_0) (lv' := [(2, .int x2_0), (0, .ref (A 0)), (1, .int x1)]) hx hb dX8_placeOf_27 hl (k := 2) rfl (by rw [e9]; rfl) (by decide) rfl (fun ls hl => ?_)
        clear e9
        refine lv_goto (tgt := 2) hx hb dX8_placeOf_30 (by decide) ?_
        exact ih _ hf _ _ _ hs (lv_sub hl [1, 2, 0] rfl)
      · replace hf := cb_ifp cn hf
        refine lv_iload_n hx hb dX8_placeOf_25 rfl (lv_at hl 2 rfl) ?_
        have hf := Option.some.inj hf
        subst hf
        exact cb_reti C hs dX8_placeOf_26
def f_X8_placeOf (x1 : Int32) (σ : cb_St)  : Option (Int32) := f_X8_placeOf_2 x1 σ cb_fu 0
set_option maxHeartbeats 4000000 in
set_option maxRecDepth 100000 in
theorem c_X8_placeOf {x1 : Int32} {σ : cb_St}   {o : Int32} (hf : f_X8_placeOf x1 σ = some o) : cb_M l yX8_placeOf cX8_placeOf 3 (some .int) 1 shM A T D σ [.ref (A 0), .int x1] (some (.int o)) σ := by
  refine cb_met (by decide +kernel) (Nat.le_of_ble_eq_true rfl) ?_
  intro p e s m below meth c C hs ls hl
  have hl : lv_has ls 3 [(0, .ref (A 0)), (1, .int x1)] := hl
  obtain ⟨hx, hb, hml, hr, hown, hts, hK, hlk, hN⟩ := id C
  unfold f_X8_placeOf at hf
  refine lv_iconst (v := 0) hx hb dX8_placeOf_0 (by decide) ?_
  refine lv_istore_n (lv' := [(2, .int 0), (0, .ref (A 0)), (1, .int x1)]) hx hb dX8_placeOf_1 rfl hl (by decide) rfl (fun ls hl => ?_)
  exact w_X8_placeOf_2 C  cb_fu _ hf _ _ _ hs (lv_sub hl [1, 2, 0] rfl)
/-! ===== CardBecomeModel.whoIs ===== -/
def f_X8_whoIs_30 (K4 : Int32 → Int32 → Option (Int32)) (x1 : Int32) (σ : cb_St) (x3 : Int32) (s0 : Int32) : Option (Int32) := cb_let (x3 + 1) (fun x3_0 => K4 s0 x3_0)
set_option maxHeartbeats 4000000 in
set_option maxRecDepth 100000 in
theorem w_X8_whoIs_30 (C : cb_C p s m args meth c cX8_whoIs 4 (some .int) RX8 D T) {K4 : Int32 → Int32 → Option (Int32)} {x1 : Int32} {σ : cb_St} {o : Int32} (hK4 : ∀ (x2 : Int32) (x3 : Int32), K4 x2 x3 = some o → ∀ (H : Heap) (locs : List Loc) (ls : Array Slot), cb_H shM A T D σ s.heap H locs → lv_has ls 4 [(0, .ref (A 0)), (1, .int x1), (2, .int x2), (3, .int x3)] → cb_W p l e 1 s m args below meth c shM A T D (some (.int o)) σ H locs (F0 m 4 ls [])) {x3 : Int32} {s0 : Int32} (hf : f_X8_whoIs_30 K4 x1 σ x3 s0 = some o) {H : Heap} {locs : List Loc} {ls : Array Slot} (hs : cb_H shM A T D σ s.heap H locs) (hl : lv_has ls 4 [(0, .ref (A 0)), (1, .int x1), (3, .int x3)]) : cb_W p l e 1 s m args below meth c shM A T D (some (.int o)) σ H locs (F0 m 30 ls [.int s0]) := by
  obtain ⟨hx, hb, hml, hr, hown, hts, hK, hlk, hN⟩ := id C
  unfold f_X8_whoIs_30 at hf
  refine lv_istore_n (lv' := [(2, .int s0), (0, .ref (A 0)), (1, .int x1), (3, .int x3)]) hx hb dX8_whoIs_30 rfl hl (by decide) rfl (fun ls hl => ?_)
  obtain ⟨x3_0, e9, hf⟩ := cb_let_inv hf
  refine lv_iinc (v := x3_0) (lv' := [(3, .int x3_0), (2, .int s0), (0, .ref (A 0)), (1, .int x1)]) hx hb dX8_whoIs_31 hl (k := 3) rfl (by rw [e9]; rfl) (by decide) rfl (fun ls hl => ?_)
  clear e9
  refine lv_goto (tgt := 4) hx hb dX8_whoIs_34 (by decide) ?_
  exact hK4 _ _ hf _ _ _ hs (lv_sub hl [2, 3, 1, 0] rfl)
def f_X8_whoIs_4 (x1 : Int32) (σ : cb_St) : Nat → Int32 → Int32 → Option (Int32)
  | 0, _, _ => none
  | fu + 1, x2, x3 => if (σ.1 0 7) ≤ x3 then (some x2) else (cb_ck (0 ≤ Int32.toInt (13 + x3) ∧ Int32.toInt (13 + x3) < 51) (if (σ.1 3 (Int32.toNatClampNeg (13 + x3))) = x1 then (f_X8_whoIs_30 (f_X8_whoIs_4 x1 σ fu) x1 σ x3 x3) else (f_X8_whoIs_30 (f_X8_whoIs_4 x1 σ fu) x1 σ x3 x2)))
set_option maxHeartbeats 4000000 in
set_option maxRecDepth 100000 in
theorem w_X8_whoIs_4 (C : cb_C p s m args meth c cX8_whoIs 4 (some .int) RX8 D T) {x1 : Int32} {σ : cb_St} {o : Int32}  : ∀ (fu : Nat) (x2 : Int32) (x3 : Int32), f_X8_whoIs_4 x1 σ fu x2 x3 = some o → ∀ (H : Heap) (locs : List Loc) (ls : Array Slot), cb_H shM A T D σ s.heap H locs → lv_has ls 4 [(0, .ref (A 0)), (1, .int x1), (2, .int x2), (3, .int x3)] → cb_W p l e 1 s m args below meth c shM A T D (some (.int o)) σ H locs (F0 m 4 ls []) := by
  obtain ⟨hx, hb, hml, hr, hown, hts, hK, hlk, hN⟩ := id C
  intro fu
  induction fu with
  | zero =>
    intro x2 x3 hf
    rw [f_X8_whoIs_4] at hf
    cases hf
  | succ fu ih =>
    intro x2 x3 hf H locs ls hs hl
    rw [f_X8_whoIs_4] at hf
    refine lv_iload_n hx hb dX8_whoIs_4 rfl (lv_at hl 3 rfl) ?_
    refine lv_aload_n hx hb dX8_whoIs_5 rfl (lv_at hl 0 rfl) ?_
    refine gf_X8_75 C hs rfl dX8_whoIs_6 ?_
    refine lv_icmp_ge (tgt := 37) hx hb dX8_whoIs_9 (by decide) (fun cn => ?_) (fun cn => ?_)
    · replace hf := cb_ifp cn hf
      refine lv_iload_n hx hb dX8_whoIs_37 rfl (lv_at hl 2 rfl) ?_
      have hf := Option.some.inj hf
      subst hf
      exact cb_reti C hs dX8_whoIs_38
    · replace hf := cb_ifn cn hf
      refine lv_aload_n hx hb dX8_whoIs_12 rfl (lv_at hl 0 rfl) ?_
      refine gf_X8_16 C hs rfl dX8_whoIs_13 ?_
      refine lv_bipush (v := 13) hx hb dX8_whoIs_16 (by decide) ?_
      refine lv_iload_n hx hb dX8_whoIs_18 rfl (lv_at hl 3 rfl) ?_
      refine lv_iadd hx hb dX8_whoIs_19 ?_
      obtain ⟨hc, hf⟩ := cb_ck_inv hf
      refine cb_iald C hs rfl (vp_in_iff.mpr hc) dX8_whoIs_20 ?_
      refine lv_iload_n hx hb dX8_whoIs_21 rfl (lv_at hl 1 rfl) ?_
      refine lv_icmp_ne (tgt := 29) hx hb dX8_whoIs_22 (by decide) (fun cn => ?_) (fun cn => ?_)
      · replace hf := cb_ifn cn hf
        refine lv_iload_n hx hb dX8_whoIs_29 rfl (lv_at hl 2 rfl) ?_
        exact w_X8_whoIs_30 C ih hf hs (lv_sub hl [0, 1, 3] rfl)
      · replace hf := cb_ifp cn hf
        refine lv_iload_n hx hb dX8_whoIs_25 rfl (lv_at hl 3 rfl) ?_
        refine lv_goto (tgt := 30) hx hb dX8_whoIs_26 (by decide) ?_
        exact w_X8_whoIs_30 C ih hf hs (lv_sub hl [0, 1, 3] rfl)
def f_X8_whoIs (x1 : Int32) (σ : cb_St)  : Option (Int32) := f_X8_whoIs_4 x1 σ cb_fu (-1) 0
set_option maxHeartbeats 4000000 in
set_option maxRecDepth 100000 in
theorem c_X8_whoIs {x1 : Int32} {σ : cb_St}   {o : Int32} (hf : f_X8_whoIs x1 σ = some o) : cb_M l yX8_whoIs cX8_whoIs 4 (some .int) 1 shM A T D σ [.ref (A 0), .int x1] (some (.int o)) σ := by
  refine cb_met (by decide +kernel) (Nat.le_of_ble_eq_true rfl) ?_
  intro p e s m below meth c C hs ls hl
  have hl : lv_has ls 4 [(0, .ref (A 0)), (1, .int x1)] := hl
  obtain ⟨hx, hb, hml, hr, hown, hts, hK, hlk, hN⟩ := id C
  unfold f_X8_whoIs at hf
  refine lv_iconst (v := (-1)) hx hb dX8_whoIs_0 (by decide) ?_
  refine lv_istore_n (lv' := [(2, .int (-1)), (0, .ref (A 0)), (1, .int x1)]) hx hb dX8_whoIs_1 rfl hl (by decide) rfl (fun ls hl => ?_)
  refine lv_iconst (v := 0) hx hb dX8_whoIs_2 (by decide) ?_
  refine lv_istore_n (lv' := [(3, .int 0), (2, .int (-1)), (0, .ref (A 0)), (1, .int x1)]) hx hb dX8_whoIs_3 rfl hl (by decide) rfl (fun ls hl => ?_)
  exact w_X8_whoIs_4 C  cb_fu _ _ hf _ _ _ hs (lv_sub hl [2, 3, 1, 0] rfl)
/-! ===== CardBecomeModel.card ===== -/
def f_X8_card (x1 : Int32) (x2 : Int32) (σ : cb_St)  : Option (Int32) := cb_bp (f_X8_isCard x1 σ) (fun r_1 => if r_1 = 0 then (some (-1000000001)) else (if x2 = 0 then (cb_ck (0 ≤ Int32.toInt x1 ∧ Int32.toInt x1 < 12) (some (σ.1 1 (Int32.toNatClampNeg x1)))) else (if x2 = 1 then (cb_ck (0 ≤ Int32.toInt x1 ∧ Int32.toInt x1 < 12) (some (σ.1 2 (Int32.toNatClampNeg x1)))) else (if x2 = 2 then (cb_bp (f_X8_placeOf x1 σ) (fun r_2 => some r_2)) else (if x2 = 3 then (cb_bp (f_X8_whoIs x1 σ) (fun r_3 => some r_3)) else (if x2 = 4 then (cb_ck (0 ≤ Int32.toInt 25 ∧ Int32.toInt 25 < 51) (some (((σ.1 3 (Int32.toNatClampNeg 25)) >>> (x1 &&& 31)) &&& 1))) else (some (-1000000002))))))))
set_option maxHeartbeats 4000000 in
set_option maxRecDepth 100000 in
theorem c_X8_card {x1 : Int32} {x2 : Int32} {σ : cb_St}   {o : Int32} (hf : f_X8_card x1 x2 σ = some o) : cb_M l yX8_card cX8_card 3 (some .int) 3 shM A T D σ [.ref (A 0), .int x1, .int x2] (some (.int o)) σ := by
  refine cb_met (by decide +kernel) (Nat.le_of_ble_eq_true rfl) ?_
  intro p e s m below meth c C hs ls hl
  have hl : lv_has ls 3 [(0, .ref (A 0)), (1, .int x1), (2, .int x2)] := hl
  obtain ⟨hx, hb, hml, hr, hown, hts, hK, hlk, hN⟩ := id C
  unfold f_X8_card at hf
  refine lv_aload_n hx hb dX8_card_0 rfl (lv_at hl 0 rfl) ?_
  refine lv_iload_n hx hb dX8_card_1 rfl (lv_at hl 1 rfl) ?_
  obtain ⟨r_1, hc, hf⟩ := cb_bp_inv hf
  refine cb_callVi C (c_X8_isCard  hc) mw_X8_isCard ml_X8_206 rfl ⟨Nat.le_of_ble_eq_true rfl, Nat.le_of_ble_eq_true rfl⟩ rfl (Nat.le_of_ble_eq_true rfl) rfl hs hl rfl (Nat.le_of_ble_eq_true rfl) dX8_card_2 (fun H locs hs => ?_)
  clear hc
  refine lv_if_ne (tgt := 11) hx hb dX8_card_5 (by decide) (fun cn => ?_) (fun cn => ?_)
  · replace hf := cb_ifn cn hf
    refine lv_iload_n hx hb dX8_card_11 rfl (lv_at hl 2 rfl) ?_
    by_cases cn0 : x2 = 0
    · replace hf := cb_ifp cn0 hf
      refine lv_tableIn (tgt := 48) hx hb dX8_card_12 (by rw [cn0]; decide) (by rw [cn0]; decide) (by rw [cn0]; rfl) (by decide) ?_
      refine lv_aload_n hx hb dX8_card_48 rfl (lv_at hl 0 rfl) ?_
      refine gf_X8_7 C hs rfl dX8_card_49 ?_
      refine lv_iload_n hx hb dX8_card_52 rfl (lv_at hl 1 rfl) ?_
      obtain ⟨hc, hf⟩ := cb_ck_inv hf
      refine cb_iald C hs rfl (vp_in_iff.mpr hc) dX8_card_53 ?_
      have hf := Option.some.inj hf
      subst hf
      exact cb_reti C hs dX8_card_54
    replace hf := cb_ifn cn0 hf
    by_cases cn1 : x2 = 1
    · replace hf := cb_ifp cn1 hf
      refine lv_tableIn (tgt := 55) hx hb dX8_card_12 (by rw [cn1]; decide) (by rw [cn1]; decide) (by rw [cn1]; rfl) (by decide) ?_
      refine lv_aload_n hx hb dX8_card_55 rfl (lv_at hl 0 rfl) ?_
      refine gf_X8_13 C hs rfl dX8_card_56 ?_
      refine lv_iload_n hx hb dX8_card_59 rfl (lv_at hl 1 rfl) ?_
      obtain ⟨hc, hf⟩ := cb_ck_inv hf
      refine cb_iald C hs rfl (vp_in_iff.mpr hc) dX8_card_60 ?_
      have hf := Option.some.inj hf
      subst hf
      exact cb_reti C hs dX8_card_61
    replace hf := cb_ifn cn1 hf
    by_cases cn2 : x2 = 2
    · replace hf := cb_ifp cn2 hf
      refine lv_tableIn (tgt := 62) hx hb dX8_card_12 (by rw [cn2]; decide) (by rw [cn2]; decide) (by rw [cn2]; rfl) (by decide) ?_
      refine lv_aload_n hx hb dX8_card_62 rfl (lv_at hl 0 rfl) ?_
      refine lv_iload_n hx hb dX8_card_63 rfl (lv_at hl 1 rfl) ?_
      obtain ⟨r_2, hc, hf⟩ := cb_bp_inv hf
      refine cb_callVi C (c_X8_placeOf  hc) mw_X8_placeOf ml_X8_210 rfl ⟨Nat.le_of_ble_eq_true rfl, Nat.le_of_ble_eq_true rfl⟩ rfl (Nat.le_of_ble_eq_true rfl) rfl hs hl rfl (Nat.le_of_ble_eq_true rfl) dX8_card_64 (fun H locs hs => ?_)
      clear hc
      have hf := Option.some.inj hf
      subst hf
      exact cb_reti C hs dX8_card_67
    replace hf := cb_ifn cn2 hf
    by_cases cn3 : x2 = 3
    · replace hf := cb_ifp cn3 hf
      refine lv_tableIn (tgt := 68) hx hb dX8_card_12 (by rw [cn3]; decide) (by rw [cn3]; decide) (by rw [cn3]; rfl) (by decide) ?_
      refine lv_aload_n hx hb dX8_card_68 rfl (lv_at hl 0 rfl) ?_
      refine lv_iload_n hx hb dX8_card_69 rfl (lv_at hl 1 rfl) ?_
      obtain ⟨r_3, hc, hf⟩ := cb_bp_inv hf
      refine cb_callVi C (c_X8_whoIs  hc) mw_X8_whoIs ml_X8_213 rfl ⟨Nat.le_of_ble_eq_true rfl, Nat.le_of_ble_eq_true rfl⟩ rfl (Nat.le_of_ble_eq_true rfl) rfl hs hl rfl (Nat.le_of_ble_eq_true rfl) dX8_card_70 (fun H locs hs => ?_)
      clear hc
      have hf := Option.some.inj hf
      subst hf
      exact cb_reti C hs dX8_card_73
    replace hf := cb_ifn cn3 hf
    by_cases cn4 : x2 = 4
    · replace hf := cb_ifp cn4 hf
      refine lv_tableIn (tgt := 74) hx hb dX8_card_12 (by rw [cn4]; decide) (by rw [cn4]; decide) (by rw [cn4]; rfl) (by decide) ?_
      refine lv_aload_n hx hb dX8_card_74 rfl (lv_at hl 0 rfl) ?_
      refine gf_X8_16 C hs rfl dX8_card_75 ?_
      refine lv_bipush (v := 25) hx hb dX8_card_78 (by decide) ?_
      obtain ⟨hc, hf⟩ := cb_ck_inv hf
      refine cb_iald C hs rfl (vp_in_iff.mpr hc) dX8_card_80 ?_
      refine lv_iload_n hx hb dX8_card_81 rfl (lv_at hl 1 rfl) ?_
      refine lv_ishr hx hb dX8_card_82 ?_
      refine lv_iconst (v := 1) hx hb dX8_card_83 (by decide) ?_
      refine lv_iand hx hb dX8_card_84 ?_
      have hf := Option.some.inj hf
      subst hf
      exact cb_reti C hs dX8_card_85
    replace hf := cb_ifn cn4 hf
    refine lv_tableOut (tgt := 86) hx hb dX8_card_12 (by have g0 := lv_neT cn0 (show Int32.toInt 0 = 0 by decide); have g1 := lv_neT cn1 (show Int32.toInt 1 = 1 by decide); have g2 := lv_neT cn2 (show Int32.toInt 2 = 2 by decide); have g3 := lv_neT cn3 (show Int32.toInt 3 = 3 by decide); have g4 := lv_neT cn4 (show Int32.toInt 4 = 4 by decide); omega) (by decide) ?_
    refine lv_ldc (v := (-1000000002)) hx hb hown (hts _ kc_X8_91) dX8_card_86 ?_
    have hf := Option.some.inj hf
    subst hf
    exact cb_reti C hs dX8_card_88
  · replace hf := cb_ifp cn hf
    refine lv_ldc (v := (-1000000001)) hx hb hown (hts _ kc_X8_209) dX8_card_8 ?_
    have hf := Option.some.inj hf
    subst hf
    exact cb_reti C hs dX8_card_10
/-! ===== CardBecomeModel.draw ===== -/
def f_X8_draw (x1 : Int32) (σ : cb_St) : Option (Int32 × cb_St) := cb_let (cb_sI σ 0 9 (Int64.toInt32 ((((Int32.toInt64 (σ.1 0 9)) * 1103515245) + 12345) - (((Int32.toInt64 (σ.1 0 9)) * 1103515245) + 12345) / 2147483648 * 2147483648))) (fun σ_1 => cb_ck (¬ x1 = 0) (some (((σ_1.1 0 9) / 65536) - ((σ_1.1 0 9) / 65536) / x1 * x1, σ_1)))
set_option maxHeartbeats 4000000 in
set_option maxRecDepth 100000 in
theorem c_X8_draw {x1 : Int32}  {σ : cb_St} {o : Int32 × cb_St} (hf : f_X8_draw x1 σ = some o) : cb_M l yX8_draw cX8_draw 2 (some .int) 1 shM A T D σ [.ref (A 0), .int x1] (some (.int o.1)) o.2 := by
  refine cb_met (by decide +kernel) (Nat.le_of_ble_eq_true rfl) ?_
  intro p e s m below meth c C hs ls hl
  have hl : lv_has ls 2 [(0, .ref (A 0)), (1, .int x1)] := hl
  obtain ⟨hx, hb, hml, hr, hown, hts, hK, hlk, hN⟩ := id C
  unfold f_X8_draw at hf
  refine lv_aload_n hx hb dX8_draw_0 rfl (lv_at hl 0 rfl) ?_
  refine lv_aload_n hx hb dX8_draw_1 rfl (lv_at hl 0 rfl) ?_
  refine gf_X8_259 C hs rfl dX8_draw_2 ?_
  refine lv_i2l hx hb dX8_draw_5 rfl ?_
  refine lv_ldc2 (v := 1103515245) hx hb hown (hts _ kc_X8_262) dX8_draw_6 ?_
  refine lv_lmul hx hb dX8_draw_9 ?_
  refine lv_ldc2 (v := 12345) hx hb hown (hts _ kc_X8_264) dX8_draw_10 ?_
  refine lv_ladd hx hb dX8_draw_13 ?_
  refine lv_ldc2 (v := 2147483648) hx hb hown (hts _ kc_X8_266) dX8_draw_14 ?_
  refine lv_lrem hx hb dX8_draw_17 (by decide) ?_
  refine lv_l2i hx hb dX8_draw_18 rfl ?_
  refine pf_X8_259 C hs rfl dX8_draw_19 (fun H locs hs => ?_)
  obtain ⟨σ_1, e9, hf⟩ := cb_let_inv hf
  replace hs := cb_Hc e9 hs
  clear e9
  refine lv_aload_n hx hb dX8_draw_22 rfl (lv_at hl 0 rfl) ?_
  refine gf_X8_259 C hs rfl dX8_draw_23 ?_
  refine lv_ldcw (v := 65536) hx hb hown (hts _ kc_X8_268) dX8_draw_26 ?_
  refine lv_idiv hx hb dX8_draw_29 (by decide) ?_
  refine lv_iload_n hx hb dX8_draw_30 rfl (lv_at hl 1 rfl) ?_
  obtain ⟨hc, hf⟩ := cb_ck_inv hf
  refine lv_irem hx hb dX8_draw_31 hc ?_
  have hf := Option.some.inj hf
  subst hf
  exact cb_reti C hs dX8_draw_32
/-! ===== CardBecomeModel.remember ===== -/
def f_X8_remember_52  : Nat → cb_St → Int32 → Option (cb_St)
  | 0, _, _ => none
  | fu + 1, σ, x1 => if 51 ≤ x1 then (cb_let (cb_sI σ 0 22 ((σ.1 0 22) + 1)) (fun σ_1 => some σ_1)) else (cb_ck (0 ≤ Int32.toInt x1 ∧ Int32.toInt x1 < 51) (cb_ck (0 ≤ Int32.toInt ((51 * (σ.1 0 22)) + x1) ∧ Int32.toInt ((51 * (σ.1 0 22)) + x1) < 816) (cb_let (cb_sI σ 8 (Int32.toNatClampNeg ((51 * (σ.1 0 22)) + x1)) (σ.1 3 (Int32.toNatClampNeg x1))) (fun σ_2 => cb_let (x1 + 1) (fun x1_2 => f_X8_remember_52 fu σ_2 x1_2)))))
set_option maxHeartbeats 4000000 in
set_option maxRecDepth 100000 in
theorem w_X8_remember_52 (C : cb_C p s m args meth c cX8_remember 2 none RX8 D T)  {o : cb_St}  : ∀ (fu : Nat) (σ : cb_St) (x1 : Int32), f_X8_remember_52 fu σ x1 = some o → ∀ (H : Heap) (locs : List Loc) (ls : Array Slot), cb_H shM A T D σ s.heap H locs → lv_has ls 2 [(0, .ref (A 0)), (1, .int x1)] → cb_W p l e 1 s m args below meth c shM A T D none o H locs (F0 m 52 ls []) := by
  obtain ⟨hx, hb, hml, hr, hown, hts, hK, hlk, hN⟩ := id C
  intro fu
  induction fu with
  | zero =>
    intro σ x1 hf
    rw [f_X8_remember_52] at hf
    cases hf
  | succ fu ih =>
    intro σ x1 hf H locs ls hs hl
    rw [f_X8_remember_52] at hf
    refine lv_iload_n hx hb dX8_remember_52 rfl (lv_at hl 1 rfl) ?_
    refine lv_bipush (v := 51) hx hb dX8_remember_53 (by decide) ?_
    refine lv_icmp_ge (tgt := 84) hx hb dX8_remember_55 (by decide) (fun cn => ?_) (fun cn => ?_)
    · replace hf := cb_ifp cn hf
      refine lv_aload_n hx hb dX8_remember_84 rfl (lv_at hl 0 rfl) ?_
      refine lv_dup hx hb dX8_remember_85 rfl ?_
      refine gf_X8_167 C hs rfl dX8_remember_86 ?_
      refine lv_iconst (v := 1) hx hb dX8_remember_89 (by decide) ?_
      refine lv_iadd hx hb dX8_remember_90 ?_
      refine pf_X8_167 C hs rfl dX8_remember_91 (fun H locs hs => ?_)
      obtain ⟨σ_1, e9, hf⟩ := cb_let_inv hf
      replace hs := cb_Hc e9 hs
      clear e9
      have hf := Option.some.inj hf
      subst hf
      exact cb_retv C hs dX8_remember_94
    · replace hf := cb_ifn cn hf
      refine lv_aload_n hx hb dX8_remember_58 rfl (lv_at hl 0 rfl) ?_
      refine gf_X8_35 C hs rfl dX8_remember_59 ?_
      refine lv_bipush (v := 51) hx hb dX8_remember_62 (by decide) ?_
      refine lv_aload_n hx hb dX8_remember_64 rfl (lv_at hl 0 rfl) ?_
      refine gf_X8_167 C hs rfl dX8_remember_65 ?_
      refine lv_imul hx hb dX8_remember_68 ?_
      refine lv_iload_n hx hb dX8_remember_69 rfl (lv_at hl 1 rfl) ?_
      refine lv_iadd hx hb dX8_remember_70 ?_
      refine lv_aload_n hx hb dX8_remember_71 rfl (lv_at hl 0 rfl) ?_
      refine gf_X8_16 C hs rfl dX8_remember_72 ?_
      refine lv_iload_n hx hb dX8_remember_75 rfl (lv_at hl 1 rfl) ?_
      obtain ⟨hc, hf⟩ := cb_ck_inv hf
      refine cb_iald C hs rfl (vp_in_iff.mpr hc) dX8_remember_76 ?_
      obtain ⟨hc, hf⟩ := cb_ck_inv hf
      refine cb_iast C hs rfl (vp_in_iff.mpr hc) dX8_remember_77 (fun H locs hs => ?_)
      obtain ⟨σ_2, e9, hf⟩ := cb_let_inv hf
      replace hs := cb_Hc e9 hs
      clear e9
      obtain ⟨x1_2, e9, hf⟩ := cb_let_inv hf
      refine lv_iinc (v := x1_2) (lv' := [(1, .int x1_2), (0, .ref (A 0))]) hx hb dX8_remember_78 hl (k := 1) rfl (by rw [e9]; rfl) (by decide) rfl (fun ls hl => ?_)
      clear e9
      refine lv_goto (tgt := 52) hx hb dX8_remember_81 (by decide) ?_
      exact ih _ _ hf _ _ _ hs (lv_sub hl [1, 0] rfl)
def f_X8_remember_50  (σ : cb_St) : Option (cb_St) := f_X8_remember_52 cb_fu σ 0
set_option maxHeartbeats 4000000 in
set_option maxRecDepth 100000 in
theorem w_X8_remember_50 (C : cb_C p s m args meth c cX8_remember 2 none RX8 D T)  {o : cb_St}  {σ : cb_St} (hf : f_X8_remember_50 σ = some o) {H : Heap} {locs : List Loc} {ls : Array Slot} (hs : cb_H shM A T D σ s.heap H locs) (hl : lv_has ls 2 [(0, .ref (A 0))]) : cb_W p l e 1 s m args below meth c shM A T D none o H locs (F0 m 50 ls []) := by
  obtain ⟨hx, hb, hml, hr, hown, hts, hK, hlk, hN⟩ := id C
  unfold f_X8_remember_50 at hf
  refine lv_iconst (v := 0) hx hb dX8_remember_50 (by decide) ?_
  refine lv_istore_n (lv' := [(1, .int 0), (0, .ref (A 0))]) hx hb dX8_remember_51 rfl hl (by decide) rfl (fun ls hl => ?_)
  exact w_X8_remember_52 C  cb_fu _ _ hf _ _ _ hs (lv_sub hl [1, 0] rfl)
def f_X8_remember_12  : Nat → cb_St → Int32 → Option (cb_St)
  | 0, _, _ => none
  | fu + 1, σ, x1 => if 816 ≤ x1 then (cb_let (cb_sI σ 0 22 ((σ.1 0 22) - 1)) (fun σ_1 => f_X8_remember_50 σ_1)) else (cb_ck (0 ≤ Int32.toInt x1 ∧ Int32.toInt x1 < 816) (cb_ck (0 ≤ Int32.toInt (x1 - 51) ∧ Int32.toInt (x1 - 51) < 816) (cb_let (cb_sI σ 8 (Int32.toNatClampNeg (x1 - 51)) (σ.1 8 (Int32.toNatClampNeg x1))) (fun σ_2 => cb_let (x1 + 1) (fun x1_2 => f_X8_remember_12 fu σ_2 x1_2)))))
set_option maxHeartbeats 4000000 in
set_option maxRecDepth 100000 in
theorem w_X8_remember_12 (C : cb_C p s m args meth c cX8_remember 2 none RX8 D T)  {o : cb_St}  : ∀ (fu : Nat) (σ : cb_St) (x1 : Int32), f_X8_remember_12 fu σ x1 = some o → ∀ (H : Heap) (locs : List Loc) (ls : Array Slot), cb_H shM A T D σ s.heap H locs → lv_has ls 2 [(0, .ref (A 0)), (1, .int x1)] → cb_W p l e 1 s m args below meth c shM A T D none o H locs (F0 m 12 ls []) := by
  obtain ⟨hx, hb, hml, hr, hown, hts, hK, hlk, hN⟩ := id C
  intro fu
  induction fu with
  | zero =>
    intro σ x1 hf
    rw [f_X8_remember_12] at hf
    cases hf
  | succ fu ih =>
    intro σ x1 hf H locs ls hs hl
    rw [f_X8_remember_12] at hf
    refine lv_iload_n hx hb dX8_remember_12 rfl (lv_at hl 1 rfl) ?_
    refine lv_sipush (v := 816) hx hb dX8_remember_13 (by decide) ?_
    refine lv_icmp_ge (tgt := 40) hx hb dX8_remember_16 (by decide) (fun cn => ?_) (fun cn => ?_)
    · replace hf := cb_ifp cn hf
      refine lv_aload_n hx hb dX8_remember_40 rfl (lv_at hl 0 rfl) ?_
      refine lv_dup hx hb dX8_remember_41 rfl ?_
      refine gf_X8_167 C hs rfl dX8_remember_42 ?_
      refine lv_iconst (v := 1) hx hb dX8_remember_45 (by decide) ?_
      refine lv_isub hx hb dX8_remember_46 ?_
      refine pf_X8_167 C hs rfl dX8_remember_47 (fun H locs hs => ?_)
      obtain ⟨σ_1, e9, hf⟩ := cb_let_inv hf
      replace hs := cb_Hc e9 hs
      clear e9
      exact w_X8_remember_50 C  hf hs (lv_sub hl [0] rfl)
    · replace hf := cb_ifn cn hf
      refine lv_aload_n hx hb dX8_remember_19 rfl (lv_at hl 0 rfl) ?_
      refine gf_X8_35 C hs rfl dX8_remember_20 ?_
      refine lv_iload_n hx hb dX8_remember_23 rfl (lv_at hl 1 rfl) ?_
      refine lv_bipush (v := 51) hx hb dX8_remember_24 (by decide) ?_
      refine lv_isub hx hb dX8_remember_26 ?_
      refine lv_aload_n hx hb dX8_remember_27 rfl (lv_at hl 0 rfl) ?_
      refine gf_X8_35 C hs rfl dX8_remember_28 ?_
      refine lv_iload_n hx hb dX8_remember_31 rfl (lv_at hl 1 rfl) ?_
      obtain ⟨hc, hf⟩ := cb_ck_inv hf
      refine cb_iald C hs rfl (vp_in_iff.mpr hc) dX8_remember_32 ?_
      obtain ⟨hc, hf⟩ := cb_ck_inv hf
      refine cb_iast C hs rfl (vp_in_iff.mpr hc) dX8_remember_33 (fun H locs hs => ?_)
      obtain ⟨σ_2, e9, hf⟩ := cb_let_inv hf
      replace hs := cb_Hc e9 hs
      clear e9
      obtain ⟨x1_2, e9, hf⟩ := cb_let_inv hf
      refine lv_iinc (v := x1_2) (lv' := [(1, .int x1_2), (0, .ref (A 0))]) hx hb dX8_remember_34 hl (k := 1) rfl (by rw [e9]; rfl) (by decide) rfl (fun ls hl => ?_)
      clear e9
      refine lv_goto (tgt := 12) hx hb dX8_remember_37 (by decide) ?_
      exact ih _ _ hf _ _ _ hs (lv_sub hl [1, 0] rfl)
def f_X8_remember  (σ : cb_St) : Option (cb_St) := if (σ.1 0 22) = 16 then (f_X8_remember_12 cb_fu σ 51) else (f_X8_remember_50 σ)
set_option maxHeartbeats 4000000 in
set_option maxRecDepth 100000 in
theorem c_X8_remember   {σ : cb_St} {o : cb_St} (hf : f_X8_remember σ = some o) : cb_M l yX8_remember cX8_remember 2 none 1 shM A T D σ [.ref (A 0)] none o := by
  refine cb_met (by decide +kernel) (Nat.le_of_ble_eq_true rfl) ?_
  intro p e s m below meth c C hs ls hl
  have hl : lv_has ls 2 [(0, .ref (A 0))] := hl
  obtain ⟨hx, hb, hml, hr, hown, hts, hK, hlk, hN⟩ := id C
  unfold f_X8_remember at hf
  refine lv_aload_n hx hb dX8_remember_0 rfl (lv_at hl 0 rfl) ?_
  refine gf_X8_167 C hs rfl dX8_remember_1 ?_
  refine lv_bipush (v := 16) hx hb dX8_remember_4 (by decide) ?_
  refine lv_icmp_ne (tgt := 50) hx hb dX8_remember_6 (by decide) (fun cn => ?_) (fun cn => ?_)
  · replace hf := cb_ifn cn hf
    exact w_X8_remember_50 C  hf hs (lv_sub hl [0] rfl)
  · replace hf := cb_ifp cn hf
    refine lv_bipush (v := 51) hx hb dX8_remember_9 (by decide) ?_
    refine lv_istore_n (lv' := [(1, .int 51), (0, .ref (A 0))]) hx hb dX8_remember_11 rfl hl (by decide) rfl (fun ls hl => ?_)
    exact w_X8_remember_12 C  cb_fu _ _ hf _ _ _ hs (lv_sub hl [1, 0] rfl)
/-! ===== CardBecomeModel.takeAt ===== -/
def f_X8_takeAt_22 (x1 : Int32) : Nat → cb_St → Int32 → Int32 → Option (Int32 × cb_St)
  | 0, _, _, _ => none
  | fu + 1, σ, x2, x3 => cb_ck (0 ≤ Int32.toInt 12 ∧ Int32.toInt 12 < 51) (if (σ.1 3 (Int32.toNatClampNeg 12)) ≤ x3 then (cb_ck (0 ≤ Int32.toInt 12 ∧ Int32.toInt 12 < 51) (cb_ck (0 ≤ Int32.toInt (0 + (σ.1 3 (Int32.toNatClampNeg 12))) ∧ Int32.toInt (0 + (σ.1 3 (Int32.toNatClampNeg 12))) < 51) (cb_let (cb_sI σ 3 (Int32.toNatClampNeg (0 + (σ.1 3 (Int32.toNatClampNeg 12)))) 0) (fun σ_1 => some (x2, σ_1))))) else (cb_ck (0 ≤ Int32.toInt ((0 + x3) + 1) ∧ Int32.toInt ((0 + x3) + 1) < 51) (cb_ck (0 ≤ Int32.toInt (0 + x3) ∧ Int32.toInt (0 + x3) < 51) (cb_let (cb_sI σ 3 (Int32.toNatClampNeg (0 + x3)) (σ.1 3 (Int32.toNatClampNeg ((0 + x3) + 1)))) (fun σ_2 => cb_let (x3 + 1) (fun x3_2 => f_X8_takeAt_22 x1 fu σ_2 x2 x3_2))))))
set_option maxHeartbeats 4000000 in
set_option maxRecDepth 100000 in
theorem w_X8_takeAt_22 (C : cb_C p s m args meth c cX8_takeAt 4 (some .int) RX8 D T) {x1 : Int32} {o : Int32 × cb_St}  : ∀ (fu : Nat) (σ : cb_St) (x2 : Int32) (x3 : Int32), f_X8_takeAt_22 x1 fu σ x2 x3 = some o → ∀ (H : Heap) (locs : List Loc) (ls : Array Slot), cb_H shM A T D σ s.heap H locs → lv_has ls 4 [(0, .ref (A 0)), (1, .int x1), (2, .int x2), (3, .int x3)] → cb_W p l e 1 s m args below meth c shM A T D (some (.int o.1)) o.2 H locs (F0 m 22 ls []) := by
  obtain ⟨hx, hb, hml, hr, hown, hts, hK, hlk, hN⟩ := id C
  intro fu
  induction fu with
  | zero =>
    intro σ x2 x3 hf
    rw [f_X8_takeAt_22] at hf
    cases hf
  | succ fu ih =>
    intro σ x2 x3 hf H locs ls hs hl
    rw [f_X8_takeAt_22] at hf
    refine lv_iload_n hx hb dX8_takeAt_22 rfl (lv_at hl 3 rfl) ?_
    refine lv_aload_n hx hb dX8_takeAt_23 rfl (lv_at hl 0 rfl) ?_
    refine gf_X8_16 C hs rfl dX8_takeAt_24 ?_
    refine lv_bipush (v := 12) hx hb dX8_takeAt_27 (by decide) ?_
    obtain ⟨hc, hf⟩ := cb_ck_inv hf
    refine cb_iald C hs rfl (vp_in_iff.mpr hc) dX8_takeAt_29 ?_
    refine lv_icmp_ge (tgt := 57) hx hb dX8_takeAt_30 (by decide) (fun cn => ?_) (fun cn => ?_)
    · replace hf := cb_ifp cn hf
      refine lv_aload_n hx hb dX8_takeAt_57 rfl (lv_at hl 0 rfl) ?_
      refine gf_X8_16 C hs rfl dX8_takeAt_58 ?_
      refine lv_iconst (v := 0) hx hb dX8_takeAt_61 (by decide) ?_
      refine lv_aload_n hx hb dX8_takeAt_62 rfl (lv_at hl 0 rfl) ?_
      refine gf_X8_16 C hs rfl dX8_takeAt_63 ?_
      refine lv_bipush (v := 12) hx hb dX8_takeAt_66 (by decide) ?_
      obtain ⟨hc, hf⟩ := cb_ck_inv hf
      refine cb_iald C hs rfl (vp_in_iff.mpr hc) dX8_takeAt_68 ?_
      refine lv_iadd hx hb dX8_takeAt_69 ?_
      refine lv_iconst (v := 0) hx hb dX8_takeAt_70 (by decide) ?_
      obtain ⟨hc, hf⟩ := cb_ck_inv hf
      refine cb_iast C hs rfl (vp_in_iff.mpr hc) dX8_takeAt_71 (fun H locs hs => ?_)
      obtain ⟨σ_1, e9, hf⟩ := cb_let_inv hf
      replace hs := cb_Hc e9 hs
      clear e9
      refine lv_iload_n hx hb dX8_takeAt_72 rfl (lv_at hl 2 rfl) ?_
      have hf := Option.some.inj hf
      subst hf
      exact cb_reti C hs dX8_takeAt_73
    · replace hf := cb_ifn cn hf
      refine lv_aload_n hx hb dX8_takeAt_33 rfl (lv_at hl 0 rfl) ?_
      refine gf_X8_16 C hs rfl dX8_takeAt_34 ?_
      refine lv_iconst (v := 0) hx hb dX8_takeAt_37 (by decide) ?_
      refine lv_iload_n hx hb dX8_takeAt_38 rfl (lv_at hl 3 rfl) ?_
      refine lv_iadd hx hb dX8_takeAt_39 ?_
      refine lv_aload_n hx hb dX8_takeAt_40 rfl (lv_at hl 0 rfl) ?_
      refine gf_X8_16 C hs rfl dX8_takeAt_41 ?_
      refine lv_iconst (v := 0) hx hb dX8_takeAt_44 (by decide) ?_
      refine lv_iload_n hx hb dX8_takeAt_45 rfl (lv_at hl 3 rfl) ?_
      refine lv_iadd hx hb dX8_takeAt_46 ?_
      refine lv_iconst (v := 1) hx hb dX8_takeAt_47 (by decide) ?_
      refine lv_iadd hx hb dX8_takeAt_48 ?_
      obtain ⟨hc, hf⟩ := cb_ck_inv hf
      refine cb_iald C hs rfl (vp_in_iff.mpr hc) dX8_takeAt_49 ?_
      obtain ⟨hc, hf⟩ := cb_ck_inv hf
      refine cb_iast C hs rfl (vp_in_iff.mpr hc) dX8_takeAt_50 (fun H locs hs => ?_)
      obtain ⟨σ_2, e9, hf⟩ := cb_let_inv hf
      replace hs := cb_Hc e9 hs
      clear e9
      obtain ⟨x3_2, e9, hf⟩ := cb_let_inv hf
      refine lv_iinc (v := x3_2) (lv' := [(3, .int x3_2), (0, .ref (A 0)), (1, .int x1), (2, .int x2)]) hx hb dX8_takeAt_51 hl (k := 3) rfl (by rw [e9]; rfl) (by decide) rfl (fun ls hl => ?_)
      clear e9
      refine lv_goto (tgt := 22) hx hb dX8_takeAt_54 (by decide) ?_
      exact ih _ _ _ hf _ _ _ hs (lv_sub hl [1, 2, 3, 0] rfl)
def f_X8_takeAt (x1 : Int32) (σ : cb_St) : Option (Int32 × cb_St) := cb_ck (0 ≤ Int32.toInt (0 + x1) ∧ Int32.toInt (0 + x1) < 51) (cb_let (σ.1 3 (Int32.toNatClampNeg (0 + x1))) (fun x2_0 => cb_ck (0 ≤ Int32.toInt 12 ∧ Int32.toInt 12 < 51) (cb_ck (0 ≤ Int32.toInt 12 ∧ Int32.toInt 12 < 51) (cb_let (cb_sI σ 3 (Int32.toNatClampNeg 12) ((σ.1 3 (Int32.toNatClampNeg 12)) - 1)) (fun σ_2 => f_X8_takeAt_22 x1 cb_fu σ_2 x2_0 x1)))))
set_option maxHeartbeats 4000000 in
set_option maxRecDepth 100000 in
theorem c_X8_takeAt {x1 : Int32}  {σ : cb_St} {o : Int32 × cb_St} (hf : f_X8_takeAt x1 σ = some o) : cb_M l yX8_takeAt cX8_takeAt 4 (some .int) 1 shM A T D σ [.ref (A 0), .int x1] (some (.int o.1)) o.2 := by
  refine cb_met (by decide +kernel) (Nat.le_of_ble_eq_true rfl) ?_
  intro p e s m below meth c C hs ls hl
  have hl : lv_has ls 4 [(0, .ref (A 0)), (1, .int x1)] := hl
  obtain ⟨hx, hb, hml, hr, hown, hts, hK, hlk, hN⟩ := id C
  unfold f_X8_takeAt at hf
  refine lv_aload_n hx hb dX8_takeAt_0 rfl (lv_at hl 0 rfl) ?_
  refine gf_X8_16 C hs rfl dX8_takeAt_1 ?_
  refine lv_iconst (v := 0) hx hb dX8_takeAt_4 (by decide) ?_
  refine lv_iload_n hx hb dX8_takeAt_5 rfl (lv_at hl 1 rfl) ?_
  refine lv_iadd hx hb dX8_takeAt_6 ?_
  obtain ⟨hc, hf⟩ := cb_ck_inv hf
  refine cb_iald C hs rfl (vp_in_iff.mpr hc) dX8_takeAt_7 ?_
  obtain ⟨x2_0, e9, hf⟩ := cb_let_inv hf
  refine cb_topi e9 ?_
  clear e9
  refine lv_istore_n (lv' := [(2, .int x2_0), (0, .ref (A 0)), (1, .int x1)]) hx hb dX8_takeAt_8 rfl hl (by decide) rfl (fun ls hl => ?_)
  refine lv_aload_n hx hb dX8_takeAt_9 rfl (lv_at hl 1 rfl) ?_
  refine gf_X8_16 C hs rfl dX8_takeAt_10 ?_
  refine lv_bipush (v := 12) hx hb dX8_takeAt_13 (by decide) ?_
  refine lv_dup2_11 hx hb dX8_takeAt_15 rfl rfl ?_
  obtain ⟨hc, hf⟩ := cb_ck_inv hf
  refine cb_iald C hs rfl (vp_in_iff.mpr hc) dX8_takeAt_16 ?_
  refine lv_iconst (v := 1) hx hb dX8_takeAt_17 (by decide) ?_
  refine lv_isub hx hb dX8_takeAt_18 ?_
  obtain ⟨hc, hf⟩ := cb_ck_inv hf
  refine cb_iast C hs rfl (vp_in_iff.mpr hc) dX8_takeAt_19 (fun H locs hs => ?_)
  obtain ⟨σ_2, e9, hf⟩ := cb_let_inv hf
  replace hs := cb_Hc e9 hs
  clear e9
  refine lv_iload_n hx hb dX8_takeAt_20 rfl (lv_at hl 2 rfl) ?_
  refine lv_istore_n (lv' := [(3, .int x1), (2, .int x2_0), (0, .ref (A 0)), (1, .int x1)]) hx hb dX8_takeAt_21 rfl hl (by decide) rfl (fun ls hl => ?_)
  exact w_X8_takeAt_22 C  cb_fu _ _ _ hf _ _ _ hs (lv_sub hl [2, 3, 1, 0] rfl)
/-! ===== CardBecomeModel.drawOne ===== -/
def f_X8_drawOne (x1 : Int32) (σ : cb_St) : Option (Int32 × cb_St) := cb_bp (f_X8_isPerson x1 σ) (fun r_1 => if r_1 = 0 then (some ((-1000000001), σ)) else (cb_bp (f_X8_canDraw x1 σ) (fun r_2 => if r_2 = 0 then (some ((-1000000003), σ)) else (cb_bv (f_X8_remember σ) (fun σ_3 => cb_bi (f_X8_takeAt 0 σ_3) (fun r_4 σ_5 => cb_ck (0 ≤ Int32.toInt (13 + x1) ∧ Int32.toInt (13 + x1) < 51) (cb_let (cb_sI σ_5 3 (Int32.toNatClampNeg (13 + x1)) r_4) (fun σ_6 => cb_ck (0 ≤ Int32.toInt (13 + x1) ∧ Int32.toInt (13 + x1) < 51) (some (σ_6.1 3 (Int32.toNatClampNeg (13 + x1)), σ_6))))))))))
set_option maxHeartbeats 4000000 in
set_option maxRecDepth 100000 in
theorem c_X8_drawOne {x1 : Int32}  {σ : cb_St} {o : Int32 × cb_St} (hf : f_X8_drawOne x1 σ = some o) : cb_M l yX8_drawOne cX8_drawOne 2 (some .int) 3 shM A T D σ [.ref (A 0), .int x1] (some (.int o.1)) o.2 := by
  refine cb_met (by decide +kernel) (Nat.le_of_ble_eq_true rfl) ?_
  intro p e s m below meth c C hs ls hl
  have hl : lv_has ls 2 [(0, .ref (A 0)), (1, .int x1)] := hl
  obtain ⟨hx, hb, hml, hr, hown, hts, hK, hlk, hN⟩ := id C
  unfold f_X8_drawOne at hf
  refine lv_aload_n hx hb dX8_drawOne_0 rfl (lv_at hl 0 rfl) ?_
  refine lv_iload_n hx hb dX8_drawOne_1 rfl (lv_at hl 1 rfl) ?_
  obtain ⟨r_1, hc, hf⟩ := cb_bp_inv hf
  refine cb_callVi C (c_X8_isPerson  hc) mw_X8_isPerson ml_X8_82 rfl ⟨Nat.le_of_ble_eq_true rfl, Nat.le_of_ble_eq_true rfl⟩ rfl (Nat.le_of_ble_eq_true rfl) rfl hs hl rfl (Nat.le_of_ble_eq_true rfl) dX8_drawOne_2 (fun H locs hs => ?_)
  clear hc
  refine lv_if_ne (tgt := 11) hx hb dX8_drawOne_5 (by decide) (fun cn => ?_) (fun cn => ?_)
  · replace hf := cb_ifn cn hf
    refine lv_aload_n hx hb dX8_drawOne_11 rfl (lv_at hl 0 rfl) ?_
    refine lv_iload_n hx hb dX8_drawOne_12 rfl (lv_at hl 1 rfl) ?_
    obtain ⟨r_2, hc, hf⟩ := cb_bp_inv hf
    refine cb_callVi C (c_X8_canDraw  hc) mw_X8_canDraw ml_X8_228 rfl ⟨Nat.le_of_ble_eq_true rfl, Nat.le_of_ble_eq_true rfl⟩ rfl (Nat.le_of_ble_eq_true rfl) rfl hs hl rfl (Nat.le_of_ble_eq_true rfl) dX8_drawOne_13 (fun H locs hs => ?_)
    clear hc
    refine lv_if_ne (tgt := 22) hx hb dX8_drawOne_16 (by decide) (fun cn => ?_) (fun cn => ?_)
    · replace hf := cb_ifn cn hf
      refine lv_aload_n hx hb dX8_drawOne_22 rfl (lv_at hl 0 rfl) ?_
      obtain ⟨σ_3, hc, hf⟩ := cb_bv_inv hf
      refine cb_callVv C (c_X8_remember  hc) mw_X8_remember ml_X8_232 rfl ⟨Nat.le_of_ble_eq_true rfl, Nat.le_of_ble_eq_true rfl⟩ rfl (Nat.le_of_ble_eq_true rfl) rfl hs hl rfl (Nat.le_of_ble_eq_true rfl) dX8_drawOne_23 (fun H locs hs => ?_)
      clear hc
      refine lv_aload_n hx hb dX8_drawOne_26 rfl (lv_at hl 0 rfl) ?_
      refine gf_X8_16 C hs rfl dX8_drawOne_27 ?_
      refine lv_bipush (v := 13) hx hb dX8_drawOne_30 (by decide) ?_
      refine lv_iload_n hx hb dX8_drawOne_32 rfl (lv_at hl 1 rfl) ?_
      refine lv_iadd hx hb dX8_drawOne_33 ?_
      refine lv_aload_n hx hb dX8_drawOne_34 rfl (lv_at hl 0 rfl) ?_
      refine lv_iconst (v := 0) hx hb dX8_drawOne_35 (by decide) ?_
      obtain ⟨r_4, σ_5, hc, hf⟩ := cb_bi_inv hf
      refine cb_callVi C (c_X8_takeAt  hc) mw_X8_takeAt ml_X8_235 rfl ⟨Nat.le_of_ble_eq_true rfl, Nat.le_of_ble_eq_true rfl⟩ rfl (Nat.le_of_ble_eq_true rfl) rfl hs hl rfl (Nat.le_of_ble_eq_true rfl) dX8_drawOne_36 (fun H locs hs => ?_)
      clear hc
      obtain ⟨hc, hf⟩ := cb_ck_inv hf
      refine cb_iast C hs rfl (vp_in_iff.mpr hc) dX8_drawOne_39 (fun H locs hs => ?_)
      obtain ⟨σ_6, e9, hf⟩ := cb_let_inv hf
      replace hs := cb_Hc e9 hs
      clear e9
      refine lv_aload_n hx hb dX8_drawOne_40 rfl (lv_at hl 0 rfl) ?_
      refine gf_X8_16 C hs rfl dX8_drawOne_41 ?_
      refine lv_bipush (v := 13) hx hb dX8_drawOne_44 (by decide) ?_
      refine lv_iload_n hx hb dX8_drawOne_46 rfl (lv_at hl 1 rfl) ?_
      refine lv_iadd hx hb dX8_drawOne_47 ?_
      obtain ⟨hc, hf⟩ := cb_ck_inv hf
      refine cb_iald C hs rfl (vp_in_iff.mpr hc) dX8_drawOne_48 ?_
      have hf := Option.some.inj hf
      subst hf
      exact cb_reti C hs dX8_drawOne_49
    · replace hf := cb_ifp cn hf
      refine lv_ldc (v := (-1000000003)) hx hb hown (hts _ kc_X8_231) dX8_drawOne_19 ?_
      have hf := Option.some.inj hf
      subst hf
      exact cb_reti C hs dX8_drawOne_21
  · replace hf := cb_ifp cn hf
    refine lv_ldc (v := (-1000000001)) hx hb hown (hts _ kc_X8_209) dX8_drawOne_8 ?_
    have hf := Option.some.inj hf
    subst hf
    exact cb_reti C hs dX8_drawOne_10
/-! ===== CardBecomeModel.drawer ===== -/
def f_X8_drawer (x1 : Int32) (σ : cb_St) : Option (Int32 × cb_St) := cb_bp (f_X8_isPerson x1 σ) (fun r_1 => if r_1 = 0 then (some ((-1000000001), σ)) else (cb_ck (0 ≤ Int32.toInt (13 + x1) ∧ Int32.toInt (13 + x1) < 51) (if 0 ≤ (σ.1 3 (Int32.toNatClampNeg (13 + x1))) then (cb_bv (f_X8_remember σ) (fun σ_2 => cb_ck (0 ≤ Int32.toInt (13 + x1) ∧ Int32.toInt (13 + x1) < 51) (cb_let (σ_2.1 3 (Int32.toNatClampNeg (13 + x1))) (fun x2_2 => cb_ck (0 ≤ Int32.toInt (13 + x1) ∧ Int32.toInt (13 + x1) < 51) (cb_let (cb_sI σ_2 3 (Int32.toNatClampNeg (13 + x1)) (-1)) (fun σ_4 => cb_ck (0 ≤ Int32.toInt 25 ∧ Int32.toInt 25 < 51) (cb_ck (0 ≤ Int32.toInt 25 ∧ Int32.toInt 25 < 51) (cb_let (cb_sI σ_4 3 (Int32.toNatClampNeg 25) ((σ_4.1 3 (Int32.toNatClampNeg 25)) ||| (1 <<< (x2_2 &&& 31)))) (fun σ_5 => some (x2_2, σ_5)))))))))) else (some ((-1000000003), σ)))))
set_option maxHeartbeats 4000000 in
set_option maxRecDepth 100000 in
theorem c_X8_drawer {x1 : Int32}  {σ : cb_St} {o : Int32 × cb_St} (hf : f_X8_drawer x1 σ = some o) : cb_M l yX8_drawer cX8_drawer 3 (some .int) 3 shM A T D σ [.ref (A 0), .int x1] (some (.int o.1)) o.2 := by
  refine cb_met (by decide +kernel) (Nat.le_of_ble_eq_true rfl) ?_
  intro p e s m below meth c C hs ls hl
  have hl : lv_has ls 3 [(0, .ref (A 0)), (1, .int x1)] := hl
  obtain ⟨hx, hb, hml, hr, hown, hts, hK, hlk, hN⟩ := id C
  unfold f_X8_drawer at hf
  refine lv_aload_n hx hb dX8_drawer_0 rfl (lv_at hl 0 rfl) ?_
  refine lv_iload_n hx hb dX8_drawer_1 rfl (lv_at hl 1 rfl) ?_
  obtain ⟨r_1, hc, hf⟩ := cb_bp_inv hf
  refine cb_callVi C (c_X8_isPerson  hc) mw_X8_isPerson ml_X8_82 rfl ⟨Nat.le_of_ble_eq_true rfl, Nat.le_of_ble_eq_true rfl⟩ rfl (Nat.le_of_ble_eq_true rfl) rfl hs hl rfl (Nat.le_of_ble_eq_true rfl) dX8_drawer_2 (fun H locs hs => ?_)
  clear hc
  refine lv_if_ne (tgt := 11) hx hb dX8_drawer_5 (by decide) (fun cn => ?_) (fun cn => ?_)
  · replace hf := cb_ifn cn hf
    refine lv_aload_n hx hb dX8_drawer_11 rfl (lv_at hl 0 rfl) ?_
    refine gf_X8_16 C hs rfl dX8_drawer_12 ?_
    refine lv_bipush (v := 13) hx hb dX8_drawer_15 (by decide) ?_
    refine lv_iload_n hx hb dX8_drawer_17 rfl (lv_at hl 1 rfl) ?_
    refine lv_iadd hx hb dX8_drawer_18 ?_
    obtain ⟨hc, hf⟩ := cb_ck_inv hf
    refine cb_iald C hs rfl (vp_in_iff.mpr hc) dX8_drawer_19 ?_
    refine lv_if_ge (tgt := 26) hx hb dX8_drawer_20 (by decide) (fun cn => ?_) (fun cn => ?_)
    · replace hf := cb_ifp cn hf
      refine lv_aload_n hx hb dX8_drawer_26 rfl (lv_at hl 0 rfl) ?_
      obtain ⟨σ_2, hc, hf⟩ := cb_bv_inv hf
      refine cb_callVv C (c_X8_remember  hc) mw_X8_remember ml_X8_232 rfl ⟨Nat.le_of_ble_eq_true rfl, Nat.le_of_ble_eq_true rfl⟩ rfl (Nat.le_of_ble_eq_true rfl) rfl hs hl rfl (Nat.le_of_ble_eq_true rfl) dX8_drawer_27 (fun H locs hs => ?_)
      clear hc
      refine lv_aload_n hx hb dX8_drawer_30 rfl (lv_at hl 0 rfl) ?_
      refine gf_X8_16 C hs rfl dX8_drawer_31 ?_
      refine lv_bipush (v := 13) hx hb dX8_drawer_34 (by decide) ?_
      refine lv_iload_n hx hb dX8_drawer_36 rfl (lv_at hl 1 rfl) ?_
      refine lv_iadd hx hb dX8_drawer_37 ?_
      obtain ⟨hc, hf⟩ := cb_ck_inv hf
      refine cb_iald C hs rfl (vp_in_iff.mpr hc) dX8_drawer_38 ?_
      obtain ⟨x2_2, e9, hf⟩ := cb_let_inv hf
      refine cb_topi e9 ?_
      clear e9
      refine lv_istore_n (lv' := [(2, .int x2_2), (0, .ref (A 0)), (1, .int x1)]) hx hb dX8_drawer_39 rfl hl (by decide) rfl (fun ls hl => ?_)
      refine lv_aload_n hx hb dX8_drawer_40 rfl (lv_at hl 1 rfl) ?_
      refine gf_X8_16 C hs rfl dX8_drawer_41 ?_
      refine lv_bipush (v := 13) hx hb dX8_drawer_44 (by decide) ?_
      refine lv_iload_n hx hb dX8_drawer_46 rfl (lv_at hl 2 rfl) ?_
      refine lv_iadd hx hb dX8_drawer_47 ?_
      refine lv_iconst (v := (-1)) hx hb dX8_drawer_48 (by decide) ?_
      obtain ⟨hc, hf⟩ := cb_ck_inv hf
      refine cb_iast C hs rfl (vp_in_iff.mpr hc) dX8_drawer_49 (fun H locs hs => ?_)
      obtain ⟨σ_4, e9, hf⟩ := cb_let_inv hf
      replace hs := cb_Hc e9 hs
      clear e9
      refine lv_aload_n hx hb dX8_drawer_50 rfl (lv_at hl 1 rfl) ?_
      refine gf_X8_16 C hs rfl dX8_drawer_51 ?_
      refine lv_bipush (v := 25) hx hb dX8_drawer_54 (by decide) ?_
      refine lv_dup2_11 hx hb dX8_drawer_56 rfl rfl ?_
      obtain ⟨hc, hf⟩ := cb_ck_inv hf
      refine cb_iald C hs rfl (vp_in_iff.mpr hc) dX8_drawer_57 ?_
      refine lv_iconst (v := 1) hx hb dX8_drawer_58 (by decide) ?_
      refine lv_iload_n hx hb dX8_drawer_59 rfl (lv_at hl 0 rfl) ?_
      refine lv_ishl hx hb dX8_drawer_60 ?_
      refine lv_ior hx hb dX8_drawer_61 ?_
      obtain ⟨hc, hf⟩ := cb_ck_inv hf
      refine cb_iast C hs rfl (vp_in_iff.mpr hc) dX8_drawer_62 (fun H locs hs => ?_)
      obtain ⟨σ_5, e9, hf⟩ := cb_let_inv hf
      replace hs := cb_Hc e9 hs
      clear e9
      refine lv_iload_n hx hb dX8_drawer_63 rfl (lv_at hl 0 rfl) ?_
      have hf := Option.some.inj hf
      subst hf
      exact cb_reti C hs dX8_drawer_64
    · replace hf := cb_ifn cn hf
      refine lv_ldc (v := (-1000000003)) hx hb hown (hts _ kc_X8_231) dX8_drawer_23 ?_
      have hf := Option.some.inj hf
      subst hf
      exact cb_reti C hs dX8_drawer_25
  · replace hf := cb_ifp cn hf
    refine lv_ldc (v := (-1000000001)) hx hb hown (hts _ kc_X8_209) dX8_drawer_8 ?_
    have hf := Option.some.inj hf
    subst hf
    exact cb_reti C hs dX8_drawer_10
/-! ===== CardBecomeModel.drawsBy ===== -/
def f_X8_drawsBy_89 (x1 : Int32) (x2 : Int32) (σ : cb_St) : Option (Int32 × cb_St) := some (0, σ)
set_option maxHeartbeats 4000000 in
set_option maxRecDepth 100000 in
theorem w_X8_drawsBy_89 (C : cb_C p s m args meth c cX8_drawsBy 7 (some .boolean) RX8 D T) {x1 : Int32} {x2 : Int32} {o : Int32 × cb_St}  {σ : cb_St} (hf : f_X8_drawsBy_89 x1 x2 σ = some o) {H : Heap} {locs : List Loc} {ls : Array Slot} (hs : cb_H shM A T D σ s.heap H locs) (hl : lv_has ls 7 [(0, .ref (A 0)), (1, .int x1), (2, .int x2)]) : cb_W p l e 2 s m args below meth c shM A T D (some (.int o.1)) o.2 H locs (F0 m 89 ls []) := by
  obtain ⟨hx, hb, hml, hr, hown, hts, hK, hlk, hN⟩ := id C
  unfold f_X8_drawsBy_89 at hf
  refine lv_iconst (v := 0) hx hb dX8_drawsBy_89 (by decide) ?_
  have hf := Option.some.inj hf
  subst hf
  exact cb_retz C hs (Or.inl rfl) dX8_drawsBy_90
def f_X8_drawsBy_39 (x1 : Int32) (x2 : Int32) : Nat → cb_St → Int32 → Int32 → Int32 → Option (Int32 × cb_St)
  | 0, _, _, _, _ => none
  | fu + 1, σ, x3, x4, x5 => if x5 < 0 then (some (1, σ)) else (cb_let (x4 - x4 / 6 * 6) (fun x6_0 => cb_let (x4 / 6) (fun x4_1 => if (σ.1 0 7) ≤ x6_0 then (f_X8_drawsBy_89 x1 x2 σ) else (cb_ck (0 ≤ Int32.toInt (13 + x6_0) ∧ Int32.toInt (13 + x6_0) < 51) (if 0 ≤ (σ.1 3 (Int32.toNatClampNeg (13 + x6_0))) then (f_X8_drawsBy_89 x1 x2 σ) else (cb_bp (f_X8_has x3 x6_0 σ) (fun r_3 => if r_3 = 0 then (cb_let (x3 ||| (1 <<< (x6_0 &&& 31))) (fun x3_3 => cb_ck (0 ≤ Int32.toInt (0 + x5) ∧ Int32.toInt (0 + x5) < 51) (cb_ck (0 ≤ Int32.toInt x6_0 ∧ Int32.toInt x6_0 < 6) (cb_let (cb_sI σ 10 (Int32.toNatClampNeg x6_0) (σ.1 3 (Int32.toNatClampNeg (0 + x5)))) (fun σ_5 => cb_let (x5 + (-1)) (fun x5_5 => f_X8_drawsBy_39 x1 x2 fu σ_5 x3_3 x4_1 x5_5)))))) else (f_X8_drawsBy_89 x1 x2 σ))))))))
set_option maxHeartbeats 4000000 in
set_option maxRecDepth 100000 in
theorem w_X8_drawsBy_39 (C : cb_C p s m args meth c cX8_drawsBy 7 (some .boolean) RX8 D T) {x1 : Int32} {x2 : Int32} {o : Int32 × cb_St}  : ∀ (fu : Nat) (σ : cb_St) (x3 : Int32) (x4 : Int32) (x5 : Int32), f_X8_drawsBy_39 x1 x2 fu σ x3 x4 x5 = some o → ∀ (H : Heap) (locs : List Loc) (ls : Array Slot), cb_H shM A T D σ s.heap H locs → lv_has ls 7 [(0, .ref (A 0)), (1, .int x1), (2, .int x2), (3, .int x3), (4, .int x4), (5, .int x5)] → cb_W p l e 2 s m args below meth c shM A T D (some (.int o.1)) o.2 H locs (F0 m 39 ls []) := by
  obtain ⟨hx, hb, hml, hr, hown, hts, hK, hlk, hN⟩ := id C
  intro fu
  induction fu with
  | zero =>
    intro σ x3 x4 x5 hf
    rw [f_X8_drawsBy_39] at hf
    cases hf
  | succ fu ih =>
    intro σ x3 x4 x5 hf H locs ls hs hl
    rw [f_X8_drawsBy_39] at hf
    refine lv_iload hx hb dX8_drawsBy_39 (lv_at hl 5 rfl) ?_
    refine lv_if_lt (tgt := 120) hx hb dX8_drawsBy_41 (by decide) (fun cn => ?_) (fun cn => ?_)
    · replace hf := cb_ifp cn hf
      refine lv_iconst (v := 1) hx hb dX8_drawsBy_120 (by decide) ?_
      have hf := Option.some.inj hf
      subst hf
      exact cb_retz C hs (Or.inr rfl) dX8_drawsBy_121
    · replace hf := cb_ifn cn hf
      refine lv_iload hx hb dX8_drawsBy_44 (lv_at hl 4 rfl) ?_
      refine lv_bipush (v := 6) hx hb dX8_drawsBy_46 (by decide) ?_
      refine lv_irem hx hb dX8_drawsBy_48 (by decide) ?_
      obtain ⟨x6_0, e9, hf⟩ := cb_let_inv hf
      refine cb_topi e9 ?_
      clear e9
      refine lv_istore (lv' := [(6, .int x6_0), (0, .ref (A 0)), (1, .int x1), (2, .int x2), (3, .int x3), (4, .int x4), (5, .int x5)]) hx hb dX8_drawsBy_49 hl (by decide) rfl (fun ls hl => ?_)
      refine lv_iload hx hb dX8_drawsBy_51 (lv_at hl 5 rfl) ?_
      refine lv_bipush (v := 6) hx hb dX8_drawsBy_53 (by decide) ?_
      refine lv_idiv hx hb dX8_drawsBy_55 (by decide) ?_
      obtain ⟨x4_1, e9, hf⟩ := cb_let_inv hf
      refine cb_topi e9 ?_
      clear e9
      refine lv_istore (lv' := [(4, .int x4_1), (6, .int x6_0), (0, .ref (A 0)), (1, .int x1), (2, .int x2), (3, .int x3), (5, .int x5)]) hx hb dX8_drawsBy_56 hl (by decide) rfl (fun ls hl => ?_)
      refine lv_iload hx hb dX8_drawsBy_58 (lv_at hl 1 rfl) ?_
      refine lv_aload_n hx hb dX8_drawsBy_60 rfl (lv_at hl 2 rfl) ?_
      refine gf_X8_75 C hs rfl dX8_drawsBy_61 ?_
      refine lv_icmp_ge (tgt := 89) hx hb dX8_drawsBy_64 (by decide) (fun cn => ?_) (fun cn => ?_)
      · replace hf := cb_ifp cn hf
        exact w_X8_drawsBy_89 C  hf hs (lv_sub hl [2, 3, 4] rfl)
      · replace hf := cb_ifn cn hf
        refine lv_aload_n hx hb dX8_drawsBy_67 rfl (lv_at hl 2 rfl) ?_
        refine gf_X8_16 C hs rfl dX8_drawsBy_68 ?_
        refine lv_bipush (v := 13) hx hb dX8_drawsBy_71 (by decide) ?_
        refine lv_iload hx hb dX8_drawsBy_73 (lv_at hl 1 rfl) ?_
        refine lv_iadd hx hb dX8_drawsBy_75 ?_
        obtain ⟨hc, hf⟩ := cb_ck_inv hf
        refine cb_iald C hs rfl (vp_in_iff.mpr hc) dX8_drawsBy_76 ?_
        refine lv_if_ge (tgt := 89) hx hb dX8_drawsBy_77 (by decide) (fun cn => ?_) (fun cn => ?_)
        · replace hf := cb_ifp cn hf
          exact w_X8_drawsBy_89 C  hf hs (lv_sub hl [2, 3, 4] rfl)
        · replace hf := cb_ifn cn hf
          refine lv_iload_n hx hb dX8_drawsBy_80 rfl (lv_at hl 5 rfl) ?_
          refine lv_iload hx hb dX8_drawsBy_81 (lv_at hl 1 rfl) ?_
          obtain ⟨r_3, hc, hf⟩ := cb_bp_inv hf
          refine cb_callSi C (c_X8_has  hc) mw_X8_has ml_X8_256 rfl ⟨Nat.le_of_ble_eq_true rfl, Nat.le_of_ble_eq_true rfl⟩ hs hl rfl (Nat.le_of_ble_eq_true rfl) dX8_drawsBy_83 (fun H locs hs => ?_)
          clear hc
          refine lv_if_eq (tgt := 91) hx hb dX8_drawsBy_86 (by decide) (fun cn => ?_) (fun cn => ?_)
          · replace hf := cb_ifp cn hf
            refine lv_iload_n hx hb dX8_drawsBy_91 rfl (lv_at hl 5 rfl) ?_
            refine lv_iconst (v := 1) hx hb dX8_drawsBy_92 (by decide) ?_
            refine lv_iload hx hb dX8_drawsBy_93 (lv_at hl 1 rfl) ?_
            refine lv_ishl hx hb dX8_drawsBy_95 ?_
            refine lv_ior hx hb dX8_drawsBy_96 ?_
            obtain ⟨x3_3, e9, hf⟩ := cb_let_inv hf
            refine cb_topi e9 ?_
            clear e9
            refine lv_istore_n (lv' := [(3, .int x3_3), (4, .int x4_1), (6, .int x6_0), (0, .ref (A 0)), (1, .int x1), (2, .int x2), (5, .int x5)]) hx hb dX8_drawsBy_97 rfl hl (by decide) rfl (fun ls hl => ?_)
            refine lv_aload_n hx hb dX8_drawsBy_98 rfl (lv_at hl 3 rfl) ?_
            refine gf_X8_41 C hs rfl dX8_drawsBy_99 ?_
            refine lv_iload hx hb dX8_drawsBy_102 (lv_at hl 2 rfl) ?_
            refine lv_aload_n hx hb dX8_drawsBy_104 rfl (lv_at hl 3 rfl) ?_
            refine gf_X8_16 C hs rfl dX8_drawsBy_105 ?_
            refine lv_iconst (v := 0) hx hb dX8_drawsBy_108 (by decide) ?_
            refine lv_iload hx hb dX8_drawsBy_109 (lv_at hl 6 rfl) ?_
            refine lv_iadd hx hb dX8_drawsBy_111 ?_
            obtain ⟨hc, hf⟩ := cb_ck_inv hf
            refine cb_iald C hs rfl (vp_in_iff.mpr hc) dX8_drawsBy_112 ?_
            obtain ⟨hc, hf⟩ := cb_ck_inv hf
            refine cb_iast C hs rfl (vp_in_iff.mpr hc) dX8_drawsBy_113 (fun H locs hs => ?_)
            obtain ⟨σ_5, e9, hf⟩ := cb_let_inv hf
            replace hs := cb_Hc e9 hs
            clear e9
            obtain ⟨x5_5, e9, hf⟩ := cb_let_inv hf
            refine lv_iinc (v := x5_5) (lv' := [(5, .int x5_5), (3, .int x3_3), (4, .int x4_1), (6, .int x6_0), (0, .ref (A 0)), (1, .int x1), (2, .int x2)]) hx hb dX8_drawsBy_114 hl (k := 6) rfl (by rw [e9]; rfl) (by decide) rfl (fun ls hl => ?_)
            clear e9
            refine lv_goto (tgt := 39) hx hb dX8_drawsBy_117 (by decide) ?_
            exact ih _ _ _ _ hf _ _ _ hs (lv_sub hl [4, 5, 6, 1, 2, 0] rfl)
          · replace hf := cb_ifn cn hf
            exact w_X8_drawsBy_89 C  hf hs (lv_sub hl [2, 3, 4] rfl)
def f_X8_drawsBy_2 (x1 : Int32) (x2 : Int32) : Nat → cb_St → Int32 → Option (Int32 × cb_St)
  | 0, _, _ => none
  | fu + 1, σ, x3 => if 6 ≤ x3 then (cb_let (x2 - 1) (fun x5_0 => f_X8_drawsBy_39 x1 x2 cb_fu σ 0 x1 x5_0)) else (cb_ck (0 ≤ Int32.toInt (13 + x3) ∧ Int32.toInt (13 + x3) < 51) (cb_ck (0 ≤ Int32.toInt x3 ∧ Int32.toInt x3 < 6) (cb_let (cb_sI σ 10 (Int32.toNatClampNeg x3) (σ.1 3 (Int32.toNatClampNeg (13 + x3)))) (fun σ_2 => cb_let (x3 + 1) (fun x3_2 => f_X8_drawsBy_2 x1 x2 fu σ_2 x3_2)))))
set_option maxHeartbeats 4000000 in
set_option maxRecDepth 100000 in
theorem w_X8_drawsBy_2 (C : cb_C p s m args meth c cX8_drawsBy 7 (some .boolean) RX8 D T) {x1 : Int32} {x2 : Int32} {o : Int32 × cb_St}  : ∀ (fu : Nat) (σ : cb_St) (x3 : Int32), f_X8_drawsBy_2 x1 x2 fu σ x3 = some o → ∀ (H : Heap) (locs : List Loc) (ls : Array Slot), cb_H shM A T D σ s.heap H locs → lv_has ls 7 [(0, .ref (A 0)), (1, .int x1), (2, .int x2), (3, .int x3)] → cb_W p l e 2 s m args below meth c shM A T D (some (.int o.1)) o.2 H locs (F0 m 2 ls []) := by
  obtain ⟨hx, hb, hml, hr, hown, hts, hK, hlk, hN⟩ := id C
  intro fu
  induction fu with
  | zero =>
    intro σ x3 hf
    rw [f_X8_drawsBy_2] at hf
    cases hf
  | succ fu ih =>
    intro σ x3 hf H locs ls hs hl
    rw [f_X8_drawsBy_2] at hf
    refine lv_iload_n hx hb dX8_drawsBy_2 rfl (lv_at hl 3 rfl) ?_
    refine lv_bipush (v := 6) hx hb dX8_drawsBy_3 (by decide) ?_
    refine lv_icmp_ge (tgt := 29) hx hb dX8_drawsBy_5 (by decide) (fun cn => ?_) (fun cn => ?_)
    · replace hf := cb_ifp cn hf
      refine lv_iconst (v := 0) hx hb dX8_drawsBy_29 (by decide) ?_
      refine lv_istore_n (lv' := [(3, .int 0), (0, .ref (A 0)), (1, .int x1), (2, .int x2)]) hx hb dX8_drawsBy_30 rfl hl (by decide) rfl (fun ls hl => ?_)
      refine lv_iload_n hx hb dX8_drawsBy_31 rfl (lv_at hl 2 rfl) ?_
      refine lv_istore (lv' := [(4, .int x1), (3, .int 0), (0, .ref (A 0)), (1, .int x1), (2, .int x2)]) hx hb dX8_drawsBy_32 hl (by decide) rfl (fun ls hl => ?_)
      refine lv_iload_n hx hb dX8_drawsBy_34 rfl (lv_at hl 4 rfl) ?_
      refine lv_iconst (v := 1) hx hb dX8_drawsBy_35 (by decide) ?_
      refine lv_isub hx hb dX8_drawsBy_36 ?_
      obtain ⟨x5_0, e9, hf⟩ := cb_let_inv hf
      refine cb_topi e9 ?_
      clear e9
      refine lv_istore (lv' := [(5, .int x5_0), (4, .int x1), (3, .int 0), (0, .ref (A 0)), (1, .int x1), (2, .int x2)]) hx hb dX8_drawsBy_37 hl (by decide) rfl (fun ls hl => ?_)
      exact w_X8_drawsBy_39 C  cb_fu _ _ _ _ hf _ _ _ hs (lv_sub hl [3, 4, 5, 2, 1, 0] rfl)
    · replace hf := cb_ifn cn hf
      refine lv_aload_n hx hb dX8_drawsBy_8 rfl (lv_at hl 0 rfl) ?_
      refine gf_X8_41 C hs rfl dX8_drawsBy_9 ?_
      refine lv_iload_n hx hb dX8_drawsBy_12 rfl (lv_at hl 3 rfl) ?_
      refine lv_aload_n hx hb dX8_drawsBy_13 rfl (lv_at hl 0 rfl) ?_
      refine gf_X8_16 C hs rfl dX8_drawsBy_14 ?_
      refine lv_bipush (v := 13) hx hb dX8_drawsBy_17 (by decide) ?_
      refine lv_iload_n hx hb dX8_drawsBy_19 rfl (lv_at hl 3 rfl) ?_
      refine lv_iadd hx hb dX8_drawsBy_20 ?_
      obtain ⟨hc, hf⟩ := cb_ck_inv hf
      refine cb_iald C hs rfl (vp_in_iff.mpr hc) dX8_drawsBy_21 ?_
      obtain ⟨hc, hf⟩ := cb_ck_inv hf
      refine cb_iast C hs rfl (vp_in_iff.mpr hc) dX8_drawsBy_22 (fun H locs hs => ?_)
      obtain ⟨σ_2, e9, hf⟩ := cb_let_inv hf
      replace hs := cb_Hc e9 hs
      clear e9
      obtain ⟨x3_2, e9, hf⟩ := cb_let_inv hf
      refine lv_iinc (v := x3_2) (lv' := [(3, .int x3_2), (0, .ref (A 0)), (1, .int x1), (2, .int x2)]) hx hb dX8_drawsBy_23 hl (k := 3) rfl (by rw [e9]; rfl) (by decide) rfl (fun ls hl => ?_)
      clear e9
      refine lv_goto (tgt := 2) hx hb dX8_drawsBy_26 (by decide) ?_
      exact ih _ _ hf _ _ _ hs (lv_sub hl [1, 2, 3, 0] rfl)
def f_X8_drawsBy (x1 : Int32) (x2 : Int32) (σ : cb_St) : Option (Int32 × cb_St) := f_X8_drawsBy_2 x1 x2 cb_fu σ 0
set_option maxHeartbeats 4000000 in
set_option maxRecDepth 100000 in
theorem c_X8_drawsBy {x1 : Int32} {x2 : Int32}  {σ : cb_St} {o : Int32 × cb_St} (hf : f_X8_drawsBy x1 x2 σ = some o) : cb_M l yX8_drawsBy cX8_drawsBy 7 (some .boolean) 2 shM A T D σ [.ref (A 0), .int x1, .int x2] (some (.int o.1)) o.2 := by
  refine cb_met (by decide +kernel) (Nat.le_of_ble_eq_true rfl) ?_
  intro p e s m below meth c C hs ls hl
  have hl : lv_has ls 7 [(0, .ref (A 0)), (1, .int x1), (2, .int x2)] := hl
  obtain ⟨hx, hb, hml, hr, hown, hts, hK, hlk, hN⟩ := id C
  unfold f_X8_drawsBy at hf
  refine lv_iconst (v := 0) hx hb dX8_drawsBy_0 (by decide) ?_
  refine lv_istore_n (lv' := [(3, .int 0), (0, .ref (A 0)), (1, .int x1), (2, .int x2)]) hx hb dX8_drawsBy_1 rfl hl (by decide) rfl (fun ls hl => ?_)
  exact w_X8_drawsBy_2 C  cb_fu _ _ hf _ _ _ hs (lv_sub hl [1, 2, 3, 0] rfl)
/-! ===== CardBecomeModel.meetNow ===== -/
def f_X8_meetNow_210 (x1 : Int32) (x2 : Int32) (σ : cb_St) (x4 : Int32) : Option (Int32 × cb_St) := some (x4, σ)
set_option maxHeartbeats 4000000 in
set_option maxRecDepth 100000 in
theorem w_X8_meetNow_210 (C : cb_C p s m args meth c cX8_meetNow 5 (some .int) RX8 D T) {x1 : Int32} {x2 : Int32} {o : Int32 × cb_St}  {σ : cb_St} {x4 : Int32} (hf : f_X8_meetNow_210 x1 x2 σ x4 = some o) {H : Heap} {locs : List Loc} {ls : Array Slot} (hs : cb_H shM A T D σ s.heap H locs) (hl : lv_has ls 5 [(0, .ref (A 0)), (1, .int x1), (2, .int x2), (4, .int x4)]) : cb_W p l e 4 s m args below meth c shM A T D (some (.int o.1)) o.2 H locs (F0 m 210 ls []) := by
  obtain ⟨hx, hb, hml, hr, hown, hts, hK, hlk, hN⟩ := id C
  unfold f_X8_meetNow_210 at hf
  refine lv_iload hx hb dX8_meetNow_210 (lv_at hl 3 rfl) ?_
  have hf := Option.some.inj hf
  subst hf
  exact cb_reti C hs dX8_meetNow_212
def f_X8_meetNow_208 (x1 : Int32) (x2 : Int32) (σ : cb_St) (x4 : Int32) (s0 : Int32) (s1 : Int32) (s2 : Int32) : Option (Int32 × cb_St) := cb_ck (0 ≤ Int32.toInt s2 ∧ Int32.toInt s2 < 51) (cb_let (cb_sI σ 3 (Int32.toNatClampNeg s2) (s1 + s0)) (fun σ_1 => f_X8_meetNow_210 x1 x2 σ_1 x4))
set_option maxHeartbeats 4000000 in
set_option maxRecDepth 100000 in
theorem w_X8_meetNow_208 (C : cb_C p s m args meth c cX8_meetNow 5 (some .int) RX8 D T) {x1 : Int32} {x2 : Int32} {o : Int32 × cb_St}  {σ : cb_St} {x4 : Int32} {s0 : Int32} {s1 : Int32} {s2 : Int32} (hf : f_X8_meetNow_208 x1 x2 σ x4 s0 s1 s2 = some o) {H : Heap} {locs : List Loc} {ls : Array Slot} (hs : cb_H shM A T D σ s.heap H locs) (hl : lv_has ls 5 [(0, .ref (A 0)), (1, .int x1), (2, .int x2), (4, .int x4)]) : cb_W p l e 4 s m args below meth c shM A T D (some (.int o.1)) o.2 H locs (F0 m 208 ls [.int s0, .int s1, .int s2, .ref (A 3)]) := by
  obtain ⟨hx, hb, hml, hr, hown, hts, hK, hlk, hN⟩ := id C
  unfold f_X8_meetNow_208 at hf
  refine lv_iadd hx hb dX8_meetNow_208 ?_
  obtain ⟨hc, hf⟩ := cb_ck_inv hf
  refine cb_iast C hs rfl (vp_in_iff.mpr hc) dX8_meetNow_209 (fun H locs hs => ?_)
  obtain ⟨σ_1, e9, hf⟩ := cb_let_inv hf
  replace hs := cb_Hc e9 hs
  clear e9
  exact w_X8_meetNow_210 C  hf hs (lv_sub hl [0, 1, 2, 3] rfl)
def f_X8_meetNow_170 (x1 : Int32) (x2 : Int32) (σ : cb_St) (s0 : Int32) : Option (Int32 × cb_St) := if s0 < 0 then (f_X8_meetNow_210 x1 x2 σ s0) else (cb_ck (0 ≤ Int32.toInt (19 + s0) ∧ Int32.toInt (19 + s0) < 51) (cb_ck (0 ≤ Int32.toInt (19 + s0) ∧ Int32.toInt (19 + s0) < 51) (if 999999 ≤ (σ.1 3 (Int32.toNatClampNeg (19 + s0))) then (f_X8_meetNow_208 x1 x2 σ s0 0 (σ.1 3 (Int32.toNatClampNeg (19 + s0))) (19 + s0)) else (f_X8_meetNow_208 x1 x2 σ s0 1 (σ.1 3 (Int32.toNatClampNeg (19 + s0))) (19 + s0)))))
set_option maxHeartbeats 4000000 in
set_option maxRecDepth 100000 in
theorem w_X8_meetNow_170 (C : cb_C p s m args meth c cX8_meetNow 5 (some .int) RX8 D T) {x1 : Int32} {x2 : Int32} {o : Int32 × cb_St}  {σ : cb_St} {s0 : Int32} (hf : f_X8_meetNow_170 x1 x2 σ s0 = some o) {H : Heap} {locs : List Loc} {ls : Array Slot} (hs : cb_H shM A T D σ s.heap H locs) (hl : lv_has ls 5 [(0, .ref (A 0)), (1, .int x1), (2, .int x2)]) : cb_W p l e 4 s m args below meth c shM A T D (some (.int o.1)) o.2 H locs (F0 m 170 ls [.int s0]) := by
  obtain ⟨hx, hb, hml, hr, hown, hts, hK, hlk, hN⟩ := id C
  unfold f_X8_meetNow_170 at hf
  refine lv_istore (lv' := [(4, .int s0), (0, .ref (A 0)), (1, .int x1), (2, .int x2)]) hx hb dX8_meetNow_170 hl (by decide) rfl (fun ls hl => ?_)
  refine lv_iload hx hb dX8_meetNow_172 (lv_at hl 0 rfl) ?_
  refine lv_if_lt (tgt := 210) hx hb dX8_meetNow_174 (by decide) (fun cn => ?_) (fun cn => ?_)
  · replace hf := cb_ifp cn hf
    exact w_X8_meetNow_210 C  hf hs (lv_sub hl [1, 2, 3, 0] rfl)
  · replace hf := cb_ifn cn hf
    refine lv_aload_n hx hb dX8_meetNow_177 rfl (lv_at hl 1 rfl) ?_
    refine gf_X8_16 C hs rfl dX8_meetNow_178 ?_
    refine lv_bipush (v := 19) hx hb dX8_meetNow_181 (by decide) ?_
    refine lv_iload hx hb dX8_meetNow_183 (lv_at hl 0 rfl) ?_
    refine lv_iadd hx hb dX8_meetNow_185 ?_
    refine lv_dup2_11 hx hb dX8_meetNow_186 rfl rfl ?_
    obtain ⟨hc, hf⟩ := cb_ck_inv hf
    refine cb_iald C hs rfl (vp_in_iff.mpr hc) dX8_meetNow_187 ?_
    refine lv_aload_n hx hb dX8_meetNow_188 rfl (lv_at hl 1 rfl) ?_
    refine gf_X8_16 C hs rfl dX8_meetNow_189 ?_
    refine lv_bipush (v := 19) hx hb dX8_meetNow_192 (by decide) ?_
    refine lv_iload hx hb dX8_meetNow_194 (lv_at hl 0 rfl) ?_
    refine lv_iadd hx hb dX8_meetNow_196 ?_
    obtain ⟨hc, hf⟩ := cb_ck_inv hf
    refine cb_iald C hs rfl (vp_in_iff.mpr hc) dX8_meetNow_197 ?_
    refine lv_ldc (v := 999999) hx hb hown (hts _ kc_X8_241) dX8_meetNow_198 ?_
    refine lv_icmp_ge (tgt := 207) hx hb dX8_meetNow_200 (by decide) (fun cn => ?_) (fun cn => ?_)
    · replace hf := cb_ifp cn hf
      refine lv_iconst (v := 0) hx hb dX8_meetNow_207 (by decide) ?_
      exact w_X8_meetNow_208 C  hf hs (lv_sub hl [1, 2, 3, 0] rfl)
    · replace hf := cb_ifn cn hf
      refine lv_iconst (v := 1) hx hb dX8_meetNow_203 (by decide) ?_
      refine lv_goto (tgt := 208) hx hb dX8_meetNow_204 (by decide) ?_
      exact w_X8_meetNow_208 C  hf hs (lv_sub hl [1, 2, 3, 0] rfl)
def f_X8_meetNow_84 (x1 : Int32) (x2 : Int32) (σ : cb_St) (x3 : Int32) : Option (Int32 × cb_St) := cb_ck (0 ≤ Int32.toInt 26 ∧ Int32.toInt 26 < 51) (cb_ck (0 ≤ Int32.toInt (13 + x2) ∧ Int32.toInt (13 + x2) < 51) (cb_ck (0 ≤ Int32.toInt (13 + x1) ∧ Int32.toInt (13 + x1) < 51) (cb_ck (0 ≤ Int32.toInt (27 + (σ.1 3 (Int32.toNatClampNeg 26))) ∧ Int32.toInt (27 + (σ.1 3 (Int32.toNatClampNeg 26))) < 51) (cb_let (cb_sI σ 3 (Int32.toNatClampNeg (27 + (σ.1 3 (Int32.toNatClampNeg 26)))) ((((x3 + (4 * ((σ.1 3 (Int32.toNatClampNeg (13 + x2))) + 1))) + (64 * ((σ.1 3 (Int32.toNatClampNeg (13 + x1))) + 1))) + (1024 * x2)) + (8192 * x1))) (fun σ_1 => cb_ck (0 ≤ Int32.toInt 26 ∧ Int32.toInt 26 < 51) (cb_ck (0 ≤ Int32.toInt 26 ∧ Int32.toInt 26 < 51) (cb_let (cb_sI σ_1 3 (Int32.toNatClampNeg 26) ((σ_1.1 3 (Int32.toNatClampNeg 26)) + 1)) (fun σ_2 => if x3 = 0 then (f_X8_meetNow_170 x1 x2 σ_2 x1) else (if x3 = 1 then (f_X8_meetNow_170 x1 x2 σ_2 x2) else (f_X8_meetNow_170 x1 x2 σ_2 (-1)))))))))))
set_option maxHeartbeats 4000000 in
set_option maxRecDepth 100000 in
theorem w_X8_meetNow_84 (C : cb_C p s m args meth c cX8_meetNow 5 (some .int) RX8 D T) {x1 : Int32} {x2 : Int32} {o : Int32 × cb_St}  {σ : cb_St} {x3 : Int32} (hf : f_X8_meetNow_84 x1 x2 σ x3 = some o) {H : Heap} {locs : List Loc} {ls : Array Slot} (hs : cb_H shM A T D σ s.heap H locs) (hl : lv_has ls 5 [(0, .ref (A 0)), (1, .int x1), (2, .int x2), (3, .int x3)]) : cb_W p l e 4 s m args below meth c shM A T D (some (.int o.1)) o.2 H locs (F0 m 84 ls []) := by
  obtain ⟨hx, hb, hml, hr, hown, hts, hK, hlk, hN⟩ := id C
  unfold f_X8_meetNow_84 at hf
  refine lv_aload_n hx hb dX8_meetNow_84 rfl (lv_at hl 0 rfl) ?_
  refine gf_X8_16 C hs rfl dX8_meetNow_85 ?_
  refine lv_bipush (v := 27) hx hb dX8_meetNow_88 (by decide) ?_
  refine lv_aload_n hx hb dX8_meetNow_90 rfl (lv_at hl 0 rfl) ?_
  refine gf_X8_16 C hs rfl dX8_meetNow_91 ?_
  refine lv_bipush (v := 26) hx hb dX8_meetNow_94 (by decide) ?_
  obtain ⟨hc, hf⟩ := cb_ck_inv hf
  refine cb_iald C hs rfl (vp_in_iff.mpr hc) dX8_meetNow_96 ?_
  refine lv_iadd hx hb dX8_meetNow_97 ?_
  refine lv_iload_n hx hb dX8_meetNow_98 rfl (lv_at hl 3 rfl) ?_
  refine lv_iconst (v := 4) hx hb dX8_meetNow_99 (by decide) ?_
  refine lv_aload_n hx hb dX8_meetNow_100 rfl (lv_at hl 0 rfl) ?_
  refine gf_X8_16 C hs rfl dX8_meetNow_101 ?_
  refine lv_bipush (v := 13) hx hb dX8_meetNow_104 (by decide) ?_
  refine lv_iload_n hx hb dX8_meetNow_106 rfl (lv_at hl 2 rfl) ?_
  refine lv_iadd hx hb dX8_meetNow_107 ?_
  obtain ⟨hc, hf⟩ := cb_ck_inv hf
  refine cb_iald C hs rfl (vp_in_iff.mpr hc) dX8_meetNow_108 ?_
  refine lv_iconst (v := 1) hx hb dX8_meetNow_109 (by decide) ?_
  refine lv_iadd hx hb dX8_meetNow_110 ?_
  refine lv_imul hx hb dX8_meetNow_111 ?_
  refine lv_iadd hx hb dX8_meetNow_112 ?_
  refine lv_bipush (v := 64) hx hb dX8_meetNow_113 (by decide) ?_
  refine lv_aload_n hx hb dX8_meetNow_115 rfl (lv_at hl 0 rfl) ?_
  refine gf_X8_16 C hs rfl dX8_meetNow_116 ?_
  refine lv_bipush (v := 13) hx hb dX8_meetNow_119 (by decide) ?_
  refine lv_iload_n hx hb dX8_meetNow_121 rfl (lv_at hl 1 rfl) ?_
  refine lv_iadd hx hb dX8_meetNow_122 ?_
  obtain ⟨hc, hf⟩ := cb_ck_inv hf
  refine cb_iald C hs rfl (vp_in_iff.mpr hc) dX8_meetNow_123 ?_
  refine lv_iconst (v := 1) hx hb dX8_meetNow_124 (by decide) ?_
  refine lv_iadd hx hb dX8_meetNow_125 ?_
  refine lv_imul hx hb dX8_meetNow_126 ?_
  refine lv_iadd hx hb dX8_meetNow_127 ?_
  refine lv_sipush (v := 1024) hx hb dX8_meetNow_128 (by decide) ?_
  refine lv_iload_n hx hb dX8_meetNow_131 rfl (lv_at hl 2 rfl) ?_
  refine lv_imul hx hb dX8_meetNow_132 ?_
  refine lv_iadd hx hb dX8_meetNow_133 ?_
  refine lv_sipush (v := 8192) hx hb dX8_meetNow_134 (by decide) ?_
  refine lv_iload_n hx hb dX8_meetNow_137 rfl (lv_at hl 1 rfl) ?_
  refine lv_imul hx hb dX8_meetNow_138 ?_
  refine lv_iadd hx hb dX8_meetNow_139 ?_
  obtain ⟨hc, hf⟩ := cb_ck_inv hf
  refine cb_iast C hs rfl (vp_in_iff.mpr hc) dX8_meetNow_140 (fun H locs hs => ?_)
  obtain ⟨σ_1, e9, hf⟩ := cb_let_inv hf
  replace hs := cb_Hc e9 hs
  clear e9
  refine lv_aload_n hx hb dX8_meetNow_141 rfl (lv_at hl 0 rfl) ?_
  refine gf_X8_16 C hs rfl dX8_meetNow_142 ?_
  refine lv_bipush (v := 26) hx hb dX8_meetNow_145 (by decide) ?_
  refine lv_dup2_11 hx hb dX8_meetNow_147 rfl rfl ?_
  obtain ⟨hc, hf⟩ := cb_ck_inv hf
  refine cb_iald C hs rfl (vp_in_iff.mpr hc) dX8_meetNow_148 ?_
  refine lv_iconst (v := 1) hx hb dX8_meetNow_149 (by decide) ?_
  refine lv_iadd hx hb dX8_meetNow_150 ?_
  obtain ⟨hc, hf⟩ := cb_ck_inv hf
  refine cb_iast C hs rfl (vp_in_iff.mpr hc) dX8_meetNow_151 (fun H locs hs => ?_)
  obtain ⟨σ_2, e9, hf⟩ := cb_let_inv hf
  replace hs := cb_Hc e9 hs
  clear e9
  refine lv_iload_n hx hb dX8_meetNow_152 rfl (lv_at hl 3 rfl) ?_
  refine lv_if_ne (tgt := 160) hx hb dX8_meetNow_153 (by decide) (fun cn => ?_) (fun cn => ?_)
  · replace hf := cb_ifn cn hf
    refine lv_iload_n hx hb dX8_meetNow_160 rfl (lv_at hl 3 rfl) ?_
    refine lv_iconst (v := 1) hx hb dX8_meetNow_161 (by decide) ?_
    refine lv_icmp_ne (tgt := 169) hx hb dX8_meetNow_162 (by decide) (fun cn => ?_) (fun cn => ?_)
    · replace hf := cb_ifn cn hf
      refine lv_iconst (v := (-1)) hx hb dX8_meetNow_169 (by decide) ?_
      exact w_X8_meetNow_170 C  hf hs (lv_sub hl [0, 1, 2] rfl)
    · replace hf := cb_ifp cn hf
      refine lv_iload_n hx hb dX8_meetNow_165 rfl (lv_at hl 2 rfl) ?_
      refine lv_goto (tgt := 170) hx hb dX8_meetNow_166 (by decide) ?_
      exact w_X8_meetNow_170 C  hf hs (lv_sub hl [0, 1, 2] rfl)
  · replace hf := cb_ifp cn hf
    refine lv_iload_n hx hb dX8_meetNow_156 rfl (lv_at hl 1 rfl) ?_
    refine lv_goto (tgt := 170) hx hb dX8_meetNow_157 (by decide) ?_
    exact w_X8_meetNow_170 C  hf hs (lv_sub hl [0, 1, 2] rfl)
def f_X8_meetNow_38 (x1 : Int32) (x2 : Int32) : Nat → cb_St → Int32 → Int32 → Option (Int32 × cb_St)
  | 0, _, _, _ => none
  | fu + 1, σ, x3, x4 => if 24 ≤ x4 then (cb_ck (0 ≤ Int32.toInt 26 ∧ Int32.toInt 26 < 51) (cb_ck (0 ≤ Int32.toInt 26 ∧ Int32.toInt 26 < 51) (cb_let (cb_sI σ 3 (Int32.toNatClampNeg 26) ((σ.1 3 (Int32.toNatClampNeg 26)) - 1)) (fun σ_1 => f_X8_meetNow_84 x1 x2 σ_1 x3)))) else (cb_ck (0 ≤ Int32.toInt (27 + x4) ∧ Int32.toInt (27 + x4) < 51) (cb_ck (0 ≤ Int32.toInt ((27 + x4) - 1) ∧ Int32.toInt ((27 + x4) - 1) < 51) (cb_let (cb_sI σ 3 (Int32.toNatClampNeg ((27 + x4) - 1)) (σ.1 3 (Int32.toNatClampNeg (27 + x4)))) (fun σ_2 => cb_let (x4 + 1) (fun x4_2 => f_X8_meetNow_38 x1 x2 fu σ_2 x3 x4_2)))))
set_option maxHeartbeats 4000000 in
set_option maxRecDepth 100000 in
theorem w_X8_meetNow_38 (C : cb_C p s m args meth c cX8_meetNow 5 (some .int) RX8 D T) {x1 : Int32} {x2 : Int32} {o : Int32 × cb_St}  : ∀ (fu : Nat) (σ : cb_St) (x3 : Int32) (x4 : Int32), f_X8_meetNow_38 x1 x2 fu σ x3 x4 = some o → ∀ (H : Heap) (locs : List Loc) (ls : Array Slot), cb_H shM A T D σ s.heap H locs → lv_has ls 5 [(0, .ref (A 0)), (1, .int x1), (2, .int x2), (3, .int x3), (4, .int x4)] → cb_W p l e 4 s m args below meth c shM A T D (some (.int o.1)) o.2 H locs (F0 m 38 ls []) := by
  obtain ⟨hx, hb, hml, hr, hown, hts, hK, hlk, hN⟩ := id C
  intro fu
  induction fu with
  | zero =>
    intro σ x3 x4 hf
    rw [f_X8_meetNow_38] at hf
    cases hf
  | succ fu ih =>
    intro σ x3 x4 hf H locs ls hs hl
    rw [f_X8_meetNow_38] at hf
    refine lv_iload hx hb dX8_meetNow_38 (lv_at hl 4 rfl) ?_
    refine lv_bipush (v := 24) hx hb dX8_meetNow_40 (by decide) ?_
    refine lv_icmp_ge (tgt := 73) hx hb dX8_meetNow_42 (by decide) (fun cn => ?_) (fun cn => ?_)
    · replace hf := cb_ifp cn hf
      refine lv_aload_n hx hb dX8_meetNow_73 rfl (lv_at hl 0 rfl) ?_
      refine gf_X8_16 C hs rfl dX8_meetNow_74 ?_
      refine lv_bipush (v := 26) hx hb dX8_meetNow_77 (by decide) ?_
      refine lv_dup2_11 hx hb dX8_meetNow_79 rfl rfl ?_
      obtain ⟨hc, hf⟩ := cb_ck_inv hf
      refine cb_iald C hs rfl (vp_in_iff.mpr hc) dX8_meetNow_80 ?_
      refine lv_iconst (v := 1) hx hb dX8_meetNow_81 (by decide) ?_
      refine lv_isub hx hb dX8_meetNow_82 ?_
      obtain ⟨hc, hf⟩ := cb_ck_inv hf
      refine cb_iast C hs rfl (vp_in_iff.mpr hc) dX8_meetNow_83 (fun H locs hs => ?_)
      obtain ⟨σ_1, e9, hf⟩ := cb_let_inv hf
      replace hs := cb_Hc e9 hs
      clear e9
      exact w_X8_meetNow_84 C  hf hs (lv_sub hl [0, 1, 2, 3] rfl)
    · replace hf := cb_ifn cn hf
      refine lv_aload_n hx hb dX8_meetNow_45 rfl (lv_at hl 0 rfl) ?_
      refine gf_X8_16 C hs rfl dX8_meetNow_46 ?_
      refine lv_bipush (v := 27) hx hb dX8_meetNow_49 (by decide) ?_
      refine lv_iload hx hb dX8_meetNow_51 (lv_at hl 4 rfl) ?_
      refine lv_iadd hx hb dX8_meetNow_53 ?_
      refine lv_iconst (v := 1) hx hb dX8_meetNow_54 (by decide) ?_
      refine lv_isub hx hb dX8_meetNow_55 ?_
      refine lv_aload_n hx hb dX8_meetNow_56 rfl (lv_at hl 0 rfl) ?_
      refine gf_X8_16 C hs rfl dX8_meetNow_57 ?_
      refine lv_bipush (v := 27) hx hb dX8_meetNow_60 (by decide) ?_
      refine lv_iload hx hb dX8_meetNow_62 (lv_at hl 4 rfl) ?_
      refine lv_iadd hx hb dX8_meetNow_64 ?_
      obtain ⟨hc, hf⟩ := cb_ck_inv hf
      refine cb_iald C hs rfl (vp_in_iff.mpr hc) dX8_meetNow_65 ?_
      obtain ⟨hc, hf⟩ := cb_ck_inv hf
      refine cb_iast C hs rfl (vp_in_iff.mpr hc) dX8_meetNow_66 (fun H locs hs => ?_)
      obtain ⟨σ_2, e9, hf⟩ := cb_let_inv hf
      replace hs := cb_Hc e9 hs
      clear e9
      obtain ⟨x4_2, e9, hf⟩ := cb_let_inv hf
      refine lv_iinc (v := x4_2) (lv' := [(4, .int x4_2), (0, .ref (A 0)), (1, .int x1), (2, .int x2), (3, .int x3)]) hx hb dX8_meetNow_67 hl (k := 4) rfl (by rw [e9]; rfl) (by decide) rfl (fun ls hl => ?_)
      clear e9
      refine lv_goto (tgt := 38) hx hb dX8_meetNow_70 (by decide) ?_
      exact ih _ _ _ hf _ _ _ hs (lv_sub hl [1, 2, 3, 4, 0] rfl)
def f_X8_meetNow (x1 : Int32) (x2 : Int32) (σ : cb_St) : Option (Int32 × cb_St) := cb_ck (0 ≤ Int32.toInt (13 + x1) ∧ Int32.toInt (13 + x1) < 51) (cb_ck (0 ≤ Int32.toInt (13 + x2) ∧ Int32.toInt (13 + x2) < 51) (cb_bp (f_X8_meetBy (σ.1 3 (Int32.toNatClampNeg (13 + x1))) (σ.1 3 (Int32.toNatClampNeg (13 + x2))) σ) (fun r_1 => cb_ck (0 ≤ Int32.toInt 26 ∧ Int32.toInt 26 < 51) (if (σ.1 3 (Int32.toNatClampNeg 26)) = 24 then (f_X8_meetNow_38 x1 x2 cb_fu σ r_1 1) else (f_X8_meetNow_84 x1 x2 σ r_1)))))
set_option maxHeartbeats 4000000 in
set_option maxRecDepth 100000 in
theorem c_X8_meetNow {x1 : Int32} {x2 : Int32}  {σ : cb_St} {o : Int32 × cb_St} (hf : f_X8_meetNow x1 x2 σ = some o) : cb_M l yX8_meetNow cX8_meetNow 5 (some .int) 4 shM A T D σ [.ref (A 0), .int x1, .int x2] (some (.int o.1)) o.2 := by
  refine cb_met (by decide +kernel) (Nat.le_of_ble_eq_true rfl) ?_
  intro p e s m below meth c C hs ls hl
  have hl : lv_has ls 5 [(0, .ref (A 0)), (1, .int x1), (2, .int x2)] := hl
  obtain ⟨hx, hb, hml, hr, hown, hts, hK, hlk, hN⟩ := id C
  unfold f_X8_meetNow at hf
  refine lv_aload_n hx hb dX8_meetNow_0 rfl (lv_at hl 0 rfl) ?_
  refine lv_aload_n hx hb dX8_meetNow_1 rfl (lv_at hl 0 rfl) ?_
  refine gf_X8_16 C hs rfl dX8_meetNow_2 ?_
  refine lv_bipush (v := 13) hx hb dX8_meetNow_5 (by decide) ?_
  refine lv_iload_n hx hb dX8_meetNow_7 rfl (lv_at hl 1 rfl) ?_
  refine lv_iadd hx hb dX8_meetNow_8 ?_
  obtain ⟨hc, hf⟩ := cb_ck_inv hf
  refine cb_iald C hs rfl (vp_in_iff.mpr hc) dX8_meetNow_9 ?_
  refine lv_aload_n hx hb dX8_meetNow_10 rfl (lv_at hl 0 rfl) ?_
  refine gf_X8_16 C hs rfl dX8_meetNow_11 ?_
  refine lv_bipush (v := 13) hx hb dX8_meetNow_14 (by decide) ?_
  refine lv_iload_n hx hb dX8_meetNow_16 rfl (lv_at hl 2 rfl) ?_
  refine lv_iadd hx hb dX8_meetNow_17 ?_
  obtain ⟨hc, hf⟩ := cb_ck_inv hf
  refine cb_iald C hs rfl (vp_in_iff.mpr hc) dX8_meetNow_18 ?_
  obtain ⟨r_1, hc, hf⟩ := cb_bp_inv hf
  refine cb_callVi C (c_X8_meetBy  hc) mw_X8_meetBy ml_X8_177 rfl ⟨Nat.le_of_ble_eq_true rfl, Nat.le_of_ble_eq_true rfl⟩ rfl (Nat.le_of_ble_eq_true rfl) rfl hs hl rfl (Nat.le_of_ble_eq_true rfl) dX8_meetNow_19 (fun H locs hs => ?_)
  clear hc
  refine lv_istore_n (lv' := [(3, .int r_1), (0, .ref (A 0)), (1, .int x1), (2, .int x2)]) hx hb dX8_meetNow_22 rfl hl (by decide) rfl (fun ls hl => ?_)
  refine lv_aload_n hx hb dX8_meetNow_23 rfl (lv_at hl 1 rfl) ?_
  refine gf_X8_16 C hs rfl dX8_meetNow_24 ?_
  refine lv_bipush (v := 26) hx hb dX8_meetNow_27 (by decide) ?_
  obtain ⟨hc, hf⟩ := cb_ck_inv hf
  refine cb_iald C hs rfl (vp_in_iff.mpr hc) dX8_meetNow_29 ?_
  refine lv_bipush (v := 24) hx hb dX8_meetNow_30 (by decide) ?_
  refine lv_icmp_ne (tgt := 84) hx hb dX8_meetNow_32 (by decide) (fun cn => ?_) (fun cn => ?_)
  · replace hf := cb_ifn cn hf
    exact w_X8_meetNow_84 C  hf hs (lv_sub hl [1, 2, 3, 0] rfl)
  · replace hf := cb_ifp cn hf
    refine lv_iconst (v := 1) hx hb dX8_meetNow_35 (by decide) ?_
    refine lv_istore (lv' := [(4, .int 1), (3, .int r_1), (0, .ref (A 0)), (1, .int x1), (2, .int x2)]) hx hb dX8_meetNow_36 hl (by decide) rfl (fun ls hl => ?_)
    exact w_X8_meetNow_38 C  cb_fu _ _ _ hf _ _ _ hs (lv_sub hl [2, 3, 4, 1, 0] rfl)
/-! ===== CardBecomeModel.goes ===== -/
def f_X8_goes (x0 : Int32) (x1 : Int32) (x2 : Int32) (σ : cb_St)  : Option (Int32) := if x1 = 1 then (some ((x2 - 1) - x0)) else (if x1 = 2 then (if x0 = 0 then (some (x2 - 1)) else (some (x0 - 1))) else (cb_let (x2 / 2) (fun x3_0 => if x3_0 ≤ x0 then (some (2 * (x0 - x3_0))) else (some ((2 * x0) + 1)))))
set_option maxHeartbeats 4000000 in
set_option maxRecDepth 100000 in
theorem c_X8_goes {x0 : Int32} {x1 : Int32} {x2 : Int32} {σ : cb_St}   {o : Int32} (hf : f_X8_goes x0 x1 x2 σ = some o) : cb_M l yX8_goes cX8_goes 4 (some .int) 1 shM A T D σ [.int x0, .int x1, .int x2] (some (.int o)) σ := by
  refine cb_met (by decide +kernel) (Nat.le_of_ble_eq_true rfl) ?_
  intro p e s m below meth c C hs ls hl
  have hl : lv_has ls 4 [(0, .int x0), (1, .int x1), (2, .int x2)] := hl
  obtain ⟨hx, hb, hml, hr, hown, hts, hK, hlk, hN⟩ := id C
  unfold f_X8_goes at hf
  refine lv_iload_n hx hb dX8_goes_0 rfl (lv_at hl 1 rfl) ?_
  refine lv_iconst (v := 1) hx hb dX8_goes_1 (by decide) ?_
  refine lv_icmp_ne (tgt := 11) hx hb dX8_goes_2 (by decide) (fun cn => ?_) (fun cn => ?_)
  · replace hf := cb_ifn cn hf
    refine lv_iload_n hx hb dX8_goes_11 rfl (lv_at hl 1 rfl) ?_
    refine lv_iconst (v := 2) hx hb dX8_goes_12 (by decide) ?_
    refine lv_icmp_ne (tgt := 30) hx hb dX8_goes_13 (by decide) (fun cn => ?_) (fun cn => ?_)
    · replace hf := cb_ifn cn hf
      refine lv_iload_n hx hb dX8_goes_30 rfl (lv_at hl 2 rfl) ?_
      refine lv_iconst (v := 2) hx hb dX8_goes_31 (by decide) ?_
      refine lv_idiv hx hb dX8_goes_32 (by decide) ?_
      obtain ⟨x3_0, e9, hf⟩ := cb_let_inv hf
      refine cb_topi e9 ?_
      clear e9
      refine lv_istore_n (lv' := [(3, .int x3_0), (0, .int x0), (1, .int x1), (2, .int x2)]) hx hb dX8_goes_33 rfl hl (by decide) rfl (fun ls hl => ?_)
      refine lv_iload_n hx hb dX8_goes_34 rfl (lv_at hl 1 rfl) ?_
      refine lv_iload_n hx hb dX8_goes_35 rfl (lv_at hl 0 rfl) ?_
      refine lv_icmp_ge (tgt := 47) hx hb dX8_goes_36 (by decide) (fun cn => ?_) (fun cn => ?_)
      · replace hf := cb_ifp cn hf
        refine lv_iconst (v := 2) hx hb dX8_goes_47 (by decide) ?_
        refine lv_iload_n hx hb dX8_goes_48 rfl (lv_at hl 1 rfl) ?_
        refine lv_iload_n hx hb dX8_goes_49 rfl (lv_at hl 0 rfl) ?_
        refine lv_isub hx hb dX8_goes_50 ?_
        refine lv_imul hx hb dX8_goes_51 ?_
        have hf := Option.some.inj hf
        subst hf
        exact cb_reti C hs dX8_goes_52
      · replace hf := cb_ifn cn hf
        refine lv_iconst (v := 2) hx hb dX8_goes_39 (by decide) ?_
        refine lv_iload_n hx hb dX8_goes_40 rfl (lv_at hl 1 rfl) ?_
        refine lv_imul hx hb dX8_goes_41 ?_
        refine lv_iconst (v := 1) hx hb dX8_goes_42 (by decide) ?_
        refine lv_iadd hx hb dX8_goes_43 ?_
        refine lv_goto (tgt := 52) hx hb dX8_goes_44 (by decide) ?_
        have hf := Option.some.inj hf
        subst hf
        exact cb_reti C hs dX8_goes_52
    · replace hf := cb_ifp cn hf
      refine lv_iload_n hx hb dX8_goes_16 rfl (lv_at hl 0 rfl) ?_
      refine lv_if_ne (tgt := 26) hx hb dX8_goes_17 (by decide) (fun cn => ?_) (fun cn => ?_)
      · replace hf := cb_ifn cn hf
        refine lv_iload_n hx hb dX8_goes_26 rfl (lv_at hl 0 rfl) ?_
        refine lv_iconst (v := 1) hx hb dX8_goes_27 (by decide) ?_
        refine lv_isub hx hb dX8_goes_28 ?_
        have hf := Option.some.inj hf
        subst hf
        exact cb_reti C hs dX8_goes_29
      · replace hf := cb_ifp cn hf
        refine lv_iload_n hx hb dX8_goes_20 rfl (lv_at hl 2 rfl) ?_
        refine lv_iconst (v := 1) hx hb dX8_goes_21 (by decide) ?_
        refine lv_isub hx hb dX8_goes_22 ?_
        refine lv_goto (tgt := 29) hx hb dX8_goes_23 (by decide) ?_
        have hf := Option.some.inj hf
        subst hf
        exact cb_reti C hs dX8_goes_29
  · replace hf := cb_ifp cn hf
    refine lv_iload_n hx hb dX8_goes_5 rfl (lv_at hl 2 rfl) ?_
    refine lv_iconst (v := 1) hx hb dX8_goes_6 (by decide) ?_
    refine lv_isub hx hb dX8_goes_7 ?_
    refine lv_iload_n hx hb dX8_goes_8 rfl (lv_at hl 0 rfl) ?_
    refine lv_isub hx hb dX8_goes_9 ?_
    have hf := Option.some.inj hf
    subst hf
    exact cb_reti C hs dX8_goes_10
/-! ===== CardBecomeModel.shuffleNow ===== -/
def f_X8_shuffleNow_42 (x1 : Int32) : Nat → cb_St → Int32 → Int32 → Option (cb_St)
  | 0, _, _, _ => none
  | fu + 1, σ, x2, x3 => if x2 ≤ x3 then (some σ) else (cb_ck (0 ≤ Int32.toInt x3 ∧ Int32.toInt x3 < 12) (cb_ck (0 ≤ Int32.toInt (0 + x3) ∧ Int32.toInt (0 + x3) < 51) (cb_let (cb_sI σ 3 (Int32.toNatClampNeg (0 + x3)) (σ.1 9 (Int32.toNatClampNeg x3))) (fun σ_1 => cb_let (x3 + 1) (fun x3_1 => f_X8_shuffleNow_42 x1 fu σ_1 x2 x3_1)))))
set_option maxHeartbeats 4000000 in
set_option maxRecDepth 100000 in
theorem w_X8_shuffleNow_42 (C : cb_C p s m args meth c cX8_shuffleNow 4 none RX8 D T) {x1 : Int32} {o : cb_St}  : ∀ (fu : Nat) (σ : cb_St) (x2 : Int32) (x3 : Int32), f_X8_shuffleNow_42 x1 fu σ x2 x3 = some o → ∀ (H : Heap) (locs : List Loc) (ls : Array Slot), cb_H shM A T D σ s.heap H locs → lv_has ls 4 [(0, .ref (A 0)), (1, .int x1), (2, .int x2), (3, .int x3)] → cb_W p l e 2 s m args below meth c shM A T D none o H locs (F0 m 42 ls []) := by
  obtain ⟨hx, hb, hml, hr, hown, hts, hK, hlk, hN⟩ := id C
  intro fu
  induction fu with
  | zero =>
    intro σ x2 x3 hf
    rw [f_X8_shuffleNow_42] at hf
    cases hf
  | succ fu ih =>
    intro σ x2 x3 hf H locs ls hs hl
    rw [f_X8_shuffleNow_42] at hf
    refine lv_iload_n hx hb dX8_shuffleNow_42 rfl (lv_at hl 3 rfl) ?_
    refine lv_iload_n hx hb dX8_shuffleNow_43 rfl (lv_at hl 2 rfl) ?_
    refine lv_icmp_ge (tgt := 67) hx hb dX8_shuffleNow_44 (by decide) (fun cn => ?_) (fun cn => ?_)
    · replace hf := cb_ifp cn hf
      have hf := Option.some.inj hf
      subst hf
      exact cb_retv C hs dX8_shuffleNow_67
    · replace hf := cb_ifn cn hf
      refine lv_aload_n hx hb dX8_shuffleNow_47 rfl (lv_at hl 0 rfl) ?_
      refine gf_X8_16 C hs rfl dX8_shuffleNow_48 ?_
      refine lv_iconst (v := 0) hx hb dX8_shuffleNow_51 (by decide) ?_
      refine lv_iload_n hx hb dX8_shuffleNow_52 rfl (lv_at hl 3 rfl) ?_
      refine lv_iadd hx hb dX8_shuffleNow_53 ?_
      refine lv_aload_n hx hb dX8_shuffleNow_54 rfl (lv_at hl 0 rfl) ?_
      refine gf_X8_38 C hs rfl dX8_shuffleNow_55 ?_
      refine lv_iload_n hx hb dX8_shuffleNow_58 rfl (lv_at hl 3 rfl) ?_
      obtain ⟨hc, hf⟩ := cb_ck_inv hf
      refine cb_iald C hs rfl (vp_in_iff.mpr hc) dX8_shuffleNow_59 ?_
      obtain ⟨hc, hf⟩ := cb_ck_inv hf
      refine cb_iast C hs rfl (vp_in_iff.mpr hc) dX8_shuffleNow_60 (fun H locs hs => ?_)
      obtain ⟨σ_1, e9, hf⟩ := cb_let_inv hf
      replace hs := cb_Hc e9 hs
      clear e9
      obtain ⟨x3_1, e9, hf⟩ := cb_let_inv hf
      refine lv_iinc (v := x3_1) (lv' := [(3, .int x3_1), (0, .ref (A 0)), (1, .int x1), (2, .int x2)]) hx hb dX8_shuffleNow_61 hl (k := 3) rfl (by rw [e9]; rfl) (by decide) rfl (fun ls hl => ?_)
      clear e9
      refine lv_goto (tgt := 42) hx hb dX8_shuffleNow_64 (by decide) ?_
      exact ih _ _ _ hf _ _ _ hs (lv_sub hl [1, 2, 3, 0] rfl)
def f_X8_shuffleNow_10 (x1 : Int32) : Nat → cb_St → Int32 → Int32 → Option (cb_St)
  | 0, _, _, _ => none
  | fu + 1, σ, x2, x3 => if x2 ≤ x3 then (f_X8_shuffleNow_42 x1 cb_fu σ x2 0) else (cb_bp (f_X8_goes x3 x1 x2 σ) (fun r_1 => cb_ck (0 ≤ Int32.toInt (0 + x3) ∧ Int32.toInt (0 + x3) < 51) (cb_ck (0 ≤ Int32.toInt r_1 ∧ Int32.toInt r_1 < 12) (cb_let (cb_sI σ 9 (Int32.toNatClampNeg r_1) (σ.1 3 (Int32.toNatClampNeg (0 + x3)))) (fun σ_2 => cb_let (x3 + 1) (fun x3_2 => f_X8_shuffleNow_10 x1 fu σ_2 x2 x3_2))))))
set_option maxHeartbeats 4000000 in
set_option maxRecDepth 100000 in
theorem w_X8_shuffleNow_10 (C : cb_C p s m args meth c cX8_shuffleNow 4 none RX8 D T) {x1 : Int32} {o : cb_St}  : ∀ (fu : Nat) (σ : cb_St) (x2 : Int32) (x3 : Int32), f_X8_shuffleNow_10 x1 fu σ x2 x3 = some o → ∀ (H : Heap) (locs : List Loc) (ls : Array Slot), cb_H shM A T D σ s.heap H locs → lv_has ls 4 [(0, .ref (A 0)), (1, .int x1), (2, .int x2), (3, .int x3)] → cb_W p l e 2 s m args below meth c shM A T D none o H locs (F0 m 10 ls []) := by
  obtain ⟨hx, hb, hml, hr, hown, hts, hK, hlk, hN⟩ := id C
  intro fu
  induction fu with
  | zero =>
    intro σ x2 x3 hf
    rw [f_X8_shuffleNow_10] at hf
    cases hf
  | succ fu ih =>
    intro σ x2 x3 hf H locs ls hs hl
    rw [f_X8_shuffleNow_10] at hf
    refine lv_iload_n hx hb dX8_shuffleNow_10 rfl (lv_at hl 3 rfl) ?_
    refine lv_iload_n hx hb dX8_shuffleNow_11 rfl (lv_at hl 2 rfl) ?_
    refine lv_icmp_ge (tgt := 40) hx hb dX8_shuffleNow_12 (by decide) (fun cn => ?_) (fun cn => ?_)
    · replace hf := cb_ifp cn hf
      refine lv_iconst (v := 0) hx hb dX8_shuffleNow_40 (by decide) ?_
      refine lv_istore_n (lv' := [(3, .int 0), (0, .ref (A 0)), (1, .int x1), (2, .int x2)]) hx hb dX8_shuffleNow_41 rfl hl (by decide) rfl (fun ls hl => ?_)
      exact w_X8_shuffleNow_42 C  cb_fu _ _ _ hf _ _ _ hs (lv_sub hl [1, 2, 3, 0] rfl)
    · replace hf := cb_ifn cn hf
      refine lv_aload_n hx hb dX8_shuffleNow_15 rfl (lv_at hl 0 rfl) ?_
      refine gf_X8_38 C hs rfl dX8_shuffleNow_16 ?_
      refine lv_iload_n hx hb dX8_shuffleNow_19 rfl (lv_at hl 3 rfl) ?_
      refine lv_iload_n hx hb dX8_shuffleNow_20 rfl (lv_at hl 1 rfl) ?_
      refine lv_iload_n hx hb dX8_shuffleNow_21 rfl (lv_at hl 2 rfl) ?_
      obtain ⟨r_1, hc, hf⟩ := cb_bp_inv hf
      refine cb_callSi C (c_X8_goes  hc) mw_X8_goes ml_X8_249 rfl ⟨Nat.le_of_ble_eq_true rfl, Nat.le_of_ble_eq_true rfl⟩ hs hl rfl (Nat.le_of_ble_eq_true rfl) dX8_shuffleNow_22 (fun H locs hs => ?_)
      clear hc
      refine lv_aload_n hx hb dX8_shuffleNow_25 rfl (lv_at hl 0 rfl) ?_
      refine gf_X8_16 C hs rfl dX8_shuffleNow_26 ?_
      refine lv_iconst (v := 0) hx hb dX8_shuffleNow_29 (by decide) ?_
      refine lv_iload_n hx hb dX8_shuffleNow_30 rfl (lv_at hl 3 rfl) ?_
      refine lv_iadd hx hb dX8_shuffleNow_31 ?_
      obtain ⟨hc, hf⟩ := cb_ck_inv hf
      refine cb_iald C hs rfl (vp_in_iff.mpr hc) dX8_shuffleNow_32 ?_
      obtain ⟨hc, hf⟩ := cb_ck_inv hf
      refine cb_iast C hs rfl (vp_in_iff.mpr hc) dX8_shuffleNow_33 (fun H locs hs => ?_)
      obtain ⟨σ_2, e9, hf⟩ := cb_let_inv hf
      replace hs := cb_Hc e9 hs
      clear e9
      obtain ⟨x3_2, e9, hf⟩ := cb_let_inv hf
      refine lv_iinc (v := x3_2) (lv' := [(3, .int x3_2), (0, .ref (A 0)), (1, .int x1), (2, .int x2)]) hx hb dX8_shuffleNow_34 hl (k := 3) rfl (by rw [e9]; rfl) (by decide) rfl (fun ls hl => ?_)
      clear e9
      refine lv_goto (tgt := 10) hx hb dX8_shuffleNow_37 (by decide) ?_
      exact ih _ _ _ hf _ _ _ hs (lv_sub hl [1, 2, 3, 0] rfl)
def f_X8_shuffleNow (x1 : Int32) (σ : cb_St) : Option (cb_St) := cb_ck (0 ≤ Int32.toInt 12 ∧ Int32.toInt 12 < 51) (cb_let (σ.1 3 (Int32.toNatClampNeg 12)) (fun x2_0 => f_X8_shuffleNow_10 x1 cb_fu σ x2_0 0))
set_option maxHeartbeats 4000000 in
set_option maxRecDepth 100000 in
theorem c_X8_shuffleNow {x1 : Int32}  {σ : cb_St} {o : cb_St} (hf : f_X8_shuffleNow x1 σ = some o) : cb_M l yX8_shuffleNow cX8_shuffleNow 4 none 2 shM A T D σ [.ref (A 0), .int x1] none o := by
  refine cb_met (by decide +kernel) (Nat.le_of_ble_eq_true rfl) ?_
  intro p e s m below meth c C hs ls hl
  have hl : lv_has ls 4 [(0, .ref (A 0)), (1, .int x1)] := hl
  obtain ⟨hx, hb, hml, hr, hown, hts, hK, hlk, hN⟩ := id C
  unfold f_X8_shuffleNow at hf
  refine lv_aload_n hx hb dX8_shuffleNow_0 rfl (lv_at hl 0 rfl) ?_
  refine gf_X8_16 C hs rfl dX8_shuffleNow_1 ?_
  refine lv_bipush (v := 12) hx hb dX8_shuffleNow_4 (by decide) ?_
  obtain ⟨hc, hf⟩ := cb_ck_inv hf
  refine cb_iald C hs rfl (vp_in_iff.mpr hc) dX8_shuffleNow_6 ?_
  obtain ⟨x2_0, e9, hf⟩ := cb_let_inv hf
  refine cb_topi e9 ?_
  clear e9
  refine lv_istore_n (lv' := [(2, .int x2_0), (0, .ref (A 0)), (1, .int x1)]) hx hb dX8_shuffleNow_7 rfl hl (by decide) rfl (fun ls hl => ?_)
  refine lv_iconst (v := 0) hx hb dX8_shuffleNow_8 (by decide) ?_
  refine lv_istore_n (lv' := [(3, .int 0), (2, .int x2_0), (0, .ref (A 0)), (1, .int x1)]) hx hb dX8_shuffleNow_9 rfl hl (by decide) rfl (fun ls hl => ?_)
  exact w_X8_shuffleNow_10 C  cb_fu _ _ _ hf _ _ _ hs (lv_sub hl [2, 3, 1, 0] rfl)
/-! ===== CardBecomeModel.happen ===== -/
def f_X8_happen_99  (σ : cb_St) (s0 : Int32) : Option (cb_St) := some σ
set_option maxHeartbeats 4000000 in
set_option maxRecDepth 100000 in
theorem w_X8_happen_99 (C : cb_C p s m args meth c cX8_happen 5 none RX8 D T)  {o : cb_St}  {σ : cb_St} {s0 : Int32} (hf : f_X8_happen_99 σ s0 = some o) {H : Heap} {locs : List Loc} {ls : Array Slot} (hs : cb_H shM A T D σ s.heap H locs) (hl : lv_has ls 5 [(0, .ref (A 0))]) : cb_W p l e 5 s m args below meth c shM A T D none o H locs (F0 m 99 ls [.int s0]) := by
  obtain ⟨hx, hb, hml, hr, hown, hts, hK, hlk, hN⟩ := id C
  unfold f_X8_happen_99 at hf
  refine lv_istore (lv' := [(4, .int s0), (0, .ref (A 0))]) hx hb dX8_happen_99 hl (by decide) rfl (fun ls hl => ?_)
  refine lv_goto (tgt := 118) hx hb dX8_happen_101 (by decide) ?_
  have hf := Option.some.inj hf
  subst hf
  exact cb_retv C hs dX8_happen_118
def f_X8_happen_70  (σ : cb_St) (x1 : Int32) (x2 : Int32) : Option (cb_St) := if x2 = 3 then (cb_bi (f_X8_draw (σ.1 0 7) σ) (fun r_4 σ_5 => if r_4 = x1 then (f_X8_happen_99 σ_5 (-1)) else (cb_bi (f_X8_meetNow x1 r_4 σ_5) (fun r_6 σ_7 => f_X8_happen_99 σ_7 r_6)))) else (if x2 = 4 then (cb_bi (f_X8_draw 3 σ) (fun r_1 σ_2 => cb_bv (f_X8_shuffleNow r_1 σ_2) (fun σ_3 => some σ_3))) else (some σ))
set_option maxHeartbeats 4000000 in
set_option maxRecDepth 100000 in
theorem w_X8_happen_70 (C : cb_C p s m args meth c cX8_happen 5 none RX8 D T)  {o : cb_St}  {σ : cb_St} {x1 : Int32} {x2 : Int32} (hf : f_X8_happen_70 σ x1 x2 = some o) {H : Heap} {locs : List Loc} {ls : Array Slot} (hs : cb_H shM A T D σ s.heap H locs) (hl : lv_has ls 5 [(0, .ref (A 0)), (1, .int x1), (2, .int x2)]) : cb_W p l e 5 s m args below meth c shM A T D none o H locs (F0 m 70 ls []) := by
  obtain ⟨hx, hb, hml, hr, hown, hts, hK, hlk, hN⟩ := id C
  unfold f_X8_happen_70 at hf
  refine lv_iload_n hx hb dX8_happen_70 rfl (lv_at hl 2 rfl) ?_
  refine lv_iconst (v := 3) hx hb dX8_happen_71 (by decide) ?_
  refine lv_icmp_ne (tgt := 104) hx hb dX8_happen_72 (by decide) (fun cn => ?_) (fun cn => ?_)
  · replace hf := cb_ifn cn hf
    refine lv_iload_n hx hb dX8_happen_104 rfl (lv_at hl 2 rfl) ?_
    refine lv_iconst (v := 4) hx hb dX8_happen_105 (by decide) ?_
    refine lv_icmp_ne (tgt := 118) hx hb dX8_happen_106 (by decide) (fun cn => ?_) (fun cn => ?_)
    · replace hf := cb_ifn cn hf
      have hf := Option.some.inj hf
      subst hf
      exact cb_retv C hs dX8_happen_118
    · replace hf := cb_ifp cn hf
      refine lv_aload_n hx hb dX8_happen_109 rfl (lv_at hl 0 rfl) ?_
      refine lv_aload_n hx hb dX8_happen_110 rfl (lv_at hl 0 rfl) ?_
      refine lv_iconst (v := 3) hx hb dX8_happen_111 (by decide) ?_
      obtain ⟨r_1, σ_2, hc, hf⟩ := cb_bi_inv hf
      refine cb_callVi C (c_X8_draw  hc) mw_X8_draw ml_X8_269 rfl ⟨Nat.le_of_ble_eq_true rfl, Nat.le_of_ble_eq_true rfl⟩ rfl (Nat.le_of_ble_eq_true rfl) rfl hs hl rfl (Nat.le_of_ble_eq_true rfl) dX8_happen_112 (fun H locs hs => ?_)
      clear hc
      obtain ⟨σ_3, hc, hf⟩ := cb_bv_inv hf
      refine cb_callVv C (c_X8_shuffleNow  hc) mw_X8_shuffleNow ml_X8_253 rfl ⟨Nat.le_of_ble_eq_true rfl, Nat.le_of_ble_eq_true rfl⟩ rfl (Nat.le_of_ble_eq_true rfl) rfl hs hl rfl (Nat.le_of_ble_eq_true rfl) dX8_happen_115 (fun H locs hs => ?_)
      clear hc
      have hf := Option.some.inj hf
      subst hf
      exact cb_retv C hs dX8_happen_118
  · replace hf := cb_ifp cn hf
    refine lv_aload_n hx hb dX8_happen_75 rfl (lv_at hl 0 rfl) ?_
    refine lv_aload_n hx hb dX8_happen_76 rfl (lv_at hl 0 rfl) ?_
    refine gf_X8_75 C hs rfl dX8_happen_77 ?_
    obtain ⟨r_4, σ_5, hc, hf⟩ := cb_bi_inv hf
    refine cb_callVi C (c_X8_draw  hc) mw_X8_draw ml_X8_269 rfl ⟨Nat.le_of_ble_eq_true rfl, Nat.le_of_ble_eq_true rfl⟩ rfl (Nat.le_of_ble_eq_true rfl) rfl hs hl rfl (Nat.le_of_ble_eq_true rfl) dX8_happen_80 (fun H locs hs => ?_)
    clear hc
    refine lv_istore_n (lv' := [(3, .int r_4), (0, .ref (A 0)), (1, .int x1), (2, .int x2)]) hx hb dX8_happen_83 rfl hl (by decide) rfl (fun ls hl => ?_)
    refine lv_iload_n hx hb dX8_happen_84 rfl (lv_at hl 0 rfl) ?_
    refine lv_iload_n hx hb dX8_happen_85 rfl (lv_at hl 2 rfl) ?_
    refine lv_icmp_ne (tgt := 93) hx hb dX8_happen_86 (by decide) (fun cn => ?_) (fun cn => ?_)
    · replace hf := cb_ifn cn hf
      refine lv_aload_n hx hb dX8_happen_93 rfl (lv_at hl 1 rfl) ?_
      refine lv_iload_n hx hb dX8_happen_94 rfl (lv_at hl 2 rfl) ?_
      refine lv_iload_n hx hb dX8_happen_95 rfl (lv_at hl 0 rfl) ?_
      obtain ⟨r_6, σ_7, hc, hf⟩ := cb_bi_inv hf
      refine cb_callVi C (c_X8_meetNow  hc) mw_X8_meetNow ml_X8_246 rfl ⟨Nat.le_of_ble_eq_true rfl, Nat.le_of_ble_eq_true rfl⟩ rfl (Nat.le_of_ble_eq_true rfl) rfl hs hl rfl (Nat.le_of_ble_eq_true rfl) dX8_happen_96 (fun H locs hs => ?_)
      clear hc
      exact w_X8_happen_99 C  hf hs (lv_sub hl [1] rfl)
    · replace hf := cb_ifp cn hf
      refine lv_iconst (v := (-1)) hx hb dX8_happen_89 (by decide) ?_
      refine lv_goto (tgt := 99) hx hb dX8_happen_90 (by decide) ?_
      exact w_X8_happen_99 C  hf hs (lv_sub hl [1] rfl)
def f_X8_happen_45  (σ : cb_St) (x1 : Int32) (x2 : Int32) : Option (cb_St) := if x2 = 2 then (cb_ck (0 ≤ Int32.toInt (13 + x1) ∧ Int32.toInt (13 + x1) < 51) (if (σ.1 3 (Int32.toNatClampNeg (13 + x1))) < 0 then (f_X8_happen_70 σ x1 x2) else (cb_bv (f_X8_backNow x1 σ) (fun σ_1 => some σ_1)))) else (f_X8_happen_70 σ x1 x2)
set_option maxHeartbeats 4000000 in
set_option maxRecDepth 100000 in
theorem w_X8_happen_45 (C : cb_C p s m args meth c cX8_happen 5 none RX8 D T)  {o : cb_St}  {σ : cb_St} {x1 : Int32} {x2 : Int32} (hf : f_X8_happen_45 σ x1 x2 = some o) {H : Heap} {locs : List Loc} {ls : Array Slot} (hs : cb_H shM A T D σ s.heap H locs) (hl : lv_has ls 5 [(0, .ref (A 0)), (1, .int x1), (2, .int x2)]) : cb_W p l e 5 s m args below meth c shM A T D none o H locs (F0 m 45 ls []) := by
  obtain ⟨hx, hb, hml, hr, hown, hts, hK, hlk, hN⟩ := id C
  unfold f_X8_happen_45 at hf
  refine lv_iload_n hx hb dX8_happen_45 rfl (lv_at hl 2 rfl) ?_
  refine lv_iconst (v := 2) hx hb dX8_happen_46 (by decide) ?_
  refine lv_icmp_ne (tgt := 70) hx hb dX8_happen_47 (by decide) (fun cn => ?_) (fun cn => ?_)
  · replace hf := cb_ifn cn hf
    exact w_X8_happen_70 C  hf hs (lv_sub hl [0, 1, 2] rfl)
  · replace hf := cb_ifp cn hf
    refine lv_aload_n hx hb dX8_happen_50 rfl (lv_at hl 0 rfl) ?_
    refine gf_X8_16 C hs rfl dX8_happen_51 ?_
    refine lv_bipush (v := 13) hx hb dX8_happen_54 (by decide) ?_
    refine lv_iload_n hx hb dX8_happen_56 rfl (lv_at hl 1 rfl) ?_
    refine lv_iadd hx hb dX8_happen_57 ?_
    obtain ⟨hc, hf⟩ := cb_ck_inv hf
    refine cb_iald C hs rfl (vp_in_iff.mpr hc) dX8_happen_58 ?_
    refine lv_if_lt (tgt := 70) hx hb dX8_happen_59 (by decide) (fun cn => ?_) (fun cn => ?_)
    · replace hf := cb_ifp cn hf
      exact w_X8_happen_70 C  hf hs (lv_sub hl [0, 1, 2] rfl)
    · replace hf := cb_ifn cn hf
      refine lv_aload_n hx hb dX8_happen_62 rfl (lv_at hl 0 rfl) ?_
      refine lv_iload_n hx hb dX8_happen_63 rfl (lv_at hl 1 rfl) ?_
      obtain ⟨σ_1, hc, hf⟩ := cb_bv_inv hf
      refine cb_callVv C (c_X8_backNow  hc) mw_X8_backNow ml_X8_238 rfl ⟨Nat.le_of_ble_eq_true rfl, Nat.le_of_ble_eq_true rfl⟩ rfl (Nat.le_of_ble_eq_true rfl) rfl hs hl rfl (Nat.le_of_ble_eq_true rfl) dX8_happen_64 (fun H locs hs => ?_)
      clear hc
      refine lv_goto (tgt := 118) hx hb dX8_happen_67 (by decide) ?_
      have hf := Option.some.inj hf
      subst hf
      exact cb_retv C hs dX8_happen_118
def f_X8_happen  (σ : cb_St) : Option (cb_St) := cb_bi (f_X8_draw (σ.1 0 7) σ) (fun r_1 σ_2 => cb_bi (f_X8_draw 5 σ_2) (fun r_3 σ_4 => if 2 ≤ r_3 then (f_X8_happen_45 σ_4 r_1 r_3) else (cb_bp (f_X8_canDraw r_1 σ_4) (fun r_5 => if r_5 = 0 then (f_X8_happen_45 σ_4 r_1 r_3) else (cb_bi (f_X8_takeAt 0 σ_4) (fun r_6 σ_7 => cb_ck (0 ≤ Int32.toInt (13 + r_1) ∧ Int32.toInt (13 + r_1) < 51) (cb_let (cb_sI σ_7 3 (Int32.toNatClampNeg (13 + r_1)) r_6) (fun σ_8 => some σ_8))))))))
set_option maxHeartbeats 4000000 in
set_option maxRecDepth 100000 in
theorem c_X8_happen   {σ : cb_St} {o : cb_St} (hf : f_X8_happen σ = some o) : cb_M l yX8_happen cX8_happen 5 none 5 shM A T D σ [.ref (A 0)] none o := by
  refine cb_met (by decide +kernel) (Nat.le_of_ble_eq_true rfl) ?_
  intro p e s m below meth c C hs ls hl
  have hl : lv_has ls 5 [(0, .ref (A 0))] := hl
  obtain ⟨hx, hb, hml, hr, hown, hts, hK, hlk, hN⟩ := id C
  unfold f_X8_happen at hf
  refine lv_aload_n hx hb dX8_happen_0 rfl (lv_at hl 0 rfl) ?_
  refine lv_aload_n hx hb dX8_happen_1 rfl (lv_at hl 0 rfl) ?_
  refine gf_X8_75 C hs rfl dX8_happen_2 ?_
  obtain ⟨r_1, σ_2, hc, hf⟩ := cb_bi_inv hf
  refine cb_callVi C (c_X8_draw  hc) mw_X8_draw ml_X8_269 rfl ⟨Nat.le_of_ble_eq_true rfl, Nat.le_of_ble_eq_true rfl⟩ rfl (Nat.le_of_ble_eq_true rfl) rfl hs hl rfl (Nat.le_of_ble_eq_true rfl) dX8_happen_5 (fun H locs hs => ?_)
  clear hc
  refine lv_istore_n (lv' := [(1, .int r_1), (0, .ref (A 0))]) hx hb dX8_happen_8 rfl hl (by decide) rfl (fun ls hl => ?_)
  refine lv_aload_n hx hb dX8_happen_9 rfl (lv_at hl 1 rfl) ?_
  refine lv_iconst (v := 5) hx hb dX8_happen_10 (by decide) ?_
  obtain ⟨r_3, σ_4, hc, hf⟩ := cb_bi_inv hf
  refine cb_callVi C (c_X8_draw  hc) mw_X8_draw ml_X8_269 rfl ⟨Nat.le_of_ble_eq_true rfl, Nat.le_of_ble_eq_true rfl⟩ rfl (Nat.le_of_ble_eq_true rfl) rfl hs hl rfl (Nat.le_of_ble_eq_true rfl) dX8_happen_11 (fun H locs hs => ?_)
  clear hc
  refine lv_istore_n (lv' := [(2, .int r_3), (1, .int r_1), (0, .ref (A 0))]) hx hb dX8_happen_14 rfl hl (by decide) rfl (fun ls hl => ?_)
  refine lv_iload_n hx hb dX8_happen_15 rfl (lv_at hl 0 rfl) ?_
  refine lv_iconst (v := 2) hx hb dX8_happen_16 (by decide) ?_
  refine lv_icmp_ge (tgt := 45) hx hb dX8_happen_17 (by decide) (fun cn => ?_) (fun cn => ?_)
  · replace hf := cb_ifp cn hf
    exact w_X8_happen_45 C  hf hs (lv_sub hl [2, 1, 0] rfl)
  · replace hf := cb_ifn cn hf
    refine lv_aload_n hx hb dX8_happen_20 rfl (lv_at hl 2 rfl) ?_
    refine lv_iload_n hx hb dX8_happen_21 rfl (lv_at hl 1 rfl) ?_
    obtain ⟨r_5, hc, hf⟩ := cb_bp_inv hf
    refine cb_callVi C (c_X8_canDraw  hc) mw_X8_canDraw ml_X8_228 rfl ⟨Nat.le_of_ble_eq_true rfl, Nat.le_of_ble_eq_true rfl⟩ rfl (Nat.le_of_ble_eq_true rfl) rfl hs hl rfl (Nat.le_of_ble_eq_true rfl) dX8_happen_22 (fun H locs hs => ?_)
    clear hc
    refine lv_if_eq (tgt := 45) hx hb dX8_happen_25 (by decide) (fun cn => ?_) (fun cn => ?_)
    · replace hf := cb_ifp cn hf
      exact w_X8_happen_45 C  hf hs (lv_sub hl [2, 1, 0] rfl)
    · replace hf := cb_ifn cn hf
      refine lv_aload_n hx hb dX8_happen_28 rfl (lv_at hl 2 rfl) ?_
      refine gf_X8_16 C hs rfl dX8_happen_29 ?_
      refine lv_bipush (v := 13) hx hb dX8_happen_32 (by decide) ?_
      refine lv_iload_n hx hb dX8_happen_34 rfl (lv_at hl 1 rfl) ?_
      refine lv_iadd hx hb dX8_happen_35 ?_
      refine lv_aload_n hx hb dX8_happen_36 rfl (lv_at hl 2 rfl) ?_
      refine lv_iconst (v := 0) hx hb dX8_happen_37 (by decide) ?_
      obtain ⟨r_6, σ_7, hc, hf⟩ := cb_bi_inv hf
      refine cb_callVi C (c_X8_takeAt  hc) mw_X8_takeAt ml_X8_235 rfl ⟨Nat.le_of_ble_eq_true rfl, Nat.le_of_ble_eq_true rfl⟩ rfl (Nat.le_of_ble_eq_true rfl) rfl hs hl rfl (Nat.le_of_ble_eq_true rfl) dX8_happen_38 (fun H locs hs => ?_)
      clear hc
      obtain ⟨hc, hf⟩ := cb_ck_inv hf
      refine cb_iast C hs rfl (vp_in_iff.mpr hc) dX8_happen_41 (fun H locs hs => ?_)
      obtain ⟨σ_8, e9, hf⟩ := cb_let_inv hf
      replace hs := cb_Hc e9 hs
      clear e9
      refine lv_goto (tgt := 118) hx hb dX8_happen_42 (by decide) ?_
      have hf := Option.some.inj hf
      subst hf
      exact cb_retv C hs dX8_happen_118
/-! ===== CardBecomeModel.whoAreCards ===== -/
def f_X8_whoAreCards_32 (K4 : Int32 → Int32 → Option (Int32)) (σ : cb_St) (x2 : Int32) (s0 : Int32) (s1 : Int32) : Option (Int32) := cb_let (s1 ||| s0) (fun x1_0 => cb_let (x2 + 1) (fun x2_1 => K4 x1_0 x2_1))
set_option maxHeartbeats 4000000 in
set_option maxRecDepth 100000 in
theorem w_X8_whoAreCards_32 (C : cb_C p s m args meth c cX8_whoAreCards 3 (some .int) RX8 D T) {K4 : Int32 → Int32 → Option (Int32)} {σ : cb_St} {o : Int32} (hK4 : ∀ (x1 : Int32) (x2 : Int32), K4 x1 x2 = some o → ∀ (H : Heap) (locs : List Loc) (ls : Array Slot), cb_H shM A T D σ s.heap H locs → lv_has ls 3 [(0, .ref (A 0)), (1, .int x1), (2, .int x2)] → cb_W p l e 1 s m args below meth c shM A T D (some (.int o)) σ H locs (F0 m 4 ls [])) {x2 : Int32} {s0 : Int32} {s1 : Int32} (hf : f_X8_whoAreCards_32 K4 σ x2 s0 s1 = some o) {H : Heap} {locs : List Loc} {ls : Array Slot} (hs : cb_H shM A T D σ s.heap H locs) (hl : lv_has ls 3 [(0, .ref (A 0)), (2, .int x2)]) : cb_W p l e 1 s m args below meth c shM A T D (some (.int o)) σ H locs (F0 m 32 ls [.int s0, .int s1]) := by
  obtain ⟨hx, hb, hml, hr, hown, hts, hK, hlk, hN⟩ := id C
  unfold f_X8_whoAreCards_32 at hf
  refine lv_ior hx hb dX8_whoAreCards_32 ?_
  obtain ⟨x1_0, e9, hf⟩ := cb_let_inv hf
  refine cb_topi e9 ?_
  clear e9
  refine lv_istore_n (lv' := [(1, .int x1_0), (0, .ref (A 0)), (2, .int x2)]) hx hb dX8_whoAreCards_33 rfl hl (by decide) rfl (fun ls hl => ?_)
  obtain ⟨x2_1, e9, hf⟩ := cb_let_inv hf
  refine lv_iinc (v := x2_1) (lv' := [(2, .int x2_1), (1, .int x1_0), (0, .ref (A 0))]) hx hb dX8_whoAreCards_34 hl (k := 2) rfl (by rw [e9]; rfl) (by decide) rfl (fun ls hl => ?_)
  clear e9
  refine lv_goto (tgt := 4) hx hb dX8_whoAreCards_37 (by decide) ?_
  exact hK4 _ _ hf _ _ _ hs (lv_sub hl [2, 1, 0] rfl)
def f_X8_whoAreCards_4 (σ : cb_St) : Nat → Int32 → Int32 → Option (Int32)
  | 0, _, _ => none
  | fu + 1, x1, x2 => if (σ.1 0 7) ≤ x2 then (some x1) else (cb_ck (0 ≤ Int32.toInt (13 + x2) ∧ Int32.toInt (13 + x2) < 51) (if (σ.1 3 (Int32.toNatClampNeg (13 + x2))) < 0 then (f_X8_whoAreCards_32 (f_X8_whoAreCards_4 σ fu) σ x2 0 x1) else (f_X8_whoAreCards_32 (f_X8_whoAreCards_4 σ fu) σ x2 (1 <<< (x2 &&& 31)) x1)))
set_option maxHeartbeats 4000000 in
set_option maxRecDepth 100000 in
theorem w_X8_whoAreCards_4 (C : cb_C p s m args meth c cX8_whoAreCards 3 (some .int) RX8 D T) {σ : cb_St} {o : Int32}  : ∀ (fu : Nat) (x1 : Int32) (x2 : Int32), f_X8_whoAreCards_4 σ fu x1 x2 = some o → ∀ (H : Heap) (locs : List Loc) (ls : Array Slot), cb_H shM A T D σ s.heap H locs → lv_has ls 3 [(0, .ref (A 0)), (1, .int x1), (2, .int x2)] → cb_W p l e 1 s m args below meth c shM A T D (some (.int o)) σ H locs (F0 m 4 ls []) := by
  obtain ⟨hx, hb, hml, hr, hown, hts, hK, hlk, hN⟩ := id C
  intro fu
  induction fu with
  | zero =>
    intro x1 x2 hf
    rw [f_X8_whoAreCards_4] at hf
    cases hf
  | succ fu ih =>
    intro x1 x2 hf H locs ls hs hl
    rw [f_X8_whoAreCards_4] at hf
    refine lv_iload_n hx hb dX8_whoAreCards_4 rfl (lv_at hl 2 rfl) ?_
    refine lv_aload_n hx hb dX8_whoAreCards_5 rfl (lv_at hl 0 rfl) ?_
    refine gf_X8_75 C hs rfl dX8_whoAreCards_6 ?_
    refine lv_icmp_ge (tgt := 40) hx hb dX8_whoAreCards_9 (by decide) (fun cn => ?_) (fun cn => ?_)
    · replace hf := cb_ifp cn hf
      refine lv_iload_n hx hb dX8_whoAreCards_40 rfl (lv_at hl 1 rfl) ?_
      have hf := Option.some.inj hf
      subst hf
      exact cb_reti C hs dX8_whoAreCards_41
    · replace hf := cb_ifn cn hf
      refine lv_iload_n hx hb dX8_whoAreCards_12 rfl (lv_at hl 1 rfl) ?_
      refine lv_aload_n hx hb dX8_whoAreCards_13 rfl (lv_at hl 0 rfl) ?_
      refine gf_X8_16 C hs rfl dX8_whoAreCards_14 ?_
      refine lv_bipush (v := 13) hx hb dX8_whoAreCards_17 (by decide) ?_
      refine lv_iload_n hx hb dX8_whoAreCards_19 rfl (lv_at hl 2 rfl) ?_
      refine lv_iadd hx hb dX8_whoAreCards_20 ?_
      obtain ⟨hc, hf⟩ := cb_ck_inv hf
      refine cb_iald C hs rfl (vp_in_iff.mpr hc) dX8_whoAreCards_21 ?_
      refine lv_if_lt (tgt := 31) hx hb dX8_whoAreCards_22 (by decide) (fun cn => ?_) (fun cn => ?_)
      · replace hf := cb_ifp cn hf
        refine lv_iconst (v := 0) hx hb dX8_whoAreCards_31 (by decide) ?_
        exact w_X8_whoAreCards_32 C ih hf hs (lv_sub hl [0, 2] rfl)
      · replace hf := cb_ifn cn hf
        refine lv_iconst (v := 1) hx hb dX8_whoAreCards_25 (by decide) ?_
        refine lv_iload_n hx hb dX8_whoAreCards_26 rfl (lv_at hl 2 rfl) ?_
        refine lv_ishl hx hb dX8_whoAreCards_27 ?_
        refine lv_goto (tgt := 32) hx hb dX8_whoAreCards_28 (by decide) ?_
        exact w_X8_whoAreCards_32 C ih hf hs (lv_sub hl [0, 2] rfl)
def f_X8_whoAreCards (σ : cb_St)  : Option (Int32) := f_X8_whoAreCards_4 σ cb_fu 0 0
set_option maxHeartbeats 4000000 in
set_option maxRecDepth 100000 in
theorem c_X8_whoAreCards {σ : cb_St}   {o : Int32} (hf : f_X8_whoAreCards σ = some o) : cb_M l yX8_whoAreCards cX8_whoAreCards 3 (some .int) 1 shM A T D σ [.ref (A 0)] (some (.int o)) σ := by
  refine cb_met (by decide +kernel) (Nat.le_of_ble_eq_true rfl) ?_
  intro p e s m below meth c C hs ls hl
  have hl : lv_has ls 3 [(0, .ref (A 0))] := hl
  obtain ⟨hx, hb, hml, hr, hown, hts, hK, hlk, hN⟩ := id C
  unfold f_X8_whoAreCards at hf
  refine lv_iconst (v := 0) hx hb dX8_whoAreCards_0 (by decide) ?_
  refine lv_istore_n (lv' := [(1, .int 0), (0, .ref (A 0))]) hx hb dX8_whoAreCards_1 rfl hl (by decide) rfl (fun ls hl => ?_)
  refine lv_iconst (v := 0) hx hb dX8_whoAreCards_2 (by decide) ?_
  refine lv_istore_n (lv' := [(2, .int 0), (1, .int 0), (0, .ref (A 0))]) hx hb dX8_whoAreCards_3 rfl hl (by decide) rfl (fun ls hl => ?_)
  exact w_X8_whoAreCards_4 C  cb_fu _ _ hf _ _ _ hs (lv_sub hl [2, 1, 0] rfl)
/-! ===== CardBecomeModel.drift ===== -/
def f_X8_drift_53 (x1 : Int32) (σ : cb_St) : Option (Int32 × cb_St) := cb_bp (f_X8_whoAreCards σ) (fun r_1 => some (r_1, σ))
set_option maxHeartbeats 4000000 in
set_option maxRecDepth 100000 in
theorem w_X8_drift_53 (C : cb_C p s m args meth c cX8_drift 3 (some .int) RX8 D T) {x1 : Int32} {o : Int32 × cb_St}  {σ : cb_St} (hf : f_X8_drift_53 x1 σ = some o) {H : Heap} {locs : List Loc} {ls : Array Slot} (hs : cb_H shM A T D σ s.heap H locs) (hl : lv_has ls 3 [(0, .ref (A 0)), (1, .int x1)]) : cb_W p l e 6 s m args below meth c shM A T D (some (.int o.1)) o.2 H locs (F0 m 53 ls []) := by
  obtain ⟨hx, hb, hml, hr, hown, hts, hK, hlk, hN⟩ := id C
  unfold f_X8_drift_53 at hf
  refine lv_aload_n hx hb dX8_drift_53 rfl (lv_at hl 0 rfl) ?_
  obtain ⟨r_1, hc, hf⟩ := cb_bp_inv hf
  refine cb_callVi C (c_X8_whoAreCards  hc) mw_X8_whoAreCards ml_X8_197 rfl ⟨Nat.le_of_ble_eq_true rfl, Nat.le_of_ble_eq_true rfl⟩ rfl (Nat.le_of_ble_eq_true rfl) rfl hs hl rfl (Nat.le_of_ble_eq_true rfl) dX8_drift_54 (fun H locs hs => ?_)
  clear hc
  have hf := Option.some.inj hf
  subst hf
  exact cb_reti C hs dX8_drift_57
def f_X8_drift_31 (x1 : Int32) : Nat → cb_St → Int32 → Option (Int32 × cb_St)
  | 0, _, _ => none
  | fu + 1, σ, x2 => if x1 ≤ x2 then (f_X8_drift_53 x1 σ) else (if (σ.1 0 7) ≤ 0 then (f_X8_drift_53 x1 σ) else (cb_bv (f_X8_happen σ) (fun σ_1 => cb_let (x2 + 1) (fun x2_1 => f_X8_drift_31 x1 fu σ_1 x2_1))))
set_option maxHeartbeats 4000000 in
set_option maxRecDepth 100000 in
theorem w_X8_drift_31 (C : cb_C p s m args meth c cX8_drift 3 (some .int) RX8 D T) {x1 : Int32} {o : Int32 × cb_St}  : ∀ (fu : Nat) (σ : cb_St) (x2 : Int32), f_X8_drift_31 x1 fu σ x2 = some o → ∀ (H : Heap) (locs : List Loc) (ls : Array Slot), cb_H shM A T D σ s.heap H locs → lv_has ls 3 [(0, .ref (A 0)), (1, .int x1), (2, .int x2)] → cb_W p l e 6 s m args below meth c shM A T D (some (.int o.1)) o.2 H locs (F0 m 31 ls []) := by
  obtain ⟨hx, hb, hml, hr, hown, hts, hK, hlk, hN⟩ := id C
  intro fu
  induction fu with
  | zero =>
    intro σ x2 hf
    rw [f_X8_drift_31] at hf
    cases hf
  | succ fu ih =>
    intro σ x2 hf H locs ls hs hl
    rw [f_X8_drift_31] at hf
    refine lv_iload_n hx hb dX8_drift_31 rfl (lv_at hl 2 rfl) ?_
    refine lv_iload_n hx hb dX8_drift_32 rfl (lv_at hl 1 rfl) ?_
    refine lv_icmp_ge (tgt := 53) hx hb dX8_drift_33 (by decide) (fun cn => ?_) (fun cn => ?_)
    · replace hf := cb_ifp cn hf
      exact w_X8_drift_53 C  hf hs (lv_sub hl [0, 1] rfl)
    · replace hf := cb_ifn cn hf
      refine lv_aload_n hx hb dX8_drift_36 rfl (lv_at hl 0 rfl) ?_
      refine gf_X8_75 C hs rfl dX8_drift_37 ?_
      refine lv_if_le (tgt := 53) hx hb dX8_drift_40 (by decide) (fun cn => ?_) (fun cn => ?_)
      · replace hf := cb_ifp cn hf
        exact w_X8_drift_53 C  hf hs (lv_sub hl [0, 1] rfl)
      · replace hf := cb_ifn cn hf
        refine lv_aload_n hx hb dX8_drift_43 rfl (lv_at hl 0 rfl) ?_
        obtain ⟨σ_1, hc, hf⟩ := cb_bv_inv hf
        refine cb_callVv C (c_X8_happen  hc) mw_X8_happen ml_X8_274 rfl ⟨Nat.le_of_ble_eq_true rfl, Nat.le_of_ble_eq_true rfl⟩ rfl (Nat.le_of_ble_eq_true rfl) rfl hs hl rfl (Nat.le_of_ble_eq_true rfl) dX8_drift_44 (fun H locs hs => ?_)
        clear hc
        obtain ⟨x2_1, e9, hf⟩ := cb_let_inv hf
        refine lv_iinc (v := x2_1) (lv' := [(2, .int x2_1), (0, .ref (A 0)), (1, .int x1)]) hx hb dX8_drift_47 hl (k := 2) rfl (by rw [e9]; rfl) (by decide) rfl (fun ls hl => ?_)
        clear e9
        refine lv_goto (tgt := 31) hx hb dX8_drift_50 (by decide) ?_
        exact ih _ _ hf _ _ _ hs (lv_sub hl [1, 2, 0] rfl)
def f_X8_drift (x1 : Int32) (σ : cb_St) : Option (Int32 × cb_St) := cb_bp (f_X8_in (Int32.toInt64 x1) 1 60 σ) (fun r_1 => if r_1 = 0 then (some ((-1000000002), σ)) else (if (σ.1 0 0) = 0 then (some ((-1000000003), σ)) else (cb_bv (f_X8_remember σ) (fun σ_2 => f_X8_drift_31 x1 cb_fu σ_2 0))))
set_option maxHeartbeats 4000000 in
set_option maxRecDepth 100000 in
theorem c_X8_drift {x1 : Int32}  {σ : cb_St} {o : Int32 × cb_St} (hf : f_X8_drift x1 σ = some o) : cb_M l yX8_drift cX8_drift 3 (some .int) 6 shM A T D σ [.ref (A 0), .int x1] (some (.int o.1)) o.2 := by
  refine cb_met (by decide +kernel) (Nat.le_of_ble_eq_true rfl) ?_
  intro p e s m below meth c C hs ls hl
  have hl : lv_has ls 3 [(0, .ref (A 0)), (1, .int x1)] := hl
  obtain ⟨hx, hb, hml, hr, hown, hts, hK, hlk, hN⟩ := id C
  unfold f_X8_drift at hf
  refine lv_iload_n hx hb dX8_drift_0 rfl (lv_at hl 1 rfl) ?_
  refine lv_i2l hx hb dX8_drift_1 rfl ?_
  refine lv_lconst (v := 1) hx hb dX8_drift_2 (by decide) ?_
  refine lv_ldc2 (v := 60) hx hb hown (hts _ kc_X8_272) dX8_drift_3 ?_
  obtain ⟨r_1, hc, hf⟩ := cb_bp_inv hf
  refine cb_callSi C (c_X8_in  hc) mw_X8_in ml_X8_78 rfl ⟨Nat.le_of_ble_eq_true rfl, Nat.le_of_ble_eq_true rfl⟩ hs hl rfl (Nat.le_of_ble_eq_true rfl) dX8_drift_6 (fun H locs hs => ?_)
  clear hc
  refine lv_if_ne (tgt := 15) hx hb dX8_drift_9 (by decide) (fun cn => ?_) (fun cn => ?_)
  · replace hf := cb_ifn cn hf
    refine lv_aload_n hx hb dX8_drift_15 rfl (lv_at hl 0 rfl) ?_
    refine gf_X8_143 C hs rfl dX8_drift_16 ?_
    refine lv_if_ne (tgt := 25) hx hb dX8_drift_19 (by decide) (fun cn => ?_) (fun cn => ?_)
    · replace hf := cb_ifn cn hf
      refine lv_aload_n hx hb dX8_drift_25 rfl (lv_at hl 0 rfl) ?_
      obtain ⟨σ_2, hc, hf⟩ := cb_bv_inv hf
      refine cb_callVv C (c_X8_remember  hc) mw_X8_remember ml_X8_232 rfl ⟨Nat.le_of_ble_eq_true rfl, Nat.le_of_ble_eq_true rfl⟩ rfl (Nat.le_of_ble_eq_true rfl) rfl hs hl rfl (Nat.le_of_ble_eq_true rfl) dX8_drift_26 (fun H locs hs => ?_)
      clear hc
      refine lv_iconst (v := 0) hx hb dX8_drift_29 (by decide) ?_
      refine lv_istore_n (lv' := [(2, .int 0), (0, .ref (A 0)), (1, .int x1)]) hx hb dX8_drift_30 rfl hl (by decide) rfl (fun ls hl => ?_)
      exact w_X8_drift_31 C  cb_fu _ _ hf _ _ _ hs (lv_sub hl [1, 2, 0] rfl)
    · replace hf := cb_ifp cn hf
      refine lv_ldc (v := (-1000000003)) hx hb hown (hts _ kc_X8_231) dX8_drift_22 ?_
      have hf := Option.some.inj hf
      subst hf
      exact cb_reti C hs dX8_drift_24
  · replace hf := cb_ifp cn hf
    refine lv_ldc (v := (-1000000002)) hx hb hown (hts _ kc_X8_91) dX8_drift_12 ?_
    have hf := Option.some.inj hf
    subst hf
    exact cb_reti C hs dX8_drift_14
/-! ===== CardBecomeModel.fails ===== -/
def f_X8_fails (x1 : Int32) (x2 : Int32) (σ : cb_St) : Option (Int32 × cb_St) := cb_let (cb_sI σ 0 12 x2) (fun σ_1 => some (x1, σ_1))
set_option maxHeartbeats 4000000 in
set_option maxRecDepth 100000 in
theorem c_X8_fails {x1 : Int32} {x2 : Int32}  {σ : cb_St} {o : Int32 × cb_St} (hf : f_X8_fails x1 x2 σ = some o) : cb_M l yX8_fails cX8_fails 3 (some .int) 1 shM A T D σ [.ref (A 0), .int x1, .int x2] (some (.int o.1)) o.2 := by
  refine cb_met (by decide +kernel) (Nat.le_of_ble_eq_true rfl) ?_
  intro p e s m below meth c C hs ls hl
  have hl : lv_has ls 3 [(0, .ref (A 0)), (1, .int x1), (2, .int x2)] := hl
  obtain ⟨hx, hb, hml, hr, hown, hts, hK, hlk, hN⟩ := id C
  unfold f_X8_fails at hf
  refine lv_aload_n hx hb dX8_fails_0 rfl (lv_at hl 0 rfl) ?_
  refine lv_iload_n hx hb dX8_fails_1 rfl (lv_at hl 2 rfl) ?_
  refine pf_X8_22 C hs rfl dX8_fails_2 (fun H locs hs => ?_)
  obtain ⟨σ_1, e9, hf⟩ := cb_let_inv hf
  replace hs := cb_Hc e9 hs
  clear e9
  refine lv_iload_n hx hb dX8_fails_5 rfl (lv_at hl 1 rfl) ?_
  have hf := Option.some.inj hf
  subst hf
  exact cb_reti C hs dX8_fails_6
/-! ===== CardBecomeModel.fault ===== -/
def f_X8_fault (σ : cb_St)  : Option (Int32) := some (σ.1 0 12)
set_option maxHeartbeats 4000000 in
set_option maxRecDepth 100000 in
theorem c_X8_fault {σ : cb_St}   {o : Int32} (hf : f_X8_fault σ = some o) : cb_M l yX8_fault cX8_fault 1 (some .int) 1 shM A T D σ [.ref (A 0)] (some (.int o)) σ := by
  refine cb_met (by decide +kernel) (Nat.le_of_ble_eq_true rfl) ?_
  intro p e s m below meth c C hs ls hl
  have hl : lv_has ls 1 [(0, .ref (A 0))] := hl
  obtain ⟨hx, hb, hml, hr, hown, hts, hK, hlk, hN⟩ := id C
  unfold f_X8_fault at hf
  refine lv_aload_n hx hb dX8_fault_0 rfl (lv_at hl 0 rfl) ?_
  refine gf_X8_22 C hs rfl dX8_fault_1 ?_
  have hf := Option.some.inj hf
  subst hf
  exact cb_reti C hs dX8_fault_4
/-! ===== CardBecomeModel.feed ===== -/
def f_X8_feed (x1 : Int32) (σ : cb_St) : Option (Int32 × cb_St) := cb_bp (f_X8_in (Int32.toInt64 x1) 0 255 σ) (fun r_1 => if r_1 = 0 then (some ((-1000000002), σ)) else (if (σ.1 0 11) = 240 then (some ((-1000000004), σ)) else (cb_ck (0 ≤ Int32.toInt (σ.1 0 11) ∧ Int32.toInt (σ.1 0 11) < 240) (cb_let (cb_sI σ 4 (Int32.toNatClampNeg (σ.1 0 11)) x1) (fun σ_2 => cb_let (cb_sI σ_2 0 11 ((σ_2.1 0 11) + 1)) (fun σ_3 => some (σ_3.1 0 11, σ_3)))))))
set_option maxHeartbeats 4000000 in
set_option maxRecDepth 100000 in
theorem c_X8_feed {x1 : Int32}  {σ : cb_St} {o : Int32 × cb_St} (hf : f_X8_feed x1 σ = some o) : cb_M l yX8_feed cX8_feed 2 (some .int) 2 shM A T D σ [.ref (A 0), .int x1] (some (.int o.1)) o.2 := by
  refine cb_met (by decide +kernel) (Nat.le_of_ble_eq_true rfl) ?_
  intro p e s m below meth c C hs ls hl
  have hl : lv_has ls 2 [(0, .ref (A 0)), (1, .int x1)] := hl
  obtain ⟨hx, hb, hml, hr, hown, hts, hK, hlk, hN⟩ := id C
  unfold f_X8_feed at hf
  refine lv_iload_n hx hb dX8_feed_0 rfl (lv_at hl 1 rfl) ?_
  refine lv_i2l hx hb dX8_feed_1 rfl ?_
  refine lv_lconst (v := 0) hx hb dX8_feed_2 (by decide) ?_
  refine lv_ldc2 (v := 255) hx hb hown (hts _ kc_X8_89) dX8_feed_3 ?_
  obtain ⟨r_1, hc, hf⟩ := cb_bp_inv hf
  refine cb_callSi C (c_X8_in  hc) mw_X8_in ml_X8_78 rfl ⟨Nat.le_of_ble_eq_true rfl, Nat.le_of_ble_eq_true rfl⟩ hs hl rfl (Nat.le_of_ble_eq_true rfl) dX8_feed_6 (fun H locs hs => ?_)
  clear hc
  refine lv_if_ne (tgt := 15) hx hb dX8_feed_9 (by decide) (fun cn => ?_) (fun cn => ?_)
  · replace hf := cb_ifn cn hf
    refine lv_aload_n hx hb dX8_feed_15 rfl (lv_at hl 0 rfl) ?_
    refine gf_X8_92 C hs rfl dX8_feed_16 ?_
    refine lv_sipush (v := 240) hx hb dX8_feed_19 (by decide) ?_
    refine lv_icmp_ne (tgt := 28) hx hb dX8_feed_22 (by decide) (fun cn => ?_) (fun cn => ?_)
    · replace hf := cb_ifn cn hf
      refine lv_aload_n hx hb dX8_feed_28 rfl (lv_at hl 0 rfl) ?_
      refine gf_X8_19 C hs rfl dX8_feed_29 ?_
      refine lv_aload_n hx hb dX8_feed_32 rfl (lv_at hl 0 rfl) ?_
      refine gf_X8_92 C hs rfl dX8_feed_33 ?_
      refine lv_iload_n hx hb dX8_feed_36 rfl (lv_at hl 1 rfl) ?_
      obtain ⟨hc, hf⟩ := cb_ck_inv hf
      refine cb_iast C hs rfl (vp_in_iff.mpr hc) dX8_feed_37 (fun H locs hs => ?_)
      obtain ⟨σ_2, e9, hf⟩ := cb_let_inv hf
      replace hs := cb_Hc e9 hs
      clear e9
      refine lv_aload_n hx hb dX8_feed_38 rfl (lv_at hl 0 rfl) ?_
      refine lv_dup hx hb dX8_feed_39 rfl ?_
      refine gf_X8_92 C hs rfl dX8_feed_40 ?_
      refine lv_iconst (v := 1) hx hb dX8_feed_43 (by decide) ?_
      refine lv_iadd hx hb dX8_feed_44 ?_
      refine pf_X8_92 C hs rfl dX8_feed_45 (fun H locs hs => ?_)
      obtain ⟨σ_3, e9, hf⟩ := cb_let_inv hf
      replace hs := cb_Hc e9 hs
      clear e9
      refine lv_aload_n hx hb dX8_feed_48 rfl (lv_at hl 0 rfl) ?_
      refine gf_X8_92 C hs rfl dX8_feed_49 ?_
      have hf := Option.some.inj hf
      subst hf
      exact cb_reti C hs dX8_feed_52
    · replace hf := cb_ifp cn hf
      refine lv_ldc (v := (-1000000004)) hx hb hown (hts _ kc_X8_95) dX8_feed_25 ?_
      have hf := Option.some.inj hf
      subst hf
      exact cb_reti C hs dX8_feed_27
  · replace hf := cb_ifp cn hf
    refine lv_ldc (v := (-1000000002)) hx hb hown (hts _ kc_X8_91) dX8_feed_12 ?_
    have hf := Option.some.inj hf
    subst hf
    exact cb_reti C hs dX8_feed_14
/-! ===== CardBecomeModel.findAway ===== -/
def f_X8_findAway_105 (K33 : cb_St → Int32 → Option (cb_St)) (K42 : cb_St → Int32 → Int32 → Option (cb_St)) (K51 : cb_St → Int32 → Int32 → Int32 → Option (cb_St)) (x1 : Int32) (x2 : Int32) (σ : cb_St) (x3 : Int32) (x4 : Int32) (x5 : Int32) (s0 : Int32) (s1 : Int32) : Option (cb_St) := cb_ck (0 ≤ Int32.toInt s1 ∧ Int32.toInt s1 < 12) (cb_let (cb_sI σ 11 (Int32.toNatClampNeg s1) s0) (fun σ_1 => cb_let (x5 + 1) (fun x5_1 => K51 σ_1 x3 x4 x5_1)))
set_option maxHeartbeats 4000000 in
set_option maxRecDepth 100000 in
theorem w_X8_findAway_105 (C : cb_C p s m args meth c cX8_findAway 6 none RX8 D T) {K33 : cb_St → Int32 → Option (cb_St)} {K42 : cb_St → Int32 → Int32 → Option (cb_St)} {K51 : cb_St → Int32 → Int32 → Int32 → Option (cb_St)} {x1 : Int32} {x2 : Int32} {o : cb_St} (hK33 : ∀ (σ : cb_St) (x3 : Int32), K33 σ x3 = some o → ∀ (H : Heap) (locs : List Loc) (ls : Array Slot), cb_H shM A T D σ s.heap H locs → lv_has ls 6 [(0, .ref (A 0)), (1, .int x1), (2, .int x2), (3, .int x3)] → cb_W p l e 2 s m args below meth c shM A T D none o H locs (F0 m 33 ls [])) (hK42 : ∀ (σ : cb_St) (x3 : Int32) (x4 : Int32), K42 σ x3 x4 = some o → ∀ (H : Heap) (locs : List Loc) (ls : Array Slot), cb_H shM A T D σ s.heap H locs → lv_has ls 6 [(0, .ref (A 0)), (1, .int x1), (2, .int x2), (3, .int x3), (4, .int x4)] → cb_W p l e 2 s m args below meth c shM A T D none o H locs (F0 m 42 ls [])) (hK51 : ∀ (σ : cb_St) (x3 : Int32) (x4 : Int32) (x5 : Int32), K51 σ x3 x4 x5 = some o → ∀ (H : Heap) (locs : List Loc) (ls : Array Slot), cb_H shM A T D σ s.heap H locs → lv_has ls 6 [(0, .ref (A 0)), (1, .int x1), (2, .int x2), (3, .int x3), (4, .int x4), (5, .int x5)] → cb_W p l e 2 s m args below meth c shM A T D none o H locs (F0 m 51 ls [])) {σ : cb_St} {x3 : Int32} {x4 : Int32} {x5 : Int32} {s0 : Int32} {s1 : Int32} (hf : f_X8_findAway_105 K33 K42 K51 x1 x2 σ x3 x4 x5 s0 s1 = some o) {H : Heap} {locs : List Loc} {ls : Array Slot} (hs : cb_H shM A T D σ s.heap H locs) (hl : lv_has ls 6 [(0, .ref (A 0)), (1, .int x1), (2, .int x2), (3, .int x3), (4, .int x4), (5, .int x5)]) : cb_W p l e 2 s m args below meth c shM A T D none o H locs (F0 m 105 ls [.int s0, .int s1, .ref (A 11)]) := by
  obtain ⟨hx, hb, hml, hr, hown, hts, hK, hlk, hN⟩ := id C
  unfold f_X8_findAway_105 at hf
  obtain ⟨hc, hf⟩ := cb_ck_inv hf
  refine cb_iast C hs rfl (vp_in_iff.mpr hc) dX8_findAway_105 (fun H locs hs => ?_)
  obtain ⟨σ_1, e9, hf⟩ := cb_let_inv hf
  replace hs := cb_Hc e9 hs
  clear e9
  obtain ⟨x5_1, e9, hf⟩ := cb_let_inv hf
  refine lv_iinc (v := x5_1) (lv' := [(5, .int x5_1), (0, .ref (A 0)), (1, .int x1), (2, .int x2), (3, .int x3), (4, .int x4)]) hx hb dX8_findAway_106 hl (k := 5) rfl (by rw [e9]; rfl) (by decide) rfl (fun ls hl => ?_)
  clear e9
  refine lv_goto (tgt := 51) hx hb dX8_findAway_109 (by decide) ?_
  exact hK51 _ _ _ _ hf _ _ _ hs (lv_sub hl [1, 2, 3, 4, 5, 0] rfl)
def f_X8_findAway_98 (K33 : cb_St → Int32 → Option (cb_St)) (K42 : cb_St → Int32 → Int32 → Option (cb_St)) (K51 : cb_St → Int32 → Int32 → Int32 → Option (cb_St)) (x1 : Int32) (x2 : Int32) (σ : cb_St) (x3 : Int32) (x4 : Int32) (x5 : Int32) (s0 : Int32) : Option (cb_St) := cb_ck (0 ≤ Int32.toInt x4 ∧ Int32.toInt x4 < 12) (f_X8_findAway_105 K33 K42 K51 x1 x2 σ x3 x4 x5 (σ.1 11 (Int32.toNatClampNeg x4)) s0)
set_option maxHeartbeats 4000000 in
set_option maxRecDepth 100000 in
theorem w_X8_findAway_98 (C : cb_C p s m args meth c cX8_findAway 6 none RX8 D T) {K33 : cb_St → Int32 → Option (cb_St)} {K42 : cb_St → Int32 → Int32 → Option (cb_St)} {K51 : cb_St → Int32 → Int32 → Int32 → Option (cb_St)} {x1 : Int32} {x2 : Int32} {o : cb_St} (hK33 : ∀ (σ : cb_St) (x3 : Int32), K33 σ x3 = some o → ∀ (H : Heap) (locs : List Loc) (ls : Array Slot), cb_H shM A T D σ s.heap H locs → lv_has ls 6 [(0, .ref (A 0)), (1, .int x1), (2, .int x2), (3, .int x3)] → cb_W p l e 2 s m args below meth c shM A T D none o H locs (F0 m 33 ls [])) (hK42 : ∀ (σ : cb_St) (x3 : Int32) (x4 : Int32), K42 σ x3 x4 = some o → ∀ (H : Heap) (locs : List Loc) (ls : Array Slot), cb_H shM A T D σ s.heap H locs → lv_has ls 6 [(0, .ref (A 0)), (1, .int x1), (2, .int x2), (3, .int x3), (4, .int x4)] → cb_W p l e 2 s m args below meth c shM A T D none o H locs (F0 m 42 ls [])) (hK51 : ∀ (σ : cb_St) (x3 : Int32) (x4 : Int32) (x5 : Int32), K51 σ x3 x4 x5 = some o → ∀ (H : Heap) (locs : List Loc) (ls : Array Slot), cb_H shM A T D σ s.heap H locs → lv_has ls 6 [(0, .ref (A 0)), (1, .int x1), (2, .int x2), (3, .int x3), (4, .int x4), (5, .int x5)] → cb_W p l e 2 s m args below meth c shM A T D none o H locs (F0 m 51 ls [])) {σ : cb_St} {x3 : Int32} {x4 : Int32} {x5 : Int32} {s0 : Int32} (hf : f_X8_findAway_98 K33 K42 K51 x1 x2 σ x3 x4 x5 s0 = some o) {H : Heap} {locs : List Loc} {ls : Array Slot} (hs : cb_H shM A T D σ s.heap H locs) (hl : lv_has ls 6 [(0, .ref (A 0)), (1, .int x1), (2, .int x2), (3, .int x3), (4, .int x4), (5, .int x5)]) : cb_W p l e 2 s m args below meth c shM A T D none o H locs (F0 m 98 ls [.int s0, .ref (A 11)]) := by
  obtain ⟨hx, hb, hml, hr, hown, hts, hK, hlk, hN⟩ := id C
  unfold f_X8_findAway_98 at hf
  refine lv_aload_n hx hb dX8_findAway_98 rfl (lv_at hl 0 rfl) ?_
  refine gf_X8_44 C hs rfl dX8_findAway_99 ?_
  refine lv_iload hx hb dX8_findAway_102 (lv_at hl 4 rfl) ?_
  obtain ⟨hc, hf⟩ := cb_ck_inv hf
  refine cb_iald C hs rfl (vp_in_iff.mpr hc) dX8_findAway_104 ?_
  exact w_X8_findAway_105 C hK33 hK42 hK51 hf hs (lv_sub hl [0, 1, 2, 3, 4, 5] rfl)
def f_X8_findAway_51 (K33 : cb_St → Int32 → Option (cb_St)) (K42 : cb_St → Int32 → Int32 → Option (cb_St)) (x1 : Int32) (x2 : Int32) : Nat → cb_St → Int32 → Int32 → Int32 → Option (cb_St)
  | 0, _, _, _, _ => none
  | fu + 1, σ, x3, x4, x5 => if 3 ≤ x5 then (cb_let (x4 + 1) (fun x4_0 => K42 σ x3 x4_0)) else (cb_ck (0 ≤ Int32.toInt x4 ∧ Int32.toInt x4 < 12) (if (σ.1 11 (Int32.toNatClampNeg x4)) = 99 then (cb_bp (f_X8_goes x4 x5 x2 σ) (fun r_2 => cb_ck (0 ≤ Int32.toInt r_2 ∧ Int32.toInt r_2 < 12) (if (σ.1 11 (Int32.toNatClampNeg r_2)) = (x3 - 1) then (f_X8_findAway_105 K33 K42 (f_X8_findAway_51 K33 K42 x1 x2 fu) x1 x2 σ x3 x4 x5 x3 x4) else (f_X8_findAway_98 K33 K42 (f_X8_findAway_51 K33 K42 x1 x2 fu) x1 x2 σ x3 x4 x5 x4)))) else (f_X8_findAway_98 K33 K42 (f_X8_findAway_51 K33 K42 x1 x2 fu) x1 x2 σ x3 x4 x5 x4)))
set_option maxHeartbeats 4000000 in
set_option maxRecDepth 100000 in
theorem w_X8_findAway_51 (C : cb_C p s m args meth c cX8_findAway 6 none RX8 D T) {K33 : cb_St → Int32 → Option (cb_St)} {K42 : cb_St → Int32 → Int32 → Option (cb_St)} {x1 : Int32} {x2 : Int32} {o : cb_St} (hK33 : ∀ (σ : cb_St) (x3 : Int32), K33 σ x3 = some o → ∀ (H : Heap) (locs : List Loc) (ls : Array Slot), cb_H shM A T D σ s.heap H locs → lv_has ls 6 [(0, .ref (A 0)), (1, .int x1), (2, .int x2), (3, .int x3)] → cb_W p l e 2 s m args below meth c shM A T D none o H locs (F0 m 33 ls [])) (hK42 : ∀ (σ : cb_St) (x3 : Int32) (x4 : Int32), K42 σ x3 x4 = some o → ∀ (H : Heap) (locs : List Loc) (ls : Array Slot), cb_H shM A T D σ s.heap H locs → lv_has ls 6 [(0, .ref (A 0)), (1, .int x1), (2, .int x2), (3, .int x3), (4, .int x4)] → cb_W p l e 2 s m args below meth c shM A T D none o H locs (F0 m 42 ls [])) : ∀ (fu : Nat) (σ : cb_St) (x3 : Int32) (x4 : Int32) (x5 : Int32), f_X8_findAway_51 K33 K42 x1 x2 fu σ x3 x4 x5 = some o → ∀ (H : Heap) (locs : List Loc) (ls : Array Slot), cb_H shM A T D σ s.heap H locs → lv_has ls 6 [(0, .ref (A 0)), (1, .int x1), (2, .int x2), (3, .int x3), (4, .int x4), (5, .int x5)] → cb_W p l e 2 s m args below meth c shM A T D none o H locs (F0 m 51 ls []) := by
  obtain ⟨hx, hb, hml, hr, hown, hts, hK, hlk, hN⟩ := id C
  intro fu
  induction fu with
  | zero =>
    intro σ x3 x4 x5 hf
    rw [f_X8_findAway_51] at hf
    cases hf
  | succ fu ih =>
    intro σ x3 x4 x5 hf H locs ls hs hl
    rw [f_X8_findAway_51] at hf
    refine lv_iload hx hb dX8_findAway_51 (lv_at hl 5 rfl) ?_
    refine lv_iconst (v := 3) hx hb dX8_findAway_53 (by decide) ?_
    refine lv_icmp_ge (tgt := 112) hx hb dX8_findAway_54 (by decide) (fun cn => ?_) (fun cn => ?_)
    · replace hf := cb_ifp cn hf
      obtain ⟨x4_0, e9, hf⟩ := cb_let_inv hf
      refine lv_iinc (v := x4_0) (lv' := [(4, .int x4_0), (0, .ref (A 0)), (1, .int x1), (2, .int x2), (3, .int x3), (5, .int x5)]) hx hb dX8_findAway_112 hl (k := 4) rfl (by rw [e9]; rfl) (by decide) rfl (fun ls hl => ?_)
      clear e9
      refine lv_goto (tgt := 42) hx hb dX8_findAway_115 (by decide) ?_
      exact hK42 _ _ _ hf _ _ _ hs (lv_sub hl [1, 2, 3, 4, 0] rfl)
    · replace hf := cb_ifn cn hf
      refine lv_aload_n hx hb dX8_findAway_57 rfl (lv_at hl 0 rfl) ?_
      refine gf_X8_44 C hs rfl dX8_findAway_58 ?_
      refine lv_iload hx hb dX8_findAway_61 (lv_at hl 4 rfl) ?_
      refine lv_aload_n hx hb dX8_findAway_63 rfl (lv_at hl 0 rfl) ?_
      refine gf_X8_44 C hs rfl dX8_findAway_64 ?_
      refine lv_iload hx hb dX8_findAway_67 (lv_at hl 4 rfl) ?_
      obtain ⟨hc, hf⟩ := cb_ck_inv hf
      refine cb_iald C hs rfl (vp_in_iff.mpr hc) dX8_findAway_69 ?_
      refine lv_bipush (v := 99) hx hb dX8_findAway_70 (by decide) ?_
      refine lv_icmp_ne (tgt := 98) hx hb dX8_findAway_72 (by decide) (fun cn => ?_) (fun cn => ?_)
      · replace hf := cb_ifn cn hf
        exact w_X8_findAway_98 C hK33 hK42 ih hf hs (lv_sub hl [0, 1, 2, 3, 4, 5] rfl)
      · replace hf := cb_ifp cn hf
        refine lv_aload_n hx hb dX8_findAway_75 rfl (lv_at hl 0 rfl) ?_
        refine gf_X8_44 C hs rfl dX8_findAway_76 ?_
        refine lv_iload hx hb dX8_findAway_79 (lv_at hl 4 rfl) ?_
        refine lv_iload hx hb dX8_findAway_81 (lv_at hl 5 rfl) ?_
        refine lv_iload_n hx hb dX8_findAway_83 rfl (lv_at hl 2 rfl) ?_
        obtain ⟨r_2, hc, hf⟩ := cb_bp_inv hf
        refine cb_callSi C (c_X8_goes  hc) mw_X8_goes ml_X8_249 rfl ⟨Nat.le_of_ble_eq_true rfl, Nat.le_of_ble_eq_true rfl⟩ hs hl rfl (Nat.le_of_ble_eq_true rfl) dX8_findAway_84 (fun H locs hs => ?_)
        clear hc
        obtain ⟨hc, hf⟩ := cb_ck_inv hf
        refine cb_iald C hs rfl (vp_in_iff.mpr hc) dX8_findAway_87 ?_
        refine lv_iload_n hx hb dX8_findAway_88 rfl (lv_at hl 3 rfl) ?_
        refine lv_iconst (v := 1) hx hb dX8_findAway_89 (by decide) ?_
        refine lv_isub hx hb dX8_findAway_90 ?_
        refine lv_icmp_ne (tgt := 98) hx hb dX8_findAway_91 (by decide) (fun cn => ?_) (fun cn => ?_)
        · replace hf := cb_ifn cn hf
          exact w_X8_findAway_98 C hK33 hK42 ih hf hs (lv_sub hl [0, 1, 2, 3, 4, 5] rfl)
        · replace hf := cb_ifp cn hf
          refine lv_iload_n hx hb dX8_findAway_94 rfl (lv_at hl 3 rfl) ?_
          refine lv_goto (tgt := 105) hx hb dX8_findAway_95 (by decide) ?_
          exact w_X8_findAway_105 C hK33 hK42 ih hf hs (lv_sub hl [0, 1, 2, 3, 4, 5] rfl)
def f_X8_findAway_42 (K33 : cb_St → Int32 → Option (cb_St)) (x1 : Int32) (x2 : Int32) : Nat → cb_St → Int32 → Int32 → Option (cb_St)
  | 0, _, _, _ => none
  | fu + 1, σ, x3, x4 => if x2 ≤ x4 then (cb_let (x3 + 1) (fun x3_0 => K33 σ x3_0)) else (f_X8_findAway_51 K33 (f_X8_findAway_42 K33 x1 x2 fu) x1 x2 cb_fu σ x3 x4 0)
set_option maxHeartbeats 4000000 in
set_option maxRecDepth 100000 in
theorem w_X8_findAway_42 (C : cb_C p s m args meth c cX8_findAway 6 none RX8 D T) {K33 : cb_St → Int32 → Option (cb_St)} {x1 : Int32} {x2 : Int32} {o : cb_St} (hK33 : ∀ (σ : cb_St) (x3 : Int32), K33 σ x3 = some o → ∀ (H : Heap) (locs : List Loc) (ls : Array Slot), cb_H shM A T D σ s.heap H locs → lv_has ls 6 [(0, .ref (A 0)), (1, .int x1), (2, .int x2), (3, .int x3)] → cb_W p l e 2 s m args below meth c shM A T D none o H locs (F0 m 33 ls [])) : ∀ (fu : Nat) (σ : cb_St) (x3 : Int32) (x4 : Int32), f_X8_findAway_42 K33 x1 x2 fu σ x3 x4 = some o → ∀ (H : Heap) (locs : List Loc) (ls : Array Slot), cb_H shM A T D σ s.heap H locs → lv_has ls 6 [(0, .ref (A 0)), (1, .int x1), (2, .int x2), (3, .int x3), (4, .int x4)] → cb_W p l e 2 s m args below meth c shM A T D none o H locs (F0 m 42 ls []) := by
  obtain ⟨hx, hb, hml, hr, hown, hts, hK, hlk, hN⟩ := id C
  intro fu
  induction fu with
  | zero =>
    intro σ x3 x4 hf
    rw [f_X8_findAway_42] at hf
    cases hf
  | succ fu ih =>
    intro σ x3 x4 hf H locs ls hs hl
    rw [f_X8_findAway_42] at hf
    refine lv_iload hx hb dX8_findAway_42 (lv_at hl 4 rfl) ?_
    refine lv_iload_n hx hb dX8_findAway_44 rfl (lv_at hl 2 rfl) ?_
    refine lv_icmp_ge (tgt := 118) hx hb dX8_findAway_45 (by decide) (fun cn => ?_) (fun cn => ?_)
    · replace hf := cb_ifp cn hf
      obtain ⟨x3_0, e9, hf⟩ := cb_let_inv hf
      refine lv_iinc (v := x3_0) (lv' := [(3, .int x3_0), (0, .ref (A 0)), (1, .int x1), (2, .int x2), (4, .int x4)]) hx hb dX8_findAway_118 hl (k := 3) rfl (by rw [e9]; rfl) (by decide) rfl (fun ls hl => ?_)
      clear e9
      refine lv_goto (tgt := 33) hx hb dX8_findAway_121 (by decide) ?_
      exact hK33 _ _ hf _ _ _ hs (lv_sub hl [1, 2, 3, 0] rfl)
    · replace hf := cb_ifn cn hf
      refine lv_iconst (v := 0) hx hb dX8_findAway_48 (by decide) ?_
      refine lv_istore (lv' := [(5, .int 0), (0, .ref (A 0)), (1, .int x1), (2, .int x2), (3, .int x3), (4, .int x4)]) hx hb dX8_findAway_49 hl (by decide) rfl (fun ls hl => ?_)
      exact w_X8_findAway_51 C hK33 ih cb_fu _ _ _ _ hf _ _ _ hs (lv_sub hl [1, 2, 3, 4, 5, 0] rfl)
def f_X8_findAway_33 (x1 : Int32) (x2 : Int32) : Nat → cb_St → Int32 → Option (cb_St)
  | 0, _, _ => none
  | fu + 1, σ, x3 => if 11 ≤ x3 then (some σ) else (f_X8_findAway_42 (f_X8_findAway_33 x1 x2 fu) x1 x2 cb_fu σ x3 0)
set_option maxHeartbeats 4000000 in
set_option maxRecDepth 100000 in
theorem w_X8_findAway_33 (C : cb_C p s m args meth c cX8_findAway 6 none RX8 D T) {x1 : Int32} {x2 : Int32} {o : cb_St}  : ∀ (fu : Nat) (σ : cb_St) (x3 : Int32), f_X8_findAway_33 x1 x2 fu σ x3 = some o → ∀ (H : Heap) (locs : List Loc) (ls : Array Slot), cb_H shM A T D σ s.heap H locs → lv_has ls 6 [(0, .ref (A 0)), (1, .int x1), (2, .int x2), (3, .int x3)] → cb_W p l e 2 s m args below meth c shM A T D none o H locs (F0 m 33 ls []) := by
  obtain ⟨hx, hb, hml, hr, hown, hts, hK, hlk, hN⟩ := id C
  intro fu
  induction fu with
  | zero =>
    intro σ x3 hf
    rw [f_X8_findAway_33] at hf
    cases hf
  | succ fu ih =>
    intro σ x3 hf H locs ls hs hl
    rw [f_X8_findAway_33] at hf
    refine lv_iload_n hx hb dX8_findAway_33 rfl (lv_at hl 3 rfl) ?_
    refine lv_bipush (v := 11) hx hb dX8_findAway_34 (by decide) ?_
    refine lv_icmp_ge (tgt := 124) hx hb dX8_findAway_36 (by decide) (fun cn => ?_) (fun cn => ?_)
    · replace hf := cb_ifp cn hf
      have hf := Option.some.inj hf
      subst hf
      exact cb_retv C hs dX8_findAway_124
    · replace hf := cb_ifn cn hf
      refine lv_iconst (v := 0) hx hb dX8_findAway_39 (by decide) ?_
      refine lv_istore (lv' := [(4, .int 0), (0, .ref (A 0)), (1, .int x1), (2, .int x2), (3, .int x3)]) hx hb dX8_findAway_40 hl (by decide) rfl (fun ls hl => ?_)
      exact w_X8_findAway_42 C ih cb_fu _ _ _ hf _ _ _ hs (lv_sub hl [1, 2, 3, 4, 0] rfl)
def f_X8_findAway_24 (K2 : cb_St → Int32 → Option (cb_St)) (x1 : Int32) (x2 : Int32) (σ : cb_St) (x3 : Int32) (s0 : Int32) (s1 : Int32) : Option (cb_St) := cb_ck (0 ≤ Int32.toInt s1 ∧ Int32.toInt s1 < 12) (cb_let (cb_sI σ 11 (Int32.toNatClampNeg s1) s0) (fun σ_1 => cb_let (x3 + 1) (fun x3_1 => K2 σ_1 x3_1)))
set_option maxHeartbeats 4000000 in
set_option maxRecDepth 100000 in
theorem w_X8_findAway_24 (C : cb_C p s m args meth c cX8_findAway 6 none RX8 D T) {K2 : cb_St → Int32 → Option (cb_St)} {x1 : Int32} {x2 : Int32} {o : cb_St} (hK2 : ∀ (σ : cb_St) (x3 : Int32), K2 σ x3 = some o → ∀ (H : Heap) (locs : List Loc) (ls : Array Slot), cb_H shM A T D σ s.heap H locs → lv_has ls 6 [(0, .ref (A 0)), (1, .int x1), (2, .int x2), (3, .int x3)] → cb_W p l e 2 s m args below meth c shM A T D none o H locs (F0 m 2 ls [])) {σ : cb_St} {x3 : Int32} {s0 : Int32} {s1 : Int32} (hf : f_X8_findAway_24 K2 x1 x2 σ x3 s0 s1 = some o) {H : Heap} {locs : List Loc} {ls : Array Slot} (hs : cb_H shM A T D σ s.heap H locs) (hl : lv_has ls 6 [(0, .ref (A 0)), (1, .int x1), (2, .int x2), (3, .int x3)]) : cb_W p l e 2 s m args below meth c shM A T D none o H locs (F0 m 24 ls [.int s0, .int s1, .ref (A 11)]) := by
  obtain ⟨hx, hb, hml, hr, hown, hts, hK, hlk, hN⟩ := id C
  unfold f_X8_findAway_24 at hf
  obtain ⟨hc, hf⟩ := cb_ck_inv hf
  refine cb_iast C hs rfl (vp_in_iff.mpr hc) dX8_findAway_24 (fun H locs hs => ?_)
  obtain ⟨σ_1, e9, hf⟩ := cb_let_inv hf
  replace hs := cb_Hc e9 hs
  clear e9
  obtain ⟨x3_1, e9, hf⟩ := cb_let_inv hf
  refine lv_iinc (v := x3_1) (lv' := [(3, .int x3_1), (0, .ref (A 0)), (1, .int x1), (2, .int x2)]) hx hb dX8_findAway_25 hl (k := 3) rfl (by rw [e9]; rfl) (by decide) rfl (fun ls hl => ?_)
  clear e9
  refine lv_goto (tgt := 2) hx hb dX8_findAway_28 (by decide) ?_
  exact hK2 _ _ hf _ _ _ hs (lv_sub hl [1, 2, 3, 0] rfl)
def f_X8_findAway_2 (x1 : Int32) (x2 : Int32) : Nat → cb_St → Int32 → Option (cb_St)
  | 0, _, _ => none
  | fu + 1, σ, x3 => if 12 ≤ x3 then (f_X8_findAway_33 x1 x2 cb_fu σ 1) else (if x3 = x1 then (f_X8_findAway_24 (f_X8_findAway_2 x1 x2 fu) x1 x2 σ x3 0 x3) else (f_X8_findAway_24 (f_X8_findAway_2 x1 x2 fu) x1 x2 σ x3 99 x3))
set_option maxHeartbeats 4000000 in
set_option maxRecDepth 100000 in
theorem w_X8_findAway_2 (C : cb_C p s m args meth c cX8_findAway 6 none RX8 D T) {x1 : Int32} {x2 : Int32} {o : cb_St}  : ∀ (fu : Nat) (σ : cb_St) (x3 : Int32), f_X8_findAway_2 x1 x2 fu σ x3 = some o → ∀ (H : Heap) (locs : List Loc) (ls : Array Slot), cb_H shM A T D σ s.heap H locs → lv_has ls 6 [(0, .ref (A 0)), (1, .int x1), (2, .int x2), (3, .int x3)] → cb_W p l e 2 s m args below meth c shM A T D none o H locs (F0 m 2 ls []) := by
  obtain ⟨hx, hb, hml, hr, hown, hts, hK, hlk, hN⟩ := id C
  intro fu
  induction fu with
  | zero =>
    intro σ x3 hf
    rw [f_X8_findAway_2] at hf
    cases hf
  | succ fu ih =>
    intro σ x3 hf H locs ls hs hl
    rw [f_X8_findAway_2] at hf
    refine lv_iload_n hx hb dX8_findAway_2 rfl (lv_at hl 3 rfl) ?_
    refine lv_bipush (v := 12) hx hb dX8_findAway_3 (by decide) ?_
    refine lv_icmp_ge (tgt := 31) hx hb dX8_findAway_5 (by decide) (fun cn => ?_) (fun cn => ?_)
    · replace hf := cb_ifp cn hf
      refine lv_iconst (v := 1) hx hb dX8_findAway_31 (by decide) ?_
      refine lv_istore_n (lv' := [(3, .int 1), (0, .ref (A 0)), (1, .int x1), (2, .int x2)]) hx hb dX8_findAway_32 rfl hl (by decide) rfl (fun ls hl => ?_)
      exact w_X8_findAway_33 C  cb_fu _ _ hf _ _ _ hs (lv_sub hl [1, 2, 3, 0] rfl)
    · replace hf := cb_ifn cn hf
      refine lv_aload_n hx hb dX8_findAway_8 rfl (lv_at hl 0 rfl) ?_
      refine gf_X8_44 C hs rfl dX8_findAway_9 ?_
      refine lv_iload_n hx hb dX8_findAway_12 rfl (lv_at hl 3 rfl) ?_
      refine lv_iload_n hx hb dX8_findAway_13 rfl (lv_at hl 3 rfl) ?_
      refine lv_iload_n hx hb dX8_findAway_14 rfl (lv_at hl 1 rfl) ?_
      refine lv_icmp_ne (tgt := 22) hx hb dX8_findAway_15 (by decide) (fun cn => ?_) (fun cn => ?_)
      · replace hf := cb_ifn cn hf
        refine lv_bipush (v := 99) hx hb dX8_findAway_22 (by decide) ?_
        exact w_X8_findAway_24 C ih hf hs (lv_sub hl [0, 1, 2, 3] rfl)
      · replace hf := cb_ifp cn hf
        refine lv_iconst (v := 0) hx hb dX8_findAway_18 (by decide) ?_
        refine lv_goto (tgt := 24) hx hb dX8_findAway_19 (by decide) ?_
        exact w_X8_findAway_24 C ih hf hs (lv_sub hl [0, 1, 2, 3] rfl)
def f_X8_findAway (x1 : Int32) (x2 : Int32) (σ : cb_St) : Option (cb_St) := f_X8_findAway_2 x1 x2 cb_fu σ 0
set_option maxHeartbeats 4000000 in
set_option maxRecDepth 100000 in
theorem c_X8_findAway {x1 : Int32} {x2 : Int32}  {σ : cb_St} {o : cb_St} (hf : f_X8_findAway x1 x2 σ = some o) : cb_M l yX8_findAway cX8_findAway 6 none 2 shM A T D σ [.ref (A 0), .int x1, .int x2] none o := by
  refine cb_met (by decide +kernel) (Nat.le_of_ble_eq_true rfl) ?_
  intro p e s m below meth c C hs ls hl
  have hl : lv_has ls 6 [(0, .ref (A 0)), (1, .int x1), (2, .int x2)] := hl
  obtain ⟨hx, hb, hml, hr, hown, hts, hK, hlk, hN⟩ := id C
  unfold f_X8_findAway at hf
  refine lv_iconst (v := 0) hx hb dX8_findAway_0 (by decide) ?_
  refine lv_istore_n (lv' := [(3, .int 0), (0, .ref (A 0)), (1, .int x1), (2, .int x2)]) hx hb dX8_findAway_1 rfl hl (by decide) rfl (fun ls hl => ?_)
  exact w_X8_findAway_2 C  cb_fu _ _ hf _ _ _ hs (lv_sub hl [1, 2, 3, 0] rfl)
/-! ===== CardBecomeModel.force ===== -/
def f_X8_force_30 (x1 : Int32) : Nat → cb_St → Int32 → Int32 → Option (Int32 × cb_St)
  | 0, _, _, _ => none
  | fu + 1, σ, x2, x3 => if x3 ≤ 0 then (cb_ck (0 ≤ Int32.toInt 0 ∧ Int32.toInt 0 < 51) (cb_let (cb_sI σ 3 (Int32.toNatClampNeg 0) x1) (fun σ_1 => some (x2, σ_1)))) else (cb_ck (0 ≤ Int32.toInt ((0 + x3) - 1) ∧ Int32.toInt ((0 + x3) - 1) < 51) (cb_ck (0 ≤ Int32.toInt (0 + x3) ∧ Int32.toInt (0 + x3) < 51) (cb_let (cb_sI σ 3 (Int32.toNatClampNeg (0 + x3)) (σ.1 3 (Int32.toNatClampNeg ((0 + x3) - 1)))) (fun σ_2 => cb_let (x3 + (-1)) (fun x3_2 => f_X8_force_30 x1 fu σ_2 x2 x3_2)))))
set_option maxHeartbeats 4000000 in
set_option maxRecDepth 100000 in
theorem w_X8_force_30 (C : cb_C p s m args meth c cX8_force 4 (some .int) RX8 D T) {x1 : Int32} {o : Int32 × cb_St}  : ∀ (fu : Nat) (σ : cb_St) (x2 : Int32) (x3 : Int32), f_X8_force_30 x1 fu σ x2 x3 = some o → ∀ (H : Heap) (locs : List Loc) (ls : Array Slot), cb_H shM A T D σ s.heap H locs → lv_has ls 4 [(0, .ref (A 0)), (1, .int x1), (2, .int x2), (3, .int x3)] → cb_W p l e 3 s m args below meth c shM A T D (some (.int o.1)) o.2 H locs (F0 m 30 ls []) := by
  obtain ⟨hx, hb, hml, hr, hown, hts, hK, hlk, hN⟩ := id C
  intro fu
  induction fu with
  | zero =>
    intro σ x2 x3 hf
    rw [f_X8_force_30] at hf
    cases hf
  | succ fu ih =>
    intro σ x2 x3 hf H locs ls hs hl
    rw [f_X8_force_30] at hf
    refine lv_iload_n hx hb dX8_force_30 rfl (lv_at hl 3 rfl) ?_
    refine lv_if_le (tgt := 58) hx hb dX8_force_31 (by decide) (fun cn => ?_) (fun cn => ?_)
    · replace hf := cb_ifp cn hf
      refine lv_aload_n hx hb dX8_force_58 rfl (lv_at hl 0 rfl) ?_
      refine gf_X8_16 C hs rfl dX8_force_59 ?_
      refine lv_iconst (v := 0) hx hb dX8_force_62 (by decide) ?_
      refine lv_iload_n hx hb dX8_force_63 rfl (lv_at hl 1 rfl) ?_
      obtain ⟨hc, hf⟩ := cb_ck_inv hf
      refine cb_iast C hs rfl (vp_in_iff.mpr hc) dX8_force_64 (fun H locs hs => ?_)
      obtain ⟨σ_1, e9, hf⟩ := cb_let_inv hf
      replace hs := cb_Hc e9 hs
      clear e9
      refine lv_iload_n hx hb dX8_force_65 rfl (lv_at hl 2 rfl) ?_
      have hf := Option.some.inj hf
      subst hf
      exact cb_reti C hs dX8_force_66
    · replace hf := cb_ifn cn hf
      refine lv_aload_n hx hb dX8_force_34 rfl (lv_at hl 0 rfl) ?_
      refine gf_X8_16 C hs rfl dX8_force_35 ?_
      refine lv_iconst (v := 0) hx hb dX8_force_38 (by decide) ?_
      refine lv_iload_n hx hb dX8_force_39 rfl (lv_at hl 3 rfl) ?_
      refine lv_iadd hx hb dX8_force_40 ?_
      refine lv_aload_n hx hb dX8_force_41 rfl (lv_at hl 0 rfl) ?_
      refine gf_X8_16 C hs rfl dX8_force_42 ?_
      refine lv_iconst (v := 0) hx hb dX8_force_45 (by decide) ?_
      refine lv_iload_n hx hb dX8_force_46 rfl (lv_at hl 3 rfl) ?_
      refine lv_iadd hx hb dX8_force_47 ?_
      refine lv_iconst (v := 1) hx hb dX8_force_48 (by decide) ?_
      refine lv_isub hx hb dX8_force_49 ?_
      obtain ⟨hc, hf⟩ := cb_ck_inv hf
      refine cb_iald C hs rfl (vp_in_iff.mpr hc) dX8_force_50 ?_
      obtain ⟨hc, hf⟩ := cb_ck_inv hf
      refine cb_iast C hs rfl (vp_in_iff.mpr hc) dX8_force_51 (fun H locs hs => ?_)
      obtain ⟨σ_2, e9, hf⟩ := cb_let_inv hf
      replace hs := cb_Hc e9 hs
      clear e9
      obtain ⟨x3_2, e9, hf⟩ := cb_let_inv hf
      refine lv_iinc (v := x3_2) (lv' := [(3, .int x3_2), (0, .ref (A 0)), (1, .int x1), (2, .int x2)]) hx hb dX8_force_52 hl (k := 3) rfl (by rw [e9]; rfl) (by decide) rfl (fun ls hl => ?_)
      clear e9
      refine lv_goto (tgt := 30) hx hb dX8_force_55 (by decide) ?_
      exact ih _ _ _ hf _ _ _ hs (lv_sub hl [1, 2, 3, 0] rfl)
def f_X8_force (x1 : Int32) (σ : cb_St) : Option (Int32 × cb_St) := cb_bp (f_X8_isCard x1 σ) (fun r_1 => if r_1 = 0 then (some ((-1000000001), σ)) else (cb_bp (f_X8_placeOf x1 σ) (fun r_2 => if 0 ≤ r_2 then (cb_bv (f_X8_remember σ) (fun σ_3 => f_X8_force_30 x1 cb_fu σ_3 r_2 r_2)) else (some ((-1000000003), σ)))))
set_option maxHeartbeats 4000000 in
set_option maxRecDepth 100000 in
theorem c_X8_force {x1 : Int32}  {σ : cb_St} {o : Int32 × cb_St} (hf : f_X8_force x1 σ = some o) : cb_M l yX8_force cX8_force 4 (some .int) 3 shM A T D σ [.ref (A 0), .int x1] (some (.int o.1)) o.2 := by
  refine cb_met (by decide +kernel) (Nat.le_of_ble_eq_true rfl) ?_
  intro p e s m below meth c C hs ls hl
  have hl : lv_has ls 4 [(0, .ref (A 0)), (1, .int x1)] := hl
  obtain ⟨hx, hb, hml, hr, hown, hts, hK, hlk, hN⟩ := id C
  unfold f_X8_force at hf
  refine lv_aload_n hx hb dX8_force_0 rfl (lv_at hl 0 rfl) ?_
  refine lv_iload_n hx hb dX8_force_1 rfl (lv_at hl 1 rfl) ?_
  obtain ⟨r_1, hc, hf⟩ := cb_bp_inv hf
  refine cb_callVi C (c_X8_isCard  hc) mw_X8_isCard ml_X8_206 rfl ⟨Nat.le_of_ble_eq_true rfl, Nat.le_of_ble_eq_true rfl⟩ rfl (Nat.le_of_ble_eq_true rfl) rfl hs hl rfl (Nat.le_of_ble_eq_true rfl) dX8_force_2 (fun H locs hs => ?_)
  clear hc
  refine lv_if_ne (tgt := 11) hx hb dX8_force_5 (by decide) (fun cn => ?_) (fun cn => ?_)
  · replace hf := cb_ifn cn hf
    refine lv_aload_n hx hb dX8_force_11 rfl (lv_at hl 0 rfl) ?_
    refine lv_iload_n hx hb dX8_force_12 rfl (lv_at hl 1 rfl) ?_
    obtain ⟨r_2, hc, hf⟩ := cb_bp_inv hf
    refine cb_callVi C (c_X8_placeOf  hc) mw_X8_placeOf ml_X8_210 rfl ⟨Nat.le_of_ble_eq_true rfl, Nat.le_of_ble_eq_true rfl⟩ rfl (Nat.le_of_ble_eq_true rfl) rfl hs hl rfl (Nat.le_of_ble_eq_true rfl) dX8_force_13 (fun H locs hs => ?_)
    clear hc
    refine lv_istore_n (lv' := [(2, .int r_2), (0, .ref (A 0)), (1, .int x1)]) hx hb dX8_force_16 rfl hl (by decide) rfl (fun ls hl => ?_)
    refine lv_iload_n hx hb dX8_force_17 rfl (lv_at hl 0 rfl) ?_
    refine lv_if_ge (tgt := 24) hx hb dX8_force_18 (by decide) (fun cn => ?_) (fun cn => ?_)
    · replace hf := cb_ifp cn hf
      refine lv_aload_n hx hb dX8_force_24 rfl (lv_at hl 1 rfl) ?_
      obtain ⟨σ_3, hc, hf⟩ := cb_bv_inv hf
      refine cb_callVv C (c_X8_remember  hc) mw_X8_remember ml_X8_232 rfl ⟨Nat.le_of_ble_eq_true rfl, Nat.le_of_ble_eq_true rfl⟩ rfl (Nat.le_of_ble_eq_true rfl) rfl hs hl rfl (Nat.le_of_ble_eq_true rfl) dX8_force_25 (fun H locs hs => ?_)
      clear hc
      refine lv_iload_n hx hb dX8_force_28 rfl (lv_at hl 0 rfl) ?_
      refine lv_istore_n (lv' := [(3, .int r_2), (2, .int r_2), (0, .ref (A 0)), (1, .int x1)]) hx hb dX8_force_29 rfl hl (by decide) rfl (fun ls hl => ?_)
      exact w_X8_force_30 C  cb_fu _ _ _ hf _ _ _ hs (lv_sub hl [2, 3, 1, 0] rfl)
    · replace hf := cb_ifn cn hf
      refine lv_ldc (v := (-1000000003)) hx hb hown (hts _ kc_X8_231) dX8_force_21 ?_
      have hf := Option.some.inj hf
      subst hf
      exact cb_reti C hs dX8_force_23
  · replace hf := cb_ifp cn hf
    refine lv_ldc (v := (-1000000001)) hx hb hown (hts _ kc_X8_209) dX8_force_8 ?_
    have hf := Option.some.inj hf
    subst hf
    exact cb_reti C hs dX8_force_10
end
