section
variable {p : Program} {l : Launch} {e : Env} {s : State} {m : MethodId} {args : Array Value} {below : List Frame} {meth : Method} {c : Code} {A : Nat → Nat} {T : Nat → ClassId} {D : va_G}
/-! ===== CardBecomeModel.getBack ===== -/
def f_X8_getBack (x1 : Int32) (σ : cb_St) : Option (Int32 × cb_St) := cb_bp (f_X8_isPerson x1 σ) (fun r_1 => if r_1 = 0 then (some ((-1000000001), σ)) else (cb_ck (0 ≤ Int32.toInt (13 + x1) ∧ Int32.toInt (13 + x1) < 51) (if 0 ≤ (σ.1 3 (Int32.toNatClampNeg (13 + x1))) then (cb_bv (f_X8_remember σ) (fun σ_2 => cb_ck (0 ≤ Int32.toInt (13 + x1) ∧ Int32.toInt (13 + x1) < 51) (cb_let (σ_2.1 3 (Int32.toNatClampNeg (13 + x1))) (fun x2_2 => cb_bv (f_X8_backNow x1 σ_2) (fun σ_4 => some (x2_2, σ_4)))))) else (some ((-1000000003), σ)))))
set_option maxHeartbeats 4000000 in
set_option maxRecDepth 100000 in
theorem c_X8_getBack {x1 : Int32}  {σ : cb_St} {o : Int32 × cb_St} (hf : f_X8_getBack x1 σ = some o) : cb_M l yX8_getBack cX8_getBack 3 (some .int) 3 shM A T D σ [.ref (A 0), .int x1] (some (.int o.1)) o.2 := by
  refine cb_met (by decide +kernel) (Nat.le_of_ble_eq_true rfl) ?_
  intro p e s m below meth c C hs ls hl
  have hl : lv_has ls 3 [(0, .ref (A 0)), (1, .int x1)] := hl
  obtain ⟨hx, hb, hml, hr, hown, hts, hK, hlk, hN⟩ := id C
  unfold f_X8_getBack at hf
  refine lv_aload_n hx hb dX8_getBack_0 rfl (lv_at hl 0 rfl) ?_
  refine lv_iload_n hx hb dX8_getBack_1 rfl (lv_at hl 1 rfl) ?_
  obtain ⟨r_1, hc, hf⟩ := cb_bp_inv hf
  refine cb_callVi C (c_X8_isPerson  hc) mw_X8_isPerson ml_X8_82 rfl ⟨Nat.le_of_ble_eq_true rfl, Nat.le_of_ble_eq_true rfl⟩ rfl (Nat.le_of_ble_eq_true rfl) rfl hs hl rfl (Nat.le_of_ble_eq_true rfl) dX8_getBack_2 (fun H locs hs => ?_)
  clear hc
  refine lv_if_ne (tgt := 11) hx hb dX8_getBack_5 (by decide) (fun cn => ?_) (fun cn => ?_)
  · replace hf := cb_ifn cn hf
    refine lv_aload_n hx hb dX8_getBack_11 rfl (lv_at hl 0 rfl) ?_
    refine gf_X8_16 C hs rfl dX8_getBack_12 ?_
    refine lv_bipush (v := 13) hx hb dX8_getBack_15 (by decide) ?_
    refine lv_iload_n hx hb dX8_getBack_17 rfl (lv_at hl 1 rfl) ?_
    refine lv_iadd hx hb dX8_getBack_18 ?_
    obtain ⟨hc, hf⟩ := cb_ck_inv hf
    refine cb_iald C hs rfl (vp_in_iff.mpr hc) dX8_getBack_19 ?_
    refine lv_if_ge (tgt := 26) hx hb dX8_getBack_20 (by decide) (fun cn => ?_) (fun cn => ?_)
    · replace hf := cb_ifp cn hf
      refine lv_aload_n hx hb dX8_getBack_26 rfl (lv_at hl 0 rfl) ?_
      obtain ⟨σ_2, hc, hf⟩ := cb_bv_inv hf
      refine cb_callVv C (c_X8_remember  hc) mw_X8_remember ml_X8_232 rfl ⟨Nat.le_of_ble_eq_true rfl, Nat.le_of_ble_eq_true rfl⟩ rfl (Nat.le_of_ble_eq_true rfl) rfl hs hl rfl (Nat.le_of_ble_eq_true rfl) dX8_getBack_27 (fun H locs hs => ?_)
      clear hc
      refine lv_aload_n hx hb dX8_getBack_30 rfl (lv_at hl 0 rfl) ?_
      refine gf_X8_16 C hs rfl dX8_getBack_31 ?_
      refine lv_bipush (v := 13) hx hb dX8_getBack_34 (by decide) ?_
      refine lv_iload_n hx hb dX8_getBack_36 rfl (lv_at hl 1 rfl) ?_
      refine lv_iadd hx hb dX8_getBack_37 ?_
      obtain ⟨hc, hf⟩ := cb_ck_inv hf
      refine cb_iald C hs rfl (vp_in_iff.mpr hc) dX8_getBack_38 ?_
      obtain ⟨x2_2, e9, hf⟩ := cb_let_inv hf
      refine cb_topi e9 ?_
      clear e9
      refine lv_istore_n (lv' := [(2, .int x2_2), (0, .ref (A 0)), (1, .int x1)]) hx hb dX8_getBack_39 rfl hl (by decide) rfl (fun ls hl => ?_)
      refine lv_aload_n hx hb dX8_getBack_40 rfl (lv_at hl 1 rfl) ?_
      refine lv_iload_n hx hb dX8_getBack_41 rfl (lv_at hl 2 rfl) ?_
      obtain ⟨σ_4, hc, hf⟩ := cb_bv_inv hf
      refine cb_callVv C (c_X8_backNow  hc) mw_X8_backNow ml_X8_238 rfl ⟨Nat.le_of_ble_eq_true rfl, Nat.le_of_ble_eq_true rfl⟩ rfl (Nat.le_of_ble_eq_true rfl) rfl hs hl rfl (Nat.le_of_ble_eq_true rfl) dX8_getBack_42 (fun H locs hs => ?_)
      clear hc
      refine lv_iload_n hx hb dX8_getBack_45 rfl (lv_at hl 0 rfl) ?_
      have hf := Option.some.inj hf
      subst hf
      exact cb_reti C hs dX8_getBack_46
    · replace hf := cb_ifn cn hf
      refine lv_ldc (v := (-1000000003)) hx hb hown (hts _ kc_X8_231) dX8_getBack_23 ?_
      have hf := Option.some.inj hf
      subst hf
      exact cb_reti C hs dX8_getBack_25
  · replace hf := cb_ifp cn hf
    refine lv_ldc (v := (-1000000001)) hx hb hown (hts _ kc_X8_209) dX8_getBack_8 ?_
    have hf := Option.some.inj hf
    subst hf
    exact cb_reti C hs dX8_getBack_10
/-! ===== CardBecomeModel.goBack ===== -/
def f_X8_goBack_27 (x1 : Int32) : Nat → cb_St → Int32 → Option (Int32 × cb_St)
  | 0, _, _ => none
  | fu + 1, σ, x2 => if 51 ≤ x2 then (cb_ck (0 ≤ Int32.toInt ((52 * x1) + 51) ∧ Int32.toInt ((52 * x1) + 51) < 104) (cb_let (cb_sI σ 0 9 (σ.1 19 (Int32.toNatClampNeg ((52 * x1) + 51)))) (fun σ_1 => cb_let (cb_sI σ_1 0 22 0) (fun σ_2 => some (1, σ_2))))) else (cb_ck (0 ≤ Int32.toInt ((52 * x1) + x2) ∧ Int32.toInt ((52 * x1) + x2) < 104) (cb_ck (0 ≤ Int32.toInt x2 ∧ Int32.toInt x2 < 51) (cb_let (cb_sI σ 3 (Int32.toNatClampNeg x2) (σ.1 19 (Int32.toNatClampNeg ((52 * x1) + x2)))) (fun σ_3 => cb_let (x2 + 1) (fun x2_3 => f_X8_goBack_27 x1 fu σ_3 x2_3)))))
set_option maxHeartbeats 4000000 in
set_option maxRecDepth 100000 in
theorem w_X8_goBack_27 (C : cb_C p s m args meth c cX8_goBack 3 (some .int) RX8 D T) {x1 : Int32} {o : Int32 × cb_St}  : ∀ (fu : Nat) (σ : cb_St) (x2 : Int32), f_X8_goBack_27 x1 fu σ x2 = some o → ∀ (H : Heap) (locs : List Loc) (ls : Array Slot), cb_H shM A T D σ s.heap H locs → lv_has ls 3 [(0, .ref (A 0)), (1, .int x1), (2, .int x2)] → cb_W p l e 2 s m args below meth c shM A T D (some (.int o.1)) o.2 H locs (F0 m 27 ls []) := by
  obtain ⟨hx, hb, hml, hr, hown, hts, hK, hlk, hN⟩ := id C
  intro fu
  induction fu with
  | zero =>
    intro σ x2 hf
    rw [f_X8_goBack_27] at hf
    cases hf
  | succ fu ih =>
    intro σ x2 hf H locs ls hs hl
    rw [f_X8_goBack_27] at hf
    refine lv_iload_n hx hb dX8_goBack_27 rfl (lv_at hl 2 rfl) ?_
    refine lv_bipush (v := 51) hx hb dX8_goBack_28 (by decide) ?_
    refine lv_icmp_ge (tgt := 56) hx hb dX8_goBack_30 (by decide) (fun cn => ?_) (fun cn => ?_)
    · replace hf := cb_ifp cn hf
      refine lv_aload_n hx hb dX8_goBack_56 rfl (lv_at hl 0 rfl) ?_
      refine lv_aload_n hx hb dX8_goBack_57 rfl (lv_at hl 0 rfl) ?_
      refine gf_X8_68 C hs rfl dX8_goBack_58 ?_
      refine lv_bipush (v := 52) hx hb dX8_goBack_61 (by decide) ?_
      refine lv_iload_n hx hb dX8_goBack_63 rfl (lv_at hl 1 rfl) ?_
      refine lv_imul hx hb dX8_goBack_64 ?_
      refine lv_bipush (v := 51) hx hb dX8_goBack_65 (by decide) ?_
      refine lv_iadd hx hb dX8_goBack_67 ?_
      obtain ⟨hc, hf⟩ := cb_ck_inv hf
      refine cb_iald C hs rfl (vp_in_iff.mpr hc) dX8_goBack_68 ?_
      refine pf_X8_259 C hs rfl dX8_goBack_69 (fun H locs hs => ?_)
      obtain ⟨σ_1, e9, hf⟩ := cb_let_inv hf
      replace hs := cb_Hc e9 hs
      clear e9
      refine lv_aload_n hx hb dX8_goBack_72 rfl (lv_at hl 0 rfl) ?_
      refine lv_iconst (v := 0) hx hb dX8_goBack_73 (by decide) ?_
      refine pf_X8_167 C hs rfl dX8_goBack_74 (fun H locs hs => ?_)
      obtain ⟨σ_2, e9, hf⟩ := cb_let_inv hf
      replace hs := cb_Hc e9 hs
      clear e9
      refine lv_iconst (v := 1) hx hb dX8_goBack_77 (by decide) ?_
      have hf := Option.some.inj hf
      subst hf
      exact cb_reti C hs dX8_goBack_78
    · replace hf := cb_ifn cn hf
      refine lv_aload_n hx hb dX8_goBack_33 rfl (lv_at hl 0 rfl) ?_
      refine gf_X8_16 C hs rfl dX8_goBack_34 ?_
      refine lv_iload_n hx hb dX8_goBack_37 rfl (lv_at hl 2 rfl) ?_
      refine lv_aload_n hx hb dX8_goBack_38 rfl (lv_at hl 0 rfl) ?_
      refine gf_X8_68 C hs rfl dX8_goBack_39 ?_
      refine lv_bipush (v := 52) hx hb dX8_goBack_42 (by decide) ?_
      refine lv_iload_n hx hb dX8_goBack_44 rfl (lv_at hl 1 rfl) ?_
      refine lv_imul hx hb dX8_goBack_45 ?_
      refine lv_iload_n hx hb dX8_goBack_46 rfl (lv_at hl 2 rfl) ?_
      refine lv_iadd hx hb dX8_goBack_47 ?_
      obtain ⟨hc, hf⟩ := cb_ck_inv hf
      refine cb_iald C hs rfl (vp_in_iff.mpr hc) dX8_goBack_48 ?_
      obtain ⟨hc, hf⟩ := cb_ck_inv hf
      refine cb_iast C hs rfl (vp_in_iff.mpr hc) dX8_goBack_49 (fun H locs hs => ?_)
      obtain ⟨σ_3, e9, hf⟩ := cb_let_inv hf
      replace hs := cb_Hc e9 hs
      clear e9
      obtain ⟨x2_3, e9, hf⟩ := cb_let_inv hf
      refine lv_iinc (v := x2_3) (lv' := [(2, .int x2_3), (0, .ref (A 0)), (1, .int x1)]) hx hb dX8_goBack_50 hl (k := 2) rfl (by rw [e9]; rfl) (by decide) rfl (fun ls hl => ?_)
      clear e9
      refine lv_goto (tgt := 27) hx hb dX8_goBack_53 (by decide) ?_
      exact ih _ _ hf _ _ _ hs (lv_sub hl [1, 2, 0] rfl)
def f_X8_goBack (x1 : Int32) (σ : cb_St) : Option (Int32 × cb_St) := cb_bp (f_X8_in (Int32.toInt64 x1) 0 1 σ) (fun r_1 => if r_1 = 0 then (some ((-1000000001), σ)) else (cb_ck (0 ≤ Int32.toInt x1 ∧ Int32.toInt x1 < 2) (if (σ.1 20 (Int32.toNatClampNeg x1)) = 0 then (some ((-1000000003), σ)) else (f_X8_goBack_27 x1 cb_fu σ 0))))
set_option maxHeartbeats 4000000 in
set_option maxRecDepth 100000 in
theorem c_X8_goBack {x1 : Int32}  {σ : cb_St} {o : Int32 × cb_St} (hf : f_X8_goBack x1 σ = some o) : cb_M l yX8_goBack cX8_goBack 3 (some .int) 2 shM A T D σ [.ref (A 0), .int x1] (some (.int o.1)) o.2 := by
  refine cb_met (by decide +kernel) (Nat.le_of_ble_eq_true rfl) ?_
  intro p e s m below meth c C hs ls hl
  have hl : lv_has ls 3 [(0, .ref (A 0)), (1, .int x1)] := hl
  obtain ⟨hx, hb, hml, hr, hown, hts, hK, hlk, hN⟩ := id C
  unfold f_X8_goBack at hf
  refine lv_iload_n hx hb dX8_goBack_0 rfl (lv_at hl 1 rfl) ?_
  refine lv_i2l hx hb dX8_goBack_1 rfl ?_
  refine lv_lconst (v := 0) hx hb dX8_goBack_2 (by decide) ?_
  refine lv_lconst (v := 1) hx hb dX8_goBack_3 (by decide) ?_
  obtain ⟨r_1, hc, hf⟩ := cb_bp_inv hf
  refine cb_callSi C (c_X8_in  hc) mw_X8_in ml_X8_78 rfl ⟨Nat.le_of_ble_eq_true rfl, Nat.le_of_ble_eq_true rfl⟩ hs hl rfl (Nat.le_of_ble_eq_true rfl) dX8_goBack_4 (fun H locs hs => ?_)
  clear hc
  refine lv_if_ne (tgt := 13) hx hb dX8_goBack_7 (by decide) (fun cn => ?_) (fun cn => ?_)
  · replace hf := cb_ifn cn hf
    refine lv_aload_n hx hb dX8_goBack_13 rfl (lv_at hl 0 rfl) ?_
    refine gf_X8_71 C hs rfl dX8_goBack_14 ?_
    refine lv_iload_n hx hb dX8_goBack_17 rfl (lv_at hl 1 rfl) ?_
    obtain ⟨hc, hf⟩ := cb_ck_inv hf
    refine cb_zald C hs rfl (vp_in_iff.mpr hc) dX8_goBack_18 ?_
    refine lv_if_ne (tgt := 25) hx hb dX8_goBack_19 (by decide) (fun cn => ?_) (fun cn => ?_)
    · replace hf := cb_ifn cn hf
      refine lv_iconst (v := 0) hx hb dX8_goBack_25 (by decide) ?_
      refine lv_istore_n (lv' := [(2, .int 0), (0, .ref (A 0)), (1, .int x1)]) hx hb dX8_goBack_26 rfl hl (by decide) rfl (fun ls hl => ?_)
      exact w_X8_goBack_27 C  cb_fu _ _ hf _ _ _ hs (lv_sub hl [1, 2, 0] rfl)
    · replace hf := cb_ifp cn hf
      refine lv_ldc (v := (-1000000003)) hx hb hown (hts _ kc_X8_231) dX8_goBack_22 ?_
      have hf := Option.some.inj hf
      subst hf
      exact cb_reti C hs dX8_goBack_24
  · replace hf := cb_ifp cn hf
    refine lv_ldc (v := (-1000000001)) hx hb hown (hts _ kc_X8_209) dX8_goBack_10 ?_
    have hf := Option.some.inj hf
    subst hf
    exact cb_reti C hs dX8_goBack_12
/-! ===== CardBecomeModel.logCard ===== -/
def f_X8_logCard_36 (x1 : Int32) (x2 : Int32) (σ : cb_St) (s0 : Int32) : Option (Int32) := some (s0 - 1)
set_option maxHeartbeats 4000000 in
set_option maxRecDepth 100000 in
theorem w_X8_logCard_36 (C : cb_C p s m args meth c cX8_logCard 3 (some .int) RX8 D T) {x1 : Int32} {x2 : Int32} {σ : cb_St} {o : Int32}  {s0 : Int32} (hf : f_X8_logCard_36 x1 x2 σ s0 = some o) {H : Heap} {locs : List Loc} {ls : Array Slot} (hs : cb_H shM A T D σ s.heap H locs) (hl : lv_has ls 3 [(0, .ref (A 0)), (1, .int x1), (2, .int x2)]) : cb_W p l e 1 s m args below meth c shM A T D (some (.int o)) σ H locs (F0 m 36 ls [.int s0]) := by
  obtain ⟨hx, hb, hml, hr, hown, hts, hK, hlk, hN⟩ := id C
  unfold f_X8_logCard_36 at hf
  refine lv_iconst (v := 1) hx hb dX8_logCard_36 (by decide) ?_
  refine lv_isub hx hb dX8_logCard_37 ?_
  have hf := Option.some.inj hf
  subst hf
  exact cb_reti C hs dX8_logCard_38
def f_X8_logCard (x1 : Int32) (x2 : Int32) (σ : cb_St)  : Option (Int32) := if x2 = 0 then (cb_ck (0 ≤ Int32.toInt (27 + x1) ∧ Int32.toInt (27 + x1) < 51) (f_X8_logCard_36 x1 x2 σ (((σ.1 3 (Int32.toNatClampNeg (27 + x1))) / 4) - ((σ.1 3 (Int32.toNatClampNeg (27 + x1))) / 4) / 16 * 16))) else (cb_ck (0 ≤ Int32.toInt (27 + x1) ∧ Int32.toInt (27 + x1) < 51) (f_X8_logCard_36 x1 x2 σ (((σ.1 3 (Int32.toNatClampNeg (27 + x1))) / 64) - ((σ.1 3 (Int32.toNatClampNeg (27 + x1))) / 64) / 16 * 16)))
set_option maxHeartbeats 4000000 in
set_option maxRecDepth 100000 in
theorem c_X8_logCard {x1 : Int32} {x2 : Int32} {σ : cb_St}   {o : Int32} (hf : f_X8_logCard x1 x2 σ = some o) : cb_M l yX8_logCard cX8_logCard 3 (some .int) 1 shM A T D σ [.ref (A 0), .int x1, .int x2] (some (.int o)) σ := by
  refine cb_met (by decide +kernel) (Nat.le_of_ble_eq_true rfl) ?_
  intro p e s m below meth c C hs ls hl
  have hl : lv_has ls 3 [(0, .ref (A 0)), (1, .int x1), (2, .int x2)] := hl
  obtain ⟨hx, hb, hml, hr, hown, hts, hK, hlk, hN⟩ := id C
  unfold f_X8_logCard at hf
  refine lv_iload_n hx hb dX8_logCard_0 rfl (lv_at hl 2 rfl) ?_
  refine lv_if_eq (tgt := 22) hx hb dX8_logCard_1 (by decide) (fun cn => ?_) (fun cn => ?_)
  · replace hf := cb_ifp cn hf
    refine lv_aload_n hx hb dX8_logCard_22 rfl (lv_at hl 0 rfl) ?_
    refine gf_X8_16 C hs rfl dX8_logCard_23 ?_
    refine lv_bipush (v := 27) hx hb dX8_logCard_26 (by decide) ?_
    refine lv_iload_n hx hb dX8_logCard_28 rfl (lv_at hl 1 rfl) ?_
    refine lv_iadd hx hb dX8_logCard_29 ?_
    obtain ⟨hc, hf⟩ := cb_ck_inv hf
    refine cb_iald C hs rfl (vp_in_iff.mpr hc) dX8_logCard_30 ?_
    refine lv_iconst (v := 4) hx hb dX8_logCard_31 (by decide) ?_
    refine lv_idiv hx hb dX8_logCard_32 (by decide) ?_
    refine lv_bipush (v := 16) hx hb dX8_logCard_33 (by decide) ?_
    refine lv_irem hx hb dX8_logCard_35 (by decide) ?_
    exact w_X8_logCard_36 C  hf hs (lv_sub hl [0, 1, 2] rfl)
  · replace hf := cb_ifn cn hf
    refine lv_aload_n hx hb dX8_logCard_4 rfl (lv_at hl 0 rfl) ?_
    refine gf_X8_16 C hs rfl dX8_logCard_5 ?_
    refine lv_bipush (v := 27) hx hb dX8_logCard_8 (by decide) ?_
    refine lv_iload_n hx hb dX8_logCard_10 rfl (lv_at hl 1 rfl) ?_
    refine lv_iadd hx hb dX8_logCard_11 ?_
    obtain ⟨hc, hf⟩ := cb_ck_inv hf
    refine cb_iald C hs rfl (vp_in_iff.mpr hc) dX8_logCard_12 ?_
    refine lv_bipush (v := 64) hx hb dX8_logCard_13 (by decide) ?_
    refine lv_idiv hx hb dX8_logCard_15 (by decide) ?_
    refine lv_bipush (v := 16) hx hb dX8_logCard_16 (by decide) ?_
    refine lv_irem hx hb dX8_logCard_18 (by decide) ?_
    refine lv_goto (tgt := 36) hx hb dX8_logCard_19 (by decide) ?_
    exact w_X8_logCard_36 C  hf hs (lv_sub hl [0, 1, 2] rfl)
/-! ===== CardBecomeModel.logWon ===== -/
def f_X8_logWon (x1 : Int32) (σ : cb_St)  : Option (Int32) := cb_ck (0 ≤ Int32.toInt (27 + x1) ∧ Int32.toInt (27 + x1) < 51) (some ((σ.1 3 (Int32.toNatClampNeg (27 + x1))) - (σ.1 3 (Int32.toNatClampNeg (27 + x1))) / 4 * 4))
set_option maxHeartbeats 4000000 in
set_option maxRecDepth 100000 in
theorem c_X8_logWon {x1 : Int32} {σ : cb_St}   {o : Int32} (hf : f_X8_logWon x1 σ = some o) : cb_M l yX8_logWon cX8_logWon 2 (some .int) 1 shM A T D σ [.ref (A 0), .int x1] (some (.int o)) σ := by
  refine cb_met (by decide +kernel) (Nat.le_of_ble_eq_true rfl) ?_
  intro p e s m below meth c C hs ls hl
  have hl : lv_has ls 2 [(0, .ref (A 0)), (1, .int x1)] := hl
  obtain ⟨hx, hb, hml, hr, hown, hts, hK, hlk, hN⟩ := id C
  unfold f_X8_logWon at hf
  refine lv_aload_n hx hb dX8_logWon_0 rfl (lv_at hl 0 rfl) ?_
  refine gf_X8_16 C hs rfl dX8_logWon_1 ?_
  refine lv_bipush (v := 27) hx hb dX8_logWon_4 (by decide) ?_
  refine lv_iload_n hx hb dX8_logWon_6 rfl (lv_at hl 1 rfl) ?_
  refine lv_iadd hx hb dX8_logWon_7 ?_
  obtain ⟨hc, hf⟩ := cb_ck_inv hf
  refine cb_iald C hs rfl (vp_in_iff.mpr hc) dX8_logWon_8 ?_
  refine lv_iconst (v := 4) hx hb dX8_logWon_9 (by decide) ?_
  refine lv_irem hx hb dX8_logWon_10 (by decide) ?_
  have hf := Option.some.inj hf
  subst hf
  exact cb_reti C hs dX8_logWon_11
/-! ===== CardBecomeModel.isHeld ===== -/
def f_X8_isHeld_79 (x1 : Int32) (σ : cb_St) (x2 : Int32) : Option (Int32) := cb_ck (x2 = 0 ∨ x2 = 1) (some x2)
set_option maxHeartbeats 4000000 in
set_option maxRecDepth 100000 in
theorem w_X8_isHeld_79 (C : cb_C p s m args meth c cX8_isHeld 6 (some .boolean) RX8 D T) {x1 : Int32} {σ : cb_St} {o : Int32}  {x2 : Int32} (hf : f_X8_isHeld_79 x1 σ x2 = some o) {H : Heap} {locs : List Loc} {ls : Array Slot} (hs : cb_H shM A T D σ s.heap H locs) (hl : lv_has ls 6 [(0, .ref (A 0)), (1, .int x1), (2, .int x2)]) : cb_W p l e 2 s m args below meth c shM A T D (some (.int o)) σ H locs (F0 m 79 ls []) := by
  obtain ⟨hx, hb, hml, hr, hown, hts, hK, hlk, hN⟩ := id C
  unfold f_X8_isHeld_79 at hf
  refine lv_iload_n hx hb dX8_isHeld_79 rfl (lv_at hl 2 rfl) ?_
  obtain ⟨hc, hf⟩ := cb_ck_inv hf
  have hf := Option.some.inj hf
  subst hf
  exact cb_retz C hs hc dX8_isHeld_80
def f_X8_isHeld_72 (K4 : Int32 → Int32 → Option (Int32)) (x1 : Int32) (σ : cb_St) (x3 : Int32) (s0 : Int32) : Option (Int32) := cb_let (x3 + 1) (fun x3_0 => K4 s0 x3_0)
set_option maxHeartbeats 4000000 in
set_option maxRecDepth 100000 in
theorem w_X8_isHeld_72 (C : cb_C p s m args meth c cX8_isHeld 6 (some .boolean) RX8 D T) {K4 : Int32 → Int32 → Option (Int32)} {x1 : Int32} {σ : cb_St} {o : Int32} (hK4 : ∀ (x2 : Int32) (x3 : Int32), K4 x2 x3 = some o → ∀ (H : Heap) (locs : List Loc) (ls : Array Slot), cb_H shM A T D σ s.heap H locs → lv_has ls 6 [(0, .ref (A 0)), (1, .int x1), (2, .int x2), (3, .int x3)] → cb_W p l e 2 s m args below meth c shM A T D (some (.int o)) σ H locs (F0 m 4 ls [])) {x3 : Int32} {s0 : Int32} (hf : f_X8_isHeld_72 K4 x1 σ x3 s0 = some o) {H : Heap} {locs : List Loc} {ls : Array Slot} (hs : cb_H shM A T D σ s.heap H locs) (hl : lv_has ls 6 [(0, .ref (A 0)), (1, .int x1), (3, .int x3)]) : cb_W p l e 2 s m args below meth c shM A T D (some (.int o)) σ H locs (F0 m 72 ls [.int s0]) := by
  obtain ⟨hx, hb, hml, hr, hown, hts, hK, hlk, hN⟩ := id C
  unfold f_X8_isHeld_72 at hf
  refine lv_istore_n (lv' := [(2, .int s0), (0, .ref (A 0)), (1, .int x1), (3, .int x3)]) hx hb dX8_isHeld_72 rfl hl (by decide) rfl (fun ls hl => ?_)
  obtain ⟨x3_0, e9, hf⟩ := cb_let_inv hf
  refine lv_iinc (v := x3_0) (lv' := [(3, .int x3_0), (2, .int s0), (0, .ref (A 0)), (1, .int x1)]) hx hb dX8_isHeld_73 hl (k := 3) rfl (by rw [e9]; rfl) (by decide) rfl (fun ls hl => ?_)
  clear e9
  refine lv_goto (tgt := 4) hx hb dX8_isHeld_76 (by decide) ?_
  exact hK4 _ _ hf _ _ _ hs (lv_sub hl [2, 3, 1, 0] rfl)
def f_X8_isHeld_67 (K4 : Int32 → Int32 → Option (Int32)) (x1 : Int32) (σ : cb_St) (x3 : Int32) : Option (Int32) := f_X8_isHeld_72 K4 x1 σ x3 1
set_option maxHeartbeats 4000000 in
set_option maxRecDepth 100000 in
theorem w_X8_isHeld_67 (C : cb_C p s m args meth c cX8_isHeld 6 (some .boolean) RX8 D T) {K4 : Int32 → Int32 → Option (Int32)} {x1 : Int32} {σ : cb_St} {o : Int32} (hK4 : ∀ (x2 : Int32) (x3 : Int32), K4 x2 x3 = some o → ∀ (H : Heap) (locs : List Loc) (ls : Array Slot), cb_H shM A T D σ s.heap H locs → lv_has ls 6 [(0, .ref (A 0)), (1, .int x1), (2, .int x2), (3, .int x3)] → cb_W p l e 2 s m args below meth c shM A T D (some (.int o)) σ H locs (F0 m 4 ls [])) {x3 : Int32} (hf : f_X8_isHeld_67 K4 x1 σ x3 = some o) {H : Heap} {locs : List Loc} {ls : Array Slot} (hs : cb_H shM A T D σ s.heap H locs) (hl : lv_has ls 6 [(0, .ref (A 0)), (1, .int x1), (3, .int x3)]) : cb_W p l e 2 s m args below meth c shM A T D (some (.int o)) σ H locs (F0 m 67 ls []) := by
  obtain ⟨hx, hb, hml, hr, hown, hts, hK, hlk, hN⟩ := id C
  unfold f_X8_isHeld_67 at hf
  refine lv_iconst (v := 1) hx hb dX8_isHeld_67 (by decide) ?_
  refine lv_goto (tgt := 72) hx hb dX8_isHeld_68 (by decide) ?_
  exact w_X8_isHeld_72 C hK4 hf hs (lv_sub hl [0, 1, 2] rfl)
def f_X8_isHeld_4 (x1 : Int32) (σ : cb_St) : Nat → Int32 → Int32 → Option (Int32)
  | 0, _, _ => none
  | fu + 1, x2, x3 => cb_ck (0 ≤ Int32.toInt 26 ∧ Int32.toInt 26 < 51) (if (σ.1 3 (Int32.toNatClampNeg 26)) ≤ x3 then (f_X8_isHeld_79 x1 σ x2) else (if x2 = 0 then (f_X8_isHeld_79 x1 σ x2) else (cb_bp (f_X8_logCard x3 1 σ) (fun r_1 => cb_bp (f_X8_logCard x3 0 σ) (fun r_2 => if r_1 < 0 then (f_X8_isHeld_67 (f_X8_isHeld_4 x1 σ fu) x1 σ x3) else (if r_2 < 0 then (f_X8_isHeld_67 (f_X8_isHeld_4 x1 σ fu) x1 σ x3) else (cb_bp (f_X8_beatsBy r_1 r_2 (x1 / 2) (x1 - x1 / 2 * 2) σ) (fun r_3 => cb_bp (f_X8_logWon x3 σ) (fun r_4 => if r_3 = r_4 then (f_X8_isHeld_67 (f_X8_isHeld_4 x1 σ fu) x1 σ x3) else (f_X8_isHeld_72 (f_X8_isHeld_4 x1 σ fu) x1 σ x3 0))))))))))
set_option maxHeartbeats 4000000 in
set_option maxRecDepth 100000 in
theorem w_X8_isHeld_4 (C : cb_C p s m args meth c cX8_isHeld 6 (some .boolean) RX8 D T) {x1 : Int32} {σ : cb_St} {o : Int32}  : ∀ (fu : Nat) (x2 : Int32) (x3 : Int32), f_X8_isHeld_4 x1 σ fu x2 x3 = some o → ∀ (H : Heap) (locs : List Loc) (ls : Array Slot), cb_H shM A T D σ s.heap H locs → lv_has ls 6 [(0, .ref (A 0)), (1, .int x1), (2, .int x2), (3, .int x3)] → cb_W p l e 2 s m args below meth c shM A T D (some (.int o)) σ H locs (F0 m 4 ls []) := by
  obtain ⟨hx, hb, hml, hr, hown, hts, hK, hlk, hN⟩ := id C
  intro fu
  induction fu with
  | zero =>
    intro x2 x3 hf
    rw [f_X8_isHeld_4] at hf
    cases hf
  | succ fu ih =>
    intro x2 x3 hf H locs ls hs hl
    rw [f_X8_isHeld_4] at hf
    refine lv_iload_n hx hb dX8_isHeld_4 rfl (lv_at hl 3 rfl) ?_
    refine lv_aload_n hx hb dX8_isHeld_5 rfl (lv_at hl 0 rfl) ?_
    refine gf_X8_16 C hs rfl dX8_isHeld_6 ?_
    refine lv_bipush (v := 26) hx hb dX8_isHeld_9 (by decide) ?_
    obtain ⟨hc, hf⟩ := cb_ck_inv hf
    refine cb_iald C hs rfl (vp_in_iff.mpr hc) dX8_isHeld_11 ?_
    refine lv_icmp_ge (tgt := 79) hx hb dX8_isHeld_12 (by decide) (fun cn => ?_) (fun cn => ?_)
    · replace hf := cb_ifp cn hf
      exact w_X8_isHeld_79 C  hf hs (lv_sub hl [0, 1, 2] rfl)
    · replace hf := cb_ifn cn hf
      refine lv_iload_n hx hb dX8_isHeld_15 rfl (lv_at hl 2 rfl) ?_
      refine lv_if_eq (tgt := 79) hx hb dX8_isHeld_16 (by decide) (fun cn => ?_) (fun cn => ?_)
      · replace hf := cb_ifp cn hf
        exact w_X8_isHeld_79 C  hf hs (lv_sub hl [0, 1, 2] rfl)
      · replace hf := cb_ifn cn hf
        refine lv_aload_n hx hb dX8_isHeld_19 rfl (lv_at hl 0 rfl) ?_
        refine lv_iload_n hx hb dX8_isHeld_20 rfl (lv_at hl 3 rfl) ?_
        refine lv_iconst (v := 1) hx hb dX8_isHeld_21 (by decide) ?_
        obtain ⟨r_1, hc, hf⟩ := cb_bp_inv hf
        refine cb_callVi C (c_X8_logCard  hc) mw_X8_logCard ml_X8_187 rfl ⟨Nat.le_of_ble_eq_true rfl, Nat.le_of_ble_eq_true rfl⟩ rfl (Nat.le_of_ble_eq_true rfl) rfl hs hl rfl (Nat.le_of_ble_eq_true rfl) dX8_isHeld_22 (fun H locs hs => ?_)
        clear hc
        refine lv_istore (lv' := [(4, .int r_1), (0, .ref (A 0)), (1, .int x1), (2, .int x2), (3, .int x3)]) hx hb dX8_isHeld_25 hl (by decide) rfl (fun ls hl => ?_)
        refine lv_aload_n hx hb dX8_isHeld_27 rfl (lv_at hl 1 rfl) ?_
        refine lv_iload_n hx hb dX8_isHeld_28 rfl (lv_at hl 4 rfl) ?_
        refine lv_iconst (v := 0) hx hb dX8_isHeld_29 (by decide) ?_
        obtain ⟨r_2, hc, hf⟩ := cb_bp_inv hf
        refine cb_callVi C (c_X8_logCard  hc) mw_X8_logCard ml_X8_187 rfl ⟨Nat.le_of_ble_eq_true rfl, Nat.le_of_ble_eq_true rfl⟩ rfl (Nat.le_of_ble_eq_true rfl) rfl hs hl rfl (Nat.le_of_ble_eq_true rfl) dX8_isHeld_30 (fun H locs hs => ?_)
        clear hc
        refine lv_istore (lv' := [(5, .int r_2), (4, .int r_1), (0, .ref (A 0)), (1, .int x1), (2, .int x2), (3, .int x3)]) hx hb dX8_isHeld_33 hl (by decide) rfl (fun ls hl => ?_)
        refine lv_iload hx hb dX8_isHeld_35 (lv_at hl 1 rfl) ?_
        refine lv_if_lt (tgt := 67) hx hb dX8_isHeld_37 (by decide) (fun cn => ?_) (fun cn => ?_)
        · replace hf := cb_ifp cn hf
          exact w_X8_isHeld_67 C ih hf hs (lv_sub hl [2, 3, 5] rfl)
        · replace hf := cb_ifn cn hf
          refine lv_iload hx hb dX8_isHeld_40 (lv_at hl 0 rfl) ?_
          refine lv_if_lt (tgt := 67) hx hb dX8_isHeld_42 (by decide) (fun cn => ?_) (fun cn => ?_)
          · replace hf := cb_ifp cn hf
            exact w_X8_isHeld_67 C ih hf hs (lv_sub hl [2, 3, 5] rfl)
          · replace hf := cb_ifn cn hf
            refine lv_aload_n hx hb dX8_isHeld_45 rfl (lv_at hl 2 rfl) ?_
            refine lv_iload hx hb dX8_isHeld_46 (lv_at hl 1 rfl) ?_
            refine lv_iload hx hb dX8_isHeld_48 (lv_at hl 0 rfl) ?_
            refine lv_iload_n hx hb dX8_isHeld_50 rfl (lv_at hl 3 rfl) ?_
            refine lv_iconst (v := 2) hx hb dX8_isHeld_51 (by decide) ?_
            refine lv_idiv hx hb dX8_isHeld_52 (by decide) ?_
            refine lv_iload_n hx hb dX8_isHeld_53 rfl (lv_at hl 3 rfl) ?_
            refine lv_iconst (v := 2) hx hb dX8_isHeld_54 (by decide) ?_
            refine lv_irem hx hb dX8_isHeld_55 (by decide) ?_
            obtain ⟨r_3, hc, hf⟩ := cb_bp_inv hf
            refine cb_callVi C (c_X8_beatsBy  hc) mw_X8_beatsBy ml_X8_170 rfl ⟨Nat.le_of_ble_eq_true rfl, Nat.le_of_ble_eq_true rfl⟩ rfl (Nat.le_of_ble_eq_true rfl) rfl hs hl rfl (Nat.le_of_ble_eq_true rfl) dX8_isHeld_56 (fun H locs hs => ?_)
            clear hc
            refine lv_aload_n hx hb dX8_isHeld_59 rfl (lv_at hl 2 rfl) ?_
            refine lv_iload_n hx hb dX8_isHeld_60 rfl (lv_at hl 5 rfl) ?_
            obtain ⟨r_4, hc, hf⟩ := cb_bp_inv hf
            refine cb_callVi C (c_X8_logWon  hc) mw_X8_logWon ml_X8_191 rfl ⟨Nat.le_of_ble_eq_true rfl, Nat.le_of_ble_eq_true rfl⟩ rfl (Nat.le_of_ble_eq_true rfl) rfl hs hl rfl (Nat.le_of_ble_eq_true rfl) dX8_isHeld_61 (fun H locs hs => ?_)
            clear hc
            refine lv_icmp_ne (tgt := 71) hx hb dX8_isHeld_64 (by decide) (fun cn => ?_) (fun cn => ?_)
            · replace hf := cb_ifn cn hf
              refine lv_iconst (v := 0) hx hb dX8_isHeld_71 (by decide) ?_
              exact w_X8_isHeld_72 C ih hf hs (lv_sub hl [2, 3, 5] rfl)
            · replace hf := cb_ifp cn hf
              exact w_X8_isHeld_67 C ih hf hs (lv_sub hl [2, 3, 5] rfl)
def f_X8_isHeld (x1 : Int32) (σ : cb_St)  : Option (Int32) := f_X8_isHeld_4 x1 σ cb_fu 1 0
set_option maxHeartbeats 4000000 in
set_option maxRecDepth 100000 in
theorem c_X8_isHeld {x1 : Int32} {σ : cb_St}   {o : Int32} (hf : f_X8_isHeld x1 σ = some o) : cb_M l yX8_isHeld cX8_isHeld 6 (some .boolean) 2 shM A T D σ [.ref (A 0), .int x1] (some (.int o)) σ := by
  refine cb_met (by decide +kernel) (Nat.le_of_ble_eq_true rfl) ?_
  intro p e s m below meth c C hs ls hl
  have hl : lv_has ls 6 [(0, .ref (A 0)), (1, .int x1)] := hl
  obtain ⟨hx, hb, hml, hr, hown, hts, hK, hlk, hN⟩ := id C
  unfold f_X8_isHeld at hf
  refine lv_iconst (v := 1) hx hb dX8_isHeld_0 (by decide) ?_
  refine lv_istore_n (lv' := [(2, .int 1), (0, .ref (A 0)), (1, .int x1)]) hx hb dX8_isHeld_1 rfl hl (by decide) rfl (fun ls hl => ?_)
  refine lv_iconst (v := 0) hx hb dX8_isHeld_2 (by decide) ?_
  refine lv_istore_n (lv' := [(3, .int 0), (2, .int 1), (0, .ref (A 0)), (1, .int x1)]) hx hb dX8_isHeld_3 rfl hl (by decide) rfl (fun ls hl => ?_)
  exact w_X8_isHeld_4 C  cb_fu _ _ hf _ _ _ hs (lv_sub hl [2, 3, 1, 0] rfl)
/-! ===== CardBecomeModel.heldRules ===== -/
def f_X8_heldRules_26 (K4 : Int32 → Int32 → Option (Int32)) (σ : cb_St) (x2 : Int32) (s0 : Int32) (s1 : Int32) : Option (Int32) := cb_let (s1 ||| s0) (fun x1_0 => cb_let (x2 + 1) (fun x2_1 => K4 x1_0 x2_1))
set_option maxHeartbeats 4000000 in
set_option maxRecDepth 100000 in
theorem w_X8_heldRules_26 (C : cb_C p s m args meth c cX8_heldRules 3 (some .int) RX8 D T) {K4 : Int32 → Int32 → Option (Int32)} {σ : cb_St} {o : Int32} (hK4 : ∀ (x1 : Int32) (x2 : Int32), K4 x1 x2 = some o → ∀ (H : Heap) (locs : List Loc) (ls : Array Slot), cb_H shM A T D σ s.heap H locs → lv_has ls 3 [(0, .ref (A 0)), (1, .int x1), (2, .int x2)] → cb_W p l e 3 s m args below meth c shM A T D (some (.int o)) σ H locs (F0 m 4 ls [])) {x2 : Int32} {s0 : Int32} {s1 : Int32} (hf : f_X8_heldRules_26 K4 σ x2 s0 s1 = some o) {H : Heap} {locs : List Loc} {ls : Array Slot} (hs : cb_H shM A T D σ s.heap H locs) (hl : lv_has ls 3 [(0, .ref (A 0)), (2, .int x2)]) : cb_W p l e 3 s m args below meth c shM A T D (some (.int o)) σ H locs (F0 m 26 ls [.int s0, .int s1]) := by
  obtain ⟨hx, hb, hml, hr, hown, hts, hK, hlk, hN⟩ := id C
  unfold f_X8_heldRules_26 at hf
  refine lv_ior hx hb dX8_heldRules_26 ?_
  obtain ⟨x1_0, e9, hf⟩ := cb_let_inv hf
  refine cb_topi e9 ?_
  clear e9
  refine lv_istore_n (lv' := [(1, .int x1_0), (0, .ref (A 0)), (2, .int x2)]) hx hb dX8_heldRules_27 rfl hl (by decide) rfl (fun ls hl => ?_)
  obtain ⟨x2_1, e9, hf⟩ := cb_let_inv hf
  refine lv_iinc (v := x2_1) (lv' := [(2, .int x2_1), (1, .int x1_0), (0, .ref (A 0))]) hx hb dX8_heldRules_28 hl (k := 2) rfl (by rw [e9]; rfl) (by decide) rfl (fun ls hl => ?_)
  clear e9
  refine lv_goto (tgt := 4) hx hb dX8_heldRules_31 (by decide) ?_
  exact hK4 _ _ hf _ _ _ hs (lv_sub hl [2, 1, 0] rfl)
def f_X8_heldRules_4 (σ : cb_St) : Nat → Int32 → Int32 → Option (Int32)
  | 0, _, _ => none
  | fu + 1, x1, x2 => if 10 ≤ x2 then (some x1) else (cb_bp (f_X8_isHeld x2 σ) (fun r_1 => if r_1 = 0 then (f_X8_heldRules_26 (f_X8_heldRules_4 σ fu) σ x2 0 x1) else (f_X8_heldRules_26 (f_X8_heldRules_4 σ fu) σ x2 (1 <<< (x2 &&& 31)) x1)))
set_option maxHeartbeats 4000000 in
set_option maxRecDepth 100000 in
theorem w_X8_heldRules_4 (C : cb_C p s m args meth c cX8_heldRules 3 (some .int) RX8 D T) {σ : cb_St} {o : Int32}  : ∀ (fu : Nat) (x1 : Int32) (x2 : Int32), f_X8_heldRules_4 σ fu x1 x2 = some o → ∀ (H : Heap) (locs : List Loc) (ls : Array Slot), cb_H shM A T D σ s.heap H locs → lv_has ls 3 [(0, .ref (A 0)), (1, .int x1), (2, .int x2)] → cb_W p l e 3 s m args below meth c shM A T D (some (.int o)) σ H locs (F0 m 4 ls []) := by
  obtain ⟨hx, hb, hml, hr, hown, hts, hK, hlk, hN⟩ := id C
  intro fu
  induction fu with
  | zero =>
    intro x1 x2 hf
    rw [f_X8_heldRules_4] at hf
    cases hf
  | succ fu ih =>
    intro x1 x2 hf H locs ls hs hl
    rw [f_X8_heldRules_4] at hf
    refine lv_iload_n hx hb dX8_heldRules_4 rfl (lv_at hl 2 rfl) ?_
    refine lv_bipush (v := 10) hx hb dX8_heldRules_5 (by decide) ?_
    refine lv_icmp_ge (tgt := 34) hx hb dX8_heldRules_7 (by decide) (fun cn => ?_) (fun cn => ?_)
    · replace hf := cb_ifp cn hf
      refine lv_iload_n hx hb dX8_heldRules_34 rfl (lv_at hl 1 rfl) ?_
      have hf := Option.some.inj hf
      subst hf
      exact cb_reti C hs dX8_heldRules_35
    · replace hf := cb_ifn cn hf
      refine lv_iload_n hx hb dX8_heldRules_10 rfl (lv_at hl 1 rfl) ?_
      refine lv_aload_n hx hb dX8_heldRules_11 rfl (lv_at hl 0 rfl) ?_
      refine lv_iload_n hx hb dX8_heldRules_12 rfl (lv_at hl 2 rfl) ?_
      obtain ⟨r_1, hc, hf⟩ := cb_bp_inv hf
      refine cb_callVi C (c_X8_isHeld  hc) mw_X8_isHeld ml_X8_194 rfl ⟨Nat.le_of_ble_eq_true rfl, Nat.le_of_ble_eq_true rfl⟩ rfl (Nat.le_of_ble_eq_true rfl) rfl hs hl rfl (Nat.le_of_ble_eq_true rfl) dX8_heldRules_13 (fun H locs hs => ?_)
      clear hc
      refine lv_if_eq (tgt := 25) hx hb dX8_heldRules_16 (by decide) (fun cn => ?_) (fun cn => ?_)
      · replace hf := cb_ifp cn hf
        refine lv_iconst (v := 0) hx hb dX8_heldRules_25 (by decide) ?_
        exact w_X8_heldRules_26 C ih hf hs (lv_sub hl [0, 2] rfl)
      · replace hf := cb_ifn cn hf
        refine lv_iconst (v := 1) hx hb dX8_heldRules_19 (by decide) ?_
        refine lv_iload_n hx hb dX8_heldRules_20 rfl (lv_at hl 2 rfl) ?_
        refine lv_ishl hx hb dX8_heldRules_21 ?_
        refine lv_goto (tgt := 26) hx hb dX8_heldRules_22 (by decide) ?_
        exact w_X8_heldRules_26 C ih hf hs (lv_sub hl [0, 2] rfl)
def f_X8_heldRules (σ : cb_St)  : Option (Int32) := f_X8_heldRules_4 σ cb_fu 0 0
set_option maxHeartbeats 4000000 in
set_option maxRecDepth 100000 in
theorem c_X8_heldRules {σ : cb_St}   {o : Int32} (hf : f_X8_heldRules σ = some o) : cb_M l yX8_heldRules cX8_heldRules 3 (some .int) 3 shM A T D σ [.ref (A 0)] (some (.int o)) σ := by
  refine cb_met (by decide +kernel) (Nat.le_of_ble_eq_true rfl) ?_
  intro p e s m below meth c C hs ls hl
  have hl : lv_has ls 3 [(0, .ref (A 0))] := hl
  obtain ⟨hx, hb, hml, hr, hown, hts, hK, hlk, hN⟩ := id C
  unfold f_X8_heldRules at hf
  refine lv_iconst (v := 0) hx hb dX8_heldRules_0 (by decide) ?_
  refine lv_istore_n (lv' := [(1, .int 0), (0, .ref (A 0))]) hx hb dX8_heldRules_1 rfl hl (by decide) rfl (fun ls hl => ?_)
  refine lv_iconst (v := 0) hx hb dX8_heldRules_2 (by decide) ?_
  refine lv_istore_n (lv' := [(2, .int 0), (1, .int 0), (0, .ref (A 0))]) hx hb dX8_heldRules_3 rfl hl (by decide) rfl (fun ls hl => ?_)
  exact w_X8_heldRules_4 C  cb_fu _ _ hf _ _ _ hs (lv_sub hl [2, 1, 0] rfl)
/-! ===== CardBecomeModel.here ===== -/
def f_X8_here_38  (σ : cb_St) : Option (Int32 × cb_St) := if (σ.1 0 11) ≤ (σ.1 0 13) then (some ((-1), σ)) else (cb_ck (0 ≤ Int32.toInt (σ.1 0 13) ∧ Int32.toInt (σ.1 0 13) < 240) (some (σ.1 4 (Int32.toNatClampNeg (σ.1 0 13)), σ)))
set_option maxHeartbeats 4000000 in
set_option maxRecDepth 100000 in
theorem w_X8_here_38 (C : cb_C p s m args meth c cX8_here 1 (some .int) RX8 D T)  {o : Int32 × cb_St}  {σ : cb_St} (hf : f_X8_here_38 σ = some o) {H : Heap} {locs : List Loc} {ls : Array Slot} (hs : cb_H shM A T D σ s.heap H locs) (hl : lv_has ls 1 [(0, .ref (A 0))]) : cb_W p l e 1 s m args below meth c shM A T D (some (.int o.1)) o.2 H locs (F0 m 38 ls []) := by
  obtain ⟨hx, hb, hml, hr, hown, hts, hK, hlk, hN⟩ := id C
  unfold f_X8_here_38 at hf
  refine lv_aload_n hx hb dX8_here_38 rfl (lv_at hl 0 rfl) ?_
  refine gf_X8_96 C hs rfl dX8_here_39 ?_
  refine lv_aload_n hx hb dX8_here_42 rfl (lv_at hl 0 rfl) ?_
  refine gf_X8_92 C hs rfl dX8_here_43 ?_
  refine lv_icmp_ge (tgt := 61) hx hb dX8_here_46 (by decide) (fun cn => ?_) (fun cn => ?_)
  · replace hf := cb_ifp cn hf
    refine lv_iconst (v := (-1)) hx hb dX8_here_61 (by decide) ?_
    have hf := Option.some.inj hf
    subst hf
    exact cb_reti C hs dX8_here_62
  · replace hf := cb_ifn cn hf
    refine lv_aload_n hx hb dX8_here_49 rfl (lv_at hl 0 rfl) ?_
    refine gf_X8_19 C hs rfl dX8_here_50 ?_
    refine lv_aload_n hx hb dX8_here_53 rfl (lv_at hl 0 rfl) ?_
    refine gf_X8_96 C hs rfl dX8_here_54 ?_
    obtain ⟨hc, hf⟩ := cb_ck_inv hf
    refine cb_iald C hs rfl (vp_in_iff.mpr hc) dX8_here_57 ?_
    refine lv_goto (tgt := 62) hx hb dX8_here_58 (by decide) ?_
    have hf := Option.some.inj hf
    subst hf
    exact cb_reti C hs dX8_here_62
def f_X8_here_0  : Nat → cb_St → Option (Int32 × cb_St)
  | 0, _ => none
  | fu + 1, σ => if (σ.1 0 11) ≤ (σ.1 0 13) then (f_X8_here_38 σ) else (cb_ck (0 ≤ Int32.toInt (σ.1 0 13) ∧ Int32.toInt (σ.1 0 13) < 240) (if (σ.1 4 (Int32.toNatClampNeg (σ.1 0 13))) = 32 then (cb_let (cb_sI σ 0 13 ((σ.1 0 13) + 1)) (fun σ_1 => f_X8_here_0 fu σ_1)) else (f_X8_here_38 σ)))
set_option maxHeartbeats 4000000 in
set_option maxRecDepth 100000 in
theorem w_X8_here_0 (C : cb_C p s m args meth c cX8_here 1 (some .int) RX8 D T)  {o : Int32 × cb_St}  : ∀ (fu : Nat) (σ : cb_St), f_X8_here_0 fu σ = some o → ∀ (H : Heap) (locs : List Loc) (ls : Array Slot), cb_H shM A T D σ s.heap H locs → lv_has ls 1 [(0, .ref (A 0))] → cb_W p l e 1 s m args below meth c shM A T D (some (.int o.1)) o.2 H locs (F0 m 0 ls []) := by
  obtain ⟨hx, hb, hml, hr, hown, hts, hK, hlk, hN⟩ := id C
  intro fu
  induction fu with
  | zero =>
    intro σ hf
    rw [f_X8_here_0] at hf
    cases hf
  | succ fu ih =>
    intro σ hf H locs ls hs hl
    rw [f_X8_here_0] at hf
    refine lv_aload_n hx hb dX8_here_0 rfl (lv_at hl 0 rfl) ?_
    refine gf_X8_96 C hs rfl dX8_here_1 ?_
    refine lv_aload_n hx hb dX8_here_4 rfl (lv_at hl 0 rfl) ?_
    refine gf_X8_92 C hs rfl dX8_here_5 ?_
    refine lv_icmp_ge (tgt := 38) hx hb dX8_here_8 (by decide) (fun cn => ?_) (fun cn => ?_)
    · replace hf := cb_ifp cn hf
      exact w_X8_here_38 C  hf hs (lv_sub hl [0] rfl)
    · replace hf := cb_ifn cn hf
      refine lv_aload_n hx hb dX8_here_11 rfl (lv_at hl 0 rfl) ?_
      refine gf_X8_19 C hs rfl dX8_here_12 ?_
      refine lv_aload_n hx hb dX8_here_15 rfl (lv_at hl 0 rfl) ?_
      refine gf_X8_96 C hs rfl dX8_here_16 ?_
      obtain ⟨hc, hf⟩ := cb_ck_inv hf
      refine cb_iald C hs rfl (vp_in_iff.mpr hc) dX8_here_19 ?_
      refine lv_bipush (v := 32) hx hb dX8_here_20 (by decide) ?_
      refine lv_icmp_ne (tgt := 38) hx hb dX8_here_22 (by decide) (fun cn => ?_) (fun cn => ?_)
      · replace hf := cb_ifn cn hf
        exact w_X8_here_38 C  hf hs (lv_sub hl [0] rfl)
      · replace hf := cb_ifp cn hf
        refine lv_aload_n hx hb dX8_here_25 rfl (lv_at hl 0 rfl) ?_
        refine lv_dup hx hb dX8_here_26 rfl ?_
        refine gf_X8_96 C hs rfl dX8_here_27 ?_
        refine lv_iconst (v := 1) hx hb dX8_here_30 (by decide) ?_
        refine lv_iadd hx hb dX8_here_31 ?_
        refine pf_X8_96 C hs rfl dX8_here_32 (fun H locs hs => ?_)
        obtain ⟨σ_1, e9, hf⟩ := cb_let_inv hf
        replace hs := cb_Hc e9 hs
        clear e9
        refine lv_goto (tgt := 0) hx hb dX8_here_35 (by decide) ?_
        exact ih _ hf _ _ _ hs (lv_sub hl [0] rfl)
def f_X8_here  (σ : cb_St) : Option (Int32 × cb_St) := if (σ.1 0 11) ≤ (σ.1 0 13) then (f_X8_here_38 σ) else (cb_ck (0 ≤ Int32.toInt (σ.1 0 13) ∧ Int32.toInt (σ.1 0 13) < 240) (if (σ.1 4 (Int32.toNatClampNeg (σ.1 0 13))) = 32 then (cb_let (cb_sI σ 0 13 ((σ.1 0 13) + 1)) (fun σ_1 => f_X8_here_0 cb_fu σ_1)) else (f_X8_here_38 σ)))
set_option maxHeartbeats 4000000 in
set_option maxRecDepth 100000 in
theorem c_X8_here   {σ : cb_St} {o : Int32 × cb_St} (hf : f_X8_here σ = some o) : cb_M l yX8_here cX8_here 1 (some .int) 1 shM A T D σ [.ref (A 0)] (some (.int o.1)) o.2 := by
  refine cb_met (by decide +kernel) (Nat.le_of_ble_eq_true rfl) ?_
  intro p e s m below meth c C hs ls hl
  have hl : lv_has ls 1 [(0, .ref (A 0))] := hl
  obtain ⟨hx, hb, hml, hr, hown, hts, hK, hlk, hN⟩ := id C
  unfold f_X8_here at hf
  refine lv_aload_n hx hb dX8_here_0 rfl (lv_at hl 0 rfl) ?_
  refine gf_X8_96 C hs rfl dX8_here_1 ?_
  refine lv_aload_n hx hb dX8_here_4 rfl (lv_at hl 0 rfl) ?_
  refine gf_X8_92 C hs rfl dX8_here_5 ?_
  refine lv_icmp_ge (tgt := 38) hx hb dX8_here_8 (by decide) (fun cn => ?_) (fun cn => ?_)
  · replace hf := cb_ifp cn hf
    exact w_X8_here_38 C  hf hs (lv_sub hl [0] rfl)
  · replace hf := cb_ifn cn hf
    refine lv_aload_n hx hb dX8_here_11 rfl (lv_at hl 0 rfl) ?_
    refine gf_X8_19 C hs rfl dX8_here_12 ?_
    refine lv_aload_n hx hb dX8_here_15 rfl (lv_at hl 0 rfl) ?_
    refine gf_X8_96 C hs rfl dX8_here_16 ?_
    obtain ⟨hc, hf⟩ := cb_ck_inv hf
    refine cb_iald C hs rfl (vp_in_iff.mpr hc) dX8_here_19 ?_
    refine lv_bipush (v := 32) hx hb dX8_here_20 (by decide) ?_
    refine lv_icmp_ne (tgt := 38) hx hb dX8_here_22 (by decide) (fun cn => ?_) (fun cn => ?_)
    · replace hf := cb_ifn cn hf
      exact w_X8_here_38 C  hf hs (lv_sub hl [0] rfl)
    · replace hf := cb_ifp cn hf
      refine lv_aload_n hx hb dX8_here_25 rfl (lv_at hl 0 rfl) ?_
      refine lv_dup hx hb dX8_here_26 rfl ?_
      refine gf_X8_96 C hs rfl dX8_here_27 ?_
      refine lv_iconst (v := 1) hx hb dX8_here_30 (by decide) ?_
      refine lv_iadd hx hb dX8_here_31 ?_
      refine pf_X8_96 C hs rfl dX8_here_32 (fun H locs hs => ?_)
      obtain ⟨σ_1, e9, hf⟩ := cb_let_inv hf
      replace hs := cb_Hc e9 hs
      clear e9
      refine lv_goto (tgt := 0) hx hb dX8_here_35 (by decide) ?_
      exact w_X8_here_0 C  cb_fu _ hf _ _ _ hs (lv_sub hl [0] rfl)
/-! ===== CardBecomeModel.takeNumber ===== -/
def f_X8_takeNumber_157 (x1 : Int32) (x2 : Int32) (σ : cb_St) : Option (Int32 × cb_St) := cb_bi (f_X8_fails 2 (σ.1 0 15) σ) (fun r_1 σ_2 => some (r_1, σ_2))
set_option maxHeartbeats 4000000 in
set_option maxRecDepth 100000 in
theorem w_X8_takeNumber_157 (C : cb_C p s m args meth c cX8_takeNumber 4 (some .int) RX8 D T) {x1 : Int32} {x2 : Int32} {o : Int32 × cb_St}  {σ : cb_St} (hf : f_X8_takeNumber_157 x1 x2 σ = some o) {H : Heap} {locs : List Loc} {ls : Array Slot} (hs : cb_H shM A T D σ s.heap H locs) (hl : lv_has ls 4 [(0, .ref (A 0)), (1, .int x1), (2, .int x2)]) : cb_W p l e 2 s m args below meth c shM A T D (some (.int o.1)) o.2 H locs (F0 m 157 ls []) := by
  obtain ⟨hx, hb, hml, hr, hown, hts, hK, hlk, hN⟩ := id C
  unfold f_X8_takeNumber_157 at hf
  refine lv_aload_n hx hb dX8_takeNumber_157 rfl (lv_at hl 0 rfl) ?_
  refine lv_iconst (v := 2) hx hb dX8_takeNumber_158 (by decide) ?_
  refine lv_aload_n hx hb dX8_takeNumber_159 rfl (lv_at hl 0 rfl) ?_
  refine gf_X8_111 C hs rfl dX8_takeNumber_160 ?_
  obtain ⟨r_1, σ_2, hc, hf⟩ := cb_bi_inv hf
  refine cb_callVi C (c_X8_fails  hc) mw_X8_fails ml_X8_107 rfl ⟨Nat.le_of_ble_eq_true rfl, Nat.le_of_ble_eq_true rfl⟩ rfl (Nat.le_of_ble_eq_true rfl) rfl hs hl rfl (Nat.le_of_ble_eq_true rfl) dX8_takeNumber_163 (fun H locs hs => ?_)
  clear hc
  refine lv_goto (tgt := 170) hx hb dX8_takeNumber_166 (by decide) ?_
  have hf := Option.some.inj hf
  subst hf
  exact cb_reti C hs dX8_takeNumber_170
def f_X8_takeNumber_129 (x1 : Int32) (x2 : Int32) (σ : cb_St) : Option (Int32 × cb_St) := if 3 < ((σ.1 0 13) - (σ.1 0 15)) then (f_X8_takeNumber_157 x1 x2 σ) else (cb_bp (f_X8_in (Int32.toInt64 (σ.1 0 14)) (Int32.toInt64 x1) (Int32.toInt64 x2) σ) (fun r_1 => if r_1 = 0 then (f_X8_takeNumber_157 x1 x2 σ) else (some (0, σ))))
set_option maxHeartbeats 4000000 in
set_option maxRecDepth 100000 in
theorem w_X8_takeNumber_129 (C : cb_C p s m args meth c cX8_takeNumber 4 (some .int) RX8 D T) {x1 : Int32} {x2 : Int32} {o : Int32 × cb_St}  {σ : cb_St} (hf : f_X8_takeNumber_129 x1 x2 σ = some o) {H : Heap} {locs : List Loc} {ls : Array Slot} (hs : cb_H shM A T D σ s.heap H locs) (hl : lv_has ls 4 [(0, .ref (A 0)), (1, .int x1), (2, .int x2)]) : cb_W p l e 2 s m args below meth c shM A T D (some (.int o.1)) o.2 H locs (F0 m 129 ls []) := by
  obtain ⟨hx, hb, hml, hr, hown, hts, hK, hlk, hN⟩ := id C
  unfold f_X8_takeNumber_129 at hf
  refine lv_aload_n hx hb dX8_takeNumber_129 rfl (lv_at hl 0 rfl) ?_
  refine gf_X8_96 C hs rfl dX8_takeNumber_130 ?_
  refine lv_aload_n hx hb dX8_takeNumber_133 rfl (lv_at hl 0 rfl) ?_
  refine gf_X8_111 C hs rfl dX8_takeNumber_134 ?_
  refine lv_isub hx hb dX8_takeNumber_137 ?_
  refine lv_iconst (v := 3) hx hb dX8_takeNumber_138 (by decide) ?_
  refine lv_icmp_gt (tgt := 157) hx hb dX8_takeNumber_139 (by decide) (fun cn => ?_) (fun cn => ?_)
  · replace hf := cb_ifp cn hf
    exact w_X8_takeNumber_157 C  hf hs (lv_sub hl [0, 1, 2] rfl)
  · replace hf := cb_ifn cn hf
    refine lv_aload_n hx hb dX8_takeNumber_142 rfl (lv_at hl 0 rfl) ?_
    refine gf_X8_114 C hs rfl dX8_takeNumber_143 ?_
    refine lv_i2l hx hb dX8_takeNumber_146 rfl ?_
    refine lv_iload_n hx hb dX8_takeNumber_147 rfl (lv_at hl 1 rfl) ?_
    refine lv_i2l hx hb dX8_takeNumber_148 rfl ?_
    refine lv_iload_n hx hb dX8_takeNumber_149 rfl (lv_at hl 2 rfl) ?_
    refine lv_i2l hx hb dX8_takeNumber_150 rfl ?_
    obtain ⟨r_1, hc, hf⟩ := cb_bp_inv hf
    refine cb_callSi C (c_X8_in  hc) mw_X8_in ml_X8_78 rfl ⟨Nat.le_of_ble_eq_true rfl, Nat.le_of_ble_eq_true rfl⟩ hs hl rfl (Nat.le_of_ble_eq_true rfl) dX8_takeNumber_151 (fun H locs hs => ?_)
    clear hc
    refine lv_if_ne (tgt := 169) hx hb dX8_takeNumber_154 (by decide) (fun cn => ?_) (fun cn => ?_)
    · replace hf := cb_ifn cn hf
      refine lv_iconst (v := 0) hx hb dX8_takeNumber_169 (by decide) ?_
      have hf := Option.some.inj hf
      subst hf
      exact cb_reti C hs dX8_takeNumber_170
    · replace hf := cb_ifp cn hf
      exact w_X8_takeNumber_157 C  hf hs (lv_sub hl [0, 1, 2] rfl)
def f_X8_takeNumber_113 (K42 : cb_St → Option (Int32 × cb_St)) (x1 : Int32) (x2 : Int32) (σ : cb_St) (s0 : Int32) : Option (Int32 × cb_St) := cb_let (cb_sI σ 0 14 s0) (fun σ_1 => cb_let (cb_sI σ_1 0 13 ((σ_1.1 0 13) + 1)) (fun σ_2 => K42 σ_2))
set_option maxHeartbeats 4000000 in
set_option maxRecDepth 100000 in
theorem w_X8_takeNumber_113 (C : cb_C p s m args meth c cX8_takeNumber 4 (some .int) RX8 D T) {K42 : cb_St → Option (Int32 × cb_St)} {x1 : Int32} {x2 : Int32} {o : Int32 × cb_St} (hK42 : ∀ (σ : cb_St), K42 σ = some o → ∀ (H : Heap) (locs : List Loc) (ls : Array Slot), cb_H shM A T D σ s.heap H locs → lv_has ls 4 [(0, .ref (A 0)), (1, .int x1), (2, .int x2)] → cb_W p l e 2 s m args below meth c shM A T D (some (.int o.1)) o.2 H locs (F0 m 42 ls [])) {σ : cb_St} {s0 : Int32} (hf : f_X8_takeNumber_113 K42 x1 x2 σ s0 = some o) {H : Heap} {locs : List Loc} {ls : Array Slot} (hs : cb_H shM A T D σ s.heap H locs) (hl : lv_has ls 4 [(0, .ref (A 0)), (1, .int x1), (2, .int x2)]) : cb_W p l e 2 s m args below meth c shM A T D (some (.int o.1)) o.2 H locs (F0 m 113 ls [.int s0, .ref (A 0)]) := by
  obtain ⟨hx, hb, hml, hr, hown, hts, hK, hlk, hN⟩ := id C
  unfold f_X8_takeNumber_113 at hf
  refine pf_X8_114 C hs rfl dX8_takeNumber_113 (fun H locs hs => ?_)
  obtain ⟨σ_1, e9, hf⟩ := cb_let_inv hf
  replace hs := cb_Hc e9 hs
  clear e9
  refine lv_aload_n hx hb dX8_takeNumber_116 rfl (lv_at hl 0 rfl) ?_
  refine lv_dup hx hb dX8_takeNumber_117 rfl ?_
  refine gf_X8_96 C hs rfl dX8_takeNumber_118 ?_
  refine lv_iconst (v := 1) hx hb dX8_takeNumber_121 (by decide) ?_
  refine lv_iadd hx hb dX8_takeNumber_122 ?_
  refine pf_X8_96 C hs rfl dX8_takeNumber_123 (fun H locs hs => ?_)
  obtain ⟨σ_2, e9, hf⟩ := cb_let_inv hf
  replace hs := cb_Hc e9 hs
  clear e9
  refine lv_goto (tgt := 42) hx hb dX8_takeNumber_126 (by decide) ?_
  exact hK42 _ hf _ _ _ hs (lv_sub hl [0, 1, 2] rfl)
def f_X8_takeNumber_42 (x1 : Int32) (x2 : Int32) : Nat → cb_St → Option (Int32 × cb_St)
  | 0, _ => none
  | fu + 1, σ => if (σ.1 0 11) ≤ (σ.1 0 13) then (f_X8_takeNumber_129 x1 x2 σ) else (cb_ck (0 ≤ Int32.toInt (σ.1 0 13) ∧ Int32.toInt (σ.1 0 13) < 240) (cb_bp (f_X8_in (Int32.toInt64 (σ.1 4 (Int32.toNatClampNeg (σ.1 0 13)))) 48 57 σ) (fun r_1 => if r_1 = 0 then (f_X8_takeNumber_129 x1 x2 σ) else (if (σ.1 0 14) ≤ 10000 then (cb_ck (0 ≤ Int32.toInt (σ.1 0 13) ∧ Int32.toInt (σ.1 0 13) < 240) (f_X8_takeNumber_113 (f_X8_takeNumber_42 x1 x2 fu) x1 x2 σ (((10 * (σ.1 0 14)) + (σ.1 4 (Int32.toNatClampNeg (σ.1 0 13)))) - 48))) else (f_X8_takeNumber_113 (f_X8_takeNumber_42 x1 x2 fu) x1 x2 σ (σ.1 0 14))))))
set_option maxHeartbeats 4000000 in
set_option maxRecDepth 100000 in
theorem w_X8_takeNumber_42 (C : cb_C p s m args meth c cX8_takeNumber 4 (some .int) RX8 D T) {x1 : Int32} {x2 : Int32} {o : Int32 × cb_St}  : ∀ (fu : Nat) (σ : cb_St), f_X8_takeNumber_42 x1 x2 fu σ = some o → ∀ (H : Heap) (locs : List Loc) (ls : Array Slot), cb_H shM A T D σ s.heap H locs → lv_has ls 4 [(0, .ref (A 0)), (1, .int x1), (2, .int x2)] → cb_W p l e 2 s m args below meth c shM A T D (some (.int o.1)) o.2 H locs (F0 m 42 ls []) := by
  obtain ⟨hx, hb, hml, hr, hown, hts, hK, hlk, hN⟩ := id C
  intro fu
  induction fu with
  | zero =>
    intro σ hf
    rw [f_X8_takeNumber_42] at hf
    cases hf
  | succ fu ih =>
    intro σ hf H locs ls hs hl
    rw [f_X8_takeNumber_42] at hf
    refine lv_aload_n hx hb dX8_takeNumber_42 rfl (lv_at hl 0 rfl) ?_
    refine gf_X8_96 C hs rfl dX8_takeNumber_43 ?_
    refine lv_aload_n hx hb dX8_takeNumber_46 rfl (lv_at hl 0 rfl) ?_
    refine gf_X8_92 C hs rfl dX8_takeNumber_47 ?_
    refine lv_icmp_ge (tgt := 129) hx hb dX8_takeNumber_50 (by decide) (fun cn => ?_) (fun cn => ?_)
    · replace hf := cb_ifp cn hf
      exact w_X8_takeNumber_129 C  hf hs (lv_sub hl [0, 1, 2] rfl)
    · replace hf := cb_ifn cn hf
      refine lv_aload_n hx hb dX8_takeNumber_53 rfl (lv_at hl 0 rfl) ?_
      refine gf_X8_19 C hs rfl dX8_takeNumber_54 ?_
      refine lv_aload_n hx hb dX8_takeNumber_57 rfl (lv_at hl 0 rfl) ?_
      refine gf_X8_96 C hs rfl dX8_takeNumber_58 ?_
      obtain ⟨hc, hf⟩ := cb_ck_inv hf
      refine cb_iald C hs rfl (vp_in_iff.mpr hc) dX8_takeNumber_61 ?_
      refine lv_i2l hx hb dX8_takeNumber_62 rfl ?_
      refine lv_ldc2 (v := 48) hx hb hown (hts _ kc_X8_103) dX8_takeNumber_63 ?_
      refine lv_ldc2 (v := 57) hx hb hown (hts _ kc_X8_105) dX8_takeNumber_66 ?_
      obtain ⟨r_1, hc, hf⟩ := cb_bp_inv hf
      refine cb_callSi C (c_X8_in  hc) mw_X8_in ml_X8_78 rfl ⟨Nat.le_of_ble_eq_true rfl, Nat.le_of_ble_eq_true rfl⟩ hs hl rfl (Nat.le_of_ble_eq_true rfl) dX8_takeNumber_69 (fun H locs hs => ?_)
      clear hc
      refine lv_if_eq (tgt := 129) hx hb dX8_takeNumber_72 (by decide) (fun cn => ?_) (fun cn => ?_)
      · replace hf := cb_ifp cn hf
        exact w_X8_takeNumber_129 C  hf hs (lv_sub hl [0, 1, 2] rfl)
      · replace hf := cb_ifn cn hf
        refine lv_aload_n hx hb dX8_takeNumber_75 rfl (lv_at hl 0 rfl) ?_
        refine lv_aload_n hx hb dX8_takeNumber_76 rfl (lv_at hl 0 rfl) ?_
        refine gf_X8_114 C hs rfl dX8_takeNumber_77 ?_
        refine lv_sipush (v := 10000) hx hb dX8_takeNumber_80 (by decide) ?_
        refine lv_icmp_le (tgt := 93) hx hb dX8_takeNumber_83 (by decide) (fun cn => ?_) (fun cn => ?_)
        · replace hf := cb_ifp cn hf
          refine lv_bipush (v := 10) hx hb dX8_takeNumber_93 (by decide) ?_
          refine lv_aload_n hx hb dX8_takeNumber_95 rfl (lv_at hl 0 rfl) ?_
          refine gf_X8_114 C hs rfl dX8_takeNumber_96 ?_
          refine lv_imul hx hb dX8_takeNumber_99 ?_
          refine lv_aload_n hx hb dX8_takeNumber_100 rfl (lv_at hl 0 rfl) ?_
          refine gf_X8_19 C hs rfl dX8_takeNumber_101 ?_
          refine lv_aload_n hx hb dX8_takeNumber_104 rfl (lv_at hl 0 rfl) ?_
          refine gf_X8_96 C hs rfl dX8_takeNumber_105 ?_
          obtain ⟨hc, hf⟩ := cb_ck_inv hf
          refine cb_iald C hs rfl (vp_in_iff.mpr hc) dX8_takeNumber_108 ?_
          refine lv_iadd hx hb dX8_takeNumber_109 ?_
          refine lv_bipush (v := 48) hx hb dX8_takeNumber_110 (by decide) ?_
          refine lv_isub hx hb dX8_takeNumber_112 ?_
          exact w_X8_takeNumber_113 C ih hf hs (lv_sub hl [0, 1, 2] rfl)
        · replace hf := cb_ifn cn hf
          refine lv_aload_n hx hb dX8_takeNumber_86 rfl (lv_at hl 0 rfl) ?_
          refine gf_X8_114 C hs rfl dX8_takeNumber_87 ?_
          refine lv_goto (tgt := 113) hx hb dX8_takeNumber_90 (by decide) ?_
          exact w_X8_takeNumber_113 C ih hf hs (lv_sub hl [0, 1, 2] rfl)
def f_X8_takeNumber (x1 : Int32) (x2 : Int32) (σ : cb_St) : Option (Int32 × cb_St) := cb_bi (f_X8_here σ) (fun r_1 σ_2 => cb_bp (f_X8_in (Int32.toInt64 r_1) 48 57 σ_2) (fun r_3 => if r_3 = 0 then (cb_bi (f_X8_fails 1 (σ_2.1 0 13) σ_2) (fun r_6 σ_7 => some (r_6, σ_7))) else (cb_let (cb_sI σ_2 0 15 (σ_2.1 0 13)) (fun σ_4 => cb_let (cb_sI σ_4 0 14 0) (fun σ_5 => f_X8_takeNumber_42 x1 x2 cb_fu σ_5)))))
set_option maxHeartbeats 4000000 in
set_option maxRecDepth 100000 in
theorem c_X8_takeNumber {x1 : Int32} {x2 : Int32}  {σ : cb_St} {o : Int32 × cb_St} (hf : f_X8_takeNumber x1 x2 σ = some o) : cb_M l yX8_takeNumber cX8_takeNumber 4 (some .int) 2 shM A T D σ [.ref (A 0), .int x1, .int x2] (some (.int o.1)) o.2 := by
  refine cb_met (by decide +kernel) (Nat.le_of_ble_eq_true rfl) ?_
  intro p e s m below meth c C hs ls hl
  have hl : lv_has ls 4 [(0, .ref (A 0)), (1, .int x1), (2, .int x2)] := hl
  obtain ⟨hx, hb, hml, hr, hown, hts, hK, hlk, hN⟩ := id C
  unfold f_X8_takeNumber at hf
  refine lv_aload_n hx hb dX8_takeNumber_0 rfl (lv_at hl 0 rfl) ?_
  obtain ⟨r_1, σ_2, hc, hf⟩ := cb_bi_inv hf
  refine cb_callVi C (c_X8_here  hc) mw_X8_here ml_X8_99 rfl ⟨Nat.le_of_ble_eq_true rfl, Nat.le_of_ble_eq_true rfl⟩ rfl (Nat.le_of_ble_eq_true rfl) rfl hs hl rfl (Nat.le_of_ble_eq_true rfl) dX8_takeNumber_1 (fun H locs hs => ?_)
  clear hc
  refine lv_istore_n (lv' := [(3, .int r_1), (0, .ref (A 0)), (1, .int x1), (2, .int x2)]) hx hb dX8_takeNumber_4 rfl hl (by decide) rfl (fun ls hl => ?_)
  refine lv_iload_n hx hb dX8_takeNumber_5 rfl (lv_at hl 0 rfl) ?_
  refine lv_i2l hx hb dX8_takeNumber_6 rfl ?_
  refine lv_ldc2 (v := 48) hx hb hown (hts _ kc_X8_103) dX8_takeNumber_7 ?_
  refine lv_ldc2 (v := 57) hx hb hown (hts _ kc_X8_105) dX8_takeNumber_10 ?_
  obtain ⟨r_3, hc, hf⟩ := cb_bp_inv hf
  refine cb_callSi C (c_X8_in  hc) mw_X8_in ml_X8_78 rfl ⟨Nat.le_of_ble_eq_true rfl, Nat.le_of_ble_eq_true rfl⟩ hs hl rfl (Nat.le_of_ble_eq_true rfl) dX8_takeNumber_13 (fun H locs hs => ?_)
  clear hc
  refine lv_if_ne (tgt := 29) hx hb dX8_takeNumber_16 (by decide) (fun cn => ?_) (fun cn => ?_)
  · replace hf := cb_ifn cn hf
    refine lv_aload_n hx hb dX8_takeNumber_29 rfl (lv_at hl 1 rfl) ?_
    refine lv_aload_n hx hb dX8_takeNumber_30 rfl (lv_at hl 1 rfl) ?_
    refine gf_X8_96 C hs rfl dX8_takeNumber_31 ?_
    refine pf_X8_111 C hs rfl dX8_takeNumber_34 (fun H locs hs => ?_)
    obtain ⟨σ_4, e9, hf⟩ := cb_let_inv hf
    replace hs := cb_Hc e9 hs
    clear e9
    refine lv_aload_n hx hb dX8_takeNumber_37 rfl (lv_at hl 1 rfl) ?_
    refine lv_iconst (v := 0) hx hb dX8_takeNumber_38 (by decide) ?_
    refine pf_X8_114 C hs rfl dX8_takeNumber_39 (fun H locs hs => ?_)
    obtain ⟨σ_5, e9, hf⟩ := cb_let_inv hf
    replace hs := cb_Hc e9 hs
    clear e9
    exact w_X8_takeNumber_42 C  cb_fu _ hf _ _ _ hs (lv_sub hl [1, 2, 3] rfl)
  · replace hf := cb_ifp cn hf
    refine lv_aload_n hx hb dX8_takeNumber_19 rfl (lv_at hl 1 rfl) ?_
    refine lv_iconst (v := 1) hx hb dX8_takeNumber_20 (by decide) ?_
    refine lv_aload_n hx hb dX8_takeNumber_21 rfl (lv_at hl 1 rfl) ?_
    refine gf_X8_96 C hs rfl dX8_takeNumber_22 ?_
    obtain ⟨r_6, σ_7, hc, hf⟩ := cb_bi_inv hf
    refine cb_callVi C (c_X8_fails  hc) mw_X8_fails ml_X8_107 rfl ⟨Nat.le_of_ble_eq_true rfl, Nat.le_of_ble_eq_true rfl⟩ rfl (Nat.le_of_ble_eq_true rfl) rfl hs hl rfl (Nat.le_of_ble_eq_true rfl) dX8_takeNumber_25 (fun H locs hs => ?_)
    clear hc
    have hf := Option.some.inj hf
    subst hf
    exact cb_reti C hs dX8_takeNumber_28
/-! ===== CardBecomeModel.into ===== -/
def f_X8_into (k2 : Nat) (N2 : Nat) (x2 : Int32) (x3 : Int32) (x4 : Int32) (σ : cb_St) : Option (Int32 × cb_St) := cb_bi (f_X8_takeNumber x3 x4 σ) (fun r_1 σ_2 => cb_ck (0 ≤ Int32.toInt x2 ∧ Int32.toInt x2 < N2) (cb_let (cb_sI σ_2 k2 (Int32.toNatClampNeg x2) (σ_2.1 0 14)) (fun σ_3 => some (r_1, σ_3))))
set_option maxHeartbeats 4000000 in
set_option maxRecDepth 100000 in
theorem c_X8_into {k2 : Nat} {N2 : Nat} {x2 : Int32} {x3 : Int32} {x4 : Int32} (hp2 : shM[k2]? = some (N2 + 20)) {σ : cb_St} {o : Int32 × cb_St} (hf : f_X8_into k2 N2 x2 x3 x4 σ = some o) : cb_M l yX8_into cX8_into 6 (some .int) 3 shM A T D σ [.ref (A 0), .ref (A k2), .int x2, .int x3, .int x4] (some (.int o.1)) o.2 := by
  refine cb_met (by decide +kernel) (Nat.le_of_ble_eq_true rfl) ?_
  intro p e s m below meth c C hs ls hl
  have hl : lv_has ls 6 [(0, .ref (A 0)), (1, .ref (A k2)), (2, .int x2), (3, .int x3), (4, .int x4)] := hl
  obtain ⟨hx, hb, hml, hr, hown, hts, hK, hlk, hN⟩ := id C
  unfold f_X8_into at hf
  refine lv_aload_n hx hb dX8_into_0 rfl (lv_at hl 0 rfl) ?_
  refine lv_iload_n hx hb dX8_into_1 rfl (lv_at hl 3 rfl) ?_
  refine lv_iload hx hb dX8_into_2 (lv_at hl 4 rfl) ?_
  obtain ⟨r_1, σ_2, hc, hf⟩ := cb_bi_inv hf
  refine cb_callVi C (c_X8_takeNumber  hc) mw_X8_takeNumber ml_X8_117 rfl ⟨Nat.le_of_ble_eq_true rfl, Nat.le_of_ble_eq_true rfl⟩ rfl (Nat.le_of_ble_eq_true rfl) rfl hs hl rfl (Nat.le_of_ble_eq_true rfl) dX8_into_4 (fun H locs hs => ?_)
  clear hc
  refine lv_istore (lv' := [(5, .int r_1), (0, .ref (A 0)), (1, .ref (A k2)), (2, .int x2), (3, .int x3), (4, .int x4)]) hx hb dX8_into_7 hl (by decide) rfl (fun ls hl => ?_)
  refine lv_aload_n hx hb dX8_into_9 rfl (lv_at hl 2 rfl) ?_
  refine lv_iload_n hx hb dX8_into_10 rfl (lv_at hl 3 rfl) ?_
  refine lv_aload_n hx hb dX8_into_11 rfl (lv_at hl 1 rfl) ?_
  refine gf_X8_114 C hs rfl dX8_into_12 ?_
  obtain ⟨hc, hf⟩ := cb_ck_inv hf
  refine cb_iast C hs hp2 (vp_in_iff.mpr hc) dX8_into_15 (fun H locs hs => ?_)
  obtain ⟨σ_3, e9, hf⟩ := cb_let_inv hf
  replace hs := cb_Hc e9 hs
  clear e9
  refine lv_iload hx hb dX8_into_16 (lv_at hl 0 rfl) ?_
  have hf := Option.some.inj hf
  subst hf
  exact cb_reti C hs dX8_into_18
/-! ===== CardBecomeModel.isRing ===== -/
def f_X8_isRing_91 (x1 : Int32) (x2 : Int32) (x3 : Int32) (σ : cb_St)  : Option (Int32) := some 0
set_option maxHeartbeats 4000000 in
set_option maxRecDepth 100000 in
theorem w_X8_isRing_91 (C : cb_C p s m args meth c cX8_isRing 5 (some .boolean) RX8 D T) {x1 : Int32} {x2 : Int32} {x3 : Int32} {σ : cb_St} {o : Int32}   (hf : f_X8_isRing_91 x1 x2 x3 σ = some o) {H : Heap} {locs : List Loc} {ls : Array Slot} (hs : cb_H shM A T D σ s.heap H locs) (hl : lv_has ls 5 [(0, .ref (A 0)), (1, .int x1), (2, .int x2), (3, .int x3)]) : cb_W p l e 5 s m args below meth c shM A T D (some (.int o)) σ H locs (F0 m 91 ls []) := by
  obtain ⟨hx, hb, hml, hr, hown, hts, hK, hlk, hN⟩ := id C
  unfold f_X8_isRing_91 at hf
  refine lv_iconst (v := 0) hx hb dX8_isRing_91 (by decide) ?_
  have hf := Option.some.inj hf
  subst hf
  exact cb_retz C hs (Or.inl rfl) dX8_isRing_92
def f_X8_isRing_44 (x1 : Int32) (x2 : Int32) (x3 : Int32) (σ : cb_St) (s0 : Int32) : Option (Int32) := if s0 = 0 then (f_X8_isRing_91 x1 x2 x3 σ) else (cb_bp (f_X8_beatenBy x1 σ) (fun r_1 => cb_bp (f_X8_has r_1 x2 σ) (fun r_2 => if r_2 = 0 then (f_X8_isRing_91 x1 x2 x3 σ) else (cb_bp (f_X8_beatenBy x2 σ) (fun r_3 => cb_bp (f_X8_has r_3 x3 σ) (fun r_4 => if r_4 = 0 then (f_X8_isRing_91 x1 x2 x3 σ) else (cb_bp (f_X8_beatenBy x3 σ) (fun r_5 => cb_bp (f_X8_has r_5 x1 σ) (fun r_6 => if r_6 = 0 then (f_X8_isRing_91 x1 x2 x3 σ) else (some 1))))))))))
set_option maxHeartbeats 4000000 in
set_option maxRecDepth 100000 in
theorem w_X8_isRing_44 (C : cb_C p s m args meth c cX8_isRing 5 (some .boolean) RX8 D T) {x1 : Int32} {x2 : Int32} {x3 : Int32} {σ : cb_St} {o : Int32}  {s0 : Int32} (hf : f_X8_isRing_44 x1 x2 x3 σ s0 = some o) {H : Heap} {locs : List Loc} {ls : Array Slot} (hs : cb_H shM A T D σ s.heap H locs) (hl : lv_has ls 5 [(0, .ref (A 0)), (1, .int x1), (2, .int x2), (3, .int x3)]) : cb_W p l e 5 s m args below meth c shM A T D (some (.int o)) σ H locs (F0 m 44 ls [.int s0]) := by
  obtain ⟨hx, hb, hml, hr, hown, hts, hK, hlk, hN⟩ := id C
  unfold f_X8_isRing_44 at hf
  refine lv_istore (lv' := [(4, .int s0), (0, .ref (A 0)), (1, .int x1), (2, .int x2), (3, .int x3)]) hx hb dX8_isRing_44 hl (by decide) rfl (fun ls hl => ?_)
  refine lv_iload hx hb dX8_isRing_46 (lv_at hl 0 rfl) ?_
  refine lv_if_eq (tgt := 91) hx hb dX8_isRing_48 (by decide) (fun cn => ?_) (fun cn => ?_)
  · replace hf := cb_ifp cn hf
    exact w_X8_isRing_91 C  hf hs (lv_sub hl [1, 2, 3, 4] rfl)
  · replace hf := cb_ifn cn hf
    refine lv_aload_n hx hb dX8_isRing_51 rfl (lv_at hl 1 rfl) ?_
    refine lv_iload_n hx hb dX8_isRing_52 rfl (lv_at hl 2 rfl) ?_
    obtain ⟨r_1, hc, hf⟩ := cb_bp_inv hf
    refine cb_callVi C (c_X8_beatenBy  hc) mw_X8_beatenBy ml_X8_180 rfl ⟨Nat.le_of_ble_eq_true rfl, Nat.le_of_ble_eq_true rfl⟩ rfl (Nat.le_of_ble_eq_true rfl) rfl hs hl rfl (Nat.le_of_ble_eq_true rfl) dX8_isRing_53 (fun H locs hs => ?_)
    clear hc
    refine lv_iload_n hx hb dX8_isRing_56 rfl (lv_at hl 3 rfl) ?_
    obtain ⟨r_2, hc, hf⟩ := cb_bp_inv hf
    refine cb_callSi C (c_X8_has  hc) mw_X8_has ml_X8_256 rfl ⟨Nat.le_of_ble_eq_true rfl, Nat.le_of_ble_eq_true rfl⟩ hs hl rfl (Nat.le_of_ble_eq_true rfl) dX8_isRing_57 (fun H locs hs => ?_)
    clear hc
    refine lv_if_eq (tgt := 91) hx hb dX8_isRing_60 (by decide) (fun cn => ?_) (fun cn => ?_)
    · replace hf := cb_ifp cn hf
      exact w_X8_isRing_91 C  hf hs (lv_sub hl [1, 2, 3, 4] rfl)
    · replace hf := cb_ifn cn hf
      refine lv_aload_n hx hb dX8_isRing_63 rfl (lv_at hl 1 rfl) ?_
      refine lv_iload_n hx hb dX8_isRing_64 rfl (lv_at hl 3 rfl) ?_
      obtain ⟨r_3, hc, hf⟩ := cb_bp_inv hf
      refine cb_callVi C (c_X8_beatenBy  hc) mw_X8_beatenBy ml_X8_180 rfl ⟨Nat.le_of_ble_eq_true rfl, Nat.le_of_ble_eq_true rfl⟩ rfl (Nat.le_of_ble_eq_true rfl) rfl hs hl rfl (Nat.le_of_ble_eq_true rfl) dX8_isRing_65 (fun H locs hs => ?_)
      clear hc
      refine lv_iload_n hx hb dX8_isRing_68 rfl (lv_at hl 4 rfl) ?_
      obtain ⟨r_4, hc, hf⟩ := cb_bp_inv hf
      refine cb_callSi C (c_X8_has  hc) mw_X8_has ml_X8_256 rfl ⟨Nat.le_of_ble_eq_true rfl, Nat.le_of_ble_eq_true rfl⟩ hs hl rfl (Nat.le_of_ble_eq_true rfl) dX8_isRing_69 (fun H locs hs => ?_)
      clear hc
      refine lv_if_eq (tgt := 91) hx hb dX8_isRing_72 (by decide) (fun cn => ?_) (fun cn => ?_)
      · replace hf := cb_ifp cn hf
        exact w_X8_isRing_91 C  hf hs (lv_sub hl [1, 2, 3, 4] rfl)
      · replace hf := cb_ifn cn hf
        refine lv_aload_n hx hb dX8_isRing_75 rfl (lv_at hl 1 rfl) ?_
        refine lv_iload_n hx hb dX8_isRing_76 rfl (lv_at hl 4 rfl) ?_
        obtain ⟨r_5, hc, hf⟩ := cb_bp_inv hf
        refine cb_callVi C (c_X8_beatenBy  hc) mw_X8_beatenBy ml_X8_180 rfl ⟨Nat.le_of_ble_eq_true rfl, Nat.le_of_ble_eq_true rfl⟩ rfl (Nat.le_of_ble_eq_true rfl) rfl hs hl rfl (Nat.le_of_ble_eq_true rfl) dX8_isRing_77 (fun H locs hs => ?_)
        clear hc
        refine lv_iload_n hx hb dX8_isRing_80 rfl (lv_at hl 2 rfl) ?_
        obtain ⟨r_6, hc, hf⟩ := cb_bp_inv hf
        refine cb_callSi C (c_X8_has  hc) mw_X8_has ml_X8_256 rfl ⟨Nat.le_of_ble_eq_true rfl, Nat.le_of_ble_eq_true rfl⟩ hs hl rfl (Nat.le_of_ble_eq_true rfl) dX8_isRing_81 (fun H locs hs => ?_)
        clear hc
        refine lv_if_eq (tgt := 91) hx hb dX8_isRing_84 (by decide) (fun cn => ?_) (fun cn => ?_)
        · replace hf := cb_ifp cn hf
          exact w_X8_isRing_91 C  hf hs (lv_sub hl [1, 2, 3, 4] rfl)
        · replace hf := cb_ifn cn hf
          refine lv_iconst (v := 1) hx hb dX8_isRing_87 (by decide) ?_
          refine lv_goto (tgt := 92) hx hb dX8_isRing_88 (by decide) ?_
          have hf := Option.some.inj hf
          subst hf
          exact cb_retz C hs (Or.inr rfl) dX8_isRing_92
def f_X8_isRing_43 (x1 : Int32) (x2 : Int32) (x3 : Int32) (σ : cb_St)  : Option (Int32) := f_X8_isRing_44 x1 x2 x3 σ 0
set_option maxHeartbeats 4000000 in
set_option maxRecDepth 100000 in
theorem w_X8_isRing_43 (C : cb_C p s m args meth c cX8_isRing 5 (some .boolean) RX8 D T) {x1 : Int32} {x2 : Int32} {x3 : Int32} {σ : cb_St} {o : Int32}   (hf : f_X8_isRing_43 x1 x2 x3 σ = some o) {H : Heap} {locs : List Loc} {ls : Array Slot} (hs : cb_H shM A T D σ s.heap H locs) (hl : lv_has ls 5 [(0, .ref (A 0)), (1, .int x1), (2, .int x2), (3, .int x3)]) : cb_W p l e 5 s m args below meth c shM A T D (some (.int o)) σ H locs (F0 m 43 ls []) := by
  obtain ⟨hx, hb, hml, hr, hown, hts, hK, hlk, hN⟩ := id C
  unfold f_X8_isRing_43 at hf
  refine lv_iconst (v := 0) hx hb dX8_isRing_43 (by decide) ?_
  exact w_X8_isRing_44 C  hf hs (lv_sub hl [0, 1, 2, 3] rfl)
def f_X8_isRing (x1 : Int32) (x2 : Int32) (x3 : Int32) (σ : cb_St)  : Option (Int32) := if (σ.1 0 7) ≤ x1 then (f_X8_isRing_43 x1 x2 x3 σ) else (if (σ.1 0 7) ≤ x2 then (f_X8_isRing_43 x1 x2 x3 σ) else (if (σ.1 0 7) ≤ x3 then (f_X8_isRing_43 x1 x2 x3 σ) else (if x2 ≤ x1 then (f_X8_isRing_43 x1 x2 x3 σ) else (if x3 ≤ x1 then (f_X8_isRing_43 x1 x2 x3 σ) else (if x2 = x3 then (f_X8_isRing_43 x1 x2 x3 σ) else (f_X8_isRing_44 x1 x2 x3 σ 1))))))
set_option maxHeartbeats 4000000 in
set_option maxRecDepth 100000 in
theorem c_X8_isRing {x1 : Int32} {x2 : Int32} {x3 : Int32} {σ : cb_St}   {o : Int32} (hf : f_X8_isRing x1 x2 x3 σ = some o) : cb_M l yX8_isRing cX8_isRing 5 (some .boolean) 5 shM A T D σ [.ref (A 0), .int x1, .int x2, .int x3] (some (.int o)) σ := by
  refine cb_met (by decide +kernel) (Nat.le_of_ble_eq_true rfl) ?_
  intro p e s m below meth c C hs ls hl
  have hl : lv_has ls 5 [(0, .ref (A 0)), (1, .int x1), (2, .int x2), (3, .int x3)] := hl
  obtain ⟨hx, hb, hml, hr, hown, hts, hK, hlk, hN⟩ := id C
  unfold f_X8_isRing at hf
  refine lv_iload_n hx hb dX8_isRing_0 rfl (lv_at hl 1 rfl) ?_
  refine lv_aload_n hx hb dX8_isRing_1 rfl (lv_at hl 0 rfl) ?_
  refine gf_X8_75 C hs rfl dX8_isRing_2 ?_
  refine lv_icmp_ge (tgt := 43) hx hb dX8_isRing_5 (by decide) (fun cn => ?_) (fun cn => ?_)
  · replace hf := cb_ifp cn hf
    exact w_X8_isRing_43 C  hf hs (lv_sub hl [0, 1, 2, 3] rfl)
  · replace hf := cb_ifn cn hf
    refine lv_iload_n hx hb dX8_isRing_8 rfl (lv_at hl 2 rfl) ?_
    refine lv_aload_n hx hb dX8_isRing_9 rfl (lv_at hl 0 rfl) ?_
    refine gf_X8_75 C hs rfl dX8_isRing_10 ?_
    refine lv_icmp_ge (tgt := 43) hx hb dX8_isRing_13 (by decide) (fun cn => ?_) (fun cn => ?_)
    · replace hf := cb_ifp cn hf
      exact w_X8_isRing_43 C  hf hs (lv_sub hl [0, 1, 2, 3] rfl)
    · replace hf := cb_ifn cn hf
      refine lv_iload_n hx hb dX8_isRing_16 rfl (lv_at hl 3 rfl) ?_
      refine lv_aload_n hx hb dX8_isRing_17 rfl (lv_at hl 0 rfl) ?_
      refine gf_X8_75 C hs rfl dX8_isRing_18 ?_
      refine lv_icmp_ge (tgt := 43) hx hb dX8_isRing_21 (by decide) (fun cn => ?_) (fun cn => ?_)
      · replace hf := cb_ifp cn hf
        exact w_X8_isRing_43 C  hf hs (lv_sub hl [0, 1, 2, 3] rfl)
      · replace hf := cb_ifn cn hf
        refine lv_iload_n hx hb dX8_isRing_24 rfl (lv_at hl 1 rfl) ?_
        refine lv_iload_n hx hb dX8_isRing_25 rfl (lv_at hl 2 rfl) ?_
        refine lv_icmp_ge (tgt := 43) hx hb dX8_isRing_26 (by decide) (fun cn => ?_) (fun cn => ?_)
        · replace hf := cb_ifp cn hf
          exact w_X8_isRing_43 C  hf hs (lv_sub hl [0, 1, 2, 3] rfl)
        · replace hf := cb_ifn cn hf
          refine lv_iload_n hx hb dX8_isRing_29 rfl (lv_at hl 1 rfl) ?_
          refine lv_iload_n hx hb dX8_isRing_30 rfl (lv_at hl 3 rfl) ?_
          refine lv_icmp_ge (tgt := 43) hx hb dX8_isRing_31 (by decide) (fun cn => ?_) (fun cn => ?_)
          · replace hf := cb_ifp cn hf
            exact w_X8_isRing_43 C  hf hs (lv_sub hl [0, 1, 2, 3] rfl)
          · replace hf := cb_ifn cn hf
            refine lv_iload_n hx hb dX8_isRing_34 rfl (lv_at hl 2 rfl) ?_
            refine lv_iload_n hx hb dX8_isRing_35 rfl (lv_at hl 3 rfl) ?_
            refine lv_icmp_eq (tgt := 43) hx hb dX8_isRing_36 (by decide) (fun cn => ?_) (fun cn => ?_)
            · replace hf := cb_ifp cn hf
              exact w_X8_isRing_43 C  hf hs (lv_sub hl [0, 1, 2, 3] rfl)
            · replace hf := cb_ifn cn hf
              refine lv_iconst (v := 1) hx hb dX8_isRing_39 (by decide) ?_
              refine lv_goto (tgt := 44) hx hb dX8_isRing_40 (by decide) ?_
              exact w_X8_isRing_44 C  hf hs (lv_sub hl [0, 1, 2, 3] rfl)
/-! ===== CardBecomeModel.isTold ===== -/
def f_X8_isTold_43 (K4 : Int32 → Int32 → Option (Int32)) (x1 : Int32) (σ : cb_St) (x3 : Int32) (s0 : Int32) : Option (Int32) := cb_let (x3 + 1) (fun x3_0 => K4 s0 x3_0)
set_option maxHeartbeats 4000000 in
set_option maxRecDepth 100000 in
theorem w_X8_isTold_43 (C : cb_C p s m args meth c cX8_isTold 4 (some .boolean) RX8 D T) {K4 : Int32 → Int32 → Option (Int32)} {x1 : Int32} {σ : cb_St} {o : Int32} (hK4 : ∀ (x2 : Int32) (x3 : Int32), K4 x2 x3 = some o → ∀ (H : Heap) (locs : List Loc) (ls : Array Slot), cb_H shM A T D σ s.heap H locs → lv_has ls 4 [(0, .ref (A 0)), (1, .int x1), (2, .int x2), (3, .int x3)] → cb_W p l e 1 s m args below meth c shM A T D (some (.int o)) σ H locs (F0 m 4 ls [])) {x3 : Int32} {s0 : Int32} (hf : f_X8_isTold_43 K4 x1 σ x3 s0 = some o) {H : Heap} {locs : List Loc} {ls : Array Slot} (hs : cb_H shM A T D σ s.heap H locs) (hl : lv_has ls 4 [(0, .ref (A 0)), (1, .int x1), (3, .int x3)]) : cb_W p l e 1 s m args below meth c shM A T D (some (.int o)) σ H locs (F0 m 43 ls [.int s0]) := by
  obtain ⟨hx, hb, hml, hr, hown, hts, hK, hlk, hN⟩ := id C
  unfold f_X8_isTold_43 at hf
  refine lv_istore_n (lv' := [(2, .int s0), (0, .ref (A 0)), (1, .int x1), (3, .int x3)]) hx hb dX8_isTold_43 rfl hl (by decide) rfl (fun ls hl => ?_)
  obtain ⟨x3_0, e9, hf⟩ := cb_let_inv hf
  refine lv_iinc (v := x3_0) (lv' := [(3, .int x3_0), (2, .int s0), (0, .ref (A 0)), (1, .int x1)]) hx hb dX8_isTold_44 hl (k := 3) rfl (by rw [e9]; rfl) (by decide) rfl (fun ls hl => ?_)
  clear e9
  refine lv_goto (tgt := 4) hx hb dX8_isTold_47 (by decide) ?_
  exact hK4 _ _ hf _ _ _ hs (lv_sub hl [2, 3, 1, 0] rfl)
def f_X8_isTold_38 (K4 : Int32 → Int32 → Option (Int32)) (x1 : Int32) (σ : cb_St) (x3 : Int32) : Option (Int32) := f_X8_isTold_43 K4 x1 σ x3 1
set_option maxHeartbeats 4000000 in
set_option maxRecDepth 100000 in
theorem w_X8_isTold_38 (C : cb_C p s m args meth c cX8_isTold 4 (some .boolean) RX8 D T) {K4 : Int32 → Int32 → Option (Int32)} {x1 : Int32} {σ : cb_St} {o : Int32} (hK4 : ∀ (x2 : Int32) (x3 : Int32), K4 x2 x3 = some o → ∀ (H : Heap) (locs : List Loc) (ls : Array Slot), cb_H shM A T D σ s.heap H locs → lv_has ls 4 [(0, .ref (A 0)), (1, .int x1), (2, .int x2), (3, .int x3)] → cb_W p l e 1 s m args below meth c shM A T D (some (.int o)) σ H locs (F0 m 4 ls [])) {x3 : Int32} (hf : f_X8_isTold_38 K4 x1 σ x3 = some o) {H : Heap} {locs : List Loc} {ls : Array Slot} (hs : cb_H shM A T D σ s.heap H locs) (hl : lv_has ls 4 [(0, .ref (A 0)), (1, .int x1), (3, .int x3)]) : cb_W p l e 1 s m args below meth c shM A T D (some (.int o)) σ H locs (F0 m 38 ls []) := by
  obtain ⟨hx, hb, hml, hr, hown, hts, hK, hlk, hN⟩ := id C
  unfold f_X8_isTold_38 at hf
  refine lv_iconst (v := 1) hx hb dX8_isTold_38 (by decide) ?_
  refine lv_goto (tgt := 43) hx hb dX8_isTold_39 (by decide) ?_
  exact w_X8_isTold_43 C hK4 hf hs (lv_sub hl [0, 1, 2] rfl)
def f_X8_isTold_4 (x1 : Int32) (σ : cb_St) : Nat → Int32 → Int32 → Option (Int32)
  | 0, _, _ => none
  | fu + 1, x2, x3 => if (σ.1 0 4) ≤ x3 then (cb_ck (x2 = 0 ∨ x2 = 1) (some x2)) else (if x2 = 0 then (cb_ck (0 ≤ Int32.toInt x3 ∧ Int32.toInt x3 < 12) (cb_ck (0 ≤ Int32.toInt x3 ∧ Int32.toInt x3 < 12) (if (((13 * (σ.1 2 (Int32.toNatClampNeg x3))) + (σ.1 1 (Int32.toNatClampNeg x3))) - 1) = x1 then (f_X8_isTold_38 (f_X8_isTold_4 x1 σ fu) x1 σ x3) else (f_X8_isTold_43 (f_X8_isTold_4 x1 σ fu) x1 σ x3 0)))) else (f_X8_isTold_38 (f_X8_isTold_4 x1 σ fu) x1 σ x3))
set_option maxHeartbeats 4000000 in
set_option maxRecDepth 100000 in
theorem w_X8_isTold_4 (C : cb_C p s m args meth c cX8_isTold 4 (some .boolean) RX8 D T) {x1 : Int32} {σ : cb_St} {o : Int32}  : ∀ (fu : Nat) (x2 : Int32) (x3 : Int32), f_X8_isTold_4 x1 σ fu x2 x3 = some o → ∀ (H : Heap) (locs : List Loc) (ls : Array Slot), cb_H shM A T D σ s.heap H locs → lv_has ls 4 [(0, .ref (A 0)), (1, .int x1), (2, .int x2), (3, .int x3)] → cb_W p l e 1 s m args below meth c shM A T D (some (.int o)) σ H locs (F0 m 4 ls []) := by
  obtain ⟨hx, hb, hml, hr, hown, hts, hK, hlk, hN⟩ := id C
  intro fu
  induction fu with
  | zero =>
    intro x2 x3 hf
    rw [f_X8_isTold_4] at hf
    cases hf
  | succ fu ih =>
    intro x2 x3 hf H locs ls hs hl
    rw [f_X8_isTold_4] at hf
    refine lv_iload_n hx hb dX8_isTold_4 rfl (lv_at hl 3 rfl) ?_
    refine lv_aload_n hx hb dX8_isTold_5 rfl (lv_at hl 0 rfl) ?_
    refine gf_X8_86 C hs rfl dX8_isTold_6 ?_
    refine lv_icmp_ge (tgt := 50) hx hb dX8_isTold_9 (by decide) (fun cn => ?_) (fun cn => ?_)
    · replace hf := cb_ifp cn hf
      refine lv_iload_n hx hb dX8_isTold_50 rfl (lv_at hl 2 rfl) ?_
      obtain ⟨hc, hf⟩ := cb_ck_inv hf
      have hf := Option.some.inj hf
      subst hf
      exact cb_retz C hs hc dX8_isTold_51
    · replace hf := cb_ifn cn hf
      refine lv_iload_n hx hb dX8_isTold_12 rfl (lv_at hl 2 rfl) ?_
      refine lv_if_ne (tgt := 38) hx hb dX8_isTold_13 (by decide) (fun cn => ?_) (fun cn => ?_)
      · replace hf := cb_ifn cn hf
        exact w_X8_isTold_38 C ih hf hs (lv_sub hl [0, 1, 3] rfl)
      · replace hf := cb_ifp cn hf
        refine lv_bipush (v := 13) hx hb dX8_isTold_16 (by decide) ?_
        refine lv_aload_n hx hb dX8_isTold_18 rfl (lv_at hl 0 rfl) ?_
        refine gf_X8_13 C hs rfl dX8_isTold_19 ?_
        refine lv_iload_n hx hb dX8_isTold_22 rfl (lv_at hl 3 rfl) ?_
        obtain ⟨hc, hf⟩ := cb_ck_inv hf
        refine cb_iald C hs rfl (vp_in_iff.mpr hc) dX8_isTold_23 ?_
        refine lv_imul hx hb dX8_isTold_24 ?_
        refine lv_aload_n hx hb dX8_isTold_25 rfl (lv_at hl 0 rfl) ?_
        refine gf_X8_7 C hs rfl dX8_isTold_26 ?_
        refine lv_iload_n hx hb dX8_isTold_29 rfl (lv_at hl 3 rfl) ?_
        obtain ⟨hc, hf⟩ := cb_ck_inv hf
        refine cb_iald C hs rfl (vp_in_iff.mpr hc) dX8_isTold_30 ?_
        refine lv_iadd hx hb dX8_isTold_31 ?_
        refine lv_iconst (v := 1) hx hb dX8_isTold_32 (by decide) ?_
        refine lv_isub hx hb dX8_isTold_33 ?_
        refine lv_iload_n hx hb dX8_isTold_34 rfl (lv_at hl 1 rfl) ?_
        refine lv_icmp_ne (tgt := 42) hx hb dX8_isTold_35 (by decide) (fun cn => ?_) (fun cn => ?_)
        · replace hf := cb_ifn cn hf
          refine lv_iconst (v := 0) hx hb dX8_isTold_42 (by decide) ?_
          exact w_X8_isTold_43 C ih hf hs (lv_sub hl [0, 1, 3] rfl)
        · replace hf := cb_ifp cn hf
          exact w_X8_isTold_38 C ih hf hs (lv_sub hl [0, 1, 3] rfl)
def f_X8_isTold (x1 : Int32) (σ : cb_St)  : Option (Int32) := f_X8_isTold_4 x1 σ cb_fu 0 0
set_option maxHeartbeats 4000000 in
set_option maxRecDepth 100000 in
theorem c_X8_isTold {x1 : Int32} {σ : cb_St}   {o : Int32} (hf : f_X8_isTold x1 σ = some o) : cb_M l yX8_isTold cX8_isTold 4 (some .boolean) 1 shM A T D σ [.ref (A 0), .int x1] (some (.int o)) σ := by
  refine cb_met (by decide +kernel) (Nat.le_of_ble_eq_true rfl) ?_
  intro p e s m below meth c C hs ls hl
  have hl : lv_has ls 4 [(0, .ref (A 0)), (1, .int x1)] := hl
  obtain ⟨hx, hb, hml, hr, hown, hts, hK, hlk, hN⟩ := id C
  unfold f_X8_isTold at hf
  refine lv_iconst (v := 0) hx hb dX8_isTold_0 (by decide) ?_
  refine lv_istore_n (lv' := [(2, .int 0), (0, .ref (A 0)), (1, .int x1)]) hx hb dX8_isTold_1 rfl hl (by decide) rfl (fun ls hl => ?_)
  refine lv_iconst (v := 0) hx hb dX8_isTold_2 (by decide) ?_
  refine lv_istore_n (lv' := [(3, .int 0), (2, .int 0), (0, .ref (A 0)), (1, .int x1)]) hx hb dX8_isTold_3 rfl hl (by decide) rfl (fun ls hl => ?_)
  exact w_X8_isTold_4 C  cb_fu _ _ hf _ _ _ hs (lv_sub hl [2, 3, 1, 0] rfl)
/-! ===== CardBecomeModel.judge ===== -/
def f_X8_judge_2 (σ : cb_St) : Nat → Int32 → Option (Int32)
  | 0, _ => none
  | fu + 1, x1 => if (σ.1 0 35) ≤ x1 then (some (-1)) else (cb_ck (0 ≤ Int32.toInt x1 ∧ Int32.toInt x1 < 15) (cb_ck (0 ≤ Int32.toInt (13 + (σ.1 17 (Int32.toNatClampNeg x1))) ∧ Int32.toInt (13 + (σ.1 17 (Int32.toNatClampNeg x1))) < 51) (cb_ck (0 ≤ Int32.toInt x1 ∧ Int32.toInt x1 < 15) (if (σ.1 3 (Int32.toNatClampNeg (13 + (σ.1 17 (Int32.toNatClampNeg x1))))) = (σ.1 18 (Int32.toNatClampNeg x1)) then (cb_let (x1 + 1) (fun x1_0 => f_X8_judge_2 σ fu x1_0)) else (some x1)))))
set_option maxHeartbeats 4000000 in
set_option maxRecDepth 100000 in
theorem w_X8_judge_2 (C : cb_C p s m args meth c cX8_judge 2 (some .int) RX8 D T) {σ : cb_St} {o : Int32}  : ∀ (fu : Nat) (x1 : Int32), f_X8_judge_2 σ fu x1 = some o → ∀ (H : Heap) (locs : List Loc) (ls : Array Slot), cb_H shM A T D σ s.heap H locs → lv_has ls 2 [(0, .ref (A 0)), (1, .int x1)] → cb_W p l e 1 s m args below meth c shM A T D (some (.int o)) σ H locs (F0 m 2 ls []) := by
  obtain ⟨hx, hb, hml, hr, hown, hts, hK, hlk, hN⟩ := id C
  intro fu
  induction fu with
  | zero =>
    intro x1 hf
    rw [f_X8_judge_2] at hf
    cases hf
  | succ fu ih =>
    intro x1 hf H locs ls hs hl
    rw [f_X8_judge_2] at hf
    refine lv_iload_n hx hb dX8_judge_2 rfl (lv_at hl 1 rfl) ?_
    refine lv_aload_n hx hb dX8_judge_3 rfl (lv_at hl 0 rfl) ?_
    refine gf_X8_164 C hs rfl dX8_judge_4 ?_
    refine lv_icmp_ge (tgt := 41) hx hb dX8_judge_7 (by decide) (fun cn => ?_) (fun cn => ?_)
    · replace hf := cb_ifp cn hf
      refine lv_iconst (v := (-1)) hx hb dX8_judge_41 (by decide) ?_
      have hf := Option.some.inj hf
      subst hf
      exact cb_reti C hs dX8_judge_42
    · replace hf := cb_ifn cn hf
      refine lv_aload_n hx hb dX8_judge_10 rfl (lv_at hl 0 rfl) ?_
      refine gf_X8_16 C hs rfl dX8_judge_11 ?_
      refine lv_bipush (v := 13) hx hb dX8_judge_14 (by decide) ?_
      refine lv_aload_n hx hb dX8_judge_16 rfl (lv_at hl 0 rfl) ?_
      refine gf_X8_62 C hs rfl dX8_judge_17 ?_
      refine lv_iload_n hx hb dX8_judge_20 rfl (lv_at hl 1 rfl) ?_
      obtain ⟨hc, hf⟩ := cb_ck_inv hf
      refine cb_iald C hs rfl (vp_in_iff.mpr hc) dX8_judge_21 ?_
      refine lv_iadd hx hb dX8_judge_22 ?_
      obtain ⟨hc, hf⟩ := cb_ck_inv hf
      refine cb_iald C hs rfl (vp_in_iff.mpr hc) dX8_judge_23 ?_
      refine lv_aload_n hx hb dX8_judge_24 rfl (lv_at hl 0 rfl) ?_
      refine gf_X8_65 C hs rfl dX8_judge_25 ?_
      refine lv_iload_n hx hb dX8_judge_28 rfl (lv_at hl 1 rfl) ?_
      obtain ⟨hc, hf⟩ := cb_ck_inv hf
      refine cb_iald C hs rfl (vp_in_iff.mpr hc) dX8_judge_29 ?_
      refine lv_icmp_eq (tgt := 35) hx hb dX8_judge_30 (by decide) (fun cn => ?_) (fun cn => ?_)
      · replace hf := cb_ifp cn hf
        obtain ⟨x1_0, e9, hf⟩ := cb_let_inv hf
        refine lv_iinc (v := x1_0) (lv' := [(1, .int x1_0), (0, .ref (A 0))]) hx hb dX8_judge_35 hl (k := 1) rfl (by rw [e9]; rfl) (by decide) rfl (fun ls hl => ?_)
        clear e9
        refine lv_goto (tgt := 2) hx hb dX8_judge_38 (by decide) ?_
        exact ih _ hf _ _ _ hs (lv_sub hl [1, 0] rfl)
      · replace hf := cb_ifn cn hf
        refine lv_iload_n hx hb dX8_judge_33 rfl (lv_at hl 1 rfl) ?_
        have hf := Option.some.inj hf
        subst hf
        exact cb_reti C hs dX8_judge_34
def f_X8_judge (σ : cb_St)  : Option (Int32) := f_X8_judge_2 σ cb_fu 0
set_option maxHeartbeats 4000000 in
set_option maxRecDepth 100000 in
theorem c_X8_judge {σ : cb_St}   {o : Int32} (hf : f_X8_judge σ = some o) : cb_M l yX8_judge cX8_judge 2 (some .int) 1 shM A T D σ [.ref (A 0)] (some (.int o)) σ := by
  refine cb_met (by decide +kernel) (Nat.le_of_ble_eq_true rfl) ?_
  intro p e s m below meth c C hs ls hl
  have hl : lv_has ls 2 [(0, .ref (A 0))] := hl
  obtain ⟨hx, hb, hml, hr, hown, hts, hK, hlk, hN⟩ := id C
  unfold f_X8_judge at hf
  refine lv_iconst (v := 0) hx hb dX8_judge_0 (by decide) ?_
  refine lv_istore_n (lv' := [(1, .int 0), (0, .ref (A 0))]) hx hb dX8_judge_1 rfl hl (by decide) rfl (fun ls hl => ?_)
  exact w_X8_judge_2 C  cb_fu _ hf _ _ _ hs (lv_sub hl [1, 0] rfl)
/-! ===== CardBecomeModel.keep ===== -/
def f_X8_keep_15 (x1 : Int32) : Nat → cb_St → Int32 → Option (Int32 × cb_St)
  | 0, _, _ => none
  | fu + 1, σ, x2 => if 51 ≤ x2 then (cb_ck (0 ≤ Int32.toInt ((52 * x1) + 51) ∧ Int32.toInt ((52 * x1) + 51) < 104) (cb_let (cb_sI σ 19 (Int32.toNatClampNeg ((52 * x1) + 51)) (σ.1 0 9)) (fun σ_1 => cb_ck (0 ≤ Int32.toInt x1 ∧ Int32.toInt x1 < 2) (cb_let (cb_sI σ_1 20 (Int32.toNatClampNeg x1) 1) (fun σ_2 => cb_let (cb_sI σ_2 0 22 0) (fun σ_3 => some (1, σ_3))))))) else (cb_ck (0 ≤ Int32.toInt x2 ∧ Int32.toInt x2 < 51) (cb_ck (0 ≤ Int32.toInt ((52 * x1) + x2) ∧ Int32.toInt ((52 * x1) + x2) < 104) (cb_let (cb_sI σ 19 (Int32.toNatClampNeg ((52 * x1) + x2)) (σ.1 3 (Int32.toNatClampNeg x2))) (fun σ_4 => cb_let (x2 + 1) (fun x2_4 => f_X8_keep_15 x1 fu σ_4 x2_4)))))
set_option maxHeartbeats 4000000 in
set_option maxRecDepth 100000 in
theorem w_X8_keep_15 (C : cb_C p s m args meth c cX8_keep 3 (some .int) RX8 D T) {x1 : Int32} {o : Int32 × cb_St}  : ∀ (fu : Nat) (σ : cb_St) (x2 : Int32), f_X8_keep_15 x1 fu σ x2 = some o → ∀ (H : Heap) (locs : List Loc) (ls : Array Slot), cb_H shM A T D σ s.heap H locs → lv_has ls 3 [(0, .ref (A 0)), (1, .int x1), (2, .int x2)] → cb_W p l e 2 s m args below meth c shM A T D (some (.int o.1)) o.2 H locs (F0 m 15 ls []) := by
  obtain ⟨hx, hb, hml, hr, hown, hts, hK, hlk, hN⟩ := id C
  intro fu
  induction fu with
  | zero =>
    intro σ x2 hf
    rw [f_X8_keep_15] at hf
    cases hf
  | succ fu ih =>
    intro σ x2 hf H locs ls hs hl
    rw [f_X8_keep_15] at hf
    refine lv_iload_n hx hb dX8_keep_15 rfl (lv_at hl 2 rfl) ?_
    refine lv_bipush (v := 51) hx hb dX8_keep_16 (by decide) ?_
    refine lv_icmp_ge (tgt := 44) hx hb dX8_keep_18 (by decide) (fun cn => ?_) (fun cn => ?_)
    · replace hf := cb_ifp cn hf
      refine lv_aload_n hx hb dX8_keep_44 rfl (lv_at hl 0 rfl) ?_
      refine gf_X8_68 C hs rfl dX8_keep_45 ?_
      refine lv_bipush (v := 52) hx hb dX8_keep_48 (by decide) ?_
      refine lv_iload_n hx hb dX8_keep_50 rfl (lv_at hl 1 rfl) ?_
      refine lv_imul hx hb dX8_keep_51 ?_
      refine lv_bipush (v := 51) hx hb dX8_keep_52 (by decide) ?_
      refine lv_iadd hx hb dX8_keep_54 ?_
      refine lv_aload_n hx hb dX8_keep_55 rfl (lv_at hl 0 rfl) ?_
      refine gf_X8_259 C hs rfl dX8_keep_56 ?_
      obtain ⟨hc, hf⟩ := cb_ck_inv hf
      refine cb_iast C hs rfl (vp_in_iff.mpr hc) dX8_keep_59 (fun H locs hs => ?_)
      obtain ⟨σ_1, e9, hf⟩ := cb_let_inv hf
      replace hs := cb_Hc e9 hs
      clear e9
      refine lv_aload_n hx hb dX8_keep_60 rfl (lv_at hl 0 rfl) ?_
      refine gf_X8_71 C hs rfl dX8_keep_61 ?_
      refine lv_iload_n hx hb dX8_keep_64 rfl (lv_at hl 1 rfl) ?_
      refine lv_iconst (v := 1) hx hb dX8_keep_65 (by decide) ?_
      obtain ⟨hc, hf⟩ := cb_ck_inv hf
      refine cb_zast C hs rfl (vp_in_iff.mpr hc) (Or.inr rfl) dX8_keep_66 (fun H locs hs => ?_)
      obtain ⟨σ_2, e9, hf⟩ := cb_let_inv hf
      replace hs := cb_Hc e9 hs
      clear e9
      refine lv_aload_n hx hb dX8_keep_67 rfl (lv_at hl 0 rfl) ?_
      refine lv_iconst (v := 0) hx hb dX8_keep_68 (by decide) ?_
      refine pf_X8_167 C hs rfl dX8_keep_69 (fun H locs hs => ?_)
      obtain ⟨σ_3, e9, hf⟩ := cb_let_inv hf
      replace hs := cb_Hc e9 hs
      clear e9
      refine lv_iconst (v := 1) hx hb dX8_keep_72 (by decide) ?_
      have hf := Option.some.inj hf
      subst hf
      exact cb_reti C hs dX8_keep_73
    · replace hf := cb_ifn cn hf
      refine lv_aload_n hx hb dX8_keep_21 rfl (lv_at hl 0 rfl) ?_
      refine gf_X8_68 C hs rfl dX8_keep_22 ?_
      refine lv_bipush (v := 52) hx hb dX8_keep_25 (by decide) ?_
      refine lv_iload_n hx hb dX8_keep_27 rfl (lv_at hl 1 rfl) ?_
      refine lv_imul hx hb dX8_keep_28 ?_
      refine lv_iload_n hx hb dX8_keep_29 rfl (lv_at hl 2 rfl) ?_
      refine lv_iadd hx hb dX8_keep_30 ?_
      refine lv_aload_n hx hb dX8_keep_31 rfl (lv_at hl 0 rfl) ?_
      refine gf_X8_16 C hs rfl dX8_keep_32 ?_
      refine lv_iload_n hx hb dX8_keep_35 rfl (lv_at hl 2 rfl) ?_
      obtain ⟨hc, hf⟩ := cb_ck_inv hf
      refine cb_iald C hs rfl (vp_in_iff.mpr hc) dX8_keep_36 ?_
      obtain ⟨hc, hf⟩ := cb_ck_inv hf
      refine cb_iast C hs rfl (vp_in_iff.mpr hc) dX8_keep_37 (fun H locs hs => ?_)
      obtain ⟨σ_4, e9, hf⟩ := cb_let_inv hf
      replace hs := cb_Hc e9 hs
      clear e9
      obtain ⟨x2_4, e9, hf⟩ := cb_let_inv hf
      refine lv_iinc (v := x2_4) (lv' := [(2, .int x2_4), (0, .ref (A 0)), (1, .int x1)]) hx hb dX8_keep_38 hl (k := 2) rfl (by rw [e9]; rfl) (by decide) rfl (fun ls hl => ?_)
      clear e9
      refine lv_goto (tgt := 15) hx hb dX8_keep_41 (by decide) ?_
      exact ih _ _ hf _ _ _ hs (lv_sub hl [1, 2, 0] rfl)
def f_X8_keep (x1 : Int32) (σ : cb_St) : Option (Int32 × cb_St) := cb_bp (f_X8_in (Int32.toInt64 x1) 0 1 σ) (fun r_1 => if r_1 = 0 then (some ((-1000000001), σ)) else (f_X8_keep_15 x1 cb_fu σ 0))
set_option maxHeartbeats 4000000 in
set_option maxRecDepth 100000 in
theorem c_X8_keep {x1 : Int32}  {σ : cb_St} {o : Int32 × cb_St} (hf : f_X8_keep x1 σ = some o) : cb_M l yX8_keep cX8_keep 3 (some .int) 2 shM A T D σ [.ref (A 0), .int x1] (some (.int o.1)) o.2 := by
  refine cb_met (by decide +kernel) (Nat.le_of_ble_eq_true rfl) ?_
  intro p e s m below meth c C hs ls hl
  have hl : lv_has ls 3 [(0, .ref (A 0)), (1, .int x1)] := hl
  obtain ⟨hx, hb, hml, hr, hown, hts, hK, hlk, hN⟩ := id C
  unfold f_X8_keep at hf
  refine lv_iload_n hx hb dX8_keep_0 rfl (lv_at hl 1 rfl) ?_
  refine lv_i2l hx hb dX8_keep_1 rfl ?_
  refine lv_lconst (v := 0) hx hb dX8_keep_2 (by decide) ?_
  refine lv_lconst (v := 1) hx hb dX8_keep_3 (by decide) ?_
  obtain ⟨r_1, hc, hf⟩ := cb_bp_inv hf
  refine cb_callSi C (c_X8_in  hc) mw_X8_in ml_X8_78 rfl ⟨Nat.le_of_ble_eq_true rfl, Nat.le_of_ble_eq_true rfl⟩ hs hl rfl (Nat.le_of_ble_eq_true rfl) dX8_keep_4 (fun H locs hs => ?_)
  clear hc
  refine lv_if_ne (tgt := 13) hx hb dX8_keep_7 (by decide) (fun cn => ?_) (fun cn => ?_)
  · replace hf := cb_ifn cn hf
    refine lv_iconst (v := 0) hx hb dX8_keep_13 (by decide) ?_
    refine lv_istore_n (lv' := [(2, .int 0), (0, .ref (A 0)), (1, .int x1)]) hx hb dX8_keep_14 rfl hl (by decide) rfl (fun ls hl => ?_)
    exact w_X8_keep_15 C  cb_fu _ _ hf _ _ _ hs (lv_sub hl [1, 2, 0] rfl)
  · replace hf := cb_ifp cn hf
    refine lv_ldc (v := (-1000000001)) hx hb hown (hts _ kc_X8_209) dX8_keep_10 ?_
    have hf := Option.some.inj hf
    subst hf
    exact cb_reti C hs dX8_keep_12
/-! ===== CardBecomeModel.logOne ===== -/
def f_X8_logOne (x1 : Int32) (σ : cb_St)  : Option (Int32) := cb_ck (0 ≤ Int32.toInt (27 + x1) ∧ Int32.toInt (27 + x1) < 51) (some ((σ.1 3 (Int32.toNatClampNeg (27 + x1))) / 8192))
set_option maxHeartbeats 4000000 in
set_option maxRecDepth 100000 in
theorem c_X8_logOne {x1 : Int32} {σ : cb_St}   {o : Int32} (hf : f_X8_logOne x1 σ = some o) : cb_M l yX8_logOne cX8_logOne 2 (some .int) 1 shM A T D σ [.ref (A 0), .int x1] (some (.int o)) σ := by
  refine cb_met (by decide +kernel) (Nat.le_of_ble_eq_true rfl) ?_
  intro p e s m below meth c C hs ls hl
  have hl : lv_has ls 2 [(0, .ref (A 0)), (1, .int x1)] := hl
  obtain ⟨hx, hb, hml, hr, hown, hts, hK, hlk, hN⟩ := id C
  unfold f_X8_logOne at hf
  refine lv_aload_n hx hb dX8_logOne_0 rfl (lv_at hl 0 rfl) ?_
  refine gf_X8_16 C hs rfl dX8_logOne_1 ?_
  refine lv_bipush (v := 27) hx hb dX8_logOne_4 (by decide) ?_
  refine lv_iload_n hx hb dX8_logOne_6 rfl (lv_at hl 1 rfl) ?_
  refine lv_iadd hx hb dX8_logOne_7 ?_
  obtain ⟨hc, hf⟩ := cb_ck_inv hf
  refine cb_iald C hs rfl (vp_in_iff.mpr hc) dX8_logOne_8 ?_
  refine lv_sipush (v := 8192) hx hb dX8_logOne_9 (by decide) ?_
  refine lv_idiv hx hb dX8_logOne_12 (by decide) ?_
  have hf := Option.some.inj hf
  subst hf
  exact cb_reti C hs dX8_logOne_13
/-! ===== CardBecomeModel.logOther ===== -/
def f_X8_logOther (x1 : Int32) (σ : cb_St)  : Option (Int32) := cb_ck (0 ≤ Int32.toInt (27 + x1) ∧ Int32.toInt (27 + x1) < 51) (some (((σ.1 3 (Int32.toNatClampNeg (27 + x1))) / 1024) - ((σ.1 3 (Int32.toNatClampNeg (27 + x1))) / 1024) / 8 * 8))
set_option maxHeartbeats 4000000 in
set_option maxRecDepth 100000 in
theorem c_X8_logOther {x1 : Int32} {σ : cb_St}   {o : Int32} (hf : f_X8_logOther x1 σ = some o) : cb_M l yX8_logOther cX8_logOther 2 (some .int) 1 shM A T D σ [.ref (A 0), .int x1] (some (.int o)) σ := by
  refine cb_met (by decide +kernel) (Nat.le_of_ble_eq_true rfl) ?_
  intro p e s m below meth c C hs ls hl
  have hl : lv_has ls 2 [(0, .ref (A 0)), (1, .int x1)] := hl
  obtain ⟨hx, hb, hml, hr, hown, hts, hK, hlk, hN⟩ := id C
  unfold f_X8_logOther at hf
  refine lv_aload_n hx hb dX8_logOther_0 rfl (lv_at hl 0 rfl) ?_
  refine gf_X8_16 C hs rfl dX8_logOther_1 ?_
  refine lv_bipush (v := 27) hx hb dX8_logOther_4 (by decide) ?_
  refine lv_iload_n hx hb dX8_logOther_6 rfl (lv_at hl 1 rfl) ?_
  refine lv_iadd hx hb dX8_logOther_7 ?_
  obtain ⟨hc, hf⟩ := cb_ck_inv hf
  refine cb_iald C hs rfl (vp_in_iff.mpr hc) dX8_logOther_8 ?_
  refine lv_sipush (v := 1024) hx hb dX8_logOther_9 (by decide) ?_
  refine lv_idiv hx hb dX8_logOther_12 (by decide) ?_
  refine lv_bipush (v := 8) hx hb dX8_logOther_13 (by decide) ?_
  refine lv_irem hx hb dX8_logOther_15 (by decide) ?_
  have hf := Option.some.inj hf
  subst hf
  exact cb_reti C hs dX8_logOther_16
/-! ===== CardBecomeModel.logged ===== -/
def f_X8_logged (x1 : Int32) (x2 : Int32) (σ : cb_St)  : Option (Int32) := cb_bp (f_X8_in (Int32.toInt64 x2) 0 2 σ) (fun r_1 => if r_1 = 0 then (some (-1000000002)) else (cb_ck (0 ≤ Int32.toInt 26 ∧ Int32.toInt 26 < 51) (cb_bp (f_X8_in (Int32.toInt64 x1) 0 (Int32.toInt64 ((σ.1 3 (Int32.toNatClampNeg 26)) - 1)) σ) (fun r_2 => if r_2 = 0 then (some (-1)) else (cb_ck (0 ≤ Int32.toInt 26 ∧ Int32.toInt 26 < 51) (cb_let (((σ.1 3 (Int32.toNatClampNeg 26)) - 1) - x1) (fun x3_2 => cb_bp (f_X8_logWon x3_2 σ) (fun r_4 => if x2 = 0 then (cb_bp (f_X8_logOne x3_2 σ) (fun r_8 => some r_8)) else (if x2 = 1 then (cb_bp (f_X8_logOther x3_2 σ) (fun r_7 => some r_7)) else (if r_4 = 0 then (cb_bp (f_X8_logOne x3_2 σ) (fun r_6 => some r_6)) else (if r_4 = 1 then (cb_bp (f_X8_logOther x3_2 σ) (fun r_5 => some r_5)) else (some (-1)))))))))))))
set_option maxHeartbeats 4000000 in
set_option maxRecDepth 100000 in
theorem c_X8_logged {x1 : Int32} {x2 : Int32} {σ : cb_St}   {o : Int32} (hf : f_X8_logged x1 x2 σ = some o) : cb_M l yX8_logged cX8_logged 5 (some .int) 2 shM A T D σ [.ref (A 0), .int x1, .int x2] (some (.int o)) σ := by
  refine cb_met (by decide +kernel) (Nat.le_of_ble_eq_true rfl) ?_
  intro p e s m below meth c C hs ls hl
  have hl : lv_has ls 5 [(0, .ref (A 0)), (1, .int x1), (2, .int x2)] := hl
  obtain ⟨hx, hb, hml, hr, hown, hts, hK, hlk, hN⟩ := id C
  unfold f_X8_logged at hf
  refine lv_iload_n hx hb dX8_logged_0 rfl (lv_at hl 2 rfl) ?_
  refine lv_i2l hx hb dX8_logged_1 rfl ?_
  refine lv_lconst (v := 0) hx hb dX8_logged_2 (by decide) ?_
  refine lv_ldc2 (v := 2) hx hb hown (hts _ kc_X8_216) dX8_logged_3 ?_
  obtain ⟨r_1, hc, hf⟩ := cb_bp_inv hf
  refine cb_callSi C (c_X8_in  hc) mw_X8_in ml_X8_78 rfl ⟨Nat.le_of_ble_eq_true rfl, Nat.le_of_ble_eq_true rfl⟩ hs hl rfl (Nat.le_of_ble_eq_true rfl) dX8_logged_6 (fun H locs hs => ?_)
  clear hc
  refine lv_if_ne (tgt := 15) hx hb dX8_logged_9 (by decide) (fun cn => ?_) (fun cn => ?_)
  · replace hf := cb_ifn cn hf
    refine lv_iload_n hx hb dX8_logged_15 rfl (lv_at hl 1 rfl) ?_
    refine lv_i2l hx hb dX8_logged_16 rfl ?_
    refine lv_lconst (v := 0) hx hb dX8_logged_17 (by decide) ?_
    refine lv_aload_n hx hb dX8_logged_18 rfl (lv_at hl 0 rfl) ?_
    refine gf_X8_16 C hs rfl dX8_logged_19 ?_
    refine lv_bipush (v := 26) hx hb dX8_logged_22 (by decide) ?_
    obtain ⟨hc, hf⟩ := cb_ck_inv hf
    refine cb_iald C hs rfl (vp_in_iff.mpr hc) dX8_logged_24 ?_
    refine lv_iconst (v := 1) hx hb dX8_logged_25 (by decide) ?_
    refine lv_isub hx hb dX8_logged_26 ?_
    refine lv_i2l hx hb dX8_logged_27 rfl ?_
    obtain ⟨r_2, hc, hf⟩ := cb_bp_inv hf
    refine cb_callSi C (c_X8_in  hc) mw_X8_in ml_X8_78 rfl ⟨Nat.le_of_ble_eq_true rfl, Nat.le_of_ble_eq_true rfl⟩ hs hl rfl (Nat.le_of_ble_eq_true rfl) dX8_logged_28 (fun H locs hs => ?_)
    clear hc
    refine lv_if_ne (tgt := 36) hx hb dX8_logged_31 (by decide) (fun cn => ?_) (fun cn => ?_)
    · replace hf := cb_ifn cn hf
      refine lv_aload_n hx hb dX8_logged_36 rfl (lv_at hl 0 rfl) ?_
      refine gf_X8_16 C hs rfl dX8_logged_37 ?_
      refine lv_bipush (v := 26) hx hb dX8_logged_40 (by decide) ?_
      obtain ⟨hc, hf⟩ := cb_ck_inv hf
      refine cb_iald C hs rfl (vp_in_iff.mpr hc) dX8_logged_42 ?_
      refine lv_iconst (v := 1) hx hb dX8_logged_43 (by decide) ?_
      refine lv_isub hx hb dX8_logged_44 ?_
      refine lv_iload_n hx hb dX8_logged_45 rfl (lv_at hl 1 rfl) ?_
      refine lv_isub hx hb dX8_logged_46 ?_
      obtain ⟨x3_2, e9, hf⟩ := cb_let_inv hf
      refine cb_topi e9 ?_
      clear e9
      refine lv_istore_n (lv' := [(3, .int x3_2), (0, .ref (A 0)), (1, .int x1), (2, .int x2)]) hx hb dX8_logged_47 rfl hl (by decide) rfl (fun ls hl => ?_)
      refine lv_aload_n hx hb dX8_logged_48 rfl (lv_at hl 1 rfl) ?_
      refine lv_iload_n hx hb dX8_logged_49 rfl (lv_at hl 0 rfl) ?_
      obtain ⟨r_4, hc, hf⟩ := cb_bp_inv hf
      refine cb_callVi C (c_X8_logWon  hc) mw_X8_logWon ml_X8_191 rfl ⟨Nat.le_of_ble_eq_true rfl, Nat.le_of_ble_eq_true rfl⟩ rfl (Nat.le_of_ble_eq_true rfl) rfl hs hl rfl (Nat.le_of_ble_eq_true rfl) dX8_logged_50 (fun H locs hs => ?_)
      clear hc
      refine lv_istore (lv' := [(4, .int r_4), (3, .int x3_2), (0, .ref (A 0)), (1, .int x1), (2, .int x2)]) hx hb dX8_logged_53 hl (by decide) rfl (fun ls hl => ?_)
      refine lv_iload_n hx hb dX8_logged_55 rfl (lv_at hl 4 rfl) ?_
      refine lv_if_ne (tgt := 67) hx hb dX8_logged_56 (by decide) (fun cn => ?_) (fun cn => ?_)
      · replace hf := cb_ifn cn hf
        refine lv_iload_n hx hb dX8_logged_67 rfl (lv_at hl 4 rfl) ?_
        refine lv_iconst (v := 1) hx hb dX8_logged_68 (by decide) ?_
        refine lv_icmp_ne (tgt := 80) hx hb dX8_logged_69 (by decide) (fun cn => ?_) (fun cn => ?_)
        · replace hf := cb_ifn cn hf
          refine lv_iload hx hb dX8_logged_80 (lv_at hl 0 rfl) ?_
          refine lv_if_ne (tgt := 93) hx hb dX8_logged_82 (by decide) (fun cn => ?_) (fun cn => ?_)
          · replace hf := cb_ifn cn hf
            refine lv_iload hx hb dX8_logged_93 (lv_at hl 0 rfl) ?_
            refine lv_iconst (v := 1) hx hb dX8_logged_95 (by decide) ?_
            refine lv_icmp_ne (tgt := 107) hx hb dX8_logged_96 (by decide) (fun cn => ?_) (fun cn => ?_)
            · replace hf := cb_ifn cn hf
              refine lv_iconst (v := (-1)) hx hb dX8_logged_107 (by decide) ?_
              have hf := Option.some.inj hf
              subst hf
              exact cb_reti C hs dX8_logged_108
            · replace hf := cb_ifp cn hf
              refine lv_aload_n hx hb dX8_logged_99 rfl (lv_at hl 2 rfl) ?_
              refine lv_iload_n hx hb dX8_logged_100 rfl (lv_at hl 1 rfl) ?_
              obtain ⟨r_5, hc, hf⟩ := cb_bp_inv hf
              refine cb_callVi C (c_X8_logOther  hc) mw_X8_logOther ml_X8_221 rfl ⟨Nat.le_of_ble_eq_true rfl, Nat.le_of_ble_eq_true rfl⟩ rfl (Nat.le_of_ble_eq_true rfl) rfl hs hl rfl (Nat.le_of_ble_eq_true rfl) dX8_logged_101 (fun H locs hs => ?_)
              clear hc
              refine lv_goto (tgt := 108) hx hb dX8_logged_104 (by decide) ?_
              have hf := Option.some.inj hf
              subst hf
              exact cb_reti C hs dX8_logged_108
          · replace hf := cb_ifp cn hf
            refine lv_aload_n hx hb dX8_logged_85 rfl (lv_at hl 2 rfl) ?_
            refine lv_iload_n hx hb dX8_logged_86 rfl (lv_at hl 1 rfl) ?_
            obtain ⟨r_6, hc, hf⟩ := cb_bp_inv hf
            refine cb_callVi C (c_X8_logOne  hc) mw_X8_logOne ml_X8_218 rfl ⟨Nat.le_of_ble_eq_true rfl, Nat.le_of_ble_eq_true rfl⟩ rfl (Nat.le_of_ble_eq_true rfl) rfl hs hl rfl (Nat.le_of_ble_eq_true rfl) dX8_logged_87 (fun H locs hs => ?_)
            clear hc
            refine lv_goto (tgt := 108) hx hb dX8_logged_90 (by decide) ?_
            have hf := Option.some.inj hf
            subst hf
            exact cb_reti C hs dX8_logged_108
        · replace hf := cb_ifp cn hf
          refine lv_aload_n hx hb dX8_logged_72 rfl (lv_at hl 2 rfl) ?_
          refine lv_iload_n hx hb dX8_logged_73 rfl (lv_at hl 1 rfl) ?_
          obtain ⟨r_7, hc, hf⟩ := cb_bp_inv hf
          refine cb_callVi C (c_X8_logOther  hc) mw_X8_logOther ml_X8_221 rfl ⟨Nat.le_of_ble_eq_true rfl, Nat.le_of_ble_eq_true rfl⟩ rfl (Nat.le_of_ble_eq_true rfl) rfl hs hl rfl (Nat.le_of_ble_eq_true rfl) dX8_logged_74 (fun H locs hs => ?_)
          clear hc
          refine lv_goto (tgt := 108) hx hb dX8_logged_77 (by decide) ?_
          have hf := Option.some.inj hf
          subst hf
          exact cb_reti C hs dX8_logged_108
      · replace hf := cb_ifp cn hf
        refine lv_aload_n hx hb dX8_logged_59 rfl (lv_at hl 2 rfl) ?_
        refine lv_iload_n hx hb dX8_logged_60 rfl (lv_at hl 1 rfl) ?_
        obtain ⟨r_8, hc, hf⟩ := cb_bp_inv hf
        refine cb_callVi C (c_X8_logOne  hc) mw_X8_logOne ml_X8_218 rfl ⟨Nat.le_of_ble_eq_true rfl, Nat.le_of_ble_eq_true rfl⟩ rfl (Nat.le_of_ble_eq_true rfl) rfl hs hl rfl (Nat.le_of_ble_eq_true rfl) dX8_logged_61 (fun H locs hs => ?_)
        clear hc
        refine lv_goto (tgt := 108) hx hb dX8_logged_64 (by decide) ?_
        have hf := Option.some.inj hf
        subst hf
        exact cb_reti C hs dX8_logged_108
    · replace hf := cb_ifp cn hf
      refine lv_iconst (v := (-1)) hx hb dX8_logged_34 (by decide) ?_
      have hf := Option.some.inj hf
      subst hf
      exact cb_reti C hs dX8_logged_35
  · replace hf := cb_ifp cn hf
    refine lv_ldc (v := (-1000000002)) hx hb hown (hts _ kc_X8_91) dX8_logged_12 ?_
    have hf := Option.some.inj hf
    subst hf
    exact cb_reti C hs dX8_logged_14
/-! ===== CardBecomeModel.meet ===== -/
def f_X8_meet (x1 : Int32) (x2 : Int32) (σ : cb_St) : Option (Int32 × cb_St) := cb_bp (f_X8_areTwo x1 x2 σ) (fun r_1 => if r_1 = 0 then (some ((-1000000001), σ)) else (cb_bv (f_X8_remember σ) (fun σ_2 => cb_bi (f_X8_meetNow x1 x2 σ_2) (fun r_3 σ_4 => some (r_3, σ_4)))))
set_option maxHeartbeats 4000000 in
set_option maxRecDepth 100000 in
theorem c_X8_meet {x1 : Int32} {x2 : Int32}  {σ : cb_St} {o : Int32 × cb_St} (hf : f_X8_meet x1 x2 σ = some o) : cb_M l yX8_meet cX8_meet 3 (some .int) 5 shM A T D σ [.ref (A 0), .int x1, .int x2] (some (.int o.1)) o.2 := by
  refine cb_met (by decide +kernel) (Nat.le_of_ble_eq_true rfl) ?_
  intro p e s m below meth c C hs ls hl
  have hl : lv_has ls 3 [(0, .ref (A 0)), (1, .int x1), (2, .int x2)] := hl
  obtain ⟨hx, hb, hml, hr, hown, hts, hK, hlk, hN⟩ := id C
  unfold f_X8_meet at hf
  refine lv_aload_n hx hb dX8_meet_0 rfl (lv_at hl 0 rfl) ?_
  refine lv_iload_n hx hb dX8_meet_1 rfl (lv_at hl 1 rfl) ?_
  refine lv_iload_n hx hb dX8_meet_2 rfl (lv_at hl 2 rfl) ?_
  obtain ⟨r_1, hc, hf⟩ := cb_bp_inv hf
  refine cb_callVi C (c_X8_areTwo  hc) mw_X8_areTwo ml_X8_242 rfl ⟨Nat.le_of_ble_eq_true rfl, Nat.le_of_ble_eq_true rfl⟩ rfl (Nat.le_of_ble_eq_true rfl) rfl hs hl rfl (Nat.le_of_ble_eq_true rfl) dX8_meet_3 (fun H locs hs => ?_)
  clear hc
  refine lv_if_ne (tgt := 12) hx hb dX8_meet_6 (by decide) (fun cn => ?_) (fun cn => ?_)
  · replace hf := cb_ifn cn hf
    refine lv_aload_n hx hb dX8_meet_12 rfl (lv_at hl 0 rfl) ?_
    obtain ⟨σ_2, hc, hf⟩ := cb_bv_inv hf
    refine cb_callVv C (c_X8_remember  hc) mw_X8_remember ml_X8_232 rfl ⟨Nat.le_of_ble_eq_true rfl, Nat.le_of_ble_eq_true rfl⟩ rfl (Nat.le_of_ble_eq_true rfl) rfl hs hl rfl (Nat.le_of_ble_eq_true rfl) dX8_meet_13 (fun H locs hs => ?_)
    clear hc
    refine lv_aload_n hx hb dX8_meet_16 rfl (lv_at hl 0 rfl) ?_
    refine lv_iload_n hx hb dX8_meet_17 rfl (lv_at hl 1 rfl) ?_
    refine lv_iload_n hx hb dX8_meet_18 rfl (lv_at hl 2 rfl) ?_
    obtain ⟨r_3, σ_4, hc, hf⟩ := cb_bi_inv hf
    refine cb_callVi C (c_X8_meetNow  hc) mw_X8_meetNow ml_X8_246 rfl ⟨Nat.le_of_ble_eq_true rfl, Nat.le_of_ble_eq_true rfl⟩ rfl (Nat.le_of_ble_eq_true rfl) rfl hs hl rfl (Nat.le_of_ble_eq_true rfl) dX8_meet_19 (fun H locs hs => ?_)
    clear hc
    have hf := Option.some.inj hf
    subst hf
    exact cb_reti C hs dX8_meet_22
  · replace hf := cb_ifp cn hf
    refine lv_ldc (v := (-1000000001)) hx hb hown (hts _ kc_X8_209) dX8_meet_9 ?_
    have hf := Option.some.inj hf
    subst hf
    exact cb_reti C hs dX8_meet_11
/-! ===== CardBecomeModel.missing ===== -/
def f_X8_missing_38 (K14 : Int32 → Int32 → Option (Int32)) (x1 : Int32) (σ : cb_St) (x2 : Int32) (x3 : Int32) : Option (Int32) := cb_let (x3 + 1) (fun x3_0 => K14 x2 x3_0)
set_option maxHeartbeats 4000000 in
set_option maxRecDepth 100000 in
theorem w_X8_missing_38 (C : cb_C p s m args meth c cX8_missing 4 (some .int) RX8 D T) {K14 : Int32 → Int32 → Option (Int32)} {x1 : Int32} {σ : cb_St} {o : Int32} (hK14 : ∀ (x2 : Int32) (x3 : Int32), K14 x2 x3 = some o → ∀ (H : Heap) (locs : List Loc) (ls : Array Slot), cb_H shM A T D σ s.heap H locs → lv_has ls 4 [(0, .ref (A 0)), (1, .int x1), (2, .int x2), (3, .int x3)] → cb_W p l e 2 s m args below meth c shM A T D (some (.int o)) σ H locs (F0 m 14 ls [])) {x2 : Int32} {x3 : Int32} (hf : f_X8_missing_38 K14 x1 σ x2 x3 = some o) {H : Heap} {locs : List Loc} {ls : Array Slot} (hs : cb_H shM A T D σ s.heap H locs) (hl : lv_has ls 4 [(0, .ref (A 0)), (1, .int x1), (2, .int x2), (3, .int x3)]) : cb_W p l e 2 s m args below meth c shM A T D (some (.int o)) σ H locs (F0 m 38 ls []) := by
  obtain ⟨hx, hb, hml, hr, hown, hts, hK, hlk, hN⟩ := id C
  unfold f_X8_missing_38 at hf
  obtain ⟨x3_0, e9, hf⟩ := cb_let_inv hf
  refine lv_iinc (v := x3_0) (lv' := [(3, .int x3_0), (0, .ref (A 0)), (1, .int x1), (2, .int x2)]) hx hb dX8_missing_38 hl (k := 3) rfl (by rw [e9]; rfl) (by decide) rfl (fun ls hl => ?_)
  clear e9
  refine lv_goto (tgt := 14) hx hb dX8_missing_41 (by decide) ?_
  exact hK14 _ _ hf _ _ _ hs (lv_sub hl [1, 2, 3, 0] rfl)
def f_X8_missing_14 (x1 : Int32) (σ : cb_St) : Nat → Int32 → Int32 → Option (Int32)
  | 0, _, _ => none
  | fu + 1, x2, x3 => if 52 ≤ x3 then (if x1 = (-1) then (some x2) else (some (-1))) else (cb_bp (f_X8_isTold x3 σ) (fun r_1 => if r_1 = 0 then (if x2 = x1 then (some x3) else (cb_let (x2 + 1) (fun x2_1 => f_X8_missing_38 (f_X8_missing_14 x1 σ fu) x1 σ x2_1 x3))) else (f_X8_missing_38 (f_X8_missing_14 x1 σ fu) x1 σ x2 x3)))
set_option maxHeartbeats 4000000 in
set_option maxRecDepth 100000 in
theorem w_X8_missing_14 (C : cb_C p s m args meth c cX8_missing 4 (some .int) RX8 D T) {x1 : Int32} {σ : cb_St} {o : Int32}  : ∀ (fu : Nat) (x2 : Int32) (x3 : Int32), f_X8_missing_14 x1 σ fu x2 x3 = some o → ∀ (H : Heap) (locs : List Loc) (ls : Array Slot), cb_H shM A T D σ s.heap H locs → lv_has ls 4 [(0, .ref (A 0)), (1, .int x1), (2, .int x2), (3, .int x3)] → cb_W p l e 2 s m args below meth c shM A T D (some (.int o)) σ H locs (F0 m 14 ls []) := by
  obtain ⟨hx, hb, hml, hr, hown, hts, hK, hlk, hN⟩ := id C
  intro fu
  induction fu with
  | zero =>
    intro x2 x3 hf
    rw [f_X8_missing_14] at hf
    cases hf
  | succ fu ih =>
    intro x2 x3 hf H locs ls hs hl
    rw [f_X8_missing_14] at hf
    refine lv_iload_n hx hb dX8_missing_14 rfl (lv_at hl 3 rfl) ?_
    refine lv_bipush (v := 52) hx hb dX8_missing_15 (by decide) ?_
    refine lv_icmp_ge (tgt := 44) hx hb dX8_missing_17 (by decide) (fun cn => ?_) (fun cn => ?_)
    · replace hf := cb_ifp cn hf
      refine lv_iload_n hx hb dX8_missing_44 rfl (lv_at hl 1 rfl) ?_
      refine lv_iconst (v := (-1)) hx hb dX8_missing_45 (by decide) ?_
      refine lv_icmp_ne (tgt := 53) hx hb dX8_missing_46 (by decide) (fun cn => ?_) (fun cn => ?_)
      · replace hf := cb_ifn cn hf
        refine lv_iconst (v := (-1)) hx hb dX8_missing_53 (by decide) ?_
        have hf := Option.some.inj hf
        subst hf
        exact cb_reti C hs dX8_missing_54
      · replace hf := cb_ifp cn hf
        refine lv_iload_n hx hb dX8_missing_49 rfl (lv_at hl 2 rfl) ?_
        refine lv_goto (tgt := 54) hx hb dX8_missing_50 (by decide) ?_
        have hf := Option.some.inj hf
        subst hf
        exact cb_reti C hs dX8_missing_54
    · replace hf := cb_ifn cn hf
      refine lv_aload_n hx hb dX8_missing_20 rfl (lv_at hl 0 rfl) ?_
      refine lv_iload_n hx hb dX8_missing_21 rfl (lv_at hl 3 rfl) ?_
      obtain ⟨r_1, hc, hf⟩ := cb_bp_inv hf
      refine cb_callVi C (c_X8_isTold  hc) mw_X8_isTold ml_X8_300 rfl ⟨Nat.le_of_ble_eq_true rfl, Nat.le_of_ble_eq_true rfl⟩ rfl (Nat.le_of_ble_eq_true rfl) rfl hs hl rfl (Nat.le_of_ble_eq_true rfl) dX8_missing_22 (fun H locs hs => ?_)
      clear hc
      refine lv_if_ne (tgt := 38) hx hb dX8_missing_25 (by decide) (fun cn => ?_) (fun cn => ?_)
      · replace hf := cb_ifn cn hf
        exact w_X8_missing_38 C ih hf hs (lv_sub hl [0, 1, 2, 3] rfl)
      · replace hf := cb_ifp cn hf
        refine lv_iload_n hx hb dX8_missing_28 rfl (lv_at hl 2 rfl) ?_
        refine lv_iload_n hx hb dX8_missing_29 rfl (lv_at hl 1 rfl) ?_
        refine lv_icmp_ne (tgt := 35) hx hb dX8_missing_30 (by decide) (fun cn => ?_) (fun cn => ?_)
        · replace hf := cb_ifn cn hf
          obtain ⟨x2_1, e9, hf⟩ := cb_let_inv hf
          refine lv_iinc (v := x2_1) (lv' := [(2, .int x2_1), (0, .ref (A 0)), (1, .int x1), (3, .int x3)]) hx hb dX8_missing_35 hl (k := 2) rfl (by rw [e9]; rfl) (by decide) rfl (fun ls hl => ?_)
          clear e9
          exact w_X8_missing_38 C ih hf hs (lv_sub hl [1, 2, 0, 3] rfl)
        · replace hf := cb_ifp cn hf
          refine lv_iload_n hx hb dX8_missing_33 rfl (lv_at hl 3 rfl) ?_
          have hf := Option.some.inj hf
          subst hf
          exact cb_reti C hs dX8_missing_34
def f_X8_missing (x1 : Int32) (σ : cb_St)  : Option (Int32) := if (σ.1 0 0) = 0 then (some (-1000000003)) else (f_X8_missing_14 x1 σ cb_fu 0 0)
set_option maxHeartbeats 4000000 in
set_option maxRecDepth 100000 in
theorem c_X8_missing {x1 : Int32} {σ : cb_St}   {o : Int32} (hf : f_X8_missing x1 σ = some o) : cb_M l yX8_missing cX8_missing 4 (some .int) 2 shM A T D σ [.ref (A 0), .int x1] (some (.int o)) σ := by
  refine cb_met (by decide +kernel) (Nat.le_of_ble_eq_true rfl) ?_
  intro p e s m below meth c C hs ls hl
  have hl : lv_has ls 4 [(0, .ref (A 0)), (1, .int x1)] := hl
  obtain ⟨hx, hb, hml, hr, hown, hts, hK, hlk, hN⟩ := id C
  unfold f_X8_missing at hf
  refine lv_aload_n hx hb dX8_missing_0 rfl (lv_at hl 0 rfl) ?_
  refine gf_X8_143 C hs rfl dX8_missing_1 ?_
  refine lv_if_ne (tgt := 10) hx hb dX8_missing_4 (by decide) (fun cn => ?_) (fun cn => ?_)
  · replace hf := cb_ifn cn hf
    refine lv_iconst (v := 0) hx hb dX8_missing_10 (by decide) ?_
    refine lv_istore_n (lv' := [(2, .int 0), (0, .ref (A 0)), (1, .int x1)]) hx hb dX8_missing_11 rfl hl (by decide) rfl (fun ls hl => ?_)
    refine lv_iconst (v := 0) hx hb dX8_missing_12 (by decide) ?_
    refine lv_istore_n (lv' := [(3, .int 0), (2, .int 0), (0, .ref (A 0)), (1, .int x1)]) hx hb dX8_missing_13 rfl hl (by decide) rfl (fun ls hl => ?_)
    exact w_X8_missing_14 C  cb_fu _ _ hf _ _ _ hs (lv_sub hl [2, 3, 1, 0] rfl)
  · replace hf := cb_ifp cn hf
    refine lv_ldc (v := (-1000000003)) hx hb hown (hts _ kc_X8_231) dX8_missing_7 ?_
    have hf := Option.some.inj hf
    subst hf
    exact cb_reti C hs dX8_missing_9
/-! ===== CardBecomeModel.odds ===== -/
def f_X8_odds_64 (K26 : Int32 → Int32 → Int32 → Option (Int32)) (x1 : Int32) (x2 : Int32) (σ : cb_St) (x3 : Int32) (x5 : Int32) (s0 : Int32) (s1 : Int32) : Option (Int32) := cb_let (s1 + s0) (fun x4_0 => cb_let (x5 + 1) (fun x5_1 => K26 x3 x4_0 x5_1))
set_option maxHeartbeats 4000000 in
set_option maxRecDepth 100000 in
theorem w_X8_odds_64 (C : cb_C p s m args meth c cX8_odds 6 (some .int) RX8 D T) {K26 : Int32 → Int32 → Int32 → Option (Int32)} {x1 : Int32} {x2 : Int32} {σ : cb_St} {o : Int32} (hK26 : ∀ (x3 : Int32) (x4 : Int32) (x5 : Int32), K26 x3 x4 x5 = some o → ∀ (H : Heap) (locs : List Loc) (ls : Array Slot), cb_H shM A T D σ s.heap H locs → lv_has ls 6 [(0, .ref (A 0)), (1, .int x1), (2, .int x2), (3, .int x3), (4, .int x4), (5, .int x5)] → cb_W p l e 4 s m args below meth c shM A T D (some (.int o)) σ H locs (F0 m 26 ls [])) {x3 : Int32} {x5 : Int32} {s0 : Int32} {s1 : Int32} (hf : f_X8_odds_64 K26 x1 x2 σ x3 x5 s0 s1 = some o) {H : Heap} {locs : List Loc} {ls : Array Slot} (hs : cb_H shM A T D σ s.heap H locs) (hl : lv_has ls 6 [(0, .ref (A 0)), (1, .int x1), (2, .int x2), (3, .int x3), (5, .int x5)]) : cb_W p l e 4 s m args below meth c shM A T D (some (.int o)) σ H locs (F0 m 64 ls [.int s0, .int s1]) := by
  obtain ⟨hx, hb, hml, hr, hown, hts, hK, hlk, hN⟩ := id C
  unfold f_X8_odds_64 at hf
  refine lv_iadd hx hb dX8_odds_64 ?_
  obtain ⟨x4_0, e9, hf⟩ := cb_let_inv hf
  refine cb_topi e9 ?_
  clear e9
  refine lv_istore (lv' := [(4, .int x4_0), (0, .ref (A 0)), (1, .int x1), (2, .int x2), (3, .int x3), (5, .int x5)]) hx hb dX8_odds_65 hl (by decide) rfl (fun ls hl => ?_)
  obtain ⟨x5_1, e9, hf⟩ := cb_let_inv hf
  refine lv_iinc (v := x5_1) (lv' := [(5, .int x5_1), (4, .int x4_0), (0, .ref (A 0)), (1, .int x1), (2, .int x2), (3, .int x3)]) hx hb dX8_odds_67 hl (k := 5) rfl (by rw [e9]; rfl) (by decide) rfl (fun ls hl => ?_)
  clear e9
  refine lv_goto (tgt := 26) hx hb dX8_odds_70 (by decide) ?_
  exact hK26 _ _ _ hf _ _ _ hs (lv_sub hl [2, 3, 4, 5, 1, 0] rfl)
def f_X8_odds_26 (x1 : Int32) (x2 : Int32) (σ : cb_St) : Nat → Int32 → Int32 → Int32 → Option (Int32)
  | 0, _, _, _ => none
  | fu + 1, x3, x4, x5 => if x3 ≤ x5 then (if x3 = 0 then (some 0) else (cb_ck (¬ x3 = 0) (some ((1000000 * x4) / x3)))) else (cb_ck (0 ≤ Int32.toInt (0 + x5) ∧ Int32.toInt (0 + x5) < 51) (cb_ck (0 ≤ Int32.toInt (13 + x2) ∧ Int32.toInt (13 + x2) < 51) (cb_bp (f_X8_meetBy (σ.1 3 (Int32.toNatClampNeg (0 + x5))) (σ.1 3 (Int32.toNatClampNeg (13 + x2))) σ) (fun r_1 => if r_1 = 0 then (f_X8_odds_64 (f_X8_odds_26 x1 x2 σ fu) x1 x2 σ x3 x5 1 x4) else (f_X8_odds_64 (f_X8_odds_26 x1 x2 σ fu) x1 x2 σ x3 x5 0 x4)))))
set_option maxHeartbeats 4000000 in
set_option maxRecDepth 100000 in
theorem w_X8_odds_26 (C : cb_C p s m args meth c cX8_odds 6 (some .int) RX8 D T) {x1 : Int32} {x2 : Int32} {σ : cb_St} {o : Int32}  : ∀ (fu : Nat) (x3 : Int32) (x4 : Int32) (x5 : Int32), f_X8_odds_26 x1 x2 σ fu x3 x4 x5 = some o → ∀ (H : Heap) (locs : List Loc) (ls : Array Slot), cb_H shM A T D σ s.heap H locs → lv_has ls 6 [(0, .ref (A 0)), (1, .int x1), (2, .int x2), (3, .int x3), (4, .int x4), (5, .int x5)] → cb_W p l e 4 s m args below meth c shM A T D (some (.int o)) σ H locs (F0 m 26 ls []) := by
  obtain ⟨hx, hb, hml, hr, hown, hts, hK, hlk, hN⟩ := id C
  intro fu
  induction fu with
  | zero =>
    intro x3 x4 x5 hf
    rw [f_X8_odds_26] at hf
    cases hf
  | succ fu ih =>
    intro x3 x4 x5 hf H locs ls hs hl
    rw [f_X8_odds_26] at hf
    refine lv_iload hx hb dX8_odds_26 (lv_at hl 5 rfl) ?_
    refine lv_iload_n hx hb dX8_odds_28 rfl (lv_at hl 3 rfl) ?_
    refine lv_icmp_ge (tgt := 73) hx hb dX8_odds_29 (by decide) (fun cn => ?_) (fun cn => ?_)
    · replace hf := cb_ifp cn hf
      refine lv_iload_n hx hb dX8_odds_73 rfl (lv_at hl 3 rfl) ?_
      refine lv_if_ne (tgt := 81) hx hb dX8_odds_74 (by decide) (fun cn => ?_) (fun cn => ?_)
      · replace hf := cb_ifn cn hf
        refine lv_ldcw (v := 1000000) hx hb hown (hts _ kc_X8_299) dX8_odds_81 ?_
        refine lv_iload hx hb dX8_odds_84 (lv_at hl 4 rfl) ?_
        refine lv_imul hx hb dX8_odds_86 ?_
        refine lv_iload_n hx hb dX8_odds_87 rfl (lv_at hl 3 rfl) ?_
        obtain ⟨hc, hf⟩ := cb_ck_inv hf
        refine lv_idiv hx hb dX8_odds_88 hc ?_
        have hf := Option.some.inj hf
        subst hf
        exact cb_reti C hs dX8_odds_89
      · replace hf := cb_ifp cn hf
        refine lv_iconst (v := 0) hx hb dX8_odds_77 (by decide) ?_
        refine lv_goto (tgt := 89) hx hb dX8_odds_78 (by decide) ?_
        have hf := Option.some.inj hf
        subst hf
        exact cb_reti C hs dX8_odds_89
    · replace hf := cb_ifn cn hf
      refine lv_iload hx hb dX8_odds_32 (lv_at hl 4 rfl) ?_
      refine lv_aload_n hx hb dX8_odds_34 rfl (lv_at hl 0 rfl) ?_
      refine lv_aload_n hx hb dX8_odds_35 rfl (lv_at hl 0 rfl) ?_
      refine gf_X8_16 C hs rfl dX8_odds_36 ?_
      refine lv_iconst (v := 0) hx hb dX8_odds_39 (by decide) ?_
      refine lv_iload hx hb dX8_odds_40 (lv_at hl 5 rfl) ?_
      refine lv_iadd hx hb dX8_odds_42 ?_
      obtain ⟨hc, hf⟩ := cb_ck_inv hf
      refine cb_iald C hs rfl (vp_in_iff.mpr hc) dX8_odds_43 ?_
      refine lv_aload_n hx hb dX8_odds_44 rfl (lv_at hl 0 rfl) ?_
      refine gf_X8_16 C hs rfl dX8_odds_45 ?_
      refine lv_bipush (v := 13) hx hb dX8_odds_48 (by decide) ?_
      refine lv_iload_n hx hb dX8_odds_50 rfl (lv_at hl 2 rfl) ?_
      refine lv_iadd hx hb dX8_odds_51 ?_
      obtain ⟨hc, hf⟩ := cb_ck_inv hf
      refine cb_iald C hs rfl (vp_in_iff.mpr hc) dX8_odds_52 ?_
      obtain ⟨r_1, hc, hf⟩ := cb_bp_inv hf
      refine cb_callVi C (c_X8_meetBy  hc) mw_X8_meetBy ml_X8_177 rfl ⟨Nat.le_of_ble_eq_true rfl, Nat.le_of_ble_eq_true rfl⟩ rfl (Nat.le_of_ble_eq_true rfl) rfl hs hl rfl (Nat.le_of_ble_eq_true rfl) dX8_odds_53 (fun H locs hs => ?_)
      clear hc
      refine lv_if_ne (tgt := 63) hx hb dX8_odds_56 (by decide) (fun cn => ?_) (fun cn => ?_)
      · replace hf := cb_ifn cn hf
        refine lv_iconst (v := 0) hx hb dX8_odds_63 (by decide) ?_
        exact w_X8_odds_64 C ih hf hs (lv_sub hl [0, 1, 2, 3, 5] rfl)
      · replace hf := cb_ifp cn hf
        refine lv_iconst (v := 1) hx hb dX8_odds_59 (by decide) ?_
        refine lv_goto (tgt := 64) hx hb dX8_odds_60 (by decide) ?_
        exact w_X8_odds_64 C ih hf hs (lv_sub hl [0, 1, 2, 3, 5] rfl)
def f_X8_odds (x1 : Int32) (x2 : Int32) (σ : cb_St)  : Option (Int32) := cb_bp (f_X8_areTwo x1 x2 σ) (fun r_1 => if r_1 = 0 then (some (-1000000001)) else (cb_ck (0 ≤ Int32.toInt 12 ∧ Int32.toInt 12 < 51) (cb_let (σ.1 3 (Int32.toNatClampNeg 12)) (fun x3_1 => f_X8_odds_26 x1 x2 σ cb_fu x3_1 0 0))))
set_option maxHeartbeats 4000000 in
set_option maxRecDepth 100000 in
theorem c_X8_odds {x1 : Int32} {x2 : Int32} {σ : cb_St}   {o : Int32} (hf : f_X8_odds x1 x2 σ = some o) : cb_M l yX8_odds cX8_odds 6 (some .int) 4 shM A T D σ [.ref (A 0), .int x1, .int x2] (some (.int o)) σ := by
  refine cb_met (by decide +kernel) (Nat.le_of_ble_eq_true rfl) ?_
  intro p e s m below meth c C hs ls hl
  have hl : lv_has ls 6 [(0, .ref (A 0)), (1, .int x1), (2, .int x2)] := hl
  obtain ⟨hx, hb, hml, hr, hown, hts, hK, hlk, hN⟩ := id C
  unfold f_X8_odds at hf
  refine lv_aload_n hx hb dX8_odds_0 rfl (lv_at hl 0 rfl) ?_
  refine lv_iload_n hx hb dX8_odds_1 rfl (lv_at hl 1 rfl) ?_
  refine lv_iload_n hx hb dX8_odds_2 rfl (lv_at hl 2 rfl) ?_
  obtain ⟨r_1, hc, hf⟩ := cb_bp_inv hf
  refine cb_callVi C (c_X8_areTwo  hc) mw_X8_areTwo ml_X8_242 rfl ⟨Nat.le_of_ble_eq_true rfl, Nat.le_of_ble_eq_true rfl⟩ rfl (Nat.le_of_ble_eq_true rfl) rfl hs hl rfl (Nat.le_of_ble_eq_true rfl) dX8_odds_3 (fun H locs hs => ?_)
  clear hc
  refine lv_if_ne (tgt := 12) hx hb dX8_odds_6 (by decide) (fun cn => ?_) (fun cn => ?_)
  · replace hf := cb_ifn cn hf
    refine lv_aload_n hx hb dX8_odds_12 rfl (lv_at hl 0 rfl) ?_
    refine gf_X8_16 C hs rfl dX8_odds_13 ?_
    refine lv_bipush (v := 12) hx hb dX8_odds_16 (by decide) ?_
    obtain ⟨hc, hf⟩ := cb_ck_inv hf
    refine cb_iald C hs rfl (vp_in_iff.mpr hc) dX8_odds_18 ?_
    obtain ⟨x3_1, e9, hf⟩ := cb_let_inv hf
    refine cb_topi e9 ?_
    clear e9
    refine lv_istore_n (lv' := [(3, .int x3_1), (0, .ref (A 0)), (1, .int x1), (2, .int x2)]) hx hb dX8_odds_19 rfl hl (by decide) rfl (fun ls hl => ?_)
    refine lv_iconst (v := 0) hx hb dX8_odds_20 (by decide) ?_
    refine lv_istore (lv' := [(4, .int 0), (3, .int x3_1), (0, .ref (A 0)), (1, .int x1), (2, .int x2)]) hx hb dX8_odds_21 hl (by decide) rfl (fun ls hl => ?_)
    refine lv_iconst (v := 0) hx hb dX8_odds_23 (by decide) ?_
    refine lv_istore (lv' := [(5, .int 0), (4, .int 0), (3, .int x3_1), (0, .ref (A 0)), (1, .int x1), (2, .int x2)]) hx hb dX8_odds_24 hl (by decide) rfl (fun ls hl => ?_)
    exact w_X8_odds_26 C  cb_fu _ _ _ hf _ _ _ hs (lv_sub hl [3, 4, 5, 2, 1, 0] rfl)
  · replace hf := cb_ifp cn hf
    refine lv_ldc (v := (-1000000001)) hx hb hown (hts _ kc_X8_209) dX8_odds_9 ?_
    have hf := Option.some.inj hf
    subst hf
    exact cb_reti C hs dX8_odds_11
/-! ===== CardBecomeModel.order ===== -/
def f_X8_order_133 (K59 : cb_St → Int32 → Int32 → Option (Int32 × cb_St)) (x1 : Int32) (σ : cb_St) (x2 : Int32) (x3 : Int32) : Option (Int32 × cb_St) := cb_let (x3 + 1) (fun x3_0 => K59 σ x2 x3_0)
set_option maxHeartbeats 4000000 in
set_option maxRecDepth 100000 in
theorem w_X8_order_133 (C : cb_C p s m args meth c cX8_order 6 (some .int) RX8 D T) {K59 : cb_St → Int32 → Int32 → Option (Int32 × cb_St)} {x1 : Int32} {o : Int32 × cb_St} (hK59 : ∀ (σ : cb_St) (x2 : Int32) (x3 : Int32), K59 σ x2 x3 = some o → ∀ (H : Heap) (locs : List Loc) (ls : Array Slot), cb_H shM A T D σ s.heap H locs → lv_has ls 6 [(0, .ref (A 0)), (1, .int x1), (2, .int x2), (3, .int x3)] → cb_W p l e 5 s m args below meth c shM A T D (some (.int o.1)) o.2 H locs (F0 m 59 ls [])) {σ : cb_St} {x2 : Int32} {x3 : Int32} (hf : f_X8_order_133 K59 x1 σ x2 x3 = some o) {H : Heap} {locs : List Loc} {ls : Array Slot} (hs : cb_H shM A T D σ s.heap H locs) (hl : lv_has ls 6 [(0, .ref (A 0)), (1, .int x1), (2, .int x2), (3, .int x3)]) : cb_W p l e 5 s m args below meth c shM A T D (some (.int o.1)) o.2 H locs (F0 m 133 ls []) := by
  obtain ⟨hx, hb, hml, hr, hown, hts, hK, hlk, hN⟩ := id C
  unfold f_X8_order_133 at hf
  obtain ⟨x3_0, e9, hf⟩ := cb_let_inv hf
  refine lv_iinc (v := x3_0) (lv' := [(3, .int x3_0), (0, .ref (A 0)), (1, .int x1), (2, .int x2)]) hx hb dX8_order_133 hl (k := 3) rfl (by rw [e9]; rfl) (by decide) rfl (fun ls hl => ?_)
  clear e9
  refine lv_goto (tgt := 59) hx hb dX8_order_136 (by decide) ?_
  exact hK59 _ _ _ hf _ _ _ hs (lv_sub hl [1, 2, 3, 0] rfl)
def f_X8_order_92 (x1 : Int32) : Nat → cb_St → Int32 → Int32 → Int32 → Int32 → Option (Int32 × cb_St)
  | 0, _, _, _, _, _ => none
  | fu + 1, σ, x2, x3, x4, x5 => if x2 ≤ x5 then (some (x4, σ)) else (cb_bp (f_X8_power 6 ((x2 - 1) - x5) σ) (fun r_1 => cb_ck (¬ r_1 = 0) (cb_let (((10 * x4) + ((x3 / r_1) - (x3 / r_1) / 6 * 6)) + 1) (fun x4_1 => cb_let (x5 + 1) (fun x5_2 => f_X8_order_92 x1 fu σ x2 x3 x4_1 x5_2)))))
set_option maxHeartbeats 4000000 in
set_option maxRecDepth 100000 in
theorem w_X8_order_92 (C : cb_C p s m args meth c cX8_order 6 (some .int) RX8 D T) {x1 : Int32} {o : Int32 × cb_St}  : ∀ (fu : Nat) (σ : cb_St) (x2 : Int32) (x3 : Int32) (x4 : Int32) (x5 : Int32), f_X8_order_92 x1 fu σ x2 x3 x4 x5 = some o → ∀ (H : Heap) (locs : List Loc) (ls : Array Slot), cb_H shM A T D σ s.heap H locs → lv_has ls 6 [(0, .ref (A 0)), (1, .int x1), (2, .int x2), (3, .int x3), (4, .int x4), (5, .int x5)] → cb_W p l e 5 s m args below meth c shM A T D (some (.int o.1)) o.2 H locs (F0 m 92 ls []) := by
  obtain ⟨hx, hb, hml, hr, hown, hts, hK, hlk, hN⟩ := id C
  intro fu
  induction fu with
  | zero =>
    intro σ x2 x3 x4 x5 hf
    rw [f_X8_order_92] at hf
    cases hf
  | succ fu ih =>
    intro σ x2 x3 x4 x5 hf H locs ls hs hl
    rw [f_X8_order_92] at hf
    refine lv_iload hx hb dX8_order_92 (lv_at hl 5 rfl) ?_
    refine lv_iload_n hx hb dX8_order_94 rfl (lv_at hl 2 rfl) ?_
    refine lv_icmp_ge (tgt := 130) hx hb dX8_order_95 (by decide) (fun cn => ?_) (fun cn => ?_)
    · replace hf := cb_ifp cn hf
      refine lv_iload hx hb dX8_order_130 (lv_at hl 4 rfl) ?_
      have hf := Option.some.inj hf
      subst hf
      exact cb_reti C hs dX8_order_132
    · replace hf := cb_ifn cn hf
      refine lv_bipush (v := 10) hx hb dX8_order_98 (by decide) ?_
      refine lv_iload hx hb dX8_order_100 (lv_at hl 4 rfl) ?_
      refine lv_imul hx hb dX8_order_102 ?_
      refine lv_iload_n hx hb dX8_order_103 rfl (lv_at hl 3 rfl) ?_
      refine lv_bipush (v := 6) hx hb dX8_order_104 (by decide) ?_
      refine lv_iload_n hx hb dX8_order_106 rfl (lv_at hl 2 rfl) ?_
      refine lv_iconst (v := 1) hx hb dX8_order_107 (by decide) ?_
      refine lv_isub hx hb dX8_order_108 ?_
      refine lv_iload hx hb dX8_order_109 (lv_at hl 5 rfl) ?_
      refine lv_isub hx hb dX8_order_111 ?_
      obtain ⟨r_1, hc, hf⟩ := cb_bp_inv hf
      refine cb_callSi C (c_X8_power  hc) mw_X8_power ml_X8_281 rfl ⟨Nat.le_of_ble_eq_true rfl, Nat.le_of_ble_eq_true rfl⟩ hs hl rfl (Nat.le_of_ble_eq_true rfl) dX8_order_112 (fun H locs hs => ?_)
      clear hc
      obtain ⟨hc, hf⟩ := cb_ck_inv hf
      refine lv_idiv hx hb dX8_order_115 hc ?_
      refine lv_bipush (v := 6) hx hb dX8_order_116 (by decide) ?_
      refine lv_irem hx hb dX8_order_118 (by decide) ?_
      refine lv_iadd hx hb dX8_order_119 ?_
      refine lv_iconst (v := 1) hx hb dX8_order_120 (by decide) ?_
      refine lv_iadd hx hb dX8_order_121 ?_
      obtain ⟨x4_1, e9, hf⟩ := cb_let_inv hf
      refine cb_topi e9 ?_
      clear e9
      refine lv_istore (lv' := [(4, .int x4_1), (0, .ref (A 0)), (1, .int x1), (2, .int x2), (3, .int x3), (5, .int x5)]) hx hb dX8_order_122 hl (by decide) rfl (fun ls hl => ?_)
      obtain ⟨x5_2, e9, hf⟩ := cb_let_inv hf
      refine lv_iinc (v := x5_2) (lv' := [(5, .int x5_2), (4, .int x4_1), (0, .ref (A 0)), (1, .int x1), (2, .int x2), (3, .int x3)]) hx hb dX8_order_124 hl (k := 5) rfl (by rw [e9]; rfl) (by decide) rfl (fun ls hl => ?_)
      clear e9
      refine lv_goto (tgt := 92) hx hb dX8_order_127 (by decide) ?_
      exact ih _ _ _ _ _ hf _ _ _ hs (lv_sub hl [2, 3, 4, 5, 1, 0] rfl)
def f_X8_order_59 (x1 : Int32) : Nat → cb_St → Int32 → Int32 → Option (Int32 × cb_St)
  | 0, _, _, _ => none
  | fu + 1, σ, x2, x3 => cb_bp (f_X8_power 6 x2 σ) (fun r_1 => if r_1 ≤ x3 then (some ((-1), σ)) else (cb_bi (f_X8_drawsBy x3 x2 σ) (fun r_2 σ_3 => if r_2 = 0 then (f_X8_order_133 (f_X8_order_59 x1 fu) x1 σ_3 x2 x3) else (cb_bp (f_X8_allBeat x1 σ_3) (fun r_4 => if r_4 = 0 then (f_X8_order_133 (f_X8_order_59 x1 fu) x1 σ_3 x2 x3) else (f_X8_order_92 x1 cb_fu σ_3 x2 x3 0 0))))))
set_option maxHeartbeats 4000000 in
set_option maxRecDepth 100000 in
theorem w_X8_order_59 (C : cb_C p s m args meth c cX8_order 6 (some .int) RX8 D T) {x1 : Int32} {o : Int32 × cb_St}  : ∀ (fu : Nat) (σ : cb_St) (x2 : Int32) (x3 : Int32), f_X8_order_59 x1 fu σ x2 x3 = some o → ∀ (H : Heap) (locs : List Loc) (ls : Array Slot), cb_H shM A T D σ s.heap H locs → lv_has ls 6 [(0, .ref (A 0)), (1, .int x1), (2, .int x2), (3, .int x3)] → cb_W p l e 5 s m args below meth c shM A T D (some (.int o.1)) o.2 H locs (F0 m 59 ls []) := by
  obtain ⟨hx, hb, hml, hr, hown, hts, hK, hlk, hN⟩ := id C
  intro fu
  induction fu with
  | zero =>
    intro σ x2 x3 hf
    rw [f_X8_order_59] at hf
    cases hf
  | succ fu ih =>
    intro σ x2 x3 hf H locs ls hs hl
    rw [f_X8_order_59] at hf
    refine lv_iload_n hx hb dX8_order_59 rfl (lv_at hl 3 rfl) ?_
    refine lv_bipush (v := 6) hx hb dX8_order_60 (by decide) ?_
    refine lv_iload_n hx hb dX8_order_62 rfl (lv_at hl 2 rfl) ?_
    obtain ⟨r_1, hc, hf⟩ := cb_bp_inv hf
    refine cb_callSi C (c_X8_power  hc) mw_X8_power ml_X8_281 rfl ⟨Nat.le_of_ble_eq_true rfl, Nat.le_of_ble_eq_true rfl⟩ hs hl rfl (Nat.le_of_ble_eq_true rfl) dX8_order_63 (fun H locs hs => ?_)
    clear hc
    refine lv_icmp_ge (tgt := 139) hx hb dX8_order_66 (by decide) (fun cn => ?_) (fun cn => ?_)
    · replace hf := cb_ifp cn hf
      refine lv_iconst (v := (-1)) hx hb dX8_order_139 (by decide) ?_
      have hf := Option.some.inj hf
      subst hf
      exact cb_reti C hs dX8_order_140
    · replace hf := cb_ifn cn hf
      refine lv_aload_n hx hb dX8_order_69 rfl (lv_at hl 0 rfl) ?_
      refine lv_iload_n hx hb dX8_order_70 rfl (lv_at hl 3 rfl) ?_
      refine lv_iload_n hx hb dX8_order_71 rfl (lv_at hl 2 rfl) ?_
      obtain ⟨r_2, σ_3, hc, hf⟩ := cb_bi_inv hf
      refine cb_callVi C (c_X8_drawsBy  hc) mw_X8_drawsBy ml_X8_284 rfl ⟨Nat.le_of_ble_eq_true rfl, Nat.le_of_ble_eq_true rfl⟩ rfl (Nat.le_of_ble_eq_true rfl) rfl hs hl rfl (Nat.le_of_ble_eq_true rfl) dX8_order_72 (fun H locs hs => ?_)
      clear hc
      refine lv_if_eq (tgt := 133) hx hb dX8_order_75 (by decide) (fun cn => ?_) (fun cn => ?_)
      · replace hf := cb_ifp cn hf
        exact w_X8_order_133 C ih hf hs (lv_sub hl [0, 1, 2, 3] rfl)
      · replace hf := cb_ifn cn hf
        refine lv_aload_n hx hb dX8_order_78 rfl (lv_at hl 0 rfl) ?_
        refine lv_iload_n hx hb dX8_order_79 rfl (lv_at hl 1 rfl) ?_
        obtain ⟨r_4, hc, hf⟩ := cb_bp_inv hf
        refine cb_callVi C (c_X8_allBeat  hc) mw_X8_allBeat ml_X8_287 rfl ⟨Nat.le_of_ble_eq_true rfl, Nat.le_of_ble_eq_true rfl⟩ rfl (Nat.le_of_ble_eq_true rfl) rfl hs hl rfl (Nat.le_of_ble_eq_true rfl) dX8_order_80 (fun H locs hs => ?_)
        clear hc
        refine lv_if_eq (tgt := 133) hx hb dX8_order_83 (by decide) (fun cn => ?_) (fun cn => ?_)
        · replace hf := cb_ifp cn hf
          exact w_X8_order_133 C ih hf hs (lv_sub hl [0, 1, 2, 3] rfl)
        · replace hf := cb_ifn cn hf
          refine lv_iconst (v := 0) hx hb dX8_order_86 (by decide) ?_
          refine lv_istore (lv' := [(4, .int 0), (0, .ref (A 0)), (1, .int x1), (2, .int x2), (3, .int x3)]) hx hb dX8_order_87 hl (by decide) rfl (fun ls hl => ?_)
          refine lv_iconst (v := 0) hx hb dX8_order_89 (by decide) ?_
          refine lv_istore (lv' := [(5, .int 0), (4, .int 0), (0, .ref (A 0)), (1, .int x1), (2, .int x2), (3, .int x3)]) hx hb dX8_order_90 hl (by decide) rfl (fun ls hl => ?_)
          exact w_X8_order_92 C  cb_fu _ _ _ _ _ hf _ _ _ hs (lv_sub hl [2, 3, 4, 5, 1, 0] rfl)
def f_X8_order_56 (x1 : Int32) (σ : cb_St) (s0 : Int32) : Option (Int32 × cb_St) := f_X8_order_59 x1 cb_fu σ s0 0
set_option maxHeartbeats 4000000 in
set_option maxRecDepth 100000 in
theorem w_X8_order_56 (C : cb_C p s m args meth c cX8_order 6 (some .int) RX8 D T) {x1 : Int32} {o : Int32 × cb_St}  {σ : cb_St} {s0 : Int32} (hf : f_X8_order_56 x1 σ s0 = some o) {H : Heap} {locs : List Loc} {ls : Array Slot} (hs : cb_H shM A T D σ s.heap H locs) (hl : lv_has ls 6 [(0, .ref (A 0)), (1, .int x1)]) : cb_W p l e 5 s m args below meth c shM A T D (some (.int o.1)) o.2 H locs (F0 m 56 ls [.int s0]) := by
  obtain ⟨hx, hb, hml, hr, hown, hts, hK, hlk, hN⟩ := id C
  unfold f_X8_order_56 at hf
  refine lv_istore_n (lv' := [(2, .int s0), (0, .ref (A 0)), (1, .int x1)]) hx hb dX8_order_56 rfl hl (by decide) rfl (fun ls hl => ?_)
  refine lv_iconst (v := 0) hx hb dX8_order_57 (by decide) ?_
  refine lv_istore_n (lv' := [(3, .int 0), (2, .int s0), (0, .ref (A 0)), (1, .int x1)]) hx hb dX8_order_58 rfl hl (by decide) rfl (fun ls hl => ?_)
  exact w_X8_order_59 C  cb_fu _ _ _ hf _ _ _ hs (lv_sub hl [2, 3, 1, 0] rfl)
def f_X8_order (x1 : Int32) (σ : cb_St) : Option (Int32 × cb_St) := cb_bp (f_X8_in (Int32.toInt64 x1) 0 (Int32.toInt64 ((1 <<< ((σ.1 0 7) &&& 31)) - 1)) σ) (fun r_1 => if r_1 = 0 then (some ((-1000000001), σ)) else (cb_bp (f_X8_whoAreCards σ) (fun r_2 => cb_bp (f_X8_bits r_2 σ) (fun r_3 => cb_let ((σ.1 0 7) - r_3) (fun x2_3 => cb_ck (0 ≤ Int32.toInt 12 ∧ Int32.toInt 12 < 51) (if (σ.1 3 (Int32.toNatClampNeg 12)) ≤ x2_3 then (cb_ck (0 ≤ Int32.toInt 12 ∧ Int32.toInt 12 < 51) (f_X8_order_56 x1 σ (σ.1 3 (Int32.toNatClampNeg 12)))) else (f_X8_order_56 x1 σ x2_3)))))))
set_option maxHeartbeats 4000000 in
set_option maxRecDepth 100000 in
theorem c_X8_order {x1 : Int32}  {σ : cb_St} {o : Int32 × cb_St} (hf : f_X8_order x1 σ = some o) : cb_M l yX8_order cX8_order 6 (some .int) 5 shM A T D σ [.ref (A 0), .int x1] (some (.int o.1)) o.2 := by
  refine cb_met (by decide +kernel) (Nat.le_of_ble_eq_true rfl) ?_
  intro p e s m below meth c C hs ls hl
  have hl : lv_has ls 6 [(0, .ref (A 0)), (1, .int x1)] := hl
  obtain ⟨hx, hb, hml, hr, hown, hts, hK, hlk, hN⟩ := id C
  unfold f_X8_order at hf
  refine lv_iload_n hx hb dX8_order_0 rfl (lv_at hl 1 rfl) ?_
  refine lv_i2l hx hb dX8_order_1 rfl ?_
  refine lv_lconst (v := 0) hx hb dX8_order_2 (by decide) ?_
  refine lv_iconst (v := 1) hx hb dX8_order_3 (by decide) ?_
  refine lv_aload_n hx hb dX8_order_4 rfl (lv_at hl 0 rfl) ?_
  refine gf_X8_75 C hs rfl dX8_order_5 ?_
  refine lv_ishl hx hb dX8_order_8 ?_
  refine lv_iconst (v := 1) hx hb dX8_order_9 (by decide) ?_
  refine lv_isub hx hb dX8_order_10 ?_
  refine lv_i2l hx hb dX8_order_11 rfl ?_
  obtain ⟨r_1, hc, hf⟩ := cb_bp_inv hf
  refine cb_callSi C (c_X8_in  hc) mw_X8_in ml_X8_78 rfl ⟨Nat.le_of_ble_eq_true rfl, Nat.le_of_ble_eq_true rfl⟩ hs hl rfl (Nat.le_of_ble_eq_true rfl) dX8_order_12 (fun H locs hs => ?_)
  clear hc
  refine lv_if_ne (tgt := 21) hx hb dX8_order_15 (by decide) (fun cn => ?_) (fun cn => ?_)
  · replace hf := cb_ifn cn hf
    refine lv_aload_n hx hb dX8_order_21 rfl (lv_at hl 0 rfl) ?_
    refine gf_X8_75 C hs rfl dX8_order_22 ?_
    refine lv_aload_n hx hb dX8_order_25 rfl (lv_at hl 0 rfl) ?_
    obtain ⟨r_2, hc, hf⟩ := cb_bp_inv hf
    refine cb_callVi C (c_X8_whoAreCards  hc) mw_X8_whoAreCards ml_X8_197 rfl ⟨Nat.le_of_ble_eq_true rfl, Nat.le_of_ble_eq_true rfl⟩ rfl (Nat.le_of_ble_eq_true rfl) rfl hs hl rfl (Nat.le_of_ble_eq_true rfl) dX8_order_26 (fun H locs hs => ?_)
    clear hc
    obtain ⟨r_3, hc, hf⟩ := cb_bp_inv hf
    refine cb_callSi C (c_X8_bits  hc) mw_X8_bits ml_X8_184 rfl ⟨Nat.le_of_ble_eq_true rfl, Nat.le_of_ble_eq_true rfl⟩ hs hl rfl (Nat.le_of_ble_eq_true rfl) dX8_order_29 (fun H locs hs => ?_)
    clear hc
    refine lv_isub hx hb dX8_order_32 ?_
    obtain ⟨x2_3, e9, hf⟩ := cb_let_inv hf
    refine cb_topi e9 ?_
    clear e9
    refine lv_istore_n (lv' := [(2, .int x2_3), (0, .ref (A 0)), (1, .int x1)]) hx hb dX8_order_33 rfl hl (by decide) rfl (fun ls hl => ?_)
    refine lv_iload_n hx hb dX8_order_34 rfl (lv_at hl 0 rfl) ?_
    refine lv_aload_n hx hb dX8_order_35 rfl (lv_at hl 1 rfl) ?_
    refine gf_X8_16 C hs rfl dX8_order_36 ?_
    refine lv_bipush (v := 12) hx hb dX8_order_39 (by decide) ?_
    obtain ⟨hc, hf⟩ := cb_ck_inv hf
    refine cb_iald C hs rfl (vp_in_iff.mpr hc) dX8_order_41 ?_
    refine lv_icmp_ge (tgt := 49) hx hb dX8_order_42 (by decide) (fun cn => ?_) (fun cn => ?_)
    · replace hf := cb_ifp cn hf
      refine lv_aload_n hx hb dX8_order_49 rfl (lv_at hl 1 rfl) ?_
      refine gf_X8_16 C hs rfl dX8_order_50 ?_
      refine lv_bipush (v := 12) hx hb dX8_order_53 (by decide) ?_
      obtain ⟨hc, hf⟩ := cb_ck_inv hf
      refine cb_iald C hs rfl (vp_in_iff.mpr hc) dX8_order_55 ?_
      exact w_X8_order_56 C  hf hs (lv_sub hl [1, 2] rfl)
    · replace hf := cb_ifn cn hf
      refine lv_iload_n hx hb dX8_order_45 rfl (lv_at hl 0 rfl) ?_
      refine lv_goto (tgt := 56) hx hb dX8_order_46 (by decide) ?_
      exact w_X8_order_56 C  hf hs (lv_sub hl [1, 2] rfl)
  · replace hf := cb_ifp cn hf
    refine lv_ldc (v := (-1000000001)) hx hb hown (hts _ kc_X8_209) dX8_order_18 ?_
    have hf := Option.some.inj hf
    subst hf
    exact cb_reti C hs dX8_order_20
/-! ===== CardBecomeModel.out ===== -/
def f_X8_out (x1 : Int32) (σ : cb_St) : Option (Int32 × cb_St) := cb_bp (f_X8_isCard x1 σ) (fun r_1 => if r_1 = 0 then (some ((-1000000001), σ)) else (cb_ck (0 ≤ Int32.toInt 25 ∧ Int32.toInt 25 < 51) (cb_bp (f_X8_has (σ.1 3 (Int32.toNatClampNeg 25)) x1 σ) (fun r_2 => if r_2 = 0 then (some ((-1000000003), σ)) else (cb_bv (f_X8_remember σ) (fun σ_3 => cb_ck (0 ≤ Int32.toInt 25 ∧ Int32.toInt 25 < 51) (cb_ck (0 ≤ Int32.toInt 25 ∧ Int32.toInt 25 < 51) (cb_let (cb_sI σ_3 3 (Int32.toNatClampNeg 25) ((σ_3.1 3 (Int32.toNatClampNeg 25)) &&& ((1 <<< (x1 &&& 31)) ^^^ (-1)))) (fun σ_4 => cb_bv (f_X8_layBelow x1 σ_4) (fun σ_5 => cb_ck (0 ≤ Int32.toInt 12 ∧ Int32.toInt 12 < 51) (some (σ_5.1 3 (Int32.toNatClampNeg 12), σ_5))))))))))))
set_option maxHeartbeats 4000000 in
set_option maxRecDepth 100000 in
theorem c_X8_out {x1 : Int32}  {σ : cb_St} {o : Int32 × cb_St} (hf : f_X8_out x1 σ = some o) : cb_M l yX8_out cX8_out 2 (some .int) 3 shM A T D σ [.ref (A 0), .int x1] (some (.int o.1)) o.2 := by
  refine cb_met (by decide +kernel) (Nat.le_of_ble_eq_true rfl) ?_
  intro p e s m below meth c C hs ls hl
  have hl : lv_has ls 2 [(0, .ref (A 0)), (1, .int x1)] := hl
  obtain ⟨hx, hb, hml, hr, hown, hts, hK, hlk, hN⟩ := id C
  unfold f_X8_out at hf
  refine lv_aload_n hx hb dX8_out_0 rfl (lv_at hl 0 rfl) ?_
  refine lv_iload_n hx hb dX8_out_1 rfl (lv_at hl 1 rfl) ?_
  obtain ⟨r_1, hc, hf⟩ := cb_bp_inv hf
  refine cb_callVi C (c_X8_isCard  hc) mw_X8_isCard ml_X8_206 rfl ⟨Nat.le_of_ble_eq_true rfl, Nat.le_of_ble_eq_true rfl⟩ rfl (Nat.le_of_ble_eq_true rfl) rfl hs hl rfl (Nat.le_of_ble_eq_true rfl) dX8_out_2 (fun H locs hs => ?_)
  clear hc
  refine lv_if_ne (tgt := 11) hx hb dX8_out_5 (by decide) (fun cn => ?_) (fun cn => ?_)
  · replace hf := cb_ifn cn hf
    refine lv_aload_n hx hb dX8_out_11 rfl (lv_at hl 0 rfl) ?_
    refine gf_X8_16 C hs rfl dX8_out_12 ?_
    refine lv_bipush (v := 25) hx hb dX8_out_15 (by decide) ?_
    obtain ⟨hc, hf⟩ := cb_ck_inv hf
    refine cb_iald C hs rfl (vp_in_iff.mpr hc) dX8_out_17 ?_
    refine lv_iload_n hx hb dX8_out_18 rfl (lv_at hl 1 rfl) ?_
    obtain ⟨r_2, hc, hf⟩ := cb_bp_inv hf
    refine cb_callSi C (c_X8_has  hc) mw_X8_has ml_X8_256 rfl ⟨Nat.le_of_ble_eq_true rfl, Nat.le_of_ble_eq_true rfl⟩ hs hl rfl (Nat.le_of_ble_eq_true rfl) dX8_out_19 (fun H locs hs => ?_)
    clear hc
    refine lv_if_ne (tgt := 28) hx hb dX8_out_22 (by decide) (fun cn => ?_) (fun cn => ?_)
    · replace hf := cb_ifn cn hf
      refine lv_aload_n hx hb dX8_out_28 rfl (lv_at hl 0 rfl) ?_
      obtain ⟨σ_3, hc, hf⟩ := cb_bv_inv hf
      refine cb_callVv C (c_X8_remember  hc) mw_X8_remember ml_X8_232 rfl ⟨Nat.le_of_ble_eq_true rfl, Nat.le_of_ble_eq_true rfl⟩ rfl (Nat.le_of_ble_eq_true rfl) rfl hs hl rfl (Nat.le_of_ble_eq_true rfl) dX8_out_29 (fun H locs hs => ?_)
      clear hc
      refine lv_aload_n hx hb dX8_out_32 rfl (lv_at hl 0 rfl) ?_
      refine gf_X8_16 C hs rfl dX8_out_33 ?_
      refine lv_bipush (v := 25) hx hb dX8_out_36 (by decide) ?_
      refine lv_dup2_11 hx hb dX8_out_38 rfl rfl ?_
      obtain ⟨hc, hf⟩ := cb_ck_inv hf
      refine cb_iald C hs rfl (vp_in_iff.mpr hc) dX8_out_39 ?_
      refine lv_iconst (v := 1) hx hb dX8_out_40 (by decide) ?_
      refine lv_iload_n hx hb dX8_out_41 rfl (lv_at hl 1 rfl) ?_
      refine lv_ishl hx hb dX8_out_42 ?_
      refine lv_iconst (v := (-1)) hx hb dX8_out_43 (by decide) ?_
      refine lv_ixor hx hb dX8_out_44 ?_
      refine lv_iand hx hb dX8_out_45 ?_
      obtain ⟨hc, hf⟩ := cb_ck_inv hf
      refine cb_iast C hs rfl (vp_in_iff.mpr hc) dX8_out_46 (fun H locs hs => ?_)
      obtain ⟨σ_4, e9, hf⟩ := cb_let_inv hf
      replace hs := cb_Hc e9 hs
      clear e9
      refine lv_aload_n hx hb dX8_out_47 rfl (lv_at hl 0 rfl) ?_
      refine lv_iload_n hx hb dX8_out_48 rfl (lv_at hl 1 rfl) ?_
      obtain ⟨σ_5, hc, hf⟩ := cb_bv_inv hf
      refine cb_callVv C (c_X8_layBelow  hc) mw_X8_layBelow ml_X8_224 rfl ⟨Nat.le_of_ble_eq_true rfl, Nat.le_of_ble_eq_true rfl⟩ rfl (Nat.le_of_ble_eq_true rfl) rfl hs hl rfl (Nat.le_of_ble_eq_true rfl) dX8_out_49 (fun H locs hs => ?_)
      clear hc
      refine lv_aload_n hx hb dX8_out_52 rfl (lv_at hl 0 rfl) ?_
      refine gf_X8_16 C hs rfl dX8_out_53 ?_
      refine lv_bipush (v := 12) hx hb dX8_out_56 (by decide) ?_
      obtain ⟨hc, hf⟩ := cb_ck_inv hf
      refine cb_iald C hs rfl (vp_in_iff.mpr hc) dX8_out_58 ?_
      have hf := Option.some.inj hf
      subst hf
      exact cb_reti C hs dX8_out_59
    · replace hf := cb_ifp cn hf
      refine lv_ldc (v := (-1000000003)) hx hb hown (hts _ kc_X8_231) dX8_out_25 ?_
      have hf := Option.some.inj hf
      subst hf
      exact cb_reti C hs dX8_out_27
  · replace hf := cb_ifp cn hf
    refine lv_ldc (v := (-1000000001)) hx hb hown (hts _ kc_X8_209) dX8_out_8 ?_
    have hf := Option.some.inj hf
    subst hf
    exact cb_reti C hs dX8_out_10
end
