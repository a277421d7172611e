section
variable {p : Program} {l : Launch} {e : Env} {s : State} {m : MethodId} {args : Array Value} {below : List Frame} {meth : Method} {c : Code} {A : Nat → Nat} {T : Nat → ClassId} {D : va_G}
/-! ===== CardBecomeModel.pack ===== -/
def f_X8_pack (x1 : Int32) (σ : cb_St)  : Option (Int32) := cb_ck (0 ≤ Int32.toInt 12 ∧ Int32.toInt 12 < 51) (cb_bp (f_X8_in (Int32.toInt64 x1) 0 (Int32.toInt64 ((σ.1 3 (Int32.toNatClampNeg 12)) - 1)) σ) (fun r_1 => if r_1 = 0 then (some (-1)) else (cb_ck (0 ≤ Int32.toInt (0 + x1) ∧ Int32.toInt (0 + x1) < 51) (some (σ.1 3 (Int32.toNatClampNeg (0 + x1)))))))
set_option maxHeartbeats 4000000 in
set_option maxRecDepth 100000 in
theorem c_X8_pack {x1 : Int32} {σ : cb_St}   {o : Int32} (hf : f_X8_pack x1 σ = some o) : cb_M l yX8_pack cX8_pack 2 (some .int) 2 shM A T D σ [.ref (A 0), .int x1] (some (.int o)) σ := by
  refine cb_met (by decide +kernel) (Nat.le_of_ble_eq_true rfl) ?_
  intro p e s m below meth c C hs ls hl
  have hl : lv_has ls 2 [(0, .ref (A 0)), (1, .int x1)] := hl
  obtain ⟨hx, hb, hml, hr, hown, hts, hK, hlk, hN⟩ := id C
  unfold f_X8_pack at hf
  refine lv_iload_n hx hb dX8_pack_0 rfl (lv_at hl 1 rfl) ?_
  refine lv_i2l hx hb dX8_pack_1 rfl ?_
  refine lv_lconst (v := 0) hx hb dX8_pack_2 (by decide) ?_
  refine lv_aload_n hx hb dX8_pack_3 rfl (lv_at hl 0 rfl) ?_
  refine gf_X8_16 C hs rfl dX8_pack_4 ?_
  refine lv_bipush (v := 12) hx hb dX8_pack_7 (by decide) ?_
  obtain ⟨hc, hf⟩ := cb_ck_inv hf
  refine cb_iald C hs rfl (vp_in_iff.mpr hc) dX8_pack_9 ?_
  refine lv_iconst (v := 1) hx hb dX8_pack_10 (by decide) ?_
  refine lv_isub hx hb dX8_pack_11 ?_
  refine lv_i2l hx hb dX8_pack_12 rfl ?_
  obtain ⟨r_1, hc, hf⟩ := cb_bp_inv hf
  refine cb_callSi C (c_X8_in  hc) mw_X8_in ml_X8_78 rfl ⟨Nat.le_of_ble_eq_true rfl, Nat.le_of_ble_eq_true rfl⟩ hs hl rfl (Nat.le_of_ble_eq_true rfl) dX8_pack_13 (fun H locs hs => ?_)
  clear hc
  refine lv_if_eq (tgt := 30) hx hb dX8_pack_16 (by decide) (fun cn => ?_) (fun cn => ?_)
  · replace hf := cb_ifp cn hf
    refine lv_iconst (v := (-1)) hx hb dX8_pack_30 (by decide) ?_
    have hf := Option.some.inj hf
    subst hf
    exact cb_reti C hs dX8_pack_31
  · replace hf := cb_ifn cn hf
    refine lv_aload_n hx hb dX8_pack_19 rfl (lv_at hl 0 rfl) ?_
    refine gf_X8_16 C hs rfl dX8_pack_20 ?_
    refine lv_iconst (v := 0) hx hb dX8_pack_23 (by decide) ?_
    refine lv_iload_n hx hb dX8_pack_24 rfl (lv_at hl 1 rfl) ?_
    refine lv_iadd hx hb dX8_pack_25 ?_
    obtain ⟨hc, hf⟩ := cb_ck_inv hf
    refine cb_iald C hs rfl (vp_in_iff.mpr hc) dX8_pack_26 ?_
    refine lv_goto (tgt := 31) hx hb dX8_pack_27 (by decide) ?_
    have hf := Option.some.inj hf
    subst hf
    exact cb_reti C hs dX8_pack_31
/-! ===== CardBecomeModel.person ===== -/
def f_X8_person (x1 : Int32) (x2 : Int32) (σ : cb_St)  : Option (Int32) := cb_bp (f_X8_isPerson x1 σ) (fun r_1 => if r_1 = 0 then (some (-1000000001)) else (if x2 = 0 then (cb_ck (0 ≤ Int32.toInt (13 + x1) ∧ Int32.toInt (13 + x1) < 51) (some (σ.1 3 (Int32.toNatClampNeg (13 + x1))))) else (if x2 = 1 then (cb_ck (0 ≤ Int32.toInt (19 + x1) ∧ Int32.toInt (19 + x1) < 51) (some (σ.1 3 (Int32.toNatClampNeg (19 + x1))))) else (if x2 = 2 then (cb_bp (f_X8_beatenBy x1 σ) (fun r_2 => some r_2)) else (some (-1000000002))))))
set_option maxHeartbeats 4000000 in
set_option maxRecDepth 100000 in
theorem c_X8_person {x1 : Int32} {x2 : Int32} {σ : cb_St}   {o : Int32} (hf : f_X8_person x1 x2 σ = some o) : cb_M l yX8_person cX8_person 3 (some .int) 5 shM A T D σ [.ref (A 0), .int x1, .int x2] (some (.int o)) σ := by
  refine cb_met (by decide +kernel) (Nat.le_of_ble_eq_true rfl) ?_
  intro p e s m below meth c C hs ls hl
  have hl : lv_has ls 3 [(0, .ref (A 0)), (1, .int x1), (2, .int x2)] := hl
  obtain ⟨hx, hb, hml, hr, hown, hts, hK, hlk, hN⟩ := id C
  unfold f_X8_person at hf
  refine lv_aload_n hx hb dX8_person_0 rfl (lv_at hl 0 rfl) ?_
  refine lv_iload_n hx hb dX8_person_1 rfl (lv_at hl 1 rfl) ?_
  obtain ⟨r_1, hc, hf⟩ := cb_bp_inv hf
  refine cb_callVi C (c_X8_isPerson  hc) mw_X8_isPerson ml_X8_82 rfl ⟨Nat.le_of_ble_eq_true rfl, Nat.le_of_ble_eq_true rfl⟩ rfl (Nat.le_of_ble_eq_true rfl) rfl hs hl rfl (Nat.le_of_ble_eq_true rfl) dX8_person_2 (fun H locs hs => ?_)
  clear hc
  refine lv_if_ne (tgt := 11) hx hb dX8_person_5 (by decide) (fun cn => ?_) (fun cn => ?_)
  · replace hf := cb_ifn cn hf
    refine lv_iload_n hx hb dX8_person_11 rfl (lv_at hl 2 rfl) ?_
    by_cases cn0 : x2 = 0
    · replace hf := cb_ifp cn0 hf
      refine lv_tableIn (tgt := 40) hx hb dX8_person_12 (by rw [cn0]; decide) (by rw [cn0]; decide) (by rw [cn0]; rfl) (by decide) ?_
      refine lv_aload_n hx hb dX8_person_40 rfl (lv_at hl 0 rfl) ?_
      refine gf_X8_16 C hs rfl dX8_person_41 ?_
      refine lv_bipush (v := 13) hx hb dX8_person_44 (by decide) ?_
      refine lv_iload_n hx hb dX8_person_46 rfl (lv_at hl 1 rfl) ?_
      refine lv_iadd hx hb dX8_person_47 ?_
      obtain ⟨hc, hf⟩ := cb_ck_inv hf
      refine cb_iald C hs rfl (vp_in_iff.mpr hc) dX8_person_48 ?_
      have hf := Option.some.inj hf
      subst hf
      exact cb_reti C hs dX8_person_49
    replace hf := cb_ifn cn0 hf
    by_cases cn1 : x2 = 1
    · replace hf := cb_ifp cn1 hf
      refine lv_tableIn (tgt := 50) hx hb dX8_person_12 (by rw [cn1]; decide) (by rw [cn1]; decide) (by rw [cn1]; rfl) (by decide) ?_
      refine lv_aload_n hx hb dX8_person_50 rfl (lv_at hl 0 rfl) ?_
      refine gf_X8_16 C hs rfl dX8_person_51 ?_
      refine lv_bipush (v := 19) hx hb dX8_person_54 (by decide) ?_
      refine lv_iload_n hx hb dX8_person_56 rfl (lv_at hl 1 rfl) ?_
      refine lv_iadd hx hb dX8_person_57 ?_
      obtain ⟨hc, hf⟩ := cb_ck_inv hf
      refine cb_iald C hs rfl (vp_in_iff.mpr hc) dX8_person_58 ?_
      have hf := Option.some.inj hf
      subst hf
      exact cb_reti C hs dX8_person_59
    replace hf := cb_ifn cn1 hf
    by_cases cn2 : x2 = 2
    · replace hf := cb_ifp cn2 hf
      refine lv_tableIn (tgt := 60) hx hb dX8_person_12 (by rw [cn2]; decide) (by rw [cn2]; decide) (by rw [cn2]; rfl) (by decide) ?_
      refine lv_aload_n hx hb dX8_person_60 rfl (lv_at hl 0 rfl) ?_
      refine lv_iload_n hx hb dX8_person_61 rfl (lv_at hl 1 rfl) ?_
      obtain ⟨r_2, hc, hf⟩ := cb_bp_inv hf
      refine cb_callVi C (c_X8_beatenBy  hc) mw_X8_beatenBy ml_X8_180 rfl ⟨Nat.le_of_ble_eq_true rfl, Nat.le_of_ble_eq_true rfl⟩ rfl (Nat.le_of_ble_eq_true rfl) rfl hs hl rfl (Nat.le_of_ble_eq_true rfl) dX8_person_62 (fun H locs hs => ?_)
      clear hc
      have hf := Option.some.inj hf
      subst hf
      exact cb_reti C hs dX8_person_65
    replace hf := cb_ifn cn2 hf
    refine lv_tableOut (tgt := 66) hx hb dX8_person_12 (by have g0 := lv_neT cn0 (show Int32.toInt 0 = 0 by decide); have g1 := lv_neT cn1 (show Int32.toInt 1 = 1 by decide); have g2 := lv_neT cn2 (show Int32.toInt 2 = 2 by decide); omega) (by decide) ?_
    refine lv_ldc (v := (-1000000002)) hx hb hown (hts _ kc_X8_91) dX8_person_66 ?_
    have hf := Option.some.inj hf
    subst hf
    exact cb_reti C hs dX8_person_68
  · replace hf := cb_ifp cn hf
    refine lv_ldc (v := (-1000000001)) hx hb hown (hts _ kc_X8_209) dX8_person_8 ?_
    have hf := Option.some.inj hf
    subst hf
    exact cb_reti C hs dX8_person_10
/-! ===== CardBecomeModel.rings ===== -/
def f_X8_rings_68 (K4 : Int32 → Int32 → Option (Int32)) (x1 : Int32) (σ : cb_St) (x2 : Int32) (x3 : Int32) : Option (Int32) := cb_let (x3 + 1) (fun x3_0 => K4 x2 x3_0)
set_option maxHeartbeats 4000000 in
set_option maxRecDepth 100000 in
theorem w_X8_rings_68 (C : cb_C p s m args meth c cX8_rings 7 (some .int) RX8 D T) {K4 : Int32 → Int32 → Option (Int32)} {x1 : Int32} {σ : cb_St} {o : Int32} (hK4 : ∀ (x2 : Int32) (x3 : Int32), K4 x2 x3 = some o → ∀ (H : Heap) (locs : List Loc) (ls : Array Slot), cb_H shM A T D σ s.heap H locs → lv_has ls 7 [(0, .ref (A 0)), (1, .int x1), (2, .int x2), (3, .int x3)] → cb_W p l e 6 s m args below meth c shM A T D (some (.int o)) σ H locs (F0 m 4 ls [])) {x2 : Int32} {x3 : Int32} (hf : f_X8_rings_68 K4 x1 σ x2 x3 = some o) {H : Heap} {locs : List Loc} {ls : Array Slot} (hs : cb_H shM A T D σ s.heap H locs) (hl : lv_has ls 7 [(0, .ref (A 0)), (1, .int x1), (2, .int x2), (3, .int x3)]) : cb_W p l e 6 s m args below meth c shM A T D (some (.int o)) σ H locs (F0 m 68 ls []) := by
  obtain ⟨hx, hb, hml, hr, hown, hts, hK, hlk, hN⟩ := id C
  unfold f_X8_rings_68 at hf
  obtain ⟨x3_0, e9, hf⟩ := cb_let_inv hf
  refine lv_iinc (v := x3_0) (lv' := [(3, .int x3_0), (0, .ref (A 0)), (1, .int x1), (2, .int x2)]) hx hb dX8_rings_68 hl (k := 3) rfl (by rw [e9]; rfl) (by decide) rfl (fun ls hl => ?_)
  clear e9
  refine lv_goto (tgt := 4) hx hb dX8_rings_71 (by decide) ?_
  exact hK4 _ _ hf _ _ _ hs (lv_sub hl [1, 2, 3, 0] rfl)
def f_X8_rings_4 (x1 : Int32) (σ : cb_St) : Nat → Int32 → Int32 → Option (Int32)
  | 0, _, _ => none
  | fu + 1, x2, x3 => if 216 ≤ x3 then (if x1 = (-1) then (some x2) else (some (-1))) else (cb_let (x3 / 36) (fun x4_0 => cb_let ((x3 / 6) - (x3 / 6) / 6 * 6) (fun x5_1 => cb_let (x3 - x3 / 6 * 6) (fun x6_2 => cb_bp (f_X8_isRing x4_0 x5_1 x6_2 σ) (fun r_4 => if r_4 = 0 then (f_X8_rings_68 (f_X8_rings_4 x1 σ fu) x1 σ x2 x3) else (if x2 = x1 then (some (((100 * x4_0) + (10 * x5_1)) + x6_2)) else (cb_let (x2 + 1) (fun x2_4 => f_X8_rings_68 (f_X8_rings_4 x1 σ fu) x1 σ x2_4 x3))))))))
set_option maxHeartbeats 4000000 in
set_option maxRecDepth 100000 in
theorem w_X8_rings_4 (C : cb_C p s m args meth c cX8_rings 7 (some .int) RX8 D T) {x1 : Int32} {σ : cb_St} {o : Int32}  : ∀ (fu : Nat) (x2 : Int32) (x3 : Int32), f_X8_rings_4 x1 σ fu x2 x3 = some o → ∀ (H : Heap) (locs : List Loc) (ls : Array Slot), cb_H shM A T D σ s.heap H locs → lv_has ls 7 [(0, .ref (A 0)), (1, .int x1), (2, .int x2), (3, .int x3)] → cb_W p l e 6 s m args below meth c shM A T D (some (.int o)) σ H locs (F0 m 4 ls []) := by
  obtain ⟨hx, hb, hml, hr, hown, hts, hK, hlk, hN⟩ := id C
  intro fu
  induction fu with
  | zero =>
    intro x2 x3 hf
    rw [f_X8_rings_4] at hf
    cases hf
  | succ fu ih =>
    intro x2 x3 hf H locs ls hs hl
    rw [f_X8_rings_4] at hf
    refine lv_iload_n hx hb dX8_rings_4 rfl (lv_at hl 3 rfl) ?_
    refine lv_sipush (v := 216) hx hb dX8_rings_5 (by decide) ?_
    refine lv_icmp_ge (tgt := 74) hx hb dX8_rings_8 (by decide) (fun cn => ?_) (fun cn => ?_)
    · replace hf := cb_ifp cn hf
      refine lv_iload_n hx hb dX8_rings_74 rfl (lv_at hl 1 rfl) ?_
      refine lv_iconst (v := (-1)) hx hb dX8_rings_75 (by decide) ?_
      refine lv_icmp_ne (tgt := 83) hx hb dX8_rings_76 (by decide) (fun cn => ?_) (fun cn => ?_)
      · replace hf := cb_ifn cn hf
        refine lv_iconst (v := (-1)) hx hb dX8_rings_83 (by decide) ?_
        have hf := Option.some.inj hf
        subst hf
        exact cb_reti C hs dX8_rings_84
      · replace hf := cb_ifp cn hf
        refine lv_iload_n hx hb dX8_rings_79 rfl (lv_at hl 2 rfl) ?_
        refine lv_goto (tgt := 84) hx hb dX8_rings_80 (by decide) ?_
        have hf := Option.some.inj hf
        subst hf
        exact cb_reti C hs dX8_rings_84
    · replace hf := cb_ifn cn hf
      refine lv_iload_n hx hb dX8_rings_11 rfl (lv_at hl 3 rfl) ?_
      refine lv_bipush (v := 36) hx hb dX8_rings_12 (by decide) ?_
      refine lv_idiv hx hb dX8_rings_14 (by decide) ?_
      obtain ⟨x4_0, e9, hf⟩ := cb_let_inv hf
      refine cb_topi e9 ?_
      clear e9
      refine lv_istore (lv' := [(4, .int x4_0), (0, .ref (A 0)), (1, .int x1), (2, .int x2), (3, .int x3)]) hx hb dX8_rings_15 hl (by decide) rfl (fun ls hl => ?_)
      refine lv_iload_n hx hb dX8_rings_17 rfl (lv_at hl 4 rfl) ?_
      refine lv_bipush (v := 6) hx hb dX8_rings_18 (by decide) ?_
      refine lv_idiv hx hb dX8_rings_20 (by decide) ?_
      refine lv_bipush (v := 6) hx hb dX8_rings_21 (by decide) ?_
      refine lv_irem hx hb dX8_rings_23 (by decide) ?_
      obtain ⟨x5_1, e9, hf⟩ := cb_let_inv hf
      refine cb_topi e9 ?_
      clear e9
      refine lv_istore (lv' := [(5, .int x5_1), (4, .int x4_0), (0, .ref (A 0)), (1, .int x1), (2, .int x2), (3, .int x3)]) hx hb dX8_rings_24 hl (by decide) rfl (fun ls hl => ?_)
      refine lv_iload_n hx hb dX8_rings_26 rfl (lv_at hl 5 rfl) ?_
      refine lv_bipush (v := 6) hx hb dX8_rings_27 (by decide) ?_
      refine lv_irem hx hb dX8_rings_29 (by decide) ?_
      obtain ⟨x6_2, e9, hf⟩ := cb_let_inv hf
      refine cb_topi e9 ?_
      clear e9
      refine lv_istore (lv' := [(6, .int x6_2), (5, .int x5_1), (4, .int x4_0), (0, .ref (A 0)), (1, .int x1), (2, .int x2), (3, .int x3)]) hx hb dX8_rings_30 hl (by decide) rfl (fun ls hl => ?_)
      refine lv_aload_n hx hb dX8_rings_32 rfl (lv_at hl 3 rfl) ?_
      refine lv_iload hx hb dX8_rings_33 (lv_at hl 2 rfl) ?_
      refine lv_iload hx hb dX8_rings_35 (lv_at hl 1 rfl) ?_
      refine lv_iload hx hb dX8_rings_37 (lv_at hl 0 rfl) ?_
      obtain ⟨r_4, hc, hf⟩ := cb_bp_inv hf
      refine cb_callVi C (c_X8_isRing  hc) mw_X8_isRing ml_X8_277 rfl ⟨Nat.le_of_ble_eq_true rfl, Nat.le_of_ble_eq_true rfl⟩ rfl (Nat.le_of_ble_eq_true rfl) rfl hs hl rfl (Nat.le_of_ble_eq_true rfl) dX8_rings_39 (fun H locs hs => ?_)
      clear hc
      refine lv_if_eq (tgt := 68) hx hb dX8_rings_42 (by decide) (fun cn => ?_) (fun cn => ?_)
      · replace hf := cb_ifp cn hf
        exact w_X8_rings_68 C ih hf hs (lv_sub hl [3, 4, 5, 6] rfl)
      · replace hf := cb_ifn cn hf
        refine lv_iload_n hx hb dX8_rings_45 rfl (lv_at hl 5 rfl) ?_
        refine lv_iload_n hx hb dX8_rings_46 rfl (lv_at hl 4 rfl) ?_
        refine lv_icmp_ne (tgt := 65) hx hb dX8_rings_47 (by decide) (fun cn => ?_) (fun cn => ?_)
        · replace hf := cb_ifn cn hf
          obtain ⟨x2_4, e9, hf⟩ := cb_let_inv hf
          refine lv_iinc (v := x2_4) (lv' := [(2, .int x2_4), (6, .int x6_2), (5, .int x5_1), (4, .int x4_0), (0, .ref (A 0)), (1, .int x1), (3, .int x3)]) hx hb dX8_rings_65 hl (k := 5) rfl (by rw [e9]; rfl) (by decide) rfl (fun ls hl => ?_)
          clear e9
          exact w_X8_rings_68 C ih hf hs (lv_sub hl [4, 5, 0, 6] rfl)
        · replace hf := cb_ifp cn hf
          refine lv_bipush (v := 100) hx hb dX8_rings_50 (by decide) ?_
          refine lv_iload hx hb dX8_rings_52 (lv_at hl 2 rfl) ?_
          refine lv_imul hx hb dX8_rings_54 ?_
          refine lv_bipush (v := 10) hx hb dX8_rings_55 (by decide) ?_
          refine lv_iload hx hb dX8_rings_57 (lv_at hl 1 rfl) ?_
          refine lv_imul hx hb dX8_rings_59 ?_
          refine lv_iadd hx hb dX8_rings_60 ?_
          refine lv_iload hx hb dX8_rings_61 (lv_at hl 0 rfl) ?_
          refine lv_iadd hx hb dX8_rings_63 ?_
          have hf := Option.some.inj hf
          subst hf
          exact cb_reti C hs dX8_rings_64
def f_X8_rings (x1 : Int32) (σ : cb_St)  : Option (Int32) := f_X8_rings_4 x1 σ cb_fu 0 0
set_option maxHeartbeats 4000000 in
set_option maxRecDepth 100000 in
theorem c_X8_rings {x1 : Int32} {σ : cb_St}   {o : Int32} (hf : f_X8_rings x1 σ = some o) : cb_M l yX8_rings cX8_rings 7 (some .int) 6 shM A T D σ [.ref (A 0), .int x1] (some (.int o)) σ := by
  refine cb_met (by decide +kernel) (Nat.le_of_ble_eq_true rfl) ?_
  intro p e s m below meth c C hs ls hl
  have hl : lv_has ls 7 [(0, .ref (A 0)), (1, .int x1)] := hl
  obtain ⟨hx, hb, hml, hr, hown, hts, hK, hlk, hN⟩ := id C
  unfold f_X8_rings at hf
  refine lv_iconst (v := 0) hx hb dX8_rings_0 (by decide) ?_
  refine lv_istore_n (lv' := [(2, .int 0), (0, .ref (A 0)), (1, .int x1)]) hx hb dX8_rings_1 rfl hl (by decide) rfl (fun ls hl => ?_)
  refine lv_iconst (v := 0) hx hb dX8_rings_2 (by decide) ?_
  refine lv_istore_n (lv' := [(3, .int 0), (2, .int 0), (0, .ref (A 0)), (1, .int x1)]) hx hb dX8_rings_3 rfl hl (by decide) rfl (fun ls hl => ?_)
  exact w_X8_rings_4 C  cb_fu _ _ hf _ _ _ hs (lv_sub hl [2, 3, 1, 0] rfl)
/-! ===== CardBecomeModel.row ===== -/
def f_X8_row_155 (x1 : Int32) (x2 : Int32) (x3 : Int32) (σ : cb_St) : Option (Int32 × cb_St) := some ((-1), σ)
set_option maxHeartbeats 4000000 in
set_option maxRecDepth 100000 in
theorem w_X8_row_155 (C : cb_C p s m args meth c cX8_row 7 (some .int) RX8 D T) {x1 : Int32} {x2 : Int32} {x3 : Int32} {o : Int32 × cb_St}  {σ : cb_St} (hf : f_X8_row_155 x1 x2 x3 σ = some o) {H : Heap} {locs : List Loc} {ls : Array Slot} (hs : cb_H shM A T D σ s.heap H locs) (hl : lv_has ls 7 [(0, .ref (A 0)), (1, .int x1), (2, .int x2), (3, .int x3)]) : cb_W p l e 3 s m args below meth c shM A T D (some (.int o.1)) o.2 H locs (F0 m 155 ls []) := by
  obtain ⟨hx, hb, hml, hr, hown, hts, hK, hlk, hN⟩ := id C
  unfold f_X8_row_155 at hf
  refine lv_iconst (v := (-1)) hx hb dX8_row_155 (by decide) ?_
  have hf := Option.some.inj hf
  subst hf
  exact cb_reti C hs dX8_row_156
def f_X8_row_104 (x1 : Int32) (x2 : Int32) (x3 : Int32) : Nat → cb_St → Int32 → Int32 → Int32 → Option (Int32 × cb_St)
  | 0, _, _, _, _ => none
  | fu + 1, σ, x4, x5, x6 => if 3 ≤ x6 then (f_X8_row_155 x1 x2 x3 σ) else (cb_ck (0 ≤ Int32.toInt x4 ∧ Int32.toInt x4 < 12) (if (σ.1 11 (Int32.toNatClampNeg x4)) ≤ 0 then (f_X8_row_155 x1 x2 x3 σ) else (cb_bp (f_X8_goes x4 x6 x5 σ) (fun r_1 => cb_ck (0 ≤ Int32.toInt r_1 ∧ Int32.toInt r_1 < 12) (cb_ck (0 ≤ Int32.toInt x4 ∧ Int32.toInt x4 < 12) (if (σ.1 11 (Int32.toNatClampNeg r_1)) = ((σ.1 11 (Int32.toNatClampNeg x4)) - 1) then (some (x6, σ)) else (cb_let (x6 + 1) (fun x6_1 => f_X8_row_104 x1 x2 x3 fu σ x4 x5 x6_1))))))))
set_option maxHeartbeats 4000000 in
set_option maxRecDepth 100000 in
theorem w_X8_row_104 (C : cb_C p s m args meth c cX8_row 7 (some .int) RX8 D T) {x1 : Int32} {x2 : Int32} {x3 : Int32} {o : Int32 × cb_St}  : ∀ (fu : Nat) (σ : cb_St) (x4 : Int32) (x5 : Int32) (x6 : Int32), f_X8_row_104 x1 x2 x3 fu σ x4 x5 x6 = some o → ∀ (H : Heap) (locs : List Loc) (ls : Array Slot), cb_H shM A T D σ s.heap H locs → lv_has ls 7 [(0, .ref (A 0)), (1, .int x1), (2, .int x2), (3, .int x3), (4, .int x4), (5, .int x5), (6, .int x6)] → cb_W p l e 3 s m args below meth c shM A T D (some (.int o.1)) o.2 H locs (F0 m 104 ls []) := by
  obtain ⟨hx, hb, hml, hr, hown, hts, hK, hlk, hN⟩ := id C
  intro fu
  induction fu with
  | zero =>
    intro σ x4 x5 x6 hf
    rw [f_X8_row_104] at hf
    cases hf
  | succ fu ih =>
    intro σ x4 x5 x6 hf H locs ls hs hl
    rw [f_X8_row_104] at hf
    refine lv_iload hx hb dX8_row_104 (lv_at hl 6 rfl) ?_
    refine lv_iconst (v := 3) hx hb dX8_row_106 (by decide) ?_
    refine lv_icmp_ge (tgt := 155) hx hb dX8_row_107 (by decide) (fun cn => ?_) (fun cn => ?_)
    · replace hf := cb_ifp cn hf
      exact w_X8_row_155 C  hf hs (lv_sub hl [0, 1, 2, 3] rfl)
    · replace hf := cb_ifn cn hf
      refine lv_aload_n hx hb dX8_row_110 rfl (lv_at hl 0 rfl) ?_
      refine gf_X8_44 C hs rfl dX8_row_111 ?_
      refine lv_iload hx hb dX8_row_114 (lv_at hl 4 rfl) ?_
      obtain ⟨hc, hf⟩ := cb_ck_inv hf
      refine cb_iald C hs rfl (vp_in_iff.mpr hc) dX8_row_116 ?_
      refine lv_if_le (tgt := 155) hx hb dX8_row_117 (by decide) (fun cn => ?_) (fun cn => ?_)
      · replace hf := cb_ifp cn hf
        exact w_X8_row_155 C  hf hs (lv_sub hl [0, 1, 2, 3] rfl)
      · replace hf := cb_ifn cn hf
        refine lv_aload_n hx hb dX8_row_120 rfl (lv_at hl 0 rfl) ?_
        refine gf_X8_44 C hs rfl dX8_row_121 ?_
        refine lv_iload hx hb dX8_row_124 (lv_at hl 4 rfl) ?_
        refine lv_iload hx hb dX8_row_126 (lv_at hl 6 rfl) ?_
        refine lv_iload hx hb dX8_row_128 (lv_at hl 5 rfl) ?_
        obtain ⟨r_1, hc, hf⟩ := cb_bp_inv hf
        refine cb_callSi C (c_X8_goes  hc) mw_X8_goes ml_X8_249 rfl ⟨Nat.le_of_ble_eq_true rfl, Nat.le_of_ble_eq_true rfl⟩ hs hl rfl (Nat.le_of_ble_eq_true rfl) dX8_row_130 (fun H locs hs => ?_)
        clear hc
        obtain ⟨hc, hf⟩ := cb_ck_inv hf
        refine cb_iald C hs rfl (vp_in_iff.mpr hc) dX8_row_133 ?_
        refine lv_aload_n hx hb dX8_row_134 rfl (lv_at hl 0 rfl) ?_
        refine gf_X8_44 C hs rfl dX8_row_135 ?_
        refine lv_iload hx hb dX8_row_138 (lv_at hl 4 rfl) ?_
        obtain ⟨hc, hf⟩ := cb_ck_inv hf
        refine cb_iald C hs rfl (vp_in_iff.mpr hc) dX8_row_140 ?_
        refine lv_iconst (v := 1) hx hb dX8_row_141 (by decide) ?_
        refine lv_isub hx hb dX8_row_142 ?_
        refine lv_icmp_ne (tgt := 149) hx hb dX8_row_143 (by decide) (fun cn => ?_) (fun cn => ?_)
        · replace hf := cb_ifn cn hf
          obtain ⟨x6_1, e9, hf⟩ := cb_let_inv hf
          refine lv_iinc (v := x6_1) (lv' := [(6, .int x6_1), (0, .ref (A 0)), (1, .int x1), (2, .int x2), (3, .int x3), (4, .int x4), (5, .int x5)]) hx hb dX8_row_149 hl (k := 6) rfl (by rw [e9]; rfl) (by decide) rfl (fun ls hl => ?_)
          clear e9
          refine lv_goto (tgt := 104) hx hb dX8_row_152 (by decide) ?_
          exact ih _ _ _ _ hf _ _ _ hs (lv_sub hl [1, 2, 3, 4, 5, 6, 0] rfl)
        · replace hf := cb_ifp cn hf
          refine lv_iload hx hb dX8_row_146 (lv_at hl 6 rfl) ?_
          have hf := Option.some.inj hf
          subst hf
          exact cb_reti C hs dX8_row_148
def f_X8_row_33 (x1 : Int32) (x2 : Int32) (x3 : Int32) (σ : cb_St) : Option (Int32 × cb_St) := some ((-1000000002), σ)
set_option maxHeartbeats 4000000 in
set_option maxRecDepth 100000 in
theorem w_X8_row_33 (C : cb_C p s m args meth c cX8_row 7 (some .int) RX8 D T) {x1 : Int32} {x2 : Int32} {x3 : Int32} {o : Int32 × cb_St}  {σ : cb_St} (hf : f_X8_row_33 x1 x2 x3 σ = some o) {H : Heap} {locs : List Loc} {ls : Array Slot} (hs : cb_H shM A T D σ s.heap H locs) (hl : lv_has ls 7 [(0, .ref (A 0)), (1, .int x1), (2, .int x2), (3, .int x3)]) : cb_W p l e 3 s m args below meth c shM A T D (some (.int o.1)) o.2 H locs (F0 m 33 ls []) := by
  obtain ⟨hx, hb, hml, hr, hown, hts, hK, hlk, hN⟩ := id C
  unfold f_X8_row_33 at hf
  refine lv_ldc (v := (-1000000002)) hx hb hown (hts _ kc_X8_91) dX8_row_33 ?_
  have hf := Option.some.inj hf
  subst hf
  exact cb_reti C hs dX8_row_35
def f_X8_row (x1 : Int32) (x2 : Int32) (x3 : Int32) (σ : cb_St) : Option (Int32 × cb_St) := cb_bp (f_X8_isCard x1 σ) (fun r_1 => if r_1 = 0 then (some ((-1000000001), σ)) else (cb_bp (f_X8_in (Int32.toInt64 x2) 0 11 σ) (fun r_2 => if r_2 = 0 then (f_X8_row_33 x1 x2 x3 σ) else (cb_bp (f_X8_in (Int32.toInt64 x3) 0 1 σ) (fun r_3 => if r_3 = 0 then (f_X8_row_33 x1 x2 x3 σ) else (cb_bp (f_X8_placeOf x1 σ) (fun r_4 => if 0 ≤ r_4 then (cb_ck (0 ≤ Int32.toInt 12 ∧ Int32.toInt 12 < 51) (cb_let (σ.1 3 (Int32.toNatClampNeg 12)) (fun x5_4 => if x2 < x5_4 then (cb_bv (f_X8_findAway x2 x5_4 σ) (fun σ_6 => cb_ck (0 ≤ Int32.toInt r_4 ∧ Int32.toInt r_4 < 12) (if (σ_6.1 11 (Int32.toNatClampNeg r_4)) = 99 then (some ((-1), σ_6)) else (if x3 = 0 then (cb_ck (0 ≤ Int32.toInt r_4 ∧ Int32.toInt r_4 < 12) (some (σ_6.1 11 (Int32.toNatClampNeg r_4), σ_6))) else (f_X8_row_104 x1 x2 x3 cb_fu σ_6 r_4 x5_4 0))))) else (some ((-1), σ))))) else (some ((-1000000003), σ)))))))))
set_option maxHeartbeats 4000000 in
set_option maxRecDepth 100000 in
theorem c_X8_row {x1 : Int32} {x2 : Int32} {x3 : Int32}  {σ : cb_St} {o : Int32 × cb_St} (hf : f_X8_row x1 x2 x3 σ = some o) : cb_M l yX8_row cX8_row 7 (some .int) 3 shM A T D σ [.ref (A 0), .int x1, .int x2, .int x3] (some (.int o.1)) o.2 := by
  refine cb_met (by decide +kernel) (Nat.le_of_ble_eq_true rfl) ?_
  intro p e s m below meth c C hs ls hl
  have hl : lv_has ls 7 [(0, .ref (A 0)), (1, .int x1), (2, .int x2), (3, .int x3)] := hl
  obtain ⟨hx, hb, hml, hr, hown, hts, hK, hlk, hN⟩ := id C
  unfold f_X8_row at hf
  refine lv_aload_n hx hb dX8_row_0 rfl (lv_at hl 0 rfl) ?_
  refine lv_iload_n hx hb dX8_row_1 rfl (lv_at hl 1 rfl) ?_
  obtain ⟨r_1, hc, hf⟩ := cb_bp_inv hf
  refine cb_callVi C (c_X8_isCard  hc) mw_X8_isCard ml_X8_206 rfl ⟨Nat.le_of_ble_eq_true rfl, Nat.le_of_ble_eq_true rfl⟩ rfl (Nat.le_of_ble_eq_true rfl) rfl hs hl rfl (Nat.le_of_ble_eq_true rfl) dX8_row_2 (fun H locs hs => ?_)
  clear hc
  refine lv_if_ne (tgt := 11) hx hb dX8_row_5 (by decide) (fun cn => ?_) (fun cn => ?_)
  · replace hf := cb_ifn cn hf
    refine lv_iload_n hx hb dX8_row_11 rfl (lv_at hl 2 rfl) ?_
    refine lv_i2l hx hb dX8_row_12 rfl ?_
    refine lv_lconst (v := 0) hx hb dX8_row_13 (by decide) ?_
    refine lv_ldc2 (v := 11) hx hb hown (hts _ kc_X8_290) dX8_row_14 ?_
    obtain ⟨r_2, hc, hf⟩ := cb_bp_inv hf
    refine cb_callSi C (c_X8_in  hc) mw_X8_in ml_X8_78 rfl ⟨Nat.le_of_ble_eq_true rfl, Nat.le_of_ble_eq_true rfl⟩ hs hl rfl (Nat.le_of_ble_eq_true rfl) dX8_row_17 (fun H locs hs => ?_)
    clear hc
    refine lv_if_eq (tgt := 33) hx hb dX8_row_20 (by decide) (fun cn => ?_) (fun cn => ?_)
    · replace hf := cb_ifp cn hf
      exact w_X8_row_33 C  hf hs (lv_sub hl [0, 1, 2, 3] rfl)
    · replace hf := cb_ifn cn hf
      refine lv_iload_n hx hb dX8_row_23 rfl (lv_at hl 3 rfl) ?_
      refine lv_i2l hx hb dX8_row_24 rfl ?_
      refine lv_lconst (v := 0) hx hb dX8_row_25 (by decide) ?_
      refine lv_lconst (v := 1) hx hb dX8_row_26 (by decide) ?_
      obtain ⟨r_3, hc, hf⟩ := cb_bp_inv hf
      refine cb_callSi C (c_X8_in  hc) mw_X8_in ml_X8_78 rfl ⟨Nat.le_of_ble_eq_true rfl, Nat.le_of_ble_eq_true rfl⟩ hs hl rfl (Nat.le_of_ble_eq_true rfl) dX8_row_27 (fun H locs hs => ?_)
      clear hc
      refine lv_if_ne (tgt := 36) hx hb dX8_row_30 (by decide) (fun cn => ?_) (fun cn => ?_)
      · replace hf := cb_ifn cn hf
        refine lv_aload_n hx hb dX8_row_36 rfl (lv_at hl 0 rfl) ?_
        refine lv_iload_n hx hb dX8_row_37 rfl (lv_at hl 1 rfl) ?_
        obtain ⟨r_4, hc, hf⟩ := cb_bp_inv hf
        refine cb_callVi C (c_X8_placeOf  hc) mw_X8_placeOf ml_X8_210 rfl ⟨Nat.le_of_ble_eq_true rfl, Nat.le_of_ble_eq_true rfl⟩ rfl (Nat.le_of_ble_eq_true rfl) rfl hs hl rfl (Nat.le_of_ble_eq_true rfl) dX8_row_38 (fun H locs hs => ?_)
        clear hc
        refine lv_istore (lv' := [(4, .int r_4), (0, .ref (A 0)), (1, .int x1), (2, .int x2), (3, .int x3)]) hx hb dX8_row_41 hl (by decide) rfl (fun ls hl => ?_)
        refine lv_iload hx hb dX8_row_43 (lv_at hl 0 rfl) ?_
        refine lv_if_ge (tgt := 51) hx hb dX8_row_45 (by decide) (fun cn => ?_) (fun cn => ?_)
        · replace hf := cb_ifp cn hf
          refine lv_aload_n hx hb dX8_row_51 rfl (lv_at hl 1 rfl) ?_
          refine gf_X8_16 C hs rfl dX8_row_52 ?_
          refine lv_bipush (v := 12) hx hb dX8_row_55 (by decide) ?_
          obtain ⟨hc, hf⟩ := cb_ck_inv hf
          refine cb_iald C hs rfl (vp_in_iff.mpr hc) dX8_row_57 ?_
          obtain ⟨x5_4, e9, hf⟩ := cb_let_inv hf
          refine cb_topi e9 ?_
          clear e9
          refine lv_istore (lv' := [(5, .int x5_4), (4, .int r_4), (0, .ref (A 0)), (1, .int x1), (2, .int x2), (3, .int x3)]) hx hb dX8_row_58 hl (by decide) rfl (fun ls hl => ?_)
          refine lv_iload_n hx hb dX8_row_60 rfl (lv_at hl 4 rfl) ?_
          refine lv_iload hx hb dX8_row_61 (lv_at hl 0 rfl) ?_
          refine lv_icmp_lt (tgt := 68) hx hb dX8_row_63 (by decide) (fun cn => ?_) (fun cn => ?_)
          · replace hf := cb_ifp cn hf
            refine lv_aload_n hx hb dX8_row_68 rfl (lv_at hl 2 rfl) ?_
            refine lv_iload_n hx hb dX8_row_69 rfl (lv_at hl 4 rfl) ?_
            refine lv_iload hx hb dX8_row_70 (lv_at hl 0 rfl) ?_
            obtain ⟨σ_6, hc, hf⟩ := cb_bv_inv hf
            refine cb_callVv C (c_X8_findAway  hc) mw_X8_findAway ml_X8_292 rfl ⟨Nat.le_of_ble_eq_true rfl, Nat.le_of_ble_eq_true rfl⟩ rfl (Nat.le_of_ble_eq_true rfl) rfl hs hl rfl (Nat.le_of_ble_eq_true rfl) dX8_row_72 (fun H locs hs => ?_)
            clear hc
            refine lv_aload_n hx hb dX8_row_75 rfl (lv_at hl 2 rfl) ?_
            refine gf_X8_44 C hs rfl dX8_row_76 ?_
            refine lv_iload hx hb dX8_row_79 (lv_at hl 1 rfl) ?_
            obtain ⟨hc, hf⟩ := cb_ck_inv hf
            refine cb_iald C hs rfl (vp_in_iff.mpr hc) dX8_row_81 ?_
            refine lv_bipush (v := 99) hx hb dX8_row_82 (by decide) ?_
            refine lv_icmp_ne (tgt := 89) hx hb dX8_row_84 (by decide) (fun cn => ?_) (fun cn => ?_)
            · replace hf := cb_ifn cn hf
              refine lv_iload_n hx hb dX8_row_89 rfl (lv_at hl 5 rfl) ?_
              refine lv_if_ne (tgt := 101) hx hb dX8_row_90 (by decide) (fun cn => ?_) (fun cn => ?_)
              · replace hf := cb_ifn cn hf
                refine lv_iconst (v := 0) hx hb dX8_row_101 (by decide) ?_
                refine lv_istore (lv' := [(6, .int 0), (5, .int x5_4), (4, .int r_4), (0, .ref (A 0)), (1, .int x1), (2, .int x2), (3, .int x3)]) hx hb dX8_row_102 hl (by decide) rfl (fun ls hl => ?_)
                exact w_X8_row_104 C  cb_fu _ _ _ _ hf _ _ _ hs (lv_sub hl [3, 4, 5, 6, 2, 1, 0] rfl)
              · replace hf := cb_ifp cn hf
                refine lv_aload_n hx hb dX8_row_93 rfl (lv_at hl 2 rfl) ?_
                refine gf_X8_44 C hs rfl dX8_row_94 ?_
                refine lv_iload hx hb dX8_row_97 (lv_at hl 1 rfl) ?_
                obtain ⟨hc, hf⟩ := cb_ck_inv hf
                refine cb_iald C hs rfl (vp_in_iff.mpr hc) dX8_row_99 ?_
                have hf := Option.some.inj hf
                subst hf
                exact cb_reti C hs dX8_row_100
            · replace hf := cb_ifp cn hf
              refine lv_iconst (v := (-1)) hx hb dX8_row_87 (by decide) ?_
              have hf := Option.some.inj hf
              subst hf
              exact cb_reti C hs dX8_row_88
          · replace hf := cb_ifn cn hf
            refine lv_iconst (v := (-1)) hx hb dX8_row_66 (by decide) ?_
            have hf := Option.some.inj hf
            subst hf
            exact cb_reti C hs dX8_row_67
        · replace hf := cb_ifn cn hf
          refine lv_ldc (v := (-1000000003)) hx hb hown (hts _ kc_X8_231) dX8_row_48 ?_
          have hf := Option.some.inj hf
          subst hf
          exact cb_reti C hs dX8_row_50
      · replace hf := cb_ifp cn hf
        exact w_X8_row_33 C  hf hs (lv_sub hl [0, 1, 2, 3] rfl)
  · replace hf := cb_ifp cn hf
    refine lv_ldc (v := (-1000000001)) hx hb hown (hts _ kc_X8_209) dX8_row_8 ?_
    have hf := Option.some.inj hf
    subst hf
    exact cb_reti C hs dX8_row_10
/-! ===== CardBecomeModel.ruler ===== -/
def f_X8_ruler_48 (K6 : Int32 → Int32 → Int32 → Option (Int32)) (σ : cb_St) (x1 : Int32) (x3 : Int32) (s0 : Int32) : Option (Int32) := cb_let (x3 + 1) (fun x3_0 => K6 x1 s0 x3_0)
set_option maxHeartbeats 4000000 in
set_option maxRecDepth 100000 in
theorem w_X8_ruler_48 (C : cb_C p s m args meth c cX8_ruler 5 (some .int) RX8 D T) {K6 : Int32 → Int32 → Int32 → Option (Int32)} {σ : cb_St} {o : Int32} (hK6 : ∀ (x1 : Int32) (x2 : Int32) (x3 : Int32), K6 x1 x2 x3 = some o → ∀ (H : Heap) (locs : List Loc) (ls : Array Slot), cb_H shM A T D σ s.heap H locs → lv_has ls 5 [(0, .ref (A 0)), (1, .int x1), (2, .int x2), (3, .int x3)] → cb_W p l e 5 s m args below meth c shM A T D (some (.int o)) σ H locs (F0 m 6 ls [])) {x1 : Int32} {x3 : Int32} {s0 : Int32} (hf : f_X8_ruler_48 K6 σ x1 x3 s0 = some o) {H : Heap} {locs : List Loc} {ls : Array Slot} (hs : cb_H shM A T D σ s.heap H locs) (hl : lv_has ls 5 [(0, .ref (A 0)), (1, .int x1), (3, .int x3)]) : cb_W p l e 5 s m args below meth c shM A T D (some (.int o)) σ H locs (F0 m 48 ls [.int s0]) := by
  obtain ⟨hx, hb, hml, hr, hown, hts, hK, hlk, hN⟩ := id C
  unfold f_X8_ruler_48 at hf
  refine lv_istore_n (lv' := [(2, .int s0), (0, .ref (A 0)), (1, .int x1), (3, .int x3)]) hx hb dX8_ruler_48 rfl hl (by decide) rfl (fun ls hl => ?_)
  obtain ⟨x3_0, e9, hf⟩ := cb_let_inv hf
  refine lv_iinc (v := x3_0) (lv' := [(3, .int x3_0), (2, .int s0), (0, .ref (A 0)), (1, .int x1)]) hx hb dX8_ruler_49 hl (k := 3) rfl (by rw [e9]; rfl) (by decide) rfl (fun ls hl => ?_)
  clear e9
  refine lv_goto (tgt := 6) hx hb dX8_ruler_52 (by decide) ?_
  exact hK6 _ _ _ hf _ _ _ hs (lv_sub hl [2, 3, 1, 0] rfl)
def f_X8_ruler_35 (K6 : Int32 → Int32 → Int32 → Option (Int32)) (σ : cb_St) (x2 : Int32) (x3 : Int32) (x4 : Int32) (s0 : Int32) : Option (Int32) := if x4 ≤ x2 then (f_X8_ruler_48 K6 σ s0 x3 x2) else (f_X8_ruler_48 K6 σ s0 x3 x4)
set_option maxHeartbeats 4000000 in
set_option maxRecDepth 100000 in
theorem w_X8_ruler_35 (C : cb_C p s m args meth c cX8_ruler 5 (some .int) RX8 D T) {K6 : Int32 → Int32 → Int32 → Option (Int32)} {σ : cb_St} {o : Int32} (hK6 : ∀ (x1 : Int32) (x2 : Int32) (x3 : Int32), K6 x1 x2 x3 = some o → ∀ (H : Heap) (locs : List Loc) (ls : Array Slot), cb_H shM A T D σ s.heap H locs → lv_has ls 5 [(0, .ref (A 0)), (1, .int x1), (2, .int x2), (3, .int x3)] → cb_W p l e 5 s m args below meth c shM A T D (some (.int o)) σ H locs (F0 m 6 ls [])) {x2 : Int32} {x3 : Int32} {x4 : Int32} {s0 : Int32} (hf : f_X8_ruler_35 K6 σ x2 x3 x4 s0 = some o) {H : Heap} {locs : List Loc} {ls : Array Slot} (hs : cb_H shM A T D σ s.heap H locs) (hl : lv_has ls 5 [(0, .ref (A 0)), (2, .int x2), (3, .int x3), (4, .int x4)]) : cb_W p l e 5 s m args below meth c shM A T D (some (.int o)) σ H locs (F0 m 35 ls [.int s0]) := by
  obtain ⟨hx, hb, hml, hr, hown, hts, hK, hlk, hN⟩ := id C
  unfold f_X8_ruler_35 at hf
  refine lv_istore_n (lv' := [(1, .int s0), (0, .ref (A 0)), (2, .int x2), (3, .int x3), (4, .int x4)]) hx hb dX8_ruler_35 rfl hl (by decide) rfl (fun ls hl => ?_)
  refine lv_iload hx hb dX8_ruler_36 (lv_at hl 4 rfl) ?_
  refine lv_iload_n hx hb dX8_ruler_38 rfl (lv_at hl 2 rfl) ?_
  refine lv_icmp_le (tgt := 47) hx hb dX8_ruler_39 (by decide) (fun cn => ?_) (fun cn => ?_)
  · replace hf := cb_ifp cn hf
    refine lv_iload_n hx hb dX8_ruler_47 rfl (lv_at hl 2 rfl) ?_
    exact w_X8_ruler_48 C hK6 hf hs (lv_sub hl [1, 0, 3] rfl)
  · replace hf := cb_ifn cn hf
    refine lv_iload hx hb dX8_ruler_42 (lv_at hl 4 rfl) ?_
    refine lv_goto (tgt := 48) hx hb dX8_ruler_44 (by decide) ?_
    exact w_X8_ruler_48 C hK6 hf hs (lv_sub hl [1, 0, 3] rfl)
def f_X8_ruler_6 (σ : cb_St) : Nat → Int32 → Int32 → Int32 → Option (Int32)
  | 0, _, _, _ => none
  | fu + 1, x1, x2, x3 => if (σ.1 0 7) ≤ x3 then (some x1) else (cb_bp (f_X8_beatenBy x3 σ) (fun r_1 => cb_bp (f_X8_bits r_1 σ) (fun r_2 => if r_2 ≤ x2 then (f_X8_ruler_35 (f_X8_ruler_6 σ fu) σ x2 x3 r_2 x1) else (f_X8_ruler_35 (f_X8_ruler_6 σ fu) σ x2 x3 r_2 x3))))
set_option maxHeartbeats 4000000 in
set_option maxRecDepth 100000 in
theorem w_X8_ruler_6 (C : cb_C p s m args meth c cX8_ruler 5 (some .int) RX8 D T) {σ : cb_St} {o : Int32}  : ∀ (fu : Nat) (x1 : Int32) (x2 : Int32) (x3 : Int32), f_X8_ruler_6 σ fu x1 x2 x3 = some o → ∀ (H : Heap) (locs : List Loc) (ls : Array Slot), cb_H shM A T D σ s.heap H locs → lv_has ls 5 [(0, .ref (A 0)), (1, .int x1), (2, .int x2), (3, .int x3)] → cb_W p l e 5 s m args below meth c shM A T D (some (.int o)) σ H locs (F0 m 6 ls []) := by
  obtain ⟨hx, hb, hml, hr, hown, hts, hK, hlk, hN⟩ := id C
  intro fu
  induction fu with
  | zero =>
    intro x1 x2 x3 hf
    rw [f_X8_ruler_6] at hf
    cases hf
  | succ fu ih =>
    intro x1 x2 x3 hf H locs ls hs hl
    rw [f_X8_ruler_6] at hf
    refine lv_iload_n hx hb dX8_ruler_6 rfl (lv_at hl 3 rfl) ?_
    refine lv_aload_n hx hb dX8_ruler_7 rfl (lv_at hl 0 rfl) ?_
    refine gf_X8_75 C hs rfl dX8_ruler_8 ?_
    refine lv_icmp_ge (tgt := 55) hx hb dX8_ruler_11 (by decide) (fun cn => ?_) (fun cn => ?_)
    · replace hf := cb_ifp cn hf
      refine lv_iload_n hx hb dX8_ruler_55 rfl (lv_at hl 1 rfl) ?_
      have hf := Option.some.inj hf
      subst hf
      exact cb_reti C hs dX8_ruler_56
    · replace hf := cb_ifn cn hf
      refine lv_aload_n hx hb dX8_ruler_14 rfl (lv_at hl 0 rfl) ?_
      refine lv_iload_n hx hb dX8_ruler_15 rfl (lv_at hl 3 rfl) ?_
      obtain ⟨r_1, hc, hf⟩ := cb_bp_inv hf
      refine cb_callVi C (c_X8_beatenBy  hc) mw_X8_beatenBy ml_X8_180 rfl ⟨Nat.le_of_ble_eq_true rfl, Nat.le_of_ble_eq_true rfl⟩ rfl (Nat.le_of_ble_eq_true rfl) rfl hs hl rfl (Nat.le_of_ble_eq_true rfl) dX8_ruler_16 (fun H locs hs => ?_)
      clear hc
      obtain ⟨r_2, hc, hf⟩ := cb_bp_inv hf
      refine cb_callSi C (c_X8_bits  hc) mw_X8_bits ml_X8_184 rfl ⟨Nat.le_of_ble_eq_true rfl, Nat.le_of_ble_eq_true rfl⟩ hs hl rfl (Nat.le_of_ble_eq_true rfl) dX8_ruler_19 (fun H locs hs => ?_)
      clear hc
      refine lv_istore (lv' := [(4, .int r_2), (0, .ref (A 0)), (1, .int x1), (2, .int x2), (3, .int x3)]) hx hb dX8_ruler_22 hl (by decide) rfl (fun ls hl => ?_)
      refine lv_iload hx hb dX8_ruler_24 (lv_at hl 0 rfl) ?_
      refine lv_iload_n hx hb dX8_ruler_26 rfl (lv_at hl 3 rfl) ?_
      refine lv_icmp_le (tgt := 34) hx hb dX8_ruler_27 (by decide) (fun cn => ?_) (fun cn => ?_)
      · replace hf := cb_ifp cn hf
        refine lv_iload_n hx hb dX8_ruler_34 rfl (lv_at hl 2 rfl) ?_
        exact w_X8_ruler_35 C ih hf hs (lv_sub hl [1, 3, 4, 0] rfl)
      · replace hf := cb_ifn cn hf
        refine lv_iload_n hx hb dX8_ruler_30 rfl (lv_at hl 4 rfl) ?_
        refine lv_goto (tgt := 35) hx hb dX8_ruler_31 (by decide) ?_
        exact w_X8_ruler_35 C ih hf hs (lv_sub hl [1, 3, 4, 0] rfl)
def f_X8_ruler (σ : cb_St)  : Option (Int32) := f_X8_ruler_6 σ cb_fu (-1) 0 0
set_option maxHeartbeats 4000000 in
set_option maxRecDepth 100000 in
theorem c_X8_ruler {σ : cb_St}   {o : Int32} (hf : f_X8_ruler σ = some o) : cb_M l yX8_ruler cX8_ruler 5 (some .int) 5 shM A T D σ [.ref (A 0)] (some (.int o)) σ := by
  refine cb_met (by decide +kernel) (Nat.le_of_ble_eq_true rfl) ?_
  intro p e s m below meth c C hs ls hl
  have hl : lv_has ls 5 [(0, .ref (A 0))] := hl
  obtain ⟨hx, hb, hml, hr, hown, hts, hK, hlk, hN⟩ := id C
  unfold f_X8_ruler at hf
  refine lv_iconst (v := (-1)) hx hb dX8_ruler_0 (by decide) ?_
  refine lv_istore_n (lv' := [(1, .int (-1)), (0, .ref (A 0))]) hx hb dX8_ruler_1 rfl hl (by decide) rfl (fun ls hl => ?_)
  refine lv_iconst (v := 0) hx hb dX8_ruler_2 (by decide) ?_
  refine lv_istore_n (lv' := [(2, .int 0), (1, .int (-1)), (0, .ref (A 0))]) hx hb dX8_ruler_3 rfl hl (by decide) rfl (fun ls hl => ?_)
  refine lv_iconst (v := 0) hx hb dX8_ruler_4 (by decide) ?_
  refine lv_istore_n (lv' := [(3, .int 0), (2, .int 0), (1, .int (-1)), (0, .ref (A 0))]) hx hb dX8_ruler_5 rfl hl (by decide) rfl (fun ls hl => ?_)
  exact w_X8_ruler_6 C  cb_fu _ _ _ hf _ _ _ hs (lv_sub hl [3, 2, 1, 0] rfl)
/-! ===== CardBecomeModel.see ===== -/
def f_X8_see (x1 : Int32) (x2 : Int32) (x3 : Int32) (σ : cb_St) : Option (Int32 × cb_St) := cb_bp (f_X8_areTwo x1 x2 σ) (fun r_1 => if r_1 = 0 then (some ((-1000000001), σ)) else (cb_bp (f_X8_in (Int32.toInt64 x3) 0 2 σ) (fun r_2 => if r_2 = 0 then (some ((-1000000002), σ)) else (if (σ.1 0 28) = 6 then (some ((-1000000004), σ)) else (cb_ck (0 ≤ Int32.toInt (σ.1 0 28) ∧ Int32.toInt (σ.1 0 28) < 6) (cb_let (cb_sI σ 13 (Int32.toNatClampNeg (σ.1 0 28)) x1) (fun σ_3 => cb_ck (0 ≤ Int32.toInt (σ_3.1 0 28) ∧ Int32.toInt (σ_3.1 0 28) < 6) (cb_let (cb_sI σ_3 14 (Int32.toNatClampNeg (σ_3.1 0 28)) x2) (fun σ_4 => cb_ck (0 ≤ Int32.toInt (σ_4.1 0 28) ∧ Int32.toInt (σ_4.1 0 28) < 6) (cb_let (cb_sI σ_4 15 (Int32.toNatClampNeg (σ_4.1 0 28)) x3) (fun σ_5 => cb_let (cb_sI σ_5 0 28 ((σ_5.1 0 28) + 1)) (fun σ_6 => some (σ_6.1 0 28, σ_6)))))))))))))
set_option maxHeartbeats 4000000 in
set_option maxRecDepth 100000 in
theorem c_X8_see {x1 : Int32} {x2 : Int32} {x3 : Int32}  {σ : cb_St} {o : Int32 × cb_St} (hf : f_X8_see x1 x2 x3 σ = some o) : cb_M l yX8_see cX8_see 4 (some .int) 4 shM A T D σ [.ref (A 0), .int x1, .int x2, .int x3] (some (.int o.1)) o.2 := by
  refine cb_met (by decide +kernel) (Nat.le_of_ble_eq_true rfl) ?_
  intro p e s m below meth c C hs ls hl
  have hl : lv_has ls 4 [(0, .ref (A 0)), (1, .int x1), (2, .int x2), (3, .int x3)] := hl
  obtain ⟨hx, hb, hml, hr, hown, hts, hK, hlk, hN⟩ := id C
  unfold f_X8_see at hf
  refine lv_aload_n hx hb dX8_see_0 rfl (lv_at hl 0 rfl) ?_
  refine lv_iload_n hx hb dX8_see_1 rfl (lv_at hl 1 rfl) ?_
  refine lv_iload_n hx hb dX8_see_2 rfl (lv_at hl 2 rfl) ?_
  obtain ⟨r_1, hc, hf⟩ := cb_bp_inv hf
  refine cb_callVi C (c_X8_areTwo  hc) mw_X8_areTwo ml_X8_242 rfl ⟨Nat.le_of_ble_eq_true rfl, Nat.le_of_ble_eq_true rfl⟩ rfl (Nat.le_of_ble_eq_true rfl) rfl hs hl rfl (Nat.le_of_ble_eq_true rfl) dX8_see_3 (fun H locs hs => ?_)
  clear hc
  refine lv_if_ne (tgt := 12) hx hb dX8_see_6 (by decide) (fun cn => ?_) (fun cn => ?_)
  · replace hf := cb_ifn cn hf
    refine lv_iload_n hx hb dX8_see_12 rfl (lv_at hl 3 rfl) ?_
    refine lv_i2l hx hb dX8_see_13 rfl ?_
    refine lv_lconst (v := 0) hx hb dX8_see_14 (by decide) ?_
    refine lv_ldc2 (v := 2) hx hb hown (hts _ kc_X8_216) dX8_see_15 ?_
    obtain ⟨r_2, hc, hf⟩ := cb_bp_inv hf
    refine cb_callSi C (c_X8_in  hc) mw_X8_in ml_X8_78 rfl ⟨Nat.le_of_ble_eq_true rfl, Nat.le_of_ble_eq_true rfl⟩ hs hl rfl (Nat.le_of_ble_eq_true rfl) dX8_see_18 (fun H locs hs => ?_)
    clear hc
    refine lv_if_ne (tgt := 27) hx hb dX8_see_21 (by decide) (fun cn => ?_) (fun cn => ?_)
    · replace hf := cb_ifn cn hf
      refine lv_aload_n hx hb dX8_see_27 rfl (lv_at hl 0 rfl) ?_
      refine gf_X8_161 C hs rfl dX8_see_28 ?_
      refine lv_bipush (v := 6) hx hb dX8_see_31 (by decide) ?_
      refine lv_icmp_ne (tgt := 39) hx hb dX8_see_33 (by decide) (fun cn => ?_) (fun cn => ?_)
      · replace hf := cb_ifn cn hf
        refine lv_aload_n hx hb dX8_see_39 rfl (lv_at hl 0 rfl) ?_
        refine gf_X8_50 C hs rfl dX8_see_40 ?_
        refine lv_aload_n hx hb dX8_see_43 rfl (lv_at hl 0 rfl) ?_
        refine gf_X8_161 C hs rfl dX8_see_44 ?_
        refine lv_iload_n hx hb dX8_see_47 rfl (lv_at hl 1 rfl) ?_
        obtain ⟨hc, hf⟩ := cb_ck_inv hf
        refine cb_iast C hs rfl (vp_in_iff.mpr hc) dX8_see_48 (fun H locs hs => ?_)
        obtain ⟨σ_3, e9, hf⟩ := cb_let_inv hf
        replace hs := cb_Hc e9 hs
        clear e9
        refine lv_aload_n hx hb dX8_see_49 rfl (lv_at hl 0 rfl) ?_
        refine gf_X8_53 C hs rfl dX8_see_50 ?_
        refine lv_aload_n hx hb dX8_see_53 rfl (lv_at hl 0 rfl) ?_
        refine gf_X8_161 C hs rfl dX8_see_54 ?_
        refine lv_iload_n hx hb dX8_see_57 rfl (lv_at hl 2 rfl) ?_
        obtain ⟨hc, hf⟩ := cb_ck_inv hf
        refine cb_iast C hs rfl (vp_in_iff.mpr hc) dX8_see_58 (fun H locs hs => ?_)
        obtain ⟨σ_4, e9, hf⟩ := cb_let_inv hf
        replace hs := cb_Hc e9 hs
        clear e9
        refine lv_aload_n hx hb dX8_see_59 rfl (lv_at hl 0 rfl) ?_
        refine gf_X8_56 C hs rfl dX8_see_60 ?_
        refine lv_aload_n hx hb dX8_see_63 rfl (lv_at hl 0 rfl) ?_
        refine gf_X8_161 C hs rfl dX8_see_64 ?_
        refine lv_iload_n hx hb dX8_see_67 rfl (lv_at hl 3 rfl) ?_
        obtain ⟨hc, hf⟩ := cb_ck_inv hf
        refine cb_iast C hs rfl (vp_in_iff.mpr hc) dX8_see_68 (fun H locs hs => ?_)
        obtain ⟨σ_5, e9, hf⟩ := cb_let_inv hf
        replace hs := cb_Hc e9 hs
        clear e9
        refine lv_aload_n hx hb dX8_see_69 rfl (lv_at hl 0 rfl) ?_
        refine lv_dup hx hb dX8_see_70 rfl ?_
        refine gf_X8_161 C hs rfl dX8_see_71 ?_
        refine lv_iconst (v := 1) hx hb dX8_see_74 (by decide) ?_
        refine lv_iadd hx hb dX8_see_75 ?_
        refine pf_X8_161 C hs rfl dX8_see_76 (fun H locs hs => ?_)
        obtain ⟨σ_6, e9, hf⟩ := cb_let_inv hf
        replace hs := cb_Hc e9 hs
        clear e9
        refine lv_aload_n hx hb dX8_see_79 rfl (lv_at hl 0 rfl) ?_
        refine gf_X8_161 C hs rfl dX8_see_80 ?_
        have hf := Option.some.inj hf
        subst hf
        exact cb_reti C hs dX8_see_83
      · replace hf := cb_ifp cn hf
        refine lv_ldc (v := (-1000000004)) hx hb hown (hts _ kc_X8_95) dX8_see_36 ?_
        have hf := Option.some.inj hf
        subst hf
        exact cb_reti C hs dX8_see_38
    · replace hf := cb_ifp cn hf
      refine lv_ldc (v := (-1000000002)) hx hb hown (hts _ kc_X8_91) dX8_see_24 ?_
      have hf := Option.some.inj hf
      subst hf
      exact cb_reti C hs dX8_see_26
  · replace hf := cb_ifp cn hf
    refine lv_ldc (v := (-1000000001)) hx hb hown (hts _ kc_X8_209) dX8_see_9 ?_
    have hf := Option.some.inj hf
    subst hf
    exact cb_reti C hs dX8_see_11
/-! ===== CardBecomeModel.seed ===== -/
def f_X8_seed (x1 : Int32) (σ : cb_St) : Option (Int32 × cb_St) := if 0 ≤ x1 then (cb_let (σ.1 0 9) (fun x2_0 => cb_let (cb_sI σ 0 9 x1) (fun σ_2 => some (x2_0, σ_2)))) else (some ((-1000000002), σ))
set_option maxHeartbeats 4000000 in
set_option maxRecDepth 100000 in
theorem c_X8_seed {x1 : Int32}  {σ : cb_St} {o : Int32 × cb_St} (hf : f_X8_seed x1 σ = some o) : cb_M l yX8_seed cX8_seed 3 (some .int) 1 shM A T D σ [.ref (A 0), .int x1] (some (.int o.1)) o.2 := by
  refine cb_met (by decide +kernel) (Nat.le_of_ble_eq_true rfl) ?_
  intro p e s m below meth c C hs ls hl
  have hl : lv_has ls 3 [(0, .ref (A 0)), (1, .int x1)] := hl
  obtain ⟨hx, hb, hml, hr, hown, hts, hK, hlk, hN⟩ := id C
  unfold f_X8_seed at hf
  refine lv_iload_n hx hb dX8_seed_0 rfl (lv_at hl 1 rfl) ?_
  refine lv_if_ge (tgt := 7) hx hb dX8_seed_1 (by decide) (fun cn => ?_) (fun cn => ?_)
  · replace hf := cb_ifp cn hf
    refine lv_aload_n hx hb dX8_seed_7 rfl (lv_at hl 0 rfl) ?_
    refine gf_X8_259 C hs rfl dX8_seed_8 ?_
    obtain ⟨x2_0, e9, hf⟩ := cb_let_inv hf
    refine cb_topi e9 ?_
    clear e9
    refine lv_istore_n (lv' := [(2, .int x2_0), (0, .ref (A 0)), (1, .int x1)]) hx hb dX8_seed_11 rfl hl (by decide) rfl (fun ls hl => ?_)
    refine lv_aload_n hx hb dX8_seed_12 rfl (lv_at hl 1 rfl) ?_
    refine lv_iload_n hx hb dX8_seed_13 rfl (lv_at hl 2 rfl) ?_
    refine pf_X8_259 C hs rfl dX8_seed_14 (fun H locs hs => ?_)
    obtain ⟨σ_2, e9, hf⟩ := cb_let_inv hf
    replace hs := cb_Hc e9 hs
    clear e9
    refine lv_iload_n hx hb dX8_seed_17 rfl (lv_at hl 0 rfl) ?_
    have hf := Option.some.inj hf
    subst hf
    exact cb_reti C hs dX8_seed_18
  · replace hf := cb_ifn cn hf
    refine lv_ldc (v := (-1000000002)) hx hb hown (hts _ kc_X8_91) dX8_seed_4 ?_
    have hf := Option.some.inj hf
    subst hf
    exact cb_reti C hs dX8_seed_6
/-! ===== CardBecomeModel.shuffle ===== -/
def f_X8_shuffle (x1 : Int32) (σ : cb_St) : Option (Int32 × cb_St) := cb_bp (f_X8_in (Int32.toInt64 x1) 0 2 σ) (fun r_1 => if r_1 = 0 then (some ((-1000000002), σ)) else (if (σ.1 0 0) = 0 then (some ((-1000000003), σ)) else (cb_bv (f_X8_remember σ) (fun σ_2 => cb_bv (f_X8_shuffleNow x1 σ_2) (fun σ_3 => cb_ck (0 ≤ Int32.toInt 12 ∧ Int32.toInt 12 < 51) (if (σ_3.1 3 (Int32.toNatClampNeg 12)) = 0 then (some ((-1), σ_3)) else (cb_ck (0 ≤ Int32.toInt 0 ∧ Int32.toInt 0 < 51) (some (σ_3.1 3 (Int32.toNatClampNeg 0), σ_3)))))))))
set_option maxHeartbeats 4000000 in
set_option maxRecDepth 100000 in
theorem c_X8_shuffle {x1 : Int32}  {σ : cb_St} {o : Int32 × cb_St} (hf : f_X8_shuffle x1 σ = some o) : cb_M l yX8_shuffle cX8_shuffle 2 (some .int) 3 shM A T D σ [.ref (A 0), .int x1] (some (.int o.1)) o.2 := by
  refine cb_met (by decide +kernel) (Nat.le_of_ble_eq_true rfl) ?_
  intro p e s m below meth c C hs ls hl
  have hl : lv_has ls 2 [(0, .ref (A 0)), (1, .int x1)] := hl
  obtain ⟨hx, hb, hml, hr, hown, hts, hK, hlk, hN⟩ := id C
  unfold f_X8_shuffle at hf
  refine lv_iload_n hx hb dX8_shuffle_0 rfl (lv_at hl 1 rfl) ?_
  refine lv_i2l hx hb dX8_shuffle_1 rfl ?_
  refine lv_lconst (v := 0) hx hb dX8_shuffle_2 (by decide) ?_
  refine lv_ldc2 (v := 2) hx hb hown (hts _ kc_X8_216) dX8_shuffle_3 ?_
  obtain ⟨r_1, hc, hf⟩ := cb_bp_inv hf
  refine cb_callSi C (c_X8_in  hc) mw_X8_in ml_X8_78 rfl ⟨Nat.le_of_ble_eq_true rfl, Nat.le_of_ble_eq_true rfl⟩ hs hl rfl (Nat.le_of_ble_eq_true rfl) dX8_shuffle_6 (fun H locs hs => ?_)
  clear hc
  refine lv_if_ne (tgt := 15) hx hb dX8_shuffle_9 (by decide) (fun cn => ?_) (fun cn => ?_)
  · replace hf := cb_ifn cn hf
    refine lv_aload_n hx hb dX8_shuffle_15 rfl (lv_at hl 0 rfl) ?_
    refine gf_X8_143 C hs rfl dX8_shuffle_16 ?_
    refine lv_if_ne (tgt := 25) hx hb dX8_shuffle_19 (by decide) (fun cn => ?_) (fun cn => ?_)
    · replace hf := cb_ifn cn hf
      refine lv_aload_n hx hb dX8_shuffle_25 rfl (lv_at hl 0 rfl) ?_
      obtain ⟨σ_2, hc, hf⟩ := cb_bv_inv hf
      refine cb_callVv C (c_X8_remember  hc) mw_X8_remember ml_X8_232 rfl ⟨Nat.le_of_ble_eq_true rfl, Nat.le_of_ble_eq_true rfl⟩ rfl (Nat.le_of_ble_eq_true rfl) rfl hs hl rfl (Nat.le_of_ble_eq_true rfl) dX8_shuffle_26 (fun H locs hs => ?_)
      clear hc
      refine lv_aload_n hx hb dX8_shuffle_29 rfl (lv_at hl 0 rfl) ?_
      refine lv_iload_n hx hb dX8_shuffle_30 rfl (lv_at hl 1 rfl) ?_
      obtain ⟨σ_3, hc, hf⟩ := cb_bv_inv hf
      refine cb_callVv C (c_X8_shuffleNow  hc) mw_X8_shuffleNow ml_X8_253 rfl ⟨Nat.le_of_ble_eq_true rfl, Nat.le_of_ble_eq_true rfl⟩ rfl (Nat.le_of_ble_eq_true rfl) rfl hs hl rfl (Nat.le_of_ble_eq_true rfl) dX8_shuffle_31 (fun H locs hs => ?_)
      clear hc
      refine lv_aload_n hx hb dX8_shuffle_34 rfl (lv_at hl 0 rfl) ?_
      refine gf_X8_16 C hs rfl dX8_shuffle_35 ?_
      refine lv_bipush (v := 12) hx hb dX8_shuffle_38 (by decide) ?_
      obtain ⟨hc, hf⟩ := cb_ck_inv hf
      refine cb_iald C hs rfl (vp_in_iff.mpr hc) dX8_shuffle_40 ?_
      refine lv_if_ne (tgt := 48) hx hb dX8_shuffle_41 (by decide) (fun cn => ?_) (fun cn => ?_)
      · replace hf := cb_ifn cn hf
        refine lv_aload_n hx hb dX8_shuffle_48 rfl (lv_at hl 0 rfl) ?_
        refine gf_X8_16 C hs rfl dX8_shuffle_49 ?_
        refine lv_iconst (v := 0) hx hb dX8_shuffle_52 (by decide) ?_
        obtain ⟨hc, hf⟩ := cb_ck_inv hf
        refine cb_iald C hs rfl (vp_in_iff.mpr hc) dX8_shuffle_53 ?_
        have hf := Option.some.inj hf
        subst hf
        exact cb_reti C hs dX8_shuffle_54
      · replace hf := cb_ifp cn hf
        refine lv_iconst (v := (-1)) hx hb dX8_shuffle_44 (by decide) ?_
        refine lv_goto (tgt := 54) hx hb dX8_shuffle_45 (by decide) ?_
        have hf := Option.some.inj hf
        subst hf
        exact cb_reti C hs dX8_shuffle_54
    · replace hf := cb_ifp cn hf
      refine lv_ldc (v := (-1000000003)) hx hb hown (hts _ kc_X8_231) dX8_shuffle_22 ?_
      have hf := Option.some.inj hf
      subst hf
      exact cb_reti C hs dX8_shuffle_24
  · replace hf := cb_ifp cn hf
    refine lv_ldc (v := (-1000000002)) hx hb hown (hts _ kc_X8_91) dX8_shuffle_12 ?_
    have hf := Option.some.inj hf
    subst hf
    exact cb_reti C hs dX8_shuffle_14
/-! ===== CardBecomeModel.takeCard ===== -/
def f_X8_takeCard_105  (σ : cb_St) (x2 : Int32) : Option (Int32 × cb_St) := some (x2, σ)
set_option maxHeartbeats 4000000 in
set_option maxRecDepth 100000 in
theorem w_X8_takeCard_105 (C : cb_C p s m args meth c cX8_takeCard 4 (some .int) RX8 D T)  {o : Int32 × cb_St}  {σ : cb_St} {x2 : Int32} (hf : f_X8_takeCard_105 σ x2 = some o) {H : Heap} {locs : List Loc} {ls : Array Slot} (hs : cb_H shM A T D σ s.heap H locs) (hl : lv_has ls 4 [(0, .ref (A 0)), (2, .int x2)]) : cb_W p l e 4 s m args below meth c shM A T D (some (.int o.1)) o.2 H locs (F0 m 105 ls []) := by
  obtain ⟨hx, hb, hml, hr, hown, hts, hK, hlk, hN⟩ := id C
  unfold f_X8_takeCard_105 at hf
  refine lv_iload_n hx hb dX8_takeCard_105 rfl (lv_at hl 1 rfl) ?_
  have hf := Option.some.inj hf
  subst hf
  exact cb_reti C hs dX8_takeCard_106
def f_X8_takeCard_99 (K50 : cb_St → Int32 → Int32 → Int32 → Option (Int32 × cb_St)) (σ : cb_St) (x1 : Int32) (x2 : Int32) (x3 : Int32) : Option (Int32 × cb_St) := cb_let (x3 + 1) (fun x3_0 => K50 σ x1 x2 x3_0)
set_option maxHeartbeats 4000000 in
set_option maxRecDepth 100000 in
theorem w_X8_takeCard_99 (C : cb_C p s m args meth c cX8_takeCard 4 (some .int) RX8 D T) {K50 : cb_St → Int32 → Int32 → Int32 → Option (Int32 × cb_St)} {o : Int32 × cb_St} (hK50 : ∀ (σ : cb_St) (x1 : Int32) (x2 : Int32) (x3 : Int32), K50 σ x1 x2 x3 = some o → ∀ (H : Heap) (locs : List Loc) (ls : Array Slot), cb_H shM A T D σ s.heap H locs → lv_has ls 4 [(0, .ref (A 0)), (1, .int x1), (2, .int x2), (3, .int x3)] → cb_W p l e 4 s m args below meth c shM A T D (some (.int o.1)) o.2 H locs (F0 m 50 ls [])) {σ : cb_St} {x1 : Int32} {x2 : Int32} {x3 : Int32} (hf : f_X8_takeCard_99 K50 σ x1 x2 x3 = some o) {H : Heap} {locs : List Loc} {ls : Array Slot} (hs : cb_H shM A T D σ s.heap H locs) (hl : lv_has ls 4 [(0, .ref (A 0)), (1, .int x1), (2, .int x2), (3, .int x3)]) : cb_W p l e 4 s m args below meth c shM A T D (some (.int o.1)) o.2 H locs (F0 m 99 ls []) := by
  obtain ⟨hx, hb, hml, hr, hown, hts, hK, hlk, hN⟩ := id C
  unfold f_X8_takeCard_99 at hf
  obtain ⟨x3_0, e9, hf⟩ := cb_let_inv hf
  refine lv_iinc (v := x3_0) (lv' := [(3, .int x3_0), (0, .ref (A 0)), (1, .int x1), (2, .int x2)]) hx hb dX8_takeCard_99 hl (k := 3) rfl (by rw [e9]; rfl) (by decide) rfl (fun ls hl => ?_)
  clear e9
  refine lv_goto (tgt := 50) hx hb dX8_takeCard_102 (by decide) ?_
  exact hK50 _ _ _ _ hf _ _ _ hs (lv_sub hl [1, 2, 3, 0] rfl)
def f_X8_takeCard_50  : Nat → cb_St → Int32 → Int32 → Int32 → Option (Int32 × cb_St)
  | 0, _, _, _, _ => none
  | fu + 1, σ, x1, x2, x3 => if x1 ≤ x3 then (f_X8_takeCard_105 σ x2) else (if x2 = 0 then (cb_ck (0 ≤ Int32.toInt x3 ∧ Int32.toInt x3 < 12) (cb_ck (0 ≤ Int32.toInt x1 ∧ Int32.toInt x1 < 12) (if (σ.1 6 (Int32.toNatClampNeg x3)) = (σ.1 6 (Int32.toNatClampNeg x1)) then (cb_ck (0 ≤ Int32.toInt x3 ∧ Int32.toInt x3 < 12) (cb_ck (0 ≤ Int32.toInt x1 ∧ Int32.toInt x1 < 12) (if (σ.1 7 (Int32.toNatClampNeg x3)) = (σ.1 7 (Int32.toNatClampNeg x1)) then (cb_bi (f_X8_fails 4 (σ.1 0 15) σ) (fun r_1 σ_2 => some (r_1, σ_2))) else (f_X8_takeCard_99 (f_X8_takeCard_50 fu) σ x1 x2 x3)))) else (f_X8_takeCard_99 (f_X8_takeCard_50 fu) σ x1 x2 x3)))) else (f_X8_takeCard_105 σ x2))
set_option maxHeartbeats 4000000 in
set_option maxRecDepth 100000 in
theorem w_X8_takeCard_50 (C : cb_C p s m args meth c cX8_takeCard 4 (some .int) RX8 D T)  {o : Int32 × cb_St}  : ∀ (fu : Nat) (σ : cb_St) (x1 : Int32) (x2 : Int32) (x3 : Int32), f_X8_takeCard_50 fu σ x1 x2 x3 = some o → ∀ (H : Heap) (locs : List Loc) (ls : Array Slot), cb_H shM A T D σ s.heap H locs → lv_has ls 4 [(0, .ref (A 0)), (1, .int x1), (2, .int x2), (3, .int x3)] → cb_W p l e 4 s m args below meth c shM A T D (some (.int o.1)) o.2 H locs (F0 m 50 ls []) := by
  obtain ⟨hx, hb, hml, hr, hown, hts, hK, hlk, hN⟩ := id C
  intro fu
  induction fu with
  | zero =>
    intro σ x1 x2 x3 hf
    rw [f_X8_takeCard_50] at hf
    cases hf
  | succ fu ih =>
    intro σ x1 x2 x3 hf H locs ls hs hl
    rw [f_X8_takeCard_50] at hf
    refine lv_iload_n hx hb dX8_takeCard_50 rfl (lv_at hl 3 rfl) ?_
    refine lv_iload_n hx hb dX8_takeCard_51 rfl (lv_at hl 1 rfl) ?_
    refine lv_icmp_ge (tgt := 105) hx hb dX8_takeCard_52 (by decide) (fun cn => ?_) (fun cn => ?_)
    · replace hf := cb_ifp cn hf
      exact w_X8_takeCard_105 C  hf hs (lv_sub hl [0, 2] rfl)
    · replace hf := cb_ifn cn hf
      refine lv_iload_n hx hb dX8_takeCard_55 rfl (lv_at hl 2 rfl) ?_
      refine lv_if_ne (tgt := 105) hx hb dX8_takeCard_56 (by decide) (fun cn => ?_) (fun cn => ?_)
      · replace hf := cb_ifn cn hf
        exact w_X8_takeCard_105 C  hf hs (lv_sub hl [0, 2] rfl)
      · replace hf := cb_ifp cn hf
        refine lv_aload_n hx hb dX8_takeCard_59 rfl (lv_at hl 0 rfl) ?_
        refine gf_X8_29 C hs rfl dX8_takeCard_60 ?_
        refine lv_iload_n hx hb dX8_takeCard_63 rfl (lv_at hl 3 rfl) ?_
        obtain ⟨hc, hf⟩ := cb_ck_inv hf
        refine cb_iald C hs rfl (vp_in_iff.mpr hc) dX8_takeCard_64 ?_
        refine lv_aload_n hx hb dX8_takeCard_65 rfl (lv_at hl 0 rfl) ?_
        refine gf_X8_29 C hs rfl dX8_takeCard_66 ?_
        refine lv_iload_n hx hb dX8_takeCard_69 rfl (lv_at hl 1 rfl) ?_
        obtain ⟨hc, hf⟩ := cb_ck_inv hf
        refine cb_iald C hs rfl (vp_in_iff.mpr hc) dX8_takeCard_70 ?_
        refine lv_icmp_ne (tgt := 99) hx hb dX8_takeCard_71 (by decide) (fun cn => ?_) (fun cn => ?_)
        · replace hf := cb_ifn cn hf
          exact w_X8_takeCard_99 C ih hf hs (lv_sub hl [0, 1, 2, 3] rfl)
        · replace hf := cb_ifp cn hf
          refine lv_aload_n hx hb dX8_takeCard_74 rfl (lv_at hl 0 rfl) ?_
          refine gf_X8_32 C hs rfl dX8_takeCard_75 ?_
          refine lv_iload_n hx hb dX8_takeCard_78 rfl (lv_at hl 3 rfl) ?_
          obtain ⟨hc, hf⟩ := cb_ck_inv hf
          refine cb_iald C hs rfl (vp_in_iff.mpr hc) dX8_takeCard_79 ?_
          refine lv_aload_n hx hb dX8_takeCard_80 rfl (lv_at hl 0 rfl) ?_
          refine gf_X8_32 C hs rfl dX8_takeCard_81 ?_
          refine lv_iload_n hx hb dX8_takeCard_84 rfl (lv_at hl 1 rfl) ?_
          obtain ⟨hc, hf⟩ := cb_ck_inv hf
          refine cb_iald C hs rfl (vp_in_iff.mpr hc) dX8_takeCard_85 ?_
          refine lv_icmp_ne (tgt := 99) hx hb dX8_takeCard_86 (by decide) (fun cn => ?_) (fun cn => ?_)
          · replace hf := cb_ifn cn hf
            exact w_X8_takeCard_99 C ih hf hs (lv_sub hl [0, 1, 2, 3] rfl)
          · replace hf := cb_ifp cn hf
            refine lv_aload_n hx hb dX8_takeCard_89 rfl (lv_at hl 0 rfl) ?_
            refine lv_iconst (v := 4) hx hb dX8_takeCard_90 (by decide) ?_
            refine lv_aload_n hx hb dX8_takeCard_91 rfl (lv_at hl 0 rfl) ?_
            refine gf_X8_111 C hs rfl dX8_takeCard_92 ?_
            obtain ⟨r_1, σ_2, hc, hf⟩ := cb_bi_inv hf
            refine cb_callVi C (c_X8_fails  hc) mw_X8_fails ml_X8_107 rfl ⟨Nat.le_of_ble_eq_true rfl, Nat.le_of_ble_eq_true rfl⟩ rfl (Nat.le_of_ble_eq_true rfl) rfl hs hl rfl (Nat.le_of_ble_eq_true rfl) dX8_takeCard_95 (fun H locs hs => ?_)
            clear hc
            have hf := Option.some.inj hf
            subst hf
            exact cb_reti C hs dX8_takeCard_98
def f_X8_takeCard_47  (σ : cb_St) (x1 : Int32) (s0 : Int32) : Option (Int32 × cb_St) := f_X8_takeCard_50 cb_fu σ x1 s0 0
set_option maxHeartbeats 4000000 in
set_option maxRecDepth 100000 in
theorem w_X8_takeCard_47 (C : cb_C p s m args meth c cX8_takeCard 4 (some .int) RX8 D T)  {o : Int32 × cb_St}  {σ : cb_St} {x1 : Int32} {s0 : Int32} (hf : f_X8_takeCard_47 σ x1 s0 = some o) {H : Heap} {locs : List Loc} {ls : Array Slot} (hs : cb_H shM A T D σ s.heap H locs) (hl : lv_has ls 4 [(0, .ref (A 0)), (1, .int x1)]) : cb_W p l e 4 s m args below meth c shM A T D (some (.int o.1)) o.2 H locs (F0 m 47 ls [.int s0]) := by
  obtain ⟨hx, hb, hml, hr, hown, hts, hK, hlk, hN⟩ := id C
  unfold f_X8_takeCard_47 at hf
  refine lv_istore_n (lv' := [(2, .int s0), (0, .ref (A 0)), (1, .int x1)]) hx hb dX8_takeCard_47 rfl hl (by decide) rfl (fun ls hl => ?_)
  refine lv_iconst (v := 0) hx hb dX8_takeCard_48 (by decide) ?_
  refine lv_istore_n (lv' := [(3, .int 0), (2, .int s0), (0, .ref (A 0)), (1, .int x1)]) hx hb dX8_takeCard_49 rfl hl (by decide) rfl (fun ls hl => ?_)
  exact w_X8_takeCard_50 C  cb_fu _ _ _ _ hf _ _ _ hs (lv_sub hl [2, 3, 1, 0] rfl)
def f_X8_takeCard  (σ : cb_St) : Option (Int32 × cb_St) := cb_let (σ.1 0 18) (fun x1_0 => cb_let (cb_sI σ 0 18 ((σ.1 0 18) + 1)) (fun σ_2 => cb_bi (f_X8_into 6 12 x1_0 1 13 σ_2) (fun r_3 σ_4 => if r_3 ≤ 0 then (cb_bi (f_X8_into 7 12 x1_0 0 3 σ_4) (fun r_5 σ_6 => f_X8_takeCard_47 σ_6 x1_0 r_5)) else (f_X8_takeCard_47 σ_4 x1_0 r_3))))
set_option maxHeartbeats 4000000 in
set_option maxRecDepth 100000 in
theorem c_X8_takeCard   {σ : cb_St} {o : Int32 × cb_St} (hf : f_X8_takeCard σ = some o) : cb_M l yX8_takeCard cX8_takeCard 4 (some .int) 4 shM A T D σ [.ref (A 0)] (some (.int o.1)) o.2 := by
  refine cb_met (by decide +kernel) (Nat.le_of_ble_eq_true rfl) ?_
  intro p e s m below meth c C hs ls hl
  have hl : lv_has ls 4 [(0, .ref (A 0))] := hl
  obtain ⟨hx, hb, hml, hr, hown, hts, hK, hlk, hN⟩ := id C
  unfold f_X8_takeCard at hf
  refine lv_aload_n hx hb dX8_takeCard_0 rfl (lv_at hl 0 rfl) ?_
  refine gf_X8_128 C hs rfl dX8_takeCard_1 ?_
  obtain ⟨x1_0, e9, hf⟩ := cb_let_inv hf
  refine cb_topi e9 ?_
  clear e9
  refine lv_istore_n (lv' := [(1, .int x1_0), (0, .ref (A 0))]) hx hb dX8_takeCard_4 rfl hl (by decide) rfl (fun ls hl => ?_)
  refine lv_aload_n hx hb dX8_takeCard_5 rfl (lv_at hl 1 rfl) ?_
  refine lv_dup hx hb dX8_takeCard_6 rfl ?_
  refine gf_X8_128 C hs rfl dX8_takeCard_7 ?_
  refine lv_iconst (v := 1) hx hb dX8_takeCard_10 (by decide) ?_
  refine lv_iadd hx hb dX8_takeCard_11 ?_
  refine pf_X8_128 C hs rfl dX8_takeCard_12 (fun H locs hs => ?_)
  obtain ⟨σ_2, e9, hf⟩ := cb_let_inv hf
  replace hs := cb_Hc e9 hs
  clear e9
  refine lv_aload_n hx hb dX8_takeCard_15 rfl (lv_at hl 1 rfl) ?_
  refine lv_aload_n hx hb dX8_takeCard_16 rfl (lv_at hl 1 rfl) ?_
  refine gf_X8_29 C hs rfl dX8_takeCard_17 ?_
  refine lv_iload_n hx hb dX8_takeCard_20 rfl (lv_at hl 0 rfl) ?_
  refine lv_iconst (v := 1) hx hb dX8_takeCard_21 (by decide) ?_
  refine lv_bipush (v := 13) hx hb dX8_takeCard_22 (by decide) ?_
  obtain ⟨r_3, σ_4, hc, hf⟩ := cb_bi_inv hf
  refine cb_callVi C (c_X8_into rfl hc) mw_X8_into ml_X8_124 rfl ⟨Nat.le_of_ble_eq_true rfl, Nat.le_of_ble_eq_true rfl⟩ rfl (Nat.le_of_ble_eq_true rfl) rfl hs hl rfl (Nat.le_of_ble_eq_true rfl) dX8_takeCard_24 (fun H locs hs => ?_)
  clear hc
  refine lv_istore_n (lv' := [(2, .int r_3), (1, .int x1_0), (0, .ref (A 0))]) hx hb dX8_takeCard_27 rfl hl (by decide) rfl (fun ls hl => ?_)
  refine lv_iload_n hx hb dX8_takeCard_28 rfl (lv_at hl 0 rfl) ?_
  refine lv_if_le (tgt := 36) hx hb dX8_takeCard_29 (by decide) (fun cn => ?_) (fun cn => ?_)
  · replace hf := cb_ifp cn hf
    refine lv_aload_n hx hb dX8_takeCard_36 rfl (lv_at hl 2 rfl) ?_
    refine lv_aload_n hx hb dX8_takeCard_37 rfl (lv_at hl 2 rfl) ?_
    refine gf_X8_32 C hs rfl dX8_takeCard_38 ?_
    refine lv_iload_n hx hb dX8_takeCard_41 rfl (lv_at hl 1 rfl) ?_
    refine lv_iconst (v := 0) hx hb dX8_takeCard_42 (by decide) ?_
    refine lv_iconst (v := 3) hx hb dX8_takeCard_43 (by decide) ?_
    obtain ⟨r_5, σ_6, hc, hf⟩ := cb_bi_inv hf
    refine cb_callVi C (c_X8_into rfl hc) mw_X8_into ml_X8_124 rfl ⟨Nat.le_of_ble_eq_true rfl, Nat.le_of_ble_eq_true rfl⟩ rfl (Nat.le_of_ble_eq_true rfl) rfl hs hl rfl (Nat.le_of_ble_eq_true rfl) dX8_takeCard_44 (fun H locs hs => ?_)
    clear hc
    exact w_X8_takeCard_47 C  hf hs (lv_sub hl [2, 1] rfl)
  · replace hf := cb_ifn cn hf
    refine lv_iload_n hx hb dX8_takeCard_32 rfl (lv_at hl 0 rfl) ?_
    refine lv_goto (tgt := 47) hx hb dX8_takeCard_33 (by decide) ?_
    exact w_X8_takeCard_47 C  hf hs (lv_sub hl [2, 1] rfl)
/-! ===== CardBecomeModel.takePerson ===== -/
def f_X8_takePerson  (σ : cb_St) : Option (Int32 × cb_St) := cb_let (cb_sI σ 0 21 ((σ.1 0 21) + 1)) (fun σ_1 => some (0, σ_1))
set_option maxHeartbeats 4000000 in
set_option maxRecDepth 100000 in
theorem c_X8_takePerson   {σ : cb_St} {o : Int32 × cb_St} (hf : f_X8_takePerson σ = some o) : cb_M l yX8_takePerson cX8_takePerson 1 (some .int) 1 shM A T D σ [.ref (A 0)] (some (.int o.1)) o.2 := by
  refine cb_met (by decide +kernel) (Nat.le_of_ble_eq_true rfl) ?_
  intro p e s m below meth c C hs ls hl
  have hl : lv_has ls 1 [(0, .ref (A 0))] := hl
  obtain ⟨hx, hb, hml, hr, hown, hts, hK, hlk, hN⟩ := id C
  unfold f_X8_takePerson at hf
  refine lv_aload_n hx hb dX8_takePerson_0 rfl (lv_at hl 0 rfl) ?_
  refine lv_dup hx hb dX8_takePerson_1 rfl ?_
  refine gf_X8_131 C hs rfl dX8_takePerson_2 ?_
  refine lv_iconst (v := 1) hx hb dX8_takePerson_5 (by decide) ?_
  refine lv_iadd hx hb dX8_takePerson_6 ?_
  refine pf_X8_131 C hs rfl dX8_takePerson_7 (fun H locs hs => ?_)
  obtain ⟨σ_1, e9, hf⟩ := cb_let_inv hf
  replace hs := cb_Hc e9 hs
  clear e9
  refine lv_iconst (v := 0) hx hb dX8_takePerson_10 (by decide) ?_
  have hf := Option.some.inj hf
  subst hf
  exact cb_reti C hs dX8_takePerson_11
/-! ===== CardBecomeModel.takeRules ===== -/
def f_X8_takeRules_36  (σ : cb_St) (s0 : Int32) : Option (Int32 × cb_St) := if s0 ≤ 0 then (cb_bi (f_X8_into 5 3 2 0 1 σ) (fun r_1 σ_2 => some (r_1, σ_2))) else (some (s0, σ))
set_option maxHeartbeats 4000000 in
set_option maxRecDepth 100000 in
theorem w_X8_takeRules_36 (C : cb_C p s m args meth c cX8_takeRules 2 (some .int) RX8 D T)  {o : Int32 × cb_St}  {σ : cb_St} {s0 : Int32} (hf : f_X8_takeRules_36 σ s0 = some o) {H : Heap} {locs : List Loc} {ls : Array Slot} (hs : cb_H shM A T D σ s.heap H locs) (hl : lv_has ls 2 [(0, .ref (A 0))]) : cb_W p l e 4 s m args below meth c shM A T D (some (.int o.1)) o.2 H locs (F0 m 36 ls [.int s0]) := by
  obtain ⟨hx, hb, hml, hr, hown, hts, hK, hlk, hN⟩ := id C
  unfold f_X8_takeRules_36 at hf
  refine lv_istore_n (lv' := [(1, .int s0), (0, .ref (A 0))]) hx hb dX8_takeRules_36 rfl hl (by decide) rfl (fun ls hl => ?_)
  refine lv_iload_n hx hb dX8_takeRules_37 rfl (lv_at hl 0 rfl) ?_
  refine lv_if_le (tgt := 45) hx hb dX8_takeRules_38 (by decide) (fun cn => ?_) (fun cn => ?_)
  · replace hf := cb_ifp cn hf
    refine lv_aload_n hx hb dX8_takeRules_45 rfl (lv_at hl 1 rfl) ?_
    refine lv_aload_n hx hb dX8_takeRules_46 rfl (lv_at hl 1 rfl) ?_
    refine gf_X8_26 C hs rfl dX8_takeRules_47 ?_
    refine lv_iconst (v := 2) hx hb dX8_takeRules_50 (by decide) ?_
    refine lv_iconst (v := 0) hx hb dX8_takeRules_51 (by decide) ?_
    refine lv_iconst (v := 1) hx hb dX8_takeRules_52 (by decide) ?_
    obtain ⟨r_1, σ_2, hc, hf⟩ := cb_bi_inv hf
    refine cb_callVi C (c_X8_into rfl hc) mw_X8_into ml_X8_124 rfl ⟨Nat.le_of_ble_eq_true rfl, Nat.le_of_ble_eq_true rfl⟩ rfl (Nat.le_of_ble_eq_true rfl) rfl hs hl rfl (Nat.le_of_ble_eq_true rfl) dX8_takeRules_53 (fun H locs hs => ?_)
    clear hc
    have hf := Option.some.inj hf
    subst hf
    exact cb_reti C hs dX8_takeRules_56
  · replace hf := cb_ifn cn hf
    refine lv_iload_n hx hb dX8_takeRules_41 rfl (lv_at hl 0 rfl) ?_
    refine lv_goto (tgt := 56) hx hb dX8_takeRules_42 (by decide) ?_
    have hf := Option.some.inj hf
    subst hf
    exact cb_reti C hs dX8_takeRules_56
def f_X8_takeRules  (σ : cb_St) : Option (Int32 × cb_St) := cb_let (cb_sI σ 0 16 1) (fun σ_1 => cb_bi (f_X8_into 5 3 0 0 4 σ_1) (fun r_2 σ_3 => if r_2 ≤ 0 then (cb_bi (f_X8_into 5 3 1 0 1 σ_3) (fun r_4 σ_5 => f_X8_takeRules_36 σ_5 r_4)) else (f_X8_takeRules_36 σ_3 r_2)))
set_option maxHeartbeats 4000000 in
set_option maxRecDepth 100000 in
theorem c_X8_takeRules   {σ : cb_St} {o : Int32 × cb_St} (hf : f_X8_takeRules σ = some o) : cb_M l yX8_takeRules cX8_takeRules 2 (some .int) 4 shM A T D σ [.ref (A 0)] (some (.int o.1)) o.2 := by
  refine cb_met (by decide +kernel) (Nat.le_of_ble_eq_true rfl) ?_
  intro p e s m below meth c C hs ls hl
  have hl : lv_has ls 2 [(0, .ref (A 0))] := hl
  obtain ⟨hx, hb, hml, hr, hown, hts, hK, hlk, hN⟩ := id C
  unfold f_X8_takeRules at hf
  refine lv_aload_n hx hb dX8_takeRules_0 rfl (lv_at hl 0 rfl) ?_
  refine lv_iconst (v := 1) hx hb dX8_takeRules_1 (by decide) ?_
  refine pf_X8_120 C hs rfl (Or.inr rfl) dX8_takeRules_2 (fun H locs hs => ?_)
  obtain ⟨σ_1, e9, hf⟩ := cb_let_inv hf
  replace hs := cb_Hc e9 hs
  clear e9
  refine lv_aload_n hx hb dX8_takeRules_5 rfl (lv_at hl 0 rfl) ?_
  refine lv_aload_n hx hb dX8_takeRules_6 rfl (lv_at hl 0 rfl) ?_
  refine gf_X8_26 C hs rfl dX8_takeRules_7 ?_
  refine lv_iconst (v := 0) hx hb dX8_takeRules_10 (by decide) ?_
  refine lv_iconst (v := 0) hx hb dX8_takeRules_11 (by decide) ?_
  refine lv_iconst (v := 4) hx hb dX8_takeRules_12 (by decide) ?_
  obtain ⟨r_2, σ_3, hc, hf⟩ := cb_bi_inv hf
  refine cb_callVi C (c_X8_into rfl hc) mw_X8_into ml_X8_124 rfl ⟨Nat.le_of_ble_eq_true rfl, Nat.le_of_ble_eq_true rfl⟩ rfl (Nat.le_of_ble_eq_true rfl) rfl hs hl rfl (Nat.le_of_ble_eq_true rfl) dX8_takeRules_13 (fun H locs hs => ?_)
  clear hc
  refine lv_istore_n (lv' := [(1, .int r_2), (0, .ref (A 0))]) hx hb dX8_takeRules_16 rfl hl (by decide) rfl (fun ls hl => ?_)
  refine lv_iload_n hx hb dX8_takeRules_17 rfl (lv_at hl 0 rfl) ?_
  refine lv_if_le (tgt := 25) hx hb dX8_takeRules_18 (by decide) (fun cn => ?_) (fun cn => ?_)
  · replace hf := cb_ifp cn hf
    refine lv_aload_n hx hb dX8_takeRules_25 rfl (lv_at hl 1 rfl) ?_
    refine lv_aload_n hx hb dX8_takeRules_26 rfl (lv_at hl 1 rfl) ?_
    refine gf_X8_26 C hs rfl dX8_takeRules_27 ?_
    refine lv_iconst (v := 1) hx hb dX8_takeRules_30 (by decide) ?_
    refine lv_iconst (v := 0) hx hb dX8_takeRules_31 (by decide) ?_
    refine lv_iconst (v := 1) hx hb dX8_takeRules_32 (by decide) ?_
    obtain ⟨r_4, σ_5, hc, hf⟩ := cb_bi_inv hf
    refine cb_callVi C (c_X8_into rfl hc) mw_X8_into ml_X8_124 rfl ⟨Nat.le_of_ble_eq_true rfl, Nat.le_of_ble_eq_true rfl⟩ rfl (Nat.le_of_ble_eq_true rfl) rfl hs hl rfl (Nat.le_of_ble_eq_true rfl) dX8_takeRules_33 (fun H locs hs => ?_)
    clear hc
    exact w_X8_takeRules_36 C  hf hs (lv_sub hl [1] rfl)
  · replace hf := cb_ifn cn hf
    refine lv_iload_n hx hb dX8_takeRules_21 rfl (lv_at hl 0 rfl) ?_
    refine lv_goto (tgt := 36) hx hb dX8_takeRules_22 (by decide) ?_
    exact w_X8_takeRules_36 C  hf hs (lv_sub hl [1] rfl)
/-! ===== CardBecomeModel.takeClause ===== -/
def f_X8_takeClause_187  (σ : cb_St) (x4 : Int32) : Option (Int32 × cb_St) := cb_let (cb_sI σ 0 13 ((σ.1 0 13) + 1)) (fun σ_1 => some (x4, σ_1))
set_option maxHeartbeats 4000000 in
set_option maxRecDepth 100000 in
theorem w_X8_takeClause_187 (C : cb_C p s m args meth c cX8_takeClause 5 (some .int) RX8 D T)  {o : Int32 × cb_St}  {σ : cb_St} {x4 : Int32} (hf : f_X8_takeClause_187 σ x4 = some o) {H : Heap} {locs : List Loc} {ls : Array Slot} (hs : cb_H shM A T D σ s.heap H locs) (hl : lv_has ls 5 [(0, .ref (A 0)), (4, .int x4)]) : cb_W p l e 5 s m args below meth c shM A T D (some (.int o.1)) o.2 H locs (F0 m 187 ls []) := by
  obtain ⟨hx, hb, hml, hr, hown, hts, hK, hlk, hN⟩ := id C
  unfold f_X8_takeClause_187 at hf
  refine lv_aload_n hx hb dX8_takeClause_187 rfl (lv_at hl 0 rfl) ?_
  refine lv_dup hx hb dX8_takeClause_188 rfl ?_
  refine gf_X8_96 C hs rfl dX8_takeClause_189 ?_
  refine lv_iconst (v := 1) hx hb dX8_takeClause_192 (by decide) ?_
  refine lv_iadd hx hb dX8_takeClause_193 ?_
  refine pf_X8_96 C hs rfl dX8_takeClause_194 (fun H locs hs => ?_)
  obtain ⟨σ_1, e9, hf⟩ := cb_let_inv hf
  replace hs := cb_Hc e9 hs
  clear e9
  refine lv_iload hx hb dX8_takeClause_197 (lv_at hl 1 rfl) ?_
  have hf := Option.some.inj hf
  subst hf
  exact cb_reti C hs dX8_takeClause_199
def f_X8_takeClause_161  (σ : cb_St) (s0 : Int32) : Option (Int32 × cb_St) := if s0 = 0 then (cb_bi (f_X8_here σ) (fun r_1 σ_2 => if r_1 = 59 then (f_X8_takeClause_187 σ_2 s0) else (cb_bi (f_X8_fails 1 (σ_2.1 0 13) σ_2) (fun r_3 σ_4 => some (r_3, σ_4))))) else (f_X8_takeClause_187 σ s0)
set_option maxHeartbeats 4000000 in
set_option maxRecDepth 100000 in
theorem w_X8_takeClause_161 (C : cb_C p s m args meth c cX8_takeClause 5 (some .int) RX8 D T)  {o : Int32 × cb_St}  {σ : cb_St} {s0 : Int32} (hf : f_X8_takeClause_161 σ s0 = some o) {H : Heap} {locs : List Loc} {ls : Array Slot} (hs : cb_H shM A T D σ s.heap H locs) (hl : lv_has ls 5 [(0, .ref (A 0))]) : cb_W p l e 5 s m args below meth c shM A T D (some (.int o.1)) o.2 H locs (F0 m 161 ls [.int s0]) := by
  obtain ⟨hx, hb, hml, hr, hown, hts, hK, hlk, hN⟩ := id C
  unfold f_X8_takeClause_161 at hf
  refine lv_istore (lv' := [(4, .int s0), (0, .ref (A 0))]) hx hb dX8_takeClause_161 hl (by decide) rfl (fun ls hl => ?_)
  refine lv_iload hx hb dX8_takeClause_163 (lv_at hl 0 rfl) ?_
  refine lv_if_ne (tgt := 187) hx hb dX8_takeClause_165 (by decide) (fun cn => ?_) (fun cn => ?_)
  · replace hf := cb_ifn cn hf
    exact w_X8_takeClause_187 C  hf hs (lv_sub hl [1, 0] rfl)
  · replace hf := cb_ifp cn hf
    refine lv_aload_n hx hb dX8_takeClause_168 rfl (lv_at hl 1 rfl) ?_
    obtain ⟨r_1, σ_2, hc, hf⟩ := cb_bi_inv hf
    refine cb_callVi C (c_X8_here  hc) mw_X8_here ml_X8_99 rfl ⟨Nat.le_of_ble_eq_true rfl, Nat.le_of_ble_eq_true rfl⟩ rfl (Nat.le_of_ble_eq_true rfl) rfl hs hl rfl (Nat.le_of_ble_eq_true rfl) dX8_takeClause_169 (fun H locs hs => ?_)
    clear hc
    refine lv_bipush (v := 59) hx hb dX8_takeClause_172 (by decide) ?_
    refine lv_icmp_eq (tgt := 187) hx hb dX8_takeClause_174 (by decide) (fun cn => ?_) (fun cn => ?_)
    · replace hf := cb_ifp cn hf
      exact w_X8_takeClause_187 C  hf hs (lv_sub hl [1, 0] rfl)
    · replace hf := cb_ifn cn hf
      refine lv_aload_n hx hb dX8_takeClause_177 rfl (lv_at hl 1 rfl) ?_
      refine lv_iconst (v := 1) hx hb dX8_takeClause_178 (by decide) ?_
      refine lv_aload_n hx hb dX8_takeClause_179 rfl (lv_at hl 1 rfl) ?_
      refine gf_X8_96 C hs rfl dX8_takeClause_180 ?_
      obtain ⟨r_3, σ_4, hc, hf⟩ := cb_bi_inv hf
      refine cb_callVi C (c_X8_fails  hc) mw_X8_fails ml_X8_107 rfl ⟨Nat.le_of_ble_eq_true rfl, Nat.le_of_ble_eq_true rfl⟩ rfl (Nat.le_of_ble_eq_true rfl) rfl hs hl rfl (Nat.le_of_ble_eq_true rfl) dX8_takeClause_183 (fun H locs hs => ?_)
      clear hc
      have hf := Option.some.inj hf
      subst hf
      exact cb_reti C hs dX8_takeClause_186
def f_X8_takeClause_109  (σ : cb_St) (x2 : Int32) (s0 : Int32) : Option (Int32 × cb_St) := if s0 = 0 then (cb_let (cb_sI σ 0 13 ((σ.1 0 13) + 1)) (fun σ_1 => if x2 = 0 then (cb_bi (f_X8_takeRules σ_1) (fun r_6 σ_7 => f_X8_takeClause_161 σ_7 r_6)) else (if x2 = 1 then (cb_bi (f_X8_takeCard σ_1) (fun r_4 σ_5 => f_X8_takeClause_161 σ_5 r_4)) else (cb_bi (f_X8_takePerson σ_1) (fun r_2 σ_3 => f_X8_takeClause_161 σ_3 r_2))))) else (cb_bi (f_X8_fails 3 (σ.1 0 13) σ) (fun r_8 σ_9 => some (r_8, σ_9)))
set_option maxHeartbeats 4000000 in
set_option maxRecDepth 100000 in
theorem w_X8_takeClause_109 (C : cb_C p s m args meth c cX8_takeClause 5 (some .int) RX8 D T)  {o : Int32 × cb_St}  {σ : cb_St} {x2 : Int32} {s0 : Int32} (hf : f_X8_takeClause_109 σ x2 s0 = some o) {H : Heap} {locs : List Loc} {ls : Array Slot} (hs : cb_H shM A T D σ s.heap H locs) (hl : lv_has ls 5 [(0, .ref (A 0)), (2, .int x2)]) : cb_W p l e 5 s m args below meth c shM A T D (some (.int o.1)) o.2 H locs (F0 m 109 ls [.int s0]) := by
  obtain ⟨hx, hb, hml, hr, hown, hts, hK, hlk, hN⟩ := id C
  unfold f_X8_takeClause_109 at hf
  refine lv_istore_n (lv' := [(3, .int s0), (0, .ref (A 0)), (2, .int x2)]) hx hb dX8_takeClause_109 rfl hl (by decide) rfl (fun ls hl => ?_)
  refine lv_iload_n hx hb dX8_takeClause_110 rfl (lv_at hl 0 rfl) ?_
  refine lv_if_eq (tgt := 124) hx hb dX8_takeClause_111 (by decide) (fun cn => ?_) (fun cn => ?_)
  · replace hf := cb_ifp cn hf
    refine lv_aload_n hx hb dX8_takeClause_124 rfl (lv_at hl 1 rfl) ?_
    refine lv_dup hx hb dX8_takeClause_125 rfl ?_
    refine gf_X8_96 C hs rfl dX8_takeClause_126 ?_
    refine lv_iconst (v := 1) hx hb dX8_takeClause_129 (by decide) ?_
    refine lv_iadd hx hb dX8_takeClause_130 ?_
    refine pf_X8_96 C hs rfl dX8_takeClause_131 (fun H locs hs => ?_)
    obtain ⟨σ_1, e9, hf⟩ := cb_let_inv hf
    replace hs := cb_Hc e9 hs
    clear e9
    refine lv_iload_n hx hb dX8_takeClause_134 rfl (lv_at hl 2 rfl) ?_
    refine lv_if_ne (tgt := 145) hx hb dX8_takeClause_135 (by decide) (fun cn => ?_) (fun cn => ?_)
    · replace hf := cb_ifn cn hf
      refine lv_iload_n hx hb dX8_takeClause_145 rfl (lv_at hl 2 rfl) ?_
      refine lv_iconst (v := 1) hx hb dX8_takeClause_146 (by decide) ?_
      refine lv_icmp_ne (tgt := 157) hx hb dX8_takeClause_147 (by decide) (fun cn => ?_) (fun cn => ?_)
      · replace hf := cb_ifn cn hf
        refine lv_aload_n hx hb dX8_takeClause_157 rfl (lv_at hl 1 rfl) ?_
        obtain ⟨r_2, σ_3, hc, hf⟩ := cb_bi_inv hf
        refine cb_callVi C (c_X8_takePerson  hc) mw_X8_takePerson ml_X8_140 rfl ⟨Nat.le_of_ble_eq_true rfl, Nat.le_of_ble_eq_true rfl⟩ rfl (Nat.le_of_ble_eq_true rfl) rfl hs hl rfl (Nat.le_of_ble_eq_true rfl) dX8_takeClause_158 (fun H locs hs => ?_)
        clear hc
        exact w_X8_takeClause_161 C  hf hs (lv_sub hl [1] rfl)
      · replace hf := cb_ifp cn hf
        refine lv_aload_n hx hb dX8_takeClause_150 rfl (lv_at hl 1 rfl) ?_
        obtain ⟨r_4, σ_5, hc, hf⟩ := cb_bi_inv hf
        refine cb_callVi C (c_X8_takeCard  hc) mw_X8_takeCard ml_X8_137 rfl ⟨Nat.le_of_ble_eq_true rfl, Nat.le_of_ble_eq_true rfl⟩ rfl (Nat.le_of_ble_eq_true rfl) rfl hs hl rfl (Nat.le_of_ble_eq_true rfl) dX8_takeClause_151 (fun H locs hs => ?_)
        clear hc
        refine lv_goto (tgt := 161) hx hb dX8_takeClause_154 (by decide) ?_
        exact w_X8_takeClause_161 C  hf hs (lv_sub hl [1] rfl)
    · replace hf := cb_ifp cn hf
      refine lv_aload_n hx hb dX8_takeClause_138 rfl (lv_at hl 1 rfl) ?_
      obtain ⟨r_6, σ_7, hc, hf⟩ := cb_bi_inv hf
      refine cb_callVi C (c_X8_takeRules  hc) mw_X8_takeRules ml_X8_134 rfl ⟨Nat.le_of_ble_eq_true rfl, Nat.le_of_ble_eq_true rfl⟩ rfl (Nat.le_of_ble_eq_true rfl) rfl hs hl rfl (Nat.le_of_ble_eq_true rfl) dX8_takeClause_139 (fun H locs hs => ?_)
      clear hc
      refine lv_goto (tgt := 161) hx hb dX8_takeClause_142 (by decide) ?_
      exact w_X8_takeClause_161 C  hf hs (lv_sub hl [1] rfl)
  · replace hf := cb_ifn cn hf
    refine lv_aload_n hx hb dX8_takeClause_114 rfl (lv_at hl 1 rfl) ?_
    refine lv_iconst (v := 3) hx hb dX8_takeClause_115 (by decide) ?_
    refine lv_aload_n hx hb dX8_takeClause_116 rfl (lv_at hl 1 rfl) ?_
    refine gf_X8_96 C hs rfl dX8_takeClause_117 ?_
    obtain ⟨r_8, σ_9, hc, hf⟩ := cb_bi_inv hf
    refine cb_callVi C (c_X8_fails  hc) mw_X8_fails ml_X8_107 rfl ⟨Nat.le_of_ble_eq_true rfl, Nat.le_of_ble_eq_true rfl⟩ rfl (Nat.le_of_ble_eq_true rfl) rfl hs hl rfl (Nat.le_of_ble_eq_true rfl) dX8_takeClause_120 (fun H locs hs => ?_)
    clear hc
    have hf := Option.some.inj hf
    subst hf
    exact cb_reti C hs dX8_takeClause_123
def f_X8_takeClause_62  (σ : cb_St) (x2 : Int32) : Option (Int32 × cb_St) := if x2 = 0 then (f_X8_takeClause_109 σ x2 (σ.1 0 16)) else (if x2 = 1 then (if (σ.1 0 18) = 12 then (f_X8_takeClause_109 σ x2 1) else (f_X8_takeClause_109 σ x2 0)) else (if (σ.1 0 21) = 6 then (f_X8_takeClause_109 σ x2 1) else (f_X8_takeClause_109 σ x2 0)))
set_option maxHeartbeats 4000000 in
set_option maxRecDepth 100000 in
theorem w_X8_takeClause_62 (C : cb_C p s m args meth c cX8_takeClause 5 (some .int) RX8 D T)  {o : Int32 × cb_St}  {σ : cb_St} {x2 : Int32} (hf : f_X8_takeClause_62 σ x2 = some o) {H : Heap} {locs : List Loc} {ls : Array Slot} (hs : cb_H shM A T D σ s.heap H locs) (hl : lv_has ls 5 [(0, .ref (A 0)), (2, .int x2)]) : cb_W p l e 5 s m args below meth c shM A T D (some (.int o.1)) o.2 H locs (F0 m 62 ls []) := by
  obtain ⟨hx, hb, hml, hr, hown, hts, hK, hlk, hN⟩ := id C
  unfold f_X8_takeClause_62 at hf
  refine lv_iload_n hx hb dX8_takeClause_62 rfl (lv_at hl 1 rfl) ?_
  refine lv_if_ne (tgt := 73) hx hb dX8_takeClause_63 (by decide) (fun cn => ?_) (fun cn => ?_)
  · replace hf := cb_ifn cn hf
    refine lv_iload_n hx hb dX8_takeClause_73 rfl (lv_at hl 1 rfl) ?_
    refine lv_iconst (v := 1) hx hb dX8_takeClause_74 (by decide) ?_
    refine lv_icmp_ne (tgt := 95) hx hb dX8_takeClause_75 (by decide) (fun cn => ?_) (fun cn => ?_)
    · replace hf := cb_ifn cn hf
      refine lv_aload_n hx hb dX8_takeClause_95 rfl (lv_at hl 0 rfl) ?_
      refine gf_X8_131 C hs rfl dX8_takeClause_96 ?_
      refine lv_bipush (v := 6) hx hb dX8_takeClause_99 (by decide) ?_
      refine lv_icmp_ne (tgt := 108) hx hb dX8_takeClause_101 (by decide) (fun cn => ?_) (fun cn => ?_)
      · replace hf := cb_ifn cn hf
        refine lv_iconst (v := 0) hx hb dX8_takeClause_108 (by decide) ?_
        exact w_X8_takeClause_109 C  hf hs (lv_sub hl [0, 1] rfl)
      · replace hf := cb_ifp cn hf
        refine lv_iconst (v := 1) hx hb dX8_takeClause_104 (by decide) ?_
        refine lv_goto (tgt := 109) hx hb dX8_takeClause_105 (by decide) ?_
        exact w_X8_takeClause_109 C  hf hs (lv_sub hl [0, 1] rfl)
    · replace hf := cb_ifp cn hf
      refine lv_aload_n hx hb dX8_takeClause_78 rfl (lv_at hl 0 rfl) ?_
      refine gf_X8_128 C hs rfl dX8_takeClause_79 ?_
      refine lv_bipush (v := 12) hx hb dX8_takeClause_82 (by decide) ?_
      refine lv_icmp_ne (tgt := 91) hx hb dX8_takeClause_84 (by decide) (fun cn => ?_) (fun cn => ?_)
      · replace hf := cb_ifn cn hf
        refine lv_iconst (v := 0) hx hb dX8_takeClause_91 (by decide) ?_
        refine lv_goto (tgt := 109) hx hb dX8_takeClause_92 (by decide) ?_
        exact w_X8_takeClause_109 C  hf hs (lv_sub hl [0, 1] rfl)
      · replace hf := cb_ifp cn hf
        refine lv_iconst (v := 1) hx hb dX8_takeClause_87 (by decide) ?_
        refine lv_goto (tgt := 109) hx hb dX8_takeClause_88 (by decide) ?_
        exact w_X8_takeClause_109 C  hf hs (lv_sub hl [0, 1] rfl)
  · replace hf := cb_ifp cn hf
    refine lv_aload_n hx hb dX8_takeClause_66 rfl (lv_at hl 0 rfl) ?_
    refine gf_X8_120 C hs rfl dX8_takeClause_67 ?_
    refine lv_goto (tgt := 109) hx hb dX8_takeClause_70 (by decide) ?_
    exact w_X8_takeClause_109 C  hf hs (lv_sub hl [0, 1] rfl)
def f_X8_takeClause_52  (σ : cb_St) : Option (Int32 × cb_St) := cb_bi (f_X8_fails 1 (σ.1 0 13) σ) (fun r_1 σ_2 => some (r_1, σ_2))
set_option maxHeartbeats 4000000 in
set_option maxRecDepth 100000 in
theorem w_X8_takeClause_52 (C : cb_C p s m args meth c cX8_takeClause 5 (some .int) RX8 D T)  {o : Int32 × cb_St}  {σ : cb_St} (hf : f_X8_takeClause_52 σ = some o) {H : Heap} {locs : List Loc} {ls : Array Slot} (hs : cb_H shM A T D σ s.heap H locs) (hl : lv_has ls 5 [(0, .ref (A 0))]) : cb_W p l e 5 s m args below meth c shM A T D (some (.int o.1)) o.2 H locs (F0 m 52 ls []) := by
  obtain ⟨hx, hb, hml, hr, hown, hts, hK, hlk, hN⟩ := id C
  unfold f_X8_takeClause_52 at hf
  refine lv_aload_n hx hb dX8_takeClause_52 rfl (lv_at hl 0 rfl) ?_
  refine lv_iconst (v := 1) hx hb dX8_takeClause_53 (by decide) ?_
  refine lv_aload_n hx hb dX8_takeClause_54 rfl (lv_at hl 0 rfl) ?_
  refine gf_X8_96 C hs rfl dX8_takeClause_55 ?_
  obtain ⟨r_1, σ_2, hc, hf⟩ := cb_bi_inv hf
  refine cb_callVi C (c_X8_fails  hc) mw_X8_fails ml_X8_107 rfl ⟨Nat.le_of_ble_eq_true rfl, Nat.le_of_ble_eq_true rfl⟩ rfl (Nat.le_of_ble_eq_true rfl) rfl hs hl rfl (Nat.le_of_ble_eq_true rfl) dX8_takeClause_58 (fun H locs hs => ?_)
  clear hc
  have hf := Option.some.inj hf
  subst hf
  exact cb_reti C hs dX8_takeClause_61
def f_X8_takeClause_36  (σ : cb_St) (s0 : Int32) : Option (Int32 × cb_St) := if s0 < 0 then (f_X8_takeClause_52 σ) else (if s0 ≤ 0 then (f_X8_takeClause_62 σ s0) else (if (σ.1 0 16) = 0 then (f_X8_takeClause_52 σ) else (f_X8_takeClause_62 σ s0)))
set_option maxHeartbeats 4000000 in
set_option maxRecDepth 100000 in
theorem w_X8_takeClause_36 (C : cb_C p s m args meth c cX8_takeClause 5 (some .int) RX8 D T)  {o : Int32 × cb_St}  {σ : cb_St} {s0 : Int32} (hf : f_X8_takeClause_36 σ s0 = some o) {H : Heap} {locs : List Loc} {ls : Array Slot} (hs : cb_H shM A T D σ s.heap H locs) (hl : lv_has ls 5 [(0, .ref (A 0))]) : cb_W p l e 5 s m args below meth c shM A T D (some (.int o.1)) o.2 H locs (F0 m 36 ls [.int s0]) := by
  obtain ⟨hx, hb, hml, hr, hown, hts, hK, hlk, hN⟩ := id C
  unfold f_X8_takeClause_36 at hf
  refine lv_istore_n (lv' := [(2, .int s0), (0, .ref (A 0))]) hx hb dX8_takeClause_36 rfl hl (by decide) rfl (fun ls hl => ?_)
  refine lv_iload_n hx hb dX8_takeClause_37 rfl (lv_at hl 0 rfl) ?_
  refine lv_if_lt (tgt := 52) hx hb dX8_takeClause_38 (by decide) (fun cn => ?_) (fun cn => ?_)
  · replace hf := cb_ifp cn hf
    exact w_X8_takeClause_52 C  hf hs (lv_sub hl [1] rfl)
  · replace hf := cb_ifn cn hf
    refine lv_iload_n hx hb dX8_takeClause_41 rfl (lv_at hl 0 rfl) ?_
    refine lv_if_le (tgt := 62) hx hb dX8_takeClause_42 (by decide) (fun cn => ?_) (fun cn => ?_)
    · replace hf := cb_ifp cn hf
      exact w_X8_takeClause_62 C  hf hs (lv_sub hl [1, 0] rfl)
    · replace hf := cb_ifn cn hf
      refine lv_aload_n hx hb dX8_takeClause_45 rfl (lv_at hl 1 rfl) ?_
      refine gf_X8_120 C hs rfl dX8_takeClause_46 ?_
      refine lv_if_ne (tgt := 62) hx hb dX8_takeClause_49 (by decide) (fun cn => ?_) (fun cn => ?_)
      · replace hf := cb_ifn cn hf
        exact w_X8_takeClause_62 C  hf hs (lv_sub hl [1, 0] rfl)
      · replace hf := cb_ifp cn hf
        exact w_X8_takeClause_52 C  hf hs (lv_sub hl [1] rfl)
def f_X8_takeClause  (σ : cb_St) : Option (Int32 × cb_St) := cb_bi (f_X8_here σ) (fun r_1 σ_2 => if r_1 = 114 then (f_X8_takeClause_36 σ_2 0) else (if r_1 = 99 then (f_X8_takeClause_36 σ_2 1) else (if r_1 = 112 then (f_X8_takeClause_36 σ_2 2) else (f_X8_takeClause_36 σ_2 (-1)))))
set_option maxHeartbeats 4000000 in
set_option maxRecDepth 100000 in
theorem c_X8_takeClause   {σ : cb_St} {o : Int32 × cb_St} (hf : f_X8_takeClause σ = some o) : cb_M l yX8_takeClause cX8_takeClause 5 (some .int) 5 shM A T D σ [.ref (A 0)] (some (.int o.1)) o.2 := by
  refine cb_met (by decide +kernel) (Nat.le_of_ble_eq_true rfl) ?_
  intro p e s m below meth c C hs ls hl
  have hl : lv_has ls 5 [(0, .ref (A 0))] := hl
  obtain ⟨hx, hb, hml, hr, hown, hts, hK, hlk, hN⟩ := id C
  unfold f_X8_takeClause at hf
  refine lv_aload_n hx hb dX8_takeClause_0 rfl (lv_at hl 0 rfl) ?_
  obtain ⟨r_1, σ_2, hc, hf⟩ := cb_bi_inv hf
  refine cb_callVi C (c_X8_here  hc) mw_X8_here ml_X8_99 rfl ⟨Nat.le_of_ble_eq_true rfl, Nat.le_of_ble_eq_true rfl⟩ rfl (Nat.le_of_ble_eq_true rfl) rfl hs hl rfl (Nat.le_of_ble_eq_true rfl) dX8_takeClause_1 (fun H locs hs => ?_)
  clear hc
  refine lv_istore_n (lv' := [(1, .int r_1), (0, .ref (A 0))]) hx hb dX8_takeClause_4 rfl hl (by decide) rfl (fun ls hl => ?_)
  refine lv_iload_n hx hb dX8_takeClause_5 rfl (lv_at hl 0 rfl) ?_
  refine lv_bipush (v := 114) hx hb dX8_takeClause_6 (by decide) ?_
  refine lv_icmp_ne (tgt := 15) hx hb dX8_takeClause_8 (by decide) (fun cn => ?_) (fun cn => ?_)
  · replace hf := cb_ifn cn hf
    refine lv_iload_n hx hb dX8_takeClause_15 rfl (lv_at hl 0 rfl) ?_
    refine lv_bipush (v := 99) hx hb dX8_takeClause_16 (by decide) ?_
    refine lv_icmp_ne (tgt := 25) hx hb dX8_takeClause_18 (by decide) (fun cn => ?_) (fun cn => ?_)
    · replace hf := cb_ifn cn hf
      refine lv_iload_n hx hb dX8_takeClause_25 rfl (lv_at hl 0 rfl) ?_
      refine lv_bipush (v := 112) hx hb dX8_takeClause_26 (by decide) ?_
      refine lv_icmp_ne (tgt := 35) hx hb dX8_takeClause_28 (by decide) (fun cn => ?_) (fun cn => ?_)
      · replace hf := cb_ifn cn hf
        refine lv_iconst (v := (-1)) hx hb dX8_takeClause_35 (by decide) ?_
        exact w_X8_takeClause_36 C  hf hs (lv_sub hl [1] rfl)
      · replace hf := cb_ifp cn hf
        refine lv_iconst (v := 2) hx hb dX8_takeClause_31 (by decide) ?_
        refine lv_goto (tgt := 36) hx hb dX8_takeClause_32 (by decide) ?_
        exact w_X8_takeClause_36 C  hf hs (lv_sub hl [1] rfl)
    · replace hf := cb_ifp cn hf
      refine lv_iconst (v := 1) hx hb dX8_takeClause_21 (by decide) ?_
      refine lv_goto (tgt := 36) hx hb dX8_takeClause_22 (by decide) ?_
      exact w_X8_takeClause_36 C  hf hs (lv_sub hl [1] rfl)
  · replace hf := cb_ifp cn hf
    refine lv_iconst (v := 0) hx hb dX8_takeClause_11 (by decide) ?_
    refine lv_goto (tgt := 36) hx hb dX8_takeClause_12 (by decide) ?_
    exact w_X8_takeClause_36 C  hf hs (lv_sub hl [1] rfl)
/-! ===== CardBecomeModel.takeRead ===== -/
def f_X8_takeRead_170  : Nat → cb_St → Int32 → Option (cb_St)
  | 0, _, _ => none
  | fu + 1, σ, x1 => if 6 ≤ x1 then (some σ) else (cb_ck (0 ≤ Int32.toInt (13 + x1) ∧ Int32.toInt (13 + x1) < 51) (cb_let (cb_sI σ 3 (Int32.toNatClampNeg (13 + x1)) (-1)) (fun σ_1 => cb_let (x1 + 1) (fun x1_1 => f_X8_takeRead_170 fu σ_1 x1_1))))
set_option maxHeartbeats 4000000 in
set_option maxRecDepth 100000 in
theorem w_X8_takeRead_170 (C : cb_C p s m args meth c cX8_takeRead 2 none RX8 D T)  {o : cb_St}  : ∀ (fu : Nat) (σ : cb_St) (x1 : Int32), f_X8_takeRead_170 fu σ x1 = some o → ∀ (H : Heap) (locs : List Loc) (ls : Array Slot), cb_H shM A T D σ s.heap H locs → lv_has ls 2 [(0, .ref (A 0)), (1, .int x1)] → cb_W p l e 1 s m args below meth c shM A T D none o H locs (F0 m 170 ls []) := by
  obtain ⟨hx, hb, hml, hr, hown, hts, hK, hlk, hN⟩ := id C
  intro fu
  induction fu with
  | zero =>
    intro σ x1 hf
    rw [f_X8_takeRead_170] at hf
    cases hf
  | succ fu ih =>
    intro σ x1 hf H locs ls hs hl
    rw [f_X8_takeRead_170] at hf
    refine lv_iload_n hx hb dX8_takeRead_170 rfl (lv_at hl 1 rfl) ?_
    refine lv_bipush (v := 6) hx hb dX8_takeRead_171 (by decide) ?_
    refine lv_icmp_ge (tgt := 192) hx hb dX8_takeRead_173 (by decide) (fun cn => ?_) (fun cn => ?_)
    · replace hf := cb_ifp cn hf
      have hf := Option.some.inj hf
      subst hf
      exact cb_retv C hs dX8_takeRead_192
    · replace hf := cb_ifn cn hf
      refine lv_aload_n hx hb dX8_takeRead_176 rfl (lv_at hl 0 rfl) ?_
      refine gf_X8_16 C hs rfl dX8_takeRead_177 ?_
      refine lv_bipush (v := 13) hx hb dX8_takeRead_180 (by decide) ?_
      refine lv_iload_n hx hb dX8_takeRead_182 rfl (lv_at hl 1 rfl) ?_
      refine lv_iadd hx hb dX8_takeRead_183 ?_
      refine lv_iconst (v := (-1)) hx hb dX8_takeRead_184 (by decide) ?_
      obtain ⟨hc, hf⟩ := cb_ck_inv hf
      refine cb_iast C hs rfl (vp_in_iff.mpr hc) dX8_takeRead_185 (fun H locs hs => ?_)
      obtain ⟨σ_1, e9, hf⟩ := cb_let_inv hf
      replace hs := cb_Hc e9 hs
      clear e9
      obtain ⟨x1_1, e9, hf⟩ := cb_let_inv hf
      refine lv_iinc (v := x1_1) (lv' := [(1, .int x1_1), (0, .ref (A 0))]) hx hb dX8_takeRead_186 hl (k := 1) rfl (by rw [e9]; rfl) (by decide) rfl (fun ls hl => ?_)
      clear e9
      refine lv_goto (tgt := 170) hx hb dX8_takeRead_189 (by decide) ?_
      exact ih _ _ hf _ _ _ hs (lv_sub hl [1, 0] rfl)
def f_X8_takeRead_110  : Nat → cb_St → Int32 → Option (cb_St)
  | 0, _, _ => none
  | fu + 1, σ, x1 => if (σ.1 0 4) ≤ x1 then (cb_ck (0 ≤ Int32.toInt 12 ∧ Int32.toInt 12 < 51) (cb_let (cb_sI σ 3 (Int32.toNatClampNeg 12) (σ.1 0 4)) (fun σ_1 => f_X8_takeRead_170 cb_fu σ_1 0))) else (cb_ck (0 ≤ Int32.toInt x1 ∧ Int32.toInt x1 < 12) (cb_ck (0 ≤ Int32.toInt x1 ∧ Int32.toInt x1 < 12) (cb_let (cb_sI σ 1 (Int32.toNatClampNeg x1) (σ.1 6 (Int32.toNatClampNeg x1))) (fun σ_2 => cb_ck (0 ≤ Int32.toInt x1 ∧ Int32.toInt x1 < 12) (cb_ck (0 ≤ Int32.toInt x1 ∧ Int32.toInt x1 < 12) (cb_let (cb_sI σ_2 2 (Int32.toNatClampNeg x1) (σ_2.1 7 (Int32.toNatClampNeg x1))) (fun σ_3 => cb_ck (0 ≤ Int32.toInt (0 + x1) ∧ Int32.toInt (0 + x1) < 51) (cb_let (cb_sI σ_3 3 (Int32.toNatClampNeg (0 + x1)) x1) (fun σ_4 => cb_let (x1 + 1) (fun x1_4 => f_X8_takeRead_110 fu σ_4 x1_4))))))))))
set_option maxHeartbeats 4000000 in
set_option maxRecDepth 100000 in
theorem w_X8_takeRead_110 (C : cb_C p s m args meth c cX8_takeRead 2 none RX8 D T)  {o : cb_St}  : ∀ (fu : Nat) (σ : cb_St) (x1 : Int32), f_X8_takeRead_110 fu σ x1 = some o → ∀ (H : Heap) (locs : List Loc) (ls : Array Slot), cb_H shM A T D σ s.heap H locs → lv_has ls 2 [(0, .ref (A 0)), (1, .int x1)] → cb_W p l e 1 s m args below meth c shM A T D none o H locs (F0 m 110 ls []) := by
  obtain ⟨hx, hb, hml, hr, hown, hts, hK, hlk, hN⟩ := id C
  intro fu
  induction fu with
  | zero =>
    intro σ x1 hf
    rw [f_X8_takeRead_110] at hf
    cases hf
  | succ fu ih =>
    intro σ x1 hf H locs ls hs hl
    rw [f_X8_takeRead_110] at hf
    refine lv_iload_n hx hb dX8_takeRead_110 rfl (lv_at hl 1 rfl) ?_
    refine lv_aload_n hx hb dX8_takeRead_111 rfl (lv_at hl 0 rfl) ?_
    refine gf_X8_86 C hs rfl dX8_takeRead_112 ?_
    refine lv_icmp_ge (tgt := 157) hx hb dX8_takeRead_115 (by decide) (fun cn => ?_) (fun cn => ?_)
    · replace hf := cb_ifp cn hf
      refine lv_aload_n hx hb dX8_takeRead_157 rfl (lv_at hl 0 rfl) ?_
      refine gf_X8_16 C hs rfl dX8_takeRead_158 ?_
      refine lv_bipush (v := 12) hx hb dX8_takeRead_161 (by decide) ?_
      refine lv_aload_n hx hb dX8_takeRead_163 rfl (lv_at hl 0 rfl) ?_
      refine gf_X8_86 C hs rfl dX8_takeRead_164 ?_
      obtain ⟨hc, hf⟩ := cb_ck_inv hf
      refine cb_iast C hs rfl (vp_in_iff.mpr hc) dX8_takeRead_167 (fun H locs hs => ?_)
      obtain ⟨σ_1, e9, hf⟩ := cb_let_inv hf
      replace hs := cb_Hc e9 hs
      clear e9
      refine lv_iconst (v := 0) hx hb dX8_takeRead_168 (by decide) ?_
      refine lv_istore_n (lv' := [(1, .int 0), (0, .ref (A 0))]) hx hb dX8_takeRead_169 rfl hl (by decide) rfl (fun ls hl => ?_)
      exact w_X8_takeRead_170 C  cb_fu _ _ hf _ _ _ hs (lv_sub hl [1, 0] rfl)
    · replace hf := cb_ifn cn hf
      refine lv_aload_n hx hb dX8_takeRead_118 rfl (lv_at hl 0 rfl) ?_
      refine gf_X8_7 C hs rfl dX8_takeRead_119 ?_
      refine lv_iload_n hx hb dX8_takeRead_122 rfl (lv_at hl 1 rfl) ?_
      refine lv_aload_n hx hb dX8_takeRead_123 rfl (lv_at hl 0 rfl) ?_
      refine gf_X8_29 C hs rfl dX8_takeRead_124 ?_
      refine lv_iload_n hx hb dX8_takeRead_127 rfl (lv_at hl 1 rfl) ?_
      obtain ⟨hc, hf⟩ := cb_ck_inv hf
      refine cb_iald C hs rfl (vp_in_iff.mpr hc) dX8_takeRead_128 ?_
      obtain ⟨hc, hf⟩ := cb_ck_inv hf
      refine cb_iast C hs rfl (vp_in_iff.mpr hc) dX8_takeRead_129 (fun H locs hs => ?_)
      obtain ⟨σ_2, e9, hf⟩ := cb_let_inv hf
      replace hs := cb_Hc e9 hs
      clear e9
      refine lv_aload_n hx hb dX8_takeRead_130 rfl (lv_at hl 0 rfl) ?_
      refine gf_X8_13 C hs rfl dX8_takeRead_131 ?_
      refine lv_iload_n hx hb dX8_takeRead_134 rfl (lv_at hl 1 rfl) ?_
      refine lv_aload_n hx hb dX8_takeRead_135 rfl (lv_at hl 0 rfl) ?_
      refine gf_X8_32 C hs rfl dX8_takeRead_136 ?_
      refine lv_iload_n hx hb dX8_takeRead_139 rfl (lv_at hl 1 rfl) ?_
      obtain ⟨hc, hf⟩ := cb_ck_inv hf
      refine cb_iald C hs rfl (vp_in_iff.mpr hc) dX8_takeRead_140 ?_
      obtain ⟨hc, hf⟩ := cb_ck_inv hf
      refine cb_iast C hs rfl (vp_in_iff.mpr hc) dX8_takeRead_141 (fun H locs hs => ?_)
      obtain ⟨σ_3, e9, hf⟩ := cb_let_inv hf
      replace hs := cb_Hc e9 hs
      clear e9
      refine lv_aload_n hx hb dX8_takeRead_142 rfl (lv_at hl 0 rfl) ?_
      refine gf_X8_16 C hs rfl dX8_takeRead_143 ?_
      refine lv_iconst (v := 0) hx hb dX8_takeRead_146 (by decide) ?_
      refine lv_iload_n hx hb dX8_takeRead_147 rfl (lv_at hl 1 rfl) ?_
      refine lv_iadd hx hb dX8_takeRead_148 ?_
      refine lv_iload_n hx hb dX8_takeRead_149 rfl (lv_at hl 1 rfl) ?_
      obtain ⟨hc, hf⟩ := cb_ck_inv hf
      refine cb_iast C hs rfl (vp_in_iff.mpr hc) dX8_takeRead_150 (fun H locs hs => ?_)
      obtain ⟨σ_4, e9, hf⟩ := cb_let_inv hf
      replace hs := cb_Hc e9 hs
      clear e9
      obtain ⟨x1_4, e9, hf⟩ := cb_let_inv hf
      refine lv_iinc (v := x1_4) (lv' := [(1, .int x1_4), (0, .ref (A 0))]) hx hb dX8_takeRead_151 hl (k := 1) rfl (by rw [e9]; rfl) (by decide) rfl (fun ls hl => ?_)
      clear e9
      refine lv_goto (tgt := 110) hx hb dX8_takeRead_154 (by decide) ?_
      exact ih _ _ hf _ _ _ hs (lv_sub hl [1, 0] rfl)
def f_X8_takeRead_89  : Nat → cb_St → Int32 → Option (cb_St)
  | 0, _, _ => none
  | fu + 1, σ, x1 => if 51 ≤ x1 then (f_X8_takeRead_110 cb_fu σ 0) else (cb_ck (0 ≤ Int32.toInt x1 ∧ Int32.toInt x1 < 51) (cb_let (cb_sI σ 3 (Int32.toNatClampNeg x1) 0) (fun σ_1 => cb_let (x1 + 1) (fun x1_1 => f_X8_takeRead_89 fu σ_1 x1_1))))
set_option maxHeartbeats 4000000 in
set_option maxRecDepth 100000 in
theorem w_X8_takeRead_89 (C : cb_C p s m args meth c cX8_takeRead 2 none RX8 D T)  {o : cb_St}  : ∀ (fu : Nat) (σ : cb_St) (x1 : Int32), f_X8_takeRead_89 fu σ x1 = some o → ∀ (H : Heap) (locs : List Loc) (ls : Array Slot), cb_H shM A T D σ s.heap H locs → lv_has ls 2 [(0, .ref (A 0)), (1, .int x1)] → cb_W p l e 1 s m args below meth c shM A T D none o H locs (F0 m 89 ls []) := by
  obtain ⟨hx, hb, hml, hr, hown, hts, hK, hlk, hN⟩ := id C
  intro fu
  induction fu with
  | zero =>
    intro σ x1 hf
    rw [f_X8_takeRead_89] at hf
    cases hf
  | succ fu ih =>
    intro σ x1 hf H locs ls hs hl
    rw [f_X8_takeRead_89] at hf
    refine lv_iload_n hx hb dX8_takeRead_89 rfl (lv_at hl 1 rfl) ?_
    refine lv_bipush (v := 51) hx hb dX8_takeRead_90 (by decide) ?_
    refine lv_icmp_ge (tgt := 108) hx hb dX8_takeRead_92 (by decide) (fun cn => ?_) (fun cn => ?_)
    · replace hf := cb_ifp cn hf
      refine lv_iconst (v := 0) hx hb dX8_takeRead_108 (by decide) ?_
      refine lv_istore_n (lv' := [(1, .int 0), (0, .ref (A 0))]) hx hb dX8_takeRead_109 rfl hl (by decide) rfl (fun ls hl => ?_)
      exact w_X8_takeRead_110 C  cb_fu _ _ hf _ _ _ hs (lv_sub hl [1, 0] rfl)
    · replace hf := cb_ifn cn hf
      refine lv_aload_n hx hb dX8_takeRead_95 rfl (lv_at hl 0 rfl) ?_
      refine gf_X8_16 C hs rfl dX8_takeRead_96 ?_
      refine lv_iload_n hx hb dX8_takeRead_99 rfl (lv_at hl 1 rfl) ?_
      refine lv_iconst (v := 0) hx hb dX8_takeRead_100 (by decide) ?_
      obtain ⟨hc, hf⟩ := cb_ck_inv hf
      refine cb_iast C hs rfl (vp_in_iff.mpr hc) dX8_takeRead_101 (fun H locs hs => ?_)
      obtain ⟨σ_1, e9, hf⟩ := cb_let_inv hf
      replace hs := cb_Hc e9 hs
      clear e9
      obtain ⟨x1_1, e9, hf⟩ := cb_let_inv hf
      refine lv_iinc (v := x1_1) (lv' := [(1, .int x1_1), (0, .ref (A 0))]) hx hb dX8_takeRead_102 hl (k := 1) rfl (by rw [e9]; rfl) (by decide) rfl (fun ls hl => ?_)
      clear e9
      refine lv_goto (tgt := 89) hx hb dX8_takeRead_105 (by decide) ?_
      exact ih _ _ hf _ _ _ hs (lv_sub hl [1, 0] rfl)
def f_X8_takeRead_68  (σ : cb_St) (s0 : Int32) : Option (cb_St) := cb_let (cb_sI σ 0 3 s0) (fun σ_1 => cb_let (cb_sI σ_1 0 4 (σ_1.1 0 18)) (fun σ_2 => cb_let (cb_sI σ_2 0 7 (σ_2.1 0 21)) (fun σ_3 => f_X8_takeRead_89 cb_fu σ_3 0)))
set_option maxHeartbeats 4000000 in
set_option maxRecDepth 100000 in
theorem w_X8_takeRead_68 (C : cb_C p s m args meth c cX8_takeRead 2 none RX8 D T)  {o : cb_St}  {σ : cb_St} {s0 : Int32} (hf : f_X8_takeRead_68 σ s0 = some o) {H : Heap} {locs : List Loc} {ls : Array Slot} (hs : cb_H shM A T D σ s.heap H locs) (hl : lv_has ls 2 [(0, .ref (A 0))]) : cb_W p l e 1 s m args below meth c shM A T D none o H locs (F0 m 68 ls [.int s0, .ref (A 0)]) := by
  obtain ⟨hx, hb, hml, hr, hown, hts, hK, hlk, hN⟩ := id C
  unfold f_X8_takeRead_68 at hf
  refine pf_X8_152 C hs rfl dX8_takeRead_68 (fun H locs hs => ?_)
  obtain ⟨σ_1, e9, hf⟩ := cb_let_inv hf
  replace hs := cb_Hc e9 hs
  clear e9
  refine lv_aload_n hx hb dX8_takeRead_71 rfl (lv_at hl 0 rfl) ?_
  refine lv_aload_n hx hb dX8_takeRead_72 rfl (lv_at hl 0 rfl) ?_
  refine gf_X8_128 C hs rfl dX8_takeRead_73 ?_
  refine pf_X8_86 C hs rfl dX8_takeRead_76 (fun H locs hs => ?_)
  obtain ⟨σ_2, e9, hf⟩ := cb_let_inv hf
  replace hs := cb_Hc e9 hs
  clear e9
  refine lv_aload_n hx hb dX8_takeRead_79 rfl (lv_at hl 0 rfl) ?_
  refine lv_aload_n hx hb dX8_takeRead_80 rfl (lv_at hl 0 rfl) ?_
  refine gf_X8_131 C hs rfl dX8_takeRead_81 ?_
  refine pf_X8_75 C hs rfl dX8_takeRead_84 (fun H locs hs => ?_)
  obtain ⟨σ_3, e9, hf⟩ := cb_let_inv hf
  replace hs := cb_Hc e9 hs
  clear e9
  refine lv_iconst (v := 0) hx hb dX8_takeRead_87 (by decide) ?_
  refine lv_istore_n (lv' := [(1, .int 0), (0, .ref (A 0))]) hx hb dX8_takeRead_88 rfl hl (by decide) rfl (fun ls hl => ?_)
  exact w_X8_takeRead_89 C  cb_fu _ _ hf _ _ _ hs (lv_sub hl [1, 0] rfl)
def f_X8_takeRead_47  (σ : cb_St) (s0 : Int32) : Option (cb_St) := cb_let (cb_sI σ 0 2 s0) (fun σ_1 => if (σ_1.1 0 16) = 0 then (f_X8_takeRead_68 σ_1 0) else (cb_ck (0 ≤ Int32.toInt 2 ∧ Int32.toInt 2 < 3) (f_X8_takeRead_68 σ_1 (σ_1.1 5 (Int32.toNatClampNeg 2)))))
set_option maxHeartbeats 4000000 in
set_option maxRecDepth 100000 in
theorem w_X8_takeRead_47 (C : cb_C p s m args meth c cX8_takeRead 2 none RX8 D T)  {o : cb_St}  {σ : cb_St} {s0 : Int32} (hf : f_X8_takeRead_47 σ s0 = some o) {H : Heap} {locs : List Loc} {ls : Array Slot} (hs : cb_H shM A T D σ s.heap H locs) (hl : lv_has ls 2 [(0, .ref (A 0))]) : cb_W p l e 1 s m args below meth c shM A T D none o H locs (F0 m 47 ls [.int s0, .ref (A 0)]) := by
  obtain ⟨hx, hb, hml, hr, hown, hts, hK, hlk, hN⟩ := id C
  unfold f_X8_takeRead_47 at hf
  refine pf_X8_149 C hs rfl dX8_takeRead_47 (fun H locs hs => ?_)
  obtain ⟨σ_1, e9, hf⟩ := cb_let_inv hf
  replace hs := cb_Hc e9 hs
  clear e9
  refine lv_aload_n hx hb dX8_takeRead_50 rfl (lv_at hl 0 rfl) ?_
  refine lv_aload_n hx hb dX8_takeRead_51 rfl (lv_at hl 0 rfl) ?_
  refine gf_X8_120 C hs rfl dX8_takeRead_52 ?_
  refine lv_if_eq (tgt := 67) hx hb dX8_takeRead_55 (by decide) (fun cn => ?_) (fun cn => ?_)
  · replace hf := cb_ifp cn hf
    refine lv_iconst (v := 0) hx hb dX8_takeRead_67 (by decide) ?_
    exact w_X8_takeRead_68 C  hf hs (lv_sub hl [0] rfl)
  · replace hf := cb_ifn cn hf
    refine lv_aload_n hx hb dX8_takeRead_58 rfl (lv_at hl 0 rfl) ?_
    refine gf_X8_26 C hs rfl dX8_takeRead_59 ?_
    refine lv_iconst (v := 2) hx hb dX8_takeRead_62 (by decide) ?_
    obtain ⟨hc, hf⟩ := cb_ck_inv hf
    refine cb_iald C hs rfl (vp_in_iff.mpr hc) dX8_takeRead_63 ?_
    refine lv_goto (tgt := 68) hx hb dX8_takeRead_64 (by decide) ?_
    exact w_X8_takeRead_68 C  hf hs (lv_sub hl [0] rfl)
def f_X8_takeRead_26  (σ : cb_St) (s0 : Int32) : Option (cb_St) := cb_let (cb_sI σ 0 1 s0) (fun σ_1 => if (σ_1.1 0 16) = 0 then (f_X8_takeRead_47 σ_1 0) else (cb_ck (0 ≤ Int32.toInt 1 ∧ Int32.toInt 1 < 3) (f_X8_takeRead_47 σ_1 (σ_1.1 5 (Int32.toNatClampNeg 1)))))
set_option maxHeartbeats 4000000 in
set_option maxRecDepth 100000 in
theorem w_X8_takeRead_26 (C : cb_C p s m args meth c cX8_takeRead 2 none RX8 D T)  {o : cb_St}  {σ : cb_St} {s0 : Int32} (hf : f_X8_takeRead_26 σ s0 = some o) {H : Heap} {locs : List Loc} {ls : Array Slot} (hs : cb_H shM A T D σ s.heap H locs) (hl : lv_has ls 2 [(0, .ref (A 0))]) : cb_W p l e 1 s m args below meth c shM A T D none o H locs (F0 m 26 ls [.int s0, .ref (A 0)]) := by
  obtain ⟨hx, hb, hml, hr, hown, hts, hK, hlk, hN⟩ := id C
  unfold f_X8_takeRead_26 at hf
  refine pf_X8_146 C hs rfl dX8_takeRead_26 (fun H locs hs => ?_)
  obtain ⟨σ_1, e9, hf⟩ := cb_let_inv hf
  replace hs := cb_Hc e9 hs
  clear e9
  refine lv_aload_n hx hb dX8_takeRead_29 rfl (lv_at hl 0 rfl) ?_
  refine lv_aload_n hx hb dX8_takeRead_30 rfl (lv_at hl 0 rfl) ?_
  refine gf_X8_120 C hs rfl dX8_takeRead_31 ?_
  refine lv_if_eq (tgt := 46) hx hb dX8_takeRead_34 (by decide) (fun cn => ?_) (fun cn => ?_)
  · replace hf := cb_ifp cn hf
    refine lv_iconst (v := 0) hx hb dX8_takeRead_46 (by decide) ?_
    exact w_X8_takeRead_47 C  hf hs (lv_sub hl [0] rfl)
  · replace hf := cb_ifn cn hf
    refine lv_aload_n hx hb dX8_takeRead_37 rfl (lv_at hl 0 rfl) ?_
    refine gf_X8_26 C hs rfl dX8_takeRead_38 ?_
    refine lv_iconst (v := 1) hx hb dX8_takeRead_41 (by decide) ?_
    obtain ⟨hc, hf⟩ := cb_ck_inv hf
    refine cb_iald C hs rfl (vp_in_iff.mpr hc) dX8_takeRead_42 ?_
    refine lv_goto (tgt := 47) hx hb dX8_takeRead_43 (by decide) ?_
    exact w_X8_takeRead_47 C  hf hs (lv_sub hl [0] rfl)
def f_X8_takeRead  (σ : cb_St) : Option (cb_St) := cb_ck ((σ.1 0 16) = 0 ∨ (σ.1 0 16) = 1) (cb_let (cb_sI σ 0 0 (σ.1 0 16)) (fun σ_1 => if (σ_1.1 0 16) = 0 then (f_X8_takeRead_26 σ_1 0) else (cb_ck (0 ≤ Int32.toInt 0 ∧ Int32.toInt 0 < 3) (f_X8_takeRead_26 σ_1 (σ_1.1 5 (Int32.toNatClampNeg 0))))))
set_option maxHeartbeats 4000000 in
set_option maxRecDepth 100000 in
theorem c_X8_takeRead   {σ : cb_St} {o : cb_St} (hf : f_X8_takeRead σ = some o) : cb_M l yX8_takeRead cX8_takeRead 2 none 1 shM A T D σ [.ref (A 0)] none o := by
  refine cb_met (by decide +kernel) (Nat.le_of_ble_eq_true rfl) ?_
  intro p e s m below meth c C hs ls hl
  have hl : lv_has ls 2 [(0, .ref (A 0))] := hl
  obtain ⟨hx, hb, hml, hr, hown, hts, hK, hlk, hN⟩ := id C
  unfold f_X8_takeRead at hf
  refine lv_aload_n hx hb dX8_takeRead_0 rfl (lv_at hl 0 rfl) ?_
  refine lv_aload_n hx hb dX8_takeRead_1 rfl (lv_at hl 0 rfl) ?_
  refine gf_X8_120 C hs rfl dX8_takeRead_2 ?_
  obtain ⟨hc, hf⟩ := cb_ck_inv hf
  refine pf_X8_143 C hs rfl hc dX8_takeRead_5 (fun H locs hs => ?_)
  obtain ⟨σ_1, e9, hf⟩ := cb_let_inv hf
  replace hs := cb_Hc e9 hs
  clear e9
  refine lv_aload_n hx hb dX8_takeRead_8 rfl (lv_at hl 0 rfl) ?_
  refine lv_aload_n hx hb dX8_takeRead_9 rfl (lv_at hl 0 rfl) ?_
  refine gf_X8_120 C hs rfl dX8_takeRead_10 ?_
  refine lv_if_eq (tgt := 25) hx hb dX8_takeRead_13 (by decide) (fun cn => ?_) (fun cn => ?_)
  · replace hf := cb_ifp cn hf
    refine lv_iconst (v := 0) hx hb dX8_takeRead_25 (by decide) ?_
    exact w_X8_takeRead_26 C  hf hs (lv_sub hl [0] rfl)
  · replace hf := cb_ifn cn hf
    refine lv_aload_n hx hb dX8_takeRead_16 rfl (lv_at hl 0 rfl) ?_
    refine gf_X8_26 C hs rfl dX8_takeRead_17 ?_
    refine lv_iconst (v := 0) hx hb dX8_takeRead_20 (by decide) ?_
    obtain ⟨hc, hf⟩ := cb_ck_inv hf
    refine cb_iald C hs rfl (vp_in_iff.mpr hc) dX8_takeRead_21 ?_
    refine lv_goto (tgt := 26) hx hb dX8_takeRead_22 (by decide) ?_
    exact w_X8_takeRead_26 C  hf hs (lv_sub hl [0] rfl)
/-! ===== CardBecomeModel.table ===== -/
def f_X8_table_46  (σ : cb_St) (x1 : Int32) : Option (Int32 × cb_St) := cb_let (cb_sI σ 0 11 0) (fun σ_1 => if x1 ≤ 0 then (cb_bv (f_X8_takeRead σ_1) (fun σ_2 => cb_let (cb_sI σ_2 0 28 0) (fun σ_3 => cb_let (cb_sI σ_3 0 35 0) (fun σ_4 => cb_let (cb_sI σ_4 0 22 0) (fun σ_5 => cb_ck (0 ≤ Int32.toInt 0 ∧ Int32.toInt 0 < 2) (cb_let (cb_sI σ_5 20 (Int32.toNatClampNeg 0) 0) (fun σ_6 => cb_ck (0 ≤ Int32.toInt 1 ∧ Int32.toInt 1 < 2) (cb_let (cb_sI σ_6 20 (Int32.toNatClampNeg 1) 0) (fun σ_7 => some (σ_7.1 0 7, σ_7)))))))))) else (some ((-10) - x1, σ_1)))
set_option maxHeartbeats 4000000 in
set_option maxRecDepth 100000 in
theorem w_X8_table_46 (C : cb_C p s m args meth c cX8_table 2 (some .int) RX8 D T)  {o : Int32 × cb_St}  {σ : cb_St} {x1 : Int32} (hf : f_X8_table_46 σ x1 = some o) {H : Heap} {locs : List Loc} {ls : Array Slot} (hs : cb_H shM A T D σ s.heap H locs) (hl : lv_has ls 2 [(0, .ref (A 0)), (1, .int x1)]) : cb_W p l e 6 s m args below meth c shM A T D (some (.int o.1)) o.2 H locs (F0 m 46 ls []) := by
  obtain ⟨hx, hb, hml, hr, hown, hts, hK, hlk, hN⟩ := id C
  unfold f_X8_table_46 at hf
  refine lv_aload_n hx hb dX8_table_46 rfl (lv_at hl 0 rfl) ?_
  refine lv_iconst (v := 0) hx hb dX8_table_47 (by decide) ?_
  refine pf_X8_92 C hs rfl dX8_table_48 (fun H locs hs => ?_)
  obtain ⟨σ_1, e9, hf⟩ := cb_let_inv hf
  replace hs := cb_Hc e9 hs
  clear e9
  refine lv_iload_n hx hb dX8_table_51 rfl (lv_at hl 1 rfl) ?_
  refine lv_if_le (tgt := 60) hx hb dX8_table_52 (by decide) (fun cn => ?_) (fun cn => ?_)
  · replace hf := cb_ifp cn hf
    refine lv_aload_n hx hb dX8_table_60 rfl (lv_at hl 0 rfl) ?_
    obtain ⟨σ_2, hc, hf⟩ := cb_bv_inv hf
    refine cb_callVv C (c_X8_takeRead  hc) mw_X8_takeRead ml_X8_158 rfl ⟨Nat.le_of_ble_eq_true rfl, Nat.le_of_ble_eq_true rfl⟩ rfl (Nat.le_of_ble_eq_true rfl) rfl hs hl rfl (Nat.le_of_ble_eq_true rfl) dX8_table_61 (fun H locs hs => ?_)
    clear hc
    refine lv_aload_n hx hb dX8_table_64 rfl (lv_at hl 0 rfl) ?_
    refine lv_iconst (v := 0) hx hb dX8_table_65 (by decide) ?_
    refine pf_X8_161 C hs rfl dX8_table_66 (fun H locs hs => ?_)
    obtain ⟨σ_3, e9, hf⟩ := cb_let_inv hf
    replace hs := cb_Hc e9 hs
    clear e9
    refine lv_aload_n hx hb dX8_table_69 rfl (lv_at hl 0 rfl) ?_
    refine lv_iconst (v := 0) hx hb dX8_table_70 (by decide) ?_
    refine pf_X8_164 C hs rfl dX8_table_71 (fun H locs hs => ?_)
    obtain ⟨σ_4, e9, hf⟩ := cb_let_inv hf
    replace hs := cb_Hc e9 hs
    clear e9
    refine lv_aload_n hx hb dX8_table_74 rfl (lv_at hl 0 rfl) ?_
    refine lv_iconst (v := 0) hx hb dX8_table_75 (by decide) ?_
    refine pf_X8_167 C hs rfl dX8_table_76 (fun H locs hs => ?_)
    obtain ⟨σ_5, e9, hf⟩ := cb_let_inv hf
    replace hs := cb_Hc e9 hs
    clear e9
    refine lv_aload_n hx hb dX8_table_79 rfl (lv_at hl 0 rfl) ?_
    refine gf_X8_71 C hs rfl dX8_table_80 ?_
    refine lv_iconst (v := 0) hx hb dX8_table_83 (by decide) ?_
    refine lv_iconst (v := 0) hx hb dX8_table_84 (by decide) ?_
    obtain ⟨hc, hf⟩ := cb_ck_inv hf
    refine cb_zast C hs rfl (vp_in_iff.mpr hc) (Or.inl rfl) dX8_table_85 (fun H locs hs => ?_)
    obtain ⟨σ_6, e9, hf⟩ := cb_let_inv hf
    replace hs := cb_Hc e9 hs
    clear e9
    refine lv_aload_n hx hb dX8_table_86 rfl (lv_at hl 0 rfl) ?_
    refine gf_X8_71 C hs rfl dX8_table_87 ?_
    refine lv_iconst (v := 1) hx hb dX8_table_90 (by decide) ?_
    refine lv_iconst (v := 0) hx hb dX8_table_91 (by decide) ?_
    obtain ⟨hc, hf⟩ := cb_ck_inv hf
    refine cb_zast C hs rfl (vp_in_iff.mpr hc) (Or.inl rfl) dX8_table_92 (fun H locs hs => ?_)
    obtain ⟨σ_7, e9, hf⟩ := cb_let_inv hf
    replace hs := cb_Hc e9 hs
    clear e9
    refine lv_aload_n hx hb dX8_table_93 rfl (lv_at hl 0 rfl) ?_
    refine gf_X8_75 C hs rfl dX8_table_94 ?_
    have hf := Option.some.inj hf
    subst hf
    exact cb_reti C hs dX8_table_97
  · replace hf := cb_ifn cn hf
    refine lv_bipush (v := (-10)) hx hb dX8_table_55 (by decide) ?_
    refine lv_iload_n hx hb dX8_table_57 rfl (lv_at hl 1 rfl) ?_
    refine lv_isub hx hb dX8_table_58 ?_
    have hf := Option.some.inj hf
    subst hf
    exact cb_reti C hs dX8_table_59
def f_X8_table_27  : Nat → cb_St → Int32 → Option (Int32 × cb_St)
  | 0, _, _ => none
  | fu + 1, σ, x1 => if x1 = 0 then (cb_bi (f_X8_here σ) (fun r_1 σ_2 => if r_1 < 0 then (f_X8_table_46 σ_2 x1) else (cb_bi (f_X8_takeClause σ_2) (fun r_3 σ_4 => f_X8_table_27 fu σ_4 r_3)))) else (f_X8_table_46 σ x1)
set_option maxHeartbeats 4000000 in
set_option maxRecDepth 100000 in
theorem w_X8_table_27 (C : cb_C p s m args meth c cX8_table 2 (some .int) RX8 D T)  {o : Int32 × cb_St}  : ∀ (fu : Nat) (σ : cb_St) (x1 : Int32), f_X8_table_27 fu σ x1 = some o → ∀ (H : Heap) (locs : List Loc) (ls : Array Slot), cb_H shM A T D σ s.heap H locs → lv_has ls 2 [(0, .ref (A 0)), (1, .int x1)] → cb_W p l e 6 s m args below meth c shM A T D (some (.int o.1)) o.2 H locs (F0 m 27 ls []) := by
  obtain ⟨hx, hb, hml, hr, hown, hts, hK, hlk, hN⟩ := id C
  intro fu
  induction fu with
  | zero =>
    intro σ x1 hf
    rw [f_X8_table_27] at hf
    cases hf
  | succ fu ih =>
    intro σ x1 hf H locs ls hs hl
    rw [f_X8_table_27] at hf
    refine lv_iload_n hx hb dX8_table_27 rfl (lv_at hl 1 rfl) ?_
    refine lv_if_ne (tgt := 46) hx hb dX8_table_28 (by decide) (fun cn => ?_) (fun cn => ?_)
    · replace hf := cb_ifn cn hf
      exact w_X8_table_46 C  hf hs (lv_sub hl [0, 1] rfl)
    · replace hf := cb_ifp cn hf
      refine lv_aload_n hx hb dX8_table_31 rfl (lv_at hl 0 rfl) ?_
      obtain ⟨r_1, σ_2, hc, hf⟩ := cb_bi_inv hf
      refine cb_callVi C (c_X8_here  hc) mw_X8_here ml_X8_99 rfl ⟨Nat.le_of_ble_eq_true rfl, Nat.le_of_ble_eq_true rfl⟩ rfl (Nat.le_of_ble_eq_true rfl) rfl hs hl rfl (Nat.le_of_ble_eq_true rfl) dX8_table_32 (fun H locs hs => ?_)
      clear hc
      refine lv_if_lt (tgt := 46) hx hb dX8_table_35 (by decide) (fun cn => ?_) (fun cn => ?_)
      · replace hf := cb_ifp cn hf
        exact w_X8_table_46 C  hf hs (lv_sub hl [0, 1] rfl)
      · replace hf := cb_ifn cn hf
        refine lv_aload_n hx hb dX8_table_38 rfl (lv_at hl 0 rfl) ?_
        obtain ⟨r_3, σ_4, hc, hf⟩ := cb_bi_inv hf
        refine cb_callVi C (c_X8_takeClause  hc) mw_X8_takeClause ml_X8_155 rfl ⟨Nat.le_of_ble_eq_true rfl, Nat.le_of_ble_eq_true rfl⟩ rfl (Nat.le_of_ble_eq_true rfl) rfl hs hl rfl (Nat.le_of_ble_eq_true rfl) dX8_table_39 (fun H locs hs => ?_)
        clear hc
        refine lv_istore_n (lv' := [(1, .int r_3), (0, .ref (A 0))]) hx hb dX8_table_42 rfl hl (by decide) rfl (fun ls hl => ?_)
        refine lv_goto (tgt := 27) hx hb dX8_table_43 (by decide) ?_
        exact ih _ _ hf _ _ _ hs (lv_sub hl [1, 0] rfl)
def f_X8_table  (σ : cb_St) : Option (Int32 × cb_St) := cb_let (cb_sI σ 0 12 (-1)) (fun σ_1 => cb_let (cb_sI σ_1 0 13 0) (fun σ_2 => cb_let (cb_sI σ_2 0 16 0) (fun σ_3 => cb_let (cb_sI σ_3 0 18 0) (fun σ_4 => cb_let (cb_sI σ_4 0 21 0) (fun σ_5 => f_X8_table_27 cb_fu σ_5 0)))))
set_option maxHeartbeats 4000000 in
set_option maxRecDepth 100000 in
theorem c_X8_table   {σ : cb_St} {o : Int32 × cb_St} (hf : f_X8_table σ = some o) : cb_M l yX8_table cX8_table 2 (some .int) 6 shM A T D σ [.ref (A 0)] (some (.int o.1)) o.2 := by
  refine cb_met (by decide +kernel) (Nat.le_of_ble_eq_true rfl) ?_
  intro p e s m below meth c C hs ls hl
  have hl : lv_has ls 2 [(0, .ref (A 0))] := hl
  obtain ⟨hx, hb, hml, hr, hown, hts, hK, hlk, hN⟩ := id C
  unfold f_X8_table at hf
  refine lv_aload_n hx hb dX8_table_0 rfl (lv_at hl 0 rfl) ?_
  refine lv_iconst (v := (-1)) hx hb dX8_table_1 (by decide) ?_
  refine pf_X8_22 C hs rfl dX8_table_2 (fun H locs hs => ?_)
  obtain ⟨σ_1, e9, hf⟩ := cb_let_inv hf
  replace hs := cb_Hc e9 hs
  clear e9
  refine lv_aload_n hx hb dX8_table_5 rfl (lv_at hl 0 rfl) ?_
  refine lv_iconst (v := 0) hx hb dX8_table_6 (by decide) ?_
  refine pf_X8_96 C hs rfl dX8_table_7 (fun H locs hs => ?_)
  obtain ⟨σ_2, e9, hf⟩ := cb_let_inv hf
  replace hs := cb_Hc e9 hs
  clear e9
  refine lv_aload_n hx hb dX8_table_10 rfl (lv_at hl 0 rfl) ?_
  refine lv_iconst (v := 0) hx hb dX8_table_11 (by decide) ?_
  refine pf_X8_120 C hs rfl (Or.inl rfl) dX8_table_12 (fun H locs hs => ?_)
  obtain ⟨σ_3, e9, hf⟩ := cb_let_inv hf
  replace hs := cb_Hc e9 hs
  clear e9
  refine lv_aload_n hx hb dX8_table_15 rfl (lv_at hl 0 rfl) ?_
  refine lv_iconst (v := 0) hx hb dX8_table_16 (by decide) ?_
  refine pf_X8_128 C hs rfl dX8_table_17 (fun H locs hs => ?_)
  obtain ⟨σ_4, e9, hf⟩ := cb_let_inv hf
  replace hs := cb_Hc e9 hs
  clear e9
  refine lv_aload_n hx hb dX8_table_20 rfl (lv_at hl 0 rfl) ?_
  refine lv_iconst (v := 0) hx hb dX8_table_21 (by decide) ?_
  refine pf_X8_131 C hs rfl dX8_table_22 (fun H locs hs => ?_)
  obtain ⟨σ_5, e9, hf⟩ := cb_let_inv hf
  replace hs := cb_Hc e9 hs
  clear e9
  refine lv_iconst (v := 0) hx hb dX8_table_25 (by decide) ?_
  refine lv_istore_n (lv' := [(1, .int 0), (0, .ref (A 0))]) hx hb dX8_table_26 rfl hl (by decide) rfl (fun ls hl => ?_)
  exact w_X8_table_27 C  cb_fu _ _ hf _ _ _ hs (lv_sub hl [1, 0] rfl)
/-! ===== CardBecomeModel.tear ===== -/
def f_X8_tear  (σ : cb_St) : Option (Int32 × cb_St) := cb_let ((σ.1 0 28) + (σ.1 0 35)) (fun x1_0 => cb_let (cb_sI σ 0 28 0) (fun σ_2 => cb_let (cb_sI σ_2 0 35 0) (fun σ_3 => some (x1_0, σ_3))))
set_option maxHeartbeats 4000000 in
set_option maxRecDepth 100000 in
theorem c_X8_tear   {σ : cb_St} {o : Int32 × cb_St} (hf : f_X8_tear σ = some o) : cb_M l yX8_tear cX8_tear 2 (some .int) 1 shM A T D σ [.ref (A 0)] (some (.int o.1)) o.2 := by
  refine cb_met (by decide +kernel) (Nat.le_of_ble_eq_true rfl) ?_
  intro p e s m below meth c C hs ls hl
  have hl : lv_has ls 2 [(0, .ref (A 0))] := hl
  obtain ⟨hx, hb, hml, hr, hown, hts, hK, hlk, hN⟩ := id C
  unfold f_X8_tear at hf
  refine lv_aload_n hx hb dX8_tear_0 rfl (lv_at hl 0 rfl) ?_
  refine gf_X8_161 C hs rfl dX8_tear_1 ?_
  refine lv_aload_n hx hb dX8_tear_4 rfl (lv_at hl 0 rfl) ?_
  refine gf_X8_164 C hs rfl dX8_tear_5 ?_
  refine lv_iadd hx hb dX8_tear_8 ?_
  obtain ⟨x1_0, e9, hf⟩ := cb_let_inv hf
  refine cb_topi e9 ?_
  clear e9
  refine lv_istore_n (lv' := [(1, .int x1_0), (0, .ref (A 0))]) hx hb dX8_tear_9 rfl hl (by decide) rfl (fun ls hl => ?_)
  refine lv_aload_n hx hb dX8_tear_10 rfl (lv_at hl 1 rfl) ?_
  refine lv_iconst (v := 0) hx hb dX8_tear_11 (by decide) ?_
  refine pf_X8_161 C hs rfl dX8_tear_12 (fun H locs hs => ?_)
  obtain ⟨σ_2, e9, hf⟩ := cb_let_inv hf
  replace hs := cb_Hc e9 hs
  clear e9
  refine lv_aload_n hx hb dX8_tear_15 rfl (lv_at hl 1 rfl) ?_
  refine lv_iconst (v := 0) hx hb dX8_tear_16 (by decide) ?_
  refine pf_X8_164 C hs rfl dX8_tear_17 (fun H locs hs => ?_)
  obtain ⟨σ_3, e9, hf⟩ := cb_let_inv hf
  replace hs := cb_Hc e9 hs
  clear e9
  refine lv_iload_n hx hb dX8_tear_20 rfl (lv_at hl 0 rfl) ?_
  have hf := Option.some.inj hf
  subst hf
  exact cb_reti C hs dX8_tear_21
/-! ===== CardBecomeModel.tells ===== -/
def f_X8_tells_145 (K15 : cb_St → Int32 → Int32 → Int32 → Int32 → Option (Int32 × cb_St)) (K30 : cb_St → Int32 → Int32 → Int32 → Int32 → Int32 → Option (Int32 × cb_St)) (σ : cb_St) (x1 : Int32) (x2 : Int32) (x4 : Int32) (x5 : Int32) (s0 : Int32) : Option (Int32 × cb_St) := cb_let (x5 + 1) (fun x5_0 => K30 σ x1 x2 s0 x4 x5_0)
set_option maxHeartbeats 4000000 in
set_option maxRecDepth 100000 in
theorem w_X8_tells_145 (C : cb_C p s m args meth c cX8_tells 7 (some .int) RX8 D T) {K15 : cb_St → Int32 → Int32 → Int32 → Int32 → Option (Int32 × cb_St)} {K30 : cb_St → Int32 → Int32 → Int32 → Int32 → Int32 → Option (Int32 × cb_St)} {o : Int32 × cb_St} (hK15 : ∀ (σ : cb_St) (x1 : Int32) (x2 : Int32) (x3 : Int32) (x4 : Int32), K15 σ x1 x2 x3 x4 = some o → ∀ (H : Heap) (locs : List Loc) (ls : Array Slot), cb_H shM A T D σ s.heap H locs → lv_has ls 7 [(0, .ref (A 0)), (1, .int x1), (2, .int x2), (3, .int x3), (4, .int x4)] → cb_W p l e 4 s m args below meth c shM A T D (some (.int o.1)) o.2 H locs (F0 m 15 ls [])) (hK30 : ∀ (σ : cb_St) (x1 : Int32) (x2 : Int32) (x3 : Int32) (x4 : Int32) (x5 : Int32), K30 σ x1 x2 x3 x4 x5 = some o → ∀ (H : Heap) (locs : List Loc) (ls : Array Slot), cb_H shM A T D σ s.heap H locs → lv_has ls 7 [(0, .ref (A 0)), (1, .int x1), (2, .int x2), (3, .int x3), (4, .int x4), (5, .int x5)] → cb_W p l e 4 s m args below meth c shM A T D (some (.int o.1)) o.2 H locs (F0 m 30 ls [])) {σ : cb_St} {x1 : Int32} {x2 : Int32} {x4 : Int32} {x5 : Int32} {s0 : Int32} (hf : f_X8_tells_145 K15 K30 σ x1 x2 x4 x5 s0 = some o) {H : Heap} {locs : List Loc} {ls : Array Slot} (hs : cb_H shM A T D σ s.heap H locs) (hl : lv_has ls 7 [(0, .ref (A 0)), (1, .int x1), (2, .int x2), (4, .int x4), (5, .int x5)]) : cb_W p l e 4 s m args below meth c shM A T D (some (.int o.1)) o.2 H locs (F0 m 145 ls [.int s0]) := by
  obtain ⟨hx, hb, hml, hr, hown, hts, hK, hlk, hN⟩ := id C
  unfold f_X8_tells_145 at hf
  refine lv_istore_n (lv' := [(3, .int s0), (0, .ref (A 0)), (1, .int x1), (2, .int x2), (4, .int x4), (5, .int x5)]) hx hb dX8_tells_145 rfl hl (by decide) rfl (fun ls hl => ?_)
  obtain ⟨x5_0, e9, hf⟩ := cb_let_inv hf
  refine lv_iinc (v := x5_0) (lv' := [(5, .int x5_0), (3, .int s0), (0, .ref (A 0)), (1, .int x1), (2, .int x2), (4, .int x4)]) hx hb dX8_tells_146 hl (k := 5) rfl (by rw [e9]; rfl) (by decide) rfl (fun ls hl => ?_)
  clear e9
  refine lv_goto (tgt := 30) hx hb dX8_tells_149 (by decide) ?_
  exact hK30 _ _ _ _ _ _ hf _ _ _ hs (lv_sub hl [2, 3, 4, 1, 5, 0] rfl)
def f_X8_tells_132 (K15 : cb_St → Int32 → Int32 → Int32 → Int32 → Option (Int32 × cb_St)) (K30 : cb_St → Int32 → Int32 → Int32 → Int32 → Int32 → Option (Int32 × cb_St)) (σ : cb_St) (x1 : Int32) (x3 : Int32) (x4 : Int32) (x5 : Int32) (x6 : Int32) (s0 : Int32) : Option (Int32 × cb_St) := if x3 ≤ x6 then (f_X8_tells_145 K15 K30 σ x1 s0 x4 x5 x3) else (f_X8_tells_145 K15 K30 σ x1 s0 x4 x5 x6)
set_option maxHeartbeats 4000000 in
set_option maxRecDepth 100000 in
theorem w_X8_tells_132 (C : cb_C p s m args meth c cX8_tells 7 (some .int) RX8 D T) {K15 : cb_St → Int32 → Int32 → Int32 → Int32 → Option (Int32 × cb_St)} {K30 : cb_St → Int32 → Int32 → Int32 → Int32 → Int32 → Option (Int32 × cb_St)} {o : Int32 × cb_St} (hK15 : ∀ (σ : cb_St) (x1 : Int32) (x2 : Int32) (x3 : Int32) (x4 : Int32), K15 σ x1 x2 x3 x4 = some o → ∀ (H : Heap) (locs : List Loc) (ls : Array Slot), cb_H shM A T D σ s.heap H locs → lv_has ls 7 [(0, .ref (A 0)), (1, .int x1), (2, .int x2), (3, .int x3), (4, .int x4)] → cb_W p l e 4 s m args below meth c shM A T D (some (.int o.1)) o.2 H locs (F0 m 15 ls [])) (hK30 : ∀ (σ : cb_St) (x1 : Int32) (x2 : Int32) (x3 : Int32) (x4 : Int32) (x5 : Int32), K30 σ x1 x2 x3 x4 x5 = some o → ∀ (H : Heap) (locs : List Loc) (ls : Array Slot), cb_H shM A T D σ s.heap H locs → lv_has ls 7 [(0, .ref (A 0)), (1, .int x1), (2, .int x2), (3, .int x3), (4, .int x4), (5, .int x5)] → cb_W p l e 4 s m args below meth c shM A T D (some (.int o.1)) o.2 H locs (F0 m 30 ls [])) {σ : cb_St} {x1 : Int32} {x3 : Int32} {x4 : Int32} {x5 : Int32} {x6 : Int32} {s0 : Int32} (hf : f_X8_tells_132 K15 K30 σ x1 x3 x4 x5 x6 s0 = some o) {H : Heap} {locs : List Loc} {ls : Array Slot} (hs : cb_H shM A T D σ s.heap H locs) (hl : lv_has ls 7 [(0, .ref (A 0)), (1, .int x1), (3, .int x3), (4, .int x4), (5, .int x5), (6, .int x6)]) : cb_W p l e 4 s m args below meth c shM A T D (some (.int o.1)) o.2 H locs (F0 m 132 ls [.int s0]) := by
  obtain ⟨hx, hb, hml, hr, hown, hts, hK, hlk, hN⟩ := id C
  unfold f_X8_tells_132 at hf
  refine lv_istore_n (lv' := [(2, .int s0), (0, .ref (A 0)), (1, .int x1), (3, .int x3), (4, .int x4), (5, .int x5), (6, .int x6)]) hx hb dX8_tells_132 rfl hl (by decide) rfl (fun ls hl => ?_)
  refine lv_iload hx hb dX8_tells_133 (lv_at hl 6 rfl) ?_
  refine lv_iload_n hx hb dX8_tells_135 rfl (lv_at hl 3 rfl) ?_
  refine lv_icmp_ge (tgt := 144) hx hb dX8_tells_136 (by decide) (fun cn => ?_) (fun cn => ?_)
  · replace hf := cb_ifp cn hf
    refine lv_iload_n hx hb dX8_tells_144 rfl (lv_at hl 3 rfl) ?_
    exact w_X8_tells_145 C hK15 hK30 hf hs (lv_sub hl [1, 2, 0, 4, 5] rfl)
  · replace hf := cb_ifn cn hf
    refine lv_iload hx hb dX8_tells_139 (lv_at hl 6 rfl) ?_
    refine lv_goto (tgt := 145) hx hb dX8_tells_141 (by decide) ?_
    exact w_X8_tells_145 C hK15 hK30 hf hs (lv_sub hl [1, 2, 0, 4, 5] rfl)
def f_X8_tells_65 (K15 : cb_St → Int32 → Int32 → Int32 → Int32 → Option (Int32 × cb_St)) (K30 : cb_St → Int32 → Int32 → Int32 → Int32 → Int32 → Option (Int32 × cb_St)) : Nat → cb_St → Int32 → Int32 → Int32 → Int32 → Int32 → Int32 → Option (Int32 × cb_St)
  | 0, _, _, _, _, _, _, _ => none
  | fu + 1, σ, x1, x2, x3, x4, x5, x6 => if 10 ≤ x6 then (cb_bp (f_X8_greatestPart σ) (fun r_1 => if x3 ≤ r_1 then (f_X8_tells_132 K15 K30 σ x1 x3 x4 x5 r_1 x2) else (f_X8_tells_132 K15 K30 σ x1 x3 x4 x5 r_1 ((100 * x4) + x5)))) else (cb_bp (f_X8_beatsBy x4 x5 (x6 / 2) (x6 - x6 / 2 * 2) σ) (fun r_2 => cb_ck (0 ≤ Int32.toInt r_2 ∧ Int32.toInt r_2 < 3) (cb_ck (0 ≤ Int32.toInt r_2 ∧ Int32.toInt r_2 < 3) (cb_let (cb_sI σ 12 (Int32.toNatClampNeg r_2) ((σ.1 12 (Int32.toNatClampNeg r_2)) + ((x1 >>> (x6 &&& 31)) &&& 1))) (fun σ_3 => cb_let (x6 + 1) (fun x6_3 => f_X8_tells_65 K15 K30 fu σ_3 x1 x2 x3 x4 x5 x6_3))))))
set_option maxHeartbeats 4000000 in
set_option maxRecDepth 100000 in
theorem w_X8_tells_65 (C : cb_C p s m args meth c cX8_tells 7 (some .int) RX8 D T) {K15 : cb_St → Int32 → Int32 → Int32 → Int32 → Option (Int32 × cb_St)} {K30 : cb_St → Int32 → Int32 → Int32 → Int32 → Int32 → Option (Int32 × cb_St)} {o : Int32 × cb_St} (hK15 : ∀ (σ : cb_St) (x1 : Int32) (x2 : Int32) (x3 : Int32) (x4 : Int32), K15 σ x1 x2 x3 x4 = some o → ∀ (H : Heap) (locs : List Loc) (ls : Array Slot), cb_H shM A T D σ s.heap H locs → lv_has ls 7 [(0, .ref (A 0)), (1, .int x1), (2, .int x2), (3, .int x3), (4, .int x4)] → cb_W p l e 4 s m args below meth c shM A T D (some (.int o.1)) o.2 H locs (F0 m 15 ls [])) (hK30 : ∀ (σ : cb_St) (x1 : Int32) (x2 : Int32) (x3 : Int32) (x4 : Int32) (x5 : Int32), K30 σ x1 x2 x3 x4 x5 = some o → ∀ (H : Heap) (locs : List Loc) (ls : Array Slot), cb_H shM A T D σ s.heap H locs → lv_has ls 7 [(0, .ref (A 0)), (1, .int x1), (2, .int x2), (3, .int x3), (4, .int x4), (5, .int x5)] → cb_W p l e 4 s m args below meth c shM A T D (some (.int o.1)) o.2 H locs (F0 m 30 ls [])) : ∀ (fu : Nat) (σ : cb_St) (x1 : Int32) (x2 : Int32) (x3 : Int32) (x4 : Int32) (x5 : Int32) (x6 : Int32), f_X8_tells_65 K15 K30 fu σ x1 x2 x3 x4 x5 x6 = some o → ∀ (H : Heap) (locs : List Loc) (ls : Array Slot), cb_H shM A T D σ s.heap H locs → lv_has ls 7 [(0, .ref (A 0)), (1, .int x1), (2, .int x2), (3, .int x3), (4, .int x4), (5, .int x5), (6, .int x6)] → cb_W p l e 4 s m args below meth c shM A T D (some (.int o.1)) o.2 H locs (F0 m 65 ls []) := by
  obtain ⟨hx, hb, hml, hr, hown, hts, hK, hlk, hN⟩ := id C
  intro fu
  induction fu with
  | zero =>
    intro σ x1 x2 x3 x4 x5 x6 hf
    rw [f_X8_tells_65] at hf
    cases hf
  | succ fu ih =>
    intro σ x1 x2 x3 x4 x5 x6 hf H locs ls hs hl
    rw [f_X8_tells_65] at hf
    refine lv_iload hx hb dX8_tells_65 (lv_at hl 6 rfl) ?_
    refine lv_bipush (v := 10) hx hb dX8_tells_67 (by decide) ?_
    refine lv_icmp_ge (tgt := 108) hx hb dX8_tells_69 (by decide) (fun cn => ?_) (fun cn => ?_)
    · replace hf := cb_ifp cn hf
      refine lv_aload_n hx hb dX8_tells_108 rfl (lv_at hl 0 rfl) ?_
      obtain ⟨r_1, hc, hf⟩ := cb_bp_inv hf
      refine cb_callVi C (c_X8_greatestPart  hc) mw_X8_greatestPart ml_X8_296 rfl ⟨Nat.le_of_ble_eq_true rfl, Nat.le_of_ble_eq_true rfl⟩ rfl (Nat.le_of_ble_eq_true rfl) rfl hs hl rfl (Nat.le_of_ble_eq_true rfl) dX8_tells_109 (fun H locs hs => ?_)
      clear hc
      refine lv_istore (lv' := [(6, .int r_1), (0, .ref (A 0)), (1, .int x1), (2, .int x2), (3, .int x3), (4, .int x4), (5, .int x5)]) hx hb dX8_tells_112 hl (by decide) rfl (fun ls hl => ?_)
      refine lv_iload hx hb dX8_tells_114 (lv_at hl 0 rfl) ?_
      refine lv_iload_n hx hb dX8_tells_116 rfl (lv_at hl 4 rfl) ?_
      refine lv_icmp_ge (tgt := 131) hx hb dX8_tells_117 (by decide) (fun cn => ?_) (fun cn => ?_)
      · replace hf := cb_ifp cn hf
        refine lv_iload_n hx hb dX8_tells_131 rfl (lv_at hl 3 rfl) ?_
        exact w_X8_tells_132 C hK15 hK30 hf hs (lv_sub hl [1, 2, 4, 5, 6, 0] rfl)
      · replace hf := cb_ifn cn hf
        refine lv_bipush (v := 100) hx hb dX8_tells_120 (by decide) ?_
        refine lv_iload hx hb dX8_tells_122 (lv_at hl 5 rfl) ?_
        refine lv_imul hx hb dX8_tells_124 ?_
        refine lv_iload hx hb dX8_tells_125 (lv_at hl 6 rfl) ?_
        refine lv_iadd hx hb dX8_tells_127 ?_
        refine lv_goto (tgt := 132) hx hb dX8_tells_128 (by decide) ?_
        exact w_X8_tells_132 C hK15 hK30 hf hs (lv_sub hl [1, 2, 4, 5, 6, 0] rfl)
    · replace hf := cb_ifn cn hf
      refine lv_aload_n hx hb dX8_tells_72 rfl (lv_at hl 0 rfl) ?_
      refine gf_X8_47 C hs rfl dX8_tells_73 ?_
      refine lv_aload_n hx hb dX8_tells_76 rfl (lv_at hl 0 rfl) ?_
      refine lv_iload hx hb dX8_tells_77 (lv_at hl 4 rfl) ?_
      refine lv_iload hx hb dX8_tells_79 (lv_at hl 5 rfl) ?_
      refine lv_iload hx hb dX8_tells_81 (lv_at hl 6 rfl) ?_
      refine lv_iconst (v := 2) hx hb dX8_tells_83 (by decide) ?_
      refine lv_idiv hx hb dX8_tells_84 (by decide) ?_
      refine lv_iload hx hb dX8_tells_85 (lv_at hl 6 rfl) ?_
      refine lv_iconst (v := 2) hx hb dX8_tells_87 (by decide) ?_
      refine lv_irem hx hb dX8_tells_88 (by decide) ?_
      obtain ⟨r_2, hc, hf⟩ := cb_bp_inv hf
      refine cb_callVi C (c_X8_beatsBy  hc) mw_X8_beatsBy ml_X8_170 rfl ⟨Nat.le_of_ble_eq_true rfl, Nat.le_of_ble_eq_true rfl⟩ rfl (Nat.le_of_ble_eq_true rfl) rfl hs hl rfl (Nat.le_of_ble_eq_true rfl) dX8_tells_89 (fun H locs hs => ?_)
      clear hc
      refine lv_dup2_11 hx hb dX8_tells_92 rfl rfl ?_
      obtain ⟨hc, hf⟩ := cb_ck_inv hf
      refine cb_iald C hs rfl (vp_in_iff.mpr hc) dX8_tells_93 ?_
      refine lv_iload_n hx hb dX8_tells_94 rfl (lv_at hl 1 rfl) ?_
      refine lv_iload hx hb dX8_tells_95 (lv_at hl 6 rfl) ?_
      refine lv_ishr hx hb dX8_tells_97 ?_
      refine lv_iconst (v := 1) hx hb dX8_tells_98 (by decide) ?_
      refine lv_iand hx hb dX8_tells_99 ?_
      refine lv_iadd hx hb dX8_tells_100 ?_
      obtain ⟨hc, hf⟩ := cb_ck_inv hf
      refine cb_iast C hs rfl (vp_in_iff.mpr hc) dX8_tells_101 (fun H locs hs => ?_)
      obtain ⟨σ_3, e9, hf⟩ := cb_let_inv hf
      replace hs := cb_Hc e9 hs
      clear e9
      obtain ⟨x6_3, e9, hf⟩ := cb_let_inv hf
      refine lv_iinc (v := x6_3) (lv' := [(6, .int x6_3), (0, .ref (A 0)), (1, .int x1), (2, .int x2), (3, .int x3), (4, .int x4), (5, .int x5)]) hx hb dX8_tells_102 hl (k := 6) rfl (by rw [e9]; rfl) (by decide) rfl (fun ls hl => ?_)
      clear e9
      refine lv_goto (tgt := 65) hx hb dX8_tells_105 (by decide) ?_
      exact ih _ _ _ _ _ _ _ hf _ _ _ hs (lv_sub hl [1, 2, 3, 4, 5, 6, 0] rfl)
def f_X8_tells_42 (K15 : cb_St → Int32 → Int32 → Int32 → Int32 → Option (Int32 × cb_St)) (K30 : cb_St → Int32 → Int32 → Int32 → Int32 → Int32 → Option (Int32 × cb_St)) : Nat → cb_St → Int32 → Int32 → Int32 → Int32 → Int32 → Int32 → Option (Int32 × cb_St)
  | 0, _, _, _, _, _, _, _ => none
  | fu + 1, σ, x1, x2, x3, x4, x5, x6 => if 3 ≤ x6 then (f_X8_tells_65 K15 K30 cb_fu σ x1 x2 x3 x4 x5 0) else (cb_ck (0 ≤ Int32.toInt x6 ∧ Int32.toInt x6 < 3) (cb_let (cb_sI σ 12 (Int32.toNatClampNeg x6) 0) (fun σ_1 => cb_let (x6 + 1) (fun x6_1 => f_X8_tells_42 K15 K30 fu σ_1 x1 x2 x3 x4 x5 x6_1))))
set_option maxHeartbeats 4000000 in
set_option maxRecDepth 100000 in
theorem w_X8_tells_42 (C : cb_C p s m args meth c cX8_tells 7 (some .int) RX8 D T) {K15 : cb_St → Int32 → Int32 → Int32 → Int32 → Option (Int32 × cb_St)} {K30 : cb_St → Int32 → Int32 → Int32 → Int32 → Int32 → Option (Int32 × cb_St)} {o : Int32 × cb_St} (hK15 : ∀ (σ : cb_St) (x1 : Int32) (x2 : Int32) (x3 : Int32) (x4 : Int32), K15 σ x1 x2 x3 x4 = some o → ∀ (H : Heap) (locs : List Loc) (ls : Array Slot), cb_H shM A T D σ s.heap H locs → lv_has ls 7 [(0, .ref (A 0)), (1, .int x1), (2, .int x2), (3, .int x3), (4, .int x4)] → cb_W p l e 4 s m args below meth c shM A T D (some (.int o.1)) o.2 H locs (F0 m 15 ls [])) (hK30 : ∀ (σ : cb_St) (x1 : Int32) (x2 : Int32) (x3 : Int32) (x4 : Int32) (x5 : Int32), K30 σ x1 x2 x3 x4 x5 = some o → ∀ (H : Heap) (locs : List Loc) (ls : Array Slot), cb_H shM A T D σ s.heap H locs → lv_has ls 7 [(0, .ref (A 0)), (1, .int x1), (2, .int x2), (3, .int x3), (4, .int x4), (5, .int x5)] → cb_W p l e 4 s m args below meth c shM A T D (some (.int o.1)) o.2 H locs (F0 m 30 ls [])) : ∀ (fu : Nat) (σ : cb_St) (x1 : Int32) (x2 : Int32) (x3 : Int32) (x4 : Int32) (x5 : Int32) (x6 : Int32), f_X8_tells_42 K15 K30 fu σ x1 x2 x3 x4 x5 x6 = some o → ∀ (H : Heap) (locs : List Loc) (ls : Array Slot), cb_H shM A T D σ s.heap H locs → lv_has ls 7 [(0, .ref (A 0)), (1, .int x1), (2, .int x2), (3, .int x3), (4, .int x4), (5, .int x5), (6, .int x6)] → cb_W p l e 4 s m args below meth c shM A T D (some (.int o.1)) o.2 H locs (F0 m 42 ls []) := by
  obtain ⟨hx, hb, hml, hr, hown, hts, hK, hlk, hN⟩ := id C
  intro fu
  induction fu with
  | zero =>
    intro σ x1 x2 x3 x4 x5 x6 hf
    rw [f_X8_tells_42] at hf
    cases hf
  | succ fu ih =>
    intro σ x1 x2 x3 x4 x5 x6 hf H locs ls hs hl
    rw [f_X8_tells_42] at hf
    refine lv_iload hx hb dX8_tells_42 (lv_at hl 6 rfl) ?_
    refine lv_iconst (v := 3) hx hb dX8_tells_44 (by decide) ?_
    refine lv_icmp_ge (tgt := 62) hx hb dX8_tells_45 (by decide) (fun cn => ?_) (fun cn => ?_)
    · replace hf := cb_ifp cn hf
      refine lv_iconst (v := 0) hx hb dX8_tells_62 (by decide) ?_
      refine lv_istore (lv' := [(6, .int 0), (0, .ref (A 0)), (1, .int x1), (2, .int x2), (3, .int x3), (4, .int x4), (5, .int x5)]) hx hb dX8_tells_63 hl (by decide) rfl (fun ls hl => ?_)
      exact w_X8_tells_65 C hK15 hK30 cb_fu _ _ _ _ _ _ _ hf _ _ _ hs (lv_sub hl [1, 2, 3, 4, 5, 6, 0] rfl)
    · replace hf := cb_ifn cn hf
      refine lv_aload_n hx hb dX8_tells_48 rfl (lv_at hl 0 rfl) ?_
      refine gf_X8_47 C hs rfl dX8_tells_49 ?_
      refine lv_iload hx hb dX8_tells_52 (lv_at hl 6 rfl) ?_
      refine lv_iconst (v := 0) hx hb dX8_tells_54 (by decide) ?_
      obtain ⟨hc, hf⟩ := cb_ck_inv hf
      refine cb_iast C hs rfl (vp_in_iff.mpr hc) dX8_tells_55 (fun H locs hs => ?_)
      obtain ⟨σ_1, e9, hf⟩ := cb_let_inv hf
      replace hs := cb_Hc e9 hs
      clear e9
      obtain ⟨x6_1, e9, hf⟩ := cb_let_inv hf
      refine lv_iinc (v := x6_1) (lv' := [(6, .int x6_1), (0, .ref (A 0)), (1, .int x1), (2, .int x2), (3, .int x3), (4, .int x4), (5, .int x5)]) hx hb dX8_tells_56 hl (k := 6) rfl (by rw [e9]; rfl) (by decide) rfl (fun ls hl => ?_)
      clear e9
      refine lv_goto (tgt := 42) hx hb dX8_tells_59 (by decide) ?_
      exact ih _ _ _ _ _ _ _ hf _ _ _ hs (lv_sub hl [1, 2, 3, 4, 5, 6, 0] rfl)
def f_X8_tells_30 (K15 : cb_St → Int32 → Int32 → Int32 → Int32 → Option (Int32 × cb_St)) : Nat → cb_St → Int32 → Int32 → Int32 → Int32 → Int32 → Option (Int32 × cb_St)
  | 0, _, _, _, _, _, _ => none
  | fu + 1, σ, x1, x2, x3, x4, x5 => if (σ.1 0 4) ≤ x5 then (cb_let (x4 + 1) (fun x4_0 => K15 σ x1 x2 x3 x4_0)) else (f_X8_tells_42 K15 (f_X8_tells_30 K15 fu) cb_fu σ x1 x2 x3 x4 x5 0)
set_option maxHeartbeats 4000000 in
set_option maxRecDepth 100000 in
theorem w_X8_tells_30 (C : cb_C p s m args meth c cX8_tells 7 (some .int) RX8 D T) {K15 : cb_St → Int32 → Int32 → Int32 → Int32 → Option (Int32 × cb_St)} {o : Int32 × cb_St} (hK15 : ∀ (σ : cb_St) (x1 : Int32) (x2 : Int32) (x3 : Int32) (x4 : Int32), K15 σ x1 x2 x3 x4 = some o → ∀ (H : Heap) (locs : List Loc) (ls : Array Slot), cb_H shM A T D σ s.heap H locs → lv_has ls 7 [(0, .ref (A 0)), (1, .int x1), (2, .int x2), (3, .int x3), (4, .int x4)] → cb_W p l e 4 s m args below meth c shM A T D (some (.int o.1)) o.2 H locs (F0 m 15 ls [])) : ∀ (fu : Nat) (σ : cb_St) (x1 : Int32) (x2 : Int32) (x3 : Int32) (x4 : Int32) (x5 : Int32), f_X8_tells_30 K15 fu σ x1 x2 x3 x4 x5 = some o → ∀ (H : Heap) (locs : List Loc) (ls : Array Slot), cb_H shM A T D σ s.heap H locs → lv_has ls 7 [(0, .ref (A 0)), (1, .int x1), (2, .int x2), (3, .int x3), (4, .int x4), (5, .int x5)] → cb_W p l e 4 s m args below meth c shM A T D (some (.int o.1)) o.2 H locs (F0 m 30 ls []) := by
  obtain ⟨hx, hb, hml, hr, hown, hts, hK, hlk, hN⟩ := id C
  intro fu
  induction fu with
  | zero =>
    intro σ x1 x2 x3 x4 x5 hf
    rw [f_X8_tells_30] at hf
    cases hf
  | succ fu ih =>
    intro σ x1 x2 x3 x4 x5 hf H locs ls hs hl
    rw [f_X8_tells_30] at hf
    refine lv_iload hx hb dX8_tells_30 (lv_at hl 5 rfl) ?_
    refine lv_aload_n hx hb dX8_tells_32 rfl (lv_at hl 0 rfl) ?_
    refine gf_X8_86 C hs rfl dX8_tells_33 ?_
    refine lv_icmp_ge (tgt := 152) hx hb dX8_tells_36 (by decide) (fun cn => ?_) (fun cn => ?_)
    · replace hf := cb_ifp cn hf
      obtain ⟨x4_0, e9, hf⟩ := cb_let_inv hf
      refine lv_iinc (v := x4_0) (lv' := [(4, .int x4_0), (0, .ref (A 0)), (1, .int x1), (2, .int x2), (3, .int x3), (5, .int x5)]) hx hb dX8_tells_152 hl (k := 4) rfl (by rw [e9]; rfl) (by decide) rfl (fun ls hl => ?_)
      clear e9
      refine lv_goto (tgt := 15) hx hb dX8_tells_155 (by decide) ?_
      exact hK15 _ _ _ _ _ hf _ _ _ hs (lv_sub hl [1, 2, 3, 4, 0] rfl)
    · replace hf := cb_ifn cn hf
      refine lv_iconst (v := 0) hx hb dX8_tells_39 (by decide) ?_
      refine lv_istore (lv' := [(6, .int 0), (0, .ref (A 0)), (1, .int x1), (2, .int x2), (3, .int x3), (4, .int x4), (5, .int x5)]) hx hb dX8_tells_40 hl (by decide) rfl (fun ls hl => ?_)
      exact w_X8_tells_42 C hK15 ih cb_fu _ _ _ _ _ _ _ hf _ _ _ hs (lv_sub hl [1, 2, 3, 4, 5, 6, 0] rfl)
def f_X8_tells_15  : Nat → cb_St → Int32 → Int32 → Int32 → Int32 → Option (Int32 × cb_St)
  | 0, _, _, _, _, _ => none
  | fu + 1, σ, x1, x2, x3, x4 => if (σ.1 0 4) ≤ x4 then (some (x2, σ)) else (cb_let (x4 + 1) (fun x5_0 => f_X8_tells_30 (f_X8_tells_15 fu) cb_fu σ x1 x2 x3 x4 x5_0))
set_option maxHeartbeats 4000000 in
set_option maxRecDepth 100000 in
theorem w_X8_tells_15 (C : cb_C p s m args meth c cX8_tells 7 (some .int) RX8 D T)  {o : Int32 × cb_St}  : ∀ (fu : Nat) (σ : cb_St) (x1 : Int32) (x2 : Int32) (x3 : Int32) (x4 : Int32), f_X8_tells_15 fu σ x1 x2 x3 x4 = some o → ∀ (H : Heap) (locs : List Loc) (ls : Array Slot), cb_H shM A T D σ s.heap H locs → lv_has ls 7 [(0, .ref (A 0)), (1, .int x1), (2, .int x2), (3, .int x3), (4, .int x4)] → cb_W p l e 4 s m args below meth c shM A T D (some (.int o.1)) o.2 H locs (F0 m 15 ls []) := by
  obtain ⟨hx, hb, hml, hr, hown, hts, hK, hlk, hN⟩ := id C
  intro fu
  induction fu with
  | zero =>
    intro σ x1 x2 x3 x4 hf
    rw [f_X8_tells_15] at hf
    cases hf
  | succ fu ih =>
    intro σ x1 x2 x3 x4 hf H locs ls hs hl
    rw [f_X8_tells_15] at hf
    refine lv_iload hx hb dX8_tells_15 (lv_at hl 4 rfl) ?_
    refine lv_aload_n hx hb dX8_tells_17 rfl (lv_at hl 0 rfl) ?_
    refine gf_X8_86 C hs rfl dX8_tells_18 ?_
    refine lv_icmp_ge (tgt := 158) hx hb dX8_tells_21 (by decide) (fun cn => ?_) (fun cn => ?_)
    · replace hf := cb_ifp cn hf
      refine lv_iload_n hx hb dX8_tells_158 rfl (lv_at hl 2 rfl) ?_
      have hf := Option.some.inj hf
      subst hf
      exact cb_reti C hs dX8_tells_159
    · replace hf := cb_ifn cn hf
      refine lv_iload hx hb dX8_tells_24 (lv_at hl 4 rfl) ?_
      refine lv_iconst (v := 1) hx hb dX8_tells_26 (by decide) ?_
      refine lv_iadd hx hb dX8_tells_27 ?_
      obtain ⟨x5_0, e9, hf⟩ := cb_let_inv hf
      refine cb_topi e9 ?_
      clear e9
      refine lv_istore (lv' := [(5, .int x5_0), (0, .ref (A 0)), (1, .int x1), (2, .int x2), (3, .int x3), (4, .int x4)]) hx hb dX8_tells_28 hl (by decide) rfl (fun ls hl => ?_)
      exact w_X8_tells_30 C ih cb_fu _ _ _ _ _ _ hf _ _ _ hs (lv_sub hl [1, 2, 3, 4, 5, 0] rfl)
def f_X8_tells  (σ : cb_St) : Option (Int32 × cb_St) := cb_bp (f_X8_heldRules σ) (fun r_1 => cb_bp (f_X8_bits r_1 σ) (fun r_2 => f_X8_tells_15 cb_fu σ r_1 (-1) r_2 0))
set_option maxHeartbeats 4000000 in
set_option maxRecDepth 100000 in
theorem c_X8_tells   {σ : cb_St} {o : Int32 × cb_St} (hf : f_X8_tells σ = some o) : cb_M l yX8_tells cX8_tells 7 (some .int) 4 shM A T D σ [.ref (A 0)] (some (.int o.1)) o.2 := by
  refine cb_met (by decide +kernel) (Nat.le_of_ble_eq_true rfl) ?_
  intro p e s m below meth c C hs ls hl
  have hl : lv_has ls 7 [(0, .ref (A 0))] := hl
  obtain ⟨hx, hb, hml, hr, hown, hts, hK, hlk, hN⟩ := id C
  unfold f_X8_tells at hf
  refine lv_aload_n hx hb dX8_tells_0 rfl (lv_at hl 0 rfl) ?_
  obtain ⟨r_1, hc, hf⟩ := cb_bp_inv hf
  refine cb_callVi C (c_X8_heldRules  hc) mw_X8_heldRules ml_X8_203 rfl ⟨Nat.le_of_ble_eq_true rfl, Nat.le_of_ble_eq_true rfl⟩ rfl (Nat.le_of_ble_eq_true rfl) rfl hs hl rfl (Nat.le_of_ble_eq_true rfl) dX8_tells_1 (fun H locs hs => ?_)
  clear hc
  refine lv_istore_n (lv' := [(1, .int r_1), (0, .ref (A 0))]) hx hb dX8_tells_4 rfl hl (by decide) rfl (fun ls hl => ?_)
  refine lv_iconst (v := (-1)) hx hb dX8_tells_5 (by decide) ?_
  refine lv_istore_n (lv' := [(2, .int (-1)), (1, .int r_1), (0, .ref (A 0))]) hx hb dX8_tells_6 rfl hl (by decide) rfl (fun ls hl => ?_)
  refine lv_iload_n hx hb dX8_tells_7 rfl (lv_at hl 1 rfl) ?_
  obtain ⟨r_2, hc, hf⟩ := cb_bp_inv hf
  refine cb_callSi C (c_X8_bits  hc) mw_X8_bits ml_X8_184 rfl ⟨Nat.le_of_ble_eq_true rfl, Nat.le_of_ble_eq_true rfl⟩ hs hl rfl (Nat.le_of_ble_eq_true rfl) dX8_tells_8 (fun H locs hs => ?_)
  clear hc
  refine lv_istore_n (lv' := [(3, .int r_2), (2, .int (-1)), (1, .int r_1), (0, .ref (A 0))]) hx hb dX8_tells_11 rfl hl (by decide) rfl (fun ls hl => ?_)
  refine lv_iconst (v := 0) hx hb dX8_tells_12 (by decide) ?_
  refine lv_istore (lv' := [(4, .int 0), (3, .int r_2), (2, .int (-1)), (1, .int r_1), (0, .ref (A 0))]) hx hb dX8_tells_13 hl (by decide) rfl (fun ls hl => ?_)
  exact w_X8_tells_15 C  cb_fu _ _ _ _ _ hf _ _ _ hs (lv_sub hl [4, 3, 2, 1, 0] rfl)
/-! ===== CardBecomeModel.told ===== -/
def f_X8_told (x1 : Int32) (σ : cb_St)  : Option (Int32) := if x1 = 0 then (if (σ.1 0 0) = 0 then (some (-1)) else (some (σ.1 0 1))) else (if x1 = 1 then (some (σ.1 0 2)) else (if x1 = 2 then (some (σ.1 0 3)) else (if x1 = 3 then (some (σ.1 0 4)) else (if x1 = 4 then (some (σ.1 0 7)) else (if x1 = 5 then (some (σ.1 0 11)) else (if x1 = 6 then (cb_ck (0 ≤ Int32.toInt 12 ∧ Int32.toInt 12 < 51) (some (σ.1 3 (Int32.toNatClampNeg 12)))) else (if x1 = 7 then (cb_ck (0 ≤ Int32.toInt 25 ∧ Int32.toInt 25 < 51) (some (σ.1 3 (Int32.toNatClampNeg 25)))) else (if x1 = 8 then (cb_bp (f_X8_whoAreCards σ) (fun r_1 => some r_1)) else (if x1 = 9 then (cb_bp (f_X8_ruler σ) (fun r_2 => some r_2)) else (if x1 = 10 then (cb_ck (0 ≤ Int32.toInt 26 ∧ Int32.toInt 26 < 51) (some (σ.1 3 (Int32.toNatClampNeg 26)))) else (if x1 = 11 then (cb_bp (f_X8_heldRules σ) (fun r_3 => some r_3)) else (if x1 = 12 then (some (σ.1 0 28)) else (if x1 = 13 then (some (σ.1 0 35)) else (if x1 = 14 then (some (σ.1 0 22)) else (some (-1000000002))))))))))))))))
set_option maxHeartbeats 4000000 in
set_option maxRecDepth 100000 in
theorem c_X8_told {x1 : Int32} {σ : cb_St}   {o : Int32} (hf : f_X8_told x1 σ = some o) : cb_M l yX8_told cX8_told 2 (some .int) 6 shM A T D σ [.ref (A 0), .int x1] (some (.int o)) σ := by
  refine cb_met (by decide +kernel) (Nat.le_of_ble_eq_true rfl) ?_
  intro p e s m below meth c C hs ls hl
  have hl : lv_has ls 2 [(0, .ref (A 0)), (1, .int x1)] := hl
  obtain ⟨hx, hb, hml, hr, hown, hts, hK, hlk, hN⟩ := id C
  unfold f_X8_told at hf
  refine lv_iload_n hx hb dX8_told_0 rfl (lv_at hl 1 rfl) ?_
  by_cases cn0 : x1 = 0
  · replace hf := cb_ifp cn0 hf
    refine lv_tableIn (tgt := 76) hx hb dX8_told_1 (by rw [cn0]; decide) (by rw [cn0]; decide) (by rw [cn0]; rfl) (by decide) ?_
    refine lv_aload_n hx hb dX8_told_76 rfl (lv_at hl 0 rfl) ?_
    refine gf_X8_143 C hs rfl dX8_told_77 ?_
    refine lv_if_eq (tgt := 90) hx hb dX8_told_80 (by decide) (fun cn => ?_) (fun cn => ?_)
    · replace hf := cb_ifp cn hf
      refine lv_iconst (v := (-1)) hx hb dX8_told_90 (by decide) ?_
      have hf := Option.some.inj hf
      subst hf
      exact cb_reti C hs dX8_told_91
    · replace hf := cb_ifn cn hf
      refine lv_aload_n hx hb dX8_told_83 rfl (lv_at hl 0 rfl) ?_
      refine gf_X8_146 C hs rfl dX8_told_84 ?_
      refine lv_goto (tgt := 91) hx hb dX8_told_87 (by decide) ?_
      have hf := Option.some.inj hf
      subst hf
      exact cb_reti C hs dX8_told_91
  replace hf := cb_ifn cn0 hf
  by_cases cn1 : x1 = 1
  · replace hf := cb_ifp cn1 hf
    refine lv_tableIn (tgt := 92) hx hb dX8_told_1 (by rw [cn1]; decide) (by rw [cn1]; decide) (by rw [cn1]; rfl) (by decide) ?_
    refine lv_aload_n hx hb dX8_told_92 rfl (lv_at hl 0 rfl) ?_
    refine gf_X8_149 C hs rfl dX8_told_93 ?_
    have hf := Option.some.inj hf
    subst hf
    exact cb_reti C hs dX8_told_96
  replace hf := cb_ifn cn1 hf
  by_cases cn2 : x1 = 2
  · replace hf := cb_ifp cn2 hf
    refine lv_tableIn (tgt := 97) hx hb dX8_told_1 (by rw [cn2]; decide) (by rw [cn2]; decide) (by rw [cn2]; rfl) (by decide) ?_
    refine lv_aload_n hx hb dX8_told_97 rfl (lv_at hl 0 rfl) ?_
    refine gf_X8_152 C hs rfl dX8_told_98 ?_
    have hf := Option.some.inj hf
    subst hf
    exact cb_reti C hs dX8_told_101
  replace hf := cb_ifn cn2 hf
  by_cases cn3 : x1 = 3
  · replace hf := cb_ifp cn3 hf
    refine lv_tableIn (tgt := 102) hx hb dX8_told_1 (by rw [cn3]; decide) (by rw [cn3]; decide) (by rw [cn3]; rfl) (by decide) ?_
    refine lv_aload_n hx hb dX8_told_102 rfl (lv_at hl 0 rfl) ?_
    refine gf_X8_86 C hs rfl dX8_told_103 ?_
    have hf := Option.some.inj hf
    subst hf
    exact cb_reti C hs dX8_told_106
  replace hf := cb_ifn cn3 hf
  by_cases cn4 : x1 = 4
  · replace hf := cb_ifp cn4 hf
    refine lv_tableIn (tgt := 107) hx hb dX8_told_1 (by rw [cn4]; decide) (by rw [cn4]; decide) (by rw [cn4]; rfl) (by decide) ?_
    refine lv_aload_n hx hb dX8_told_107 rfl (lv_at hl 0 rfl) ?_
    refine gf_X8_75 C hs rfl dX8_told_108 ?_
    have hf := Option.some.inj hf
    subst hf
    exact cb_reti C hs dX8_told_111
  replace hf := cb_ifn cn4 hf
  by_cases cn5 : x1 = 5
  · replace hf := cb_ifp cn5 hf
    refine lv_tableIn (tgt := 112) hx hb dX8_told_1 (by rw [cn5]; decide) (by rw [cn5]; decide) (by rw [cn5]; rfl) (by decide) ?_
    refine lv_aload_n hx hb dX8_told_112 rfl (lv_at hl 0 rfl) ?_
    refine gf_X8_92 C hs rfl dX8_told_113 ?_
    have hf := Option.some.inj hf
    subst hf
    exact cb_reti C hs dX8_told_116
  replace hf := cb_ifn cn5 hf
  by_cases cn6 : x1 = 6
  · replace hf := cb_ifp cn6 hf
    refine lv_tableIn (tgt := 117) hx hb dX8_told_1 (by rw [cn6]; decide) (by rw [cn6]; decide) (by rw [cn6]; rfl) (by decide) ?_
    refine lv_aload_n hx hb dX8_told_117 rfl (lv_at hl 0 rfl) ?_
    refine gf_X8_16 C hs rfl dX8_told_118 ?_
    refine lv_bipush (v := 12) hx hb dX8_told_121 (by decide) ?_
    obtain ⟨hc, hf⟩ := cb_ck_inv hf
    refine cb_iald C hs rfl (vp_in_iff.mpr hc) dX8_told_123 ?_
    have hf := Option.some.inj hf
    subst hf
    exact cb_reti C hs dX8_told_124
  replace hf := cb_ifn cn6 hf
  by_cases cn7 : x1 = 7
  · replace hf := cb_ifp cn7 hf
    refine lv_tableIn (tgt := 125) hx hb dX8_told_1 (by rw [cn7]; decide) (by rw [cn7]; decide) (by rw [cn7]; rfl) (by decide) ?_
    refine lv_aload_n hx hb dX8_told_125 rfl (lv_at hl 0 rfl) ?_
    refine gf_X8_16 C hs rfl dX8_told_126 ?_
    refine lv_bipush (v := 25) hx hb dX8_told_129 (by decide) ?_
    obtain ⟨hc, hf⟩ := cb_ck_inv hf
    refine cb_iald C hs rfl (vp_in_iff.mpr hc) dX8_told_131 ?_
    have hf := Option.some.inj hf
    subst hf
    exact cb_reti C hs dX8_told_132
  replace hf := cb_ifn cn7 hf
  by_cases cn8 : x1 = 8
  · replace hf := cb_ifp cn8 hf
    refine lv_tableIn (tgt := 133) hx hb dX8_told_1 (by rw [cn8]; decide) (by rw [cn8]; decide) (by rw [cn8]; rfl) (by decide) ?_
    refine lv_aload_n hx hb dX8_told_133 rfl (lv_at hl 0 rfl) ?_
    obtain ⟨r_1, hc, hf⟩ := cb_bp_inv hf
    refine cb_callVi C (c_X8_whoAreCards  hc) mw_X8_whoAreCards ml_X8_197 rfl ⟨Nat.le_of_ble_eq_true rfl, Nat.le_of_ble_eq_true rfl⟩ rfl (Nat.le_of_ble_eq_true rfl) rfl hs hl rfl (Nat.le_of_ble_eq_true rfl) dX8_told_134 (fun H locs hs => ?_)
    clear hc
    have hf := Option.some.inj hf
    subst hf
    exact cb_reti C hs dX8_told_137
  replace hf := cb_ifn cn8 hf
  by_cases cn9 : x1 = 9
  · replace hf := cb_ifp cn9 hf
    refine lv_tableIn (tgt := 138) hx hb dX8_told_1 (by rw [cn9]; decide) (by rw [cn9]; decide) (by rw [cn9]; rfl) (by decide) ?_
    refine lv_aload_n hx hb dX8_told_138 rfl (lv_at hl 0 rfl) ?_
    obtain ⟨r_2, hc, hf⟩ := cb_bp_inv hf
    refine cb_callVi C (c_X8_ruler  hc) mw_X8_ruler ml_X8_200 rfl ⟨Nat.le_of_ble_eq_true rfl, Nat.le_of_ble_eq_true rfl⟩ rfl (Nat.le_of_ble_eq_true rfl) rfl hs hl rfl (Nat.le_of_ble_eq_true rfl) dX8_told_139 (fun H locs hs => ?_)
    clear hc
    have hf := Option.some.inj hf
    subst hf
    exact cb_reti C hs dX8_told_142
  replace hf := cb_ifn cn9 hf
  by_cases cn10 : x1 = 10
  · replace hf := cb_ifp cn10 hf
    refine lv_tableIn (tgt := 143) hx hb dX8_told_1 (by rw [cn10]; decide) (by rw [cn10]; decide) (by rw [cn10]; rfl) (by decide) ?_
    refine lv_aload_n hx hb dX8_told_143 rfl (lv_at hl 0 rfl) ?_
    refine gf_X8_16 C hs rfl dX8_told_144 ?_
    refine lv_bipush (v := 26) hx hb dX8_told_147 (by decide) ?_
    obtain ⟨hc, hf⟩ := cb_ck_inv hf
    refine cb_iald C hs rfl (vp_in_iff.mpr hc) dX8_told_149 ?_
    have hf := Option.some.inj hf
    subst hf
    exact cb_reti C hs dX8_told_150
  replace hf := cb_ifn cn10 hf
  by_cases cn11 : x1 = 11
  · replace hf := cb_ifp cn11 hf
    refine lv_tableIn (tgt := 151) hx hb dX8_told_1 (by rw [cn11]; decide) (by rw [cn11]; decide) (by rw [cn11]; rfl) (by decide) ?_
    refine lv_aload_n hx hb dX8_told_151 rfl (lv_at hl 0 rfl) ?_
    obtain ⟨r_3, hc, hf⟩ := cb_bp_inv hf
    refine cb_callVi C (c_X8_heldRules  hc) mw_X8_heldRules ml_X8_203 rfl ⟨Nat.le_of_ble_eq_true rfl, Nat.le_of_ble_eq_true rfl⟩ rfl (Nat.le_of_ble_eq_true rfl) rfl hs hl rfl (Nat.le_of_ble_eq_true rfl) dX8_told_152 (fun H locs hs => ?_)
    clear hc
    have hf := Option.some.inj hf
    subst hf
    exact cb_reti C hs dX8_told_155
  replace hf := cb_ifn cn11 hf
  by_cases cn12 : x1 = 12
  · replace hf := cb_ifp cn12 hf
    refine lv_tableIn (tgt := 156) hx hb dX8_told_1 (by rw [cn12]; decide) (by rw [cn12]; decide) (by rw [cn12]; rfl) (by decide) ?_
    refine lv_aload_n hx hb dX8_told_156 rfl (lv_at hl 0 rfl) ?_
    refine gf_X8_161 C hs rfl dX8_told_157 ?_
    have hf := Option.some.inj hf
    subst hf
    exact cb_reti C hs dX8_told_160
  replace hf := cb_ifn cn12 hf
  by_cases cn13 : x1 = 13
  · replace hf := cb_ifp cn13 hf
    refine lv_tableIn (tgt := 161) hx hb dX8_told_1 (by rw [cn13]; decide) (by rw [cn13]; decide) (by rw [cn13]; rfl) (by decide) ?_
    refine lv_aload_n hx hb dX8_told_161 rfl (lv_at hl 0 rfl) ?_
    refine gf_X8_164 C hs rfl dX8_told_162 ?_
    have hf := Option.some.inj hf
    subst hf
    exact cb_reti C hs dX8_told_165
  replace hf := cb_ifn cn13 hf
  by_cases cn14 : x1 = 14
  · replace hf := cb_ifp cn14 hf
    refine lv_tableIn (tgt := 166) hx hb dX8_told_1 (by rw [cn14]; decide) (by rw [cn14]; decide) (by rw [cn14]; rfl) (by decide) ?_
    refine lv_aload_n hx hb dX8_told_166 rfl (lv_at hl 0 rfl) ?_
    refine gf_X8_167 C hs rfl dX8_told_167 ?_
    have hf := Option.some.inj hf
    subst hf
    exact cb_reti C hs dX8_told_170
  replace hf := cb_ifn cn14 hf
  refine lv_tableOut (tgt := 171) hx hb dX8_told_1 (by have g0 := lv_neT cn0 (show Int32.toInt 0 = 0 by decide); have g1 := lv_neT cn1 (show Int32.toInt 1 = 1 by decide); have g2 := lv_neT cn2 (show Int32.toInt 2 = 2 by decide); have g3 := lv_neT cn3 (show Int32.toInt 3 = 3 by decide); have g4 := lv_neT cn4 (show Int32.toInt 4 = 4 by decide); have g5 := lv_neT cn5 (show Int32.toInt 5 = 5 by decide); have g6 := lv_neT cn6 (show Int32.toInt 6 = 6 by decide); have g7 := lv_neT cn7 (show Int32.toInt 7 = 7 by decide); have g8 := lv_neT cn8 (show Int32.toInt 8 = 8 by decide); have g9 := lv_neT cn9 (show Int32.toInt 9 = 9 by decide); have g10 := lv_neT cn10 (show Int32.toInt 10 = 10 by decide); have g11 := lv_neT cn11 (show Int32.toInt 11 = 11 by decide); have g12 := lv_neT cn12 (show Int32.toInt 12 = 12 by decide); have g13 := lv_neT cn13 (show Int32.toInt 13 = 13 by decide); have g14 := lv_neT cn14 (show Int32.toInt 14 = 14 by decide); omega) (by decide) ?_
  refine lv_ldc (v := (-1000000002)) hx hb hown (hts _ kc_X8_91) dX8_told_171 ?_
  have hf := Option.some.inj hf
  subst hf
  exact cb_reti C hs dX8_told_173
/-! ===== CardBecomeModel.undo ===== -/
def f_X8_undo_22  : Nat → cb_St → Int32 → Option (Int32 × cb_St)
  | 0, _, _ => none
  | fu + 1, σ, x1 => if 51 ≤ x1 then (some (σ.1 0 22, σ)) else (cb_ck (0 ≤ Int32.toInt ((51 * (σ.1 0 22)) + x1) ∧ Int32.toInt ((51 * (σ.1 0 22)) + x1) < 816) (cb_ck (0 ≤ Int32.toInt x1 ∧ Int32.toInt x1 < 51) (cb_let (cb_sI σ 3 (Int32.toNatClampNeg x1) (σ.1 8 (Int32.toNatClampNeg ((51 * (σ.1 0 22)) + x1)))) (fun σ_1 => cb_let (x1 + 1) (fun x1_1 => f_X8_undo_22 fu σ_1 x1_1)))))
set_option maxHeartbeats 4000000 in
set_option maxRecDepth 100000 in
theorem w_X8_undo_22 (C : cb_C p s m args meth c cX8_undo 2 (some .int) RX8 D T)  {o : Int32 × cb_St}  : ∀ (fu : Nat) (σ : cb_St) (x1 : Int32), f_X8_undo_22 fu σ x1 = some o → ∀ (H : Heap) (locs : List Loc) (ls : Array Slot), cb_H shM A T D σ s.heap H locs → lv_has ls 2 [(0, .ref (A 0)), (1, .int x1)] → cb_W p l e 1 s m args below meth c shM A T D (some (.int o.1)) o.2 H locs (F0 m 22 ls []) := by
  obtain ⟨hx, hb, hml, hr, hown, hts, hK, hlk, hN⟩ := id C
  intro fu
  induction fu with
  | zero =>
    intro σ x1 hf
    rw [f_X8_undo_22] at hf
    cases hf
  | succ fu ih =>
    intro σ x1 hf H locs ls hs hl
    rw [f_X8_undo_22] at hf
    refine lv_iload_n hx hb dX8_undo_22 rfl (lv_at hl 1 rfl) ?_
    refine lv_bipush (v := 51) hx hb dX8_undo_23 (by decide) ?_
    refine lv_icmp_ge (tgt := 54) hx hb dX8_undo_25 (by decide) (fun cn => ?_) (fun cn => ?_)
    · replace hf := cb_ifp cn hf
      refine lv_aload_n hx hb dX8_undo_54 rfl (lv_at hl 0 rfl) ?_
      refine gf_X8_167 C hs rfl dX8_undo_55 ?_
      have hf := Option.some.inj hf
      subst hf
      exact cb_reti C hs dX8_undo_58
    · replace hf := cb_ifn cn hf
      refine lv_aload_n hx hb dX8_undo_28 rfl (lv_at hl 0 rfl) ?_
      refine gf_X8_16 C hs rfl dX8_undo_29 ?_
      refine lv_iload_n hx hb dX8_undo_32 rfl (lv_at hl 1 rfl) ?_
      refine lv_aload_n hx hb dX8_undo_33 rfl (lv_at hl 0 rfl) ?_
      refine gf_X8_35 C hs rfl dX8_undo_34 ?_
      refine lv_bipush (v := 51) hx hb dX8_undo_37 (by decide) ?_
      refine lv_aload_n hx hb dX8_undo_39 rfl (lv_at hl 0 rfl) ?_
      refine gf_X8_167 C hs rfl dX8_undo_40 ?_
      refine lv_imul hx hb dX8_undo_43 ?_
      refine lv_iload_n hx hb dX8_undo_44 rfl (lv_at hl 1 rfl) ?_
      refine lv_iadd hx hb dX8_undo_45 ?_
      obtain ⟨hc, hf⟩ := cb_ck_inv hf
      refine cb_iald C hs rfl (vp_in_iff.mpr hc) dX8_undo_46 ?_
      obtain ⟨hc, hf⟩ := cb_ck_inv hf
      refine cb_iast C hs rfl (vp_in_iff.mpr hc) dX8_undo_47 (fun H locs hs => ?_)
      obtain ⟨σ_1, e9, hf⟩ := cb_let_inv hf
      replace hs := cb_Hc e9 hs
      clear e9
      obtain ⟨x1_1, e9, hf⟩ := cb_let_inv hf
      refine lv_iinc (v := x1_1) (lv' := [(1, .int x1_1), (0, .ref (A 0))]) hx hb dX8_undo_48 hl (k := 1) rfl (by rw [e9]; rfl) (by decide) rfl (fun ls hl => ?_)
      clear e9
      refine lv_goto (tgt := 22) hx hb dX8_undo_51 (by decide) ?_
      exact ih _ _ hf _ _ _ hs (lv_sub hl [1, 0] rfl)
def f_X8_undo  (σ : cb_St) : Option (Int32 × cb_St) := if (σ.1 0 22) = 0 then (some ((-1000000003), σ)) else (cb_let (cb_sI σ 0 22 ((σ.1 0 22) - 1)) (fun σ_1 => f_X8_undo_22 cb_fu σ_1 0))
set_option maxHeartbeats 4000000 in
set_option maxRecDepth 100000 in
theorem c_X8_undo   {σ : cb_St} {o : Int32 × cb_St} (hf : f_X8_undo σ = some o) : cb_M l yX8_undo cX8_undo 2 (some .int) 1 shM A T D σ [.ref (A 0)] (some (.int o.1)) o.2 := by
  refine cb_met (by decide +kernel) (Nat.le_of_ble_eq_true rfl) ?_
  intro p e s m below meth c C hs ls hl
  have hl : lv_has ls 2 [(0, .ref (A 0))] := hl
  obtain ⟨hx, hb, hml, hr, hown, hts, hK, hlk, hN⟩ := id C
  unfold f_X8_undo at hf
  refine lv_aload_n hx hb dX8_undo_0 rfl (lv_at hl 0 rfl) ?_
  refine gf_X8_167 C hs rfl dX8_undo_1 ?_
  refine lv_if_ne (tgt := 10) hx hb dX8_undo_4 (by decide) (fun cn => ?_) (fun cn => ?_)
  · replace hf := cb_ifn cn hf
    refine lv_aload_n hx hb dX8_undo_10 rfl (lv_at hl 0 rfl) ?_
    refine lv_dup hx hb dX8_undo_11 rfl ?_
    refine gf_X8_167 C hs rfl dX8_undo_12 ?_
    refine lv_iconst (v := 1) hx hb dX8_undo_15 (by decide) ?_
    refine lv_isub hx hb dX8_undo_16 ?_
    refine pf_X8_167 C hs rfl dX8_undo_17 (fun H locs hs => ?_)
    obtain ⟨σ_1, e9, hf⟩ := cb_let_inv hf
    replace hs := cb_Hc e9 hs
    clear e9
    refine lv_iconst (v := 0) hx hb dX8_undo_20 (by decide) ?_
    refine lv_istore_n (lv' := [(1, .int 0), (0, .ref (A 0))]) hx hb dX8_undo_21 rfl hl (by decide) rfl (fun ls hl => ?_)
    exact w_X8_undo_22 C  cb_fu _ _ hf _ _ _ hs (lv_sub hl [1, 0] rfl)
  · replace hf := cb_ifp cn hf
    refine lv_ldc (v := (-1000000003)) hx hb hown (hts _ kc_X8_231) dX8_undo_7 ?_
    have hf := Option.some.inj hf
    subst hf
    exact cb_reti C hs dX8_undo_9
/-! ===== CardBecomeModel.wanted ===== -/
def f_X8_wanted_81 (x1 : Int32) (σ : cb_St) (x2 : Int32) : Option (Int32) := some x2
set_option maxHeartbeats 4000000 in
set_option maxRecDepth 100000 in
theorem w_X8_wanted_81 (C : cb_C p s m args meth c cX8_wanted 6 (some .int) RX8 D T) {x1 : Int32} {σ : cb_St} {o : Int32}  {x2 : Int32} (hf : f_X8_wanted_81 x1 σ x2 = some o) {H : Heap} {locs : List Loc} {ls : Array Slot} (hs : cb_H shM A T D σ s.heap H locs) (hl : lv_has ls 6 [(0, .ref (A 0)), (1, .int x1), (2, .int x2)]) : cb_W p l e 5 s m args below meth c shM A T D (some (.int o)) σ H locs (F0 m 81 ls []) := by
  obtain ⟨hx, hb, hml, hr, hown, hts, hK, hlk, hN⟩ := id C
  unfold f_X8_wanted_81 at hf
  refine lv_iload_n hx hb dX8_wanted_81 rfl (lv_at hl 2 rfl) ?_
  refine lv_goto (tgt := 93) hx hb dX8_wanted_82 (by decide) ?_
  have hf := Option.some.inj hf
  subst hf
  exact cb_reti C hs dX8_wanted_93
def f_X8_wanted_66 (K21 : Int32 → Int32 → Int32 → Option (Int32)) (x1 : Int32) (σ : cb_St) (x2 : Int32) (x4 : Int32) (s0 : Int32) : Option (Int32) := cb_let (x4 + 1) (fun x4_0 => K21 x2 s0 x4_0)
set_option maxHeartbeats 4000000 in
set_option maxRecDepth 100000 in
theorem w_X8_wanted_66 (C : cb_C p s m args meth c cX8_wanted 6 (some .int) RX8 D T) {K21 : Int32 → Int32 → Int32 → Option (Int32)} {x1 : Int32} {σ : cb_St} {o : Int32} (hK21 : ∀ (x2 : Int32) (x3 : Int32) (x4 : Int32), K21 x2 x3 x4 = some o → ∀ (H : Heap) (locs : List Loc) (ls : Array Slot), cb_H shM A T D σ s.heap H locs → lv_has ls 6 [(0, .ref (A 0)), (1, .int x1), (2, .int x2), (3, .int x3), (4, .int x4)] → cb_W p l e 5 s m args below meth c shM A T D (some (.int o)) σ H locs (F0 m 21 ls [])) {x2 : Int32} {x4 : Int32} {s0 : Int32} (hf : f_X8_wanted_66 K21 x1 σ x2 x4 s0 = some o) {H : Heap} {locs : List Loc} {ls : Array Slot} (hs : cb_H shM A T D σ s.heap H locs) (hl : lv_has ls 6 [(0, .ref (A 0)), (1, .int x1), (2, .int x2), (4, .int x4)]) : cb_W p l e 5 s m args below meth c shM A T D (some (.int o)) σ H locs (F0 m 66 ls [.int s0]) := by
  obtain ⟨hx, hb, hml, hr, hown, hts, hK, hlk, hN⟩ := id C
  unfold f_X8_wanted_66 at hf
  refine lv_istore_n (lv' := [(3, .int s0), (0, .ref (A 0)), (1, .int x1), (2, .int x2), (4, .int x4)]) hx hb dX8_wanted_66 rfl hl (by decide) rfl (fun ls hl => ?_)
  obtain ⟨x4_0, e9, hf⟩ := cb_let_inv hf
  refine lv_iinc (v := x4_0) (lv' := [(4, .int x4_0), (3, .int s0), (0, .ref (A 0)), (1, .int x1), (2, .int x2)]) hx hb dX8_wanted_67 hl (k := 4) rfl (by rw [e9]; rfl) (by decide) rfl (fun ls hl => ?_)
  clear e9
  refine lv_goto (tgt := 21) hx hb dX8_wanted_70 (by decide) ?_
  exact hK21 _ _ _ hf _ _ _ hs (lv_sub hl [2, 3, 4, 1, 0] rfl)
def f_X8_wanted_53 (K21 : Int32 → Int32 → Int32 → Option (Int32)) (x1 : Int32) (σ : cb_St) (x3 : Int32) (x4 : Int32) (x5 : Int32) (s0 : Int32) : Option (Int32) := if x3 ≤ x5 then (f_X8_wanted_66 K21 x1 σ s0 x4 x3) else (f_X8_wanted_66 K21 x1 σ s0 x4 x5)
set_option maxHeartbeats 4000000 in
set_option maxRecDepth 100000 in
theorem w_X8_wanted_53 (C : cb_C p s m args meth c cX8_wanted 6 (some .int) RX8 D T) {K21 : Int32 → Int32 → Int32 → Option (Int32)} {x1 : Int32} {σ : cb_St} {o : Int32} (hK21 : ∀ (x2 : Int32) (x3 : Int32) (x4 : Int32), K21 x2 x3 x4 = some o → ∀ (H : Heap) (locs : List Loc) (ls : Array Slot), cb_H shM A T D σ s.heap H locs → lv_has ls 6 [(0, .ref (A 0)), (1, .int x1), (2, .int x2), (3, .int x3), (4, .int x4)] → cb_W p l e 5 s m args below meth c shM A T D (some (.int o)) σ H locs (F0 m 21 ls [])) {x3 : Int32} {x4 : Int32} {x5 : Int32} {s0 : Int32} (hf : f_X8_wanted_53 K21 x1 σ x3 x4 x5 s0 = some o) {H : Heap} {locs : List Loc} {ls : Array Slot} (hs : cb_H shM A T D σ s.heap H locs) (hl : lv_has ls 6 [(0, .ref (A 0)), (1, .int x1), (3, .int x3), (4, .int x4), (5, .int x5)]) : cb_W p l e 5 s m args below meth c shM A T D (some (.int o)) σ H locs (F0 m 53 ls [.int s0]) := by
  obtain ⟨hx, hb, hml, hr, hown, hts, hK, hlk, hN⟩ := id C
  unfold f_X8_wanted_53 at hf
  refine lv_istore_n (lv' := [(2, .int s0), (0, .ref (A 0)), (1, .int x1), (3, .int x3), (4, .int x4), (5, .int x5)]) hx hb dX8_wanted_53 rfl hl (by decide) rfl (fun ls hl => ?_)
  refine lv_iload hx hb dX8_wanted_54 (lv_at hl 5 rfl) ?_
  refine lv_iload_n hx hb dX8_wanted_56 rfl (lv_at hl 3 rfl) ?_
  refine lv_icmp_ge (tgt := 65) hx hb dX8_wanted_57 (by decide) (fun cn => ?_) (fun cn => ?_)
  · replace hf := cb_ifp cn hf
    refine lv_iload_n hx hb dX8_wanted_65 rfl (lv_at hl 3 rfl) ?_
    exact w_X8_wanted_66 C hK21 hf hs (lv_sub hl [1, 2, 0, 4] rfl)
  · replace hf := cb_ifn cn hf
    refine lv_iload hx hb dX8_wanted_60 (lv_at hl 5 rfl) ?_
    refine lv_goto (tgt := 66) hx hb dX8_wanted_62 (by decide) ?_
    exact w_X8_wanted_66 C hK21 hf hs (lv_sub hl [1, 2, 0, 4] rfl)
def f_X8_wanted_21 (x1 : Int32) (σ : cb_St) : Nat → Int32 → Int32 → Int32 → Option (Int32)
  | 0, _, _, _ => none
  | fu + 1, x2, x3, x4 => if (σ.1 0 7) ≤ x4 then (if x2 < 0 then (f_X8_wanted_81 x1 σ x2) else (if x1 = 0 then (f_X8_wanted_81 x1 σ x2) else (some (((σ.1 0 7) - 1) - x3)))) else (cb_bp (f_X8_beatenBy x4 σ) (fun r_1 => cb_bp (f_X8_bits r_1 σ) (fun r_2 => if x3 ≤ r_2 then (f_X8_wanted_53 (f_X8_wanted_21 x1 σ fu) x1 σ x3 x4 r_2 x2) else (f_X8_wanted_53 (f_X8_wanted_21 x1 σ fu) x1 σ x3 x4 r_2 x4))))
set_option maxHeartbeats 4000000 in
set_option maxRecDepth 100000 in
theorem w_X8_wanted_21 (C : cb_C p s m args meth c cX8_wanted 6 (some .int) RX8 D T) {x1 : Int32} {σ : cb_St} {o : Int32}  : ∀ (fu : Nat) (x2 : Int32) (x3 : Int32) (x4 : Int32), f_X8_wanted_21 x1 σ fu x2 x3 x4 = some o → ∀ (H : Heap) (locs : List Loc) (ls : Array Slot), cb_H shM A T D σ s.heap H locs → lv_has ls 6 [(0, .ref (A 0)), (1, .int x1), (2, .int x2), (3, .int x3), (4, .int x4)] → cb_W p l e 5 s m args below meth c shM A T D (some (.int o)) σ H locs (F0 m 21 ls []) := by
  obtain ⟨hx, hb, hml, hr, hown, hts, hK, hlk, hN⟩ := id C
  intro fu
  induction fu with
  | zero =>
    intro x2 x3 x4 hf
    rw [f_X8_wanted_21] at hf
    cases hf
  | succ fu ih =>
    intro x2 x3 x4 hf H locs ls hs hl
    rw [f_X8_wanted_21] at hf
    refine lv_iload hx hb dX8_wanted_21 (lv_at hl 4 rfl) ?_
    refine lv_aload_n hx hb dX8_wanted_23 rfl (lv_at hl 0 rfl) ?_
    refine gf_X8_75 C hs rfl dX8_wanted_24 ?_
    refine lv_icmp_ge (tgt := 73) hx hb dX8_wanted_27 (by decide) (fun cn => ?_) (fun cn => ?_)
    · replace hf := cb_ifp cn hf
      refine lv_iload_n hx hb dX8_wanted_73 rfl (lv_at hl 2 rfl) ?_
      refine lv_if_lt (tgt := 81) hx hb dX8_wanted_74 (by decide) (fun cn => ?_) (fun cn => ?_)
      · replace hf := cb_ifp cn hf
        exact w_X8_wanted_81 C  hf hs (lv_sub hl [0, 1, 2] rfl)
      · replace hf := cb_ifn cn hf
        refine lv_iload_n hx hb dX8_wanted_77 rfl (lv_at hl 1 rfl) ?_
        refine lv_if_ne (tgt := 85) hx hb dX8_wanted_78 (by decide) (fun cn => ?_) (fun cn => ?_)
        · replace hf := cb_ifn cn hf
          refine lv_aload_n hx hb dX8_wanted_85 rfl (lv_at hl 0 rfl) ?_
          refine gf_X8_75 C hs rfl dX8_wanted_86 ?_
          refine lv_iconst (v := 1) hx hb dX8_wanted_89 (by decide) ?_
          refine lv_isub hx hb dX8_wanted_90 ?_
          refine lv_iload_n hx hb dX8_wanted_91 rfl (lv_at hl 3 rfl) ?_
          refine lv_isub hx hb dX8_wanted_92 ?_
          have hf := Option.some.inj hf
          subst hf
          exact cb_reti C hs dX8_wanted_93
        · replace hf := cb_ifp cn hf
          exact w_X8_wanted_81 C  hf hs (lv_sub hl [0, 1, 2] rfl)
    · replace hf := cb_ifn cn hf
      refine lv_aload_n hx hb dX8_wanted_30 rfl (lv_at hl 0 rfl) ?_
      refine lv_iload hx hb dX8_wanted_31 (lv_at hl 4 rfl) ?_
      obtain ⟨r_1, hc, hf⟩ := cb_bp_inv hf
      refine cb_callVi C (c_X8_beatenBy  hc) mw_X8_beatenBy ml_X8_180 rfl ⟨Nat.le_of_ble_eq_true rfl, Nat.le_of_ble_eq_true rfl⟩ rfl (Nat.le_of_ble_eq_true rfl) rfl hs hl rfl (Nat.le_of_ble_eq_true rfl) dX8_wanted_33 (fun H locs hs => ?_)
      clear hc
      obtain ⟨r_2, hc, hf⟩ := cb_bp_inv hf
      refine cb_callSi C (c_X8_bits  hc) mw_X8_bits ml_X8_184 rfl ⟨Nat.le_of_ble_eq_true rfl, Nat.le_of_ble_eq_true rfl⟩ hs hl rfl (Nat.le_of_ble_eq_true rfl) dX8_wanted_36 (fun H locs hs => ?_)
      clear hc
      refine lv_istore (lv' := [(5, .int r_2), (0, .ref (A 0)), (1, .int x1), (2, .int x2), (3, .int x3), (4, .int x4)]) hx hb dX8_wanted_39 hl (by decide) rfl (fun ls hl => ?_)
      refine lv_iload hx hb dX8_wanted_41 (lv_at hl 0 rfl) ?_
      refine lv_iload_n hx hb dX8_wanted_43 rfl (lv_at hl 4 rfl) ?_
      refine lv_icmp_ge (tgt := 52) hx hb dX8_wanted_44 (by decide) (fun cn => ?_) (fun cn => ?_)
      · replace hf := cb_ifp cn hf
        refine lv_iload_n hx hb dX8_wanted_52 rfl (lv_at hl 3 rfl) ?_
        exact w_X8_wanted_53 C ih hf hs (lv_sub hl [1, 2, 4, 5, 0] rfl)
      · replace hf := cb_ifn cn hf
        refine lv_iload hx hb dX8_wanted_47 (lv_at hl 5 rfl) ?_
        refine lv_goto (tgt := 53) hx hb dX8_wanted_49 (by decide) ?_
        exact w_X8_wanted_53 C ih hf hs (lv_sub hl [1, 2, 4, 5, 0] rfl)
def f_X8_wanted (x1 : Int32) (σ : cb_St)  : Option (Int32) := cb_bp (f_X8_in (Int32.toInt64 x1) 0 1 σ) (fun r_1 => if r_1 = 0 then (some (-1000000002)) else (f_X8_wanted_21 x1 σ cb_fu (-1) 99 0))
set_option maxHeartbeats 4000000 in
set_option maxRecDepth 100000 in
theorem c_X8_wanted {x1 : Int32} {σ : cb_St}   {o : Int32} (hf : f_X8_wanted x1 σ = some o) : cb_M l yX8_wanted cX8_wanted 6 (some .int) 5 shM A T D σ [.ref (A 0), .int x1] (some (.int o)) σ := by
  refine cb_met (by decide +kernel) (Nat.le_of_ble_eq_true rfl) ?_
  intro p e s m below meth c C hs ls hl
  have hl : lv_has ls 6 [(0, .ref (A 0)), (1, .int x1)] := hl
  obtain ⟨hx, hb, hml, hr, hown, hts, hK, hlk, hN⟩ := id C
  unfold f_X8_wanted at hf
  refine lv_iload_n hx hb dX8_wanted_0 rfl (lv_at hl 1 rfl) ?_
  refine lv_i2l hx hb dX8_wanted_1 rfl ?_
  refine lv_lconst (v := 0) hx hb dX8_wanted_2 (by decide) ?_
  refine lv_lconst (v := 1) hx hb dX8_wanted_3 (by decide) ?_
  obtain ⟨r_1, hc, hf⟩ := cb_bp_inv hf
  refine cb_callSi C (c_X8_in  hc) mw_X8_in ml_X8_78 rfl ⟨Nat.le_of_ble_eq_true rfl, Nat.le_of_ble_eq_true rfl⟩ hs hl rfl (Nat.le_of_ble_eq_true rfl) dX8_wanted_4 (fun H locs hs => ?_)
  clear hc
  refine lv_if_ne (tgt := 13) hx hb dX8_wanted_7 (by decide) (fun cn => ?_) (fun cn => ?_)
  · replace hf := cb_ifn cn hf
    refine lv_iconst (v := (-1)) hx hb dX8_wanted_13 (by decide) ?_
    refine lv_istore_n (lv' := [(2, .int (-1)), (0, .ref (A 0)), (1, .int x1)]) hx hb dX8_wanted_14 rfl hl (by decide) rfl (fun ls hl => ?_)
    refine lv_bipush (v := 99) hx hb dX8_wanted_15 (by decide) ?_
    refine lv_istore_n (lv' := [(3, .int 99), (2, .int (-1)), (0, .ref (A 0)), (1, .int x1)]) hx hb dX8_wanted_17 rfl hl (by decide) rfl (fun ls hl => ?_)
    refine lv_iconst (v := 0) hx hb dX8_wanted_18 (by decide) ?_
    refine lv_istore (lv' := [(4, .int 0), (3, .int 99), (2, .int (-1)), (0, .ref (A 0)), (1, .int x1)]) hx hb dX8_wanted_19 hl (by decide) rfl (fun ls hl => ?_)
    exact w_X8_wanted_21 C  cb_fu _ _ _ hf _ _ _ hs (lv_sub hl [3, 4, 2, 1, 0] rfl)
  · replace hf := cb_ifp cn hf
    refine lv_ldc (v := (-1000000002)) hx hb hown (hts _ kc_X8_91) dX8_wanted_10 ?_
    have hf := Option.some.inj hf
    subst hf
    exact cb_reti C hs dX8_wanted_12
/-! ===== CardBecomeModel.write ===== -/
def f_X8_write_24 (x1 : Int32) (x2 : Int32) (σ : cb_St) : Option (Int32 × cb_St) := if (σ.1 0 35) = 15 then (some ((-1000000004), σ)) else (cb_ck (0 ≤ Int32.toInt (σ.1 0 35) ∧ Int32.toInt (σ.1 0 35) < 15) (cb_let (cb_sI σ 17 (Int32.toNatClampNeg (σ.1 0 35)) x1) (fun σ_1 => cb_ck (0 ≤ Int32.toInt (σ_1.1 0 35) ∧ Int32.toInt (σ_1.1 0 35) < 15) (cb_let (cb_sI σ_1 18 (Int32.toNatClampNeg (σ_1.1 0 35)) x2) (fun σ_2 => cb_let (cb_sI σ_2 0 35 ((σ_2.1 0 35) + 1)) (fun σ_3 => some (σ_3.1 0 35, σ_3)))))))
set_option maxHeartbeats 4000000 in
set_option maxRecDepth 100000 in
theorem w_X8_write_24 (C : cb_C p s m args meth c cX8_write 3 (some .int) RX8 D T) {x1 : Int32} {x2 : Int32} {o : Int32 × cb_St}  {σ : cb_St} (hf : f_X8_write_24 x1 x2 σ = some o) {H : Heap} {locs : List Loc} {ls : Array Slot} (hs : cb_H shM A T D σ s.heap H locs) (hl : lv_has ls 3 [(0, .ref (A 0)), (1, .int x1), (2, .int x2)]) : cb_W p l e 3 s m args below meth c shM A T D (some (.int o.1)) o.2 H locs (F0 m 24 ls []) := by
  obtain ⟨hx, hb, hml, hr, hown, hts, hK, hlk, hN⟩ := id C
  unfold f_X8_write_24 at hf
  refine lv_aload_n hx hb dX8_write_24 rfl (lv_at hl 0 rfl) ?_
  refine gf_X8_164 C hs rfl dX8_write_25 ?_
  refine lv_bipush (v := 15) hx hb dX8_write_28 (by decide) ?_
  refine lv_icmp_ne (tgt := 36) hx hb dX8_write_30 (by decide) (fun cn => ?_) (fun cn => ?_)
  · replace hf := cb_ifn cn hf
    refine lv_aload_n hx hb dX8_write_36 rfl (lv_at hl 0 rfl) ?_
    refine gf_X8_62 C hs rfl dX8_write_37 ?_
    refine lv_aload_n hx hb dX8_write_40 rfl (lv_at hl 0 rfl) ?_
    refine gf_X8_164 C hs rfl dX8_write_41 ?_
    refine lv_iload_n hx hb dX8_write_44 rfl (lv_at hl 1 rfl) ?_
    obtain ⟨hc, hf⟩ := cb_ck_inv hf
    refine cb_iast C hs rfl (vp_in_iff.mpr hc) dX8_write_45 (fun H locs hs => ?_)
    obtain ⟨σ_1, e9, hf⟩ := cb_let_inv hf
    replace hs := cb_Hc e9 hs
    clear e9
    refine lv_aload_n hx hb dX8_write_46 rfl (lv_at hl 0 rfl) ?_
    refine gf_X8_65 C hs rfl dX8_write_47 ?_
    refine lv_aload_n hx hb dX8_write_50 rfl (lv_at hl 0 rfl) ?_
    refine gf_X8_164 C hs rfl dX8_write_51 ?_
    refine lv_iload_n hx hb dX8_write_54 rfl (lv_at hl 2 rfl) ?_
    obtain ⟨hc, hf⟩ := cb_ck_inv hf
    refine cb_iast C hs rfl (vp_in_iff.mpr hc) dX8_write_55 (fun H locs hs => ?_)
    obtain ⟨σ_2, e9, hf⟩ := cb_let_inv hf
    replace hs := cb_Hc e9 hs
    clear e9
    refine lv_aload_n hx hb dX8_write_56 rfl (lv_at hl 0 rfl) ?_
    refine lv_dup hx hb dX8_write_57 rfl ?_
    refine gf_X8_164 C hs rfl dX8_write_58 ?_
    refine lv_iconst (v := 1) hx hb dX8_write_61 (by decide) ?_
    refine lv_iadd hx hb dX8_write_62 ?_
    refine pf_X8_164 C hs rfl dX8_write_63 (fun H locs hs => ?_)
    obtain ⟨σ_3, e9, hf⟩ := cb_let_inv hf
    replace hs := cb_Hc e9 hs
    clear e9
    refine lv_aload_n hx hb dX8_write_66 rfl (lv_at hl 0 rfl) ?_
    refine gf_X8_164 C hs rfl dX8_write_67 ?_
    have hf := Option.some.inj hf
    subst hf
    exact cb_reti C hs dX8_write_70
  · replace hf := cb_ifp cn hf
    refine lv_ldc (v := (-1000000004)) hx hb hown (hts _ kc_X8_95) dX8_write_33 ?_
    have hf := Option.some.inj hf
    subst hf
    exact cb_reti C hs dX8_write_35
def f_X8_write_21 (x1 : Int32) (x2 : Int32) (σ : cb_St) : Option (Int32 × cb_St) := some ((-1000000001), σ)
set_option maxHeartbeats 4000000 in
set_option maxRecDepth 100000 in
theorem w_X8_write_21 (C : cb_C p s m args meth c cX8_write 3 (some .int) RX8 D T) {x1 : Int32} {x2 : Int32} {o : Int32 × cb_St}  {σ : cb_St} (hf : f_X8_write_21 x1 x2 σ = some o) {H : Heap} {locs : List Loc} {ls : Array Slot} (hs : cb_H shM A T D σ s.heap H locs) (hl : lv_has ls 3 [(0, .ref (A 0)), (1, .int x1), (2, .int x2)]) : cb_W p l e 3 s m args below meth c shM A T D (some (.int o.1)) o.2 H locs (F0 m 21 ls []) := by
  obtain ⟨hx, hb, hml, hr, hown, hts, hK, hlk, hN⟩ := id C
  unfold f_X8_write_21 at hf
  refine lv_ldc (v := (-1000000001)) hx hb hown (hts _ kc_X8_209) dX8_write_21 ?_
  have hf := Option.some.inj hf
  subst hf
  exact cb_reti C hs dX8_write_23
def f_X8_write (x1 : Int32) (x2 : Int32) (σ : cb_St) : Option (Int32 × cb_St) := cb_bp (f_X8_isPerson x1 σ) (fun r_1 => if r_1 = 0 then (f_X8_write_21 x1 x2 σ) else (if x2 = (-1) then (f_X8_write_24 x1 x2 σ) else (cb_bp (f_X8_isCard x2 σ) (fun r_2 => if r_2 = 0 then (f_X8_write_21 x1 x2 σ) else (f_X8_write_24 x1 x2 σ)))))
set_option maxHeartbeats 4000000 in
set_option maxRecDepth 100000 in
theorem c_X8_write {x1 : Int32} {x2 : Int32}  {σ : cb_St} {o : Int32 × cb_St} (hf : f_X8_write x1 x2 σ = some o) : cb_M l yX8_write cX8_write 3 (some .int) 3 shM A T D σ [.ref (A 0), .int x1, .int x2] (some (.int o.1)) o.2 := by
  refine cb_met (by decide +kernel) (Nat.le_of_ble_eq_true rfl) ?_
  intro p e s m below meth c C hs ls hl
  have hl : lv_has ls 3 [(0, .ref (A 0)), (1, .int x1), (2, .int x2)] := hl
  obtain ⟨hx, hb, hml, hr, hown, hts, hK, hlk, hN⟩ := id C
  unfold f_X8_write at hf
  refine lv_aload_n hx hb dX8_write_0 rfl (lv_at hl 0 rfl) ?_
  refine lv_iload_n hx hb dX8_write_1 rfl (lv_at hl 1 rfl) ?_
  obtain ⟨r_1, hc, hf⟩ := cb_bp_inv hf
  refine cb_callVi C (c_X8_isPerson  hc) mw_X8_isPerson ml_X8_82 rfl ⟨Nat.le_of_ble_eq_true rfl, Nat.le_of_ble_eq_true rfl⟩ rfl (Nat.le_of_ble_eq_true rfl) rfl hs hl rfl (Nat.le_of_ble_eq_true rfl) dX8_write_2 (fun H locs hs => ?_)
  clear hc
  refine lv_if_eq (tgt := 21) hx hb dX8_write_5 (by decide) (fun cn => ?_) (fun cn => ?_)
  · replace hf := cb_ifp cn hf
    exact w_X8_write_21 C  hf hs (lv_sub hl [0, 1, 2] rfl)
  · replace hf := cb_ifn cn hf
    refine lv_iload_n hx hb dX8_write_8 rfl (lv_at hl 2 rfl) ?_
    refine lv_iconst (v := (-1)) hx hb dX8_write_9 (by decide) ?_
    refine lv_icmp_eq (tgt := 24) hx hb dX8_write_10 (by decide) (fun cn => ?_) (fun cn => ?_)
    · replace hf := cb_ifp cn hf
      exact w_X8_write_24 C  hf hs (lv_sub hl [0, 1, 2] rfl)
    · replace hf := cb_ifn cn hf
      refine lv_aload_n hx hb dX8_write_13 rfl (lv_at hl 0 rfl) ?_
      refine lv_iload_n hx hb dX8_write_14 rfl (lv_at hl 2 rfl) ?_
      obtain ⟨r_2, hc, hf⟩ := cb_bp_inv hf
      refine cb_callVi C (c_X8_isCard  hc) mw_X8_isCard ml_X8_206 rfl ⟨Nat.le_of_ble_eq_true rfl, Nat.le_of_ble_eq_true rfl⟩ rfl (Nat.le_of_ble_eq_true rfl) rfl hs hl rfl (Nat.le_of_ble_eq_true rfl) dX8_write_15 (fun H locs hs => ?_)
      clear hc
      refine lv_if_ne (tgt := 24) hx hb dX8_write_18 (by decide) (fun cn => ?_) (fun cn => ?_)
      · replace hf := cb_ifn cn hf
        exact w_X8_write_24 C  hf hs (lv_sub hl [0, 1, 2] rfl)
      · replace hf := cb_ifp cn hf
        exact w_X8_write_21 C  hf hs (lv_sub hl [0, 1, 2] rfl)
end
