section
variable {p : Program} {l : Launch} {e : Env} {s : State} {m : MethodId} {args : Array Value} {below : List Frame} {meth : Method} {c : Code} {A : Nat → Nat} {T : Nat → ClassId} {D : va_G}
/-! ===== CardBecome.isRing ===== -/
def f_X7_isRing_31 (x1 : Int32) (x2 : Int32) (x3 : Int32) (σ : cb_St)  : Option (Int32) := some 0
set_option maxHeartbeats 4000000 in
set_option maxRecDepth 100000 in
theorem w_X7_isRing_31 (C : cb_C p s m args meth c cX7_isRing 4 (some .boolean) RX7 D T) {x1 : Int32} {x2 : Int32} {x3 : Int32} {σ : cb_St} {o : Int32}   (hf : f_X7_isRing_31 x1 x2 x3 σ = some o) {H : Heap} {locs : List Loc} {ls : Array Slot} (hs : cb_H shC A T D σ s.heap H locs) (hl : lv_has ls 4 [(0, .ref (A 0)), (1, .int x1), (2, .int x2), (3, .int x3)]) : cb_W p l e 4 s m args below meth c shC A T D (some (.int o)) σ H locs (F0 m 31 ls []) := by
  obtain ⟨hx, hb, hml, hr, hown, hts, hK, hlk, hN⟩ := id C
  unfold f_X7_isRing_31 at hf
  refine lv_iconst (v := 0) hx hb dX7_isRing_31 (by decide) ?_
  have hf := Option.some.inj hf
  subst hf
  exact cb_retz C hs (Or.inl rfl) dX7_isRing_32
def f_X7_isRing (x1 : Int32) (x2 : Int32) (x3 : Int32) (σ : cb_St)  : Option (Int32) := cb_bp (f_X7_winsOver x1 x2 σ) (fun r_1 => if r_1 = 0 then (f_X7_isRing_31 x1 x2 x3 σ) else (cb_bp (f_X7_winsOver x2 x3 σ) (fun r_2 => if r_2 = 0 then (f_X7_isRing_31 x1 x2 x3 σ) else (cb_bp (f_X7_winsOver x3 x1 σ) (fun r_3 => if r_3 = 0 then (f_X7_isRing_31 x1 x2 x3 σ) else (some 1))))))
set_option maxHeartbeats 4000000 in
set_option maxRecDepth 100000 in
theorem c_X7_isRing {x1 : Int32} {x2 : Int32} {x3 : Int32} {σ : cb_St}   {o : Int32} (hf : f_X7_isRing x1 x2 x3 σ = some o) : cb_M l yX7_isRing cX7_isRing 4 (some .boolean) 4 shC A T D σ [.ref (A 0), .int x1, .int x2, .int x3] (some (.int o)) σ := by
  refine cb_met (by decide +kernel) (Nat.le_of_ble_eq_true rfl) ?_
  intro p e s m below meth c C hs ls hl
  have hl : lv_has ls 4 [(0, .ref (A 0)), (1, .int x1), (2, .int x2), (3, .int x3)] := hl
  obtain ⟨hx, hb, hml, hr, hown, hts, hK, hlk, hN⟩ := id C
  unfold f_X7_isRing at hf
  refine lv_aload_n hx hb dX7_isRing_0 rfl (lv_at hl 0 rfl) ?_
  refine lv_iload_n hx hb dX7_isRing_1 rfl (lv_at hl 1 rfl) ?_
  refine lv_iload_n hx hb dX7_isRing_2 rfl (lv_at hl 2 rfl) ?_
  obtain ⟨r_1, hc, hf⟩ := cb_bp_inv hf
  refine cb_callVi C (c_X7_winsOver  hc) mw_X7_winsOver ml_X7_273 rfl ⟨Nat.le_of_ble_eq_true rfl, Nat.le_of_ble_eq_true rfl⟩ rfl (Nat.le_of_ble_eq_true rfl) rfl hs hl rfl (Nat.le_of_ble_eq_true rfl) dX7_isRing_3 (fun H locs hs => ?_)
  clear hc
  refine lv_if_eq (tgt := 31) hx hb dX7_isRing_6 (by decide) (fun cn => ?_) (fun cn => ?_)
  · replace hf := cb_ifp cn hf
    exact w_X7_isRing_31 C  hf hs (lv_sub hl [0, 1, 2, 3] rfl)
  · replace hf := cb_ifn cn hf
    refine lv_aload_n hx hb dX7_isRing_9 rfl (lv_at hl 0 rfl) ?_
    refine lv_iload_n hx hb dX7_isRing_10 rfl (lv_at hl 2 rfl) ?_
    refine lv_iload_n hx hb dX7_isRing_11 rfl (lv_at hl 3 rfl) ?_
    obtain ⟨r_2, hc, hf⟩ := cb_bp_inv hf
    refine cb_callVi C (c_X7_winsOver  hc) mw_X7_winsOver ml_X7_273 rfl ⟨Nat.le_of_ble_eq_true rfl, Nat.le_of_ble_eq_true rfl⟩ rfl (Nat.le_of_ble_eq_true rfl) rfl hs hl rfl (Nat.le_of_ble_eq_true rfl) dX7_isRing_12 (fun H locs hs => ?_)
    clear hc
    refine lv_if_eq (tgt := 31) hx hb dX7_isRing_15 (by decide) (fun cn => ?_) (fun cn => ?_)
    · replace hf := cb_ifp cn hf
      exact w_X7_isRing_31 C  hf hs (lv_sub hl [0, 1, 2, 3] rfl)
    · replace hf := cb_ifn cn hf
      refine lv_aload_n hx hb dX7_isRing_18 rfl (lv_at hl 0 rfl) ?_
      refine lv_iload_n hx hb dX7_isRing_19 rfl (lv_at hl 3 rfl) ?_
      refine lv_iload_n hx hb dX7_isRing_20 rfl (lv_at hl 1 rfl) ?_
      obtain ⟨r_3, hc, hf⟩ := cb_bp_inv hf
      refine cb_callVi C (c_X7_winsOver  hc) mw_X7_winsOver ml_X7_273 rfl ⟨Nat.le_of_ble_eq_true rfl, Nat.le_of_ble_eq_true rfl⟩ rfl (Nat.le_of_ble_eq_true rfl) rfl hs hl rfl (Nat.le_of_ble_eq_true rfl) dX7_isRing_21 (fun H locs hs => ?_)
      clear hc
      refine lv_if_eq (tgt := 31) hx hb dX7_isRing_24 (by decide) (fun cn => ?_) (fun cn => ?_)
      · replace hf := cb_ifp cn hf
        exact w_X7_isRing_31 C  hf hs (lv_sub hl [0, 1, 2, 3] rfl)
      · replace hf := cb_ifn cn hf
        refine lv_iconst (v := 1) hx hb dX7_isRing_27 (by decide) ?_
        refine lv_goto (tgt := 32) hx hb dX7_isRing_28 (by decide) ?_
        have hf := Option.some.inj hf
        subst hf
        exact cb_retz C hs (Or.inr rfl) dX7_isRing_32
/-! ===== CardBecome.judge ===== -/
def f_X7_judge_2 (σ : cb_St) : Nat → Int32 → Option (Int32)
  | 0, _ => none
  | fu + 1, x1 => if (σ.1 100 1) ≤ x1 then (some (-1)) else (cb_bp (f_X2_writtenPerson x1 σ) (fun r_1 => cb_bp (f_X4_cardOf 13 r_1 σ) (fun r_2 => cb_bp (f_X2_writtenCard x1 σ) (fun r_3 => if r_2 = r_3 then (cb_let (x1 + 1) (fun x1_3 => f_X7_judge_2 σ fu x1_3)) else (some x1)))))
set_option maxHeartbeats 4000000 in
set_option maxRecDepth 100000 in
theorem w_X7_judge_2 (C : cb_C p s m args meth c cX7_judge 2 (some .int) RX7 D T) {σ : cb_St} {o : Int32}  : ∀ (fu : Nat) (x1 : Int32), f_X7_judge_2 σ fu x1 = some o → ∀ (H : Heap) (locs : List Loc) (ls : Array Slot), cb_H shC A T D σ s.heap H locs → lv_has ls 2 [(0, .ref (A 0)), (1, .int x1)] → cb_W p l e 3 s m args below meth c shC A T D (some (.int o)) σ H locs (F0 m 2 ls []) := by
  obtain ⟨hx, hb, hml, hr, hown, hts, hK, hlk, hN⟩ := id C
  intro fu
  induction fu with
  | zero =>
    intro x1 hf
    rw [f_X7_judge_2] at hf
    cases hf
  | succ fu ih =>
    intro x1 hf H locs ls hs hl
    rw [f_X7_judge_2] at hf
    refine lv_iload_n hx hb dX7_judge_2 rfl (lv_at hl 1 rfl) ?_
    refine lv_aload_n hx hb dX7_judge_3 rfl (lv_at hl 0 rfl) ?_
    refine gf_X7_47 C hs rfl dX7_judge_4 ?_
    refine gf_X7_142 C hs rfl dX7_judge_7 ?_
    refine lv_icmp_ge (tgt := 47) hx hb dX7_judge_10 (by decide) (fun cn => ?_) (fun cn => ?_)
    · replace hf := cb_ifp cn hf
      refine lv_iconst (v := (-1)) hx hb dX7_judge_47 (by decide) ?_
      have hf := Option.some.inj hf
      subst hf
      exact cb_reti C hs dX7_judge_48
    · replace hf := cb_ifn cn hf
      refine lv_aload_n hx hb dX7_judge_13 rfl (lv_at hl 0 rfl) ?_
      refine gf_X7_33 C hs rfl dX7_judge_14 ?_
      refine lv_aload_n hx hb dX7_judge_17 rfl (lv_at hl 0 rfl) ?_
      refine gf_X7_47 C hs rfl dX7_judge_18 ?_
      refine lv_iload_n hx hb dX7_judge_21 rfl (lv_at hl 1 rfl) ?_
      obtain ⟨r_1, hc, hf⟩ := cb_bp_inv hf
      refine cb_callVi C (c_X2_writtenPerson  hc) mw_X2_writtenPerson ml_X7_298 rfl ⟨Nat.le_of_ble_eq_true rfl, Nat.le_of_ble_eq_true rfl⟩ rfl (Nat.le_of_ble_eq_true rfl) rfl hs hl rfl (Nat.le_of_ble_eq_true rfl) dX7_judge_22 (fun H locs hs => ?_)
      clear hc
      obtain ⟨r_2, hc, hf⟩ := cb_bp_inv hf
      refine cb_callVi C (c_X4_cardOf cb_pl13 hc) mw_X4_cardOf ml_X7_170 rfl ⟨Nat.le_of_ble_eq_true rfl, Nat.le_of_ble_eq_true rfl⟩ cb_pl13.1 (Nat.le_of_ble_eq_true rfl) rfl hs hl rfl (Nat.le_of_ble_eq_true rfl) dX7_judge_25 (fun H locs hs => ?_)
      clear hc
      refine lv_aload_n hx hb dX7_judge_28 rfl (lv_at hl 0 rfl) ?_
      refine gf_X7_47 C hs rfl dX7_judge_29 ?_
      refine lv_iload_n hx hb dX7_judge_32 rfl (lv_at hl 1 rfl) ?_
      obtain ⟨r_3, hc, hf⟩ := cb_bp_inv hf
      refine cb_callVi C (c_X2_writtenCard  hc) mw_X2_writtenCard ml_X7_301 rfl ⟨Nat.le_of_ble_eq_true rfl, Nat.le_of_ble_eq_true rfl⟩ rfl (Nat.le_of_ble_eq_true rfl) rfl hs hl rfl (Nat.le_of_ble_eq_true rfl) dX7_judge_33 (fun H locs hs => ?_)
      clear hc
      refine lv_icmp_eq (tgt := 41) hx hb dX7_judge_36 (by decide) (fun cn => ?_) (fun cn => ?_)
      · replace hf := cb_ifp cn hf
        obtain ⟨x1_3, e9, hf⟩ := cb_let_inv hf
        refine lv_iinc (v := x1_3) (lv' := [(1, .int x1_3), (0, .ref (A 0))]) hx hb dX7_judge_41 hl (k := 1) rfl (by rw [e9]; rfl) (by decide) rfl (fun ls hl => ?_)
        clear e9
        refine lv_goto (tgt := 2) hx hb dX7_judge_44 (by decide) ?_
        exact ih _ hf _ _ _ hs (lv_sub hl [1, 0] rfl)
      · replace hf := cb_ifn cn hf
        refine lv_iload_n hx hb dX7_judge_39 rfl (lv_at hl 1 rfl) ?_
        have hf := Option.some.inj hf
        subst hf
        exact cb_reti C hs dX7_judge_40
def f_X7_judge (σ : cb_St)  : Option (Int32) := f_X7_judge_2 σ cb_fu 0
set_option maxHeartbeats 4000000 in
set_option maxRecDepth 100000 in
theorem c_X7_judge {σ : cb_St}   {o : Int32} (hf : f_X7_judge σ = some o) : cb_M l yX7_judge cX7_judge 2 (some .int) 3 shC A T D σ [.ref (A 0)] (some (.int o)) σ := by
  refine cb_met (by decide +kernel) (Nat.le_of_ble_eq_true rfl) ?_
  intro p e s m below meth c C hs ls hl
  have hl : lv_has ls 2 [(0, .ref (A 0))] := hl
  obtain ⟨hx, hb, hml, hr, hown, hts, hK, hlk, hN⟩ := id C
  unfold f_X7_judge at hf
  refine lv_iconst (v := 0) hx hb dX7_judge_0 (by decide) ?_
  refine lv_istore_n (lv' := [(1, .int 0), (0, .ref (A 0))]) hx hb dX7_judge_1 rfl hl (by decide) rfl (fun ls hl => ?_)
  exact w_X7_judge_2 C  cb_fu _ hf _ _ _ hs (lv_sub hl [1, 0] rfl)
/-! ===== CardBecome.keep ===== -/
def f_X7_keep_9 (x1 : Int32) (σ : cb_St) : Option (Int32 × cb_St) := some ((-1000000001), σ)
set_option maxHeartbeats 4000000 in
set_option maxRecDepth 100000 in
theorem w_X7_keep_9 (C : cb_C p s m args meth c cX7_keep 2 (some .int) RX7 D T) {x1 : Int32} {o : Int32 × cb_St}  {σ : cb_St} (hf : f_X7_keep_9 x1 σ = some o) {H : Heap} {locs : List Loc} {ls : Array Slot} (hs : cb_H shC A T D σ s.heap H locs) (hl : lv_has ls 2 [(0, .ref (A 0)), (1, .int x1)]) : cb_W p l e 2 s m args below meth c shC A T D (some (.int o.1)) o.2 H locs (F0 m 9 ls []) := by
  obtain ⟨hx, hb, hml, hr, hown, hts, hK, hlk, hN⟩ := id C
  unfold f_X7_keep_9 at hf
  refine lv_ldc (v := (-1000000001)) hx hb hown (hts _ kc_X7_150) dX7_keep_9 ?_
  have hf := Option.some.inj hf
  subst hf
  exact cb_reti C hs dX7_keep_11
def f_X7_keep (x1 : Int32) (σ : cb_St) : Option (Int32 × cb_St) := if x1 < 0 then (f_X7_keep_9 x1 σ) else (if x1 < 2 then (cb_ck (0 ≤ Int32.toInt x1 ∧ Int32.toInt x1 < 2) (cb_bv (f_X4_become (111 + 1 + 6 * Int32.toNatClampNeg x1 + 1) 13 σ) (fun σ_2 => cb_ck (0 ≤ Int32.toInt x1 ∧ Int32.toInt x1 < 2) (cb_let (cb_sI σ_2 (111 + 1 + 6 * Int32.toNatClampNeg x1) 1 (σ_2.1 0 0)) (fun σ_4 => cb_ck (0 ≤ Int32.toInt x1 ∧ Int32.toInt x1 < 2) (cb_let (cb_sI σ_4 (111 + 1 + 6 * Int32.toNatClampNeg x1) 0 1) (fun σ_6 => cb_bv (f_X3_forget σ_6) (fun σ_7 => some (1, σ_7))))))))) else (f_X7_keep_9 x1 σ))
set_option maxHeartbeats 4000000 in
set_option maxRecDepth 100000 in
theorem c_X7_keep {x1 : Int32}  {σ : cb_St} {o : Int32 × cb_St} (hf : f_X7_keep x1 σ = some o) : cb_M l yX7_keep cX7_keep 2 (some .int) 2 shC A T D σ [.ref (A 0), .int x1] (some (.int o.1)) o.2 := by
  refine cb_met (by decide +kernel) (Nat.le_of_ble_eq_true rfl) ?_
  intro p e s m below meth c C hs ls hl
  have hl : lv_has ls 2 [(0, .ref (A 0)), (1, .int x1)] := hl
  obtain ⟨hx, hb, hml, hr, hown, hts, hK, hlk, hN⟩ := id C
  unfold f_X7_keep at hf
  refine lv_iload_n hx hb dX7_keep_0 rfl (lv_at hl 1 rfl) ?_
  refine lv_if_lt (tgt := 9) hx hb dX7_keep_1 (by decide) (fun cn => ?_) (fun cn => ?_)
  · replace hf := cb_ifp cn hf
    exact w_X7_keep_9 C  hf hs (lv_sub hl [0, 1] rfl)
  · replace hf := cb_ifn cn hf
    refine lv_iload_n hx hb dX7_keep_4 rfl (lv_at hl 1 rfl) ?_
    refine lv_iconst (v := 2) hx hb dX7_keep_5 (by decide) ?_
    refine lv_icmp_lt (tgt := 12) hx hb dX7_keep_6 (by decide) (fun cn => ?_) (fun cn => ?_)
    · replace hf := cb_ifp cn hf
      refine lv_aload_n hx hb dX7_keep_12 rfl (lv_at hl 0 rfl) ?_
      refine gf_X7_60 C hs rfl dX7_keep_13 ?_
      refine lv_iload_n hx hb dX7_keep_16 rfl (lv_at hl 1 rfl) ?_
      obtain ⟨hc, hf⟩ := cb_ck_inv hf
      refine cb_aald (w := 111 + 1 + 6 * Int32.toNatClampNeg x1) (C0 := 2) C hs rfl rfl rfl (vp_in_iff.mpr hc) rfl dX7_keep_17 ?_
      have hq_1 := cb_imI (vp_in_iff.mpr hc)
      refine gf_X7_307 C hs hq_1.1 dX7_keep_18 ?_
      refine lv_aload_n hx hb dX7_keep_21 rfl (lv_at hl 0 rfl) ?_
      refine gf_X7_33 C hs rfl dX7_keep_22 ?_
      obtain ⟨σ_2, hc, hf⟩ := cb_bv_inv hf
      refine cb_callVv C (c_X4_become hq_1.2 cb_pl13 hc) mw_X4_become ml_X7_310 rfl ⟨Nat.le_of_ble_eq_true rfl, Nat.le_of_ble_eq_true rfl⟩ hq_1.2.1 (Nat.le_of_ble_eq_true rfl) rfl hs hl rfl (Nat.le_of_ble_eq_true rfl) dX7_keep_25 (fun H locs hs => ?_)
      clear hc
      refine lv_aload_n hx hb dX7_keep_28 rfl (lv_at hl 0 rfl) ?_
      refine gf_X7_60 C hs rfl dX7_keep_29 ?_
      refine lv_iload_n hx hb dX7_keep_32 rfl (lv_at hl 1 rfl) ?_
      obtain ⟨hc, hf⟩ := cb_ck_inv hf
      refine cb_aald (w := 111 + 1 + 6 * Int32.toNatClampNeg x1) (C0 := 2) C hs rfl rfl rfl (vp_in_iff.mpr hc) rfl dX7_keep_33 ?_
      have hq_3 := cb_imI (vp_in_iff.mpr hc)
      refine lv_aload_n hx hb dX7_keep_34 rfl (lv_at hl 0 rfl) ?_
      refine gf_X7_304 C hs rfl dX7_keep_35 ?_
      refine pf_X7_312 C hs hq_3.1 dX7_keep_38 (fun H locs hs => ?_)
      obtain ⟨σ_4, e9, hf⟩ := cb_let_inv hf
      replace hs := cb_Hc e9 hs
      clear e9
      refine lv_aload_n hx hb dX7_keep_41 rfl (lv_at hl 0 rfl) ?_
      refine gf_X7_60 C hs rfl dX7_keep_42 ?_
      refine lv_iload_n hx hb dX7_keep_45 rfl (lv_at hl 1 rfl) ?_
      obtain ⟨hc, hf⟩ := cb_ck_inv hf
      refine cb_aald (w := 111 + 1 + 6 * Int32.toNatClampNeg x1) (C0 := 2) C hs rfl rfl rfl (vp_in_iff.mpr hc) rfl dX7_keep_46 ?_
      have hq_5 := cb_imI (vp_in_iff.mpr hc)
      refine lv_iconst (v := 1) hx hb dX7_keep_47 (by decide) ?_
      refine pf_X7_101 C hs hq_5.1 (Or.inr rfl) dX7_keep_48 (fun H locs hs => ?_)
      obtain ⟨σ_6, e9, hf⟩ := cb_let_inv hf
      replace hs := cb_Hc e9 hs
      clear e9
      refine lv_aload_n hx hb dX7_keep_51 rfl (lv_at hl 0 rfl) ?_
      refine gf_X7_40 C hs rfl dX7_keep_52 ?_
      obtain ⟨σ_7, hc, hf⟩ := cb_bv_inv hf
      refine cb_callVv C (c_X3_forget  hc) mw_X3_forget ml_X7_98 rfl ⟨Nat.le_of_ble_eq_true rfl, Nat.le_of_ble_eq_true rfl⟩ rfl (Nat.le_of_ble_eq_true rfl) rfl hs hl rfl (Nat.le_of_ble_eq_true rfl) dX7_keep_55 (fun H locs hs => ?_)
      clear hc
      refine lv_iconst (v := 1) hx hb dX7_keep_58 (by decide) ?_
      have hf := Option.some.inj hf
      subst hf
      exact cb_reti C hs dX7_keep_59
    · replace hf := cb_ifn cn hf
      exact w_X7_keep_9 C  hf hs (lv_sub hl [0, 1] rfl)
/-! ===== CardBecome.winner ===== -/
def f_X7_winner (x0 : Int32) (x1 : Int32) (x2 : Int32) (σ : cb_St)  : Option (Int32) := if x2 = 2 then (some (-1)) else (if x2 = 0 then (some x0) else (some x1))
set_option maxHeartbeats 4000000 in
set_option maxRecDepth 100000 in
theorem c_X7_winner {x0 : Int32} {x1 : Int32} {x2 : Int32} {σ : cb_St}   {o : Int32} (hf : f_X7_winner x0 x1 x2 σ = some o) : cb_M l yX7_winner cX7_winner 3 (some .int) 1 shC A T D σ [.int x0, .int x1, .int x2] (some (.int o)) σ := by
  refine cb_met (by decide +kernel) (Nat.le_of_ble_eq_true rfl) ?_
  intro p e s m below meth c C hs ls hl
  have hl : lv_has ls 3 [(0, .int x0), (1, .int x1), (2, .int x2)] := hl
  obtain ⟨hx, hb, hml, hr, hown, hts, hK, hlk, hN⟩ := id C
  unfold f_X7_winner at hf
  refine lv_iload_n hx hb dX7_winner_0 rfl (lv_at hl 2 rfl) ?_
  refine lv_iconst (v := 2) hx hb dX7_winner_1 (by decide) ?_
  refine lv_icmp_ne (tgt := 7) hx hb dX7_winner_2 (by decide) (fun cn => ?_) (fun cn => ?_)
  · replace hf := cb_ifn cn hf
    refine lv_iload_n hx hb dX7_winner_7 rfl (lv_at hl 2 rfl) ?_
    refine lv_if_ne (tgt := 15) hx hb dX7_winner_8 (by decide) (fun cn => ?_) (fun cn => ?_)
    · replace hf := cb_ifn cn hf
      refine lv_iload_n hx hb dX7_winner_15 rfl (lv_at hl 1 rfl) ?_
      have hf := Option.some.inj hf
      subst hf
      exact cb_reti C hs dX7_winner_16
    · replace hf := cb_ifp cn hf
      refine lv_iload_n hx hb dX7_winner_11 rfl (lv_at hl 0 rfl) ?_
      refine lv_goto (tgt := 16) hx hb dX7_winner_12 (by decide) ?_
      have hf := Option.some.inj hf
      subst hf
      exact cb_reti C hs dX7_winner_16
  · replace hf := cb_ifp cn hf
    refine lv_iconst (v := (-1)) hx hb dX7_winner_5 (by decide) ?_
    have hf := Option.some.inj hf
    subst hf
    exact cb_reti C hs dX7_winner_6
/-! ===== CardBecome.logged ===== -/
def f_X7_logged_27 (x1 : Int32) (x2 : Int32) (σ : cb_St)  : Option (Int32) := some (-1)
set_option maxHeartbeats 4000000 in
set_option maxRecDepth 100000 in
theorem w_X7_logged_27 (C : cb_C p s m args meth c cX7_logged 6 (some .int) RX7 D T) {x1 : Int32} {x2 : Int32} {σ : cb_St} {o : Int32}   (hf : f_X7_logged_27 x1 x2 σ = some o) {H : Heap} {locs : List Loc} {ls : Array Slot} (hs : cb_H shC A T D σ s.heap H locs) (hl : lv_has ls 6 [(0, .ref (A 0)), (1, .int x1), (2, .int x2)]) : cb_W p l e 2 s m args below meth c shC A T D (some (.int o)) σ H locs (F0 m 27 ls []) := by
  obtain ⟨hx, hb, hml, hr, hown, hts, hK, hlk, hN⟩ := id C
  unfold f_X7_logged_27 at hf
  refine lv_iconst (v := (-1)) hx hb dX7_logged_27 (by decide) ?_
  have hf := Option.some.inj hf
  subst hf
  exact cb_reti C hs dX7_logged_28
def f_X7_logged_9 (x1 : Int32) (x2 : Int32) (σ : cb_St)  : Option (Int32) := some (-1000000002)
set_option maxHeartbeats 4000000 in
set_option maxRecDepth 100000 in
theorem w_X7_logged_9 (C : cb_C p s m args meth c cX7_logged 6 (some .int) RX7 D T) {x1 : Int32} {x2 : Int32} {σ : cb_St} {o : Int32}   (hf : f_X7_logged_9 x1 x2 σ = some o) {H : Heap} {locs : List Loc} {ls : Array Slot} (hs : cb_H shC A T D σ s.heap H locs) (hl : lv_has ls 6 [(0, .ref (A 0)), (1, .int x1), (2, .int x2)]) : cb_W p l e 2 s m args below meth c shC A T D (some (.int o)) σ H locs (F0 m 9 ls []) := by
  obtain ⟨hx, hb, hml, hr, hown, hts, hK, hlk, hN⟩ := id C
  unfold f_X7_logged_9 at hf
  refine lv_ldc (v := (-1000000002)) hx hb hown (hts _ kc_X7_65) dX7_logged_9 ?_
  have hf := Option.some.inj hf
  subst hf
  exact cb_reti C hs dX7_logged_11
def f_X7_logged (x1 : Int32) (x2 : Int32) (σ : cb_St)  : Option (Int32) := if x2 < 0 then (f_X7_logged_9 x1 x2 σ) else (if x2 ≤ 2 then (if x1 < 0 then (f_X7_logged_27 x1 x2 σ) else (if x1 < (σ.1 13 2) then (cb_bp (f_X4_entry 13 (((σ.1 13 2) - 1) - x1) σ) (fun r_1 => cb_bp (f_X4_firstIn r_1 σ) (fun r_2 => cb_bp (f_X4_secondIn r_1 σ) (fun r_3 => if x2 = 0 then (some r_2) else (if x2 = 1 then (some r_3) else (cb_bp (f_X4_outcomeIn r_1 σ) (fun r_4 => cb_bp (f_X7_winner r_2 r_3 r_4 σ) (fun r_5 => some r_5)))))))) else (f_X7_logged_27 x1 x2 σ))) else (f_X7_logged_9 x1 x2 σ))
set_option maxHeartbeats 4000000 in
set_option maxRecDepth 100000 in
theorem c_X7_logged {x1 : Int32} {x2 : Int32} {σ : cb_St}   {o : Int32} (hf : f_X7_logged x1 x2 σ = some o) : cb_M l yX7_logged cX7_logged 6 (some .int) 2 shC A T D σ [.ref (A 0), .int x1, .int x2] (some (.int o)) σ := by
  refine cb_met (by decide +kernel) (Nat.le_of_ble_eq_true rfl) ?_
  intro p e s m below meth c C hs ls hl
  have hl : lv_has ls 6 [(0, .ref (A 0)), (1, .int x1), (2, .int x2)] := hl
  obtain ⟨hx, hb, hml, hr, hown, hts, hK, hlk, hN⟩ := id C
  unfold f_X7_logged at hf
  refine lv_iload_n hx hb dX7_logged_0 rfl (lv_at hl 2 rfl) ?_
  refine lv_if_lt (tgt := 9) hx hb dX7_logged_1 (by decide) (fun cn => ?_) (fun cn => ?_)
  · replace hf := cb_ifp cn hf
    exact w_X7_logged_9 C  hf hs (lv_sub hl [0, 1, 2] rfl)
  · replace hf := cb_ifn cn hf
    refine lv_iload_n hx hb dX7_logged_4 rfl (lv_at hl 2 rfl) ?_
    refine lv_iconst (v := 2) hx hb dX7_logged_5 (by decide) ?_
    refine lv_icmp_le (tgt := 12) hx hb dX7_logged_6 (by decide) (fun cn => ?_) (fun cn => ?_)
    · replace hf := cb_ifp cn hf
      refine lv_iload_n hx hb dX7_logged_12 rfl (lv_at hl 1 rfl) ?_
      refine lv_if_lt (tgt := 27) hx hb dX7_logged_13 (by decide) (fun cn => ?_) (fun cn => ?_)
      · replace hf := cb_ifp cn hf
        exact w_X7_logged_27 C  hf hs (lv_sub hl [0, 1, 2] rfl)
      · replace hf := cb_ifn cn hf
        refine lv_iload_n hx hb dX7_logged_16 rfl (lv_at hl 1 rfl) ?_
        refine lv_aload_n hx hb dX7_logged_17 rfl (lv_at hl 0 rfl) ?_
        refine gf_X7_33 C hs rfl dX7_logged_18 ?_
        refine gf_X7_133 C hs cb_pl13.1 dX7_logged_21 ?_
        refine lv_icmp_lt (tgt := 29) hx hb dX7_logged_24 (by decide) (fun cn => ?_) (fun cn => ?_)
        · replace hf := cb_ifp cn hf
          refine lv_aload_n hx hb dX7_logged_29 rfl (lv_at hl 0 rfl) ?_
          refine gf_X7_33 C hs rfl dX7_logged_30 ?_
          refine lv_aload_n hx hb dX7_logged_33 rfl (lv_at hl 0 rfl) ?_
          refine gf_X7_33 C hs rfl dX7_logged_34 ?_
          refine gf_X7_133 C hs cb_pl13.1 dX7_logged_37 ?_
          refine lv_iconst (v := 1) hx hb dX7_logged_40 (by decide) ?_
          refine lv_isub hx hb dX7_logged_41 ?_
          refine lv_iload_n hx hb dX7_logged_42 rfl (lv_at hl 1 rfl) ?_
          refine lv_isub hx hb dX7_logged_43 ?_
          obtain ⟨r_1, hc, hf⟩ := cb_bp_inv hf
          refine cb_callVi C (c_X4_entry cb_pl13 hc) mw_X4_entry ml_X7_179 rfl ⟨Nat.le_of_ble_eq_true rfl, Nat.le_of_ble_eq_true rfl⟩ cb_pl13.1 (Nat.le_of_ble_eq_true rfl) rfl hs hl rfl (Nat.le_of_ble_eq_true rfl) dX7_logged_44 (fun H locs hs => ?_)
          clear hc
          refine lv_istore_n (lv' := [(3, .int r_1), (0, .ref (A 0)), (1, .int x1), (2, .int x2)]) hx hb dX7_logged_47 rfl hl (by decide) rfl (fun ls hl => ?_)
          refine lv_iload_n hx hb dX7_logged_48 rfl (lv_at hl 0 rfl) ?_
          obtain ⟨r_2, hc, hf⟩ := cb_bp_inv hf
          refine cb_callSi C (c_X4_firstIn  hc) mw_X4_firstIn ml_X7_182 rfl ⟨Nat.le_of_ble_eq_true rfl, Nat.le_of_ble_eq_true rfl⟩ hs hl rfl (Nat.le_of_ble_eq_true rfl) dX7_logged_49 (fun H locs hs => ?_)
          clear hc
          refine lv_istore (lv' := [(4, .int r_2), (3, .int r_1), (0, .ref (A 0)), (1, .int x1), (2, .int x2)]) hx hb dX7_logged_52 hl (by decide) rfl (fun ls hl => ?_)
          refine lv_iload_n hx hb dX7_logged_54 rfl (lv_at hl 1 rfl) ?_
          obtain ⟨r_3, hc, hf⟩ := cb_bp_inv hf
          refine cb_callSi C (c_X4_secondIn  hc) mw_X4_secondIn ml_X7_185 rfl ⟨Nat.le_of_ble_eq_true rfl, Nat.le_of_ble_eq_true rfl⟩ hs hl rfl (Nat.le_of_ble_eq_true rfl) dX7_logged_55 (fun H locs hs => ?_)
          clear hc
          refine lv_istore (lv' := [(5, .int r_3), (4, .int r_2), (3, .int r_1), (0, .ref (A 0)), (1, .int x1), (2, .int x2)]) hx hb dX7_logged_58 hl (by decide) rfl (fun ls hl => ?_)
          refine lv_iload_n hx hb dX7_logged_60 rfl (lv_at hl 5 rfl) ?_
          refine lv_if_ne (tgt := 67) hx hb dX7_logged_61 (by decide) (fun cn => ?_) (fun cn => ?_)
          · replace hf := cb_ifn cn hf
            refine lv_iload_n hx hb dX7_logged_67 rfl (lv_at hl 5 rfl) ?_
            refine lv_iconst (v := 1) hx hb dX7_logged_68 (by decide) ?_
            refine lv_icmp_ne (tgt := 77) hx hb dX7_logged_69 (by decide) (fun cn => ?_) (fun cn => ?_)
            · replace hf := cb_ifn cn hf
              refine lv_iload hx hb dX7_logged_77 (lv_at hl 1 rfl) ?_
              refine lv_iload hx hb dX7_logged_79 (lv_at hl 0 rfl) ?_
              refine lv_iload_n hx hb dX7_logged_81 rfl (lv_at hl 2 rfl) ?_
              obtain ⟨r_4, hc, hf⟩ := cb_bp_inv hf
              refine cb_callSi C (c_X4_outcomeIn  hc) mw_X4_outcomeIn ml_X7_188 rfl ⟨Nat.le_of_ble_eq_true rfl, Nat.le_of_ble_eq_true rfl⟩ hs hl rfl (Nat.le_of_ble_eq_true rfl) dX7_logged_82 (fun H locs hs => ?_)
              clear hc
              obtain ⟨r_5, hc, hf⟩ := cb_bp_inv hf
              refine cb_callSi C (c_X7_winner  hc) mw_X7_winner ml_X7_191 rfl ⟨Nat.le_of_ble_eq_true rfl, Nat.le_of_ble_eq_true rfl⟩ hs hl rfl (Nat.le_of_ble_eq_true rfl) dX7_logged_85 (fun H locs hs => ?_)
              clear hc
              have hf := Option.some.inj hf
              subst hf
              exact cb_reti C hs dX7_logged_88
            · replace hf := cb_ifp cn hf
              refine lv_iload hx hb dX7_logged_72 (lv_at hl 0 rfl) ?_
              refine lv_goto (tgt := 88) hx hb dX7_logged_74 (by decide) ?_
              have hf := Option.some.inj hf
              subst hf
              exact cb_reti C hs dX7_logged_88
          · replace hf := cb_ifp cn hf
            refine lv_iload hx hb dX7_logged_64 (lv_at hl 1 rfl) ?_
            have hf := Option.some.inj hf
            subst hf
            exact cb_reti C hs dX7_logged_66
        · replace hf := cb_ifn cn hf
          exact w_X7_logged_27 C  hf hs (lv_sub hl [0, 1, 2] rfl)
    · replace hf := cb_ifn cn hf
      exact w_X7_logged_9 C  hf hs (lv_sub hl [0, 1, 2] rfl)
/-! ===== CardBecome.meet ===== -/
def f_X7_meet (x1 : Int32) (x2 : Int32) (σ : cb_St) : Option (Int32 × cb_St) := cb_bp (f_X6_hasTwoPersons 9 x1 x2 σ) (fun r_1 => if r_1 = 0 then (some ((-1000000001), σ)) else (cb_bv (f_X3_push σ) (fun σ_2 => cb_bi (f_X7_letMeet x1 x2 σ_2) (fun r_3 σ_4 => cb_bp (f_X7_winner x1 x2 r_3 σ_4) (fun r_5 => some (r_5, σ_4))))))
set_option maxHeartbeats 4000000 in
set_option maxRecDepth 100000 in
theorem c_X7_meet {x1 : Int32} {x2 : Int32}  {σ : cb_St} {o : Int32 × cb_St} (hf : f_X7_meet x1 x2 σ = some o) : cb_M l yX7_meet cX7_meet 3 (some .int) 5 shC A T D σ [.ref (A 0), .int x1, .int x2] (some (.int o.1)) o.2 := by
  refine cb_met (by decide +kernel) (Nat.le_of_ble_eq_true rfl) ?_
  intro p e s m below meth c C hs ls hl
  have hl : lv_has ls 3 [(0, .ref (A 0)), (1, .int x1), (2, .int x2)] := hl
  obtain ⟨hx, hb, hml, hr, hown, hts, hK, hlk, hN⟩ := id C
  unfold f_X7_meet at hf
  refine lv_aload_n hx hb dX7_meet_0 rfl (lv_at hl 0 rfl) ?_
  refine gf_X7_26 C hs rfl dX7_meet_1 ?_
  refine lv_iload_n hx hb dX7_meet_4 rfl (lv_at hl 1 rfl) ?_
  refine lv_iload_n hx hb dX7_meet_5 rfl (lv_at hl 2 rfl) ?_
  obtain ⟨r_1, hc, hf⟩ := cb_bp_inv hf
  refine cb_callVi C (c_X6_hasTwoPersons cb_tb9 hc) mw_X6_hasTwoPersons ml_X7_209 rfl ⟨Nat.le_of_ble_eq_true rfl, Nat.le_of_ble_eq_true rfl⟩ cb_tb9.1 (Nat.le_of_ble_eq_true rfl) rfl hs hl rfl (Nat.le_of_ble_eq_true rfl) dX7_meet_6 (fun H locs hs => ?_)
  clear hc
  refine lv_if_ne (tgt := 15) hx hb dX7_meet_9 (by decide) (fun cn => ?_) (fun cn => ?_)
  · replace hf := cb_ifn cn hf
    refine lv_aload_n hx hb dX7_meet_15 rfl (lv_at hl 0 rfl) ?_
    refine gf_X7_40 C hs rfl dX7_meet_16 ?_
    refine lv_aload_n hx hb dX7_meet_19 rfl (lv_at hl 0 rfl) ?_
    refine gf_X7_33 C hs rfl dX7_meet_20 ?_
    obtain ⟨σ_2, hc, hf⟩ := cb_bv_inv hf
    refine cb_callVv C (c_X3_push  hc) mw_X3_push ml_X7_199 rfl ⟨Nat.le_of_ble_eq_true rfl, Nat.le_of_ble_eq_true rfl⟩ rfl (Nat.le_of_ble_eq_true rfl) rfl hs hl rfl (Nat.le_of_ble_eq_true rfl) dX7_meet_23 (fun H locs hs => ?_)
    clear hc
    refine lv_iload_n hx hb dX7_meet_26 rfl (lv_at hl 1 rfl) ?_
    refine lv_iload_n hx hb dX7_meet_27 rfl (lv_at hl 2 rfl) ?_
    refine lv_aload_n hx hb dX7_meet_28 rfl (lv_at hl 0 rfl) ?_
    refine lv_iload_n hx hb dX7_meet_29 rfl (lv_at hl 1 rfl) ?_
    refine lv_iload_n hx hb dX7_meet_30 rfl (lv_at hl 2 rfl) ?_
    obtain ⟨r_3, σ_4, hc, hf⟩ := cb_bi_inv hf
    refine cb_callVi C (c_X7_letMeet  hc) mw_X7_letMeet ml_X7_213 rfl ⟨Nat.le_of_ble_eq_true rfl, Nat.le_of_ble_eq_true rfl⟩ rfl (Nat.le_of_ble_eq_true rfl) rfl hs hl rfl (Nat.le_of_ble_eq_true rfl) dX7_meet_31 (fun H locs hs => ?_)
    clear hc
    obtain ⟨r_5, hc, hf⟩ := cb_bp_inv hf
    refine cb_callSi C (c_X7_winner  hc) mw_X7_winner ml_X7_191 rfl ⟨Nat.le_of_ble_eq_true rfl, Nat.le_of_ble_eq_true rfl⟩ hs hl rfl (Nat.le_of_ble_eq_true rfl) dX7_meet_34 (fun H locs hs => ?_)
    clear hc
    have hf := Option.some.inj hf
    subst hf
    exact cb_reti C hs dX7_meet_37
  · replace hf := cb_ifp cn hf
    refine lv_ldc (v := (-1000000001)) hx hb hown (hts _ kc_X7_150) dX7_meet_12 ?_
    have hf := Option.some.inj hf
    subst hf
    exact cb_reti C hs dX7_meet_14
/-! ===== CardBecome.missing ===== -/
def f_X7_missing_44 (K17 : Int32 → Int32 → Option (Int32)) (x1 : Int32) (σ : cb_St) (x2 : Int32) (x3 : Int32) : Option (Int32) := cb_let (x3 + 1) (fun x3_0 => K17 x2 x3_0)
set_option maxHeartbeats 4000000 in
set_option maxRecDepth 100000 in
theorem w_X7_missing_44 (C : cb_C p s m args meth c cX7_missing 4 (some .int) RX7 D T) {K17 : Int32 → Int32 → Option (Int32)} {x1 : Int32} {σ : cb_St} {o : Int32} (hK17 : ∀ (x2 : Int32) (x3 : Int32), K17 x2 x3 = some o → ∀ (H : Heap) (locs : List Loc) (ls : Array Slot), cb_H shC A T D σ s.heap H locs → lv_has ls 4 [(0, .ref (A 0)), (1, .int x1), (2, .int x2), (3, .int x3)] → cb_W p l e 2 s m args below meth c shC A T D (some (.int o)) σ H locs (F0 m 17 ls [])) {x2 : Int32} {x3 : Int32} (hf : f_X7_missing_44 K17 x1 σ x2 x3 = some o) {H : Heap} {locs : List Loc} {ls : Array Slot} (hs : cb_H shC A T D σ s.heap H locs) (hl : lv_has ls 4 [(0, .ref (A 0)), (1, .int x1), (2, .int x2), (3, .int x3)]) : cb_W p l e 2 s m args below meth c shC A T D (some (.int o)) σ H locs (F0 m 44 ls []) := by
  obtain ⟨hx, hb, hml, hr, hown, hts, hK, hlk, hN⟩ := id C
  unfold f_X7_missing_44 at hf
  obtain ⟨x3_0, e9, hf⟩ := cb_let_inv hf
  refine lv_iinc (v := x3_0) (lv' := [(3, .int x3_0), (0, .ref (A 0)), (1, .int x1), (2, .int x2)]) hx hb dX7_missing_44 hl (k := 3) rfl (by rw [e9]; rfl) (by decide) rfl (fun ls hl => ?_)
  clear e9
  refine lv_goto (tgt := 17) hx hb dX7_missing_47 (by decide) ?_
  exact hK17 _ _ hf _ _ _ hs (lv_sub hl [1, 2, 3, 0] rfl)
def f_X7_missing_17 (x1 : Int32) (σ : cb_St) : Nat → Int32 → Int32 → Option (Int32)
  | 0, _, _ => none
  | fu + 1, x2, x3 => if 52 ≤ x3 then (if x1 = (-1) then (some x2) else (some (-1))) else (cb_bp (f_X6_hasTold 9 x3 σ) (fun r_1 => if r_1 = 0 then (if x2 = x1 then (some x3) else (cb_let (x2 + 1) (fun x2_1 => f_X7_missing_44 (f_X7_missing_17 x1 σ fu) x1 σ x2_1 x3))) else (f_X7_missing_44 (f_X7_missing_17 x1 σ fu) x1 σ x2 x3)))
set_option maxHeartbeats 4000000 in
set_option maxRecDepth 100000 in
theorem w_X7_missing_17 (C : cb_C p s m args meth c cX7_missing 4 (some .int) RX7 D T) {x1 : Int32} {σ : cb_St} {o : Int32}  : ∀ (fu : Nat) (x2 : Int32) (x3 : Int32), f_X7_missing_17 x1 σ fu x2 x3 = some o → ∀ (H : Heap) (locs : List Loc) (ls : Array Slot), cb_H shC A T D σ s.heap H locs → lv_has ls 4 [(0, .ref (A 0)), (1, .int x1), (2, .int x2), (3, .int x3)] → cb_W p l e 2 s m args below meth c shC A T D (some (.int o)) σ H locs (F0 m 17 ls []) := by
  obtain ⟨hx, hb, hml, hr, hown, hts, hK, hlk, hN⟩ := id C
  intro fu
  induction fu with
  | zero =>
    intro x2 x3 hf
    rw [f_X7_missing_17] at hf
    cases hf
  | succ fu ih =>
    intro x2 x3 hf H locs ls hs hl
    rw [f_X7_missing_17] at hf
    refine lv_iload_n hx hb dX7_missing_17 rfl (lv_at hl 3 rfl) ?_
    refine lv_bipush (v := 52) hx hb dX7_missing_18 (by decide) ?_
    refine lv_icmp_ge (tgt := 50) hx hb dX7_missing_20 (by decide) (fun cn => ?_) (fun cn => ?_)
    · replace hf := cb_ifp cn hf
      refine lv_iload_n hx hb dX7_missing_50 rfl (lv_at hl 1 rfl) ?_
      refine lv_iconst (v := (-1)) hx hb dX7_missing_51 (by decide) ?_
      refine lv_icmp_ne (tgt := 59) hx hb dX7_missing_52 (by decide) (fun cn => ?_) (fun cn => ?_)
      · replace hf := cb_ifn cn hf
        refine lv_iconst (v := (-1)) hx hb dX7_missing_59 (by decide) ?_
        have hf := Option.some.inj hf
        subst hf
        exact cb_reti C hs dX7_missing_60
      · replace hf := cb_ifp cn hf
        refine lv_iload_n hx hb dX7_missing_55 rfl (lv_at hl 2 rfl) ?_
        refine lv_goto (tgt := 60) hx hb dX7_missing_56 (by decide) ?_
        have hf := Option.some.inj hf
        subst hf
        exact cb_reti C hs dX7_missing_60
    · replace hf := cb_ifn cn hf
      refine lv_aload_n hx hb dX7_missing_23 rfl (lv_at hl 0 rfl) ?_
      refine gf_X7_26 C hs rfl dX7_missing_24 ?_
      refine lv_iload_n hx hb dX7_missing_27 rfl (lv_at hl 3 rfl) ?_
      obtain ⟨r_1, hc, hf⟩ := cb_bp_inv hf
      refine cb_callVi C (c_X6_hasTold cb_tb9 hc) mw_X6_hasTold ml_X7_276 rfl ⟨Nat.le_of_ble_eq_true rfl, Nat.le_of_ble_eq_true rfl⟩ cb_tb9.1 (Nat.le_of_ble_eq_true rfl) rfl hs hl rfl (Nat.le_of_ble_eq_true rfl) dX7_missing_28 (fun H locs hs => ?_)
      clear hc
      refine lv_if_ne (tgt := 44) hx hb dX7_missing_31 (by decide) (fun cn => ?_) (fun cn => ?_)
      · replace hf := cb_ifn cn hf
        exact w_X7_missing_44 C ih hf hs (lv_sub hl [0, 1, 2, 3] rfl)
      · replace hf := cb_ifp cn hf
        refine lv_iload_n hx hb dX7_missing_34 rfl (lv_at hl 2 rfl) ?_
        refine lv_iload_n hx hb dX7_missing_35 rfl (lv_at hl 1 rfl) ?_
        refine lv_icmp_ne (tgt := 41) hx hb dX7_missing_36 (by decide) (fun cn => ?_) (fun cn => ?_)
        · replace hf := cb_ifn cn hf
          obtain ⟨x2_1, e9, hf⟩ := cb_let_inv hf
          refine lv_iinc (v := x2_1) (lv' := [(2, .int x2_1), (0, .ref (A 0)), (1, .int x1), (3, .int x3)]) hx hb dX7_missing_41 hl (k := 2) rfl (by rw [e9]; rfl) (by decide) rfl (fun ls hl => ?_)
          clear e9
          exact w_X7_missing_44 C ih hf hs (lv_sub hl [1, 2, 0, 3] rfl)
        · replace hf := cb_ifp cn hf
          refine lv_iload_n hx hb dX7_missing_39 rfl (lv_at hl 3 rfl) ?_
          have hf := Option.some.inj hf
          subst hf
          exact cb_reti C hs dX7_missing_40
def f_X7_missing (x1 : Int32) (σ : cb_St)  : Option (Int32) := if (σ.1 9 0) = 0 then (some (-1000000003)) else (f_X7_missing_17 x1 σ cb_fu 0 0)
set_option maxHeartbeats 4000000 in
set_option maxRecDepth 100000 in
theorem c_X7_missing {x1 : Int32} {σ : cb_St}   {o : Int32} (hf : f_X7_missing x1 σ = some o) : cb_M l yX7_missing cX7_missing 4 (some .int) 2 shC A T D σ [.ref (A 0), .int x1] (some (.int o)) σ := by
  refine cb_met (by decide +kernel) (Nat.le_of_ble_eq_true rfl) ?_
  intro p e s m below meth c C hs ls hl
  have hl : lv_has ls 4 [(0, .ref (A 0)), (1, .int x1)] := hl
  obtain ⟨hx, hb, hml, hr, hown, hts, hK, hlk, hN⟩ := id C
  unfold f_X7_missing at hf
  refine lv_aload_n hx hb dX7_missing_0 rfl (lv_at hl 0 rfl) ?_
  refine gf_X7_26 C hs rfl dX7_missing_1 ?_
  refine gf_X7_220 C hs cb_tb9.1 dX7_missing_4 ?_
  refine lv_if_ne (tgt := 13) hx hb dX7_missing_7 (by decide) (fun cn => ?_) (fun cn => ?_)
  · replace hf := cb_ifn cn hf
    refine lv_iconst (v := 0) hx hb dX7_missing_13 (by decide) ?_
    refine lv_istore_n (lv' := [(2, .int 0), (0, .ref (A 0)), (1, .int x1)]) hx hb dX7_missing_14 rfl hl (by decide) rfl (fun ls hl => ?_)
    refine lv_iconst (v := 0) hx hb dX7_missing_15 (by decide) ?_
    refine lv_istore_n (lv' := [(3, .int 0), (2, .int 0), (0, .ref (A 0)), (1, .int x1)]) hx hb dX7_missing_16 rfl hl (by decide) rfl (fun ls hl => ?_)
    exact w_X7_missing_17 C  cb_fu _ _ hf _ _ _ hs (lv_sub hl [2, 3, 1, 0] rfl)
  · replace hf := cb_ifp cn hf
    refine lv_ldc (v := (-1000000003)) hx hb hown (hts _ kc_X7_198) dX7_missing_10 ?_
    have hf := Option.some.inj hf
    subst hf
    exact cb_reti C hs dX7_missing_12
/-! ===== CardBecome.odds ===== -/
def f_X7_odds_62 (K20 : Int32 → Int32 → Option (Int32)) (x1 : Int32) (x2 : Int32) (σ : cb_St) (x3 : Int32) (x4 : Int32) : Option (Int32) := cb_let (x4 + 1) (fun x4_0 => K20 x3 x4_0)
set_option maxHeartbeats 4000000 in
set_option maxRecDepth 100000 in
theorem w_X7_odds_62 (C : cb_C p s m args meth c cX7_odds 5 (some .int) RX7 D T) {K20 : Int32 → Int32 → Option (Int32)} {x1 : Int32} {x2 : Int32} {σ : cb_St} {o : Int32} (hK20 : ∀ (x3 : Int32) (x4 : Int32), K20 x3 x4 = some o → ∀ (H : Heap) (locs : List Loc) (ls : Array Slot), cb_H shC A T D σ s.heap H locs → lv_has ls 5 [(0, .ref (A 0)), (1, .int x1), (2, .int x2), (3, .int x3), (4, .int x4)] → cb_W p l e 3 s m args below meth c shC A T D (some (.int o)) σ H locs (F0 m 20 ls [])) {x3 : Int32} {x4 : Int32} (hf : f_X7_odds_62 K20 x1 x2 σ x3 x4 = some o) {H : Heap} {locs : List Loc} {ls : Array Slot} (hs : cb_H shC A T D σ s.heap H locs) (hl : lv_has ls 5 [(0, .ref (A 0)), (1, .int x1), (2, .int x2), (3, .int x3), (4, .int x4)]) : cb_W p l e 3 s m args below meth c shC A T D (some (.int o)) σ H locs (F0 m 62 ls []) := by
  obtain ⟨hx, hb, hml, hr, hown, hts, hK, hlk, hN⟩ := id C
  unfold f_X7_odds_62 at hf
  obtain ⟨x4_0, e9, hf⟩ := cb_let_inv hf
  refine lv_iinc (v := x4_0) (lv' := [(4, .int x4_0), (0, .ref (A 0)), (1, .int x1), (2, .int x2), (3, .int x3)]) hx hb dX7_odds_62 hl (k := 4) rfl (by rw [e9]; rfl) (by decide) rfl (fun ls hl => ?_)
  clear e9
  refine lv_goto (tgt := 20) hx hb dX7_odds_65 (by decide) ?_
  exact hK20 _ _ hf _ _ _ hs (lv_sub hl [1, 2, 3, 4, 0] rfl)
def f_X7_odds_20 (x1 : Int32) (x2 : Int32) (σ : cb_St) : Nat → Int32 → Int32 → Option (Int32)
  | 0, _, _ => none
  | fu + 1, x3, x4 => if (σ.1 13 0) ≤ x4 then (if 0 < (σ.1 13 0) then (cb_ck (¬ (σ.1 13 0) = 0) (some ((1000000 * x3) / (σ.1 13 0)))) else (some 0)) else (cb_bp (f_X4_cardAt 13 x4 σ) (fun r_1 => cb_bp (f_X4_cardOf 13 x2 σ) (fun r_2 => cb_bp (f_X6_between 9 r_1 r_2 σ) (fun r_3 => if r_3 = 0 then (cb_let (x3 + 1) (fun x3_3 => f_X7_odds_62 (f_X7_odds_20 x1 x2 σ fu) x1 x2 σ x3_3 x4)) else (f_X7_odds_62 (f_X7_odds_20 x1 x2 σ fu) x1 x2 σ x3 x4)))))
set_option maxHeartbeats 4000000 in
set_option maxRecDepth 100000 in
theorem w_X7_odds_20 (C : cb_C p s m args meth c cX7_odds 5 (some .int) RX7 D T) {x1 : Int32} {x2 : Int32} {σ : cb_St} {o : Int32}  : ∀ (fu : Nat) (x3 : Int32) (x4 : Int32), f_X7_odds_20 x1 x2 σ fu x3 x4 = some o → ∀ (H : Heap) (locs : List Loc) (ls : Array Slot), cb_H shC A T D σ s.heap H locs → lv_has ls 5 [(0, .ref (A 0)), (1, .int x1), (2, .int x2), (3, .int x3), (4, .int x4)] → cb_W p l e 3 s m args below meth c shC A T D (some (.int o)) σ H locs (F0 m 20 ls []) := by
  obtain ⟨hx, hb, hml, hr, hown, hts, hK, hlk, hN⟩ := id C
  intro fu
  induction fu with
  | zero =>
    intro x3 x4 hf
    rw [f_X7_odds_20] at hf
    cases hf
  | succ fu ih =>
    intro x3 x4 hf H locs ls hs hl
    rw [f_X7_odds_20] at hf
    refine lv_iload hx hb dX7_odds_20 (lv_at hl 4 rfl) ?_
    refine lv_aload_n hx hb dX7_odds_22 rfl (lv_at hl 0 rfl) ?_
    refine gf_X7_33 C hs rfl dX7_odds_23 ?_
    refine gf_X7_120 C hs cb_pl13.1 dX7_odds_26 ?_
    refine lv_icmp_ge (tgt := 68) hx hb dX7_odds_29 (by decide) (fun cn => ?_) (fun cn => ?_)
    · replace hf := cb_ifp cn hf
      refine lv_aload_n hx hb dX7_odds_68 rfl (lv_at hl 0 rfl) ?_
      refine gf_X7_33 C hs rfl dX7_odds_69 ?_
      refine gf_X7_120 C hs cb_pl13.1 dX7_odds_72 ?_
      refine lv_if_gt (tgt := 82) hx hb dX7_odds_75 (by decide) (fun cn => ?_) (fun cn => ?_)
      · replace hf := cb_ifp cn hf
        refine lv_ldcw (v := 1000000) hx hb hown (hts _ kc_X7_272) dX7_odds_82 ?_
        refine lv_iload_n hx hb dX7_odds_85 rfl (lv_at hl 3 rfl) ?_
        refine lv_imul hx hb dX7_odds_86 ?_
        refine lv_aload_n hx hb dX7_odds_87 rfl (lv_at hl 0 rfl) ?_
        refine gf_X7_33 C hs rfl dX7_odds_88 ?_
        refine gf_X7_120 C hs cb_pl13.1 dX7_odds_91 ?_
        obtain ⟨hc, hf⟩ := cb_ck_inv hf
        refine lv_idiv hx hb dX7_odds_94 hc ?_
        have hf := Option.some.inj hf
        subst hf
        exact cb_reti C hs dX7_odds_95
      · replace hf := cb_ifn cn hf
        refine lv_iconst (v := 0) hx hb dX7_odds_78 (by decide) ?_
        refine lv_goto (tgt := 95) hx hb dX7_odds_79 (by decide) ?_
        have hf := Option.some.inj hf
        subst hf
        exact cb_reti C hs dX7_odds_95
    · replace hf := cb_ifn cn hf
      refine lv_aload_n hx hb dX7_odds_32 rfl (lv_at hl 0 rfl) ?_
      refine gf_X7_26 C hs rfl dX7_odds_33 ?_
      refine lv_aload_n hx hb dX7_odds_36 rfl (lv_at hl 0 rfl) ?_
      refine gf_X7_33 C hs rfl dX7_odds_37 ?_
      refine lv_iload hx hb dX7_odds_40 (lv_at hl 4 rfl) ?_
      obtain ⟨r_1, hc, hf⟩ := cb_bp_inv hf
      refine cb_callVi C (c_X4_cardAt cb_pl13 hc) mw_X4_cardAt ml_X7_164 rfl ⟨Nat.le_of_ble_eq_true rfl, Nat.le_of_ble_eq_true rfl⟩ cb_pl13.1 (Nat.le_of_ble_eq_true rfl) rfl hs hl rfl (Nat.le_of_ble_eq_true rfl) dX7_odds_42 (fun H locs hs => ?_)
      clear hc
      refine lv_aload_n hx hb dX7_odds_45 rfl (lv_at hl 0 rfl) ?_
      refine gf_X7_33 C hs rfl dX7_odds_46 ?_
      refine lv_iload_n hx hb dX7_odds_49 rfl (lv_at hl 2 rfl) ?_
      obtain ⟨r_2, hc, hf⟩ := cb_bp_inv hf
      refine cb_callVi C (c_X4_cardOf cb_pl13 hc) mw_X4_cardOf ml_X7_170 rfl ⟨Nat.le_of_ble_eq_true rfl, Nat.le_of_ble_eq_true rfl⟩ cb_pl13.1 (Nat.le_of_ble_eq_true rfl) rfl hs hl rfl (Nat.le_of_ble_eq_true rfl) dX7_odds_50 (fun H locs hs => ?_)
      clear hc
      obtain ⟨r_3, hc, hf⟩ := cb_bp_inv hf
      refine cb_callVi C (c_X6_between cb_tb9 hc) mw_X6_between ml_X7_239 rfl ⟨Nat.le_of_ble_eq_true rfl, Nat.le_of_ble_eq_true rfl⟩ cb_tb9.1 (Nat.le_of_ble_eq_true rfl) rfl hs hl rfl (Nat.le_of_ble_eq_true rfl) dX7_odds_53 (fun H locs hs => ?_)
      clear hc
      refine lv_if_ne (tgt := 62) hx hb dX7_odds_56 (by decide) (fun cn => ?_) (fun cn => ?_)
      · replace hf := cb_ifn cn hf
        exact w_X7_odds_62 C ih hf hs (lv_sub hl [0, 1, 2, 3, 4] rfl)
      · replace hf := cb_ifp cn hf
        obtain ⟨x3_3, e9, hf⟩ := cb_let_inv hf
        refine lv_iinc (v := x3_3) (lv' := [(3, .int x3_3), (0, .ref (A 0)), (1, .int x1), (2, .int x2), (4, .int x4)]) hx hb dX7_odds_59 hl (k := 3) rfl (by rw [e9]; rfl) (by decide) rfl (fun ls hl => ?_)
        clear e9
        exact w_X7_odds_62 C ih hf hs (lv_sub hl [1, 2, 3, 0, 4] rfl)
def f_X7_odds (x1 : Int32) (x2 : Int32) (σ : cb_St)  : Option (Int32) := cb_bp (f_X6_hasTwoPersons 9 x1 x2 σ) (fun r_1 => if r_1 = 0 then (some (-1000000001)) else (f_X7_odds_20 x1 x2 σ cb_fu 0 0))
set_option maxHeartbeats 4000000 in
set_option maxRecDepth 100000 in
theorem c_X7_odds {x1 : Int32} {x2 : Int32} {σ : cb_St}   {o : Int32} (hf : f_X7_odds x1 x2 σ = some o) : cb_M l yX7_odds cX7_odds 5 (some .int) 3 shC A T D σ [.ref (A 0), .int x1, .int x2] (some (.int o)) σ := by
  refine cb_met (by decide +kernel) (Nat.le_of_ble_eq_true rfl) ?_
  intro p e s m below meth c C hs ls hl
  have hl : lv_has ls 5 [(0, .ref (A 0)), (1, .int x1), (2, .int x2)] := hl
  obtain ⟨hx, hb, hml, hr, hown, hts, hK, hlk, hN⟩ := id C
  unfold f_X7_odds at hf
  refine lv_aload_n hx hb dX7_odds_0 rfl (lv_at hl 0 rfl) ?_
  refine gf_X7_26 C hs rfl dX7_odds_1 ?_
  refine lv_iload_n hx hb dX7_odds_4 rfl (lv_at hl 1 rfl) ?_
  refine lv_iload_n hx hb dX7_odds_5 rfl (lv_at hl 2 rfl) ?_
  obtain ⟨r_1, hc, hf⟩ := cb_bp_inv hf
  refine cb_callVi C (c_X6_hasTwoPersons cb_tb9 hc) mw_X6_hasTwoPersons ml_X7_209 rfl ⟨Nat.le_of_ble_eq_true rfl, Nat.le_of_ble_eq_true rfl⟩ cb_tb9.1 (Nat.le_of_ble_eq_true rfl) rfl hs hl rfl (Nat.le_of_ble_eq_true rfl) dX7_odds_6 (fun H locs hs => ?_)
  clear hc
  refine lv_if_ne (tgt := 15) hx hb dX7_odds_9 (by decide) (fun cn => ?_) (fun cn => ?_)
  · replace hf := cb_ifn cn hf
    refine lv_iconst (v := 0) hx hb dX7_odds_15 (by decide) ?_
    refine lv_istore_n (lv' := [(3, .int 0), (0, .ref (A 0)), (1, .int x1), (2, .int x2)]) hx hb dX7_odds_16 rfl hl (by decide) rfl (fun ls hl => ?_)
    refine lv_iconst (v := 0) hx hb dX7_odds_17 (by decide) ?_
    refine lv_istore (lv' := [(4, .int 0), (3, .int 0), (0, .ref (A 0)), (1, .int x1), (2, .int x2)]) hx hb dX7_odds_18 hl (by decide) rfl (fun ls hl => ?_)
    exact w_X7_odds_20 C  cb_fu _ _ hf _ _ _ hs (lv_sub hl [2, 3, 4, 1, 0] rfl)
  · replace hf := cb_ifp cn hf
    refine lv_ldc (v := (-1000000001)) hx hb hown (hts _ kc_X7_150) dX7_odds_12 ?_
    have hf := Option.some.inj hf
    subst hf
    exact cb_reti C hs dX7_odds_14
/-! ===== CardBecome.setWins ===== -/
def f_X7_setWins_77 (K2 : Int32 → Option (Int32)) (K15 : Int32 → Int32 → Option (Int32)) (x1 : Int32) (σ : cb_St) (x2 : Int32) (x3 : Int32) : Option (Int32) := cb_let (x3 + 1) (fun x3_0 => K15 x2 x3_0)
set_option maxHeartbeats 4000000 in
set_option maxRecDepth 100000 in
theorem w_X7_setWins_77 (C : cb_C p s m args meth c cX7_setWins 5 (some .boolean) RX7 D T) {K2 : Int32 → Option (Int32)} {K15 : Int32 → Int32 → Option (Int32)} {x1 : Int32} {σ : cb_St} {o : Int32} (hK2 : ∀ (x2 : Int32), K2 x2 = some o → ∀ (H : Heap) (locs : List Loc) (ls : Array Slot), cb_H shC A T D σ s.heap H locs → lv_has ls 5 [(0, .ref (A 0)), (1, .int x1), (2, .int x2)] → cb_W p l e 3 s m args below meth c shC A T D (some (.int o)) σ H locs (F0 m 2 ls [])) (hK15 : ∀ (x2 : Int32) (x3 : Int32), K15 x2 x3 = some o → ∀ (H : Heap) (locs : List Loc) (ls : Array Slot), cb_H shC A T D σ s.heap H locs → lv_has ls 5 [(0, .ref (A 0)), (1, .int x1), (2, .int x2), (3, .int x3)] → cb_W p l e 3 s m args below meth c shC A T D (some (.int o)) σ H locs (F0 m 15 ls [])) {x2 : Int32} {x3 : Int32} (hf : f_X7_setWins_77 K2 K15 x1 σ x2 x3 = some o) {H : Heap} {locs : List Loc} {ls : Array Slot} (hs : cb_H shC A T D σ s.heap H locs) (hl : lv_has ls 5 [(0, .ref (A 0)), (1, .int x1), (2, .int x2), (3, .int x3)]) : cb_W p l e 3 s m args below meth c shC A T D (some (.int o)) σ H locs (F0 m 77 ls []) := by
  obtain ⟨hx, hb, hml, hr, hown, hts, hK, hlk, hN⟩ := id C
  unfold f_X7_setWins_77 at hf
  obtain ⟨x3_0, e9, hf⟩ := cb_let_inv hf
  refine lv_iinc (v := x3_0) (lv' := [(3, .int x3_0), (0, .ref (A 0)), (1, .int x1), (2, .int x2)]) hx hb dX7_setWins_77 hl (k := 3) rfl (by rw [e9]; rfl) (by decide) rfl (fun ls hl => ?_)
  clear e9
  refine lv_goto (tgt := 15) hx hb dX7_setWins_80 (by decide) ?_
  exact hK15 _ _ hf _ _ _ hs (lv_sub hl [1, 2, 3, 0] rfl)
def f_X7_setWins_48 (K2 : Int32 → Option (Int32)) (K15 : Int32 → Int32 → Option (Int32)) (x1 : Int32) (σ : cb_St) (x2 : Int32) (x3 : Int32) (s0 : Int32) : Option (Int32) := if s0 = 0 then (f_X7_setWins_77 K2 K15 x1 σ x2 x3) else (cb_bp (f_X7_wouldBe x2 σ) (fun r_1 => cb_bp (f_X7_wouldBe x3 σ) (fun r_2 => cb_bp (f_X6_between 9 r_1 r_2 σ) (fun r_3 => if r_3 = 0 then (f_X7_setWins_77 K2 K15 x1 σ x2 x3) else (some 0)))))
set_option maxHeartbeats 4000000 in
set_option maxRecDepth 100000 in
theorem w_X7_setWins_48 (C : cb_C p s m args meth c cX7_setWins 5 (some .boolean) RX7 D T) {K2 : Int32 → Option (Int32)} {K15 : Int32 → Int32 → Option (Int32)} {x1 : Int32} {σ : cb_St} {o : Int32} (hK2 : ∀ (x2 : Int32), K2 x2 = some o → ∀ (H : Heap) (locs : List Loc) (ls : Array Slot), cb_H shC A T D σ s.heap H locs → lv_has ls 5 [(0, .ref (A 0)), (1, .int x1), (2, .int x2)] → cb_W p l e 3 s m args below meth c shC A T D (some (.int o)) σ H locs (F0 m 2 ls [])) (hK15 : ∀ (x2 : Int32) (x3 : Int32), K15 x2 x3 = some o → ∀ (H : Heap) (locs : List Loc) (ls : Array Slot), cb_H shC A T D σ s.heap H locs → lv_has ls 5 [(0, .ref (A 0)), (1, .int x1), (2, .int x2), (3, .int x3)] → cb_W p l e 3 s m args below meth c shC A T D (some (.int o)) σ H locs (F0 m 15 ls [])) {x2 : Int32} {x3 : Int32} {s0 : Int32} (hf : f_X7_setWins_48 K2 K15 x1 σ x2 x3 s0 = some o) {H : Heap} {locs : List Loc} {ls : Array Slot} (hs : cb_H shC A T D σ s.heap H locs) (hl : lv_has ls 5 [(0, .ref (A 0)), (1, .int x1), (2, .int x2), (3, .int x3)]) : cb_W p l e 3 s m args below meth c shC A T D (some (.int o)) σ H locs (F0 m 48 ls [.int s0]) := by
  obtain ⟨hx, hb, hml, hr, hown, hts, hK, hlk, hN⟩ := id C
  unfold f_X7_setWins_48 at hf
  refine lv_istore (lv' := [(4, .int s0), (0, .ref (A 0)), (1, .int x1), (2, .int x2), (3, .int x3)]) hx hb dX7_setWins_48 hl (by decide) rfl (fun ls hl => ?_)
  refine lv_iload hx hb dX7_setWins_50 (lv_at hl 0 rfl) ?_
  refine lv_if_eq (tgt := 77) hx hb dX7_setWins_52 (by decide) (fun cn => ?_) (fun cn => ?_)
  · replace hf := cb_ifp cn hf
    exact w_X7_setWins_77 C hK2 hK15 hf hs (lv_sub hl [1, 2, 3, 4] rfl)
  · replace hf := cb_ifn cn hf
    refine lv_aload_n hx hb dX7_setWins_55 rfl (lv_at hl 1 rfl) ?_
    refine gf_X7_26 C hs rfl dX7_setWins_56 ?_
    refine lv_aload_n hx hb dX7_setWins_59 rfl (lv_at hl 1 rfl) ?_
    refine lv_iload_n hx hb dX7_setWins_60 rfl (lv_at hl 3 rfl) ?_
    obtain ⟨r_1, hc, hf⟩ := cb_bp_inv hf
    refine cb_callVi C (c_X7_wouldBe  hc) mw_X7_wouldBe ml_X7_329 rfl ⟨Nat.le_of_ble_eq_true rfl, Nat.le_of_ble_eq_true rfl⟩ rfl (Nat.le_of_ble_eq_true rfl) rfl hs hl rfl (Nat.le_of_ble_eq_true rfl) dX7_setWins_61 (fun H locs hs => ?_)
    clear hc
    refine lv_aload_n hx hb dX7_setWins_64 rfl (lv_at hl 1 rfl) ?_
    refine lv_iload_n hx hb dX7_setWins_65 rfl (lv_at hl 4 rfl) ?_
    obtain ⟨r_2, hc, hf⟩ := cb_bp_inv hf
    refine cb_callVi C (c_X7_wouldBe  hc) mw_X7_wouldBe ml_X7_329 rfl ⟨Nat.le_of_ble_eq_true rfl, Nat.le_of_ble_eq_true rfl⟩ rfl (Nat.le_of_ble_eq_true rfl) rfl hs hl rfl (Nat.le_of_ble_eq_true rfl) dX7_setWins_66 (fun H locs hs => ?_)
    clear hc
    obtain ⟨r_3, hc, hf⟩ := cb_bp_inv hf
    refine cb_callVi C (c_X6_between cb_tb9 hc) mw_X6_between ml_X7_239 rfl ⟨Nat.le_of_ble_eq_true rfl, Nat.le_of_ble_eq_true rfl⟩ cb_tb9.1 (Nat.le_of_ble_eq_true rfl) rfl hs hl rfl (Nat.le_of_ble_eq_true rfl) dX7_setWins_69 (fun H locs hs => ?_)
    clear hc
    refine lv_if_eq (tgt := 77) hx hb dX7_setWins_72 (by decide) (fun cn => ?_) (fun cn => ?_)
    · replace hf := cb_ifp cn hf
      exact w_X7_setWins_77 C hK2 hK15 hf hs (lv_sub hl [1, 2, 3, 4] rfl)
    · replace hf := cb_ifn cn hf
      refine lv_iconst (v := 0) hx hb dX7_setWins_75 (by decide) ?_
      have hf := Option.some.inj hf
      subst hf
      exact cb_retz C hs (Or.inl rfl) dX7_setWins_76
def f_X7_setWins_47 (K2 : Int32 → Option (Int32)) (K15 : Int32 → Int32 → Option (Int32)) (x1 : Int32) (σ : cb_St) (x2 : Int32) (x3 : Int32) : Option (Int32) := f_X7_setWins_48 K2 K15 x1 σ x2 x3 0
set_option maxHeartbeats 4000000 in
set_option maxRecDepth 100000 in
theorem w_X7_setWins_47 (C : cb_C p s m args meth c cX7_setWins 5 (some .boolean) RX7 D T) {K2 : Int32 → Option (Int32)} {K15 : Int32 → Int32 → Option (Int32)} {x1 : Int32} {σ : cb_St} {o : Int32} (hK2 : ∀ (x2 : Int32), K2 x2 = some o → ∀ (H : Heap) (locs : List Loc) (ls : Array Slot), cb_H shC A T D σ s.heap H locs → lv_has ls 5 [(0, .ref (A 0)), (1, .int x1), (2, .int x2)] → cb_W p l e 3 s m args below meth c shC A T D (some (.int o)) σ H locs (F0 m 2 ls [])) (hK15 : ∀ (x2 : Int32) (x3 : Int32), K15 x2 x3 = some o → ∀ (H : Heap) (locs : List Loc) (ls : Array Slot), cb_H shC A T D σ s.heap H locs → lv_has ls 5 [(0, .ref (A 0)), (1, .int x1), (2, .int x2), (3, .int x3)] → cb_W p l e 3 s m args below meth c shC A T D (some (.int o)) σ H locs (F0 m 15 ls [])) {x2 : Int32} {x3 : Int32} (hf : f_X7_setWins_47 K2 K15 x1 σ x2 x3 = some o) {H : Heap} {locs : List Loc} {ls : Array Slot} (hs : cb_H shC A T D σ s.heap H locs) (hl : lv_has ls 5 [(0, .ref (A 0)), (1, .int x1), (2, .int x2), (3, .int x3)]) : cb_W p l e 3 s m args below meth c shC A T D (some (.int o)) σ H locs (F0 m 47 ls []) := by
  obtain ⟨hx, hb, hml, hr, hown, hts, hK, hlk, hN⟩ := id C
  unfold f_X7_setWins_47 at hf
  refine lv_iconst (v := 0) hx hb dX7_setWins_47 (by decide) ?_
  exact w_X7_setWins_48 C hK2 hK15 hf hs (lv_sub hl [0, 1, 2, 3] rfl)
def f_X7_setWins_15 (K2 : Int32 → Option (Int32)) (x1 : Int32) (σ : cb_St) : Nat → Int32 → Int32 → Option (Int32)
  | 0, _, _ => none
  | fu + 1, x2, x3 => if (σ.1 9 5) ≤ x3 then (cb_let (x2 + 1) (fun x2_0 => K2 x2_0)) else (if ((x1 >>> (x2 &&& 31)) &&& 1) = 1 then (if ((x1 >>> (x3 &&& 31)) &&& 1) = 0 then (f_X7_setWins_48 K2 (f_X7_setWins_15 K2 x1 σ fu) x1 σ x2 x3 1) else (f_X7_setWins_47 K2 (f_X7_setWins_15 K2 x1 σ fu) x1 σ x2 x3)) else (f_X7_setWins_47 K2 (f_X7_setWins_15 K2 x1 σ fu) x1 σ x2 x3))
set_option maxHeartbeats 4000000 in
set_option maxRecDepth 100000 in
theorem w_X7_setWins_15 (C : cb_C p s m args meth c cX7_setWins 5 (some .boolean) RX7 D T) {K2 : Int32 → Option (Int32)} {x1 : Int32} {σ : cb_St} {o : Int32} (hK2 : ∀ (x2 : Int32), K2 x2 = some o → ∀ (H : Heap) (locs : List Loc) (ls : Array Slot), cb_H shC A T D σ s.heap H locs → lv_has ls 5 [(0, .ref (A 0)), (1, .int x1), (2, .int x2)] → cb_W p l e 3 s m args below meth c shC A T D (some (.int o)) σ H locs (F0 m 2 ls [])) : ∀ (fu : Nat) (x2 : Int32) (x3 : Int32), f_X7_setWins_15 K2 x1 σ fu x2 x3 = some o → ∀ (H : Heap) (locs : List Loc) (ls : Array Slot), cb_H shC A T D σ s.heap H locs → lv_has ls 5 [(0, .ref (A 0)), (1, .int x1), (2, .int x2), (3, .int x3)] → cb_W p l e 3 s m args below meth c shC A T D (some (.int o)) σ H locs (F0 m 15 ls []) := by
  obtain ⟨hx, hb, hml, hr, hown, hts, hK, hlk, hN⟩ := id C
  intro fu
  induction fu with
  | zero =>
    intro x2 x3 hf
    rw [f_X7_setWins_15] at hf
    cases hf
  | succ fu ih =>
    intro x2 x3 hf H locs ls hs hl
    rw [f_X7_setWins_15] at hf
    refine lv_iload_n hx hb dX7_setWins_15 rfl (lv_at hl 3 rfl) ?_
    refine lv_aload_n hx hb dX7_setWins_16 rfl (lv_at hl 0 rfl) ?_
    refine gf_X7_26 C hs rfl dX7_setWins_17 ?_
    refine gf_X7_105 C hs cb_tb9.1 dX7_setWins_20 ?_
    refine lv_icmp_ge (tgt := 83) hx hb dX7_setWins_23 (by decide) (fun cn => ?_) (fun cn => ?_)
    · replace hf := cb_ifp cn hf
      obtain ⟨x2_0, e9, hf⟩ := cb_let_inv hf
      refine lv_iinc (v := x2_0) (lv' := [(2, .int x2_0), (0, .ref (A 0)), (1, .int x1), (3, .int x3)]) hx hb dX7_setWins_83 hl (k := 2) rfl (by rw [e9]; rfl) (by decide) rfl (fun ls hl => ?_)
      clear e9
      refine lv_goto (tgt := 2) hx hb dX7_setWins_86 (by decide) ?_
      exact hK2 _ hf _ _ _ hs (lv_sub hl [1, 2, 0] rfl)
    · replace hf := cb_ifn cn hf
      refine lv_iload_n hx hb dX7_setWins_26 rfl (lv_at hl 1 rfl) ?_
      refine lv_iload_n hx hb dX7_setWins_27 rfl (lv_at hl 2 rfl) ?_
      refine lv_ishr hx hb dX7_setWins_28 ?_
      refine lv_iconst (v := 1) hx hb dX7_setWins_29 (by decide) ?_
      refine lv_iand hx hb dX7_setWins_30 ?_
      refine lv_iconst (v := 1) hx hb dX7_setWins_31 (by decide) ?_
      refine lv_icmp_ne (tgt := 47) hx hb dX7_setWins_32 (by decide) (fun cn => ?_) (fun cn => ?_)
      · replace hf := cb_ifn cn hf
        exact w_X7_setWins_47 C hK2 ih hf hs (lv_sub hl [0, 1, 2, 3] rfl)
      · replace hf := cb_ifp cn hf
        refine lv_iload_n hx hb dX7_setWins_35 rfl (lv_at hl 1 rfl) ?_
        refine lv_iload_n hx hb dX7_setWins_36 rfl (lv_at hl 3 rfl) ?_
        refine lv_ishr hx hb dX7_setWins_37 ?_
        refine lv_iconst (v := 1) hx hb dX7_setWins_38 (by decide) ?_
        refine lv_iand hx hb dX7_setWins_39 ?_
        refine lv_if_ne (tgt := 47) hx hb dX7_setWins_40 (by decide) (fun cn => ?_) (fun cn => ?_)
        · replace hf := cb_ifn cn hf
          exact w_X7_setWins_47 C hK2 ih hf hs (lv_sub hl [0, 1, 2, 3] rfl)
        · replace hf := cb_ifp cn hf
          refine lv_iconst (v := 1) hx hb dX7_setWins_43 (by decide) ?_
          refine lv_goto (tgt := 48) hx hb dX7_setWins_44 (by decide) ?_
          exact w_X7_setWins_48 C hK2 ih hf hs (lv_sub hl [0, 1, 2, 3] rfl)
def f_X7_setWins_2 (x1 : Int32) (σ : cb_St) : Nat → Int32 → Option (Int32)
  | 0, _ => none
  | fu + 1, x2 => if (σ.1 9 5) ≤ x2 then (some 1) else (f_X7_setWins_15 (f_X7_setWins_2 x1 σ fu) x1 σ cb_fu x2 0)
set_option maxHeartbeats 4000000 in
set_option maxRecDepth 100000 in
theorem w_X7_setWins_2 (C : cb_C p s m args meth c cX7_setWins 5 (some .boolean) RX7 D T) {x1 : Int32} {σ : cb_St} {o : Int32}  : ∀ (fu : Nat) (x2 : Int32), f_X7_setWins_2 x1 σ fu x2 = some o → ∀ (H : Heap) (locs : List Loc) (ls : Array Slot), cb_H shC A T D σ s.heap H locs → lv_has ls 5 [(0, .ref (A 0)), (1, .int x1), (2, .int x2)] → cb_W p l e 3 s m args below meth c shC A T D (some (.int o)) σ H locs (F0 m 2 ls []) := by
  obtain ⟨hx, hb, hml, hr, hown, hts, hK, hlk, hN⟩ := id C
  intro fu
  induction fu with
  | zero =>
    intro x2 hf
    rw [f_X7_setWins_2] at hf
    cases hf
  | succ fu ih =>
    intro x2 hf H locs ls hs hl
    rw [f_X7_setWins_2] at hf
    refine lv_iload_n hx hb dX7_setWins_2 rfl (lv_at hl 2 rfl) ?_
    refine lv_aload_n hx hb dX7_setWins_3 rfl (lv_at hl 0 rfl) ?_
    refine gf_X7_26 C hs rfl dX7_setWins_4 ?_
    refine gf_X7_105 C hs cb_tb9.1 dX7_setWins_7 ?_
    refine lv_icmp_ge (tgt := 89) hx hb dX7_setWins_10 (by decide) (fun cn => ?_) (fun cn => ?_)
    · replace hf := cb_ifp cn hf
      refine lv_iconst (v := 1) hx hb dX7_setWins_89 (by decide) ?_
      have hf := Option.some.inj hf
      subst hf
      exact cb_retz C hs (Or.inr rfl) dX7_setWins_90
    · replace hf := cb_ifn cn hf
      refine lv_iconst (v := 0) hx hb dX7_setWins_13 (by decide) ?_
      refine lv_istore_n (lv' := [(3, .int 0), (0, .ref (A 0)), (1, .int x1), (2, .int x2)]) hx hb dX7_setWins_14 rfl hl (by decide) rfl (fun ls hl => ?_)
      exact w_X7_setWins_15 C ih cb_fu _ _ hf _ _ _ hs (lv_sub hl [1, 2, 3, 0] rfl)
def f_X7_setWins (x1 : Int32) (σ : cb_St)  : Option (Int32) := f_X7_setWins_2 x1 σ cb_fu 0
set_option maxHeartbeats 4000000 in
set_option maxRecDepth 100000 in
theorem c_X7_setWins {x1 : Int32} {σ : cb_St}   {o : Int32} (hf : f_X7_setWins x1 σ = some o) : cb_M l yX7_setWins cX7_setWins 5 (some .boolean) 3 shC A T D σ [.ref (A 0), .int x1] (some (.int o)) σ := by
  refine cb_met (by decide +kernel) (Nat.le_of_ble_eq_true rfl) ?_
  intro p e s m below meth c C hs ls hl
  have hl : lv_has ls 5 [(0, .ref (A 0)), (1, .int x1)] := hl
  obtain ⟨hx, hb, hml, hr, hown, hts, hK, hlk, hN⟩ := id C
  unfold f_X7_setWins at hf
  refine lv_iconst (v := 0) hx hb dX7_setWins_0 (by decide) ?_
  refine lv_istore_n (lv' := [(2, .int 0), (0, .ref (A 0)), (1, .int x1)]) hx hb dX7_setWins_1 rfl hl (by decide) rfl (fun ls hl => ?_)
  exact w_X7_setWins_2 C  cb_fu _ hf _ _ _ hs (lv_sub hl [1, 2, 0] rfl)
/-! ===== CardBecome.orderFrom ===== -/
def f_X7_orderFrom_132 (Rc : cb_St → Int32 → Int32 → Int32 → Int32 → Option (Int32 × cb_St)) (x1 : Int32) (x2 : Int32) (x3 : Int32) (x4 : Int32) (σ : cb_St) : Option (Int32 × cb_St) := some ((-1), σ)
set_option maxHeartbeats 4000000 in
set_option maxRecDepth 100000 in
theorem w_X7_orderFrom_132 {d : Nat} (C : cb_C p s m args meth c cX7_orderFrom 7 (some .int) RX7 D T) {Rc : cb_St → Int32 → Int32 → Int32 → Int32 → Option (Int32 × cb_St)} {x1 : Int32} {x2 : Int32} {x3 : Int32} {x4 : Int32} {o : Int32 × cb_St} (hRc : ∀ {σ : cb_St} {x1 : Int32} {x2 : Int32} {x3 : Int32} {x4 : Int32} {o : Int32 × cb_St}, Rc σ x1 x2 x3 x4 = some o → cb_M l yX7_orderFrom cX7_orderFrom 7 (some .int) (4 + d) shC A T D σ [.ref (A 0), .int x1, .int x2, .int x3, .int x4] (some (.int o.1)) o.2) {σ : cb_St} (hf : f_X7_orderFrom_132 Rc x1 x2 x3 x4 σ = some o) {H : Heap} {locs : List Loc} {ls : Array Slot} (hs : cb_H shC A T D σ s.heap H locs) (hl : lv_has ls 7 [(0, .ref (A 0)), (1, .int x1), (2, .int x2), (3, .int x3), (4, .int x4)]) : cb_W p l e (4 + (d + 1)) s m args below meth c shC A T D (some (.int o.1)) o.2 H locs (F0 m 132 ls []) := by
  obtain ⟨hx, hb, hml, hr, hown, hts, hK, hlk, hN⟩ := id C
  unfold f_X7_orderFrom_132 at hf
  refine lv_iconst (v := (-1)) hx hb dX7_orderFrom_132 (by decide) ?_
  have hf := Option.some.inj hf
  subst hf
  exact cb_reti C hs dX7_orderFrom_133
def f_X7_orderFrom_126 (Rc : cb_St → Int32 → Int32 → Int32 → Int32 → Option (Int32 × cb_St)) (K29 : cb_St → Int32 → Option (Int32 × cb_St)) (x1 : Int32) (x2 : Int32) (x3 : Int32) (x4 : Int32) (σ : cb_St) (x5 : Int32) : Option (Int32 × cb_St) := cb_let (x5 + 1) (fun x5_0 => K29 σ x5_0)
set_option maxHeartbeats 4000000 in
set_option maxRecDepth 100000 in
theorem w_X7_orderFrom_126 {d : Nat} (C : cb_C p s m args meth c cX7_orderFrom 7 (some .int) RX7 D T) {Rc : cb_St → Int32 → Int32 → Int32 → Int32 → Option (Int32 × cb_St)} {K29 : cb_St → Int32 → Option (Int32 × cb_St)} {x1 : Int32} {x2 : Int32} {x3 : Int32} {x4 : Int32} {o : Int32 × cb_St} (hRc : ∀ {σ : cb_St} {x1 : Int32} {x2 : Int32} {x3 : Int32} {x4 : Int32} {o : Int32 × cb_St}, Rc σ x1 x2 x3 x4 = some o → cb_M l yX7_orderFrom cX7_orderFrom 7 (some .int) (4 + d) shC A T D σ [.ref (A 0), .int x1, .int x2, .int x3, .int x4] (some (.int o.1)) o.2) (hK29 : ∀ (σ : cb_St) (x5 : Int32), K29 σ x5 = some o → ∀ (H : Heap) (locs : List Loc) (ls : Array Slot), cb_H shC A T D σ s.heap H locs → lv_has ls 7 [(0, .ref (A 0)), (1, .int x1), (2, .int x2), (3, .int x3), (4, .int x4), (5, .int x5)] → cb_W p l e (4 + (d + 1)) s m args below meth c shC A T D (some (.int o.1)) o.2 H locs (F0 m 29 ls [])) {σ : cb_St} {x5 : Int32} (hf : f_X7_orderFrom_126 Rc K29 x1 x2 x3 x4 σ x5 = some o) {H : Heap} {locs : List Loc} {ls : Array Slot} (hs : cb_H shC A T D σ s.heap H locs) (hl : lv_has ls 7 [(0, .ref (A 0)), (1, .int x1), (2, .int x2), (3, .int x3), (4, .int x4), (5, .int x5)]) : cb_W p l e (4 + (d + 1)) s m args below meth c shC A T D (some (.int o.1)) o.2 H locs (F0 m 126 ls []) := by
  obtain ⟨hx, hb, hml, hr, hown, hts, hK, hlk, hN⟩ := id C
  unfold f_X7_orderFrom_126 at hf
  obtain ⟨x5_0, e9, hf⟩ := cb_let_inv hf
  refine lv_iinc (v := x5_0) (lv' := [(5, .int x5_0), (0, .ref (A 0)), (1, .int x1), (2, .int x2), (3, .int x3), (4, .int x4)]) hx hb dX7_orderFrom_126 hl (k := 5) rfl (by rw [e9]; rfl) (by decide) rfl (fun ls hl => ?_)
  clear e9
  refine lv_goto (tgt := 29) hx hb dX7_orderFrom_129 (by decide) ?_
  exact hK29 _ _ hf _ _ _ hs (lv_sub hl [1, 2, 3, 4, 5, 0] rfl)
def f_X7_orderFrom_107 (Rc : cb_St → Int32 → Int32 → Int32 → Int32 → Option (Int32 × cb_St)) (K29 : cb_St → Int32 → Option (Int32 × cb_St)) (x1 : Int32) (x2 : Int32) (x3 : Int32) (x4 : Int32) (σ : cb_St) (x5 : Int32) (s0 : Int32) : Option (Int32 × cb_St) := cb_ck (0 ≤ Int32.toInt x5 ∧ Int32.toInt x5 < 6) (cb_let (cb_sI σ 1 (Int32.toNatClampNeg x5) (-1)) (fun σ_1 => if s0 = (-1) then (f_X7_orderFrom_126 Rc K29 x1 x2 x3 x4 σ_1 x5) else (some (s0, σ_1))))
set_option maxHeartbeats 4000000 in
set_option maxRecDepth 100000 in
theorem w_X7_orderFrom_107 {d : Nat} (C : cb_C p s m args meth c cX7_orderFrom 7 (some .int) RX7 D T) {Rc : cb_St → Int32 → Int32 → Int32 → Int32 → Option (Int32 × cb_St)} {K29 : cb_St → Int32 → Option (Int32 × cb_St)} {x1 : Int32} {x2 : Int32} {x3 : Int32} {x4 : Int32} {o : Int32 × cb_St} (hRc : ∀ {σ : cb_St} {x1 : Int32} {x2 : Int32} {x3 : Int32} {x4 : Int32} {o : Int32 × cb_St}, Rc σ x1 x2 x3 x4 = some o → cb_M l yX7_orderFrom cX7_orderFrom 7 (some .int) (4 + d) shC A T D σ [.ref (A 0), .int x1, .int x2, .int x3, .int x4] (some (.int o.1)) o.2) (hK29 : ∀ (σ : cb_St) (x5 : Int32), K29 σ x5 = some o → ∀ (H : Heap) (locs : List Loc) (ls : Array Slot), cb_H shC A T D σ s.heap H locs → lv_has ls 7 [(0, .ref (A 0)), (1, .int x1), (2, .int x2), (3, .int x3), (4, .int x4), (5, .int x5)] → cb_W p l e (4 + (d + 1)) s m args below meth c shC A T D (some (.int o.1)) o.2 H locs (F0 m 29 ls [])) {σ : cb_St} {x5 : Int32} {s0 : Int32} (hf : f_X7_orderFrom_107 Rc K29 x1 x2 x3 x4 σ x5 s0 = some o) {H : Heap} {locs : List Loc} {ls : Array Slot} (hs : cb_H shC A T D σ s.heap H locs) (hl : lv_has ls 7 [(0, .ref (A 0)), (1, .int x1), (2, .int x2), (3, .int x3), (4, .int x4), (5, .int x5)]) : cb_W p l e (4 + (d + 1)) s m args below meth c shC A T D (some (.int o.1)) o.2 H locs (F0 m 107 ls [.int s0]) := by
  obtain ⟨hx, hb, hml, hr, hown, hts, hK, hlk, hN⟩ := id C
  unfold f_X7_orderFrom_107 at hf
  refine lv_istore (lv' := [(6, .int s0), (0, .ref (A 0)), (1, .int x1), (2, .int x2), (3, .int x3), (4, .int x4), (5, .int x5)]) hx hb dX7_orderFrom_107 hl (by decide) rfl (fun ls hl => ?_)
  refine lv_aload_n hx hb dX7_orderFrom_109 rfl (lv_at hl 1 rfl) ?_
  refine gf_X7_9 C hs rfl dX7_orderFrom_110 ?_
  refine lv_iload hx hb dX7_orderFrom_113 (lv_at hl 6 rfl) ?_
  refine lv_iconst (v := (-1)) hx hb dX7_orderFrom_115 (by decide) ?_
  obtain ⟨hc, hf⟩ := cb_ck_inv hf
  refine cb_iast C hs rfl (vp_in_iff.mpr hc) dX7_orderFrom_116 (fun H locs hs => ?_)
  obtain ⟨σ_1, e9, hf⟩ := cb_let_inv hf
  replace hs := cb_Hc e9 hs
  clear e9
  refine lv_iload hx hb dX7_orderFrom_117 (lv_at hl 0 rfl) ?_
  refine lv_iconst (v := (-1)) hx hb dX7_orderFrom_119 (by decide) ?_
  refine lv_icmp_eq (tgt := 126) hx hb dX7_orderFrom_120 (by decide) (fun cn => ?_) (fun cn => ?_)
  · replace hf := cb_ifp cn hf
    exact w_X7_orderFrom_126 C hRc hK29 hf hs (lv_sub hl [1, 2, 3, 4, 5, 6] rfl)
  · replace hf := cb_ifn cn hf
    refine lv_iload hx hb dX7_orderFrom_123 (lv_at hl 0 rfl) ?_
    have hf := Option.some.inj hf
    subst hf
    exact cb_reti C hs dX7_orderFrom_125
def f_X7_orderFrom_29 (Rc : cb_St → Int32 → Int32 → Int32 → Int32 → Option (Int32 × cb_St)) (x1 : Int32) (x2 : Int32) (x3 : Int32) (x4 : Int32) : Nat → cb_St → Int32 → Option (Int32 × cb_St)
  | 0, _, _ => none
  | fu + 1, σ, x5 => if (σ.1 9 5) ≤ x5 then (f_X7_orderFrom_132 Rc x1 x2 x3 x4 σ) else (if 6 ≤ x5 then (f_X7_orderFrom_132 Rc x1 x2 x3 x4 σ) else (cb_ck (0 ≤ Int32.toInt x5 ∧ Int32.toInt x5 < 6) (if (σ.1 1 (Int32.toNatClampNeg x5)) = (-1) then (cb_bp (f_X4_cardAt 13 x1 σ) (fun r_1 => cb_ck (0 ≤ Int32.toInt x5 ∧ Int32.toInt x5 < 6) (cb_let (cb_sI σ 1 (Int32.toNatClampNeg x5) r_1) (fun σ_2 => cb_bp (f_X7_isNoHindrance x5 x3 σ_2) (fun r_3 => if r_3 = 0 then (f_X7_orderFrom_107 Rc (f_X7_orderFrom_29 Rc x1 x2 x3 x4 fu) x1 x2 x3 x4 σ_2 x5 (-1)) else (cb_bi (Rc σ_2 (x1 + 1) x2 x3 (((10 * x4) + x5) + 1)) (fun r_4 σ_5 => f_X7_orderFrom_107 Rc (f_X7_orderFrom_29 Rc x1 x2 x3 x4 fu) x1 x2 x3 x4 σ_5 x5 r_4))))))) else (f_X7_orderFrom_126 Rc (f_X7_orderFrom_29 Rc x1 x2 x3 x4 fu) x1 x2 x3 x4 σ x5))))
set_option maxHeartbeats 4000000 in
set_option maxRecDepth 100000 in
theorem w_X7_orderFrom_29 {d : Nat} (C : cb_C p s m args meth c cX7_orderFrom 7 (some .int) RX7 D T) {Rc : cb_St → Int32 → Int32 → Int32 → Int32 → Option (Int32 × cb_St)} {x1 : Int32} {x2 : Int32} {x3 : Int32} {x4 : Int32} {o : Int32 × cb_St} (hRc : ∀ {σ : cb_St} {x1 : Int32} {x2 : Int32} {x3 : Int32} {x4 : Int32} {o : Int32 × cb_St}, Rc σ x1 x2 x3 x4 = some o → cb_M l yX7_orderFrom cX7_orderFrom 7 (some .int) (4 + d) shC A T D σ [.ref (A 0), .int x1, .int x2, .int x3, .int x4] (some (.int o.1)) o.2) : ∀ (fu : Nat) (σ : cb_St) (x5 : Int32), f_X7_orderFrom_29 Rc x1 x2 x3 x4 fu σ x5 = some o → ∀ (H : Heap) (locs : List Loc) (ls : Array Slot), cb_H shC A T D σ s.heap H locs → lv_has ls 7 [(0, .ref (A 0)), (1, .int x1), (2, .int x2), (3, .int x3), (4, .int x4), (5, .int x5)] → cb_W p l e (4 + (d + 1)) s m args below meth c shC A T D (some (.int o.1)) o.2 H locs (F0 m 29 ls []) := by
  obtain ⟨hx, hb, hml, hr, hown, hts, hK, hlk, hN⟩ := id C
  intro fu
  induction fu with
  | zero =>
    intro σ x5 hf
    rw [f_X7_orderFrom_29] at hf
    cases hf
  | succ fu ih =>
    intro σ x5 hf H locs ls hs hl
    rw [f_X7_orderFrom_29] at hf
    refine lv_iload hx hb dX7_orderFrom_29 (lv_at hl 5 rfl) ?_
    refine lv_aload_n hx hb dX7_orderFrom_31 rfl (lv_at hl 0 rfl) ?_
    refine gf_X7_26 C hs rfl dX7_orderFrom_32 ?_
    refine gf_X7_105 C hs cb_tb9.1 dX7_orderFrom_35 ?_
    refine lv_icmp_ge (tgt := 132) hx hb dX7_orderFrom_38 (by decide) (fun cn => ?_) (fun cn => ?_)
    · replace hf := cb_ifp cn hf
      exact w_X7_orderFrom_132 C hRc hf hs (lv_sub hl [0, 1, 2, 3, 4] rfl)
    · replace hf := cb_ifn cn hf
      refine lv_iload hx hb dX7_orderFrom_41 (lv_at hl 5 rfl) ?_
      refine lv_bipush (v := 6) hx hb dX7_orderFrom_43 (by decide) ?_
      refine lv_icmp_ge (tgt := 132) hx hb dX7_orderFrom_45 (by decide) (fun cn => ?_) (fun cn => ?_)
      · replace hf := cb_ifp cn hf
        exact w_X7_orderFrom_132 C hRc hf hs (lv_sub hl [0, 1, 2, 3, 4] rfl)
      · replace hf := cb_ifn cn hf
        refine lv_aload_n hx hb dX7_orderFrom_48 rfl (lv_at hl 0 rfl) ?_
        refine gf_X7_9 C hs rfl dX7_orderFrom_49 ?_
        refine lv_iload hx hb dX7_orderFrom_52 (lv_at hl 5 rfl) ?_
        obtain ⟨hc, hf⟩ := cb_ck_inv hf
        refine cb_iald C hs rfl (vp_in_iff.mpr hc) dX7_orderFrom_54 ?_
        refine lv_iconst (v := (-1)) hx hb dX7_orderFrom_55 (by decide) ?_
        refine lv_icmp_ne (tgt := 126) hx hb dX7_orderFrom_56 (by decide) (fun cn => ?_) (fun cn => ?_)
        · replace hf := cb_ifn cn hf
          exact w_X7_orderFrom_126 C hRc ih hf hs (lv_sub hl [0, 1, 2, 3, 4, 5] rfl)
        · replace hf := cb_ifp cn hf
          refine lv_aload_n hx hb dX7_orderFrom_59 rfl (lv_at hl 0 rfl) ?_
          refine gf_X7_9 C hs rfl dX7_orderFrom_60 ?_
          refine lv_iload hx hb dX7_orderFrom_63 (lv_at hl 5 rfl) ?_
          refine lv_aload_n hx hb dX7_orderFrom_65 rfl (lv_at hl 0 rfl) ?_
          refine gf_X7_33 C hs rfl dX7_orderFrom_66 ?_
          refine lv_iload_n hx hb dX7_orderFrom_69 rfl (lv_at hl 1 rfl) ?_
          obtain ⟨r_1, hc, hf⟩ := cb_bp_inv hf
          refine cb_callVi C (c_X4_cardAt cb_pl13 hc) mw_X4_cardAt ml_X7_164 rfl ⟨by omega, by omega⟩ cb_pl13.1 (Nat.le_of_ble_eq_true rfl) rfl hs hl rfl (Nat.le_of_ble_eq_true rfl) dX7_orderFrom_70 (fun H locs hs => ?_)
          clear hc
          obtain ⟨hc, hf⟩ := cb_ck_inv hf
          refine cb_iast C hs rfl (vp_in_iff.mpr hc) dX7_orderFrom_73 (fun H locs hs => ?_)
          obtain ⟨σ_2, e9, hf⟩ := cb_let_inv hf
          replace hs := cb_Hc e9 hs
          clear e9
          refine lv_aload_n hx hb dX7_orderFrom_74 rfl (lv_at hl 0 rfl) ?_
          refine lv_iload hx hb dX7_orderFrom_75 (lv_at hl 5 rfl) ?_
          refine lv_iload_n hx hb dX7_orderFrom_77 rfl (lv_at hl 3 rfl) ?_
          obtain ⟨r_3, hc, hf⟩ := cb_bp_inv hf
          refine cb_callVi C (c_X7_isNoHindrance  hc) mw_X7_isNoHindrance ml_X7_326 rfl ⟨by omega, by omega⟩ rfl (Nat.le_of_ble_eq_true rfl) rfl hs hl rfl (Nat.le_of_ble_eq_true rfl) dX7_orderFrom_78 (fun H locs hs => ?_)
          clear hc
          refine lv_if_eq (tgt := 106) hx hb dX7_orderFrom_81 (by decide) (fun cn => ?_) (fun cn => ?_)
          · replace hf := cb_ifp cn hf
            refine lv_iconst (v := (-1)) hx hb dX7_orderFrom_106 (by decide) ?_
            exact w_X7_orderFrom_107 C hRc ih hf hs (lv_sub hl [0, 1, 2, 3, 4, 5] rfl)
          · replace hf := cb_ifn cn hf
            refine lv_aload_n hx hb dX7_orderFrom_84 rfl (lv_at hl 0 rfl) ?_
            refine lv_iload_n hx hb dX7_orderFrom_85 rfl (lv_at hl 1 rfl) ?_
            refine lv_iconst (v := 1) hx hb dX7_orderFrom_86 (by decide) ?_
            refine lv_iadd hx hb dX7_orderFrom_87 ?_
            refine lv_iload_n hx hb dX7_orderFrom_88 rfl (lv_at hl 2 rfl) ?_
            refine lv_iload_n hx hb dX7_orderFrom_89 rfl (lv_at hl 3 rfl) ?_
            refine lv_bipush (v := 10) hx hb dX7_orderFrom_90 (by decide) ?_
            refine lv_iload hx hb dX7_orderFrom_92 (lv_at hl 4 rfl) ?_
            refine lv_imul hx hb dX7_orderFrom_94 ?_
            refine lv_iload hx hb dX7_orderFrom_95 (lv_at hl 5 rfl) ?_
            refine lv_iadd hx hb dX7_orderFrom_97 ?_
            refine lv_iconst (v := 1) hx hb dX7_orderFrom_98 (by decide) ?_
            refine lv_iadd hx hb dX7_orderFrom_99 ?_
            obtain ⟨r_4, σ_5, hc, hf⟩ := cb_bi_inv hf
            refine cb_callVi C (hRc hc) mw_X7_orderFrom ml_X7_251 rfl ⟨by omega, by omega⟩ rfl (Nat.le_of_ble_eq_true rfl) rfl hs hl rfl (Nat.le_of_ble_eq_true rfl) dX7_orderFrom_100 (fun H locs hs => ?_)
            clear hc
            refine lv_goto (tgt := 107) hx hb dX7_orderFrom_103 (by decide) ?_
            exact w_X7_orderFrom_107 C hRc ih hf hs (lv_sub hl [0, 1, 2, 3, 4, 5] rfl)
def f_X7_orderFrom_11 (Rc : cb_St → Int32 → Int32 → Int32 → Int32 → Option (Int32 × cb_St)) (x1 : Int32) (x2 : Int32) (x3 : Int32) (x4 : Int32) (σ : cb_St) : Option (Int32 × cb_St) := cb_bp (f_X7_setWins x3 σ) (fun r_1 => if r_1 = 0 then (some ((-1), σ)) else (some (x4, σ)))
set_option maxHeartbeats 4000000 in
set_option maxRecDepth 100000 in
theorem w_X7_orderFrom_11 {d : Nat} (C : cb_C p s m args meth c cX7_orderFrom 7 (some .int) RX7 D T) {Rc : cb_St → Int32 → Int32 → Int32 → Int32 → Option (Int32 × cb_St)} {x1 : Int32} {x2 : Int32} {x3 : Int32} {x4 : Int32} {o : Int32 × cb_St} (hRc : ∀ {σ : cb_St} {x1 : Int32} {x2 : Int32} {x3 : Int32} {x4 : Int32} {o : Int32 × cb_St}, Rc σ x1 x2 x3 x4 = some o → cb_M l yX7_orderFrom cX7_orderFrom 7 (some .int) (4 + d) shC A T D σ [.ref (A 0), .int x1, .int x2, .int x3, .int x4] (some (.int o.1)) o.2) {σ : cb_St} (hf : f_X7_orderFrom_11 Rc x1 x2 x3 x4 σ = some o) {H : Heap} {locs : List Loc} {ls : Array Slot} (hs : cb_H shC A T D σ s.heap H locs) (hl : lv_has ls 7 [(0, .ref (A 0)), (1, .int x1), (2, .int x2), (3, .int x3), (4, .int x4)]) : cb_W p l e (4 + (d + 1)) s m args below meth c shC A T D (some (.int o.1)) o.2 H locs (F0 m 11 ls []) := by
  obtain ⟨hx, hb, hml, hr, hown, hts, hK, hlk, hN⟩ := id C
  unfold f_X7_orderFrom_11 at hf
  refine lv_aload_n hx hb dX7_orderFrom_11 rfl (lv_at hl 0 rfl) ?_
  refine lv_iload_n hx hb dX7_orderFrom_12 rfl (lv_at hl 3 rfl) ?_
  obtain ⟨r_1, hc, hf⟩ := cb_bp_inv hf
  refine cb_callVi C (c_X7_setWins  hc) mw_X7_setWins ml_X7_323 rfl ⟨by omega, by omega⟩ rfl (Nat.le_of_ble_eq_true rfl) rfl hs hl rfl (Nat.le_of_ble_eq_true rfl) dX7_orderFrom_13 (fun H locs hs => ?_)
  clear hc
  refine lv_if_eq (tgt := 24) hx hb dX7_orderFrom_16 (by decide) (fun cn => ?_) (fun cn => ?_)
  · replace hf := cb_ifp cn hf
    refine lv_iconst (v := (-1)) hx hb dX7_orderFrom_24 (by decide) ?_
    have hf := Option.some.inj hf
    subst hf
    exact cb_reti C hs dX7_orderFrom_25
  · replace hf := cb_ifn cn hf
    refine lv_iload hx hb dX7_orderFrom_19 (lv_at hl 4 rfl) ?_
    refine lv_goto (tgt := 25) hx hb dX7_orderFrom_21 (by decide) ?_
    have hf := Option.some.inj hf
    subst hf
    exact cb_reti C hs dX7_orderFrom_25
def f_X7_orderFrom_0 (Rc : cb_St → Int32 → Int32 → Int32 → Int32 → Option (Int32 × cb_St)) (x1 : Int32) (x2 : Int32) (x3 : Int32) (x4 : Int32) (σ : cb_St) : Option (Int32 × cb_St) := if x2 ≤ x1 then (f_X7_orderFrom_11 Rc x1 x2 x3 x4 σ) else (if x1 < 6 then (f_X7_orderFrom_29 Rc x1 x2 x3 x4 cb_fu σ 0) else (f_X7_orderFrom_11 Rc x1 x2 x3 x4 σ))
def f_X7_orderFrom : Nat → Int32 → Int32 → Int32 → Int32 → cb_St → Option (Int32 × cb_St)
  | 0, _, _, _, _, _ => none
  | d + 1, x1, x2, x3, x4, σ => f_X7_orderFrom_0 (fun σ x1 x2 x3 x4 => f_X7_orderFrom d x1 x2 x3 x4 σ) x1 x2 x3 x4 σ
set_option maxHeartbeats 4000000 in
set_option maxRecDepth 100000 in
theorem c_X7_orderFrom : ∀ (d : Nat) {x1 : Int32} {x2 : Int32} {x3 : Int32} {x4 : Int32} {σ : cb_St} {o : Int32 × cb_St}, f_X7_orderFrom d x1 x2 x3 x4 σ = some o → cb_M l yX7_orderFrom cX7_orderFrom 7 (some .int) (4 + d) shC A T D σ [.ref (A 0), .int x1, .int x2, .int x3, .int x4] (some (.int o.1)) o.2 := by
  intro d
  induction d with
  | zero =>
    intro x1 x2 x3 x4 σ o hf
    rw [f_X7_orderFrom] at hf
    cases hf
  | succ d hRc =>
    intro x1 x2 x3 x4 σ o hf
    rw [f_X7_orderFrom] at hf
    refine cb_met (by decide +kernel) (Nat.le_of_ble_eq_true rfl) ?_
    intro p e s m below meth c C hs ls hl
    have hl : lv_has ls 7 [(0, .ref (A 0)), (1, .int x1), (2, .int x2), (3, .int x3), (4, .int x4)] := hl
    obtain ⟨hx, hb, hml, hr, hown, hts, hK, hlk, hN⟩ := id C
    unfold f_X7_orderFrom_0 at hf
    refine lv_iload_n hx hb dX7_orderFrom_0 rfl (lv_at hl 1 rfl) ?_
    refine lv_iload_n hx hb dX7_orderFrom_1 rfl (lv_at hl 2 rfl) ?_
    refine lv_icmp_ge (tgt := 11) hx hb dX7_orderFrom_2 (by decide) (fun cn => ?_) (fun cn => ?_)
    · replace hf := cb_ifp cn hf
      exact w_X7_orderFrom_11 C hRc hf hs (lv_sub hl [0, 1, 2, 3, 4] rfl)
    · replace hf := cb_ifn cn hf
      refine lv_iload_n hx hb dX7_orderFrom_5 rfl (lv_at hl 1 rfl) ?_
      refine lv_bipush (v := 6) hx hb dX7_orderFrom_6 (by decide) ?_
      refine lv_icmp_lt (tgt := 26) hx hb dX7_orderFrom_8 (by decide) (fun cn => ?_) (fun cn => ?_)
      · replace hf := cb_ifp cn hf
        refine lv_iconst (v := 0) hx hb dX7_orderFrom_26 (by decide) ?_
        refine lv_istore (lv' := [(5, .int 0), (0, .ref (A 0)), (1, .int x1), (2, .int x2), (3, .int x3), (4, .int x4)]) hx hb dX7_orderFrom_27 hl (by decide) rfl (fun ls hl => ?_)
        exact w_X7_orderFrom_29 C hRc cb_fu _ _ hf _ _ _ hs (lv_sub hl [1, 2, 3, 4, 5, 0] rfl)
      · replace hf := cb_ifn cn hf
        exact w_X7_orderFrom_11 C hRc hf hs (lv_sub hl [0, 1, 2, 3, 4] rfl)
/-! ===== CardBecome.order ===== -/
def f_X7_order_68 (K24 : cb_St → Int32 → Int32 → Option (Int32 × cb_St)) (x1 : Int32) (σ : cb_St) (x2 : Int32) (x3 : Int32) : Option (Int32 × cb_St) := cb_let (x3 + 1) (fun x3_0 => K24 σ x2 x3_0)
set_option maxHeartbeats 4000000 in
set_option maxRecDepth 100000 in
theorem w_X7_order_68 (C : cb_C p s m args meth c cX7_order 4 (some .int) RX7 D T) {K24 : cb_St → Int32 → Int32 → Option (Int32 × cb_St)} {x1 : Int32} {o : Int32 × cb_St} (hK24 : ∀ (σ : cb_St) (x2 : Int32) (x3 : Int32), K24 σ x2 x3 = some o → ∀ (H : Heap) (locs : List Loc) (ls : Array Slot), cb_H shC A T D σ s.heap H locs → lv_has ls 4 [(0, .ref (A 0)), (1, .int x1), (2, .int x2), (3, .int x3)] → cb_W p l e 14 s m args below meth c shC A T D (some (.int o.1)) o.2 H locs (F0 m 24 ls [])) {σ : cb_St} {x2 : Int32} {x3 : Int32} (hf : f_X7_order_68 K24 x1 σ x2 x3 = some o) {H : Heap} {locs : List Loc} {ls : Array Slot} (hs : cb_H shC A T D σ s.heap H locs) (hl : lv_has ls 4 [(0, .ref (A 0)), (1, .int x1), (2, .int x2), (3, .int x3)]) : cb_W p l e 14 s m args below meth c shC A T D (some (.int o.1)) o.2 H locs (F0 m 68 ls []) := by
  obtain ⟨hx, hb, hml, hr, hown, hts, hK, hlk, hN⟩ := id C
  unfold f_X7_order_68 at hf
  obtain ⟨x3_0, e9, hf⟩ := cb_let_inv hf
  refine lv_iinc (v := x3_0) (lv' := [(3, .int x3_0), (0, .ref (A 0)), (1, .int x1), (2, .int x2)]) hx hb dX7_order_68 hl (k := 3) rfl (by rw [e9]; rfl) (by decide) rfl (fun ls hl => ?_)
  clear e9
  refine lv_goto (tgt := 24) hx hb dX7_order_71 (by decide) ?_
  exact hK24 _ _ _ hf _ _ _ hs (lv_sub hl [1, 2, 3, 0] rfl)
def f_X7_order_24 (x1 : Int32) : Nat → cb_St → Int32 → Int32 → Option (Int32 × cb_St)
  | 0, _, _, _ => none
  | fu + 1, σ, x2, x3 => if 6 ≤ x3 then (cb_bp (f_J9_min_7cf53 x2 (σ.1 13 0) σ) (fun r_1 => cb_bi (f_X7_orderFrom cb_rd 0 r_1 x1 0 σ) (fun r_2 σ_3 => some (r_2, σ_3)))) else (cb_bp (f_X4_cardOf 13 x3 σ) (fun r_4 => cb_ck (0 ≤ Int32.toInt x3 ∧ Int32.toInt x3 < 6) (cb_let (cb_sI σ 1 (Int32.toNatClampNeg x3) r_4) (fun σ_5 => if (σ_5.1 9 5) ≤ x3 then (f_X7_order_68 (f_X7_order_24 x1 fu) x1 σ_5 x2 x3) else (cb_ck (0 ≤ Int32.toInt x3 ∧ Int32.toInt x3 < 6) (if (σ_5.1 1 (Int32.toNatClampNeg x3)) = (-1) then (cb_let (x2 + 1) (fun x2_5 => f_X7_order_68 (f_X7_order_24 x1 fu) x1 σ_5 x2_5 x3)) else (f_X7_order_68 (f_X7_order_24 x1 fu) x1 σ_5 x2 x3)))))))
set_option maxHeartbeats 4000000 in
set_option maxRecDepth 100000 in
theorem w_X7_order_24 (C : cb_C p s m args meth c cX7_order 4 (some .int) RX7 D T) {x1 : Int32} {o : Int32 × cb_St}  : ∀ (fu : Nat) (σ : cb_St) (x2 : Int32) (x3 : Int32), f_X7_order_24 x1 fu σ x2 x3 = some o → ∀ (H : Heap) (locs : List Loc) (ls : Array Slot), cb_H shC A T D σ s.heap H locs → lv_has ls 4 [(0, .ref (A 0)), (1, .int x1), (2, .int x2), (3, .int x3)] → cb_W p l e 14 s m args below meth c shC A T D (some (.int o.1)) o.2 H locs (F0 m 24 ls []) := by
  obtain ⟨hx, hb, hml, hr, hown, hts, hK, hlk, hN⟩ := id C
  intro fu
  induction fu with
  | zero =>
    intro σ x2 x3 hf
    rw [f_X7_order_24] at hf
    cases hf
  | succ fu ih =>
    intro σ x2 x3 hf H locs ls hs hl
    rw [f_X7_order_24] at hf
    refine lv_iload_n hx hb dX7_order_24 rfl (lv_at hl 3 rfl) ?_
    refine lv_bipush (v := 6) hx hb dX7_order_25 (by decide) ?_
    refine lv_icmp_ge (tgt := 74) hx hb dX7_order_27 (by decide) (fun cn => ?_) (fun cn => ?_)
    · replace hf := cb_ifp cn hf
      refine lv_aload_n hx hb dX7_order_74 rfl (lv_at hl 0 rfl) ?_
      refine lv_iconst (v := 0) hx hb dX7_order_75 (by decide) ?_
      refine lv_iload_n hx hb dX7_order_76 rfl (lv_at hl 2 rfl) ?_
      refine lv_aload_n hx hb dX7_order_77 rfl (lv_at hl 0 rfl) ?_
      refine gf_X7_33 C hs rfl dX7_order_78 ?_
      refine gf_X7_120 C hs cb_pl13.1 dX7_order_81 ?_
      obtain ⟨r_1, hc, hf⟩ := cb_bp_inv hf
      refine cb_callSi C (c_J9_min_7cf53  hc) mw_J9_min_7cf53 ml_X7_246 rfl ⟨Nat.le_of_ble_eq_true rfl, Nat.le_of_ble_eq_true rfl⟩ hs hl rfl (Nat.le_of_ble_eq_true rfl) dX7_order_84 (fun H locs hs => ?_)
      clear hc
      refine lv_iload_n hx hb dX7_order_87 rfl (lv_at hl 1 rfl) ?_
      refine lv_iconst (v := 0) hx hb dX7_order_88 (by decide) ?_
      obtain ⟨r_2, σ_3, hc, hf⟩ := cb_bi_inv hf
      refine cb_callVi C (c_X7_orderFrom cb_rd hc) mw_X7_orderFrom ml_X7_251 rfl ⟨Nat.le_of_ble_eq_true rfl, Nat.le_of_ble_eq_true rfl⟩ rfl (Nat.le_of_ble_eq_true rfl) rfl hs hl rfl (Nat.le_of_ble_eq_true rfl) dX7_order_89 (fun H locs hs => ?_)
      clear hc
      have hf := Option.some.inj hf
      subst hf
      exact cb_reti C hs dX7_order_92
    · replace hf := cb_ifn cn hf
      refine lv_aload_n hx hb dX7_order_30 rfl (lv_at hl 0 rfl) ?_
      refine gf_X7_9 C hs rfl dX7_order_31 ?_
      refine lv_iload_n hx hb dX7_order_34 rfl (lv_at hl 3 rfl) ?_
      refine lv_aload_n hx hb dX7_order_35 rfl (lv_at hl 0 rfl) ?_
      refine gf_X7_33 C hs rfl dX7_order_36 ?_
      refine lv_iload_n hx hb dX7_order_39 rfl (lv_at hl 3 rfl) ?_
      obtain ⟨r_4, hc, hf⟩ := cb_bp_inv hf
      refine cb_callVi C (c_X4_cardOf cb_pl13 hc) mw_X4_cardOf ml_X7_170 rfl ⟨Nat.le_of_ble_eq_true rfl, Nat.le_of_ble_eq_true rfl⟩ cb_pl13.1 (Nat.le_of_ble_eq_true rfl) rfl hs hl rfl (Nat.le_of_ble_eq_true rfl) dX7_order_40 (fun H locs hs => ?_)
      clear hc
      obtain ⟨hc, hf⟩ := cb_ck_inv hf
      refine cb_iast C hs rfl (vp_in_iff.mpr hc) dX7_order_43 (fun H locs hs => ?_)
      obtain ⟨σ_5, e9, hf⟩ := cb_let_inv hf
      replace hs := cb_Hc e9 hs
      clear e9
      refine lv_iload_n hx hb dX7_order_44 rfl (lv_at hl 3 rfl) ?_
      refine lv_aload_n hx hb dX7_order_45 rfl (lv_at hl 0 rfl) ?_
      refine gf_X7_26 C hs rfl dX7_order_46 ?_
      refine gf_X7_105 C hs cb_tb9.1 dX7_order_49 ?_
      refine lv_icmp_ge (tgt := 68) hx hb dX7_order_52 (by decide) (fun cn => ?_) (fun cn => ?_)
      · replace hf := cb_ifp cn hf
        exact w_X7_order_68 C ih hf hs (lv_sub hl [0, 1, 2, 3] rfl)
      · replace hf := cb_ifn cn hf
        refine lv_aload_n hx hb dX7_order_55 rfl (lv_at hl 0 rfl) ?_
        refine gf_X7_9 C hs rfl dX7_order_56 ?_
        refine lv_iload_n hx hb dX7_order_59 rfl (lv_at hl 3 rfl) ?_
        obtain ⟨hc, hf⟩ := cb_ck_inv hf
        refine cb_iald C hs rfl (vp_in_iff.mpr hc) dX7_order_60 ?_
        refine lv_iconst (v := (-1)) hx hb dX7_order_61 (by decide) ?_
        refine lv_icmp_ne (tgt := 68) hx hb dX7_order_62 (by decide) (fun cn => ?_) (fun cn => ?_)
        · replace hf := cb_ifn cn hf
          exact w_X7_order_68 C ih hf hs (lv_sub hl [0, 1, 2, 3] rfl)
        · replace hf := cb_ifp cn hf
          obtain ⟨x2_5, e9, hf⟩ := cb_let_inv hf
          refine lv_iinc (v := x2_5) (lv' := [(2, .int x2_5), (0, .ref (A 0)), (1, .int x1), (3, .int x3)]) hx hb dX7_order_65 hl (k := 2) rfl (by rw [e9]; rfl) (by decide) rfl (fun ls hl => ?_)
          clear e9
          exact w_X7_order_68 C ih hf hs (lv_sub hl [1, 2, 0, 3] rfl)
def f_X7_order_17 (x1 : Int32) (σ : cb_St) : Option (Int32 × cb_St) := some ((-1000000001), σ)
set_option maxHeartbeats 4000000 in
set_option maxRecDepth 100000 in
theorem w_X7_order_17 (C : cb_C p s m args meth c cX7_order 4 (some .int) RX7 D T) {x1 : Int32} {o : Int32 × cb_St}  {σ : cb_St} (hf : f_X7_order_17 x1 σ = some o) {H : Heap} {locs : List Loc} {ls : Array Slot} (hs : cb_H shC A T D σ s.heap H locs) (hl : lv_has ls 4 [(0, .ref (A 0)), (1, .int x1)]) : cb_W p l e 14 s m args below meth c shC A T D (some (.int o.1)) o.2 H locs (F0 m 17 ls []) := by
  obtain ⟨hx, hb, hml, hr, hown, hts, hK, hlk, hN⟩ := id C
  unfold f_X7_order_17 at hf
  refine lv_ldc (v := (-1000000001)) hx hb hown (hts _ kc_X7_150) dX7_order_17 ?_
  have hf := Option.some.inj hf
  subst hf
  exact cb_reti C hs dX7_order_19
def f_X7_order (x1 : Int32) (σ : cb_St) : Option (Int32 × cb_St) := if x1 < 0 then (f_X7_order_17 x1 σ) else (if x1 < (1 <<< ((σ.1 9 5) &&& 31)) then (f_X7_order_24 x1 cb_fu σ 0 0) else (f_X7_order_17 x1 σ))
set_option maxHeartbeats 4000000 in
set_option maxRecDepth 100000 in
theorem c_X7_order {x1 : Int32}  {σ : cb_St} {o : Int32 × cb_St} (hf : f_X7_order x1 σ = some o) : cb_M l yX7_order cX7_order 4 (some .int) 14 shC A T D σ [.ref (A 0), .int x1] (some (.int o.1)) o.2 := by
  refine cb_met (by decide +kernel) (Nat.le_of_ble_eq_true rfl) ?_
  intro p e s m below meth c C hs ls hl
  have hl : lv_has ls 4 [(0, .ref (A 0)), (1, .int x1)] := hl
  obtain ⟨hx, hb, hml, hr, hown, hts, hK, hlk, hN⟩ := id C
  unfold f_X7_order at hf
  refine lv_iload_n hx hb dX7_order_0 rfl (lv_at hl 1 rfl) ?_
  refine lv_if_lt (tgt := 17) hx hb dX7_order_1 (by decide) (fun cn => ?_) (fun cn => ?_)
  · replace hf := cb_ifp cn hf
    exact w_X7_order_17 C  hf hs (lv_sub hl [0, 1] rfl)
  · replace hf := cb_ifn cn hf
    refine lv_iload_n hx hb dX7_order_4 rfl (lv_at hl 1 rfl) ?_
    refine lv_iconst (v := 1) hx hb dX7_order_5 (by decide) ?_
    refine lv_aload_n hx hb dX7_order_6 rfl (lv_at hl 0 rfl) ?_
    refine gf_X7_26 C hs rfl dX7_order_7 ?_
    refine gf_X7_105 C hs cb_tb9.1 dX7_order_10 ?_
    refine lv_ishl hx hb dX7_order_13 ?_
    refine lv_icmp_lt (tgt := 20) hx hb dX7_order_14 (by decide) (fun cn => ?_) (fun cn => ?_)
    · replace hf := cb_ifp cn hf
      refine lv_iconst (v := 0) hx hb dX7_order_20 (by decide) ?_
      refine lv_istore_n (lv' := [(2, .int 0), (0, .ref (A 0)), (1, .int x1)]) hx hb dX7_order_21 rfl hl (by decide) rfl (fun ls hl => ?_)
      refine lv_iconst (v := 0) hx hb dX7_order_22 (by decide) ?_
      refine lv_istore_n (lv' := [(3, .int 0), (2, .int 0), (0, .ref (A 0)), (1, .int x1)]) hx hb dX7_order_23 rfl hl (by decide) rfl (fun ls hl => ?_)
      exact w_X7_order_24 C  cb_fu _ _ _ hf _ _ _ hs (lv_sub hl [2, 3, 1, 0] rfl)
    · replace hf := cb_ifn cn hf
      exact w_X7_order_17 C  hf hs (lv_sub hl [0, 1] rfl)
/-! ===== CardBecome.out ===== -/
def f_X7_out (x1 : Int32) (σ : cb_St) : Option (Int32 × cb_St) := cb_bp (f_X6_hasCard 9 x1 σ) (fun r_1 => if r_1 = 0 then (some ((-1000000001), σ)) else (if (((σ.1 13 1) >>> (x1 &&& 31)) &&& 1) = 0 then (some ((-1000000003), σ)) else (cb_bv (f_X3_push σ) (fun σ_2 => cb_bv (f_X4_takeOut 13 x1 σ_2) (fun σ_3 => some (σ_3.1 13 0, σ_3))))))
set_option maxHeartbeats 4000000 in
set_option maxRecDepth 100000 in
theorem c_X7_out {x1 : Int32}  {σ : cb_St} {o : Int32 × cb_St} (hf : f_X7_out x1 σ = some o) : cb_M l yX7_out cX7_out 2 (some .int) 3 shC A T D σ [.ref (A 0), .int x1] (some (.int o.1)) o.2 := by
  refine cb_met (by decide +kernel) (Nat.le_of_ble_eq_true rfl) ?_
  intro p e s m below meth c C hs ls hl
  have hl : lv_has ls 2 [(0, .ref (A 0)), (1, .int x1)] := hl
  obtain ⟨hx, hb, hml, hr, hown, hts, hK, hlk, hN⟩ := id C
  unfold f_X7_out at hf
  refine lv_aload_n hx hb dX7_out_0 rfl (lv_at hl 0 rfl) ?_
  refine gf_X7_26 C hs rfl dX7_out_1 ?_
  refine lv_iload_n hx hb dX7_out_4 rfl (lv_at hl 1 rfl) ?_
  obtain ⟨r_1, hc, hf⟩ := cb_bp_inv hf
  refine cb_callVi C (c_X6_hasCard cb_tb9 hc) mw_X6_hasCard ml_X7_147 rfl ⟨Nat.le_of_ble_eq_true rfl, Nat.le_of_ble_eq_true rfl⟩ cb_tb9.1 (Nat.le_of_ble_eq_true rfl) rfl hs hl rfl (Nat.le_of_ble_eq_true rfl) dX7_out_5 (fun H locs hs => ?_)
  clear hc
  refine lv_if_ne (tgt := 14) hx hb dX7_out_8 (by decide) (fun cn => ?_) (fun cn => ?_)
  · replace hf := cb_ifn cn hf
    refine lv_aload_n hx hb dX7_out_14 rfl (lv_at hl 0 rfl) ?_
    refine gf_X7_33 C hs rfl dX7_out_15 ?_
    refine gf_X7_123 C hs cb_pl13.1 dX7_out_18 ?_
    refine lv_iload_n hx hb dX7_out_21 rfl (lv_at hl 1 rfl) ?_
    refine lv_ishr hx hb dX7_out_22 ?_
    refine lv_iconst (v := 1) hx hb dX7_out_23 (by decide) ?_
    refine lv_iand hx hb dX7_out_24 ?_
    refine lv_if_ne (tgt := 31) hx hb dX7_out_25 (by decide) (fun cn => ?_) (fun cn => ?_)
    · replace hf := cb_ifn cn hf
      refine lv_aload_n hx hb dX7_out_31 rfl (lv_at hl 0 rfl) ?_
      refine gf_X7_40 C hs rfl dX7_out_32 ?_
      refine lv_aload_n hx hb dX7_out_35 rfl (lv_at hl 0 rfl) ?_
      refine gf_X7_33 C hs rfl dX7_out_36 ?_
      obtain ⟨σ_2, hc, hf⟩ := cb_bv_inv hf
      refine cb_callVv C (c_X3_push  hc) mw_X3_push ml_X7_199 rfl ⟨Nat.le_of_ble_eq_true rfl, Nat.le_of_ble_eq_true rfl⟩ rfl (Nat.le_of_ble_eq_true rfl) rfl hs hl rfl (Nat.le_of_ble_eq_true rfl) dX7_out_39 (fun H locs hs => ?_)
      clear hc
      refine lv_aload_n hx hb dX7_out_42 rfl (lv_at hl 0 rfl) ?_
      refine gf_X7_33 C hs rfl dX7_out_43 ?_
      refine lv_iload_n hx hb dX7_out_46 rfl (lv_at hl 1 rfl) ?_
      obtain ⟨σ_3, hc, hf⟩ := cb_bv_inv hf
      refine cb_callVv C (c_X4_takeOut cb_pl13 hc) mw_X4_takeOut ml_X7_230 rfl ⟨Nat.le_of_ble_eq_true rfl, Nat.le_of_ble_eq_true rfl⟩ cb_pl13.1 (Nat.le_of_ble_eq_true rfl) rfl hs hl rfl (Nat.le_of_ble_eq_true rfl) dX7_out_47 (fun H locs hs => ?_)
      clear hc
      refine lv_aload_n hx hb dX7_out_50 rfl (lv_at hl 0 rfl) ?_
      refine gf_X7_33 C hs rfl dX7_out_51 ?_
      refine gf_X7_120 C hs cb_pl13.1 dX7_out_54 ?_
      have hf := Option.some.inj hf
      subst hf
      exact cb_reti C hs dX7_out_57
    · replace hf := cb_ifp cn hf
      refine lv_ldc (v := (-1000000003)) hx hb hown (hts _ kc_X7_198) dX7_out_28 ?_
      have hf := Option.some.inj hf
      subst hf
      exact cb_reti C hs dX7_out_30
  · replace hf := cb_ifp cn hf
    refine lv_ldc (v := (-1000000001)) hx hb hown (hts _ kc_X7_150) dX7_out_11 ?_
    have hf := Option.some.inj hf
    subst hf
    exact cb_reti C hs dX7_out_13
/-! ===== CardBecome.pack ===== -/
def f_X7_pack (x1 : Int32) (σ : cb_St)  : Option (Int32) := cb_bp (f_X4_cardAt 13 x1 σ) (fun r_1 => some r_1)
set_option maxHeartbeats 4000000 in
set_option maxRecDepth 100000 in
theorem c_X7_pack {x1 : Int32} {σ : cb_St}   {o : Int32} (hf : f_X7_pack x1 σ = some o) : cb_M l yX7_pack cX7_pack 2 (some .int) 2 shC A T D σ [.ref (A 0), .int x1] (some (.int o)) σ := by
  refine cb_met (by decide +kernel) (Nat.le_of_ble_eq_true rfl) ?_
  intro p e s m below meth c C hs ls hl
  have hl : lv_has ls 2 [(0, .ref (A 0)), (1, .int x1)] := hl
  obtain ⟨hx, hb, hml, hr, hown, hts, hK, hlk, hN⟩ := id C
  unfold f_X7_pack at hf
  refine lv_aload_n hx hb dX7_pack_0 rfl (lv_at hl 0 rfl) ?_
  refine gf_X7_33 C hs rfl dX7_pack_1 ?_
  refine lv_iload_n hx hb dX7_pack_4 rfl (lv_at hl 1 rfl) ?_
  obtain ⟨r_1, hc, hf⟩ := cb_bp_inv hf
  refine cb_callVi C (c_X4_cardAt cb_pl13 hc) mw_X4_cardAt ml_X7_164 rfl ⟨Nat.le_of_ble_eq_true rfl, Nat.le_of_ble_eq_true rfl⟩ cb_pl13.1 (Nat.le_of_ble_eq_true rfl) rfl hs hl rfl (Nat.le_of_ble_eq_true rfl) dX7_pack_5 (fun H locs hs => ?_)
  clear hc
  have hf := Option.some.inj hf
  subst hf
  exact cb_reti C hs dX7_pack_8
/-! ===== CardBecome.person ===== -/
def f_X7_person (x1 : Int32) (x2 : Int32) (σ : cb_St)  : Option (Int32) := cb_bp (f_X6_hasPerson 9 x1 σ) (fun r_1 => if r_1 = 0 then (some (-1000000001)) else (if x2 = 0 then (cb_bp (f_X4_cardOf 13 x1 σ) (fun r_2 => some r_2)) else (if x2 = 1 then (cb_bp (f_X4_winsOf 13 x1 σ) (fun r_3 => some r_3)) else (if x2 = 2 then (cb_bp (f_X7_beatenBy x1 σ) (fun r_4 => some r_4)) else (some (-1000000002))))))
set_option maxHeartbeats 4000000 in
set_option maxRecDepth 100000 in
theorem c_X7_person {x1 : Int32} {x2 : Int32} {σ : cb_St}   {o : Int32} (hf : f_X7_person x1 x2 σ = some o) : cb_M l yX7_person cX7_person 3 (some .int) 5 shC A T D σ [.ref (A 0), .int x1, .int x2] (some (.int o)) σ := by
  refine cb_met (by decide +kernel) (Nat.le_of_ble_eq_true rfl) ?_
  intro p e s m below meth c C hs ls hl
  have hl : lv_has ls 3 [(0, .ref (A 0)), (1, .int x1), (2, .int x2)] := hl
  obtain ⟨hx, hb, hml, hr, hown, hts, hK, hlk, hN⟩ := id C
  unfold f_X7_person at hf
  refine lv_aload_n hx hb dX7_person_0 rfl (lv_at hl 0 rfl) ?_
  refine gf_X7_26 C hs rfl dX7_person_1 ?_
  refine lv_iload_n hx hb dX7_person_4 rfl (lv_at hl 1 rfl) ?_
  obtain ⟨r_1, hc, hf⟩ := cb_bp_inv hf
  refine cb_callVi C (c_X6_hasPerson cb_tb9 hc) mw_X6_hasPerson ml_X7_167 rfl ⟨Nat.le_of_ble_eq_true rfl, Nat.le_of_ble_eq_true rfl⟩ cb_tb9.1 (Nat.le_of_ble_eq_true rfl) rfl hs hl rfl (Nat.le_of_ble_eq_true rfl) dX7_person_5 (fun H locs hs => ?_)
  clear hc
  refine lv_if_ne (tgt := 14) hx hb dX7_person_8 (by decide) (fun cn => ?_) (fun cn => ?_)
  · replace hf := cb_ifn cn hf
    refine lv_iload_n hx hb dX7_person_14 rfl (lv_at hl 2 rfl) ?_
    by_cases cn0 : x2 = 0
    · replace hf := cb_ifp cn0 hf
      refine lv_tableIn (tgt := 40) hx hb dX7_person_15 (by rw [cn0]; decide) (by rw [cn0]; decide) (by rw [cn0]; rfl) (by decide) ?_
      refine lv_aload_n hx hb dX7_person_40 rfl (lv_at hl 0 rfl) ?_
      refine gf_X7_33 C hs rfl dX7_person_41 ?_
      refine lv_iload_n hx hb dX7_person_44 rfl (lv_at hl 1 rfl) ?_
      obtain ⟨r_2, hc, hf⟩ := cb_bp_inv hf
      refine cb_callVi C (c_X4_cardOf cb_pl13 hc) mw_X4_cardOf ml_X7_170 rfl ⟨Nat.le_of_ble_eq_true rfl, Nat.le_of_ble_eq_true rfl⟩ cb_pl13.1 (Nat.le_of_ble_eq_true rfl) rfl hs hl rfl (Nat.le_of_ble_eq_true rfl) dX7_person_45 (fun H locs hs => ?_)
      clear hc
      have hf := Option.some.inj hf
      subst hf
      exact cb_reti C hs dX7_person_48
    replace hf := cb_ifn cn0 hf
    by_cases cn1 : x2 = 1
    · replace hf := cb_ifp cn1 hf
      refine lv_tableIn (tgt := 49) hx hb dX7_person_15 (by rw [cn1]; decide) (by rw [cn1]; decide) (by rw [cn1]; rfl) (by decide) ?_
      refine lv_aload_n hx hb dX7_person_49 rfl (lv_at hl 0 rfl) ?_
      refine gf_X7_33 C hs rfl dX7_person_50 ?_
      refine lv_iload_n hx hb dX7_person_53 rfl (lv_at hl 1 rfl) ?_
      obtain ⟨r_3, hc, hf⟩ := cb_bp_inv hf
      refine cb_callVi C (c_X4_winsOf cb_pl13 hc) mw_X4_winsOf ml_X7_173 rfl ⟨Nat.le_of_ble_eq_true rfl, Nat.le_of_ble_eq_true rfl⟩ cb_pl13.1 (Nat.le_of_ble_eq_true rfl) rfl hs hl rfl (Nat.le_of_ble_eq_true rfl) dX7_person_54 (fun H locs hs => ?_)
      clear hc
      have hf := Option.some.inj hf
      subst hf
      exact cb_reti C hs dX7_person_57
    replace hf := cb_ifn cn1 hf
    by_cases cn2 : x2 = 2
    · replace hf := cb_ifp cn2 hf
      refine lv_tableIn (tgt := 58) hx hb dX7_person_15 (by rw [cn2]; decide) (by rw [cn2]; decide) (by rw [cn2]; rfl) (by decide) ?_
      refine lv_aload_n hx hb dX7_person_58 rfl (lv_at hl 0 rfl) ?_
      refine lv_iload_n hx hb dX7_person_59 rfl (lv_at hl 1 rfl) ?_
      obtain ⟨r_4, hc, hf⟩ := cb_bp_inv hf
      refine cb_callVi C (c_X7_beatenBy  hc) mw_X7_beatenBy ml_X7_176 rfl ⟨Nat.le_of_ble_eq_true rfl, Nat.le_of_ble_eq_true rfl⟩ rfl (Nat.le_of_ble_eq_true rfl) rfl hs hl rfl (Nat.le_of_ble_eq_true rfl) dX7_person_60 (fun H locs hs => ?_)
      clear hc
      have hf := Option.some.inj hf
      subst hf
      exact cb_reti C hs dX7_person_63
    replace hf := cb_ifn cn2 hf
    refine lv_tableOut (tgt := 64) hx hb dX7_person_15 (by have g0 := lv_neT cn0 (show Int32.toInt 0 = 0 by decide); have g1 := lv_neT cn1 (show Int32.toInt 1 = 1 by decide); have g2 := lv_neT cn2 (show Int32.toInt 2 = 2 by decide); omega) (by decide) ?_
    refine lv_ldc (v := (-1000000002)) hx hb hown (hts _ kc_X7_65) dX7_person_64 ?_
    have hf := Option.some.inj hf
    subst hf
    exact cb_reti C hs dX7_person_66
  · replace hf := cb_ifp cn hf
    refine lv_ldc (v := (-1000000001)) hx hb hown (hts _ kc_X7_150) dX7_person_11 ?_
    have hf := Option.some.inj hf
    subst hf
    exact cb_reti C hs dX7_person_13
/-! ===== CardBecome.rings ===== -/
def f_X7_rings_83 (K4 : Int32 → Int32 → Option (Int32)) (K20 : Int32 → Int32 → Int32 → Option (Int32)) (K37 : Int32 → Int32 → Int32 → Int32 → Option (Int32)) (x1 : Int32) (σ : cb_St) (x2 : Int32) (x3 : Int32) (x4 : Int32) (x5 : Int32) : Option (Int32) := cb_let (x5 + 1) (fun x5_0 => K37 x2 x3 x4 x5_0)
set_option maxHeartbeats 4000000 in
set_option maxRecDepth 100000 in
theorem w_X7_rings_83 (C : cb_C p s m args meth c cX7_rings 6 (some .int) RX7 D T) {K4 : Int32 → Int32 → Option (Int32)} {K20 : Int32 → Int32 → Int32 → Option (Int32)} {K37 : Int32 → Int32 → Int32 → Int32 → Option (Int32)} {x1 : Int32} {σ : cb_St} {o : Int32} (hK4 : ∀ (x2 : Int32) (x3 : Int32), K4 x2 x3 = some o → ∀ (H : Heap) (locs : List Loc) (ls : Array Slot), cb_H shC A T D σ s.heap H locs → lv_has ls 6 [(0, .ref (A 0)), (1, .int x1), (2, .int x2), (3, .int x3)] → cb_W p l e 5 s m args below meth c shC A T D (some (.int o)) σ H locs (F0 m 4 ls [])) (hK20 : ∀ (x2 : Int32) (x3 : Int32) (x4 : Int32), K20 x2 x3 x4 = some o → ∀ (H : Heap) (locs : List Loc) (ls : Array Slot), cb_H shC A T D σ s.heap H locs → lv_has ls 6 [(0, .ref (A 0)), (1, .int x1), (2, .int x2), (3, .int x3), (4, .int x4)] → cb_W p l e 5 s m args below meth c shC A T D (some (.int o)) σ H locs (F0 m 20 ls [])) (hK37 : ∀ (x2 : Int32) (x3 : Int32) (x4 : Int32) (x5 : Int32), K37 x2 x3 x4 x5 = some o → ∀ (H : Heap) (locs : List Loc) (ls : Array Slot), cb_H shC A T D σ s.heap H locs → lv_has ls 6 [(0, .ref (A 0)), (1, .int x1), (2, .int x2), (3, .int x3), (4, .int x4), (5, .int x5)] → cb_W p l e 5 s m args below meth c shC A T D (some (.int o)) σ H locs (F0 m 37 ls [])) {x2 : Int32} {x3 : Int32} {x4 : Int32} {x5 : Int32} (hf : f_X7_rings_83 K4 K20 K37 x1 σ x2 x3 x4 x5 = some o) {H : Heap} {locs : List Loc} {ls : Array Slot} (hs : cb_H shC A T D σ s.heap H locs) (hl : lv_has ls 6 [(0, .ref (A 0)), (1, .int x1), (2, .int x2), (3, .int x3), (4, .int x4), (5, .int x5)]) : cb_W p l e 5 s m args below meth c shC A T D (some (.int o)) σ H locs (F0 m 83 ls []) := by
  obtain ⟨hx, hb, hml, hr, hown, hts, hK, hlk, hN⟩ := id C
  unfold f_X7_rings_83 at hf
  obtain ⟨x5_0, e9, hf⟩ := cb_let_inv hf
  refine lv_iinc (v := x5_0) (lv' := [(5, .int x5_0), (0, .ref (A 0)), (1, .int x1), (2, .int x2), (3, .int x3), (4, .int x4)]) hx hb dX7_rings_83 hl (k := 5) rfl (by rw [e9]; rfl) (by decide) rfl (fun ls hl => ?_)
  clear e9
  refine lv_goto (tgt := 37) hx hb dX7_rings_86 (by decide) ?_
  exact hK37 _ _ _ _ hf _ _ _ hs (lv_sub hl [1, 2, 3, 4, 5, 0] rfl)
def f_X7_rings_37 (K4 : Int32 → Int32 → Option (Int32)) (K20 : Int32 → Int32 → Int32 → Option (Int32)) (x1 : Int32) (σ : cb_St) : Nat → Int32 → Int32 → Int32 → Int32 → Option (Int32)
  | 0, _, _, _, _ => none
  | fu + 1, x2, x3, x4, x5 => if (σ.1 9 5) ≤ x5 then (cb_let (x4 + 1) (fun x4_0 => K20 x2 x3 x4_0)) else (cb_bp (f_X7_isRing x3 x4 x5 σ) (fun r_2 => if r_2 = 0 then (f_X7_rings_83 K4 K20 (f_X7_rings_37 K4 K20 x1 σ fu) x1 σ x2 x3 x4 x5) else (if x2 = x1 then (some (((100 * x3) + (10 * x4)) + x5)) else (cb_let (x2 + 1) (fun x2_2 => f_X7_rings_83 K4 K20 (f_X7_rings_37 K4 K20 x1 σ fu) x1 σ x2_2 x3 x4 x5)))))
set_option maxHeartbeats 4000000 in
set_option maxRecDepth 100000 in
theorem w_X7_rings_37 (C : cb_C p s m args meth c cX7_rings 6 (some .int) RX7 D T) {K4 : Int32 → Int32 → Option (Int32)} {K20 : Int32 → Int32 → Int32 → Option (Int32)} {x1 : Int32} {σ : cb_St} {o : Int32} (hK4 : ∀ (x2 : Int32) (x3 : Int32), K4 x2 x3 = some o → ∀ (H : Heap) (locs : List Loc) (ls : Array Slot), cb_H shC A T D σ s.heap H locs → lv_has ls 6 [(0, .ref (A 0)), (1, .int x1), (2, .int x2), (3, .int x3)] → cb_W p l e 5 s m args below meth c shC A T D (some (.int o)) σ H locs (F0 m 4 ls [])) (hK20 : ∀ (x2 : Int32) (x3 : Int32) (x4 : Int32), K20 x2 x3 x4 = some o → ∀ (H : Heap) (locs : List Loc) (ls : Array Slot), cb_H shC A T D σ s.heap H locs → lv_has ls 6 [(0, .ref (A 0)), (1, .int x1), (2, .int x2), (3, .int x3), (4, .int x4)] → cb_W p l e 5 s m args below meth c shC A T D (some (.int o)) σ H locs (F0 m 20 ls [])) : ∀ (fu : Nat) (x2 : Int32) (x3 : Int32) (x4 : Int32) (x5 : Int32), f_X7_rings_37 K4 K20 x1 σ fu x2 x3 x4 x5 = some o → ∀ (H : Heap) (locs : List Loc) (ls : Array Slot), cb_H shC A T D σ s.heap H locs → lv_has ls 6 [(0, .ref (A 0)), (1, .int x1), (2, .int x2), (3, .int x3), (4, .int x4), (5, .int x5)] → cb_W p l e 5 s m args below meth c shC A T D (some (.int o)) σ H locs (F0 m 37 ls []) := by
  obtain ⟨hx, hb, hml, hr, hown, hts, hK, hlk, hN⟩ := id C
  intro fu
  induction fu with
  | zero =>
    intro x2 x3 x4 x5 hf
    rw [f_X7_rings_37] at hf
    cases hf
  | succ fu ih =>
    intro x2 x3 x4 x5 hf H locs ls hs hl
    rw [f_X7_rings_37] at hf
    refine lv_iload hx hb dX7_rings_37 (lv_at hl 5 rfl) ?_
    refine lv_aload_n hx hb dX7_rings_39 rfl (lv_at hl 0 rfl) ?_
    refine gf_X7_26 C hs rfl dX7_rings_40 ?_
    refine gf_X7_105 C hs cb_tb9.1 dX7_rings_43 ?_
    refine lv_icmp_ge (tgt := 89) hx hb dX7_rings_46 (by decide) (fun cn => ?_) (fun cn => ?_)
    · replace hf := cb_ifp cn hf
      obtain ⟨x4_0, e9, hf⟩ := cb_let_inv hf
      refine lv_iinc (v := x4_0) (lv' := [(4, .int x4_0), (0, .ref (A 0)), (1, .int x1), (2, .int x2), (3, .int x3), (5, .int x5)]) hx hb dX7_rings_89 hl (k := 4) rfl (by rw [e9]; rfl) (by decide) rfl (fun ls hl => ?_)
      clear e9
      refine lv_goto (tgt := 20) hx hb dX7_rings_92 (by decide) ?_
      exact hK20 _ _ _ hf _ _ _ hs (lv_sub hl [1, 2, 3, 4, 0] rfl)
    · replace hf := cb_ifn cn hf
      refine lv_aload_n hx hb dX7_rings_49 rfl (lv_at hl 0 rfl) ?_
      refine lv_iload_n hx hb dX7_rings_50 rfl (lv_at hl 3 rfl) ?_
      refine lv_iload hx hb dX7_rings_51 (lv_at hl 4 rfl) ?_
      refine lv_iload hx hb dX7_rings_53 (lv_at hl 5 rfl) ?_
      obtain ⟨r_2, hc, hf⟩ := cb_bp_inv hf
      refine cb_callVi C (c_X7_isRing  hc) mw_X7_isRing ml_X7_242 rfl ⟨Nat.le_of_ble_eq_true rfl, Nat.le_of_ble_eq_true rfl⟩ rfl (Nat.le_of_ble_eq_true rfl) rfl hs hl rfl (Nat.le_of_ble_eq_true rfl) dX7_rings_55 (fun H locs hs => ?_)
      clear hc
      refine lv_if_eq (tgt := 83) hx hb dX7_rings_58 (by decide) (fun cn => ?_) (fun cn => ?_)
      · replace hf := cb_ifp cn hf
        exact w_X7_rings_83 C hK4 hK20 ih hf hs (lv_sub hl [0, 1, 2, 3, 4, 5] rfl)
      · replace hf := cb_ifn cn hf
        refine lv_iload_n hx hb dX7_rings_61 rfl (lv_at hl 2 rfl) ?_
        refine lv_iload_n hx hb dX7_rings_62 rfl (lv_at hl 1 rfl) ?_
        refine lv_icmp_ne (tgt := 80) hx hb dX7_rings_63 (by decide) (fun cn => ?_) (fun cn => ?_)
        · replace hf := cb_ifn cn hf
          obtain ⟨x2_2, e9, hf⟩ := cb_let_inv hf
          refine lv_iinc (v := x2_2) (lv' := [(2, .int x2_2), (0, .ref (A 0)), (1, .int x1), (3, .int x3), (4, .int x4), (5, .int x5)]) hx hb dX7_rings_80 hl (k := 2) rfl (by rw [e9]; rfl) (by decide) rfl (fun ls hl => ?_)
          clear e9
          exact w_X7_rings_83 C hK4 hK20 ih hf hs (lv_sub hl [1, 2, 0, 3, 4, 5] rfl)
        · replace hf := cb_ifp cn hf
          refine lv_bipush (v := 100) hx hb dX7_rings_66 (by decide) ?_
          refine lv_iload_n hx hb dX7_rings_68 rfl (lv_at hl 3 rfl) ?_
          refine lv_imul hx hb dX7_rings_69 ?_
          refine lv_bipush (v := 10) hx hb dX7_rings_70 (by decide) ?_
          refine lv_iload hx hb dX7_rings_72 (lv_at hl 4 rfl) ?_
          refine lv_imul hx hb dX7_rings_74 ?_
          refine lv_iadd hx hb dX7_rings_75 ?_
          refine lv_iload hx hb dX7_rings_76 (lv_at hl 5 rfl) ?_
          refine lv_iadd hx hb dX7_rings_78 ?_
          have hf := Option.some.inj hf
          subst hf
          exact cb_reti C hs dX7_rings_79
def f_X7_rings_20 (K4 : Int32 → Int32 → Option (Int32)) (x1 : Int32) (σ : cb_St) : Nat → Int32 → Int32 → Int32 → Option (Int32)
  | 0, _, _, _ => none
  | fu + 1, x2, x3, x4 => if (σ.1 9 5) ≤ x4 then (cb_let (x3 + 1) (fun x3_0 => K4 x2 x3_0)) else (cb_let (x3 + 1) (fun x5_1 => f_X7_rings_37 K4 (f_X7_rings_20 K4 x1 σ fu) x1 σ cb_fu x2 x3 x4 x5_1))
set_option maxHeartbeats 4000000 in
set_option maxRecDepth 100000 in
theorem w_X7_rings_20 (C : cb_C p s m args meth c cX7_rings 6 (some .int) RX7 D T) {K4 : Int32 → Int32 → Option (Int32)} {x1 : Int32} {σ : cb_St} {o : Int32} (hK4 : ∀ (x2 : Int32) (x3 : Int32), K4 x2 x3 = some o → ∀ (H : Heap) (locs : List Loc) (ls : Array Slot), cb_H shC A T D σ s.heap H locs → lv_has ls 6 [(0, .ref (A 0)), (1, .int x1), (2, .int x2), (3, .int x3)] → cb_W p l e 5 s m args below meth c shC A T D (some (.int o)) σ H locs (F0 m 4 ls [])) : ∀ (fu : Nat) (x2 : Int32) (x3 : Int32) (x4 : Int32), f_X7_rings_20 K4 x1 σ fu x2 x3 x4 = some o → ∀ (H : Heap) (locs : List Loc) (ls : Array Slot), cb_H shC A T D σ s.heap H locs → lv_has ls 6 [(0, .ref (A 0)), (1, .int x1), (2, .int x2), (3, .int x3), (4, .int x4)] → cb_W p l e 5 s m args below meth c shC A T D (some (.int o)) σ H locs (F0 m 20 ls []) := by
  obtain ⟨hx, hb, hml, hr, hown, hts, hK, hlk, hN⟩ := id C
  intro fu
  induction fu with
  | zero =>
    intro x2 x3 x4 hf
    rw [f_X7_rings_20] at hf
    cases hf
  | succ fu ih =>
    intro x2 x3 x4 hf H locs ls hs hl
    rw [f_X7_rings_20] at hf
    refine lv_iload hx hb dX7_rings_20 (lv_at hl 4 rfl) ?_
    refine lv_aload_n hx hb dX7_rings_22 rfl (lv_at hl 0 rfl) ?_
    refine gf_X7_26 C hs rfl dX7_rings_23 ?_
    refine gf_X7_105 C hs cb_tb9.1 dX7_rings_26 ?_
    refine lv_icmp_ge (tgt := 95) hx hb dX7_rings_29 (by decide) (fun cn => ?_) (fun cn => ?_)
    · replace hf := cb_ifp cn hf
      obtain ⟨x3_0, e9, hf⟩ := cb_let_inv hf
      refine lv_iinc (v := x3_0) (lv' := [(3, .int x3_0), (0, .ref (A 0)), (1, .int x1), (2, .int x2), (4, .int x4)]) hx hb dX7_rings_95 hl (k := 3) rfl (by rw [e9]; rfl) (by decide) rfl (fun ls hl => ?_)
      clear e9
      refine lv_goto (tgt := 4) hx hb dX7_rings_98 (by decide) ?_
      exact hK4 _ _ hf _ _ _ hs (lv_sub hl [1, 2, 3, 0] rfl)
    · replace hf := cb_ifn cn hf
      refine lv_iload_n hx hb dX7_rings_32 rfl (lv_at hl 3 rfl) ?_
      refine lv_iconst (v := 1) hx hb dX7_rings_33 (by decide) ?_
      refine lv_iadd hx hb dX7_rings_34 ?_
      obtain ⟨x5_1, e9, hf⟩ := cb_let_inv hf
      refine cb_topi e9 ?_
      clear e9
      refine lv_istore (lv' := [(5, .int x5_1), (0, .ref (A 0)), (1, .int x1), (2, .int x2), (3, .int x3), (4, .int x4)]) hx hb dX7_rings_35 hl (by decide) rfl (fun ls hl => ?_)
      exact w_X7_rings_37 C hK4 ih cb_fu _ _ _ _ hf _ _ _ hs (lv_sub hl [1, 2, 3, 4, 5, 0] rfl)
def f_X7_rings_4 (x1 : Int32) (σ : cb_St) : Nat → Int32 → Int32 → Option (Int32)
  | 0, _, _ => none
  | fu + 1, x2, x3 => if (σ.1 9 5) ≤ x3 then (if x1 = (-1) then (some x2) else (some (-1))) else (cb_let (x3 + 1) (fun x4_0 => f_X7_rings_20 (f_X7_rings_4 x1 σ fu) x1 σ cb_fu x2 x3 x4_0))
set_option maxHeartbeats 4000000 in
set_option maxRecDepth 100000 in
theorem w_X7_rings_4 (C : cb_C p s m args meth c cX7_rings 6 (some .int) RX7 D T) {x1 : Int32} {σ : cb_St} {o : Int32}  : ∀ (fu : Nat) (x2 : Int32) (x3 : Int32), f_X7_rings_4 x1 σ fu x2 x3 = some o → ∀ (H : Heap) (locs : List Loc) (ls : Array Slot), cb_H shC A T D σ s.heap H locs → lv_has ls 6 [(0, .ref (A 0)), (1, .int x1), (2, .int x2), (3, .int x3)] → cb_W p l e 5 s m args below meth c shC A T D (some (.int o)) σ H locs (F0 m 4 ls []) := by
  obtain ⟨hx, hb, hml, hr, hown, hts, hK, hlk, hN⟩ := id C
  intro fu
  induction fu with
  | zero =>
    intro x2 x3 hf
    rw [f_X7_rings_4] at hf
    cases hf
  | succ fu ih =>
    intro x2 x3 hf H locs ls hs hl
    rw [f_X7_rings_4] at hf
    refine lv_iload_n hx hb dX7_rings_4 rfl (lv_at hl 3 rfl) ?_
    refine lv_aload_n hx hb dX7_rings_5 rfl (lv_at hl 0 rfl) ?_
    refine gf_X7_26 C hs rfl dX7_rings_6 ?_
    refine gf_X7_105 C hs cb_tb9.1 dX7_rings_9 ?_
    refine lv_icmp_ge (tgt := 101) hx hb dX7_rings_12 (by decide) (fun cn => ?_) (fun cn => ?_)
    · replace hf := cb_ifp cn hf
      refine lv_iload_n hx hb dX7_rings_101 rfl (lv_at hl 1 rfl) ?_
      refine lv_iconst (v := (-1)) hx hb dX7_rings_102 (by decide) ?_
      refine lv_icmp_ne (tgt := 110) hx hb dX7_rings_103 (by decide) (fun cn => ?_) (fun cn => ?_)
      · replace hf := cb_ifn cn hf
        refine lv_iconst (v := (-1)) hx hb dX7_rings_110 (by decide) ?_
        have hf := Option.some.inj hf
        subst hf
        exact cb_reti C hs dX7_rings_111
      · replace hf := cb_ifp cn hf
        refine lv_iload_n hx hb dX7_rings_106 rfl (lv_at hl 2 rfl) ?_
        refine lv_goto (tgt := 111) hx hb dX7_rings_107 (by decide) ?_
        have hf := Option.some.inj hf
        subst hf
        exact cb_reti C hs dX7_rings_111
    · replace hf := cb_ifn cn hf
      refine lv_iload_n hx hb dX7_rings_15 rfl (lv_at hl 3 rfl) ?_
      refine lv_iconst (v := 1) hx hb dX7_rings_16 (by decide) ?_
      refine lv_iadd hx hb dX7_rings_17 ?_
      obtain ⟨x4_0, e9, hf⟩ := cb_let_inv hf
      refine cb_topi e9 ?_
      clear e9
      refine lv_istore (lv' := [(4, .int x4_0), (0, .ref (A 0)), (1, .int x1), (2, .int x2), (3, .int x3)]) hx hb dX7_rings_18 hl (by decide) rfl (fun ls hl => ?_)
      exact w_X7_rings_20 C ih cb_fu _ _ _ hf _ _ _ hs (lv_sub hl [1, 2, 3, 4, 0] rfl)
def f_X7_rings (x1 : Int32) (σ : cb_St)  : Option (Int32) := f_X7_rings_4 x1 σ cb_fu 0 0
set_option maxHeartbeats 4000000 in
set_option maxRecDepth 100000 in
theorem c_X7_rings {x1 : Int32} {σ : cb_St}   {o : Int32} (hf : f_X7_rings x1 σ = some o) : cb_M l yX7_rings cX7_rings 6 (some .int) 5 shC A T D σ [.ref (A 0), .int x1] (some (.int o)) σ := by
  refine cb_met (by decide +kernel) (Nat.le_of_ble_eq_true rfl) ?_
  intro p e s m below meth c C hs ls hl
  have hl : lv_has ls 6 [(0, .ref (A 0)), (1, .int x1)] := hl
  obtain ⟨hx, hb, hml, hr, hown, hts, hK, hlk, hN⟩ := id C
  unfold f_X7_rings at hf
  refine lv_iconst (v := 0) hx hb dX7_rings_0 (by decide) ?_
  refine lv_istore_n (lv' := [(2, .int 0), (0, .ref (A 0)), (1, .int x1)]) hx hb dX7_rings_1 rfl hl (by decide) rfl (fun ls hl => ?_)
  refine lv_iconst (v := 0) hx hb dX7_rings_2 (by decide) ?_
  refine lv_istore_n (lv' := [(3, .int 0), (2, .int 0), (0, .ref (A 0)), (1, .int x1)]) hx hb dX7_rings_3 rfl hl (by decide) rfl (fun ls hl => ?_)
  exact w_X7_rings_4 C  cb_fu _ _ hf _ _ _ hs (lv_sub hl [2, 3, 1, 0] rfl)
/-! ===== CardBecome.row ===== -/
def f_X7_row_33 (x1 : Int32) (x2 : Int32) (x3 : Int32) (σ : cb_St) : Option (Int32 × cb_St) := some ((-1000000002), σ)
set_option maxHeartbeats 4000000 in
set_option maxRecDepth 100000 in
theorem w_X7_row_33 (C : cb_C p s m args meth c cX7_row 6 (some .int) RX7 D T) {x1 : Int32} {x2 : Int32} {x3 : Int32} {o : Int32 × cb_St}  {σ : cb_St} (hf : f_X7_row_33 x1 x2 x3 σ = some o) {H : Heap} {locs : List Loc} {ls : Array Slot} (hs : cb_H shC A T D σ s.heap H locs) (hl : lv_has ls 6 [(0, .ref (A 0)), (1, .int x1), (2, .int x2), (3, .int x3)]) : cb_W p l e 4 s m args below meth c shC A T D (some (.int o.1)) o.2 H locs (F0 m 33 ls []) := by
  obtain ⟨hx, hb, hml, hr, hown, hts, hK, hlk, hN⟩ := id C
  unfold f_X7_row_33 at hf
  refine lv_ldc (v := (-1000000002)) hx hb hown (hts _ kc_X7_65) dX7_row_33 ?_
  have hf := Option.some.inj hf
  subst hf
  exact cb_reti C hs dX7_row_35
def f_X7_row (x1 : Int32) (x2 : Int32) (x3 : Int32) (σ : cb_St) : Option (Int32 × cb_St) := cb_bp (f_X6_hasCard 9 x1 σ) (fun r_1 => if r_1 = 0 then (some ((-1000000001), σ)) else (if x2 < 0 then (f_X7_row_33 x1 x2 x3 σ) else (if 12 ≤ x2 then (f_X7_row_33 x1 x2 x3 σ) else (if x3 < 0 then (f_X7_row_33 x1 x2 x3 σ) else (if x3 ≤ 1 then (cb_bp (f_X4_placeOf 13 x1 σ) (fun r_2 => if r_2 = (-1) then (some ((-1000000003), σ)) else (cb_bv (f_X7_countSteps x2 σ) (fun σ_3 => cb_bp (f_X7_stepsFrom r_2 σ_3) (fun r_4 => if x3 = 0 then (some (r_4, σ_3)) else (cb_bp (f_X7_firstStep r_2 r_4 σ_3) (fun r_5 => some (r_5, σ_3)))))))) else (f_X7_row_33 x1 x2 x3 σ))))))
set_option maxHeartbeats 4000000 in
set_option maxRecDepth 100000 in
theorem c_X7_row {x1 : Int32} {x2 : Int32} {x3 : Int32}  {σ : cb_St} {o : Int32 × cb_St} (hf : f_X7_row x1 x2 x3 σ = some o) : cb_M l yX7_row cX7_row 6 (some .int) 4 shC A T D σ [.ref (A 0), .int x1, .int x2, .int x3] (some (.int o.1)) o.2 := by
  refine cb_met (by decide +kernel) (Nat.le_of_ble_eq_true rfl) ?_
  intro p e s m below meth c C hs ls hl
  have hl : lv_has ls 6 [(0, .ref (A 0)), (1, .int x1), (2, .int x2), (3, .int x3)] := hl
  obtain ⟨hx, hb, hml, hr, hown, hts, hK, hlk, hN⟩ := id C
  unfold f_X7_row at hf
  refine lv_aload_n hx hb dX7_row_0 rfl (lv_at hl 0 rfl) ?_
  refine gf_X7_26 C hs rfl dX7_row_1 ?_
  refine lv_iload_n hx hb dX7_row_4 rfl (lv_at hl 1 rfl) ?_
  obtain ⟨r_1, hc, hf⟩ := cb_bp_inv hf
  refine cb_callVi C (c_X6_hasCard cb_tb9 hc) mw_X6_hasCard ml_X7_147 rfl ⟨Nat.le_of_ble_eq_true rfl, Nat.le_of_ble_eq_true rfl⟩ cb_tb9.1 (Nat.le_of_ble_eq_true rfl) rfl hs hl rfl (Nat.le_of_ble_eq_true rfl) dX7_row_5 (fun H locs hs => ?_)
  clear hc
  refine lv_if_ne (tgt := 14) hx hb dX7_row_8 (by decide) (fun cn => ?_) (fun cn => ?_)
  · replace hf := cb_ifn cn hf
    refine lv_iload_n hx hb dX7_row_14 rfl (lv_at hl 2 rfl) ?_
    refine lv_if_lt (tgt := 33) hx hb dX7_row_15 (by decide) (fun cn => ?_) (fun cn => ?_)
    · replace hf := cb_ifp cn hf
      exact w_X7_row_33 C  hf hs (lv_sub hl [0, 1, 2, 3] rfl)
    · replace hf := cb_ifn cn hf
      refine lv_iload_n hx hb dX7_row_18 rfl (lv_at hl 2 rfl) ?_
      refine lv_bipush (v := 12) hx hb dX7_row_19 (by decide) ?_
      refine lv_icmp_ge (tgt := 33) hx hb dX7_row_21 (by decide) (fun cn => ?_) (fun cn => ?_)
      · replace hf := cb_ifp cn hf
        exact w_X7_row_33 C  hf hs (lv_sub hl [0, 1, 2, 3] rfl)
      · replace hf := cb_ifn cn hf
        refine lv_iload_n hx hb dX7_row_24 rfl (lv_at hl 3 rfl) ?_
        refine lv_if_lt (tgt := 33) hx hb dX7_row_25 (by decide) (fun cn => ?_) (fun cn => ?_)
        · replace hf := cb_ifp cn hf
          exact w_X7_row_33 C  hf hs (lv_sub hl [0, 1, 2, 3] rfl)
        · replace hf := cb_ifn cn hf
          refine lv_iload_n hx hb dX7_row_28 rfl (lv_at hl 3 rfl) ?_
          refine lv_iconst (v := 1) hx hb dX7_row_29 (by decide) ?_
          refine lv_icmp_le (tgt := 36) hx hb dX7_row_30 (by decide) (fun cn => ?_) (fun cn => ?_)
          · replace hf := cb_ifp cn hf
            refine lv_aload_n hx hb dX7_row_36 rfl (lv_at hl 0 rfl) ?_
            refine gf_X7_33 C hs rfl dX7_row_37 ?_
            refine lv_iload_n hx hb dX7_row_40 rfl (lv_at hl 1 rfl) ?_
            obtain ⟨r_2, hc, hf⟩ := cb_bp_inv hf
            refine cb_callVi C (c_X4_placeOf cb_pl13 hc) mw_X4_placeOf ml_X7_158 rfl ⟨Nat.le_of_ble_eq_true rfl, Nat.le_of_ble_eq_true rfl⟩ cb_pl13.1 (Nat.le_of_ble_eq_true rfl) rfl hs hl rfl (Nat.le_of_ble_eq_true rfl) dX7_row_41 (fun H locs hs => ?_)
            clear hc
            refine lv_istore (lv' := [(4, .int r_2), (0, .ref (A 0)), (1, .int x1), (2, .int x2), (3, .int x3)]) hx hb dX7_row_44 hl (by decide) rfl (fun ls hl => ?_)
            refine lv_iload hx hb dX7_row_46 (lv_at hl 0 rfl) ?_
            refine lv_iconst (v := (-1)) hx hb dX7_row_48 (by decide) ?_
            refine lv_icmp_ne (tgt := 55) hx hb dX7_row_49 (by decide) (fun cn => ?_) (fun cn => ?_)
            · replace hf := cb_ifn cn hf
              refine lv_aload_n hx hb dX7_row_55 rfl (lv_at hl 1 rfl) ?_
              refine lv_iload_n hx hb dX7_row_56 rfl (lv_at hl 3 rfl) ?_
              obtain ⟨σ_3, hc, hf⟩ := cb_bv_inv hf
              refine cb_callVv C (c_X7_countSteps  hc) mw_X7_countSteps ml_X7_255 rfl ⟨Nat.le_of_ble_eq_true rfl, Nat.le_of_ble_eq_true rfl⟩ rfl (Nat.le_of_ble_eq_true rfl) rfl hs hl rfl (Nat.le_of_ble_eq_true rfl) dX7_row_57 (fun H locs hs => ?_)
              clear hc
              refine lv_aload_n hx hb dX7_row_60 rfl (lv_at hl 1 rfl) ?_
              refine lv_iload hx hb dX7_row_61 (lv_at hl 0 rfl) ?_
              obtain ⟨r_4, hc, hf⟩ := cb_bp_inv hf
              refine cb_callVi C (c_X7_stepsFrom  hc) mw_X7_stepsFrom ml_X7_258 rfl ⟨Nat.le_of_ble_eq_true rfl, Nat.le_of_ble_eq_true rfl⟩ rfl (Nat.le_of_ble_eq_true rfl) rfl hs hl rfl (Nat.le_of_ble_eq_true rfl) dX7_row_63 (fun H locs hs => ?_)
              clear hc
              refine lv_istore (lv' := [(5, .int r_4), (4, .int r_2), (0, .ref (A 0)), (1, .int x1), (2, .int x2), (3, .int x3)]) hx hb dX7_row_66 hl (by decide) rfl (fun ls hl => ?_)
              refine lv_iload_n hx hb dX7_row_68 rfl (lv_at hl 5 rfl) ?_
              refine lv_if_ne (tgt := 77) hx hb dX7_row_69 (by decide) (fun cn => ?_) (fun cn => ?_)
              · replace hf := cb_ifn cn hf
                refine lv_aload_n hx hb dX7_row_77 rfl (lv_at hl 2 rfl) ?_
                refine lv_iload hx hb dX7_row_78 (lv_at hl 1 rfl) ?_
                refine lv_iload hx hb dX7_row_80 (lv_at hl 0 rfl) ?_
                obtain ⟨r_5, hc, hf⟩ := cb_bp_inv hf
                refine cb_callVi C (c_X7_firstStep  hc) mw_X7_firstStep ml_X7_261 rfl ⟨Nat.le_of_ble_eq_true rfl, Nat.le_of_ble_eq_true rfl⟩ rfl (Nat.le_of_ble_eq_true rfl) rfl hs hl rfl (Nat.le_of_ble_eq_true rfl) dX7_row_82 (fun H locs hs => ?_)
                clear hc
                have hf := Option.some.inj hf
                subst hf
                exact cb_reti C hs dX7_row_85
              · replace hf := cb_ifp cn hf
                refine lv_iload hx hb dX7_row_72 (lv_at hl 0 rfl) ?_
                refine lv_goto (tgt := 85) hx hb dX7_row_74 (by decide) ?_
                have hf := Option.some.inj hf
                subst hf
                exact cb_reti C hs dX7_row_85
            · replace hf := cb_ifp cn hf
              refine lv_ldc (v := (-1000000003)) hx hb hown (hts _ kc_X7_198) dX7_row_52 ?_
              have hf := Option.some.inj hf
              subst hf
              exact cb_reti C hs dX7_row_54
          · replace hf := cb_ifn cn hf
            exact w_X7_row_33 C  hf hs (lv_sub hl [0, 1, 2, 3] rfl)
  · replace hf := cb_ifp cn hf
    refine lv_ldc (v := (-1000000001)) hx hb hown (hts _ kc_X7_150) dX7_row_11 ?_
    have hf := Option.some.inj hf
    subst hf
    exact cb_reti C hs dX7_row_13
/-! ===== CardBecome.ruler ===== -/
def f_X7_ruler_38 (K6 : Int32 → Int32 → Int32 → Option (Int32)) (σ : cb_St) (x1 : Int32) (x2 : Int32) (x3 : Int32) : Option (Int32) := cb_let (x3 + 1) (fun x3_0 => K6 x1 x2 x3_0)
set_option maxHeartbeats 4000000 in
set_option maxRecDepth 100000 in
theorem w_X7_ruler_38 (C : cb_C p s m args meth c cX7_ruler 5 (some .int) RX7 D T) {K6 : Int32 → Int32 → Int32 → Option (Int32)} {σ : cb_St} {o : Int32} (hK6 : ∀ (x1 : Int32) (x2 : Int32) (x3 : Int32), K6 x1 x2 x3 = some o → ∀ (H : Heap) (locs : List Loc) (ls : Array Slot), cb_H shC A T D σ s.heap H locs → lv_has ls 5 [(0, .ref (A 0)), (1, .int x1), (2, .int x2), (3, .int x3)] → cb_W p l e 5 s m args below meth c shC A T D (some (.int o)) σ H locs (F0 m 6 ls [])) {x1 : Int32} {x2 : Int32} {x3 : Int32} (hf : f_X7_ruler_38 K6 σ x1 x2 x3 = some o) {H : Heap} {locs : List Loc} {ls : Array Slot} (hs : cb_H shC A T D σ s.heap H locs) (hl : lv_has ls 5 [(0, .ref (A 0)), (1, .int x1), (2, .int x2), (3, .int x3)]) : cb_W p l e 5 s m args below meth c shC A T D (some (.int o)) σ H locs (F0 m 38 ls []) := by
  obtain ⟨hx, hb, hml, hr, hown, hts, hK, hlk, hN⟩ := id C
  unfold f_X7_ruler_38 at hf
  obtain ⟨x3_0, e9, hf⟩ := cb_let_inv hf
  refine lv_iinc (v := x3_0) (lv' := [(3, .int x3_0), (0, .ref (A 0)), (1, .int x1), (2, .int x2)]) hx hb dX7_ruler_38 hl (k := 3) rfl (by rw [e9]; rfl) (by decide) rfl (fun ls hl => ?_)
  clear e9
  refine lv_goto (tgt := 6) hx hb dX7_ruler_41 (by decide) ?_
  exact hK6 _ _ _ hf _ _ _ hs (lv_sub hl [1, 2, 3, 0] rfl)
def f_X7_ruler_6 (σ : cb_St) : Nat → Int32 → Int32 → Int32 → Option (Int32)
  | 0, _, _, _ => none
  | fu + 1, x1, x2, x3 => if (σ.1 9 5) ≤ x3 then (some x1) else (cb_bp (f_X7_beatenBy x3 σ) (fun r_1 => cb_bp (f_J6_bitCount_0f7a4 σ r_1) (fun r_2 => if r_2 ≤ x2 then (f_X7_ruler_38 (f_X7_ruler_6 σ fu) σ x1 x2 x3) else (f_X7_ruler_38 (f_X7_ruler_6 σ fu) σ x3 r_2 x3))))
set_option maxHeartbeats 4000000 in
set_option maxRecDepth 100000 in
theorem w_X7_ruler_6 (C : cb_C p s m args meth c cX7_ruler 5 (some .int) RX7 D T) {σ : cb_St} {o : Int32}  : ∀ (fu : Nat) (x1 : Int32) (x2 : Int32) (x3 : Int32), f_X7_ruler_6 σ fu x1 x2 x3 = some o → ∀ (H : Heap) (locs : List Loc) (ls : Array Slot), cb_H shC A T D σ s.heap H locs → lv_has ls 5 [(0, .ref (A 0)), (1, .int x1), (2, .int x2), (3, .int x3)] → cb_W p l e 5 s m args below meth c shC A T D (some (.int o)) σ H locs (F0 m 6 ls []) := by
  obtain ⟨hx, hb, hml, hr, hown, hts, hK, hlk, hN⟩ := id C
  intro fu
  induction fu with
  | zero =>
    intro x1 x2 x3 hf
    rw [f_X7_ruler_6] at hf
    cases hf
  | succ fu ih =>
    intro x1 x2 x3 hf H locs ls hs hl
    rw [f_X7_ruler_6] at hf
    refine lv_iload_n hx hb dX7_ruler_6 rfl (lv_at hl 3 rfl) ?_
    refine lv_aload_n hx hb dX7_ruler_7 rfl (lv_at hl 0 rfl) ?_
    refine gf_X7_26 C hs rfl dX7_ruler_8 ?_
    refine gf_X7_105 C hs cb_tb9.1 dX7_ruler_11 ?_
    refine lv_icmp_ge (tgt := 44) hx hb dX7_ruler_14 (by decide) (fun cn => ?_) (fun cn => ?_)
    · replace hf := cb_ifp cn hf
      refine lv_iload_n hx hb dX7_ruler_44 rfl (lv_at hl 1 rfl) ?_
      have hf := Option.some.inj hf
      subst hf
      exact cb_reti C hs dX7_ruler_45
    · replace hf := cb_ifn cn hf
      refine lv_aload_n hx hb dX7_ruler_17 rfl (lv_at hl 0 rfl) ?_
      refine lv_iload_n hx hb dX7_ruler_18 rfl (lv_at hl 3 rfl) ?_
      obtain ⟨r_1, hc, hf⟩ := cb_bp_inv hf
      refine cb_callVi C (c_X7_beatenBy  hc) mw_X7_beatenBy ml_X7_176 rfl ⟨Nat.le_of_ble_eq_true rfl, Nat.le_of_ble_eq_true rfl⟩ rfl (Nat.le_of_ble_eq_true rfl) rfl hs hl rfl (Nat.le_of_ble_eq_true rfl) dX7_ruler_19 (fun H locs hs => ?_)
      clear hc
      obtain ⟨r_2, hc, hf⟩ := cb_bp_inv hf
      refine cb_callSi C (c_J6_bitCount_0f7a4  hc) mw_J6_bitCount_0f7a4 ml_X7_264 rfl ⟨Nat.le_of_ble_eq_true rfl, Nat.le_of_ble_eq_true rfl⟩ hs hl rfl (Nat.le_of_ble_eq_true rfl) dX7_ruler_22 (fun H locs hs => ?_)
      clear hc
      refine lv_istore (lv' := [(4, .int r_2), (0, .ref (A 0)), (1, .int x1), (2, .int x2), (3, .int x3)]) hx hb dX7_ruler_25 hl (by decide) rfl (fun ls hl => ?_)
      refine lv_iload hx hb dX7_ruler_27 (lv_at hl 0 rfl) ?_
      refine lv_iload_n hx hb dX7_ruler_29 rfl (lv_at hl 3 rfl) ?_
      refine lv_icmp_le (tgt := 38) hx hb dX7_ruler_30 (by decide) (fun cn => ?_) (fun cn => ?_)
      · replace hf := cb_ifp cn hf
        exact w_X7_ruler_38 C ih hf hs (lv_sub hl [1, 2, 3, 4] rfl)
      · replace hf := cb_ifn cn hf
        refine lv_iload hx hb dX7_ruler_33 (lv_at hl 0 rfl) ?_
        refine lv_istore_n (lv' := [(2, .int r_2), (4, .int r_2), (0, .ref (A 0)), (1, .int x1), (3, .int x3)]) hx hb dX7_ruler_35 rfl hl (by decide) rfl (fun ls hl => ?_)
        refine lv_iload_n hx hb dX7_ruler_36 rfl (lv_at hl 4 rfl) ?_
        refine lv_istore_n (lv' := [(1, .int x3), (2, .int r_2), (4, .int r_2), (0, .ref (A 0)), (3, .int x3)]) hx hb dX7_ruler_37 rfl hl (by decide) rfl (fun ls hl => ?_)
        exact w_X7_ruler_38 C ih hf hs (lv_sub hl [3, 0, 1, 4] rfl)
def f_X7_ruler (σ : cb_St)  : Option (Int32) := f_X7_ruler_6 σ cb_fu (-1) 0 0
set_option maxHeartbeats 4000000 in
set_option maxRecDepth 100000 in
theorem c_X7_ruler {σ : cb_St}   {o : Int32} (hf : f_X7_ruler σ = some o) : cb_M l yX7_ruler cX7_ruler 5 (some .int) 5 shC A T D σ [.ref (A 0)] (some (.int o)) σ := by
  refine cb_met (by decide +kernel) (Nat.le_of_ble_eq_true rfl) ?_
  intro p e s m below meth c C hs ls hl
  have hl : lv_has ls 5 [(0, .ref (A 0))] := hl
  obtain ⟨hx, hb, hml, hr, hown, hts, hK, hlk, hN⟩ := id C
  unfold f_X7_ruler at hf
  refine lv_iconst (v := (-1)) hx hb dX7_ruler_0 (by decide) ?_
  refine lv_istore_n (lv' := [(1, .int (-1)), (0, .ref (A 0))]) hx hb dX7_ruler_1 rfl hl (by decide) rfl (fun ls hl => ?_)
  refine lv_iconst (v := 0) hx hb dX7_ruler_2 (by decide) ?_
  refine lv_istore_n (lv' := [(2, .int 0), (1, .int (-1)), (0, .ref (A 0))]) hx hb dX7_ruler_3 rfl hl (by decide) rfl (fun ls hl => ?_)
  refine lv_iconst (v := 0) hx hb dX7_ruler_4 (by decide) ?_
  refine lv_istore_n (lv' := [(3, .int 0), (2, .int 0), (1, .int (-1)), (0, .ref (A 0))]) hx hb dX7_ruler_5 rfl hl (by decide) rfl (fun ls hl => ?_)
  exact w_X7_ruler_6 C  cb_fu _ _ _ hf _ _ _ hs (lv_sub hl [3, 2, 1, 0] rfl)
/-! ===== CardBecome.see ===== -/
def f_X7_see_24 (x1 : Int32) (x2 : Int32) (x3 : Int32) (σ : cb_St) : Option (Int32 × cb_St) := some ((-1000000002), σ)
set_option maxHeartbeats 4000000 in
set_option maxRecDepth 100000 in
theorem w_X7_see_24 (C : cb_C p s m args meth c cX7_see 4 (some .int) RX7 D T) {x1 : Int32} {x2 : Int32} {x3 : Int32} {o : Int32 × cb_St}  {σ : cb_St} (hf : f_X7_see_24 x1 x2 x3 σ = some o) {H : Heap} {locs : List Loc} {ls : Array Slot} (hs : cb_H shC A T D σ s.heap H locs) (hl : lv_has ls 4 [(0, .ref (A 0)), (1, .int x1), (2, .int x2), (3, .int x3)]) : cb_W p l e 3 s m args below meth c shC A T D (some (.int o.1)) o.2 H locs (F0 m 24 ls []) := by
  obtain ⟨hx, hb, hml, hr, hown, hts, hK, hlk, hN⟩ := id C
  unfold f_X7_see_24 at hf
  refine lv_ldc (v := (-1000000002)) hx hb hown (hts _ kc_X7_65) dX7_see_24 ?_
  have hf := Option.some.inj hf
  subst hf
  exact cb_reti C hs dX7_see_26
def f_X7_see (x1 : Int32) (x2 : Int32) (x3 : Int32) (σ : cb_St) : Option (Int32 × cb_St) := cb_bp (f_X6_hasTwoPersons 9 x1 x2 σ) (fun r_1 => if r_1 = 0 then (some ((-1000000001), σ)) else (if x3 < 0 then (f_X7_see_24 x1 x2 x3 σ) else (if x3 ≤ 2 then (cb_bi (f_X2_addSeen x1 x2 x3 σ) (fun r_2 σ_3 => if r_2 = 0 then (some ((-1000000004), σ_3)) else (some (σ_3.1 100 0, σ_3)))) else (f_X7_see_24 x1 x2 x3 σ))))
set_option maxHeartbeats 4000000 in
set_option maxRecDepth 100000 in
theorem c_X7_see {x1 : Int32} {x2 : Int32} {x3 : Int32}  {σ : cb_St} {o : Int32 × cb_St} (hf : f_X7_see x1 x2 x3 σ = some o) : cb_M l yX7_see cX7_see 4 (some .int) 3 shC A T D σ [.ref (A 0), .int x1, .int x2, .int x3] (some (.int o.1)) o.2 := by
  refine cb_met (by decide +kernel) (Nat.le_of_ble_eq_true rfl) ?_
  intro p e s m below meth c C hs ls hl
  have hl : lv_has ls 4 [(0, .ref (A 0)), (1, .int x1), (2, .int x2), (3, .int x3)] := hl
  obtain ⟨hx, hb, hml, hr, hown, hts, hK, hlk, hN⟩ := id C
  unfold f_X7_see at hf
  refine lv_aload_n hx hb dX7_see_0 rfl (lv_at hl 0 rfl) ?_
  refine gf_X7_26 C hs rfl dX7_see_1 ?_
  refine lv_iload_n hx hb dX7_see_4 rfl (lv_at hl 1 rfl) ?_
  refine lv_iload_n hx hb dX7_see_5 rfl (lv_at hl 2 rfl) ?_
  obtain ⟨r_1, hc, hf⟩ := cb_bp_inv hf
  refine cb_callVi C (c_X6_hasTwoPersons cb_tb9 hc) mw_X6_hasTwoPersons ml_X7_209 rfl ⟨Nat.le_of_ble_eq_true rfl, Nat.le_of_ble_eq_true rfl⟩ cb_tb9.1 (Nat.le_of_ble_eq_true rfl) rfl hs hl rfl (Nat.le_of_ble_eq_true rfl) dX7_see_6 (fun H locs hs => ?_)
  clear hc
  refine lv_if_ne (tgt := 15) hx hb dX7_see_9 (by decide) (fun cn => ?_) (fun cn => ?_)
  · replace hf := cb_ifn cn hf
    refine lv_iload_n hx hb dX7_see_15 rfl (lv_at hl 3 rfl) ?_
    refine lv_if_lt (tgt := 24) hx hb dX7_see_16 (by decide) (fun cn => ?_) (fun cn => ?_)
    · replace hf := cb_ifp cn hf
      exact w_X7_see_24 C  hf hs (lv_sub hl [0, 1, 2, 3] rfl)
    · replace hf := cb_ifn cn hf
      refine lv_iload_n hx hb dX7_see_19 rfl (lv_at hl 3 rfl) ?_
      refine lv_iconst (v := 2) hx hb dX7_see_20 (by decide) ?_
      refine lv_icmp_le (tgt := 27) hx hb dX7_see_21 (by decide) (fun cn => ?_) (fun cn => ?_)
      · replace hf := cb_ifp cn hf
        refine lv_aload_n hx hb dX7_see_27 rfl (lv_at hl 0 rfl) ?_
        refine gf_X7_47 C hs rfl dX7_see_28 ?_
        refine lv_iload_n hx hb dX7_see_31 rfl (lv_at hl 1 rfl) ?_
        refine lv_iload_n hx hb dX7_see_32 rfl (lv_at hl 2 rfl) ?_
        refine lv_iload_n hx hb dX7_see_33 rfl (lv_at hl 3 rfl) ?_
        obtain ⟨r_2, σ_3, hc, hf⟩ := cb_bi_inv hf
        refine cb_callVi C (c_X2_addSeen  hc) mw_X2_addSeen ml_X7_279 rfl ⟨Nat.le_of_ble_eq_true rfl, Nat.le_of_ble_eq_true rfl⟩ rfl (Nat.le_of_ble_eq_true rfl) rfl hs hl rfl (Nat.le_of_ble_eq_true rfl) dX7_see_34 (fun H locs hs => ?_)
        clear hc
        refine lv_if_eq (tgt := 50) hx hb dX7_see_37 (by decide) (fun cn => ?_) (fun cn => ?_)
        · replace hf := cb_ifp cn hf
          refine lv_ldc (v := (-1000000004)) hx hb hown (hts _ kc_X7_74) dX7_see_50 ?_
          have hf := Option.some.inj hf
          subst hf
          exact cb_reti C hs dX7_see_52
        · replace hf := cb_ifn cn hf
          refine lv_aload_n hx hb dX7_see_40 rfl (lv_at hl 0 rfl) ?_
          refine gf_X7_47 C hs rfl dX7_see_41 ?_
          refine gf_X7_139 C hs rfl dX7_see_44 ?_
          refine lv_goto (tgt := 52) hx hb dX7_see_47 (by decide) ?_
          have hf := Option.some.inj hf
          subst hf
          exact cb_reti C hs dX7_see_52
      · replace hf := cb_ifn cn hf
        exact w_X7_see_24 C  hf hs (lv_sub hl [0, 1, 2, 3] rfl)
  · replace hf := cb_ifp cn hf
    refine lv_ldc (v := (-1000000001)) hx hb hown (hts _ kc_X7_150) dX7_see_12 ?_
    have hf := Option.some.inj hf
    subst hf
    exact cb_reti C hs dX7_see_14
/-! ===== CardBecome.seed ===== -/
def f_X7_seed (x1 : Int32) (σ : cb_St) : Option (Int32 × cb_St) := if 0 ≤ x1 then (cb_let (σ.1 0 0) (fun x2_0 => cb_let (cb_sI σ 0 0 x1) (fun σ_2 => some (x2_0, σ_2)))) else (some ((-1000000002), σ))
set_option maxHeartbeats 4000000 in
set_option maxRecDepth 100000 in
theorem c_X7_seed {x1 : Int32}  {σ : cb_St} {o : Int32 × cb_St} (hf : f_X7_seed x1 σ = some o) : cb_M l yX7_seed cX7_seed 3 (some .int) 1 shC A T D σ [.ref (A 0), .int x1] (some (.int o.1)) o.2 := by
  refine cb_met (by decide +kernel) (Nat.le_of_ble_eq_true rfl) ?_
  intro p e s m below meth c C hs ls hl
  have hl : lv_has ls 3 [(0, .ref (A 0)), (1, .int x1)] := hl
  obtain ⟨hx, hb, hml, hr, hown, hts, hK, hlk, hN⟩ := id C
  unfold f_X7_seed at hf
  refine lv_iload_n hx hb dX7_seed_0 rfl (lv_at hl 1 rfl) ?_
  refine lv_if_ge (tgt := 7) hx hb dX7_seed_1 (by decide) (fun cn => ?_) (fun cn => ?_)
  · replace hf := cb_ifp cn hf
    refine lv_aload_n hx hb dX7_seed_7 rfl (lv_at hl 0 rfl) ?_
    refine gf_X7_304 C hs rfl dX7_seed_8 ?_
    obtain ⟨x2_0, e9, hf⟩ := cb_let_inv hf
    refine cb_topi e9 ?_
    clear e9
    refine lv_istore_n (lv' := [(2, .int x2_0), (0, .ref (A 0)), (1, .int x1)]) hx hb dX7_seed_11 rfl hl (by decide) rfl (fun ls hl => ?_)
    refine lv_aload_n hx hb dX7_seed_12 rfl (lv_at hl 1 rfl) ?_
    refine lv_iload_n hx hb dX7_seed_13 rfl (lv_at hl 2 rfl) ?_
    refine pf_X7_304 C hs rfl dX7_seed_14 (fun H locs hs => ?_)
    obtain ⟨σ_2, e9, hf⟩ := cb_let_inv hf
    replace hs := cb_Hc e9 hs
    clear e9
    refine lv_iload_n hx hb dX7_seed_17 rfl (lv_at hl 0 rfl) ?_
    have hf := Option.some.inj hf
    subst hf
    exact cb_reti C hs dX7_seed_18
  · replace hf := cb_ifn cn hf
    refine lv_ldc (v := (-1000000002)) hx hb hown (hts _ kc_X7_65) dX7_seed_4 ?_
    have hf := Option.some.inj hf
    subst hf
    exact cb_reti C hs dX7_seed_6
/-! ===== CardBecome.shuffle ===== -/
def f_X7_shuffle_9 (x1 : Int32) (σ : cb_St) : Option (Int32 × cb_St) := some ((-1000000002), σ)
set_option maxHeartbeats 4000000 in
set_option maxRecDepth 100000 in
theorem w_X7_shuffle_9 (C : cb_C p s m args meth c cX7_shuffle 2 (some .int) RX7 D T) {x1 : Int32} {o : Int32 × cb_St}  {σ : cb_St} (hf : f_X7_shuffle_9 x1 σ = some o) {H : Heap} {locs : List Loc} {ls : Array Slot} (hs : cb_H shC A T D σ s.heap H locs) (hl : lv_has ls 2 [(0, .ref (A 0)), (1, .int x1)]) : cb_W p l e 3 s m args below meth c shC A T D (some (.int o.1)) o.2 H locs (F0 m 9 ls []) := by
  obtain ⟨hx, hb, hml, hr, hown, hts, hK, hlk, hN⟩ := id C
  unfold f_X7_shuffle_9 at hf
  refine lv_ldc (v := (-1000000002)) hx hb hown (hts _ kc_X7_65) dX7_shuffle_9 ?_
  have hf := Option.some.inj hf
  subst hf
  exact cb_reti C hs dX7_shuffle_11
def f_X7_shuffle (x1 : Int32) (σ : cb_St) : Option (Int32 × cb_St) := if x1 < 0 then (f_X7_shuffle_9 x1 σ) else (if x1 < 3 then (if (σ.1 9 0) = 0 then (some ((-1000000003), σ)) else (cb_bv (f_X3_push σ) (fun σ_1 => cb_bv (f_X4_mix 13 x1 σ_1) (fun σ_2 => cb_bp (f_X4_cardAt 13 0 σ_2) (fun r_3 => some (r_3, σ_2)))))) else (f_X7_shuffle_9 x1 σ))
set_option maxHeartbeats 4000000 in
set_option maxRecDepth 100000 in
theorem c_X7_shuffle {x1 : Int32}  {σ : cb_St} {o : Int32 × cb_St} (hf : f_X7_shuffle x1 σ = some o) : cb_M l yX7_shuffle cX7_shuffle 2 (some .int) 3 shC A T D σ [.ref (A 0), .int x1] (some (.int o.1)) o.2 := by
  refine cb_met (by decide +kernel) (Nat.le_of_ble_eq_true rfl) ?_
  intro p e s m below meth c C hs ls hl
  have hl : lv_has ls 2 [(0, .ref (A 0)), (1, .int x1)] := hl
  obtain ⟨hx, hb, hml, hr, hown, hts, hK, hlk, hN⟩ := id C
  unfold f_X7_shuffle at hf
  refine lv_iload_n hx hb dX7_shuffle_0 rfl (lv_at hl 1 rfl) ?_
  refine lv_if_lt (tgt := 9) hx hb dX7_shuffle_1 (by decide) (fun cn => ?_) (fun cn => ?_)
  · replace hf := cb_ifp cn hf
    exact w_X7_shuffle_9 C  hf hs (lv_sub hl [0, 1] rfl)
  · replace hf := cb_ifn cn hf
    refine lv_iload_n hx hb dX7_shuffle_4 rfl (lv_at hl 1 rfl) ?_
    refine lv_iconst (v := 3) hx hb dX7_shuffle_5 (by decide) ?_
    refine lv_icmp_lt (tgt := 12) hx hb dX7_shuffle_6 (by decide) (fun cn => ?_) (fun cn => ?_)
    · replace hf := cb_ifp cn hf
      refine lv_aload_n hx hb dX7_shuffle_12 rfl (lv_at hl 0 rfl) ?_
      refine gf_X7_26 C hs rfl dX7_shuffle_13 ?_
      refine gf_X7_220 C hs cb_tb9.1 dX7_shuffle_16 ?_
      refine lv_if_ne (tgt := 25) hx hb dX7_shuffle_19 (by decide) (fun cn => ?_) (fun cn => ?_)
      · replace hf := cb_ifn cn hf
        refine lv_aload_n hx hb dX7_shuffle_25 rfl (lv_at hl 0 rfl) ?_
        refine gf_X7_40 C hs rfl dX7_shuffle_26 ?_
        refine lv_aload_n hx hb dX7_shuffle_29 rfl (lv_at hl 0 rfl) ?_
        refine gf_X7_33 C hs rfl dX7_shuffle_30 ?_
        obtain ⟨σ_1, hc, hf⟩ := cb_bv_inv hf
        refine cb_callVv C (c_X3_push  hc) mw_X3_push ml_X7_199 rfl ⟨Nat.le_of_ble_eq_true rfl, Nat.le_of_ble_eq_true rfl⟩ rfl (Nat.le_of_ble_eq_true rfl) rfl hs hl rfl (Nat.le_of_ble_eq_true rfl) dX7_shuffle_33 (fun H locs hs => ?_)
        clear hc
        refine lv_aload_n hx hb dX7_shuffle_36 rfl (lv_at hl 0 rfl) ?_
        refine gf_X7_33 C hs rfl dX7_shuffle_37 ?_
        refine lv_iload_n hx hb dX7_shuffle_40 rfl (lv_at hl 1 rfl) ?_
        refine lv_aload_n hx hb dX7_shuffle_41 rfl (lv_at hl 0 rfl) ?_
        refine gf_X7_13 C hs rfl dX7_shuffle_42 ?_
        obtain ⟨σ_2, hc, hf⟩ := cb_bv_inv hf
        refine cb_callVv C (c_X4_mix cb_pl13 hc) mw_X4_mix ml_X7_223 rfl ⟨Nat.le_of_ble_eq_true rfl, Nat.le_of_ble_eq_true rfl⟩ cb_pl13.1 (Nat.le_of_ble_eq_true rfl) rfl hs hl rfl (Nat.le_of_ble_eq_true rfl) dX7_shuffle_45 (fun H locs hs => ?_)
        clear hc
        refine lv_aload_n hx hb dX7_shuffle_48 rfl (lv_at hl 0 rfl) ?_
        refine gf_X7_33 C hs rfl dX7_shuffle_49 ?_
        refine lv_iconst (v := 0) hx hb dX7_shuffle_52 (by decide) ?_
        obtain ⟨r_3, hc, hf⟩ := cb_bp_inv hf
        refine cb_callVi C (c_X4_cardAt cb_pl13 hc) mw_X4_cardAt ml_X7_164 rfl ⟨Nat.le_of_ble_eq_true rfl, Nat.le_of_ble_eq_true rfl⟩ cb_pl13.1 (Nat.le_of_ble_eq_true rfl) rfl hs hl rfl (Nat.le_of_ble_eq_true rfl) dX7_shuffle_53 (fun H locs hs => ?_)
        clear hc
        have hf := Option.some.inj hf
        subst hf
        exact cb_reti C hs dX7_shuffle_56
      · replace hf := cb_ifp cn hf
        refine lv_ldc (v := (-1000000003)) hx hb hown (hts _ kc_X7_198) dX7_shuffle_22 ?_
        have hf := Option.some.inj hf
        subst hf
        exact cb_reti C hs dX7_shuffle_24
    · replace hf := cb_ifn cn hf
      exact w_X7_shuffle_9 C  hf hs (lv_sub hl [0, 1] rfl)
/-! ===== CardBecome.table ===== -/
def f_X7_table_72  : Nat → cb_St → Int32 → Option (Int32 × cb_St)
  | 0, _, _ => none
  | fu + 1, σ, x1 => if 2 ≤ x1 then (some (σ.1 9 5, σ)) else (cb_ck (0 ≤ Int32.toInt x1 ∧ Int32.toInt x1 < 2) (cb_let (cb_sI σ (111 + 1 + 6 * Int32.toNatClampNeg x1) 0 0) (fun σ_2 => cb_let (x1 + 1) (fun x1_2 => f_X7_table_72 fu σ_2 x1_2))))
set_option maxHeartbeats 4000000 in
set_option maxRecDepth 100000 in
theorem w_X7_table_72 (C : cb_C p s m args meth c cX7_table 2 (some .int) RX7 D T)  {o : Int32 × cb_St}  : ∀ (fu : Nat) (σ : cb_St) (x1 : Int32), f_X7_table_72 fu σ x1 = some o → ∀ (H : Heap) (locs : List Loc) (ls : Array Slot), cb_H shC A T D σ s.heap H locs → lv_has ls 2 [(0, .ref (A 0)), (1, .int x1)] → cb_W p l e 8 s m args below meth c shC A T D (some (.int o.1)) o.2 H locs (F0 m 72 ls []) := by
  obtain ⟨hx, hb, hml, hr, hown, hts, hK, hlk, hN⟩ := id C
  intro fu
  induction fu with
  | zero =>
    intro σ x1 hf
    rw [f_X7_table_72] at hf
    cases hf
  | succ fu ih =>
    intro σ x1 hf H locs ls hs hl
    rw [f_X7_table_72] at hf
    refine lv_iload_n hx hb dX7_table_72 rfl (lv_at hl 1 rfl) ?_
    refine lv_iconst (v := 2) hx hb dX7_table_73 (by decide) ?_
    refine lv_icmp_ge (tgt := 93) hx hb dX7_table_74 (by decide) (fun cn => ?_) (fun cn => ?_)
    · replace hf := cb_ifp cn hf
      refine lv_aload_n hx hb dX7_table_93 rfl (lv_at hl 0 rfl) ?_
      refine gf_X7_26 C hs rfl dX7_table_94 ?_
      refine gf_X7_105 C hs cb_tb9.1 dX7_table_97 ?_
      have hf := Option.some.inj hf
      subst hf
      exact cb_reti C hs dX7_table_100
    · replace hf := cb_ifn cn hf
      refine lv_aload_n hx hb dX7_table_77 rfl (lv_at hl 0 rfl) ?_
      refine gf_X7_60 C hs rfl dX7_table_78 ?_
      refine lv_iload_n hx hb dX7_table_81 rfl (lv_at hl 1 rfl) ?_
      obtain ⟨hc, hf⟩ := cb_ck_inv hf
      refine cb_aald (w := 111 + 1 + 6 * Int32.toNatClampNeg x1) (C0 := 2) C hs rfl rfl rfl (vp_in_iff.mpr hc) rfl dX7_table_82 ?_
      have hq_1 := cb_imI (vp_in_iff.mpr hc)
      refine lv_iconst (v := 0) hx hb dX7_table_83 (by decide) ?_
      refine pf_X7_101 C hs hq_1.1 (Or.inl rfl) dX7_table_84 (fun H locs hs => ?_)
      obtain ⟨σ_2, e9, hf⟩ := cb_let_inv hf
      replace hs := cb_Hc e9 hs
      clear e9
      obtain ⟨x1_2, e9, hf⟩ := cb_let_inv hf
      refine lv_iinc (v := x1_2) (lv' := [(1, .int x1_2), (0, .ref (A 0))]) hx hb dX7_table_87 hl (k := 1) rfl (by rw [e9]; rfl) (by decide) rfl (fun ls hl => ?_)
      clear e9
      refine lv_goto (tgt := 72) hx hb dX7_table_90 (by decide) ?_
      exact ih _ _ hf _ _ _ hs (lv_sub hl [1, 0] rfl)
def f_X7_table  (σ : cb_St) : Option (Int32 × cb_St) := cb_bv (f_X5_read σ) (fun σ_1 => if (σ_1.1 3 1) = 0 then (cb_bv (f_X6_become 9 σ_1) (fun σ_2 => cb_bv (f_X4_begin 13 (σ_2.1 9 4) σ_2) (fun σ_3 => cb_bv (f_X2_empty σ_3) (fun σ_4 => cb_bv (f_X3_forget σ_4) (fun σ_5 => f_X7_table_72 cb_fu σ_5 0))))) else (some ((-10) - (σ_1.1 3 1), σ_1)))
set_option maxHeartbeats 4000000 in
set_option maxRecDepth 100000 in
theorem c_X7_table   {σ : cb_St} {o : Int32 × cb_St} (hf : f_X7_table σ = some o) : cb_M l yX7_table cX7_table 2 (some .int) 8 shC A T D σ [.ref (A 0)] (some (.int o.1)) o.2 := by
  refine cb_met (by decide +kernel) (Nat.le_of_ble_eq_true rfl) ?_
  intro p e s m below meth c C hs ls hl
  have hl : lv_has ls 2 [(0, .ref (A 0))] := hl
  obtain ⟨hx, hb, hml, hr, hown, hts, hK, hlk, hN⟩ := id C
  unfold f_X7_table at hf
  refine lv_aload_n hx hb dX7_table_0 rfl (lv_at hl 0 rfl) ?_
  refine gf_X7_19 C hs rfl dX7_table_1 ?_
  obtain ⟨σ_1, hc, hf⟩ := cb_bv_inv hf
  refine cb_callVv C (c_X5_read  hc) mw_X5_read ml_X7_75 rfl ⟨Nat.le_of_ble_eq_true rfl, Nat.le_of_ble_eq_true rfl⟩ rfl (Nat.le_of_ble_eq_true rfl) rfl hs hl rfl (Nat.le_of_ble_eq_true rfl) dX7_table_4 (fun H locs hs => ?_)
  clear hc
  refine lv_aload_n hx hb dX7_table_7 rfl (lv_at hl 0 rfl) ?_
  refine gf_X7_19 C hs rfl dX7_table_8 ?_
  refine gf_X7_78 C hs rfl dX7_table_11 ?_
  refine lv_if_eq (tgt := 28) hx hb dX7_table_14 (by decide) (fun cn => ?_) (fun cn => ?_)
  · replace hf := cb_ifp cn hf
    refine lv_aload_n hx hb dX7_table_28 rfl (lv_at hl 0 rfl) ?_
    refine gf_X7_26 C hs rfl dX7_table_29 ?_
    refine lv_aload_n hx hb dX7_table_32 rfl (lv_at hl 0 rfl) ?_
    refine gf_X7_19 C hs rfl dX7_table_33 ?_
    refine gf_X7_81 C hs rfl dX7_table_36 ?_
    obtain ⟨σ_2, hc, hf⟩ := cb_bv_inv hf
    refine cb_callVv C (c_X6_become cb_tb9 hc) mw_X6_become ml_X7_84 rfl ⟨Nat.le_of_ble_eq_true rfl, Nat.le_of_ble_eq_true rfl⟩ cb_tb9.1 (Nat.le_of_ble_eq_true rfl) rfl hs hl rfl (Nat.le_of_ble_eq_true rfl) dX7_table_39 (fun H locs hs => ?_)
    clear hc
    refine lv_aload_n hx hb dX7_table_42 rfl (lv_at hl 0 rfl) ?_
    refine gf_X7_33 C hs rfl dX7_table_43 ?_
    refine lv_aload_n hx hb dX7_table_46 rfl (lv_at hl 0 rfl) ?_
    refine gf_X7_26 C hs rfl dX7_table_47 ?_
    refine gf_X7_88 C hs cb_tb9.1 dX7_table_50 ?_
    obtain ⟨σ_3, hc, hf⟩ := cb_bv_inv hf
    refine cb_callVv C (c_X4_begin cb_pl13 hc) mw_X4_begin ml_X7_91 rfl ⟨Nat.le_of_ble_eq_true rfl, Nat.le_of_ble_eq_true rfl⟩ cb_pl13.1 (Nat.le_of_ble_eq_true rfl) rfl hs hl rfl (Nat.le_of_ble_eq_true rfl) dX7_table_53 (fun H locs hs => ?_)
    clear hc
    refine lv_aload_n hx hb dX7_table_56 rfl (lv_at hl 0 rfl) ?_
    refine gf_X7_47 C hs rfl dX7_table_57 ?_
    obtain ⟨σ_4, hc, hf⟩ := cb_bv_inv hf
    refine cb_callVv C (c_X2_empty  hc) mw_X2_empty ml_X7_95 rfl ⟨Nat.le_of_ble_eq_true rfl, Nat.le_of_ble_eq_true rfl⟩ rfl (Nat.le_of_ble_eq_true rfl) rfl hs hl rfl (Nat.le_of_ble_eq_true rfl) dX7_table_60 (fun H locs hs => ?_)
    clear hc
    refine lv_aload_n hx hb dX7_table_63 rfl (lv_at hl 0 rfl) ?_
    refine gf_X7_40 C hs rfl dX7_table_64 ?_
    obtain ⟨σ_5, hc, hf⟩ := cb_bv_inv hf
    refine cb_callVv C (c_X3_forget  hc) mw_X3_forget ml_X7_98 rfl ⟨Nat.le_of_ble_eq_true rfl, Nat.le_of_ble_eq_true rfl⟩ rfl (Nat.le_of_ble_eq_true rfl) rfl hs hl rfl (Nat.le_of_ble_eq_true rfl) dX7_table_67 (fun H locs hs => ?_)
    clear hc
    refine lv_iconst (v := 0) hx hb dX7_table_70 (by decide) ?_
    refine lv_istore_n (lv' := [(1, .int 0), (0, .ref (A 0))]) hx hb dX7_table_71 rfl hl (by decide) rfl (fun ls hl => ?_)
    exact w_X7_table_72 C  cb_fu _ _ hf _ _ _ hs (lv_sub hl [1, 0] rfl)
  · replace hf := cb_ifn cn hf
    refine lv_bipush (v := (-10)) hx hb dX7_table_17 (by decide) ?_
    refine lv_aload_n hx hb dX7_table_19 rfl (lv_at hl 0 rfl) ?_
    refine gf_X7_19 C hs rfl dX7_table_20 ?_
    refine gf_X7_78 C hs rfl dX7_table_23 ?_
    refine lv_isub hx hb dX7_table_26 ?_
    have hf := Option.some.inj hf
    subst hf
    exact cb_reti C hs dX7_table_27
/-! ===== CardBecome.tear ===== -/
def f_X7_tear  (σ : cb_St) : Option (Int32 × cb_St) := cb_let ((σ.1 100 0) + (σ.1 100 1)) (fun x1_0 => cb_bv (f_X2_empty σ) (fun σ_2 => some (x1_0, σ_2)))
set_option maxHeartbeats 4000000 in
set_option maxRecDepth 100000 in
theorem c_X7_tear   {σ : cb_St} {o : Int32 × cb_St} (hf : f_X7_tear σ = some o) : cb_M l yX7_tear cX7_tear 2 (some .int) 2 shC A T D σ [.ref (A 0)] (some (.int o.1)) o.2 := by
  refine cb_met (by decide +kernel) (Nat.le_of_ble_eq_true rfl) ?_
  intro p e s m below meth c C hs ls hl
  have hl : lv_has ls 2 [(0, .ref (A 0))] := hl
  obtain ⟨hx, hb, hml, hr, hown, hts, hK, hlk, hN⟩ := id C
  unfold f_X7_tear at hf
  refine lv_aload_n hx hb dX7_tear_0 rfl (lv_at hl 0 rfl) ?_
  refine gf_X7_47 C hs rfl dX7_tear_1 ?_
  refine gf_X7_139 C hs rfl dX7_tear_4 ?_
  refine lv_aload_n hx hb dX7_tear_7 rfl (lv_at hl 0 rfl) ?_
  refine gf_X7_47 C hs rfl dX7_tear_8 ?_
  refine gf_X7_142 C hs rfl dX7_tear_11 ?_
  refine lv_iadd hx hb dX7_tear_14 ?_
  obtain ⟨x1_0, e9, hf⟩ := cb_let_inv hf
  refine cb_topi e9 ?_
  clear e9
  refine lv_istore_n (lv' := [(1, .int x1_0), (0, .ref (A 0))]) hx hb dX7_tear_15 rfl hl (by decide) rfl (fun ls hl => ?_)
  refine lv_aload_n hx hb dX7_tear_16 rfl (lv_at hl 1 rfl) ?_
  refine gf_X7_47 C hs rfl dX7_tear_17 ?_
  obtain ⟨σ_2, hc, hf⟩ := cb_bv_inv hf
  refine cb_callVv C (c_X2_empty  hc) mw_X2_empty ml_X7_95 rfl ⟨Nat.le_of_ble_eq_true rfl, Nat.le_of_ble_eq_true rfl⟩ rfl (Nat.le_of_ble_eq_true rfl) rfl hs hl rfl (Nat.le_of_ble_eq_true rfl) dX7_tear_20 (fun H locs hs => ?_)
  clear hc
  refine lv_iload_n hx hb dX7_tear_23 rfl (lv_at hl 0 rfl) ?_
  have hf := Option.some.inj hf
  subst hf
  exact cb_reti C hs dX7_tear_24
/-! ===== CardBecome.tells ===== -/
def f_X7_tells_74 (K15 : Int32 → Int32 → Int32 → Int32 → Option (Int32)) (K33 : Int32 → Int32 → Int32 → Int32 → Int32 → Option (Int32)) (σ : cb_St) (x1 : Int32) (x2 : Int32) (x3 : Int32) (x4 : Int32) (x5 : Int32) : Option (Int32) := cb_let (x5 + 1) (fun x5_0 => K33 x1 x2 x3 x4 x5_0)
set_option maxHeartbeats 4000000 in
set_option maxRecDepth 100000 in
theorem w_X7_tells_74 (C : cb_C p s m args meth c cX7_tells 7 (some .int) RX7 D T) {K15 : Int32 → Int32 → Int32 → Int32 → Option (Int32)} {K33 : Int32 → Int32 → Int32 → Int32 → Int32 → Option (Int32)} {σ : cb_St} {o : Int32} (hK15 : ∀ (x1 : Int32) (x2 : Int32) (x3 : Int32) (x4 : Int32), K15 x1 x2 x3 x4 = some o → ∀ (H : Heap) (locs : List Loc) (ls : Array Slot), cb_H shC A T D σ s.heap H locs → lv_has ls 7 [(0, .ref (A 0)), (1, .int x1), (2, .int x2), (3, .int x3), (4, .int x4)] → cb_W p l e 6 s m args below meth c shC A T D (some (.int o)) σ H locs (F0 m 15 ls [])) (hK33 : ∀ (x1 : Int32) (x2 : Int32) (x3 : Int32) (x4 : Int32) (x5 : Int32), K33 x1 x2 x3 x4 x5 = some o → ∀ (H : Heap) (locs : List Loc) (ls : Array Slot), cb_H shC A T D σ s.heap H locs → lv_has ls 7 [(0, .ref (A 0)), (1, .int x1), (2, .int x2), (3, .int x3), (4, .int x4), (5, .int x5)] → cb_W p l e 6 s m args below meth c shC A T D (some (.int o)) σ H locs (F0 m 33 ls [])) {x1 : Int32} {x2 : Int32} {x3 : Int32} {x4 : Int32} {x5 : Int32} (hf : f_X7_tells_74 K15 K33 σ x1 x2 x3 x4 x5 = some o) {H : Heap} {locs : List Loc} {ls : Array Slot} (hs : cb_H shC A T D σ s.heap H locs) (hl : lv_has ls 7 [(0, .ref (A 0)), (1, .int x1), (2, .int x2), (3, .int x3), (4, .int x4), (5, .int x5)]) : cb_W p l e 6 s m args below meth c shC A T D (some (.int o)) σ H locs (F0 m 74 ls []) := by
  obtain ⟨hx, hb, hml, hr, hown, hts, hK, hlk, hN⟩ := id C
  unfold f_X7_tells_74 at hf
  obtain ⟨x5_0, e9, hf⟩ := cb_let_inv hf
  refine lv_iinc (v := x5_0) (lv' := [(5, .int x5_0), (0, .ref (A 0)), (1, .int x1), (2, .int x2), (3, .int x3), (4, .int x4)]) hx hb dX7_tells_74 hl (k := 5) rfl (by rw [e9]; rfl) (by decide) rfl (fun ls hl => ?_)
  clear e9
  refine lv_goto (tgt := 33) hx hb dX7_tells_77 (by decide) ?_
  exact hK33 _ _ _ _ _ hf _ _ _ hs (lv_sub hl [1, 2, 3, 4, 5, 0] rfl)
def f_X7_tells_33 (K15 : Int32 → Int32 → Int32 → Int32 → Option (Int32)) (σ : cb_St) : Nat → Int32 → Int32 → Int32 → Int32 → Int32 → Option (Int32)
  | 0, _, _, _, _, _ => none
  | fu + 1, x1, x2, x3, x4, x5 => if (σ.1 9 4) ≤ x5 then (cb_let (x4 + 1) (fun x4_0 => K15 x1 x2 x3 x4_0)) else (cb_bp (f_X7_greatestPart x4 x5 x1 σ) (fun r_2 => if x2 ≤ r_2 then (f_X7_tells_74 K15 (f_X7_tells_33 K15 σ fu) σ x1 x2 x3 x4 x5) else (cb_let ((100 * x4) + x5) (fun x3_2 => f_X7_tells_74 K15 (f_X7_tells_33 K15 σ fu) σ x1 r_2 x3_2 x4 x5))))
set_option maxHeartbeats 4000000 in
set_option maxRecDepth 100000 in
theorem w_X7_tells_33 (C : cb_C p s m args meth c cX7_tells 7 (some .int) RX7 D T) {K15 : Int32 → Int32 → Int32 → Int32 → Option (Int32)} {σ : cb_St} {o : Int32} (hK15 : ∀ (x1 : Int32) (x2 : Int32) (x3 : Int32) (x4 : Int32), K15 x1 x2 x3 x4 = some o → ∀ (H : Heap) (locs : List Loc) (ls : Array Slot), cb_H shC A T D σ s.heap H locs → lv_has ls 7 [(0, .ref (A 0)), (1, .int x1), (2, .int x2), (3, .int x3), (4, .int x4)] → cb_W p l e 6 s m args below meth c shC A T D (some (.int o)) σ H locs (F0 m 15 ls [])) : ∀ (fu : Nat) (x1 : Int32) (x2 : Int32) (x3 : Int32) (x4 : Int32) (x5 : Int32), f_X7_tells_33 K15 σ fu x1 x2 x3 x4 x5 = some o → ∀ (H : Heap) (locs : List Loc) (ls : Array Slot), cb_H shC A T D σ s.heap H locs → lv_has ls 7 [(0, .ref (A 0)), (1, .int x1), (2, .int x2), (3, .int x3), (4, .int x4), (5, .int x5)] → cb_W p l e 6 s m args below meth c shC A T D (some (.int o)) σ H locs (F0 m 33 ls []) := by
  obtain ⟨hx, hb, hml, hr, hown, hts, hK, hlk, hN⟩ := id C
  intro fu
  induction fu with
  | zero =>
    intro x1 x2 x3 x4 x5 hf
    rw [f_X7_tells_33] at hf
    cases hf
  | succ fu ih =>
    intro x1 x2 x3 x4 x5 hf H locs ls hs hl
    rw [f_X7_tells_33] at hf
    refine lv_iload hx hb dX7_tells_33 (lv_at hl 5 rfl) ?_
    refine lv_aload_n hx hb dX7_tells_35 rfl (lv_at hl 0 rfl) ?_
    refine gf_X7_26 C hs rfl dX7_tells_36 ?_
    refine gf_X7_88 C hs cb_tb9.1 dX7_tells_39 ?_
    refine lv_icmp_ge (tgt := 80) hx hb dX7_tells_42 (by decide) (fun cn => ?_) (fun cn => ?_)
    · replace hf := cb_ifp cn hf
      obtain ⟨x4_0, e9, hf⟩ := cb_let_inv hf
      refine lv_iinc (v := x4_0) (lv' := [(4, .int x4_0), (0, .ref (A 0)), (1, .int x1), (2, .int x2), (3, .int x3), (5, .int x5)]) hx hb dX7_tells_80 hl (k := 4) rfl (by rw [e9]; rfl) (by decide) rfl (fun ls hl => ?_)
      clear e9
      refine lv_goto (tgt := 15) hx hb dX7_tells_83 (by decide) ?_
      exact hK15 _ _ _ _ hf _ _ _ hs (lv_sub hl [1, 2, 3, 4, 0] rfl)
    · replace hf := cb_ifn cn hf
      refine lv_aload_n hx hb dX7_tells_45 rfl (lv_at hl 0 rfl) ?_
      refine lv_iload hx hb dX7_tells_46 (lv_at hl 4 rfl) ?_
      refine lv_iload hx hb dX7_tells_48 (lv_at hl 5 rfl) ?_
      refine lv_iload_n hx hb dX7_tells_50 rfl (lv_at hl 1 rfl) ?_
      obtain ⟨r_2, hc, hf⟩ := cb_bp_inv hf
      refine cb_callVi C (c_X7_greatestPart  hc) mw_X7_greatestPart ml_X7_269 rfl ⟨Nat.le_of_ble_eq_true rfl, Nat.le_of_ble_eq_true rfl⟩ rfl (Nat.le_of_ble_eq_true rfl) rfl hs hl rfl (Nat.le_of_ble_eq_true rfl) dX7_tells_51 (fun H locs hs => ?_)
      clear hc
      refine lv_istore (lv' := [(6, .int r_2), (0, .ref (A 0)), (1, .int x1), (2, .int x2), (3, .int x3), (4, .int x4), (5, .int x5)]) hx hb dX7_tells_54 hl (by decide) rfl (fun ls hl => ?_)
      refine lv_iload hx hb dX7_tells_56 (lv_at hl 0 rfl) ?_
      refine lv_iload_n hx hb dX7_tells_58 rfl (lv_at hl 3 rfl) ?_
      refine lv_icmp_ge (tgt := 74) hx hb dX7_tells_59 (by decide) (fun cn => ?_) (fun cn => ?_)
      · replace hf := cb_ifp cn hf
        exact w_X7_tells_74 C hK15 ih hf hs (lv_sub hl [1, 2, 3, 4, 5, 6] rfl)
      · replace hf := cb_ifn cn hf
        refine lv_iload hx hb dX7_tells_62 (lv_at hl 0 rfl) ?_
        refine lv_istore_n (lv' := [(2, .int r_2), (6, .int r_2), (0, .ref (A 0)), (1, .int x1), (3, .int x3), (4, .int x4), (5, .int x5)]) hx hb dX7_tells_64 rfl hl (by decide) rfl (fun ls hl => ?_)
        refine lv_bipush (v := 100) hx hb dX7_tells_65 (by decide) ?_
        refine lv_iload hx hb dX7_tells_67 (lv_at hl 5 rfl) ?_
        refine lv_imul hx hb dX7_tells_69 ?_
        refine lv_iload hx hb dX7_tells_70 (lv_at hl 6 rfl) ?_
        refine lv_iadd hx hb dX7_tells_72 ?_
        obtain ⟨x3_2, e9, hf⟩ := cb_let_inv hf
        refine cb_topi e9 ?_
        clear e9
        refine lv_istore_n (lv' := [(3, .int x3_2), (2, .int r_2), (6, .int r_2), (0, .ref (A 0)), (1, .int x1), (4, .int x4), (5, .int x5)]) hx hb dX7_tells_73 rfl hl (by decide) rfl (fun ls hl => ?_)
        exact w_X7_tells_74 C hK15 ih hf hs (lv_sub hl [3, 4, 1, 0, 5, 6] rfl)
def f_X7_tells_15 (σ : cb_St) : Nat → Int32 → Int32 → Int32 → Int32 → Option (Int32)
  | 0, _, _, _, _ => none
  | fu + 1, x1, x2, x3, x4 => if (σ.1 9 4) ≤ x4 then (some x3) else (cb_let (x4 + 1) (fun x5_0 => f_X7_tells_33 (f_X7_tells_15 σ fu) σ cb_fu x1 x2 x3 x4 x5_0))
set_option maxHeartbeats 4000000 in
set_option maxRecDepth 100000 in
theorem w_X7_tells_15 (C : cb_C p s m args meth c cX7_tells 7 (some .int) RX7 D T) {σ : cb_St} {o : Int32}  : ∀ (fu : Nat) (x1 : Int32) (x2 : Int32) (x3 : Int32) (x4 : Int32), f_X7_tells_15 σ fu x1 x2 x3 x4 = some o → ∀ (H : Heap) (locs : List Loc) (ls : Array Slot), cb_H shC A T D σ s.heap H locs → lv_has ls 7 [(0, .ref (A 0)), (1, .int x1), (2, .int x2), (3, .int x3), (4, .int x4)] → cb_W p l e 6 s m args below meth c shC A T D (some (.int o)) σ H locs (F0 m 15 ls []) := by
  obtain ⟨hx, hb, hml, hr, hown, hts, hK, hlk, hN⟩ := id C
  intro fu
  induction fu with
  | zero =>
    intro x1 x2 x3 x4 hf
    rw [f_X7_tells_15] at hf
    cases hf
  | succ fu ih =>
    intro x1 x2 x3 x4 hf H locs ls hs hl
    rw [f_X7_tells_15] at hf
    refine lv_iload hx hb dX7_tells_15 (lv_at hl 4 rfl) ?_
    refine lv_aload_n hx hb dX7_tells_17 rfl (lv_at hl 0 rfl) ?_
    refine gf_X7_26 C hs rfl dX7_tells_18 ?_
    refine gf_X7_88 C hs cb_tb9.1 dX7_tells_21 ?_
    refine lv_icmp_ge (tgt := 86) hx hb dX7_tells_24 (by decide) (fun cn => ?_) (fun cn => ?_)
    · replace hf := cb_ifp cn hf
      refine lv_iload_n hx hb dX7_tells_86 rfl (lv_at hl 3 rfl) ?_
      have hf := Option.some.inj hf
      subst hf
      exact cb_reti C hs dX7_tells_87
    · replace hf := cb_ifn cn hf
      refine lv_iload hx hb dX7_tells_27 (lv_at hl 4 rfl) ?_
      refine lv_iconst (v := 1) hx hb dX7_tells_29 (by decide) ?_
      refine lv_iadd hx hb dX7_tells_30 ?_
      obtain ⟨x5_0, e9, hf⟩ := cb_let_inv hf
      refine cb_topi e9 ?_
      clear e9
      refine lv_istore (lv' := [(5, .int x5_0), (0, .ref (A 0)), (1, .int x1), (2, .int x2), (3, .int x3), (4, .int x4)]) hx hb dX7_tells_31 hl (by decide) rfl (fun ls hl => ?_)
      exact w_X7_tells_33 C ih cb_fu _ _ _ _ _ hf _ _ _ hs (lv_sub hl [1, 2, 3, 4, 5, 0] rfl)
def f_X7_tells (σ : cb_St)  : Option (Int32) := cb_bp (f_X7_heldRules σ) (fun r_1 => cb_bp (f_J6_bitCount_0f7a4 σ r_1) (fun r_2 => f_X7_tells_15 σ cb_fu r_1 r_2 (-1) 0))
set_option maxHeartbeats 4000000 in
set_option maxRecDepth 100000 in
theorem c_X7_tells {σ : cb_St}   {o : Int32} (hf : f_X7_tells σ = some o) : cb_M l yX7_tells cX7_tells 7 (some .int) 6 shC A T D σ [.ref (A 0)] (some (.int o)) σ := by
  refine cb_met (by decide +kernel) (Nat.le_of_ble_eq_true rfl) ?_
  intro p e s m below meth c C hs ls hl
  have hl : lv_has ls 7 [(0, .ref (A 0))] := hl
  obtain ⟨hx, hb, hml, hr, hown, hts, hK, hlk, hN⟩ := id C
  unfold f_X7_tells at hf
  refine lv_aload_n hx hb dX7_tells_0 rfl (lv_at hl 0 rfl) ?_
  obtain ⟨r_1, hc, hf⟩ := cb_bp_inv hf
  refine cb_callVi C (c_X7_heldRules  hc) mw_X7_heldRules ml_X7_136 rfl ⟨Nat.le_of_ble_eq_true rfl, Nat.le_of_ble_eq_true rfl⟩ rfl (Nat.le_of_ble_eq_true rfl) rfl hs hl rfl (Nat.le_of_ble_eq_true rfl) dX7_tells_1 (fun H locs hs => ?_)
  clear hc
  refine lv_istore_n (lv' := [(1, .int r_1), (0, .ref (A 0))]) hx hb dX7_tells_4 rfl hl (by decide) rfl (fun ls hl => ?_)
  refine lv_iload_n hx hb dX7_tells_5 rfl (lv_at hl 0 rfl) ?_
  obtain ⟨r_2, hc, hf⟩ := cb_bp_inv hf
  refine cb_callSi C (c_J6_bitCount_0f7a4  hc) mw_J6_bitCount_0f7a4 ml_X7_264 rfl ⟨Nat.le_of_ble_eq_true rfl, Nat.le_of_ble_eq_true rfl⟩ hs hl rfl (Nat.le_of_ble_eq_true rfl) dX7_tells_6 (fun H locs hs => ?_)
  clear hc
  refine lv_istore_n (lv' := [(2, .int r_2), (1, .int r_1), (0, .ref (A 0))]) hx hb dX7_tells_9 rfl hl (by decide) rfl (fun ls hl => ?_)
  refine lv_iconst (v := (-1)) hx hb dX7_tells_10 (by decide) ?_
  refine lv_istore_n (lv' := [(3, .int (-1)), (2, .int r_2), (1, .int r_1), (0, .ref (A 0))]) hx hb dX7_tells_11 rfl hl (by decide) rfl (fun ls hl => ?_)
  refine lv_iconst (v := 0) hx hb dX7_tells_12 (by decide) ?_
  refine lv_istore (lv' := [(4, .int 0), (3, .int (-1)), (2, .int r_2), (1, .int r_1), (0, .ref (A 0))]) hx hb dX7_tells_13 hl (by decide) rfl (fun ls hl => ?_)
  exact w_X7_tells_15 C  cb_fu _ _ _ _ hf _ _ _ hs (lv_sub hl [4, 3, 2, 1, 0] rfl)
/-! ===== CardBecome.told ===== -/
def f_X7_told (x1 : Int32) (σ : cb_St)  : Option (Int32) := if x1 = 0 then (some (σ.1 9 1)) else (if x1 = 1 then (some (σ.1 9 2)) else (if x1 = 2 then (some (σ.1 9 3)) else (if x1 = 3 then (some (σ.1 9 4)) else (if x1 = 4 then (some (σ.1 9 5)) else (if x1 = 5 then (some (σ.1 3 3)) else (if x1 = 6 then (some (σ.1 13 0)) else (if x1 = 7 then (some (σ.1 13 1)) else (if x1 = 8 then (cb_bp (f_X4_holders 13 σ) (fun r_1 => some r_1)) else (if x1 = 9 then (cb_bp (f_X7_ruler σ) (fun r_2 => some r_2)) else (if x1 = 10 then (some (σ.1 13 2)) else (if x1 = 11 then (cb_bp (f_X7_heldRules σ) (fun r_3 => some r_3)) else (if x1 = 12 then (some (σ.1 100 0)) else (if x1 = 13 then (some (σ.1 100 1)) else (if x1 = 14 then (some (σ.1 18 0)) else (some (-1000000002))))))))))))))))
set_option maxHeartbeats 4000000 in
set_option maxRecDepth 100000 in
theorem c_X7_told {x1 : Int32} {σ : cb_St}   {o : Int32} (hf : f_X7_told x1 σ = some o) : cb_M l yX7_told cX7_told 2 (some .int) 6 shC A T D σ [.ref (A 0), .int x1] (some (.int o)) σ := by
  refine cb_met (by decide +kernel) (Nat.le_of_ble_eq_true rfl) ?_
  intro p e s m below meth c C hs ls hl
  have hl : lv_has ls 2 [(0, .ref (A 0)), (1, .int x1)] := hl
  obtain ⟨hx, hb, hml, hr, hown, hts, hK, hlk, hN⟩ := id C
  unfold f_X7_told at hf
  refine lv_iload_n hx hb dX7_told_0 rfl (lv_at hl 1 rfl) ?_
  by_cases cn0 : x1 = 0
  · replace hf := cb_ifp cn0 hf
    refine lv_tableIn (tgt := 76) hx hb dX7_told_1 (by rw [cn0]; decide) (by rw [cn0]; decide) (by rw [cn0]; rfl) (by decide) ?_
    refine lv_aload_n hx hb dX7_told_76 rfl (lv_at hl 0 rfl) ?_
    refine gf_X7_26 C hs rfl dX7_told_77 ?_
    refine gf_X7_111 C hs cb_tb9.1 dX7_told_80 ?_
    have hf := Option.some.inj hf
    subst hf
    exact cb_reti C hs dX7_told_83
  replace hf := cb_ifn cn0 hf
  by_cases cn1 : x1 = 1
  · replace hf := cb_ifp cn1 hf
    refine lv_tableIn (tgt := 84) hx hb dX7_told_1 (by rw [cn1]; decide) (by rw [cn1]; decide) (by rw [cn1]; rfl) (by decide) ?_
    refine lv_aload_n hx hb dX7_told_84 rfl (lv_at hl 0 rfl) ?_
    refine gf_X7_26 C hs rfl dX7_told_85 ?_
    refine gf_X7_114 C hs cb_tb9.1 dX7_told_88 ?_
    have hf := Option.some.inj hf
    subst hf
    exact cb_reti C hs dX7_told_91
  replace hf := cb_ifn cn1 hf
  by_cases cn2 : x1 = 2
  · replace hf := cb_ifp cn2 hf
    refine lv_tableIn (tgt := 92) hx hb dX7_told_1 (by rw [cn2]; decide) (by rw [cn2]; decide) (by rw [cn2]; rfl) (by decide) ?_
    refine lv_aload_n hx hb dX7_told_92 rfl (lv_at hl 0 rfl) ?_
    refine gf_X7_26 C hs rfl dX7_told_93 ?_
    refine gf_X7_117 C hs cb_tb9.1 dX7_told_96 ?_
    have hf := Option.some.inj hf
    subst hf
    exact cb_reti C hs dX7_told_99
  replace hf := cb_ifn cn2 hf
  by_cases cn3 : x1 = 3
  · replace hf := cb_ifp cn3 hf
    refine lv_tableIn (tgt := 100) hx hb dX7_told_1 (by rw [cn3]; decide) (by rw [cn3]; decide) (by rw [cn3]; rfl) (by decide) ?_
    refine lv_aload_n hx hb dX7_told_100 rfl (lv_at hl 0 rfl) ?_
    refine gf_X7_26 C hs rfl dX7_told_101 ?_
    refine gf_X7_88 C hs cb_tb9.1 dX7_told_104 ?_
    have hf := Option.some.inj hf
    subst hf
    exact cb_reti C hs dX7_told_107
  replace hf := cb_ifn cn3 hf
  by_cases cn4 : x1 = 4
  · replace hf := cb_ifp cn4 hf
    refine lv_tableIn (tgt := 108) hx hb dX7_told_1 (by rw [cn4]; decide) (by rw [cn4]; decide) (by rw [cn4]; rfl) (by decide) ?_
    refine lv_aload_n hx hb dX7_told_108 rfl (lv_at hl 0 rfl) ?_
    refine gf_X7_26 C hs rfl dX7_told_109 ?_
    refine gf_X7_105 C hs cb_tb9.1 dX7_told_112 ?_
    have hf := Option.some.inj hf
    subst hf
    exact cb_reti C hs dX7_told_115
  replace hf := cb_ifn cn4 hf
  by_cases cn5 : x1 = 5
  · replace hf := cb_ifp cn5 hf
    refine lv_tableIn (tgt := 116) hx hb dX7_told_1 (by rw [cn5]; decide) (by rw [cn5]; decide) (by rw [cn5]; rfl) (by decide) ?_
    refine lv_aload_n hx hb dX7_told_116 rfl (lv_at hl 0 rfl) ?_
    refine gf_X7_19 C hs rfl dX7_told_117 ?_
    refine gf_X7_70 C hs rfl dX7_told_120 ?_
    have hf := Option.some.inj hf
    subst hf
    exact cb_reti C hs dX7_told_123
  replace hf := cb_ifn cn5 hf
  by_cases cn6 : x1 = 6
  · replace hf := cb_ifp cn6 hf
    refine lv_tableIn (tgt := 124) hx hb dX7_told_1 (by rw [cn6]; decide) (by rw [cn6]; decide) (by rw [cn6]; rfl) (by decide) ?_
    refine lv_aload_n hx hb dX7_told_124 rfl (lv_at hl 0 rfl) ?_
    refine gf_X7_33 C hs rfl dX7_told_125 ?_
    refine gf_X7_120 C hs cb_pl13.1 dX7_told_128 ?_
    have hf := Option.some.inj hf
    subst hf
    exact cb_reti C hs dX7_told_131
  replace hf := cb_ifn cn6 hf
  by_cases cn7 : x1 = 7
  · replace hf := cb_ifp cn7 hf
    refine lv_tableIn (tgt := 132) hx hb dX7_told_1 (by rw [cn7]; decide) (by rw [cn7]; decide) (by rw [cn7]; rfl) (by decide) ?_
    refine lv_aload_n hx hb dX7_told_132 rfl (lv_at hl 0 rfl) ?_
    refine gf_X7_33 C hs rfl dX7_told_133 ?_
    refine gf_X7_123 C hs cb_pl13.1 dX7_told_136 ?_
    have hf := Option.some.inj hf
    subst hf
    exact cb_reti C hs dX7_told_139
  replace hf := cb_ifn cn7 hf
  by_cases cn8 : x1 = 8
  · replace hf := cb_ifp cn8 hf
    refine lv_tableIn (tgt := 140) hx hb dX7_told_1 (by rw [cn8]; decide) (by rw [cn8]; decide) (by rw [cn8]; rfl) (by decide) ?_
    refine lv_aload_n hx hb dX7_told_140 rfl (lv_at hl 0 rfl) ?_
    refine gf_X7_33 C hs rfl dX7_told_141 ?_
    obtain ⟨r_1, hc, hf⟩ := cb_bp_inv hf
    refine cb_callVi C (c_X4_holders cb_pl13 hc) mw_X4_holders ml_X7_126 rfl ⟨Nat.le_of_ble_eq_true rfl, Nat.le_of_ble_eq_true rfl⟩ cb_pl13.1 (Nat.le_of_ble_eq_true rfl) rfl hs hl rfl (Nat.le_of_ble_eq_true rfl) dX7_told_144 (fun H locs hs => ?_)
    clear hc
    have hf := Option.some.inj hf
    subst hf
    exact cb_reti C hs dX7_told_147
  replace hf := cb_ifn cn8 hf
  by_cases cn9 : x1 = 9
  · replace hf := cb_ifp cn9 hf
    refine lv_tableIn (tgt := 148) hx hb dX7_told_1 (by rw [cn9]; decide) (by rw [cn9]; decide) (by rw [cn9]; rfl) (by decide) ?_
    refine lv_aload_n hx hb dX7_told_148 rfl (lv_at hl 0 rfl) ?_
    obtain ⟨r_2, hc, hf⟩ := cb_bp_inv hf
    refine cb_callVi C (c_X7_ruler  hc) mw_X7_ruler ml_X7_130 rfl ⟨Nat.le_of_ble_eq_true rfl, Nat.le_of_ble_eq_true rfl⟩ rfl (Nat.le_of_ble_eq_true rfl) rfl hs hl rfl (Nat.le_of_ble_eq_true rfl) dX7_told_149 (fun H locs hs => ?_)
    clear hc
    have hf := Option.some.inj hf
    subst hf
    exact cb_reti C hs dX7_told_152
  replace hf := cb_ifn cn9 hf
  by_cases cn10 : x1 = 10
  · replace hf := cb_ifp cn10 hf
    refine lv_tableIn (tgt := 153) hx hb dX7_told_1 (by rw [cn10]; decide) (by rw [cn10]; decide) (by rw [cn10]; rfl) (by decide) ?_
    refine lv_aload_n hx hb dX7_told_153 rfl (lv_at hl 0 rfl) ?_
    refine gf_X7_33 C hs rfl dX7_told_154 ?_
    refine gf_X7_133 C hs cb_pl13.1 dX7_told_157 ?_
    have hf := Option.some.inj hf
    subst hf
    exact cb_reti C hs dX7_told_160
  replace hf := cb_ifn cn10 hf
  by_cases cn11 : x1 = 11
  · replace hf := cb_ifp cn11 hf
    refine lv_tableIn (tgt := 161) hx hb dX7_told_1 (by rw [cn11]; decide) (by rw [cn11]; decide) (by rw [cn11]; rfl) (by decide) ?_
    refine lv_aload_n hx hb dX7_told_161 rfl (lv_at hl 0 rfl) ?_
    obtain ⟨r_3, hc, hf⟩ := cb_bp_inv hf
    refine cb_callVi C (c_X7_heldRules  hc) mw_X7_heldRules ml_X7_136 rfl ⟨Nat.le_of_ble_eq_true rfl, Nat.le_of_ble_eq_true rfl⟩ rfl (Nat.le_of_ble_eq_true rfl) rfl hs hl rfl (Nat.le_of_ble_eq_true rfl) dX7_told_162 (fun H locs hs => ?_)
    clear hc
    have hf := Option.some.inj hf
    subst hf
    exact cb_reti C hs dX7_told_165
  replace hf := cb_ifn cn11 hf
  by_cases cn12 : x1 = 12
  · replace hf := cb_ifp cn12 hf
    refine lv_tableIn (tgt := 166) hx hb dX7_told_1 (by rw [cn12]; decide) (by rw [cn12]; decide) (by rw [cn12]; rfl) (by decide) ?_
    refine lv_aload_n hx hb dX7_told_166 rfl (lv_at hl 0 rfl) ?_
    refine gf_X7_47 C hs rfl dX7_told_167 ?_
    refine gf_X7_139 C hs rfl dX7_told_170 ?_
    have hf := Option.some.inj hf
    subst hf
    exact cb_reti C hs dX7_told_173
  replace hf := cb_ifn cn12 hf
  by_cases cn13 : x1 = 13
  · replace hf := cb_ifp cn13 hf
    refine lv_tableIn (tgt := 174) hx hb dX7_told_1 (by rw [cn13]; decide) (by rw [cn13]; decide) (by rw [cn13]; rfl) (by decide) ?_
    refine lv_aload_n hx hb dX7_told_174 rfl (lv_at hl 0 rfl) ?_
    refine gf_X7_47 C hs rfl dX7_told_175 ?_
    refine gf_X7_142 C hs rfl dX7_told_178 ?_
    have hf := Option.some.inj hf
    subst hf
    exact cb_reti C hs dX7_told_181
  replace hf := cb_ifn cn13 hf
  by_cases cn14 : x1 = 14
  · replace hf := cb_ifp cn14 hf
    refine lv_tableIn (tgt := 182) hx hb dX7_told_1 (by rw [cn14]; decide) (by rw [cn14]; decide) (by rw [cn14]; rfl) (by decide) ?_
    refine lv_aload_n hx hb dX7_told_182 rfl (lv_at hl 0 rfl) ?_
    refine gf_X7_40 C hs rfl dX7_told_183 ?_
    refine gf_X7_145 C hs rfl dX7_told_186 ?_
    have hf := Option.some.inj hf
    subst hf
    exact cb_reti C hs dX7_told_189
  replace hf := cb_ifn cn14 hf
  refine lv_tableOut (tgt := 190) hx hb dX7_told_1 (by have g0 := lv_neT cn0 (show Int32.toInt 0 = 0 by decide); have g1 := lv_neT cn1 (show Int32.toInt 1 = 1 by decide); have g2 := lv_neT cn2 (show Int32.toInt 2 = 2 by decide); have g3 := lv_neT cn3 (show Int32.toInt 3 = 3 by decide); have g4 := lv_neT cn4 (show Int32.toInt 4 = 4 by decide); have g5 := lv_neT cn5 (show Int32.toInt 5 = 5 by decide); have g6 := lv_neT cn6 (show Int32.toInt 6 = 6 by decide); have g7 := lv_neT cn7 (show Int32.toInt 7 = 7 by decide); have g8 := lv_neT cn8 (show Int32.toInt 8 = 8 by decide); have g9 := lv_neT cn9 (show Int32.toInt 9 = 9 by decide); have g10 := lv_neT cn10 (show Int32.toInt 10 = 10 by decide); have g11 := lv_neT cn11 (show Int32.toInt 11 = 11 by decide); have g12 := lv_neT cn12 (show Int32.toInt 12 = 12 by decide); have g13 := lv_neT cn13 (show Int32.toInt 13 = 13 by decide); have g14 := lv_neT cn14 (show Int32.toInt 14 = 14 by decide); omega) (by decide) ?_
  refine lv_ldc (v := (-1000000002)) hx hb hown (hts _ kc_X7_65) dX7_told_190 ?_
  have hf := Option.some.inj hf
  subst hf
  exact cb_reti C hs dX7_told_192
/-! ===== CardBecome.undo ===== -/
def f_X7_undo  (σ : cb_St) : Option (Int32 × cb_St) := if 0 < (σ.1 18 0) then (cb_bv (f_X3_pop σ) (fun σ_1 => some (σ_1.1 18 0, σ_1))) else (some ((-1000000003), σ))
set_option maxHeartbeats 4000000 in
set_option maxRecDepth 100000 in
theorem c_X7_undo   {σ : cb_St} {o : Int32 × cb_St} (hf : f_X7_undo σ = some o) : cb_M l yX7_undo cX7_undo 1 (some .int) 3 shC A T D σ [.ref (A 0)] (some (.int o.1)) o.2 := by
  refine cb_met (by decide +kernel) (Nat.le_of_ble_eq_true rfl) ?_
  intro p e s m below meth c C hs ls hl
  have hl : lv_has ls 1 [(0, .ref (A 0))] := hl
  obtain ⟨hx, hb, hml, hr, hown, hts, hK, hlk, hN⟩ := id C
  unfold f_X7_undo at hf
  refine lv_aload_n hx hb dX7_undo_0 rfl (lv_at hl 0 rfl) ?_
  refine gf_X7_40 C hs rfl dX7_undo_1 ?_
  refine gf_X7_145 C hs rfl dX7_undo_4 ?_
  refine lv_if_gt (tgt := 13) hx hb dX7_undo_7 (by decide) (fun cn => ?_) (fun cn => ?_)
  · replace hf := cb_ifp cn hf
    refine lv_aload_n hx hb dX7_undo_13 rfl (lv_at hl 0 rfl) ?_
    refine gf_X7_40 C hs rfl dX7_undo_14 ?_
    refine lv_aload_n hx hb dX7_undo_17 rfl (lv_at hl 0 rfl) ?_
    refine gf_X7_33 C hs rfl dX7_undo_18 ?_
    obtain ⟨σ_1, hc, hf⟩ := cb_bv_inv hf
    refine cb_callVv C (c_X3_pop  hc) mw_X3_pop ml_X7_236 rfl ⟨Nat.le_of_ble_eq_true rfl, Nat.le_of_ble_eq_true rfl⟩ rfl (Nat.le_of_ble_eq_true rfl) rfl hs hl rfl (Nat.le_of_ble_eq_true rfl) dX7_undo_21 (fun H locs hs => ?_)
    clear hc
    refine lv_aload_n hx hb dX7_undo_24 rfl (lv_at hl 0 rfl) ?_
    refine gf_X7_40 C hs rfl dX7_undo_25 ?_
    refine gf_X7_145 C hs rfl dX7_undo_28 ?_
    have hf := Option.some.inj hf
    subst hf
    exact cb_reti C hs dX7_undo_31
  · replace hf := cb_ifn cn hf
    refine lv_ldc (v := (-1000000003)) hx hb hown (hts _ kc_X7_198) dX7_undo_10 ?_
    have hf := Option.some.inj hf
    subst hf
    exact cb_reti C hs dX7_undo_12
/-! ===== CardBecome.wanted ===== -/
def f_X7_wanted_70 (x1 : Int32) (σ : cb_St) (x2 : Int32) : Option (Int32) := some x2
set_option maxHeartbeats 4000000 in
set_option maxRecDepth 100000 in
theorem w_X7_wanted_70 (C : cb_C p s m args meth c cX7_wanted 6 (some .int) RX7 D T) {x1 : Int32} {σ : cb_St} {o : Int32}  {x2 : Int32} (hf : f_X7_wanted_70 x1 σ x2 = some o) {H : Heap} {locs : List Loc} {ls : Array Slot} (hs : cb_H shC A T D σ s.heap H locs) (hl : lv_has ls 6 [(0, .ref (A 0)), (1, .int x1), (2, .int x2)]) : cb_W p l e 5 s m args below meth c shC A T D (some (.int o)) σ H locs (F0 m 70 ls []) := by
  obtain ⟨hx, hb, hml, hr, hown, hts, hK, hlk, hN⟩ := id C
  unfold f_X7_wanted_70 at hf
  refine lv_iload_n hx hb dX7_wanted_70 rfl (lv_at hl 2 rfl) ?_
  have hf := Option.some.inj hf
  subst hf
  exact cb_reti C hs dX7_wanted_71
def f_X7_wanted_55 (K20 : Int32 → Int32 → Int32 → Option (Int32)) (x1 : Int32) (σ : cb_St) (x2 : Int32) (x3 : Int32) (x4 : Int32) : Option (Int32) := cb_let (x4 + 1) (fun x4_0 => K20 x2 x3 x4_0)
set_option maxHeartbeats 4000000 in
set_option maxRecDepth 100000 in
theorem w_X7_wanted_55 (C : cb_C p s m args meth c cX7_wanted 6 (some .int) RX7 D T) {K20 : Int32 → Int32 → Int32 → Option (Int32)} {x1 : Int32} {σ : cb_St} {o : Int32} (hK20 : ∀ (x2 : Int32) (x3 : Int32) (x4 : Int32), K20 x2 x3 x4 = some o → ∀ (H : Heap) (locs : List Loc) (ls : Array Slot), cb_H shC A T D σ s.heap H locs → lv_has ls 6 [(0, .ref (A 0)), (1, .int x1), (2, .int x2), (3, .int x3), (4, .int x4)] → cb_W p l e 5 s m args below meth c shC A T D (some (.int o)) σ H locs (F0 m 20 ls [])) {x2 : Int32} {x3 : Int32} {x4 : Int32} (hf : f_X7_wanted_55 K20 x1 σ x2 x3 x4 = some o) {H : Heap} {locs : List Loc} {ls : Array Slot} (hs : cb_H shC A T D σ s.heap H locs) (hl : lv_has ls 6 [(0, .ref (A 0)), (1, .int x1), (2, .int x2), (3, .int x3), (4, .int x4)]) : cb_W p l e 5 s m args below meth c shC A T D (some (.int o)) σ H locs (F0 m 55 ls []) := by
  obtain ⟨hx, hb, hml, hr, hown, hts, hK, hlk, hN⟩ := id C
  unfold f_X7_wanted_55 at hf
  obtain ⟨x4_0, e9, hf⟩ := cb_let_inv hf
  refine lv_iinc (v := x4_0) (lv' := [(4, .int x4_0), (0, .ref (A 0)), (1, .int x1), (2, .int x2), (3, .int x3)]) hx hb dX7_wanted_55 hl (k := 4) rfl (by rw [e9]; rfl) (by decide) rfl (fun ls hl => ?_)
  clear e9
  refine lv_goto (tgt := 20) hx hb dX7_wanted_58 (by decide) ?_
  exact hK20 _ _ _ hf _ _ _ hs (lv_sub hl [1, 2, 3, 4, 0] rfl)
def f_X7_wanted_20 (x1 : Int32) (σ : cb_St) : Nat → Int32 → Int32 → Int32 → Option (Int32)
  | 0, _, _, _ => none
  | fu + 1, x2, x3, x4 => if (σ.1 9 5) ≤ x4 then (if x2 = (-1) then (f_X7_wanted_70 x1 σ x2) else (if x1 = 0 then (f_X7_wanted_70 x1 σ x2) else (some (((σ.1 9 5) - 1) - x3)))) else (cb_bp (f_X7_beatenBy x4 σ) (fun r_1 => cb_bp (f_J6_bitCount_0f7a4 σ r_1) (fun r_2 => if x3 ≤ r_2 then (f_X7_wanted_55 (f_X7_wanted_20 x1 σ fu) x1 σ x2 x3 x4) else (f_X7_wanted_55 (f_X7_wanted_20 x1 σ fu) x1 σ x4 r_2 x4))))
set_option maxHeartbeats 4000000 in
set_option maxRecDepth 100000 in
theorem w_X7_wanted_20 (C : cb_C p s m args meth c cX7_wanted 6 (some .int) RX7 D T) {x1 : Int32} {σ : cb_St} {o : Int32}  : ∀ (fu : Nat) (x2 : Int32) (x3 : Int32) (x4 : Int32), f_X7_wanted_20 x1 σ fu x2 x3 x4 = some o → ∀ (H : Heap) (locs : List Loc) (ls : Array Slot), cb_H shC A T D σ s.heap H locs → lv_has ls 6 [(0, .ref (A 0)), (1, .int x1), (2, .int x2), (3, .int x3), (4, .int x4)] → cb_W p l e 5 s m args below meth c shC A T D (some (.int o)) σ H locs (F0 m 20 ls []) := by
  obtain ⟨hx, hb, hml, hr, hown, hts, hK, hlk, hN⟩ := id C
  intro fu
  induction fu with
  | zero =>
    intro x2 x3 x4 hf
    rw [f_X7_wanted_20] at hf
    cases hf
  | succ fu ih =>
    intro x2 x3 x4 hf H locs ls hs hl
    rw [f_X7_wanted_20] at hf
    refine lv_iload hx hb dX7_wanted_20 (lv_at hl 4 rfl) ?_
    refine lv_aload_n hx hb dX7_wanted_22 rfl (lv_at hl 0 rfl) ?_
    refine gf_X7_26 C hs rfl dX7_wanted_23 ?_
    refine gf_X7_105 C hs cb_tb9.1 dX7_wanted_26 ?_
    refine lv_icmp_ge (tgt := 61) hx hb dX7_wanted_29 (by decide) (fun cn => ?_) (fun cn => ?_)
    · replace hf := cb_ifp cn hf
      refine lv_iload_n hx hb dX7_wanted_61 rfl (lv_at hl 2 rfl) ?_
      refine lv_iconst (v := (-1)) hx hb dX7_wanted_62 (by decide) ?_
      refine lv_icmp_eq (tgt := 70) hx hb dX7_wanted_63 (by decide) (fun cn => ?_) (fun cn => ?_)
      · replace hf := cb_ifp cn hf
        exact w_X7_wanted_70 C  hf hs (lv_sub hl [0, 1, 2] rfl)
      · replace hf := cb_ifn cn hf
        refine lv_iload_n hx hb dX7_wanted_66 rfl (lv_at hl 1 rfl) ?_
        refine lv_if_ne (tgt := 72) hx hb dX7_wanted_67 (by decide) (fun cn => ?_) (fun cn => ?_)
        · replace hf := cb_ifn cn hf
          refine lv_aload_n hx hb dX7_wanted_72 rfl (lv_at hl 0 rfl) ?_
          refine gf_X7_26 C hs rfl dX7_wanted_73 ?_
          refine gf_X7_105 C hs cb_tb9.1 dX7_wanted_76 ?_
          refine lv_iconst (v := 1) hx hb dX7_wanted_79 (by decide) ?_
          refine lv_isub hx hb dX7_wanted_80 ?_
          refine lv_iload_n hx hb dX7_wanted_81 rfl (lv_at hl 3 rfl) ?_
          refine lv_isub hx hb dX7_wanted_82 ?_
          have hf := Option.some.inj hf
          subst hf
          exact cb_reti C hs dX7_wanted_83
        · replace hf := cb_ifp cn hf
          exact w_X7_wanted_70 C  hf hs (lv_sub hl [0, 1, 2] rfl)
    · replace hf := cb_ifn cn hf
      refine lv_aload_n hx hb dX7_wanted_32 rfl (lv_at hl 0 rfl) ?_
      refine lv_iload hx hb dX7_wanted_33 (lv_at hl 4 rfl) ?_
      obtain ⟨r_1, hc, hf⟩ := cb_bp_inv hf
      refine cb_callVi C (c_X7_beatenBy  hc) mw_X7_beatenBy ml_X7_176 rfl ⟨Nat.le_of_ble_eq_true rfl, Nat.le_of_ble_eq_true rfl⟩ rfl (Nat.le_of_ble_eq_true rfl) rfl hs hl rfl (Nat.le_of_ble_eq_true rfl) dX7_wanted_35 (fun H locs hs => ?_)
      clear hc
      obtain ⟨r_2, hc, hf⟩ := cb_bp_inv hf
      refine cb_callSi C (c_J6_bitCount_0f7a4  hc) mw_J6_bitCount_0f7a4 ml_X7_264 rfl ⟨Nat.le_of_ble_eq_true rfl, Nat.le_of_ble_eq_true rfl⟩ hs hl rfl (Nat.le_of_ble_eq_true rfl) dX7_wanted_38 (fun H locs hs => ?_)
      clear hc
      refine lv_istore (lv' := [(5, .int r_2), (0, .ref (A 0)), (1, .int x1), (2, .int x2), (3, .int x3), (4, .int x4)]) hx hb dX7_wanted_41 hl (by decide) rfl (fun ls hl => ?_)
      refine lv_iload hx hb dX7_wanted_43 (lv_at hl 0 rfl) ?_
      refine lv_iload_n hx hb dX7_wanted_45 rfl (lv_at hl 4 rfl) ?_
      refine lv_icmp_ge (tgt := 55) hx hb dX7_wanted_46 (by decide) (fun cn => ?_) (fun cn => ?_)
      · replace hf := cb_ifp cn hf
        exact w_X7_wanted_55 C ih hf hs (lv_sub hl [1, 2, 3, 4, 5] rfl)
      · replace hf := cb_ifn cn hf
        refine lv_iload hx hb dX7_wanted_49 (lv_at hl 0 rfl) ?_
        refine lv_istore_n (lv' := [(3, .int r_2), (5, .int r_2), (0, .ref (A 0)), (1, .int x1), (2, .int x2), (4, .int x4)]) hx hb dX7_wanted_51 rfl hl (by decide) rfl (fun ls hl => ?_)
        refine lv_iload hx hb dX7_wanted_52 (lv_at hl 5 rfl) ?_
        refine lv_istore_n (lv' := [(2, .int x4), (3, .int r_2), (5, .int r_2), (0, .ref (A 0)), (1, .int x1), (4, .int x4)]) hx hb dX7_wanted_54 rfl hl (by decide) rfl (fun ls hl => ?_)
        exact w_X7_wanted_55 C ih hf hs (lv_sub hl [3, 4, 0, 1, 5] rfl)
def f_X7_wanted_9 (x1 : Int32) (σ : cb_St)  : Option (Int32) := some (-1000000002)
set_option maxHeartbeats 4000000 in
set_option maxRecDepth 100000 in
theorem w_X7_wanted_9 (C : cb_C p s m args meth c cX7_wanted 6 (some .int) RX7 D T) {x1 : Int32} {σ : cb_St} {o : Int32}   (hf : f_X7_wanted_9 x1 σ = some o) {H : Heap} {locs : List Loc} {ls : Array Slot} (hs : cb_H shC A T D σ s.heap H locs) (hl : lv_has ls 6 [(0, .ref (A 0)), (1, .int x1)]) : cb_W p l e 5 s m args below meth c shC A T D (some (.int o)) σ H locs (F0 m 9 ls []) := by
  obtain ⟨hx, hb, hml, hr, hown, hts, hK, hlk, hN⟩ := id C
  unfold f_X7_wanted_9 at hf
  refine lv_ldc (v := (-1000000002)) hx hb hown (hts _ kc_X7_65) dX7_wanted_9 ?_
  have hf := Option.some.inj hf
  subst hf
  exact cb_reti C hs dX7_wanted_11
def f_X7_wanted (x1 : Int32) (σ : cb_St)  : Option (Int32) := if x1 < 0 then (f_X7_wanted_9 x1 σ) else (if x1 ≤ 1 then (f_X7_wanted_20 x1 σ cb_fu (-1) 6 0) else (f_X7_wanted_9 x1 σ))
set_option maxHeartbeats 4000000 in
set_option maxRecDepth 100000 in
theorem c_X7_wanted {x1 : Int32} {σ : cb_St}   {o : Int32} (hf : f_X7_wanted x1 σ = some o) : cb_M l yX7_wanted cX7_wanted 6 (some .int) 5 shC A T D σ [.ref (A 0), .int x1] (some (.int o)) σ := by
  refine cb_met (by decide +kernel) (Nat.le_of_ble_eq_true rfl) ?_
  intro p e s m below meth c C hs ls hl
  have hl : lv_has ls 6 [(0, .ref (A 0)), (1, .int x1)] := hl
  obtain ⟨hx, hb, hml, hr, hown, hts, hK, hlk, hN⟩ := id C
  unfold f_X7_wanted at hf
  refine lv_iload_n hx hb dX7_wanted_0 rfl (lv_at hl 1 rfl) ?_
  refine lv_if_lt (tgt := 9) hx hb dX7_wanted_1 (by decide) (fun cn => ?_) (fun cn => ?_)
  · replace hf := cb_ifp cn hf
    exact w_X7_wanted_9 C  hf hs (lv_sub hl [0, 1] rfl)
  · replace hf := cb_ifn cn hf
    refine lv_iload_n hx hb dX7_wanted_4 rfl (lv_at hl 1 rfl) ?_
    refine lv_iconst (v := 1) hx hb dX7_wanted_5 (by decide) ?_
    refine lv_icmp_le (tgt := 12) hx hb dX7_wanted_6 (by decide) (fun cn => ?_) (fun cn => ?_)
    · replace hf := cb_ifp cn hf
      refine lv_iconst (v := (-1)) hx hb dX7_wanted_12 (by decide) ?_
      refine lv_istore_n (lv' := [(2, .int (-1)), (0, .ref (A 0)), (1, .int x1)]) hx hb dX7_wanted_13 rfl hl (by decide) rfl (fun ls hl => ?_)
      refine lv_bipush (v := 6) hx hb dX7_wanted_14 (by decide) ?_
      refine lv_istore_n (lv' := [(3, .int 6), (2, .int (-1)), (0, .ref (A 0)), (1, .int x1)]) hx hb dX7_wanted_16 rfl hl (by decide) rfl (fun ls hl => ?_)
      refine lv_iconst (v := 0) hx hb dX7_wanted_17 (by decide) ?_
      refine lv_istore (lv' := [(4, .int 0), (3, .int 6), (2, .int (-1)), (0, .ref (A 0)), (1, .int x1)]) hx hb dX7_wanted_18 hl (by decide) rfl (fun ls hl => ?_)
      exact w_X7_wanted_20 C  cb_fu _ _ _ hf _ _ _ hs (lv_sub hl [3, 4, 2, 1, 0] rfl)
    · replace hf := cb_ifn cn hf
      exact w_X7_wanted_9 C  hf hs (lv_sub hl [0, 1] rfl)
/-! ===== CardBecome.write ===== -/
def f_X7_write_30 (x1 : Int32) (x2 : Int32) (σ : cb_St) : Option (Int32 × cb_St) := cb_bi (f_X2_addWritten x1 x2 σ) (fun r_1 σ_2 => if r_1 = 0 then (some ((-1000000004), σ_2)) else (some (σ_2.1 100 1, σ_2)))
set_option maxHeartbeats 4000000 in
set_option maxRecDepth 100000 in
theorem w_X7_write_30 (C : cb_C p s m args meth c cX7_write 3 (some .int) RX7 D T) {x1 : Int32} {x2 : Int32} {o : Int32 × cb_St}  {σ : cb_St} (hf : f_X7_write_30 x1 x2 σ = some o) {H : Heap} {locs : List Loc} {ls : Array Slot} (hs : cb_H shC A T D σ s.heap H locs) (hl : lv_has ls 3 [(0, .ref (A 0)), (1, .int x1), (2, .int x2)]) : cb_W p l e 2 s m args below meth c shC A T D (some (.int o.1)) o.2 H locs (F0 m 30 ls []) := by
  obtain ⟨hx, hb, hml, hr, hown, hts, hK, hlk, hN⟩ := id C
  unfold f_X7_write_30 at hf
  refine lv_aload_n hx hb dX7_write_30 rfl (lv_at hl 0 rfl) ?_
  refine gf_X7_47 C hs rfl dX7_write_31 ?_
  refine lv_iload_n hx hb dX7_write_34 rfl (lv_at hl 1 rfl) ?_
  refine lv_iload_n hx hb dX7_write_35 rfl (lv_at hl 2 rfl) ?_
  obtain ⟨r_1, σ_2, hc, hf⟩ := cb_bi_inv hf
  refine cb_callVi C (c_X2_addWritten  hc) mw_X2_addWritten ml_X7_295 rfl ⟨Nat.le_of_ble_eq_true rfl, Nat.le_of_ble_eq_true rfl⟩ rfl (Nat.le_of_ble_eq_true rfl) rfl hs hl rfl (Nat.le_of_ble_eq_true rfl) dX7_write_36 (fun H locs hs => ?_)
  clear hc
  refine lv_if_eq (tgt := 52) hx hb dX7_write_39 (by decide) (fun cn => ?_) (fun cn => ?_)
  · replace hf := cb_ifp cn hf
    refine lv_ldc (v := (-1000000004)) hx hb hown (hts _ kc_X7_74) dX7_write_52 ?_
    have hf := Option.some.inj hf
    subst hf
    exact cb_reti C hs dX7_write_54
  · replace hf := cb_ifn cn hf
    refine lv_aload_n hx hb dX7_write_42 rfl (lv_at hl 0 rfl) ?_
    refine gf_X7_47 C hs rfl dX7_write_43 ?_
    refine gf_X7_142 C hs rfl dX7_write_46 ?_
    refine lv_goto (tgt := 54) hx hb dX7_write_49 (by decide) ?_
    have hf := Option.some.inj hf
    subst hf
    exact cb_reti C hs dX7_write_54
def f_X7_write_27 (x1 : Int32) (x2 : Int32) (σ : cb_St) : Option (Int32 × cb_St) := some ((-1000000001), σ)
set_option maxHeartbeats 4000000 in
set_option maxRecDepth 100000 in
theorem w_X7_write_27 (C : cb_C p s m args meth c cX7_write 3 (some .int) RX7 D T) {x1 : Int32} {x2 : Int32} {o : Int32 × cb_St}  {σ : cb_St} (hf : f_X7_write_27 x1 x2 σ = some o) {H : Heap} {locs : List Loc} {ls : Array Slot} (hs : cb_H shC A T D σ s.heap H locs) (hl : lv_has ls 3 [(0, .ref (A 0)), (1, .int x1), (2, .int x2)]) : cb_W p l e 2 s m args below meth c shC A T D (some (.int o.1)) o.2 H locs (F0 m 27 ls []) := by
  obtain ⟨hx, hb, hml, hr, hown, hts, hK, hlk, hN⟩ := id C
  unfold f_X7_write_27 at hf
  refine lv_ldc (v := (-1000000001)) hx hb hown (hts _ kc_X7_150) dX7_write_27 ?_
  have hf := Option.some.inj hf
  subst hf
  exact cb_reti C hs dX7_write_29
def f_X7_write (x1 : Int32) (x2 : Int32) (σ : cb_St) : Option (Int32 × cb_St) := cb_bp (f_X6_hasPerson 9 x1 σ) (fun r_1 => if r_1 = 0 then (f_X7_write_27 x1 x2 σ) else (if x2 = (-1) then (f_X7_write_30 x1 x2 σ) else (cb_bp (f_X6_hasCard 9 x2 σ) (fun r_2 => if r_2 = 0 then (f_X7_write_27 x1 x2 σ) else (f_X7_write_30 x1 x2 σ)))))
set_option maxHeartbeats 4000000 in
set_option maxRecDepth 100000 in
theorem c_X7_write {x1 : Int32} {x2 : Int32}  {σ : cb_St} {o : Int32 × cb_St} (hf : f_X7_write x1 x2 σ = some o) : cb_M l yX7_write cX7_write 3 (some .int) 2 shC A T D σ [.ref (A 0), .int x1, .int x2] (some (.int o.1)) o.2 := by
  refine cb_met (by decide +kernel) (Nat.le_of_ble_eq_true rfl) ?_
  intro p e s m below meth c C hs ls hl
  have hl : lv_has ls 3 [(0, .ref (A 0)), (1, .int x1), (2, .int x2)] := hl
  obtain ⟨hx, hb, hml, hr, hown, hts, hK, hlk, hN⟩ := id C
  unfold f_X7_write at hf
  refine lv_aload_n hx hb dX7_write_0 rfl (lv_at hl 0 rfl) ?_
  refine gf_X7_26 C hs rfl dX7_write_1 ?_
  refine lv_iload_n hx hb dX7_write_4 rfl (lv_at hl 1 rfl) ?_
  obtain ⟨r_1, hc, hf⟩ := cb_bp_inv hf
  refine cb_callVi C (c_X6_hasPerson cb_tb9 hc) mw_X6_hasPerson ml_X7_167 rfl ⟨Nat.le_of_ble_eq_true rfl, Nat.le_of_ble_eq_true rfl⟩ cb_tb9.1 (Nat.le_of_ble_eq_true rfl) rfl hs hl rfl (Nat.le_of_ble_eq_true rfl) dX7_write_5 (fun H locs hs => ?_)
  clear hc
  refine lv_if_eq (tgt := 27) hx hb dX7_write_8 (by decide) (fun cn => ?_) (fun cn => ?_)
  · replace hf := cb_ifp cn hf
    exact w_X7_write_27 C  hf hs (lv_sub hl [0, 1, 2] rfl)
  · replace hf := cb_ifn cn hf
    refine lv_iload_n hx hb dX7_write_11 rfl (lv_at hl 2 rfl) ?_
    refine lv_iconst (v := (-1)) hx hb dX7_write_12 (by decide) ?_
    refine lv_icmp_eq (tgt := 30) hx hb dX7_write_13 (by decide) (fun cn => ?_) (fun cn => ?_)
    · replace hf := cb_ifp cn hf
      exact w_X7_write_30 C  hf hs (lv_sub hl [0, 1, 2] rfl)
    · replace hf := cb_ifn cn hf
      refine lv_aload_n hx hb dX7_write_16 rfl (lv_at hl 0 rfl) ?_
      refine gf_X7_26 C hs rfl dX7_write_17 ?_
      refine lv_iload_n hx hb dX7_write_20 rfl (lv_at hl 2 rfl) ?_
      obtain ⟨r_2, hc, hf⟩ := cb_bp_inv hf
      refine cb_callVi C (c_X6_hasCard cb_tb9 hc) mw_X6_hasCard ml_X7_147 rfl ⟨Nat.le_of_ble_eq_true rfl, Nat.le_of_ble_eq_true rfl⟩ cb_tb9.1 (Nat.le_of_ble_eq_true rfl) rfl hs hl rfl (Nat.le_of_ble_eq_true rfl) dX7_write_21 (fun H locs hs => ?_)
      clear hc
      refine lv_if_ne (tgt := 30) hx hb dX7_write_24 (by decide) (fun cn => ?_) (fun cn => ?_)
      · replace hf := cb_ifn cn hf
        exact w_X7_write_30 C  hf hs (lv_sub hl [0, 1, 2] rfl)
      · replace hf := cb_ifp cn hf
        exact w_X7_write_27 C  hf hs (lv_sub hl [0, 1, 2] rfl)
end
