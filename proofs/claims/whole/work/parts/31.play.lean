section
variable {p : Program} {l : Launch} {e : Env} {s : State} {m : MethodId} {args : Array Value} {below : List Frame} {meth : Method} {c : Code} {A : Nat → Nat} {T : Nat → ClassId} {D : va_G}
/-! ===== CardBecome$Play.cardAt ===== -/
def f_X4_cardAt_18 (k : Nat) (x1 : Int32) (σ : cb_St)  : Option (Int32) := some (-1)
set_option maxHeartbeats 4000000 in
set_option maxRecDepth 100000 in
theorem w_X4_cardAt_18 (C : cb_C p s m args meth c cX4_cardAt 2 (some .int) RX4 D T) {k : Nat} {x1 : Int32} {σ : cb_St} {o : Int32} (hp : cb_pl k)  (hf : f_X4_cardAt_18 k x1 σ = some o) {H : Heap} {locs : List Loc} {ls : Array Slot} (hs : cb_H shC A T D σ s.heap H locs) (hl : lv_has ls 2 [(0, .ref (A k)), (1, .int x1)]) : cb_W p l e 1 s m args below meth c shC A T D (some (.int o)) σ H locs (F0 m 18 ls []) := by
  obtain ⟨hx, hb, hml, hr, hown, hts, hK, hlk, hN⟩ := id C
  unfold f_X4_cardAt_18 at hf
  refine lv_iconst (v := (-1)) hx hb dX4_cardAt_18 (by decide) ?_
  refine lv_goto (tgt := 28) hx hb dX4_cardAt_19 (by decide) ?_
  have hf := Option.some.inj hf
  subst hf
  exact cb_reti C hs dX4_cardAt_28
def f_X4_cardAt (k : Nat) (x1 : Int32) (σ : cb_St)  : Option (Int32) := if x1 < 0 then (f_X4_cardAt_18 k x1 σ) else (if (σ.1 k 0) ≤ x1 then (f_X4_cardAt_18 k x1 σ) else (if x1 < 12 then (cb_ck (0 ≤ Int32.toInt x1 ∧ Int32.toInt x1 < 12) (some (σ.1 (k + 1) (Int32.toNatClampNeg x1)))) else (f_X4_cardAt_18 k x1 σ)))
set_option maxHeartbeats 4000000 in
set_option maxRecDepth 100000 in
theorem c_X4_cardAt {k : Nat} {x1 : Int32} {σ : cb_St} (hp : cb_pl k)  {o : Int32} (hf : f_X4_cardAt k x1 σ = some o) : cb_M l yX4_cardAt cX4_cardAt 2 (some .int) 1 shC A T D σ [.ref (A k), .int x1] (some (.int o)) σ := by
  refine cb_met (by decide +kernel) (Nat.le_of_ble_eq_true rfl) ?_
  intro p e s m below meth c C hs ls hl
  have hl : lv_has ls 2 [(0, .ref (A k)), (1, .int x1)] := hl
  obtain ⟨hx, hb, hml, hr, hown, hts, hK, hlk, hN⟩ := id C
  unfold f_X4_cardAt at hf
  refine lv_iload_n hx hb dX4_cardAt_0 rfl (lv_at hl 1 rfl) ?_
  refine lv_if_lt (tgt := 18) hx hb dX4_cardAt_1 (by decide) (fun cn => ?_) (fun cn => ?_)
  · replace hf := cb_ifp cn hf
    exact w_X4_cardAt_18 C hp hf hs (lv_sub hl [0, 1] rfl)
  · replace hf := cb_ifn cn hf
    refine lv_iload_n hx hb dX4_cardAt_4 rfl (lv_at hl 1 rfl) ?_
    refine lv_aload_n hx hb dX4_cardAt_5 rfl (lv_at hl 0 rfl) ?_
    refine gf_X4_36 C hs hp.1 dX4_cardAt_6 ?_
    refine lv_icmp_ge (tgt := 18) hx hb dX4_cardAt_9 (by decide) (fun cn => ?_) (fun cn => ?_)
    · replace hf := cb_ifp cn hf
      exact w_X4_cardAt_18 C hp hf hs (lv_sub hl [0, 1] rfl)
    · replace hf := cb_ifn cn hf
      refine lv_iload_n hx hb dX4_cardAt_12 rfl (lv_at hl 1 rfl) ?_
      refine lv_bipush (v := 12) hx hb dX4_cardAt_13 (by decide) ?_
      refine lv_icmp_lt (tgt := 22) hx hb dX4_cardAt_15 (by decide) (fun cn => ?_) (fun cn => ?_)
      · replace hf := cb_ifp cn hf
        refine lv_aload_n hx hb dX4_cardAt_22 rfl (lv_at hl 0 rfl) ?_
        refine gf_X4_9 C hs hp.1 dX4_cardAt_23 ?_
        refine lv_iload_n hx hb dX4_cardAt_26 rfl (lv_at hl 1 rfl) ?_
        obtain ⟨hc, hf⟩ := cb_ck_inv hf
        refine cb_iald C hs hp.2.1 (vp_in_iff.mpr hc) dX4_cardAt_27 ?_
        have hf := Option.some.inj hf
        subst hf
        exact cb_reti C hs dX4_cardAt_28
      · replace hf := cb_ifn cn hf
        exact w_X4_cardAt_18 C hp hf hs (lv_sub hl [0, 1] rfl)
/-! ===== CardBecome$Past.forget ===== -/
def f_X3_forget  (σ : cb_St) : Option (cb_St) := cb_let (cb_sI σ 18 0 0) (fun σ_1 => some σ_1)
set_option maxHeartbeats 4000000 in
set_option maxRecDepth 100000 in
theorem c_X3_forget   {σ : cb_St} {o : cb_St} (hf : f_X3_forget σ = some o) : cb_M l yX3_forget cX3_forget 1 none 1 shC A T D σ [.ref (A 18)] none o := by
  refine cb_met (by decide +kernel) (Nat.le_of_ble_eq_true rfl) ?_
  intro p e s m below meth c C hs ls hl
  have hl : lv_has ls 1 [(0, .ref (A 18))] := hl
  obtain ⟨hx, hb, hml, hr, hown, hts, hK, hlk, hN⟩ := id C
  unfold f_X3_forget at hf
  refine lv_aload_n hx hb dX3_forget_0 rfl (lv_at hl 0 rfl) ?_
  refine lv_iconst (v := 0) hx hb dX3_forget_1 (by decide) ?_
  refine pf_X3_18 C hs rfl dX3_forget_2 (fun H locs hs => ?_)
  obtain ⟨σ_1, e9, hf⟩ := cb_let_inv hf
  replace hs := cb_Hc e9 hs
  clear e9
  have hf := Option.some.inj hf
  subst hf
  exact cb_retv C hs dX3_forget_5
/-! ===== CardBecome$Play.become ===== -/
def f_X4_become (k : Nat) (k2 : Nat) (σ : cb_St) : Option (cb_St) := cb_let (cb_sI σ k 0 (σ.1 k2 0)) (fun σ_1 => cb_let (cb_sI σ_1 k 1 (σ_1.1 k2 1)) (fun σ_2 => cb_let (cb_sI σ_2 k 2 (σ_2.1 k2 2)) (fun σ_3 => cb_ck (0 ≤ (0 : Int32) ∧ 0 ≤ (0 : Int32) ∧ 0 ≤ (12 : Int32) ∧ Int32.toNatClampNeg 0 + Int32.toNatClampNeg 12 ≤ 12 ∧ Int32.toNatClampNeg 0 + Int32.toNatClampNeg 12 ≤ 12) (cb_let (cb_sA σ_3 (k + 1) (va_cpy (σ_3.1 (k2 + 1)) (σ_3.1 (k + 1)) (Int32.toNatClampNeg 0) (Int32.toNatClampNeg 0) (Int32.toNatClampNeg 12))) (fun σ_4 => cb_ck (0 ≤ (0 : Int32) ∧ 0 ≤ (0 : Int32) ∧ 0 ≤ (6 : Int32) ∧ Int32.toNatClampNeg 0 + Int32.toNatClampNeg 6 ≤ 6 ∧ Int32.toNatClampNeg 0 + Int32.toNatClampNeg 6 ≤ 6) (cb_let (cb_sA σ_4 (k + 2) (va_cpy (σ_4.1 (k2 + 2)) (σ_4.1 (k + 2)) (Int32.toNatClampNeg 0) (Int32.toNatClampNeg 0) (Int32.toNatClampNeg 6))) (fun σ_5 => cb_ck (0 ≤ (0 : Int32) ∧ 0 ≤ (0 : Int32) ∧ 0 ≤ (6 : Int32) ∧ Int32.toNatClampNeg 0 + Int32.toNatClampNeg 6 ≤ 6 ∧ Int32.toNatClampNeg 0 + Int32.toNatClampNeg 6 ≤ 6) (cb_let (cb_sA σ_5 (k + 3) (va_cpy (σ_5.1 (k2 + 3)) (σ_5.1 (k + 3)) (Int32.toNatClampNeg 0) (Int32.toNatClampNeg 0) (Int32.toNatClampNeg 6))) (fun σ_6 => cb_ck (0 ≤ (0 : Int32) ∧ 0 ≤ (0 : Int32) ∧ 0 ≤ (24 : Int32) ∧ Int32.toNatClampNeg 0 + Int32.toNatClampNeg 24 ≤ 24 ∧ Int32.toNatClampNeg 0 + Int32.toNatClampNeg 24 ≤ 24) (cb_let (cb_sA σ_6 (k + 4) (va_cpy (σ_6.1 (k2 + 4)) (σ_6.1 (k + 4)) (Int32.toNatClampNeg 0) (Int32.toNatClampNeg 0) (Int32.toNatClampNeg 24))) (fun σ_7 => some σ_7)))))))))))
set_option maxHeartbeats 4000000 in
set_option maxRecDepth 100000 in
theorem c_X4_become {k : Nat} {k2 : Nat} (hp : cb_pl k) (hp2 : cb_pl k2) {σ : cb_St} {o : cb_St} (hf : f_X4_become k k2 σ = some o) : cb_M l yX4_become cX4_become 2 none 1 shC A T D σ [.ref (A k), .ref (A k2)] none o := by
  refine cb_met (by decide +kernel) (Nat.le_of_ble_eq_true rfl) ?_
  intro p e s m below meth c C hs ls hl
  have hl : lv_has ls 2 [(0, .ref (A k)), (1, .ref (A k2))] := hl
  obtain ⟨hx, hb, hml, hr, hown, hts, hK, hlk, hN⟩ := id C
  unfold f_X4_become at hf
  refine lv_aload_n hx hb dX4_become_0 rfl (lv_at hl 0 rfl) ?_
  refine lv_aload_n hx hb dX4_become_1 rfl (lv_at hl 1 rfl) ?_
  refine gf_X4_36 C hs hp2.1 dX4_become_2 ?_
  refine pf_X4_36 C hs hp.1 dX4_become_5 (fun H locs hs => ?_)
  obtain ⟨σ_1, e9, hf⟩ := cb_let_inv hf
  replace hs := cb_Hc e9 hs
  clear e9
  refine lv_aload_n hx hb dX4_become_8 rfl (lv_at hl 0 rfl) ?_
  refine lv_aload_n hx hb dX4_become_9 rfl (lv_at hl 1 rfl) ?_
  refine gf_X4_40 C hs hp2.1 dX4_become_10 ?_
  refine pf_X4_40 C hs hp.1 dX4_become_13 (fun H locs hs => ?_)
  obtain ⟨σ_2, e9, hf⟩ := cb_let_inv hf
  replace hs := cb_Hc e9 hs
  clear e9
  refine lv_aload_n hx hb dX4_become_16 rfl (lv_at hl 0 rfl) ?_
  refine lv_aload_n hx hb dX4_become_17 rfl (lv_at hl 1 rfl) ?_
  refine gf_X4_43 C hs hp2.1 dX4_become_18 ?_
  refine pf_X4_43 C hs hp.1 dX4_become_21 (fun H locs hs => ?_)
  obtain ⟨σ_3, e9, hf⟩ := cb_let_inv hf
  replace hs := cb_Hc e9 hs
  clear e9
  refine lv_aload_n hx hb dX4_become_24 rfl (lv_at hl 1 rfl) ?_
  refine gf_X4_9 C hs hp2.1 dX4_become_25 ?_
  refine lv_iconst (v := 0) hx hb dX4_become_28 (by decide) ?_
  refine lv_aload_n hx hb dX4_become_29 rfl (lv_at hl 0 rfl) ?_
  refine gf_X4_9 C hs hp.1 dX4_become_30 ?_
  refine lv_iconst (v := 0) hx hb dX4_become_33 (by decide) ?_
  refine lv_bipush (v := 12) hx hb dX4_become_34 (by decide) ?_
  obtain ⟨⟨g1, g2, g3, g4, g5⟩, hf⟩ := cb_ck_inv hf
  refine cb_copy C hs ml_X4_46 hp2.2.1 hp.2.1 (Nat.le_of_ble_eq_true rfl) hl g1 g2 g3 g4 g5 mw_copy (Nat.le_of_ble_eq_true rfl) dX4_become_36 (fun H locs hs => ?_)
  obtain ⟨σ_4, e9, hf⟩ := cb_let_inv hf
  replace hs := cb_Hc e9 hs
  clear e9
  refine lv_aload_n hx hb dX4_become_39 rfl (lv_at hl 1 rfl) ?_
  refine gf_X4_15 C hs hp2.1 dX4_become_40 ?_
  refine lv_iconst (v := 0) hx hb dX4_become_43 (by decide) ?_
  refine lv_aload_n hx hb dX4_become_44 rfl (lv_at hl 0 rfl) ?_
  refine gf_X4_15 C hs hp.1 dX4_become_45 ?_
  refine lv_iconst (v := 0) hx hb dX4_become_48 (by decide) ?_
  refine lv_bipush (v := 6) hx hb dX4_become_49 (by decide) ?_
  obtain ⟨⟨g1, g2, g3, g4, g5⟩, hf⟩ := cb_ck_inv hf
  refine cb_copy C hs ml_X4_46 hp2.2.2.1 hp.2.2.1 (Nat.le_of_ble_eq_true rfl) hl g1 g2 g3 g4 g5 mw_copy (Nat.le_of_ble_eq_true rfl) dX4_become_51 (fun H locs hs => ?_)
  obtain ⟨σ_5, e9, hf⟩ := cb_let_inv hf
  replace hs := cb_Hc e9 hs
  clear e9
  refine lv_aload_n hx hb dX4_become_54 rfl (lv_at hl 1 rfl) ?_
  refine gf_X4_18 C hs hp2.1 dX4_become_55 ?_
  refine lv_iconst (v := 0) hx hb dX4_become_58 (by decide) ?_
  refine lv_aload_n hx hb dX4_become_59 rfl (lv_at hl 0 rfl) ?_
  refine gf_X4_18 C hs hp.1 dX4_become_60 ?_
  refine lv_iconst (v := 0) hx hb dX4_become_63 (by decide) ?_
  refine lv_bipush (v := 6) hx hb dX4_become_64 (by decide) ?_
  obtain ⟨⟨g1, g2, g3, g4, g5⟩, hf⟩ := cb_ck_inv hf
  refine cb_copy C hs ml_X4_46 hp2.2.2.2.1 hp.2.2.2.1 (Nat.le_of_ble_eq_true rfl) hl g1 g2 g3 g4 g5 mw_copy (Nat.le_of_ble_eq_true rfl) dX4_become_66 (fun H locs hs => ?_)
  obtain ⟨σ_6, e9, hf⟩ := cb_let_inv hf
  replace hs := cb_Hc e9 hs
  clear e9
  refine lv_aload_n hx hb dX4_become_69 rfl (lv_at hl 1 rfl) ?_
  refine gf_X4_21 C hs hp2.1 dX4_become_70 ?_
  refine lv_iconst (v := 0) hx hb dX4_become_73 (by decide) ?_
  refine lv_aload_n hx hb dX4_become_74 rfl (lv_at hl 0 rfl) ?_
  refine gf_X4_21 C hs hp.1 dX4_become_75 ?_
  refine lv_iconst (v := 0) hx hb dX4_become_78 (by decide) ?_
  refine lv_bipush (v := 24) hx hb dX4_become_79 (by decide) ?_
  obtain ⟨⟨g1, g2, g3, g4, g5⟩, hf⟩ := cb_ck_inv hf
  refine cb_copy C hs ml_X4_46 hp2.2.2.2.2 hp.2.2.2.2 (Nat.le_of_ble_eq_true rfl) hl g1 g2 g3 g4 g5 mw_copy (Nat.le_of_ble_eq_true rfl) dX4_become_81 (fun H locs hs => ?_)
  obtain ⟨σ_7, e9, hf⟩ := cb_let_inv hf
  replace hs := cb_Hc e9 hs
  clear e9
  have hf := Option.some.inj hf
  subst hf
  exact cb_retv C hs dX4_become_84
/-! ===== CardBecome$Past.pop ===== -/
def f_X3_pop  (σ : cb_St) : Option (cb_St) := if (σ.1 18 0) ≤ 0 then (some σ) else (cb_bp (f_J9_floorMod_7cf53 ((σ.1 18 1) - 1) 16 σ) (fun r_1 => cb_let (cb_sI σ 18 1 r_1) (fun σ_2 => cb_ck (0 ≤ Int32.toInt (σ_2.1 18 1) ∧ Int32.toInt (σ_2.1 18 1) < 16) (cb_bv (f_X4_become 13 (19 + 1 + 5 * Int32.toNatClampNeg (σ_2.1 18 1)) σ_2) (fun σ_4 => cb_let (cb_sI σ_4 18 0 ((σ_4.1 18 0) - 1)) (fun σ_5 => some σ_5))))))
set_option maxHeartbeats 4000000 in
set_option maxRecDepth 100000 in
theorem c_X3_pop   {σ : cb_St} {o : cb_St} (hf : f_X3_pop σ = some o) : cb_M l yX3_pop cX3_pop 2 none 2 shC A T D σ [.ref (A 18), .ref (A 13)] none o := by
  refine cb_met (by decide +kernel) (Nat.le_of_ble_eq_true rfl) ?_
  intro p e s m below meth c C hs ls hl
  have hl : lv_has ls 2 [(0, .ref (A 18)), (1, .ref (A 13))] := hl
  obtain ⟨hx, hb, hml, hr, hown, hts, hK, hlk, hN⟩ := id C
  unfold f_X3_pop at hf
  refine lv_aload_n hx hb dX3_pop_0 rfl (lv_at hl 0 rfl) ?_
  refine gf_X3_18 C hs rfl dX3_pop_1 ?_
  refine lv_if_le (tgt := 45) hx hb dX3_pop_4 (by decide) (fun cn => ?_) (fun cn => ?_)
  · replace hf := cb_ifp cn hf
    have hf := Option.some.inj hf
    subst hf
    exact cb_retv C hs dX3_pop_45
  · replace hf := cb_ifn cn hf
    refine lv_aload_n hx hb dX3_pop_7 rfl (lv_at hl 0 rfl) ?_
    refine lv_aload_n hx hb dX3_pop_8 rfl (lv_at hl 0 rfl) ?_
    refine gf_X3_22 C hs rfl dX3_pop_9 ?_
    refine lv_iconst (v := 1) hx hb dX3_pop_12 (by decide) ?_
    refine lv_isub hx hb dX3_pop_13 ?_
    refine lv_bipush (v := 16) hx hb dX3_pop_14 (by decide) ?_
    obtain ⟨r_1, hc, hf⟩ := cb_bp_inv hf
    refine cb_callSi C (c_J9_floorMod_7cf53  hc) mw_J9_floorMod_7cf53 ml_X3_25 rfl ⟨Nat.le_of_ble_eq_true rfl, Nat.le_of_ble_eq_true rfl⟩ hs hl rfl (Nat.le_of_ble_eq_true rfl) dX3_pop_16 (fun H locs hs => ?_)
    clear hc
    refine pf_X3_22 C hs rfl dX3_pop_19 (fun H locs hs => ?_)
    obtain ⟨σ_2, e9, hf⟩ := cb_let_inv hf
    replace hs := cb_Hc e9 hs
    clear e9
    refine lv_aload_n hx hb dX3_pop_22 rfl (lv_at hl 1 rfl) ?_
    refine lv_aload_n hx hb dX3_pop_23 rfl (lv_at hl 0 rfl) ?_
    refine gf_X3_11 C hs rfl dX3_pop_24 ?_
    refine lv_aload_n hx hb dX3_pop_27 rfl (lv_at hl 0 rfl) ?_
    refine gf_X3_22 C hs rfl dX3_pop_28 ?_
    obtain ⟨hc, hf⟩ := cb_ck_inv hf
    refine cb_aald (w := 19 + 1 + 5 * Int32.toNatClampNeg (σ_2.1 18 1)) (C0 := 1) C hs rfl rfl rfl (vp_in_iff.mpr hc) rfl dX3_pop_31 ?_
    have hq_3 := cb_plP (vp_in_iff.mpr hc)
    obtain ⟨σ_4, hc, hf⟩ := cb_bv_inv hf
    refine cb_callVv C (c_X4_become cb_pl13 hq_3 hc) mw_X4_become ml_X3_31 rfl ⟨Nat.le_of_ble_eq_true rfl, Nat.le_of_ble_eq_true rfl⟩ cb_pl13.1 (Nat.le_of_ble_eq_true rfl) rfl hs hl rfl (Nat.le_of_ble_eq_true rfl) dX3_pop_32 (fun H locs hs => ?_)
    clear hc
    refine lv_aload_n hx hb dX3_pop_35 rfl (lv_at hl 0 rfl) ?_
    refine lv_dup hx hb dX3_pop_36 rfl ?_
    refine gf_X3_18 C hs rfl dX3_pop_37 ?_
    refine lv_iconst (v := 1) hx hb dX3_pop_40 (by decide) ?_
    refine lv_isub hx hb dX3_pop_41 ?_
    refine pf_X3_18 C hs rfl dX3_pop_42 (fun H locs hs => ?_)
    obtain ⟨σ_5, e9, hf⟩ := cb_let_inv hf
    replace hs := cb_Hc e9 hs
    clear e9
    have hf := Option.some.inj hf
    subst hf
    exact cb_retv C hs dX3_pop_45
/-! ===== CardBecome$Past.push ===== -/
def f_X3_push  (σ : cb_St) : Option (cb_St) := cb_bp (f_J9_floorMod_7cf53 (σ.1 18 1) 16 σ) (fun r_1 => cb_let (cb_sI σ 18 1 r_1) (fun σ_2 => cb_ck (0 ≤ Int32.toInt (σ_2.1 18 1) ∧ Int32.toInt (σ_2.1 18 1) < 16) (cb_bv (f_X4_become (19 + 1 + 5 * Int32.toNatClampNeg (σ_2.1 18 1)) 13 σ_2) (fun σ_4 => cb_let (cb_sI σ_4 18 1 (((σ_4.1 18 1) + 1) - ((σ_4.1 18 1) + 1) / 16 * 16)) (fun σ_5 => cb_bp (f_J9_min_7cf53 ((σ_5.1 18 0) + 1) 16 σ_5) (fun r_6 => cb_let (cb_sI σ_5 18 0 r_6) (fun σ_7 => some σ_7)))))))
set_option maxHeartbeats 4000000 in
set_option maxRecDepth 100000 in
theorem c_X3_push   {σ : cb_St} {o : cb_St} (hf : f_X3_push σ = some o) : cb_M l yX3_push cX3_push 2 none 2 shC A T D σ [.ref (A 18), .ref (A 13)] none o := by
  refine cb_met (by decide +kernel) (Nat.le_of_ble_eq_true rfl) ?_
  intro p e s m below meth c C hs ls hl
  have hl : lv_has ls 2 [(0, .ref (A 18)), (1, .ref (A 13))] := hl
  obtain ⟨hx, hb, hml, hr, hown, hts, hK, hlk, hN⟩ := id C
  unfold f_X3_push at hf
  refine lv_aload_n hx hb dX3_push_0 rfl (lv_at hl 0 rfl) ?_
  refine lv_aload_n hx hb dX3_push_1 rfl (lv_at hl 0 rfl) ?_
  refine gf_X3_22 C hs rfl dX3_push_2 ?_
  refine lv_bipush (v := 16) hx hb dX3_push_5 (by decide) ?_
  obtain ⟨r_1, hc, hf⟩ := cb_bp_inv hf
  refine cb_callSi C (c_J9_floorMod_7cf53  hc) mw_J9_floorMod_7cf53 ml_X3_25 rfl ⟨Nat.le_of_ble_eq_true rfl, Nat.le_of_ble_eq_true rfl⟩ hs hl rfl (Nat.le_of_ble_eq_true rfl) dX3_push_7 (fun H locs hs => ?_)
  clear hc
  refine pf_X3_22 C hs rfl dX3_push_10 (fun H locs hs => ?_)
  obtain ⟨σ_2, e9, hf⟩ := cb_let_inv hf
  replace hs := cb_Hc e9 hs
  clear e9
  refine lv_aload_n hx hb dX3_push_13 rfl (lv_at hl 0 rfl) ?_
  refine gf_X3_11 C hs rfl dX3_push_14 ?_
  refine lv_aload_n hx hb dX3_push_17 rfl (lv_at hl 0 rfl) ?_
  refine gf_X3_22 C hs rfl dX3_push_18 ?_
  obtain ⟨hc, hf⟩ := cb_ck_inv hf
  refine cb_aald (w := 19 + 1 + 5 * Int32.toNatClampNeg (σ_2.1 18 1)) (C0 := 1) C hs rfl rfl rfl (vp_in_iff.mpr hc) rfl dX3_push_21 ?_
  have hq_3 := cb_plP (vp_in_iff.mpr hc)
  refine lv_aload_n hx hb dX3_push_22 rfl (lv_at hl 1 rfl) ?_
  obtain ⟨σ_4, hc, hf⟩ := cb_bv_inv hf
  refine cb_callVv C (c_X4_become hq_3 cb_pl13 hc) mw_X4_become ml_X3_31 rfl ⟨Nat.le_of_ble_eq_true rfl, Nat.le_of_ble_eq_true rfl⟩ hq_3.1 (Nat.le_of_ble_eq_true rfl) rfl hs hl rfl (Nat.le_of_ble_eq_true rfl) dX3_push_23 (fun H locs hs => ?_)
  clear hc
  refine lv_aload_n hx hb dX3_push_26 rfl (lv_at hl 0 rfl) ?_
  refine lv_aload_n hx hb dX3_push_27 rfl (lv_at hl 0 rfl) ?_
  refine gf_X3_22 C hs rfl dX3_push_28 ?_
  refine lv_iconst (v := 1) hx hb dX3_push_31 (by decide) ?_
  refine lv_iadd hx hb dX3_push_32 ?_
  refine lv_bipush (v := 16) hx hb dX3_push_33 (by decide) ?_
  refine lv_irem hx hb dX3_push_35 (by decide) ?_
  refine pf_X3_22 C hs rfl dX3_push_36 (fun H locs hs => ?_)
  obtain ⟨σ_5, e9, hf⟩ := cb_let_inv hf
  replace hs := cb_Hc e9 hs
  clear e9
  refine lv_aload_n hx hb dX3_push_39 rfl (lv_at hl 0 rfl) ?_
  refine lv_aload_n hx hb dX3_push_40 rfl (lv_at hl 0 rfl) ?_
  refine gf_X3_18 C hs rfl dX3_push_41 ?_
  refine lv_iconst (v := 1) hx hb dX3_push_44 (by decide) ?_
  refine lv_iadd hx hb dX3_push_45 ?_
  refine lv_bipush (v := 16) hx hb dX3_push_46 (by decide) ?_
  obtain ⟨r_6, hc, hf⟩ := cb_bp_inv hf
  refine cb_callSi C (c_J9_min_7cf53  hc) mw_J9_min_7cf53 ml_X3_35 rfl ⟨Nat.le_of_ble_eq_true rfl, Nat.le_of_ble_eq_true rfl⟩ hs hl rfl (Nat.le_of_ble_eq_true rfl) dX3_push_48 (fun H locs hs => ?_)
  clear hc
  refine pf_X3_18 C hs rfl dX3_push_51 (fun H locs hs => ?_)
  obtain ⟨σ_7, e9, hf⟩ := cb_let_inv hf
  replace hs := cb_Hc e9 hs
  clear e9
  have hf := Option.some.inj hf
  subst hf
  exact cb_retv C hs dX3_push_54
/-! ===== CardBecome$Play.begin ===== -/
def f_X4_begin_12 (k : Nat) (x1 : Int32) : Nat → cb_St → Int32 → Option (cb_St)
  | 0, _, _ => none
  | fu + 1, σ, x2 => if 12 ≤ x2 then (cb_let (cb_sI σ k 1 0) (fun σ_1 => cb_let (cb_sI σ_1 k 2 0) (fun σ_2 => cb_bv (f_J7_fill_53178 (k + 2) 6 (-1) σ_2) (fun σ_3 => cb_bv (f_J7_fill_53178 (k + 3) 6 0 σ_3) (fun σ_4 => some σ_4))))) else (cb_ck (0 ≤ Int32.toInt x2 ∧ Int32.toInt x2 < 12) (cb_let (cb_sI σ (k + 1) (Int32.toNatClampNeg x2) x2) (fun σ_5 => cb_let (x2 + 1) (fun x2_5 => f_X4_begin_12 k x1 fu σ_5 x2_5))))
set_option maxHeartbeats 4000000 in
set_option maxRecDepth 100000 in
theorem w_X4_begin_12 (C : cb_C p s m args meth c cX4_begin 3 none RX4 D T) {k : Nat} {x1 : Int32} {o : cb_St} (hp : cb_pl k) : ∀ (fu : Nat) (σ : cb_St) (x2 : Int32), f_X4_begin_12 k x1 fu σ x2 = some o → ∀ (H : Heap) (locs : List Loc) (ls : Array Slot), cb_H shC A T D σ s.heap H locs → lv_has ls 3 [(0, .ref (A k)), (1, .int x1), (2, .int x2)] → cb_W p l e 2 s m args below meth c shC A T D none o H locs (F0 m 12 ls []) := by
  obtain ⟨hx, hb, hml, hr, hown, hts, hK, hlk, hN⟩ := id C
  intro fu
  induction fu with
  | zero =>
    intro σ x2 hf
    rw [f_X4_begin_12] at hf
    cases hf
  | succ fu ih =>
    intro σ x2 hf H locs ls hs hl
    rw [f_X4_begin_12] at hf
    refine lv_iload_n hx hb dX4_begin_12 rfl (lv_at hl 2 rfl) ?_
    refine lv_bipush (v := 12) hx hb dX4_begin_13 (by decide) ?_
    refine lv_icmp_ge (tgt := 31) hx hb dX4_begin_15 (by decide) (fun cn => ?_) (fun cn => ?_)
    · replace hf := cb_ifp cn hf
      refine lv_aload_n hx hb dX4_begin_31 rfl (lv_at hl 0 rfl) ?_
      refine lv_iconst (v := 0) hx hb dX4_begin_32 (by decide) ?_
      refine pf_X4_40 C hs hp.1 dX4_begin_33 (fun H locs hs => ?_)
      obtain ⟨σ_1, e9, hf⟩ := cb_let_inv hf
      replace hs := cb_Hc e9 hs
      clear e9
      refine lv_aload_n hx hb dX4_begin_36 rfl (lv_at hl 0 rfl) ?_
      refine lv_iconst (v := 0) hx hb dX4_begin_37 (by decide) ?_
      refine pf_X4_43 C hs hp.1 dX4_begin_38 (fun H locs hs => ?_)
      obtain ⟨σ_2, e9, hf⟩ := cb_let_inv hf
      replace hs := cb_Hc e9 hs
      clear e9
      refine lv_aload_n hx hb dX4_begin_41 rfl (lv_at hl 0 rfl) ?_
      refine gf_X4_15 C hs hp.1 dX4_begin_42 ?_
      refine lv_iconst (v := (-1)) hx hb dX4_begin_45 (by decide) ?_
      obtain ⟨σ_3, hc, hf⟩ := cb_bv_inv hf
      refine cb_callSv C (c_J7_fill_53178 hp.2.2.1 hc) mw_J7_fill_53178 ml_X4_24 rfl ⟨Nat.le_of_ble_eq_true rfl, Nat.le_of_ble_eq_true rfl⟩ hs hl rfl (Nat.le_of_ble_eq_true rfl) dX4_begin_46 (fun H locs hs => ?_)
      clear hc
      refine lv_aload_n hx hb dX4_begin_49 rfl (lv_at hl 0 rfl) ?_
      refine gf_X4_18 C hs hp.1 dX4_begin_50 ?_
      refine lv_iconst (v := 0) hx hb dX4_begin_53 (by decide) ?_
      obtain ⟨σ_4, hc, hf⟩ := cb_bv_inv hf
      refine cb_callSv C (c_J7_fill_53178 hp.2.2.2.1 hc) mw_J7_fill_53178 ml_X4_24 rfl ⟨Nat.le_of_ble_eq_true rfl, Nat.le_of_ble_eq_true rfl⟩ hs hl rfl (Nat.le_of_ble_eq_true rfl) dX4_begin_54 (fun H locs hs => ?_)
      clear hc
      have hf := Option.some.inj hf
      subst hf
      exact cb_retv C hs dX4_begin_57
    · replace hf := cb_ifn cn hf
      refine lv_aload_n hx hb dX4_begin_18 rfl (lv_at hl 0 rfl) ?_
      refine gf_X4_9 C hs hp.1 dX4_begin_19 ?_
      refine lv_iload_n hx hb dX4_begin_22 rfl (lv_at hl 2 rfl) ?_
      refine lv_iload_n hx hb dX4_begin_23 rfl (lv_at hl 2 rfl) ?_
      obtain ⟨hc, hf⟩ := cb_ck_inv hf
      refine cb_iast C hs hp.2.1 (vp_in_iff.mpr hc) dX4_begin_24 (fun H locs hs => ?_)
      obtain ⟨σ_5, e9, hf⟩ := cb_let_inv hf
      replace hs := cb_Hc e9 hs
      clear e9
      obtain ⟨x2_5, e9, hf⟩ := cb_let_inv hf
      refine lv_iinc (v := x2_5) (lv' := [(2, .int x2_5), (0, .ref (A k)), (1, .int x1)]) hx hb dX4_begin_25 hl (k := 2) rfl (by rw [e9]; rfl) (by decide) rfl (fun ls hl => ?_)
      clear e9
      refine lv_goto (tgt := 12) hx hb dX4_begin_28 (by decide) ?_
      exact ih _ _ hf _ _ _ hs (lv_sub hl [1, 2, 0] rfl)
def f_X4_begin (k : Nat) (x1 : Int32) (σ : cb_St) : Option (cb_St) := cb_bp (f_J9_min_7cf53 x1 12 σ) (fun r_1 => cb_let (cb_sI σ k 0 r_1) (fun σ_2 => f_X4_begin_12 k x1 cb_fu σ_2 0))
set_option maxHeartbeats 4000000 in
set_option maxRecDepth 100000 in
theorem c_X4_begin {k : Nat} {x1 : Int32} (hp : cb_pl k) {σ : cb_St} {o : cb_St} (hf : f_X4_begin k x1 σ = some o) : cb_M l yX4_begin cX4_begin 3 none 2 shC A T D σ [.ref (A k), .int x1] none o := by
  refine cb_met (by decide +kernel) (Nat.le_of_ble_eq_true rfl) ?_
  intro p e s m below meth c C hs ls hl
  have hl : lv_has ls 3 [(0, .ref (A k)), (1, .int x1)] := hl
  obtain ⟨hx, hb, hml, hr, hown, hts, hK, hlk, hN⟩ := id C
  unfold f_X4_begin at hf
  refine lv_aload_n hx hb dX4_begin_0 rfl (lv_at hl 0 rfl) ?_
  refine lv_iload_n hx hb dX4_begin_1 rfl (lv_at hl 1 rfl) ?_
  refine lv_bipush (v := 12) hx hb dX4_begin_2 (by decide) ?_
  obtain ⟨r_1, hc, hf⟩ := cb_bp_inv hf
  refine cb_callSi C (c_J9_min_7cf53  hc) mw_J9_min_7cf53 ml_X4_30 rfl ⟨Nat.le_of_ble_eq_true rfl, Nat.le_of_ble_eq_true rfl⟩ hs hl rfl (Nat.le_of_ble_eq_true rfl) dX4_begin_4 (fun H locs hs => ?_)
  clear hc
  refine pf_X4_36 C hs hp.1 dX4_begin_7 (fun H locs hs => ?_)
  obtain ⟨σ_2, e9, hf⟩ := cb_let_inv hf
  replace hs := cb_Hc e9 hs
  clear e9
  refine lv_iconst (v := 0) hx hb dX4_begin_10 (by decide) ?_
  refine lv_istore_n (lv' := [(2, .int 0), (0, .ref (A k)), (1, .int x1)]) hx hb dX4_begin_11 rfl hl (by decide) rfl (fun ls hl => ?_)
  exact w_X4_begin_12 C hp cb_fu _ _ hf _ _ _ hs (lv_sub hl [1, 2, 0] rfl)
/-! ===== CardBecome$Play.isPerson ===== -/
def f_X4_isPerson_14 (x0 : Int32) (σ : cb_St)  : Option (Int32) := some 0
set_option maxHeartbeats 4000000 in
set_option maxRecDepth 100000 in
theorem w_X4_isPerson_14 (C : cb_C p s m args meth c cX4_isPerson 1 (some .boolean) RX4 D T) {x0 : Int32} {σ : cb_St} {o : Int32}   (hf : f_X4_isPerson_14 x0 σ = some o) {H : Heap} {locs : List Loc} {ls : Array Slot} (hs : cb_H shC A T D σ s.heap H locs) (hl : lv_has ls 1 [(0, .int x0)]) : cb_W p l e 1 s m args below meth c shC A T D (some (.int o)) σ H locs (F0 m 14 ls []) := by
  obtain ⟨hx, hb, hml, hr, hown, hts, hK, hlk, hN⟩ := id C
  unfold f_X4_isPerson_14 at hf
  refine lv_iconst (v := 0) hx hb dX4_isPerson_14 (by decide) ?_
  have hf := Option.some.inj hf
  subst hf
  exact cb_retz C hs (Or.inl rfl) dX4_isPerson_15
def f_X4_isPerson (x0 : Int32) (σ : cb_St)  : Option (Int32) := if x0 < 0 then (f_X4_isPerson_14 x0 σ) else (if 6 ≤ x0 then (f_X4_isPerson_14 x0 σ) else (some 1))
set_option maxHeartbeats 4000000 in
set_option maxRecDepth 100000 in
theorem c_X4_isPerson {x0 : Int32} {σ : cb_St}   {o : Int32} (hf : f_X4_isPerson x0 σ = some o) : cb_M l yX4_isPerson cX4_isPerson 1 (some .boolean) 1 shC A T D σ [.int x0] (some (.int o)) σ := by
  refine cb_met (by decide +kernel) (Nat.le_of_ble_eq_true rfl) ?_
  intro p e s m below meth c C hs ls hl
  have hl : lv_has ls 1 [(0, .int x0)] := hl
  obtain ⟨hx, hb, hml, hr, hown, hts, hK, hlk, hN⟩ := id C
  unfold f_X4_isPerson at hf
  refine lv_iload_n hx hb dX4_isPerson_0 rfl (lv_at hl 0 rfl) ?_
  refine lv_if_lt (tgt := 14) hx hb dX4_isPerson_1 (by decide) (fun cn => ?_) (fun cn => ?_)
  · replace hf := cb_ifp cn hf
    exact w_X4_isPerson_14 C  hf hs (lv_sub hl [0] rfl)
  · replace hf := cb_ifn cn hf
    refine lv_iload_n hx hb dX4_isPerson_4 rfl (lv_at hl 0 rfl) ?_
    refine lv_bipush (v := 6) hx hb dX4_isPerson_5 (by decide) ?_
    refine lv_icmp_ge (tgt := 14) hx hb dX4_isPerson_7 (by decide) (fun cn => ?_) (fun cn => ?_)
    · replace hf := cb_ifp cn hf
      exact w_X4_isPerson_14 C  hf hs (lv_sub hl [0] rfl)
    · replace hf := cb_ifn cn hf
      refine lv_iconst (v := 1) hx hb dX4_isPerson_10 (by decide) ?_
      refine lv_goto (tgt := 15) hx hb dX4_isPerson_11 (by decide) ?_
      have hf := Option.some.inj hf
      subst hf
      exact cb_retz C hs (Or.inr rfl) dX4_isPerson_15
/-! ===== CardBecome$Play.canDraw ===== -/
def f_X4_canDraw_28 (k : Nat) (x1 : Int32) (σ : cb_St)  : Option (Int32) := some 0
set_option maxHeartbeats 4000000 in
set_option maxRecDepth 100000 in
theorem w_X4_canDraw_28 (C : cb_C p s m args meth c cX4_canDraw 2 (some .boolean) RX4 D T) {k : Nat} {x1 : Int32} {σ : cb_St} {o : Int32} (hp : cb_pl k)  (hf : f_X4_canDraw_28 k x1 σ = some o) {H : Heap} {locs : List Loc} {ls : Array Slot} (hs : cb_H shC A T D σ s.heap H locs) (hl : lv_has ls 2 [(0, .ref (A k)), (1, .int x1)]) : cb_W p l e 2 s m args below meth c shC A T D (some (.int o)) σ H locs (F0 m 28 ls []) := by
  obtain ⟨hx, hb, hml, hr, hown, hts, hK, hlk, hN⟩ := id C
  unfold f_X4_canDraw_28 at hf
  refine lv_iconst (v := 0) hx hb dX4_canDraw_28 (by decide) ?_
  have hf := Option.some.inj hf
  subst hf
  exact cb_retz C hs (Or.inl rfl) dX4_canDraw_29
def f_X4_canDraw (k : Nat) (x1 : Int32) (σ : cb_St)  : Option (Int32) := cb_bp (f_X4_isPerson x1 σ) (fun r_1 => if r_1 = 0 then (f_X4_canDraw_28 k x1 σ) else (cb_ck (0 ≤ Int32.toInt x1 ∧ Int32.toInt x1 < 6) (if (σ.1 (k + 2) (Int32.toNatClampNeg x1)) = (-1) then (if (σ.1 k 0) ≤ 0 then (f_X4_canDraw_28 k x1 σ) else (some 1)) else (f_X4_canDraw_28 k x1 σ))))
set_option maxHeartbeats 4000000 in
set_option maxRecDepth 100000 in
theorem c_X4_canDraw {k : Nat} {x1 : Int32} {σ : cb_St} (hp : cb_pl k)  {o : Int32} (hf : f_X4_canDraw k x1 σ = some o) : cb_M l yX4_canDraw cX4_canDraw 2 (some .boolean) 2 shC A T D σ [.ref (A k), .int x1] (some (.int o)) σ := by
  refine cb_met (by decide +kernel) (Nat.le_of_ble_eq_true rfl) ?_
  intro p e s m below meth c C hs ls hl
  have hl : lv_has ls 2 [(0, .ref (A k)), (1, .int x1)] := hl
  obtain ⟨hx, hb, hml, hr, hown, hts, hK, hlk, hN⟩ := id C
  unfold f_X4_canDraw at hf
  refine lv_iload_n hx hb dX4_canDraw_0 rfl (lv_at hl 1 rfl) ?_
  obtain ⟨r_1, hc, hf⟩ := cb_bp_inv hf
  refine cb_callSi C (c_X4_isPerson  hc) mw_X4_isPerson ml_X4_52 rfl ⟨Nat.le_of_ble_eq_true rfl, Nat.le_of_ble_eq_true rfl⟩ hs hl rfl (Nat.le_of_ble_eq_true rfl) dX4_canDraw_1 (fun H locs hs => ?_)
  clear hc
  refine lv_if_eq (tgt := 28) hx hb dX4_canDraw_4 (by decide) (fun cn => ?_) (fun cn => ?_)
  · replace hf := cb_ifp cn hf
    exact w_X4_canDraw_28 C hp hf hs (lv_sub hl [0, 1] rfl)
  · replace hf := cb_ifn cn hf
    refine lv_aload_n hx hb dX4_canDraw_7 rfl (lv_at hl 0 rfl) ?_
    refine gf_X4_15 C hs hp.1 dX4_canDraw_8 ?_
    refine lv_iload_n hx hb dX4_canDraw_11 rfl (lv_at hl 1 rfl) ?_
    obtain ⟨hc, hf⟩ := cb_ck_inv hf
    refine cb_iald C hs hp.2.2.1 (vp_in_iff.mpr hc) dX4_canDraw_12 ?_
    refine lv_iconst (v := (-1)) hx hb dX4_canDraw_13 (by decide) ?_
    refine lv_icmp_ne (tgt := 28) hx hb dX4_canDraw_14 (by decide) (fun cn => ?_) (fun cn => ?_)
    · replace hf := cb_ifn cn hf
      exact w_X4_canDraw_28 C hp hf hs (lv_sub hl [0, 1] rfl)
    · replace hf := cb_ifp cn hf
      refine lv_aload_n hx hb dX4_canDraw_17 rfl (lv_at hl 0 rfl) ?_
      refine gf_X4_36 C hs hp.1 dX4_canDraw_18 ?_
      refine lv_if_le (tgt := 28) hx hb dX4_canDraw_21 (by decide) (fun cn => ?_) (fun cn => ?_)
      · replace hf := cb_ifp cn hf
        exact w_X4_canDraw_28 C hp hf hs (lv_sub hl [0, 1] rfl)
      · replace hf := cb_ifn cn hf
        refine lv_iconst (v := 1) hx hb dX4_canDraw_24 (by decide) ?_
        refine lv_goto (tgt := 29) hx hb dX4_canDraw_25 (by decide) ?_
        have hf := Option.some.inj hf
        subst hf
        exact cb_retz C hs (Or.inr rfl) dX4_canDraw_29
/-! ===== CardBecome$Play.cardOf ===== -/
def f_X4_cardOf (k : Nat) (x1 : Int32) (σ : cb_St)  : Option (Int32) := cb_bp (f_X4_isPerson x1 σ) (fun r_1 => if r_1 = 0 then (some (-1)) else (cb_ck (0 ≤ Int32.toInt x1 ∧ Int32.toInt x1 < 6) (some (σ.1 (k + 2) (Int32.toNatClampNeg x1)))))
set_option maxHeartbeats 4000000 in
set_option maxRecDepth 100000 in
theorem c_X4_cardOf {k : Nat} {x1 : Int32} {σ : cb_St} (hp : cb_pl k)  {o : Int32} (hf : f_X4_cardOf k x1 σ = some o) : cb_M l yX4_cardOf cX4_cardOf 2 (some .int) 2 shC A T D σ [.ref (A k), .int x1] (some (.int o)) σ := by
  refine cb_met (by decide +kernel) (Nat.le_of_ble_eq_true rfl) ?_
  intro p e s m below meth c C hs ls hl
  have hl : lv_has ls 2 [(0, .ref (A k)), (1, .int x1)] := hl
  obtain ⟨hx, hb, hml, hr, hown, hts, hK, hlk, hN⟩ := id C
  unfold f_X4_cardOf at hf
  refine lv_iload_n hx hb dX4_cardOf_0 rfl (lv_at hl 1 rfl) ?_
  obtain ⟨r_1, hc, hf⟩ := cb_bp_inv hf
  refine cb_callSi C (c_X4_isPerson  hc) mw_X4_isPerson ml_X4_52 rfl ⟨Nat.le_of_ble_eq_true rfl, Nat.le_of_ble_eq_true rfl⟩ hs hl rfl (Nat.le_of_ble_eq_true rfl) dX4_cardOf_1 (fun H locs hs => ?_)
  clear hc
  refine lv_if_eq (tgt := 16) hx hb dX4_cardOf_4 (by decide) (fun cn => ?_) (fun cn => ?_)
  · replace hf := cb_ifp cn hf
    refine lv_iconst (v := (-1)) hx hb dX4_cardOf_16 (by decide) ?_
    have hf := Option.some.inj hf
    subst hf
    exact cb_reti C hs dX4_cardOf_17
  · replace hf := cb_ifn cn hf
    refine lv_aload_n hx hb dX4_cardOf_7 rfl (lv_at hl 0 rfl) ?_
    refine gf_X4_15 C hs hp.1 dX4_cardOf_8 ?_
    refine lv_iload_n hx hb dX4_cardOf_11 rfl (lv_at hl 1 rfl) ?_
    obtain ⟨hc, hf⟩ := cb_ck_inv hf
    refine cb_iald C hs hp.2.2.1 (vp_in_iff.mpr hc) dX4_cardOf_12 ?_
    refine lv_goto (tgt := 17) hx hb dX4_cardOf_13 (by decide) ?_
    have hf := Option.some.inj hf
    subst hf
    exact cb_reti C hs dX4_cardOf_17
/-! ===== CardBecome$Play.countWin ===== -/
def f_X4_countWin (k : Nat) (x1 : Int32) (σ : cb_St) : Option (cb_St) := cb_bp (f_X4_isPerson x1 σ) (fun r_1 => if r_1 = 0 then (some σ) else (cb_ck (0 ≤ Int32.toInt x1 ∧ Int32.toInt x1 < 6) (if 999999 ≤ (σ.1 (k + 3) (Int32.toNatClampNeg x1)) then (some σ) else (cb_ck (0 ≤ Int32.toInt x1 ∧ Int32.toInt x1 < 6) (cb_ck (0 ≤ Int32.toInt x1 ∧ Int32.toInt x1 < 6) (cb_let (cb_sI σ (k + 3) (Int32.toNatClampNeg x1) ((σ.1 (k + 3) (Int32.toNatClampNeg x1)) + 1)) (fun σ_2 => some σ_2)))))))
set_option maxHeartbeats 4000000 in
set_option maxRecDepth 100000 in
theorem c_X4_countWin {k : Nat} {x1 : Int32} (hp : cb_pl k) {σ : cb_St} {o : cb_St} (hf : f_X4_countWin k x1 σ = some o) : cb_M l yX4_countWin cX4_countWin 2 none 2 shC A T D σ [.ref (A k), .int x1] none o := by
  refine cb_met (by decide +kernel) (Nat.le_of_ble_eq_true rfl) ?_
  intro p e s m below meth c C hs ls hl
  have hl : lv_has ls 2 [(0, .ref (A k)), (1, .int x1)] := hl
  obtain ⟨hx, hb, hml, hr, hown, hts, hK, hlk, hN⟩ := id C
  unfold f_X4_countWin at hf
  refine lv_iload_n hx hb dX4_countWin_0 rfl (lv_at hl 1 rfl) ?_
  obtain ⟨r_1, hc, hf⟩ := cb_bp_inv hf
  refine cb_callSi C (c_X4_isPerson  hc) mw_X4_isPerson ml_X4_52 rfl ⟨Nat.le_of_ble_eq_true rfl, Nat.le_of_ble_eq_true rfl⟩ hs hl rfl (Nat.le_of_ble_eq_true rfl) dX4_countWin_1 (fun H locs hs => ?_)
  clear hc
  refine lv_if_eq (tgt := 28) hx hb dX4_countWin_4 (by decide) (fun cn => ?_) (fun cn => ?_)
  · replace hf := cb_ifp cn hf
    have hf := Option.some.inj hf
    subst hf
    exact cb_retv C hs dX4_countWin_28
  · replace hf := cb_ifn cn hf
    refine lv_aload_n hx hb dX4_countWin_7 rfl (lv_at hl 0 rfl) ?_
    refine gf_X4_18 C hs hp.1 dX4_countWin_8 ?_
    refine lv_iload_n hx hb dX4_countWin_11 rfl (lv_at hl 1 rfl) ?_
    obtain ⟨hc, hf⟩ := cb_ck_inv hf
    refine cb_iald C hs hp.2.2.2.1 (vp_in_iff.mpr hc) dX4_countWin_12 ?_
    refine lv_ldc (v := 999999) hx hb hown (hts _ kc_X4_80) dX4_countWin_13 ?_
    refine lv_icmp_ge (tgt := 28) hx hb dX4_countWin_15 (by decide) (fun cn => ?_) (fun cn => ?_)
    · replace hf := cb_ifp cn hf
      have hf := Option.some.inj hf
      subst hf
      exact cb_retv C hs dX4_countWin_28
    · replace hf := cb_ifn cn hf
      refine lv_aload_n hx hb dX4_countWin_18 rfl (lv_at hl 0 rfl) ?_
      refine gf_X4_18 C hs hp.1 dX4_countWin_19 ?_
      refine lv_iload_n hx hb dX4_countWin_22 rfl (lv_at hl 1 rfl) ?_
      refine lv_dup2_11 hx hb dX4_countWin_23 rfl rfl ?_
      obtain ⟨hc, hf⟩ := cb_ck_inv hf
      refine cb_iald C hs hp.2.2.2.1 (vp_in_iff.mpr hc) dX4_countWin_24 ?_
      refine lv_iconst (v := 1) hx hb dX4_countWin_25 (by decide) ?_
      refine lv_iadd hx hb dX4_countWin_26 ?_
      obtain ⟨hc, hf⟩ := cb_ck_inv hf
      refine cb_iast C hs hp.2.2.2.1 (vp_in_iff.mpr hc) dX4_countWin_27 (fun H locs hs => ?_)
      obtain ⟨σ_2, e9, hf⟩ := cb_let_inv hf
      replace hs := cb_Hc e9 hs
      clear e9
      have hf := Option.some.inj hf
      subst hf
      exact cb_retv C hs dX4_countWin_28
/-! ===== CardBecome$Play.draw ===== -/
def f_X4_draw_59 (k : Nat) (x1 : Int32) (σ : cb_St) (x2 : Int32) : Option (Int32 × cb_St) := cb_let (cb_sI σ k 0 ((σ.1 k 0) - 1)) (fun σ_1 => some (x2, σ_1))
set_option maxHeartbeats 4000000 in
set_option maxRecDepth 100000 in
theorem w_X4_draw_59 (C : cb_C p s m args meth c cX4_draw 4 (some .int) RX4 D T) {k : Nat} {x1 : Int32} {o : Int32 × cb_St} (hp : cb_pl k) {σ : cb_St} {x2 : Int32} (hf : f_X4_draw_59 k x1 σ x2 = some o) {H : Heap} {locs : List Loc} {ls : Array Slot} (hs : cb_H shC A T D σ s.heap H locs) (hl : lv_has ls 4 [(0, .ref (A k)), (1, .int x1), (2, .int x2)]) : cb_W p l e 3 s m args below meth c shC A T D (some (.int o.1)) o.2 H locs (F0 m 59 ls []) := by
  obtain ⟨hx, hb, hml, hr, hown, hts, hK, hlk, hN⟩ := id C
  unfold f_X4_draw_59 at hf
  refine lv_aload_n hx hb dX4_draw_59 rfl (lv_at hl 0 rfl) ?_
  refine lv_dup hx hb dX4_draw_60 rfl ?_
  refine gf_X4_36 C hs hp.1 dX4_draw_61 ?_
  refine lv_iconst (v := 1) hx hb dX4_draw_64 (by decide) ?_
  refine lv_isub hx hb dX4_draw_65 ?_
  refine pf_X4_36 C hs hp.1 dX4_draw_66 (fun H locs hs => ?_)
  obtain ⟨σ_1, e9, hf⟩ := cb_let_inv hf
  replace hs := cb_Hc e9 hs
  clear e9
  refine lv_iload_n hx hb dX4_draw_69 rfl (lv_at hl 2 rfl) ?_
  have hf := Option.some.inj hf
  subst hf
  exact cb_reti C hs dX4_draw_70
def f_X4_draw_25 (k : Nat) (x1 : Int32) : Nat → cb_St → Int32 → Int32 → Option (Int32 × cb_St)
  | 0, _, _, _ => none
  | fu + 1, σ, x2, x3 => if (σ.1 k 0) ≤ x3 then (f_X4_draw_59 k x1 σ x2) else (if 12 ≤ x3 then (f_X4_draw_59 k x1 σ x2) else (cb_ck (0 ≤ Int32.toInt x3 ∧ Int32.toInt x3 < 12) (cb_ck (0 ≤ Int32.toInt (x3 - 1) ∧ Int32.toInt (x3 - 1) < 12) (cb_let (cb_sI σ (k + 1) (Int32.toNatClampNeg (x3 - 1)) (σ.1 (k + 1) (Int32.toNatClampNeg x3))) (fun σ_1 => cb_let (x3 + 1) (fun x3_1 => f_X4_draw_25 k x1 fu σ_1 x2 x3_1))))))
set_option maxHeartbeats 4000000 in
set_option maxRecDepth 100000 in
theorem w_X4_draw_25 (C : cb_C p s m args meth c cX4_draw 4 (some .int) RX4 D T) {k : Nat} {x1 : Int32} {o : Int32 × cb_St} (hp : cb_pl k) : ∀ (fu : Nat) (σ : cb_St) (x2 : Int32) (x3 : Int32), f_X4_draw_25 k x1 fu σ x2 x3 = some o → ∀ (H : Heap) (locs : List Loc) (ls : Array Slot), cb_H shC A T D σ s.heap H locs → lv_has ls 4 [(0, .ref (A k)), (1, .int x1), (2, .int x2), (3, .int x3)] → cb_W p l e 3 s m args below meth c shC A T D (some (.int o.1)) o.2 H locs (F0 m 25 ls []) := by
  obtain ⟨hx, hb, hml, hr, hown, hts, hK, hlk, hN⟩ := id C
  intro fu
  induction fu with
  | zero =>
    intro σ x2 x3 hf
    rw [f_X4_draw_25] at hf
    cases hf
  | succ fu ih =>
    intro σ x2 x3 hf H locs ls hs hl
    rw [f_X4_draw_25] at hf
    refine lv_iload_n hx hb dX4_draw_25 rfl (lv_at hl 3 rfl) ?_
    refine lv_aload_n hx hb dX4_draw_26 rfl (lv_at hl 0 rfl) ?_
    refine gf_X4_36 C hs hp.1 dX4_draw_27 ?_
    refine lv_icmp_ge (tgt := 59) hx hb dX4_draw_30 (by decide) (fun cn => ?_) (fun cn => ?_)
    · replace hf := cb_ifp cn hf
      exact w_X4_draw_59 C hp hf hs (lv_sub hl [0, 1, 2] rfl)
    · replace hf := cb_ifn cn hf
      refine lv_iload_n hx hb dX4_draw_33 rfl (lv_at hl 3 rfl) ?_
      refine lv_bipush (v := 12) hx hb dX4_draw_34 (by decide) ?_
      refine lv_icmp_ge (tgt := 59) hx hb dX4_draw_36 (by decide) (fun cn => ?_) (fun cn => ?_)
      · replace hf := cb_ifp cn hf
        exact w_X4_draw_59 C hp hf hs (lv_sub hl [0, 1, 2] rfl)
      · replace hf := cb_ifn cn hf
        refine lv_aload_n hx hb dX4_draw_39 rfl (lv_at hl 0 rfl) ?_
        refine gf_X4_9 C hs hp.1 dX4_draw_40 ?_
        refine lv_iload_n hx hb dX4_draw_43 rfl (lv_at hl 3 rfl) ?_
        refine lv_iconst (v := 1) hx hb dX4_draw_44 (by decide) ?_
        refine lv_isub hx hb dX4_draw_45 ?_
        refine lv_aload_n hx hb dX4_draw_46 rfl (lv_at hl 0 rfl) ?_
        refine gf_X4_9 C hs hp.1 dX4_draw_47 ?_
        refine lv_iload_n hx hb dX4_draw_50 rfl (lv_at hl 3 rfl) ?_
        obtain ⟨hc, hf⟩ := cb_ck_inv hf
        refine cb_iald C hs hp.2.1 (vp_in_iff.mpr hc) dX4_draw_51 ?_
        obtain ⟨hc, hf⟩ := cb_ck_inv hf
        refine cb_iast C hs hp.2.1 (vp_in_iff.mpr hc) dX4_draw_52 (fun H locs hs => ?_)
        obtain ⟨σ_1, e9, hf⟩ := cb_let_inv hf
        replace hs := cb_Hc e9 hs
        clear e9
        obtain ⟨x3_1, e9, hf⟩ := cb_let_inv hf
        refine lv_iinc (v := x3_1) (lv' := [(3, .int x3_1), (0, .ref (A k)), (1, .int x1), (2, .int x2)]) hx hb dX4_draw_53 hl (k := 3) rfl (by rw [e9]; rfl) (by decide) rfl (fun ls hl => ?_)
        clear e9
        refine lv_goto (tgt := 25) hx hb dX4_draw_56 (by decide) ?_
        exact ih _ _ _ hf _ _ _ hs (lv_sub hl [1, 2, 3, 0] rfl)
def f_X4_draw (k : Nat) (x1 : Int32) (σ : cb_St) : Option (Int32 × cb_St) := cb_bp (f_X4_canDraw k x1 σ) (fun r_1 => if r_1 = 0 then (some ((-1), σ)) else (cb_bp (f_X4_cardAt k 0 σ) (fun r_2 => cb_ck (0 ≤ Int32.toInt x1 ∧ Int32.toInt x1 < 6) (cb_let (cb_sI σ (k + 2) (Int32.toNatClampNeg x1) r_2) (fun σ_3 => f_X4_draw_25 k x1 cb_fu σ_3 r_2 1)))))
set_option maxHeartbeats 4000000 in
set_option maxRecDepth 100000 in
theorem c_X4_draw {k : Nat} {x1 : Int32} (hp : cb_pl k) {σ : cb_St} {o : Int32 × cb_St} (hf : f_X4_draw k x1 σ = some o) : cb_M l yX4_draw cX4_draw 4 (some .int) 3 shC A T D σ [.ref (A k), .int x1] (some (.int o.1)) o.2 := by
  refine cb_met (by decide +kernel) (Nat.le_of_ble_eq_true rfl) ?_
  intro p e s m below meth c C hs ls hl
  have hl : lv_has ls 4 [(0, .ref (A k)), (1, .int x1)] := hl
  obtain ⟨hx, hb, hml, hr, hown, hts, hK, hlk, hN⟩ := id C
  unfold f_X4_draw at hf
  refine lv_aload_n hx hb dX4_draw_0 rfl (lv_at hl 0 rfl) ?_
  refine lv_iload_n hx hb dX4_draw_1 rfl (lv_at hl 1 rfl) ?_
  obtain ⟨r_1, hc, hf⟩ := cb_bp_inv hf
  refine cb_callVi C (c_X4_canDraw hp hc) mw_X4_canDraw ml_X4_60 rfl ⟨Nat.le_of_ble_eq_true rfl, Nat.le_of_ble_eq_true rfl⟩ hp.1 (Nat.le_of_ble_eq_true rfl) rfl hs hl rfl (Nat.le_of_ble_eq_true rfl) dX4_draw_2 (fun H locs hs => ?_)
  clear hc
  refine lv_if_ne (tgt := 10) hx hb dX4_draw_5 (by decide) (fun cn => ?_) (fun cn => ?_)
  · replace hf := cb_ifn cn hf
    refine lv_aload_n hx hb dX4_draw_10 rfl (lv_at hl 0 rfl) ?_
    refine lv_iconst (v := 0) hx hb dX4_draw_11 (by decide) ?_
    obtain ⟨r_2, hc, hf⟩ := cb_bp_inv hf
    refine cb_callVi C (c_X4_cardAt hp hc) mw_X4_cardAt ml_X4_56 rfl ⟨Nat.le_of_ble_eq_true rfl, Nat.le_of_ble_eq_true rfl⟩ hp.1 (Nat.le_of_ble_eq_true rfl) rfl hs hl rfl (Nat.le_of_ble_eq_true rfl) dX4_draw_12 (fun H locs hs => ?_)
    clear hc
    refine lv_istore_n (lv' := [(2, .int r_2), (0, .ref (A k)), (1, .int x1)]) hx hb dX4_draw_15 rfl hl (by decide) rfl (fun ls hl => ?_)
    refine lv_aload_n hx hb dX4_draw_16 rfl (lv_at hl 1 rfl) ?_
    refine gf_X4_15 C hs hp.1 dX4_draw_17 ?_
    refine lv_iload_n hx hb dX4_draw_20 rfl (lv_at hl 2 rfl) ?_
    refine lv_iload_n hx hb dX4_draw_21 rfl (lv_at hl 0 rfl) ?_
    obtain ⟨hc, hf⟩ := cb_ck_inv hf
    refine cb_iast C hs hp.2.2.1 (vp_in_iff.mpr hc) dX4_draw_22 (fun H locs hs => ?_)
    obtain ⟨σ_3, e9, hf⟩ := cb_let_inv hf
    replace hs := cb_Hc e9 hs
    clear e9
    refine lv_iconst (v := 1) hx hb dX4_draw_23 (by decide) ?_
    refine lv_istore_n (lv' := [(3, .int 1), (2, .int r_2), (0, .ref (A k)), (1, .int x1)]) hx hb dX4_draw_24 rfl hl (by decide) rfl (fun ls hl => ?_)
    exact w_X4_draw_25 C hp cb_fu _ _ _ hf _ _ _ hs (lv_sub hl [2, 3, 1, 0] rfl)
  · replace hf := cb_ifp cn hf
    refine lv_iconst (v := (-1)) hx hb dX4_draw_8 (by decide) ?_
    have hf := Option.some.inj hf
    subst hf
    exact cb_reti C hs dX4_draw_9
/-! ===== CardBecome$Play.entry ===== -/
def f_X4_entry_18 (k : Nat) (x1 : Int32) (σ : cb_St)  : Option (Int32) := some 0
set_option maxHeartbeats 4000000 in
set_option maxRecDepth 100000 in
theorem w_X4_entry_18 (C : cb_C p s m args meth c cX4_entry 2 (some .int) RX4 D T) {k : Nat} {x1 : Int32} {σ : cb_St} {o : Int32} (hp : cb_pl k)  (hf : f_X4_entry_18 k x1 σ = some o) {H : Heap} {locs : List Loc} {ls : Array Slot} (hs : cb_H shC A T D σ s.heap H locs) (hl : lv_has ls 2 [(0, .ref (A k)), (1, .int x1)]) : cb_W p l e 1 s m args below meth c shC A T D (some (.int o)) σ H locs (F0 m 18 ls []) := by
  obtain ⟨hx, hb, hml, hr, hown, hts, hK, hlk, hN⟩ := id C
  unfold f_X4_entry_18 at hf
  refine lv_iconst (v := 0) hx hb dX4_entry_18 (by decide) ?_
  refine lv_goto (tgt := 28) hx hb dX4_entry_19 (by decide) ?_
  have hf := Option.some.inj hf
  subst hf
  exact cb_reti C hs dX4_entry_28
def f_X4_entry (k : Nat) (x1 : Int32) (σ : cb_St)  : Option (Int32) := if x1 < 0 then (f_X4_entry_18 k x1 σ) else (if (σ.1 k 2) ≤ x1 then (f_X4_entry_18 k x1 σ) else (if x1 < 24 then (cb_ck (0 ≤ Int32.toInt x1 ∧ Int32.toInt x1 < 24) (some (σ.1 (k + 4) (Int32.toNatClampNeg x1)))) else (f_X4_entry_18 k x1 σ)))
set_option maxHeartbeats 4000000 in
set_option maxRecDepth 100000 in
theorem c_X4_entry {k : Nat} {x1 : Int32} {σ : cb_St} (hp : cb_pl k)  {o : Int32} (hf : f_X4_entry k x1 σ = some o) : cb_M l yX4_entry cX4_entry 2 (some .int) 1 shC A T D σ [.ref (A k), .int x1] (some (.int o)) σ := by
  refine cb_met (by decide +kernel) (Nat.le_of_ble_eq_true rfl) ?_
  intro p e s m below meth c C hs ls hl
  have hl : lv_has ls 2 [(0, .ref (A k)), (1, .int x1)] := hl
  obtain ⟨hx, hb, hml, hr, hown, hts, hK, hlk, hN⟩ := id C
  unfold f_X4_entry at hf
  refine lv_iload_n hx hb dX4_entry_0 rfl (lv_at hl 1 rfl) ?_
  refine lv_if_lt (tgt := 18) hx hb dX4_entry_1 (by decide) (fun cn => ?_) (fun cn => ?_)
  · replace hf := cb_ifp cn hf
    exact w_X4_entry_18 C hp hf hs (lv_sub hl [0, 1] rfl)
  · replace hf := cb_ifn cn hf
    refine lv_iload_n hx hb dX4_entry_4 rfl (lv_at hl 1 rfl) ?_
    refine lv_aload_n hx hb dX4_entry_5 rfl (lv_at hl 0 rfl) ?_
    refine gf_X4_43 C hs hp.1 dX4_entry_6 ?_
    refine lv_icmp_ge (tgt := 18) hx hb dX4_entry_9 (by decide) (fun cn => ?_) (fun cn => ?_)
    · replace hf := cb_ifp cn hf
      exact w_X4_entry_18 C hp hf hs (lv_sub hl [0, 1] rfl)
    · replace hf := cb_ifn cn hf
      refine lv_iload_n hx hb dX4_entry_12 rfl (lv_at hl 1 rfl) ?_
      refine lv_bipush (v := 24) hx hb dX4_entry_13 (by decide) ?_
      refine lv_icmp_lt (tgt := 22) hx hb dX4_entry_15 (by decide) (fun cn => ?_) (fun cn => ?_)
      · replace hf := cb_ifp cn hf
        refine lv_aload_n hx hb dX4_entry_22 rfl (lv_at hl 0 rfl) ?_
        refine gf_X4_21 C hs hp.1 dX4_entry_23 ?_
        refine lv_iload_n hx hb dX4_entry_26 rfl (lv_at hl 1 rfl) ?_
        obtain ⟨hc, hf⟩ := cb_ck_inv hf
        refine cb_iald C hs hp.2.2.2.2 (vp_in_iff.mpr hc) dX4_entry_27 ?_
        have hf := Option.some.inj hf
        subst hf
        exact cb_reti C hs dX4_entry_28
      · replace hf := cb_ifn cn hf
        exact w_X4_entry_18 C hp hf hs (lv_sub hl [0, 1] rfl)
/-! ===== CardBecome$Play.firstCardIn ===== -/
def f_X4_firstCardIn (x0 : Int32) (σ : cb_St)  : Option (Int32) := some (((x0 >>> (8 &&& 31)) &&& 15) - 1)
set_option maxHeartbeats 4000000 in
set_option maxRecDepth 100000 in
theorem c_X4_firstCardIn {x0 : Int32} {σ : cb_St}   {o : Int32} (hf : f_X4_firstCardIn x0 σ = some o) : cb_M l yX4_firstCardIn cX4_firstCardIn 1 (some .int) 1 shC A T D σ [.int x0] (some (.int o)) σ := by
  refine cb_met (by decide +kernel) (Nat.le_of_ble_eq_true rfl) ?_
  intro p e s m below meth c C hs ls hl
  have hl : lv_has ls 1 [(0, .int x0)] := hl
  obtain ⟨hx, hb, hml, hr, hown, hts, hK, hlk, hN⟩ := id C
  unfold f_X4_firstCardIn at hf
  refine lv_iload_n hx hb dX4_firstCardIn_0 rfl (lv_at hl 0 rfl) ?_
  refine lv_bipush (v := 8) hx hb dX4_firstCardIn_1 (by decide) ?_
  refine lv_ishr hx hb dX4_firstCardIn_3 ?_
  refine lv_bipush (v := 15) hx hb dX4_firstCardIn_4 (by decide) ?_
  refine lv_iand hx hb dX4_firstCardIn_6 ?_
  refine lv_iconst (v := 1) hx hb dX4_firstCardIn_7 (by decide) ?_
  refine lv_isub hx hb dX4_firstCardIn_8 ?_
  have hf := Option.some.inj hf
  subst hf
  exact cb_reti C hs dX4_firstCardIn_9
/-! ===== CardBecome$Play.firstIn ===== -/
def f_X4_firstIn (x0 : Int32) (σ : cb_St)  : Option (Int32) := some (x0 &&& 15)
set_option maxHeartbeats 4000000 in
set_option maxRecDepth 100000 in
theorem c_X4_firstIn {x0 : Int32} {σ : cb_St}   {o : Int32} (hf : f_X4_firstIn x0 σ = some o) : cb_M l yX4_firstIn cX4_firstIn 1 (some .int) 1 shC A T D σ [.int x0] (some (.int o)) σ := by
  refine cb_met (by decide +kernel) (Nat.le_of_ble_eq_true rfl) ?_
  intro p e s m below meth c C hs ls hl
  have hl : lv_has ls 1 [(0, .int x0)] := hl
  obtain ⟨hx, hb, hml, hr, hown, hts, hK, hlk, hN⟩ := id C
  unfold f_X4_firstIn at hf
  refine lv_iload_n hx hb dX4_firstIn_0 rfl (lv_at hl 0 rfl) ?_
  refine lv_bipush (v := 15) hx hb dX4_firstIn_1 (by decide) ?_
  refine lv_iand hx hb dX4_firstIn_3 ?_
  have hf := Option.some.inj hf
  subst hf
  exact cb_reti C hs dX4_firstIn_4
/-! ===== CardBecome$Play.layDown ===== -/
def f_X4_layDown_20 (k : Nat) (x1 : Int32) (σ : cb_St) (x2 : Int32) : Option (Int32 × cb_St) := some (x2, σ)
set_option maxHeartbeats 4000000 in
set_option maxRecDepth 100000 in
theorem w_X4_layDown_20 (C : cb_C p s m args meth c cX4_layDown 3 (some .int) RX4 D T) {k : Nat} {x1 : Int32} {o : Int32 × cb_St} (hp : cb_pl k) {σ : cb_St} {x2 : Int32} (hf : f_X4_layDown_20 k x1 σ x2 = some o) {H : Heap} {locs : List Loc} {ls : Array Slot} (hs : cb_H shC A T D σ s.heap H locs) (hl : lv_has ls 3 [(0, .ref (A k)), (1, .int x1), (2, .int x2)]) : cb_W p l e 3 s m args below meth c shC A T D (some (.int o.1)) o.2 H locs (F0 m 20 ls []) := by
  obtain ⟨hx, hb, hml, hr, hown, hts, hK, hlk, hN⟩ := id C
  unfold f_X4_layDown_20 at hf
  refine lv_iload_n hx hb dX4_layDown_20 rfl (lv_at hl 2 rfl) ?_
  have hf := Option.some.inj hf
  subst hf
  exact cb_reti C hs dX4_layDown_21
def f_X4_layDown (k : Nat) (x1 : Int32) (σ : cb_St) : Option (Int32 × cb_St) := cb_bp (f_X4_cardOf k x1 σ) (fun r_1 => cb_bp (f_X4_isPerson x1 σ) (fun r_2 => if r_2 = 0 then (f_X4_layDown_20 k x1 σ r_1) else (cb_ck (0 ≤ Int32.toInt x1 ∧ Int32.toInt x1 < 6) (cb_let (cb_sI σ (k + 2) (Int32.toNatClampNeg x1) (-1)) (fun σ_3 => f_X4_layDown_20 k x1 σ_3 r_1)))))
set_option maxHeartbeats 4000000 in
set_option maxRecDepth 100000 in
theorem c_X4_layDown {k : Nat} {x1 : Int32} (hp : cb_pl k) {σ : cb_St} {o : Int32 × cb_St} (hf : f_X4_layDown k x1 σ = some o) : cb_M l yX4_layDown cX4_layDown 3 (some .int) 3 shC A T D σ [.ref (A k), .int x1] (some (.int o.1)) o.2 := by
  refine cb_met (by decide +kernel) (Nat.le_of_ble_eq_true rfl) ?_
  intro p e s m below meth c C hs ls hl
  have hl : lv_has ls 3 [(0, .ref (A k)), (1, .int x1)] := hl
  obtain ⟨hx, hb, hml, hr, hown, hts, hK, hlk, hN⟩ := id C
  unfold f_X4_layDown at hf
  refine lv_aload_n hx hb dX4_layDown_0 rfl (lv_at hl 0 rfl) ?_
  refine lv_iload_n hx hb dX4_layDown_1 rfl (lv_at hl 1 rfl) ?_
  obtain ⟨r_1, hc, hf⟩ := cb_bp_inv hf
  refine cb_callVi C (c_X4_cardOf hp hc) mw_X4_cardOf ml_X4_74 rfl ⟨Nat.le_of_ble_eq_true rfl, Nat.le_of_ble_eq_true rfl⟩ hp.1 (Nat.le_of_ble_eq_true rfl) rfl hs hl rfl (Nat.le_of_ble_eq_true rfl) dX4_layDown_2 (fun H locs hs => ?_)
  clear hc
  refine lv_istore_n (lv' := [(2, .int r_1), (0, .ref (A k)), (1, .int x1)]) hx hb dX4_layDown_5 rfl hl (by decide) rfl (fun ls hl => ?_)
  refine lv_iload_n hx hb dX4_layDown_6 rfl (lv_at hl 2 rfl) ?_
  obtain ⟨r_2, hc, hf⟩ := cb_bp_inv hf
  refine cb_callSi C (c_X4_isPerson  hc) mw_X4_isPerson ml_X4_52 rfl ⟨Nat.le_of_ble_eq_true rfl, Nat.le_of_ble_eq_true rfl⟩ hs hl rfl (Nat.le_of_ble_eq_true rfl) dX4_layDown_7 (fun H locs hs => ?_)
  clear hc
  refine lv_if_eq (tgt := 20) hx hb dX4_layDown_10 (by decide) (fun cn => ?_) (fun cn => ?_)
  · replace hf := cb_ifp cn hf
    exact w_X4_layDown_20 C hp hf hs (lv_sub hl [1, 2, 0] rfl)
  · replace hf := cb_ifn cn hf
    refine lv_aload_n hx hb dX4_layDown_13 rfl (lv_at hl 1 rfl) ?_
    refine gf_X4_15 C hs hp.1 dX4_layDown_14 ?_
    refine lv_iload_n hx hb dX4_layDown_17 rfl (lv_at hl 2 rfl) ?_
    refine lv_iconst (v := (-1)) hx hb dX4_layDown_18 (by decide) ?_
    obtain ⟨hc, hf⟩ := cb_ck_inv hf
    refine cb_iast C hs hp.2.2.1 (vp_in_iff.mpr hc) dX4_layDown_19 (fun H locs hs => ?_)
    obtain ⟨σ_3, e9, hf⟩ := cb_let_inv hf
    replace hs := cb_Hc e9 hs
    clear e9
    exact w_X4_layDown_20 C hp hf hs (lv_sub hl [1, 2, 0] rfl)
/-! ===== CardBecome$Play.putBelow ===== -/
def f_X4_putBelow (k : Nat) (x1 : Int32) (σ : cb_St) : Option (cb_St) := if (σ.1 k 0) < 0 then (some σ) else (if 12 ≤ (σ.1 k 0) then (some σ) else (cb_ck (0 ≤ Int32.toInt (σ.1 k 0) ∧ Int32.toInt (σ.1 k 0) < 12) (cb_let (cb_sI σ (k + 1) (Int32.toNatClampNeg (σ.1 k 0)) x1) (fun σ_1 => cb_let (cb_sI σ_1 k 0 ((σ_1.1 k 0) + 1)) (fun σ_2 => some σ_2)))))
set_option maxHeartbeats 4000000 in
set_option maxRecDepth 100000 in
theorem c_X4_putBelow {k : Nat} {x1 : Int32} (hp : cb_pl k) {σ : cb_St} {o : cb_St} (hf : f_X4_putBelow k x1 σ = some o) : cb_M l yX4_putBelow cX4_putBelow 2 none 1 shC A T D σ [.ref (A k), .int x1] none o := by
  refine cb_met (by decide +kernel) (Nat.le_of_ble_eq_true rfl) ?_
  intro p e s m below meth c C hs ls hl
  have hl : lv_has ls 2 [(0, .ref (A k)), (1, .int x1)] := hl
  obtain ⟨hx, hb, hml, hr, hown, hts, hK, hlk, hN⟩ := id C
  unfold f_X4_putBelow at hf
  refine lv_aload_n hx hb dX4_putBelow_0 rfl (lv_at hl 0 rfl) ?_
  refine gf_X4_36 C hs hp.1 dX4_putBelow_1 ?_
  refine lv_if_lt (tgt := 36) hx hb dX4_putBelow_4 (by decide) (fun cn => ?_) (fun cn => ?_)
  · replace hf := cb_ifp cn hf
    have hf := Option.some.inj hf
    subst hf
    exact cb_retv C hs dX4_putBelow_36
  · replace hf := cb_ifn cn hf
    refine lv_aload_n hx hb dX4_putBelow_7 rfl (lv_at hl 0 rfl) ?_
    refine gf_X4_36 C hs hp.1 dX4_putBelow_8 ?_
    refine lv_bipush (v := 12) hx hb dX4_putBelow_11 (by decide) ?_
    refine lv_icmp_ge (tgt := 36) hx hb dX4_putBelow_13 (by decide) (fun cn => ?_) (fun cn => ?_)
    · replace hf := cb_ifp cn hf
      have hf := Option.some.inj hf
      subst hf
      exact cb_retv C hs dX4_putBelow_36
    · replace hf := cb_ifn cn hf
      refine lv_aload_n hx hb dX4_putBelow_16 rfl (lv_at hl 0 rfl) ?_
      refine gf_X4_9 C hs hp.1 dX4_putBelow_17 ?_
      refine lv_aload_n hx hb dX4_putBelow_20 rfl (lv_at hl 0 rfl) ?_
      refine gf_X4_36 C hs hp.1 dX4_putBelow_21 ?_
      refine lv_iload_n hx hb dX4_putBelow_24 rfl (lv_at hl 1 rfl) ?_
      obtain ⟨hc, hf⟩ := cb_ck_inv hf
      refine cb_iast C hs hp.2.1 (vp_in_iff.mpr hc) dX4_putBelow_25 (fun H locs hs => ?_)
      obtain ⟨σ_1, e9, hf⟩ := cb_let_inv hf
      replace hs := cb_Hc e9 hs
      clear e9
      refine lv_aload_n hx hb dX4_putBelow_26 rfl (lv_at hl 0 rfl) ?_
      refine lv_dup hx hb dX4_putBelow_27 rfl ?_
      refine gf_X4_36 C hs hp.1 dX4_putBelow_28 ?_
      refine lv_iconst (v := 1) hx hb dX4_putBelow_31 (by decide) ?_
      refine lv_iadd hx hb dX4_putBelow_32 ?_
      refine pf_X4_36 C hs hp.1 dX4_putBelow_33 (fun H locs hs => ?_)
      obtain ⟨σ_2, e9, hf⟩ := cb_let_inv hf
      replace hs := cb_Hc e9 hs
      clear e9
      have hf := Option.some.inj hf
      subst hf
      exact cb_retv C hs dX4_putBelow_36
/-! ===== CardBecome$Play.giveBack ===== -/
def f_X4_giveBack_16 (k : Nat) (x1 : Int32) (σ : cb_St) (x2 : Int32) : Option (Int32 × cb_St) := some (x2, σ)
set_option maxHeartbeats 4000000 in
set_option maxRecDepth 100000 in
theorem w_X4_giveBack_16 (C : cb_C p s m args meth c cX4_giveBack 3 (some .int) RX4 D T) {k : Nat} {x1 : Int32} {o : Int32 × cb_St} (hp : cb_pl k) {σ : cb_St} {x2 : Int32} (hf : f_X4_giveBack_16 k x1 σ x2 = some o) {H : Heap} {locs : List Loc} {ls : Array Slot} (hs : cb_H shC A T D σ s.heap H locs) (hl : lv_has ls 3 [(0, .ref (A k)), (1, .int x1), (2, .int x2)]) : cb_W p l e 4 s m args below meth c shC A T D (some (.int o.1)) o.2 H locs (F0 m 16 ls []) := by
  obtain ⟨hx, hb, hml, hr, hown, hts, hK, hlk, hN⟩ := id C
  unfold f_X4_giveBack_16 at hf
  refine lv_iload_n hx hb dX4_giveBack_16 rfl (lv_at hl 2 rfl) ?_
  have hf := Option.some.inj hf
  subst hf
  exact cb_reti C hs dX4_giveBack_17
def f_X4_giveBack (k : Nat) (x1 : Int32) (σ : cb_St) : Option (Int32 × cb_St) := cb_bi (f_X4_layDown k x1 σ) (fun r_1 σ_2 => if r_1 = (-1) then (f_X4_giveBack_16 k x1 σ_2 r_1) else (cb_bv (f_X4_putBelow k r_1 σ_2) (fun σ_3 => f_X4_giveBack_16 k x1 σ_3 r_1)))
set_option maxHeartbeats 4000000 in
set_option maxRecDepth 100000 in
theorem c_X4_giveBack {k : Nat} {x1 : Int32} (hp : cb_pl k) {σ : cb_St} {o : Int32 × cb_St} (hf : f_X4_giveBack k x1 σ = some o) : cb_M l yX4_giveBack cX4_giveBack 3 (some .int) 4 shC A T D σ [.ref (A k), .int x1] (some (.int o.1)) o.2 := by
  refine cb_met (by decide +kernel) (Nat.le_of_ble_eq_true rfl) ?_
  intro p e s m below meth c C hs ls hl
  have hl : lv_has ls 3 [(0, .ref (A k)), (1, .int x1)] := hl
  obtain ⟨hx, hb, hml, hr, hown, hts, hK, hlk, hN⟩ := id C
  unfold f_X4_giveBack at hf
  refine lv_aload_n hx hb dX4_giveBack_0 rfl (lv_at hl 0 rfl) ?_
  refine lv_iload_n hx hb dX4_giveBack_1 rfl (lv_at hl 1 rfl) ?_
  obtain ⟨r_1, σ_2, hc, hf⟩ := cb_bi_inv hf
  refine cb_callVi C (c_X4_layDown hp hc) mw_X4_layDown ml_X4_63 rfl ⟨Nat.le_of_ble_eq_true rfl, Nat.le_of_ble_eq_true rfl⟩ hp.1 (Nat.le_of_ble_eq_true rfl) rfl hs hl rfl (Nat.le_of_ble_eq_true rfl) dX4_giveBack_2 (fun H locs hs => ?_)
  clear hc
  refine lv_istore_n (lv' := [(2, .int r_1), (0, .ref (A k)), (1, .int x1)]) hx hb dX4_giveBack_5 rfl hl (by decide) rfl (fun ls hl => ?_)
  refine lv_iload_n hx hb dX4_giveBack_6 rfl (lv_at hl 0 rfl) ?_
  refine lv_iconst (v := (-1)) hx hb dX4_giveBack_7 (by decide) ?_
  refine lv_icmp_eq (tgt := 16) hx hb dX4_giveBack_8 (by decide) (fun cn => ?_) (fun cn => ?_)
  · replace hf := cb_ifp cn hf
    exact w_X4_giveBack_16 C hp hf hs (lv_sub hl [1, 2, 0] rfl)
  · replace hf := cb_ifn cn hf
    refine lv_aload_n hx hb dX4_giveBack_11 rfl (lv_at hl 1 rfl) ?_
    refine lv_iload_n hx hb dX4_giveBack_12 rfl (lv_at hl 0 rfl) ?_
    obtain ⟨σ_3, hc, hf⟩ := cb_bv_inv hf
    refine cb_callVv C (c_X4_putBelow hp hc) mw_X4_putBelow ml_X4_66 rfl ⟨Nat.le_of_ble_eq_true rfl, Nat.le_of_ble_eq_true rfl⟩ hp.1 (Nat.le_of_ble_eq_true rfl) rfl hs hl rfl (Nat.le_of_ble_eq_true rfl) dX4_giveBack_13 (fun H locs hs => ?_)
    clear hc
    exact w_X4_giveBack_16 C hp hf hs (lv_sub hl [1, 2, 0] rfl)
/-! ===== CardBecome$Play.holderOf ===== -/
def f_X4_holderOf_2 (k : Nat) (x1 : Int32) (σ : cb_St) : Nat → Int32 → Option (Int32)
  | 0, _ => none
  | fu + 1, x2 => if 6 ≤ x2 then (some (-1)) else (cb_ck (0 ≤ Int32.toInt x2 ∧ Int32.toInt x2 < 6) (if (σ.1 (k + 2) (Int32.toNatClampNeg x2)) = x1 then (some x2) else (cb_let (x2 + 1) (fun x2_0 => f_X4_holderOf_2 k x1 σ fu x2_0))))
set_option maxHeartbeats 4000000 in
set_option maxRecDepth 100000 in
theorem w_X4_holderOf_2 (C : cb_C p s m args meth c cX4_holderOf 3 (some .int) RX4 D T) {k : Nat} {x1 : Int32} {σ : cb_St} {o : Int32} (hp : cb_pl k) : ∀ (fu : Nat) (x2 : Int32), f_X4_holderOf_2 k x1 σ fu x2 = some o → ∀ (H : Heap) (locs : List Loc) (ls : Array Slot), cb_H shC A T D σ s.heap H locs → lv_has ls 3 [(0, .ref (A k)), (1, .int x1), (2, .int x2)] → cb_W p l e 1 s m args below meth c shC A T D (some (.int o)) σ H locs (F0 m 2 ls []) := by
  obtain ⟨hx, hb, hml, hr, hown, hts, hK, hlk, hN⟩ := id C
  intro fu
  induction fu with
  | zero =>
    intro x2 hf
    rw [f_X4_holderOf_2] at hf
    cases hf
  | succ fu ih =>
    intro x2 hf H locs ls hs hl
    rw [f_X4_holderOf_2] at hf
    refine lv_iload_n hx hb dX4_holderOf_2 rfl (lv_at hl 2 rfl) ?_
    refine lv_bipush (v := 6) hx hb dX4_holderOf_3 (by decide) ?_
    refine lv_icmp_ge (tgt := 26) hx hb dX4_holderOf_5 (by decide) (fun cn => ?_) (fun cn => ?_)
    · replace hf := cb_ifp cn hf
      refine lv_iconst (v := (-1)) hx hb dX4_holderOf_26 (by decide) ?_
      have hf := Option.some.inj hf
      subst hf
      exact cb_reti C hs dX4_holderOf_27
    · replace hf := cb_ifn cn hf
      refine lv_aload_n hx hb dX4_holderOf_8 rfl (lv_at hl 0 rfl) ?_
      refine gf_X4_15 C hs hp.1 dX4_holderOf_9 ?_
      refine lv_iload_n hx hb dX4_holderOf_12 rfl (lv_at hl 2 rfl) ?_
      obtain ⟨hc, hf⟩ := cb_ck_inv hf
      refine cb_iald C hs hp.2.2.1 (vp_in_iff.mpr hc) dX4_holderOf_13 ?_
      refine lv_iload_n hx hb dX4_holderOf_14 rfl (lv_at hl 1 rfl) ?_
      refine lv_icmp_ne (tgt := 20) hx hb dX4_holderOf_15 (by decide) (fun cn => ?_) (fun cn => ?_)
      · replace hf := cb_ifn cn hf
        obtain ⟨x2_0, e9, hf⟩ := cb_let_inv hf
        refine lv_iinc (v := x2_0) (lv' := [(2, .int x2_0), (0, .ref (A k)), (1, .int x1)]) hx hb dX4_holderOf_20 hl (k := 2) rfl (by rw [e9]; rfl) (by decide) rfl (fun ls hl => ?_)
        clear e9
        refine lv_goto (tgt := 2) hx hb dX4_holderOf_23 (by decide) ?_
        exact ih _ hf _ _ _ hs (lv_sub hl [1, 2, 0] rfl)
      · replace hf := cb_ifp cn hf
        refine lv_iload_n hx hb dX4_holderOf_18 rfl (lv_at hl 2 rfl) ?_
        have hf := Option.some.inj hf
        subst hf
        exact cb_reti C hs dX4_holderOf_19
def f_X4_holderOf (k : Nat) (x1 : Int32) (σ : cb_St)  : Option (Int32) := f_X4_holderOf_2 k x1 σ cb_fu 0
set_option maxHeartbeats 4000000 in
set_option maxRecDepth 100000 in
theorem c_X4_holderOf {k : Nat} {x1 : Int32} {σ : cb_St} (hp : cb_pl k)  {o : Int32} (hf : f_X4_holderOf k x1 σ = some o) : cb_M l yX4_holderOf cX4_holderOf 3 (some .int) 1 shC A T D σ [.ref (A k), .int x1] (some (.int o)) σ := by
  refine cb_met (by decide +kernel) (Nat.le_of_ble_eq_true rfl) ?_
  intro p e s m below meth c C hs ls hl
  have hl : lv_has ls 3 [(0, .ref (A k)), (1, .int x1)] := hl
  obtain ⟨hx, hb, hml, hr, hown, hts, hK, hlk, hN⟩ := id C
  unfold f_X4_holderOf at hf
  refine lv_iconst (v := 0) hx hb dX4_holderOf_0 (by decide) ?_
  refine lv_istore_n (lv' := [(2, .int 0), (0, .ref (A k)), (1, .int x1)]) hx hb dX4_holderOf_1 rfl hl (by decide) rfl (fun ls hl => ?_)
  exact w_X4_holderOf_2 C hp cb_fu _ hf _ _ _ hs (lv_sub hl [1, 2, 0] rfl)
/-! ===== CardBecome$Play.holders ===== -/
def f_X4_holders_26 (K4 : Int32 → Int32 → Option (Int32)) (k : Nat) (σ : cb_St) (x1 : Int32) (x2 : Int32) : Option (Int32) := cb_let (x2 + 1) (fun x2_0 => K4 x1 x2_0)
set_option maxHeartbeats 4000000 in
set_option maxRecDepth 100000 in
theorem w_X4_holders_26 (C : cb_C p s m args meth c cX4_holders 3 (some .int) RX4 D T) {K4 : Int32 → Int32 → Option (Int32)} {k : Nat} {σ : cb_St} {o : Int32} (hK4 : ∀ (x1 : Int32) (x2 : Int32), K4 x1 x2 = some o → ∀ (H : Heap) (locs : List Loc) (ls : Array Slot), cb_H shC A T D σ s.heap H locs → lv_has ls 3 [(0, .ref (A k)), (1, .int x1), (2, .int x2)] → cb_W p l e 1 s m args below meth c shC A T D (some (.int o)) σ H locs (F0 m 4 ls [])) (hp : cb_pl k) {x1 : Int32} {x2 : Int32} (hf : f_X4_holders_26 K4 k σ x1 x2 = some o) {H : Heap} {locs : List Loc} {ls : Array Slot} (hs : cb_H shC A T D σ s.heap H locs) (hl : lv_has ls 3 [(0, .ref (A k)), (1, .int x1), (2, .int x2)]) : cb_W p l e 1 s m args below meth c shC A T D (some (.int o)) σ H locs (F0 m 26 ls []) := by
  obtain ⟨hx, hb, hml, hr, hown, hts, hK, hlk, hN⟩ := id C
  unfold f_X4_holders_26 at hf
  obtain ⟨x2_0, e9, hf⟩ := cb_let_inv hf
  refine lv_iinc (v := x2_0) (lv' := [(2, .int x2_0), (0, .ref (A k)), (1, .int x1)]) hx hb dX4_holders_26 hl (k := 2) rfl (by rw [e9]; rfl) (by decide) rfl (fun ls hl => ?_)
  clear e9
  refine lv_goto (tgt := 4) hx hb dX4_holders_29 (by decide) ?_
  exact hK4 _ _ hf _ _ _ hs (lv_sub hl [1, 2, 0] rfl)
def f_X4_holders_4 (k : Nat) (σ : cb_St) : Nat → Int32 → Int32 → Option (Int32)
  | 0, _, _ => none
  | fu + 1, x1, x2 => if 6 ≤ x2 then (some x1) else (cb_ck (0 ≤ Int32.toInt x2 ∧ Int32.toInt x2 < 6) (if (σ.1 (k + 2) (Int32.toNatClampNeg x2)) = (-1) then (f_X4_holders_26 (f_X4_holders_4 k σ fu) k σ x1 x2) else (cb_let (x1 ||| (1 <<< (x2 &&& 31))) (fun x1_0 => f_X4_holders_26 (f_X4_holders_4 k σ fu) k σ x1_0 x2))))
set_option maxHeartbeats 4000000 in
set_option maxRecDepth 100000 in
theorem w_X4_holders_4 (C : cb_C p s m args meth c cX4_holders 3 (some .int) RX4 D T) {k : Nat} {σ : cb_St} {o : Int32} (hp : cb_pl k) : ∀ (fu : Nat) (x1 : Int32) (x2 : Int32), f_X4_holders_4 k σ fu x1 x2 = some o → ∀ (H : Heap) (locs : List Loc) (ls : Array Slot), cb_H shC A T D σ s.heap H locs → lv_has ls 3 [(0, .ref (A k)), (1, .int x1), (2, .int x2)] → cb_W p l e 1 s m args below meth c shC A T D (some (.int o)) σ H locs (F0 m 4 ls []) := by
  obtain ⟨hx, hb, hml, hr, hown, hts, hK, hlk, hN⟩ := id C
  intro fu
  induction fu with
  | zero =>
    intro x1 x2 hf
    rw [f_X4_holders_4] at hf
    cases hf
  | succ fu ih =>
    intro x1 x2 hf H locs ls hs hl
    rw [f_X4_holders_4] at hf
    refine lv_iload_n hx hb dX4_holders_4 rfl (lv_at hl 2 rfl) ?_
    refine lv_bipush (v := 6) hx hb dX4_holders_5 (by decide) ?_
    refine lv_icmp_ge (tgt := 32) hx hb dX4_holders_7 (by decide) (fun cn => ?_) (fun cn => ?_)
    · replace hf := cb_ifp cn hf
      refine lv_iload_n hx hb dX4_holders_32 rfl (lv_at hl 1 rfl) ?_
      have hf := Option.some.inj hf
      subst hf
      exact cb_reti C hs dX4_holders_33
    · replace hf := cb_ifn cn hf
      refine lv_aload_n hx hb dX4_holders_10 rfl (lv_at hl 0 rfl) ?_
      refine gf_X4_15 C hs hp.1 dX4_holders_11 ?_
      refine lv_iload_n hx hb dX4_holders_14 rfl (lv_at hl 2 rfl) ?_
      obtain ⟨hc, hf⟩ := cb_ck_inv hf
      refine cb_iald C hs hp.2.2.1 (vp_in_iff.mpr hc) dX4_holders_15 ?_
      refine lv_iconst (v := (-1)) hx hb dX4_holders_16 (by decide) ?_
      refine lv_icmp_eq (tgt := 26) hx hb dX4_holders_17 (by decide) (fun cn => ?_) (fun cn => ?_)
      · replace hf := cb_ifp cn hf
        exact w_X4_holders_26 C ih hp hf hs (lv_sub hl [0, 1, 2] rfl)
      · replace hf := cb_ifn cn hf
        refine lv_iload_n hx hb dX4_holders_20 rfl (lv_at hl 1 rfl) ?_
        refine lv_iconst (v := 1) hx hb dX4_holders_21 (by decide) ?_
        refine lv_iload_n hx hb dX4_holders_22 rfl (lv_at hl 2 rfl) ?_
        refine lv_ishl hx hb dX4_holders_23 ?_
        refine lv_ior hx hb dX4_holders_24 ?_
        obtain ⟨x1_0, e9, hf⟩ := cb_let_inv hf
        refine cb_topi e9 ?_
        clear e9
        refine lv_istore_n (lv' := [(1, .int x1_0), (0, .ref (A k)), (2, .int x2)]) hx hb dX4_holders_25 rfl hl (by decide) rfl (fun ls hl => ?_)
        exact w_X4_holders_26 C ih hp hf hs (lv_sub hl [1, 0, 2] rfl)
def f_X4_holders (k : Nat) (σ : cb_St)  : Option (Int32) := f_X4_holders_4 k σ cb_fu 0 0
set_option maxHeartbeats 4000000 in
set_option maxRecDepth 100000 in
theorem c_X4_holders {k : Nat} {σ : cb_St} (hp : cb_pl k)  {o : Int32} (hf : f_X4_holders k σ = some o) : cb_M l yX4_holders cX4_holders 3 (some .int) 1 shC A T D σ [.ref (A k)] (some (.int o)) σ := by
  refine cb_met (by decide +kernel) (Nat.le_of_ble_eq_true rfl) ?_
  intro p e s m below meth c C hs ls hl
  have hl : lv_has ls 3 [(0, .ref (A k))] := hl
  obtain ⟨hx, hb, hml, hr, hown, hts, hK, hlk, hN⟩ := id C
  unfold f_X4_holders at hf
  refine lv_iconst (v := 0) hx hb dX4_holders_0 (by decide) ?_
  refine lv_istore_n (lv' := [(1, .int 0), (0, .ref (A k))]) hx hb dX4_holders_1 rfl hl (by decide) rfl (fun ls hl => ?_)
  refine lv_iconst (v := 0) hx hb dX4_holders_2 (by decide) ?_
  refine lv_istore_n (lv' := [(2, .int 0), (1, .int 0), (0, .ref (A k))]) hx hb dX4_holders_3 rfl hl (by decide) rfl (fun ls hl => ?_)
  exact w_X4_holders_4 C hp cb_fu _ _ hf _ _ _ hs (lv_sub hl [2, 1, 0] rfl)
/-! ===== CardBecome.placeAfter ===== -/
def f_X7_placeAfter (x0 : Int32) (x1 : Int32) (x2 : Int32) (σ : cb_St)  : Option (Int32) := if x0 = 0 then (cb_let (x2 / 2) (fun x3_0 => if x3_0 ≤ x1 then (some (2 * (x1 - x3_0))) else (some ((2 * x1) + 1)))) else (if x0 = 1 then (some ((x2 - 1) - x1)) else (if x1 = 0 then (some (x2 - 1)) else (some (x1 - 1))))
set_option maxHeartbeats 4000000 in
set_option maxRecDepth 100000 in
theorem c_X7_placeAfter {x0 : Int32} {x1 : Int32} {x2 : Int32} {σ : cb_St}   {o : Int32} (hf : f_X7_placeAfter x0 x1 x2 σ = some o) : cb_M l yX7_placeAfter cX7_placeAfter 4 (some .int) 1 shC A T D σ [.int x0, .int x1, .int x2] (some (.int o)) σ := by
  refine cb_met (by decide +kernel) (Nat.le_of_ble_eq_true rfl) ?_
  intro p e s m below meth c C hs ls hl
  have hl : lv_has ls 4 [(0, .int x0), (1, .int x1), (2, .int x2)] := hl
  obtain ⟨hx, hb, hml, hr, hown, hts, hK, hlk, hN⟩ := id C
  unfold f_X7_placeAfter at hf
  refine lv_iload_n hx hb dX7_placeAfter_0 rfl (lv_at hl 0 rfl) ?_
  refine lv_if_ne (tgt := 27) hx hb dX7_placeAfter_1 (by decide) (fun cn => ?_) (fun cn => ?_)
  · replace hf := cb_ifn cn hf
    refine lv_iload_n hx hb dX7_placeAfter_27 rfl (lv_at hl 0 rfl) ?_
    refine lv_iconst (v := 1) hx hb dX7_placeAfter_28 (by decide) ?_
    refine lv_icmp_ne (tgt := 38) hx hb dX7_placeAfter_29 (by decide) (fun cn => ?_) (fun cn => ?_)
    · replace hf := cb_ifn cn hf
      refine lv_iload_n hx hb dX7_placeAfter_38 rfl (lv_at hl 1 rfl) ?_
      refine lv_if_ne (tgt := 48) hx hb dX7_placeAfter_39 (by decide) (fun cn => ?_) (fun cn => ?_)
      · replace hf := cb_ifn cn hf
        refine lv_iload_n hx hb dX7_placeAfter_48 rfl (lv_at hl 1 rfl) ?_
        refine lv_iconst (v := 1) hx hb dX7_placeAfter_49 (by decide) ?_
        refine lv_isub hx hb dX7_placeAfter_50 ?_
        have hf := Option.some.inj hf
        subst hf
        exact cb_reti C hs dX7_placeAfter_51
      · replace hf := cb_ifp cn hf
        refine lv_iload_n hx hb dX7_placeAfter_42 rfl (lv_at hl 2 rfl) ?_
        refine lv_iconst (v := 1) hx hb dX7_placeAfter_43 (by decide) ?_
        refine lv_isub hx hb dX7_placeAfter_44 ?_
        refine lv_goto (tgt := 51) hx hb dX7_placeAfter_45 (by decide) ?_
        have hf := Option.some.inj hf
        subst hf
        exact cb_reti C hs dX7_placeAfter_51
    · replace hf := cb_ifp cn hf
      refine lv_iload_n hx hb dX7_placeAfter_32 rfl (lv_at hl 2 rfl) ?_
      refine lv_iconst (v := 1) hx hb dX7_placeAfter_33 (by decide) ?_
      refine lv_isub hx hb dX7_placeAfter_34 ?_
      refine lv_iload_n hx hb dX7_placeAfter_35 rfl (lv_at hl 1 rfl) ?_
      refine lv_isub hx hb dX7_placeAfter_36 ?_
      have hf := Option.some.inj hf
      subst hf
      exact cb_reti C hs dX7_placeAfter_37
  · replace hf := cb_ifp cn hf
    refine lv_iload_n hx hb dX7_placeAfter_4 rfl (lv_at hl 2 rfl) ?_
    refine lv_iconst (v := 2) hx hb dX7_placeAfter_5 (by decide) ?_
    refine lv_idiv hx hb dX7_placeAfter_6 (by decide) ?_
    obtain ⟨x3_0, e9, hf⟩ := cb_let_inv hf
    refine cb_topi e9 ?_
    clear e9
    refine lv_istore_n (lv' := [(3, .int x3_0), (0, .int x0), (1, .int x1), (2, .int x2)]) hx hb dX7_placeAfter_7 rfl hl (by decide) rfl (fun ls hl => ?_)
    refine lv_iload_n hx hb dX7_placeAfter_8 rfl (lv_at hl 2 rfl) ?_
    refine lv_iload_n hx hb dX7_placeAfter_9 rfl (lv_at hl 0 rfl) ?_
    refine lv_icmp_ge (tgt := 21) hx hb dX7_placeAfter_10 (by decide) (fun cn => ?_) (fun cn => ?_)
    · replace hf := cb_ifp cn hf
      refine lv_iconst (v := 2) hx hb dX7_placeAfter_21 (by decide) ?_
      refine lv_iload_n hx hb dX7_placeAfter_22 rfl (lv_at hl 2 rfl) ?_
      refine lv_iload_n hx hb dX7_placeAfter_23 rfl (lv_at hl 0 rfl) ?_
      refine lv_isub hx hb dX7_placeAfter_24 ?_
      refine lv_imul hx hb dX7_placeAfter_25 ?_
      have hf := Option.some.inj hf
      subst hf
      exact cb_reti C hs dX7_placeAfter_26
    · replace hf := cb_ifn cn hf
      refine lv_iconst (v := 2) hx hb dX7_placeAfter_13 (by decide) ?_
      refine lv_iload_n hx hb dX7_placeAfter_14 rfl (lv_at hl 2 rfl) ?_
      refine lv_imul hx hb dX7_placeAfter_15 ?_
      refine lv_iconst (v := 1) hx hb dX7_placeAfter_16 (by decide) ?_
      refine lv_iadd hx hb dX7_placeAfter_17 ?_
      refine lv_goto (tgt := 26) hx hb dX7_placeAfter_18 (by decide) ?_
      have hf := Option.some.inj hf
      subst hf
      exact cb_reti C hs dX7_placeAfter_26
/-! ===== CardBecome$Play.mix ===== -/
def f_X4_mix_71 (K28 : cb_St → Int32 → Option (cb_St)) (k : Nat) (x1 : Int32) (σ : cb_St) (x3 : Int32) : Option (cb_St) := cb_let (x3 + 1) (fun x3_0 => K28 σ x3_0)
set_option maxHeartbeats 4000000 in
set_option maxRecDepth 100000 in
theorem w_X4_mix_71 (C : cb_C p s m args meth c cX4_mix 5 none RX4 D T) {K28 : cb_St → Int32 → Option (cb_St)} {k : Nat} {x1 : Int32} {o : cb_St} (hK28 : ∀ (σ : cb_St) (x3 : Int32), K28 σ x3 = some o → ∀ (H : Heap) (locs : List Loc) (ls : Array Slot), cb_H shC A T D σ s.heap H locs → lv_has ls 5 [(0, .ref (A k)), (1, .int x1), (2, .ref (A 2)), (3, .int x3)] → cb_W p l e 2 s m args below meth c shC A T D none o H locs (F0 m 28 ls [])) (hp : cb_pl k) {σ : cb_St} {x3 : Int32} (hf : f_X4_mix_71 K28 k x1 σ x3 = some o) {H : Heap} {locs : List Loc} {ls : Array Slot} (hs : cb_H shC A T D σ s.heap H locs) (hl : lv_has ls 5 [(0, .ref (A k)), (1, .int x1), (2, .ref (A 2)), (3, .int x3)]) : cb_W p l e 2 s m args below meth c shC A T D none o H locs (F0 m 71 ls []) := by
  obtain ⟨hx, hb, hml, hr, hown, hts, hK, hlk, hN⟩ := id C
  unfold f_X4_mix_71 at hf
  obtain ⟨x3_0, e9, hf⟩ := cb_let_inv hf
  refine lv_iinc (v := x3_0) (lv' := [(3, .int x3_0), (0, .ref (A k)), (1, .int x1), (2, .ref (A 2))]) hx hb dX4_mix_71 hl (k := 3) rfl (by rw [e9]; rfl) (by decide) rfl (fun ls hl => ?_)
  clear e9
  refine lv_goto (tgt := 28) hx hb dX4_mix_74 (by decide) ?_
  exact hK28 _ _ hf _ _ _ hs (lv_sub hl [1, 2, 3, 0] rfl)
def f_X4_mix_28 (k : Nat) (x1 : Int32) : Nat → cb_St → Int32 → Option (cb_St)
  | 0, _, _ => none
  | fu + 1, σ, x3 => if (σ.1 k 0) ≤ x3 then (cb_ck (0 ≤ (0 : Int32) ∧ 0 ≤ (0 : Int32) ∧ 0 ≤ (σ.1 k 0) ∧ Int32.toNatClampNeg 0 + Int32.toNatClampNeg (σ.1 k 0) ≤ 12 ∧ Int32.toNatClampNeg 0 + Int32.toNatClampNeg (σ.1 k 0) ≤ 12) (cb_let (cb_sA σ (k + 1) (va_cpy (σ.1 2) (σ.1 (k + 1)) (Int32.toNatClampNeg 0) (Int32.toNatClampNeg 0) (Int32.toNatClampNeg (σ.1 k 0)))) (fun σ_1 => some σ_1))) else (cb_bp (f_X7_placeAfter x1 x3 (σ.1 k 0) σ) (fun r_2 => if r_2 < 0 then (f_X4_mix_71 (f_X4_mix_28 k x1 fu) k x1 σ x3) else (if (σ.1 k 0) ≤ r_2 then (f_X4_mix_71 (f_X4_mix_28 k x1 fu) k x1 σ x3) else (cb_ck (0 ≤ Int32.toInt x3 ∧ Int32.toInt x3 < 12) (cb_ck (0 ≤ Int32.toInt r_2 ∧ Int32.toInt r_2 < 12) (cb_let (cb_sI σ 2 (Int32.toNatClampNeg r_2) (σ.1 (k + 1) (Int32.toNatClampNeg x3))) (fun σ_3 => f_X4_mix_71 (f_X4_mix_28 k x1 fu) k x1 σ_3 x3)))))))
set_option maxHeartbeats 4000000 in
set_option maxRecDepth 100000 in
theorem w_X4_mix_28 (C : cb_C p s m args meth c cX4_mix 5 none RX4 D T) {k : Nat} {x1 : Int32} {o : cb_St} (hp : cb_pl k) : ∀ (fu : Nat) (σ : cb_St) (x3 : Int32), f_X4_mix_28 k x1 fu σ x3 = some o → ∀ (H : Heap) (locs : List Loc) (ls : Array Slot), cb_H shC A T D σ s.heap H locs → lv_has ls 5 [(0, .ref (A k)), (1, .int x1), (2, .ref (A 2)), (3, .int x3)] → cb_W p l e 2 s m args below meth c shC A T D none o H locs (F0 m 28 ls []) := by
  obtain ⟨hx, hb, hml, hr, hown, hts, hK, hlk, hN⟩ := id C
  intro fu
  induction fu with
  | zero =>
    intro σ x3 hf
    rw [f_X4_mix_28] at hf
    cases hf
  | succ fu ih =>
    intro σ x3 hf H locs ls hs hl
    rw [f_X4_mix_28] at hf
    refine lv_iload_n hx hb dX4_mix_28 rfl (lv_at hl 3 rfl) ?_
    refine lv_aload_n hx hb dX4_mix_29 rfl (lv_at hl 0 rfl) ?_
    refine gf_X4_36 C hs hp.1 dX4_mix_30 ?_
    refine lv_icmp_ge (tgt := 77) hx hb dX4_mix_33 (by decide) (fun cn => ?_) (fun cn => ?_)
    · replace hf := cb_ifp cn hf
      refine lv_aload_n hx hb dX4_mix_77 rfl (lv_at hl 2 rfl) ?_
      refine lv_iconst (v := 0) hx hb dX4_mix_78 (by decide) ?_
      refine lv_aload_n hx hb dX4_mix_79 rfl (lv_at hl 0 rfl) ?_
      refine gf_X4_9 C hs hp.1 dX4_mix_80 ?_
      refine lv_iconst (v := 0) hx hb dX4_mix_83 (by decide) ?_
      refine lv_aload_n hx hb dX4_mix_84 rfl (lv_at hl 0 rfl) ?_
      refine gf_X4_36 C hs hp.1 dX4_mix_85 ?_
      obtain ⟨⟨g1, g2, g3, g4, g5⟩, hf⟩ := cb_ck_inv hf
      refine cb_copy C hs ml_X4_46 rfl hp.2.1 (Nat.le_of_ble_eq_true rfl) hl g1 g2 g3 g4 g5 mw_copy (Nat.le_of_ble_eq_true rfl) dX4_mix_88 (fun H locs hs => ?_)
      obtain ⟨σ_1, e9, hf⟩ := cb_let_inv hf
      replace hs := cb_Hc e9 hs
      clear e9
      have hf := Option.some.inj hf
      subst hf
      exact cb_retv C hs dX4_mix_91
    · replace hf := cb_ifn cn hf
      refine lv_iload_n hx hb dX4_mix_36 rfl (lv_at hl 1 rfl) ?_
      refine lv_iload_n hx hb dX4_mix_37 rfl (lv_at hl 3 rfl) ?_
      refine lv_aload_n hx hb dX4_mix_38 rfl (lv_at hl 0 rfl) ?_
      refine gf_X4_36 C hs hp.1 dX4_mix_39 ?_
      obtain ⟨r_2, hc, hf⟩ := cb_bp_inv hf
      refine cb_callNi C (c_X7_placeAfter  hc) mw_X7_placeAfter rfl ⟨Nat.le_of_ble_eq_true rfl, Nat.le_of_ble_eq_true rfl⟩ hs hl rfl (Nat.le_of_ble_eq_true rfl) dX4_mix_42 (fun H locs hs => ?_)
      clear hc
      refine lv_istore (lv' := [(4, .int r_2), (0, .ref (A k)), (1, .int x1), (2, .ref (A 2)), (3, .int x3)]) hx hb dX4_mix_45 hl (by decide) rfl (fun ls hl => ?_)
      refine lv_iload hx hb dX4_mix_47 (lv_at hl 0 rfl) ?_
      refine lv_if_lt (tgt := 71) hx hb dX4_mix_49 (by decide) (fun cn => ?_) (fun cn => ?_)
      · replace hf := cb_ifp cn hf
        exact w_X4_mix_71 C ih hp hf hs (lv_sub hl [1, 2, 3, 4] rfl)
      · replace hf := cb_ifn cn hf
        refine lv_iload hx hb dX4_mix_52 (lv_at hl 0 rfl) ?_
        refine lv_aload_n hx hb dX4_mix_54 rfl (lv_at hl 1 rfl) ?_
        refine gf_X4_36 C hs hp.1 dX4_mix_55 ?_
        refine lv_icmp_ge (tgt := 71) hx hb dX4_mix_58 (by decide) (fun cn => ?_) (fun cn => ?_)
        · replace hf := cb_ifp cn hf
          exact w_X4_mix_71 C ih hp hf hs (lv_sub hl [1, 2, 3, 4] rfl)
        · replace hf := cb_ifn cn hf
          refine lv_aload_n hx hb dX4_mix_61 rfl (lv_at hl 3 rfl) ?_
          refine lv_iload hx hb dX4_mix_62 (lv_at hl 0 rfl) ?_
          refine lv_aload_n hx hb dX4_mix_64 rfl (lv_at hl 1 rfl) ?_
          refine gf_X4_9 C hs hp.1 dX4_mix_65 ?_
          refine lv_iload_n hx hb dX4_mix_68 rfl (lv_at hl 4 rfl) ?_
          obtain ⟨hc, hf⟩ := cb_ck_inv hf
          refine cb_iald C hs hp.2.1 (vp_in_iff.mpr hc) dX4_mix_69 ?_
          obtain ⟨hc, hf⟩ := cb_ck_inv hf
          refine cb_iast C hs rfl (vp_in_iff.mpr hc) dX4_mix_70 (fun H locs hs => ?_)
          obtain ⟨σ_3, e9, hf⟩ := cb_let_inv hf
          replace hs := cb_Hc e9 hs
          clear e9
          exact w_X4_mix_71 C ih hp hf hs (lv_sub hl [1, 2, 3, 4] rfl)
def f_X4_mix (k : Nat) (x1 : Int32) (σ : cb_St) : Option (cb_St) := if (σ.1 k 0) ≤ 0 then (some σ) else (if 12 < (σ.1 k 0) then (some σ) else (if (σ.1 k 0) ≤ 12 then (f_X4_mix_28 k x1 cb_fu σ 0) else (some σ)))
set_option maxHeartbeats 4000000 in
set_option maxRecDepth 100000 in
theorem c_X4_mix {k : Nat} {x1 : Int32} (hp : cb_pl k) {σ : cb_St} {o : cb_St} (hf : f_X4_mix k x1 σ = some o) : cb_M l yX4_mix cX4_mix 5 none 2 shC A T D σ [.ref (A k), .int x1, .ref (A 2)] none o := by
  refine cb_met (by decide +kernel) (Nat.le_of_ble_eq_true rfl) ?_
  intro p e s m below meth c C hs ls hl
  have hl : lv_has ls 5 [(0, .ref (A k)), (1, .int x1), (2, .ref (A 2))] := hl
  obtain ⟨hx, hb, hml, hr, hown, hts, hK, hlk, hN⟩ := id C
  unfold f_X4_mix at hf
  refine lv_aload_n hx hb dX4_mix_0 rfl (lv_at hl 0 rfl) ?_
  refine gf_X4_36 C hs hp.1 dX4_mix_1 ?_
  refine lv_if_le (tgt := 25) hx hb dX4_mix_4 (by decide) (fun cn => ?_) (fun cn => ?_)
  · replace hf := cb_ifp cn hf
    have hf := Option.some.inj hf
    subst hf
    exact cb_retv C hs dX4_mix_25
  · replace hf := cb_ifn cn hf
    refine lv_aload_n hx hb dX4_mix_7 rfl (lv_at hl 0 rfl) ?_
    refine gf_X4_36 C hs hp.1 dX4_mix_8 ?_
    refine lv_bipush (v := 12) hx hb dX4_mix_11 (by decide) ?_
    refine lv_icmp_gt (tgt := 25) hx hb dX4_mix_13 (by decide) (fun cn => ?_) (fun cn => ?_)
    · replace hf := cb_ifp cn hf
      have hf := Option.some.inj hf
      subst hf
      exact cb_retv C hs dX4_mix_25
    · replace hf := cb_ifn cn hf
      refine lv_aload_n hx hb dX4_mix_16 rfl (lv_at hl 0 rfl) ?_
      refine gf_X4_36 C hs hp.1 dX4_mix_17 ?_
      refine lv_aload_n hx hb dX4_mix_20 rfl (lv_at hl 2 rfl) ?_
      refine cb_alen C hs rfl (v := 12) (by decide) dX4_mix_21 ?_
      refine lv_icmp_le (tgt := 26) hx hb dX4_mix_22 (by decide) (fun cn => ?_) (fun cn => ?_)
      · replace hf := cb_ifp cn hf
        refine lv_iconst (v := 0) hx hb dX4_mix_26 (by decide) ?_
        refine lv_istore_n (lv' := [(3, .int 0), (0, .ref (A k)), (1, .int x1), (2, .ref (A 2))]) hx hb dX4_mix_27 rfl hl (by decide) rfl (fun ls hl => ?_)
        exact w_X4_mix_28 C hp cb_fu _ _ hf _ _ _ hs (lv_sub hl [1, 2, 3, 0] rfl)
      · replace hf := cb_ifn cn hf
        have hf := Option.some.inj hf
        subst hf
        exact cb_retv C hs dX4_mix_25
/-! ===== CardBecome$Play.noteMeeting ===== -/
def f_X4_noteMeeting_52 (k : Nat) (x1 : Int32) (x2 : Int32) (x3 : Int32) (σ : cb_St) : Option (cb_St) := if (σ.1 k 2) < 0 then (some σ) else (cb_bp (f_X4_cardOf k x1 σ) (fun r_1 => cb_bp (f_X4_cardOf k x2 σ) (fun r_2 => cb_ck (0 ≤ Int32.toInt (σ.1 k 2) ∧ Int32.toInt (σ.1 k 2) < 24) (cb_let (cb_sI σ (k + 4) (Int32.toNatClampNeg (σ.1 k 2)) ((((x1 ||| (x2 <<< (4 &&& 31))) ||| ((r_1 + 1) <<< (8 &&& 31))) ||| ((r_2 + 1) <<< (12 &&& 31))) ||| (x3 <<< (16 &&& 31)))) (fun σ_3 => cb_let (cb_sI σ_3 k 2 ((σ_3.1 k 2) + 1)) (fun σ_4 => some σ_4))))))
set_option maxHeartbeats 4000000 in
set_option maxRecDepth 100000 in
theorem w_X4_noteMeeting_52 (C : cb_C p s m args meth c cX4_noteMeeting 4 none RX4 D T) {k : Nat} {x1 : Int32} {x2 : Int32} {x3 : Int32} {o : cb_St} (hp : cb_pl k) {σ : cb_St} (hf : f_X4_noteMeeting_52 k x1 x2 x3 σ = some o) {H : Heap} {locs : List Loc} {ls : Array Slot} (hs : cb_H shC A T D σ s.heap H locs) (hl : lv_has ls 4 [(0, .ref (A k)), (1, .int x1), (2, .int x2), (3, .int x3)]) : cb_W p l e 3 s m args below meth c shC A T D none o H locs (F0 m 52 ls []) := by
  obtain ⟨hx, hb, hml, hr, hown, hts, hK, hlk, hN⟩ := id C
  unfold f_X4_noteMeeting_52 at hf
  refine lv_aload_n hx hb dX4_noteMeeting_52 rfl (lv_at hl 0 rfl) ?_
  refine gf_X4_43 C hs hp.1 dX4_noteMeeting_53 ?_
  refine lv_if_lt (tgt := 110) hx hb dX4_noteMeeting_56 (by decide) (fun cn => ?_) (fun cn => ?_)
  · replace hf := cb_ifp cn hf
    have hf := Option.some.inj hf
    subst hf
    exact cb_retv C hs dX4_noteMeeting_110
  · replace hf := cb_ifn cn hf
    refine lv_aload_n hx hb dX4_noteMeeting_59 rfl (lv_at hl 0 rfl) ?_
    refine gf_X4_21 C hs hp.1 dX4_noteMeeting_60 ?_
    refine lv_aload_n hx hb dX4_noteMeeting_63 rfl (lv_at hl 0 rfl) ?_
    refine gf_X4_43 C hs hp.1 dX4_noteMeeting_64 ?_
    refine lv_iload_n hx hb dX4_noteMeeting_67 rfl (lv_at hl 1 rfl) ?_
    refine lv_iload_n hx hb dX4_noteMeeting_68 rfl (lv_at hl 2 rfl) ?_
    refine lv_iconst (v := 4) hx hb dX4_noteMeeting_69 (by decide) ?_
    refine lv_ishl hx hb dX4_noteMeeting_70 ?_
    refine lv_ior hx hb dX4_noteMeeting_71 ?_
    refine lv_aload_n hx hb dX4_noteMeeting_72 rfl (lv_at hl 0 rfl) ?_
    refine lv_iload_n hx hb dX4_noteMeeting_73 rfl (lv_at hl 1 rfl) ?_
    obtain ⟨r_1, hc, hf⟩ := cb_bp_inv hf
    refine cb_callVi C (c_X4_cardOf hp hc) mw_X4_cardOf ml_X4_74 rfl ⟨Nat.le_of_ble_eq_true rfl, Nat.le_of_ble_eq_true rfl⟩ hp.1 (Nat.le_of_ble_eq_true rfl) rfl hs hl rfl (Nat.le_of_ble_eq_true rfl) dX4_noteMeeting_74 (fun H locs hs => ?_)
    clear hc
    refine lv_iconst (v := 1) hx hb dX4_noteMeeting_77 (by decide) ?_
    refine lv_iadd hx hb dX4_noteMeeting_78 ?_
    refine lv_bipush (v := 8) hx hb dX4_noteMeeting_79 (by decide) ?_
    refine lv_ishl hx hb dX4_noteMeeting_81 ?_
    refine lv_ior hx hb dX4_noteMeeting_82 ?_
    refine lv_aload_n hx hb dX4_noteMeeting_83 rfl (lv_at hl 0 rfl) ?_
    refine lv_iload_n hx hb dX4_noteMeeting_84 rfl (lv_at hl 2 rfl) ?_
    obtain ⟨r_2, hc, hf⟩ := cb_bp_inv hf
    refine cb_callVi C (c_X4_cardOf hp hc) mw_X4_cardOf ml_X4_74 rfl ⟨Nat.le_of_ble_eq_true rfl, Nat.le_of_ble_eq_true rfl⟩ hp.1 (Nat.le_of_ble_eq_true rfl) rfl hs hl rfl (Nat.le_of_ble_eq_true rfl) dX4_noteMeeting_85 (fun H locs hs => ?_)
    clear hc
    refine lv_iconst (v := 1) hx hb dX4_noteMeeting_88 (by decide) ?_
    refine lv_iadd hx hb dX4_noteMeeting_89 ?_
    refine lv_bipush (v := 12) hx hb dX4_noteMeeting_90 (by decide) ?_
    refine lv_ishl hx hb dX4_noteMeeting_92 ?_
    refine lv_ior hx hb dX4_noteMeeting_93 ?_
    refine lv_iload_n hx hb dX4_noteMeeting_94 rfl (lv_at hl 3 rfl) ?_
    refine lv_bipush (v := 16) hx hb dX4_noteMeeting_95 (by decide) ?_
    refine lv_ishl hx hb dX4_noteMeeting_97 ?_
    refine lv_ior hx hb dX4_noteMeeting_98 ?_
    obtain ⟨hc, hf⟩ := cb_ck_inv hf
    refine cb_iast C hs hp.2.2.2.2 (vp_in_iff.mpr hc) dX4_noteMeeting_99 (fun H locs hs => ?_)
    obtain ⟨σ_3, e9, hf⟩ := cb_let_inv hf
    replace hs := cb_Hc e9 hs
    clear e9
    refine lv_aload_n hx hb dX4_noteMeeting_100 rfl (lv_at hl 0 rfl) ?_
    refine lv_dup hx hb dX4_noteMeeting_101 rfl ?_
    refine gf_X4_43 C hs hp.1 dX4_noteMeeting_102 ?_
    refine lv_iconst (v := 1) hx hb dX4_noteMeeting_105 (by decide) ?_
    refine lv_iadd hx hb dX4_noteMeeting_106 ?_
    refine pf_X4_43 C hs hp.1 dX4_noteMeeting_107 (fun H locs hs => ?_)
    obtain ⟨σ_4, e9, hf⟩ := cb_let_inv hf
    replace hs := cb_Hc e9 hs
    clear e9
    have hf := Option.some.inj hf
    subst hf
    exact cb_retv C hs dX4_noteMeeting_110
def f_X4_noteMeeting_22 (k : Nat) (x1 : Int32) (x2 : Int32) (x3 : Int32) (σ : cb_St) : Option (cb_St) := if (σ.1 k 2) < 24 then (f_X4_noteMeeting_52 k x1 x2 x3 σ) else (cb_ck (0 ≤ (1 : Int32) ∧ 0 ≤ (0 : Int32) ∧ 0 ≤ (23 : Int32) ∧ Int32.toNatClampNeg 1 + Int32.toNatClampNeg 23 ≤ 24 ∧ Int32.toNatClampNeg 0 + Int32.toNatClampNeg 23 ≤ 24) (cb_let (cb_sA σ (k + 4) (va_cpy (σ.1 (k + 4)) (σ.1 (k + 4)) (Int32.toNatClampNeg 1) (Int32.toNatClampNeg 0) (Int32.toNatClampNeg 23))) (fun σ_1 => cb_let (cb_sI σ_1 k 2 23) (fun σ_2 => f_X4_noteMeeting_52 k x1 x2 x3 σ_2))))
set_option maxHeartbeats 4000000 in
set_option maxRecDepth 100000 in
theorem w_X4_noteMeeting_22 (C : cb_C p s m args meth c cX4_noteMeeting 4 none RX4 D T) {k : Nat} {x1 : Int32} {x2 : Int32} {x3 : Int32} {o : cb_St} (hp : cb_pl k) {σ : cb_St} (hf : f_X4_noteMeeting_22 k x1 x2 x3 σ = some o) {H : Heap} {locs : List Loc} {ls : Array Slot} (hs : cb_H shC A T D σ s.heap H locs) (hl : lv_has ls 4 [(0, .ref (A k)), (1, .int x1), (2, .int x2), (3, .int x3)]) : cb_W p l e 3 s m args below meth c shC A T D none o H locs (F0 m 22 ls []) := by
  obtain ⟨hx, hb, hml, hr, hown, hts, hK, hlk, hN⟩ := id C
  unfold f_X4_noteMeeting_22 at hf
  refine lv_aload_n hx hb dX4_noteMeeting_22 rfl (lv_at hl 0 rfl) ?_
  refine gf_X4_43 C hs hp.1 dX4_noteMeeting_23 ?_
  refine lv_bipush (v := 24) hx hb dX4_noteMeeting_26 (by decide) ?_
  refine lv_icmp_lt (tgt := 52) hx hb dX4_noteMeeting_28 (by decide) (fun cn => ?_) (fun cn => ?_)
  · replace hf := cb_ifp cn hf
    exact w_X4_noteMeeting_52 C hp hf hs (lv_sub hl [0, 1, 2, 3] rfl)
  · replace hf := cb_ifn cn hf
    refine lv_aload_n hx hb dX4_noteMeeting_31 rfl (lv_at hl 0 rfl) ?_
    refine gf_X4_21 C hs hp.1 dX4_noteMeeting_32 ?_
    refine lv_iconst (v := 1) hx hb dX4_noteMeeting_35 (by decide) ?_
    refine lv_aload_n hx hb dX4_noteMeeting_36 rfl (lv_at hl 0 rfl) ?_
    refine gf_X4_21 C hs hp.1 dX4_noteMeeting_37 ?_
    refine lv_iconst (v := 0) hx hb dX4_noteMeeting_40 (by decide) ?_
    refine lv_bipush (v := 23) hx hb dX4_noteMeeting_41 (by decide) ?_
    obtain ⟨⟨g1, g2, g3, g4, g5⟩, hf⟩ := cb_ck_inv hf
    refine cb_copy C hs ml_X4_46 hp.2.2.2.2 hp.2.2.2.2 (Nat.le_of_ble_eq_true rfl) hl g1 g2 g3 g4 g5 mw_copy (Nat.le_of_ble_eq_true rfl) dX4_noteMeeting_43 (fun H locs hs => ?_)
    obtain ⟨σ_1, e9, hf⟩ := cb_let_inv hf
    replace hs := cb_Hc e9 hs
    clear e9
    refine lv_aload_n hx hb dX4_noteMeeting_46 rfl (lv_at hl 0 rfl) ?_
    refine lv_bipush (v := 23) hx hb dX4_noteMeeting_47 (by decide) ?_
    refine pf_X4_43 C hs hp.1 dX4_noteMeeting_49 (fun H locs hs => ?_)
    obtain ⟨σ_2, e9, hf⟩ := cb_let_inv hf
    replace hs := cb_Hc e9 hs
    clear e9
    exact w_X4_noteMeeting_52 C hp hf hs (lv_sub hl [0, 1, 2, 3] rfl)
def f_X4_noteMeeting (k : Nat) (x1 : Int32) (x2 : Int32) (x3 : Int32) (σ : cb_St) : Option (cb_St) := if x3 = 0 then (cb_bv (f_X4_countWin k x1 σ) (fun σ_2 => f_X4_noteMeeting_22 k x1 x2 x3 σ_2)) else (if x3 = 1 then (cb_bv (f_X4_countWin k x2 σ) (fun σ_1 => f_X4_noteMeeting_22 k x1 x2 x3 σ_1)) else (f_X4_noteMeeting_22 k x1 x2 x3 σ))
set_option maxHeartbeats 4000000 in
set_option maxRecDepth 100000 in
theorem c_X4_noteMeeting {k : Nat} {x1 : Int32} {x2 : Int32} {x3 : Int32} (hp : cb_pl k) {σ : cb_St} {o : cb_St} (hf : f_X4_noteMeeting k x1 x2 x3 σ = some o) : cb_M l yX4_noteMeeting cX4_noteMeeting 4 none 3 shC A T D σ [.ref (A k), .int x1, .int x2, .int x3] none o := by
  refine cb_met (by decide +kernel) (Nat.le_of_ble_eq_true rfl) ?_
  intro p e s m below meth c C hs ls hl
  have hl : lv_has ls 4 [(0, .ref (A k)), (1, .int x1), (2, .int x2), (3, .int x3)] := hl
  obtain ⟨hx, hb, hml, hr, hown, hts, hK, hlk, hN⟩ := id C
  unfold f_X4_noteMeeting at hf
  refine lv_iload_n hx hb dX4_noteMeeting_0 rfl (lv_at hl 3 rfl) ?_
  refine lv_if_ne (tgt := 12) hx hb dX4_noteMeeting_1 (by decide) (fun cn => ?_) (fun cn => ?_)
  · replace hf := cb_ifn cn hf
    refine lv_iload_n hx hb dX4_noteMeeting_12 rfl (lv_at hl 3 rfl) ?_
    refine lv_iconst (v := 1) hx hb dX4_noteMeeting_13 (by decide) ?_
    refine lv_icmp_ne (tgt := 22) hx hb dX4_noteMeeting_14 (by decide) (fun cn => ?_) (fun cn => ?_)
    · replace hf := cb_ifn cn hf
      exact w_X4_noteMeeting_22 C hp hf hs (lv_sub hl [0, 1, 2, 3] rfl)
    · replace hf := cb_ifp cn hf
      refine lv_aload_n hx hb dX4_noteMeeting_17 rfl (lv_at hl 0 rfl) ?_
      refine lv_iload_n hx hb dX4_noteMeeting_18 rfl (lv_at hl 2 rfl) ?_
      obtain ⟨σ_1, hc, hf⟩ := cb_bv_inv hf
      refine cb_callVv C (c_X4_countWin hp hc) mw_X4_countWin ml_X4_77 rfl ⟨Nat.le_of_ble_eq_true rfl, Nat.le_of_ble_eq_true rfl⟩ hp.1 (Nat.le_of_ble_eq_true rfl) rfl hs hl rfl (Nat.le_of_ble_eq_true rfl) dX4_noteMeeting_19 (fun H locs hs => ?_)
      clear hc
      exact w_X4_noteMeeting_22 C hp hf hs (lv_sub hl [0, 1, 2, 3] rfl)
  · replace hf := cb_ifp cn hf
    refine lv_aload_n hx hb dX4_noteMeeting_4 rfl (lv_at hl 0 rfl) ?_
    refine lv_iload_n hx hb dX4_noteMeeting_5 rfl (lv_at hl 1 rfl) ?_
    obtain ⟨σ_2, hc, hf⟩ := cb_bv_inv hf
    refine cb_callVv C (c_X4_countWin hp hc) mw_X4_countWin ml_X4_77 rfl ⟨Nat.le_of_ble_eq_true rfl, Nat.le_of_ble_eq_true rfl⟩ hp.1 (Nat.le_of_ble_eq_true rfl) rfl hs hl rfl (Nat.le_of_ble_eq_true rfl) dX4_noteMeeting_6 (fun H locs hs => ?_)
    clear hc
    refine lv_goto (tgt := 22) hx hb dX4_noteMeeting_9 (by decide) ?_
    exact w_X4_noteMeeting_22 C hp hf hs (lv_sub hl [0, 1, 2, 3] rfl)
/-! ===== CardBecome$Play.outcomeIn ===== -/
def f_X4_outcomeIn (x0 : Int32) (σ : cb_St)  : Option (Int32) := some ((x0 >>> (16 &&& 31)) &&& 3)
set_option maxHeartbeats 4000000 in
set_option maxRecDepth 100000 in
theorem c_X4_outcomeIn {x0 : Int32} {σ : cb_St}   {o : Int32} (hf : f_X4_outcomeIn x0 σ = some o) : cb_M l yX4_outcomeIn cX4_outcomeIn 1 (some .int) 1 shC A T D σ [.int x0] (some (.int o)) σ := by
  refine cb_met (by decide +kernel) (Nat.le_of_ble_eq_true rfl) ?_
  intro p e s m below meth c C hs ls hl
  have hl : lv_has ls 1 [(0, .int x0)] := hl
  obtain ⟨hx, hb, hml, hr, hown, hts, hK, hlk, hN⟩ := id C
  unfold f_X4_outcomeIn at hf
  refine lv_iload_n hx hb dX4_outcomeIn_0 rfl (lv_at hl 0 rfl) ?_
  refine lv_bipush (v := 16) hx hb dX4_outcomeIn_1 (by decide) ?_
  refine lv_ishr hx hb dX4_outcomeIn_3 ?_
  refine lv_iconst (v := 3) hx hb dX4_outcomeIn_4 (by decide) ?_
  refine lv_iand hx hb dX4_outcomeIn_5 ?_
  have hf := Option.some.inj hf
  subst hf
  exact cb_reti C hs dX4_outcomeIn_6
/-! ===== CardBecome$Play.placeOf ===== -/
def f_X4_placeOf_2 (k : Nat) (x1 : Int32) (σ : cb_St) : Nat → Int32 → Option (Int32)
  | 0, _ => none
  | fu + 1, x2 => if (σ.1 k 0) ≤ x2 then (some (-1)) else (cb_bp (f_X4_cardAt k x2 σ) (fun r_1 => if r_1 = x1 then (some x2) else (cb_let (x2 + 1) (fun x2_1 => f_X4_placeOf_2 k x1 σ fu x2_1))))
set_option maxHeartbeats 4000000 in
set_option maxRecDepth 100000 in
theorem w_X4_placeOf_2 (C : cb_C p s m args meth c cX4_placeOf 3 (some .int) RX4 D T) {k : Nat} {x1 : Int32} {σ : cb_St} {o : Int32} (hp : cb_pl k) : ∀ (fu : Nat) (x2 : Int32), f_X4_placeOf_2 k x1 σ fu x2 = some o → ∀ (H : Heap) (locs : List Loc) (ls : Array Slot), cb_H shC A T D σ s.heap H locs → lv_has ls 3 [(0, .ref (A k)), (1, .int x1), (2, .int x2)] → cb_W p l e 2 s m args below meth c shC A T D (some (.int o)) σ H locs (F0 m 2 ls []) := by
  obtain ⟨hx, hb, hml, hr, hown, hts, hK, hlk, hN⟩ := id C
  intro fu
  induction fu with
  | zero =>
    intro x2 hf
    rw [f_X4_placeOf_2] at hf
    cases hf
  | succ fu ih =>
    intro x2 hf H locs ls hs hl
    rw [f_X4_placeOf_2] at hf
    refine lv_iload_n hx hb dX4_placeOf_2 rfl (lv_at hl 2 rfl) ?_
    refine lv_aload_n hx hb dX4_placeOf_3 rfl (lv_at hl 0 rfl) ?_
    refine gf_X4_36 C hs hp.1 dX4_placeOf_4 ?_
    refine lv_icmp_ge (tgt := 27) hx hb dX4_placeOf_7 (by decide) (fun cn => ?_) (fun cn => ?_)
    · replace hf := cb_ifp cn hf
      refine lv_iconst (v := (-1)) hx hb dX4_placeOf_27 (by decide) ?_
      have hf := Option.some.inj hf
      subst hf
      exact cb_reti C hs dX4_placeOf_28
    · replace hf := cb_ifn cn hf
      refine lv_aload_n hx hb dX4_placeOf_10 rfl (lv_at hl 0 rfl) ?_
      refine lv_iload_n hx hb dX4_placeOf_11 rfl (lv_at hl 2 rfl) ?_
      obtain ⟨r_1, hc, hf⟩ := cb_bp_inv hf
      refine cb_callVi C (c_X4_cardAt hp hc) mw_X4_cardAt ml_X4_56 rfl ⟨Nat.le_of_ble_eq_true rfl, Nat.le_of_ble_eq_true rfl⟩ hp.1 (Nat.le_of_ble_eq_true rfl) rfl hs hl rfl (Nat.le_of_ble_eq_true rfl) dX4_placeOf_12 (fun H locs hs => ?_)
      clear hc
      refine lv_iload_n hx hb dX4_placeOf_15 rfl (lv_at hl 1 rfl) ?_
      refine lv_icmp_ne (tgt := 21) hx hb dX4_placeOf_16 (by decide) (fun cn => ?_) (fun cn => ?_)
      · replace hf := cb_ifn cn hf
        obtain ⟨x2_1, e9, hf⟩ := cb_let_inv hf
        refine lv_iinc (v := x2_1) (lv' := [(2, .int x2_1), (0, .ref (A k)), (1, .int x1)]) hx hb dX4_placeOf_21 hl (k := 2) rfl (by rw [e9]; rfl) (by decide) rfl (fun ls hl => ?_)
        clear e9
        refine lv_goto (tgt := 2) hx hb dX4_placeOf_24 (by decide) ?_
        exact ih _ hf _ _ _ hs (lv_sub hl [1, 2, 0] rfl)
      · replace hf := cb_ifp cn hf
        refine lv_iload_n hx hb dX4_placeOf_19 rfl (lv_at hl 2 rfl) ?_
        have hf := Option.some.inj hf
        subst hf
        exact cb_reti C hs dX4_placeOf_20
def f_X4_placeOf (k : Nat) (x1 : Int32) (σ : cb_St)  : Option (Int32) := f_X4_placeOf_2 k x1 σ cb_fu 0
set_option maxHeartbeats 4000000 in
set_option maxRecDepth 100000 in
theorem c_X4_placeOf {k : Nat} {x1 : Int32} {σ : cb_St} (hp : cb_pl k)  {o : Int32} (hf : f_X4_placeOf k x1 σ = some o) : cb_M l yX4_placeOf cX4_placeOf 3 (some .int) 2 shC A T D σ [.ref (A k), .int x1] (some (.int o)) σ := by
  refine cb_met (by decide +kernel) (Nat.le_of_ble_eq_true rfl) ?_
  intro p e s m below meth c C hs ls hl
  have hl : lv_has ls 3 [(0, .ref (A k)), (1, .int x1)] := hl
  obtain ⟨hx, hb, hml, hr, hown, hts, hK, hlk, hN⟩ := id C
  unfold f_X4_placeOf at hf
  refine lv_iconst (v := 0) hx hb dX4_placeOf_0 (by decide) ?_
  refine lv_istore_n (lv' := [(2, .int 0), (0, .ref (A k)), (1, .int x1)]) hx hb dX4_placeOf_1 rfl hl (by decide) rfl (fun ls hl => ?_)
  exact w_X4_placeOf_2 C hp cb_fu _ hf _ _ _ hs (lv_sub hl [1, 2, 0] rfl)
/-! ===== CardBecome$Play.putAway ===== -/
def f_X4_putAway_23 (k : Nat) (x1 : Int32) (σ : cb_St) (x2 : Int32) : Option (Int32 × cb_St) := some (x2, σ)
set_option maxHeartbeats 4000000 in
set_option maxRecDepth 100000 in
theorem w_X4_putAway_23 (C : cb_C p s m args meth c cX4_putAway 3 (some .int) RX4 D T) {k : Nat} {x1 : Int32} {o : Int32 × cb_St} (hp : cb_pl k) {σ : cb_St} {x2 : Int32} (hf : f_X4_putAway_23 k x1 σ x2 = some o) {H : Heap} {locs : List Loc} {ls : Array Slot} (hs : cb_H shC A T D σ s.heap H locs) (hl : lv_has ls 3 [(0, .ref (A k)), (1, .int x1), (2, .int x2)]) : cb_W p l e 4 s m args below meth c shC A T D (some (.int o.1)) o.2 H locs (F0 m 23 ls []) := by
  obtain ⟨hx, hb, hml, hr, hown, hts, hK, hlk, hN⟩ := id C
  unfold f_X4_putAway_23 at hf
  refine lv_iload_n hx hb dX4_putAway_23 rfl (lv_at hl 2 rfl) ?_
  have hf := Option.some.inj hf
  subst hf
  exact cb_reti C hs dX4_putAway_24
def f_X4_putAway (k : Nat) (x1 : Int32) (σ : cb_St) : Option (Int32 × cb_St) := cb_bi (f_X4_layDown k x1 σ) (fun r_1 σ_2 => if r_1 = (-1) then (f_X4_putAway_23 k x1 σ_2 r_1) else (cb_let (cb_sI σ_2 k 1 ((σ_2.1 k 1) ||| (1 <<< (r_1 &&& 31)))) (fun σ_3 => f_X4_putAway_23 k x1 σ_3 r_1)))
set_option maxHeartbeats 4000000 in
set_option maxRecDepth 100000 in
theorem c_X4_putAway {k : Nat} {x1 : Int32} (hp : cb_pl k) {σ : cb_St} {o : Int32 × cb_St} (hf : f_X4_putAway k x1 σ = some o) : cb_M l yX4_putAway cX4_putAway 3 (some .int) 4 shC A T D σ [.ref (A k), .int x1] (some (.int o.1)) o.2 := by
  refine cb_met (by decide +kernel) (Nat.le_of_ble_eq_true rfl) ?_
  intro p e s m below meth c C hs ls hl
  have hl : lv_has ls 3 [(0, .ref (A k)), (1, .int x1)] := hl
  obtain ⟨hx, hb, hml, hr, hown, hts, hK, hlk, hN⟩ := id C
  unfold f_X4_putAway at hf
  refine lv_aload_n hx hb dX4_putAway_0 rfl (lv_at hl 0 rfl) ?_
  refine lv_iload_n hx hb dX4_putAway_1 rfl (lv_at hl 1 rfl) ?_
  obtain ⟨r_1, σ_2, hc, hf⟩ := cb_bi_inv hf
  refine cb_callVi C (c_X4_layDown hp hc) mw_X4_layDown ml_X4_63 rfl ⟨Nat.le_of_ble_eq_true rfl, Nat.le_of_ble_eq_true rfl⟩ hp.1 (Nat.le_of_ble_eq_true rfl) rfl hs hl rfl (Nat.le_of_ble_eq_true rfl) dX4_putAway_2 (fun H locs hs => ?_)
  clear hc
  refine lv_istore_n (lv' := [(2, .int r_1), (0, .ref (A k)), (1, .int x1)]) hx hb dX4_putAway_5 rfl hl (by decide) rfl (fun ls hl => ?_)
  refine lv_iload_n hx hb dX4_putAway_6 rfl (lv_at hl 0 rfl) ?_
  refine lv_iconst (v := (-1)) hx hb dX4_putAway_7 (by decide) ?_
  refine lv_icmp_eq (tgt := 23) hx hb dX4_putAway_8 (by decide) (fun cn => ?_) (fun cn => ?_)
  · replace hf := cb_ifp cn hf
    exact w_X4_putAway_23 C hp hf hs (lv_sub hl [1, 2, 0] rfl)
  · replace hf := cb_ifn cn hf
    refine lv_aload_n hx hb dX4_putAway_11 rfl (lv_at hl 1 rfl) ?_
    refine lv_dup hx hb dX4_putAway_12 rfl ?_
    refine gf_X4_40 C hs hp.1 dX4_putAway_13 ?_
    refine lv_iconst (v := 1) hx hb dX4_putAway_16 (by decide) ?_
    refine lv_iload_n hx hb dX4_putAway_17 rfl (lv_at hl 0 rfl) ?_
    refine lv_ishl hx hb dX4_putAway_18 ?_
    refine lv_ior hx hb dX4_putAway_19 ?_
    refine pf_X4_40 C hs hp.1 dX4_putAway_20 (fun H locs hs => ?_)
    obtain ⟨σ_3, e9, hf⟩ := cb_let_inv hf
    replace hs := cb_Hc e9 hs
    clear e9
    exact w_X4_putAway_23 C hp hf hs (lv_sub hl [1, 2, 0] rfl)
/-! ===== CardBecome$Play.raise ===== -/
def f_X4_raise_44 (k : Nat) (x1 : Int32) (σ : cb_St) (x2 : Int32) : Option (cb_St) := cb_ck (0 ≤ Int32.toInt 0 ∧ Int32.toInt 0 < 12) (cb_let (cb_sI σ (k + 1) (Int32.toNatClampNeg 0) x2) (fun σ_1 => some σ_1))
set_option maxHeartbeats 4000000 in
set_option maxRecDepth 100000 in
theorem w_X4_raise_44 (C : cb_C p s m args meth c cX4_raise 4 none RX4 D T) {k : Nat} {x1 : Int32} {o : cb_St} (hp : cb_pl k) {σ : cb_St} {x2 : Int32} (hf : f_X4_raise_44 k x1 σ x2 = some o) {H : Heap} {locs : List Loc} {ls : Array Slot} (hs : cb_H shC A T D σ s.heap H locs) (hl : lv_has ls 4 [(0, .ref (A k)), (1, .int x1), (2, .int x2)]) : cb_W p l e 2 s m args below meth c shC A T D none o H locs (F0 m 44 ls []) := by
  obtain ⟨hx, hb, hml, hr, hown, hts, hK, hlk, hN⟩ := id C
  unfold f_X4_raise_44 at hf
  refine lv_aload_n hx hb dX4_raise_44 rfl (lv_at hl 0 rfl) ?_
  refine gf_X4_9 C hs hp.1 dX4_raise_45 ?_
  refine lv_iconst (v := 0) hx hb dX4_raise_48 (by decide) ?_
  refine lv_iload_n hx hb dX4_raise_49 rfl (lv_at hl 2 rfl) ?_
  obtain ⟨hc, hf⟩ := cb_ck_inv hf
  refine cb_iast C hs hp.2.1 (vp_in_iff.mpr hc) dX4_raise_50 (fun H locs hs => ?_)
  obtain ⟨σ_1, e9, hf⟩ := cb_let_inv hf
  replace hs := cb_Hc e9 hs
  clear e9
  have hf := Option.some.inj hf
  subst hf
  exact cb_retv C hs dX4_raise_51
def f_X4_raise_14 (k : Nat) (x1 : Int32) : Nat → cb_St → Int32 → Int32 → Option (cb_St)
  | 0, _, _, _ => none
  | fu + 1, σ, x2, x3 => if x3 ≤ 0 then (f_X4_raise_44 k x1 σ x2) else (if 12 ≤ x3 then (f_X4_raise_44 k x1 σ x2) else (cb_ck (0 ≤ Int32.toInt (x3 - 1) ∧ Int32.toInt (x3 - 1) < 12) (cb_ck (0 ≤ Int32.toInt x3 ∧ Int32.toInt x3 < 12) (cb_let (cb_sI σ (k + 1) (Int32.toNatClampNeg x3) (σ.1 (k + 1) (Int32.toNatClampNeg (x3 - 1)))) (fun σ_1 => cb_let (x3 + (-1)) (fun x3_1 => f_X4_raise_14 k x1 fu σ_1 x2 x3_1))))))
set_option maxHeartbeats 4000000 in
set_option maxRecDepth 100000 in
theorem w_X4_raise_14 (C : cb_C p s m args meth c cX4_raise 4 none RX4 D T) {k : Nat} {x1 : Int32} {o : cb_St} (hp : cb_pl k) : ∀ (fu : Nat) (σ : cb_St) (x2 : Int32) (x3 : Int32), f_X4_raise_14 k x1 fu σ x2 x3 = some o → ∀ (H : Heap) (locs : List Loc) (ls : Array Slot), cb_H shC A T D σ s.heap H locs → lv_has ls 4 [(0, .ref (A k)), (1, .int x1), (2, .int x2), (3, .int x3)] → cb_W p l e 2 s m args below meth c shC A T D none o H locs (F0 m 14 ls []) := by
  obtain ⟨hx, hb, hml, hr, hown, hts, hK, hlk, hN⟩ := id C
  intro fu
  induction fu with
  | zero =>
    intro σ x2 x3 hf
    rw [f_X4_raise_14] at hf
    cases hf
  | succ fu ih =>
    intro σ x2 x3 hf H locs ls hs hl
    rw [f_X4_raise_14] at hf
    refine lv_iload_n hx hb dX4_raise_14 rfl (lv_at hl 3 rfl) ?_
    refine lv_if_le (tgt := 44) hx hb dX4_raise_15 (by decide) (fun cn => ?_) (fun cn => ?_)
    · replace hf := cb_ifp cn hf
      exact w_X4_raise_44 C hp hf hs (lv_sub hl [0, 1, 2] rfl)
    · replace hf := cb_ifn cn hf
      refine lv_iload_n hx hb dX4_raise_18 rfl (lv_at hl 3 rfl) ?_
      refine lv_bipush (v := 12) hx hb dX4_raise_19 (by decide) ?_
      refine lv_icmp_ge (tgt := 44) hx hb dX4_raise_21 (by decide) (fun cn => ?_) (fun cn => ?_)
      · replace hf := cb_ifp cn hf
        exact w_X4_raise_44 C hp hf hs (lv_sub hl [0, 1, 2] rfl)
      · replace hf := cb_ifn cn hf
        refine lv_aload_n hx hb dX4_raise_24 rfl (lv_at hl 0 rfl) ?_
        refine gf_X4_9 C hs hp.1 dX4_raise_25 ?_
        refine lv_iload_n hx hb dX4_raise_28 rfl (lv_at hl 3 rfl) ?_
        refine lv_aload_n hx hb dX4_raise_29 rfl (lv_at hl 0 rfl) ?_
        refine gf_X4_9 C hs hp.1 dX4_raise_30 ?_
        refine lv_iload_n hx hb dX4_raise_33 rfl (lv_at hl 3 rfl) ?_
        refine lv_iconst (v := 1) hx hb dX4_raise_34 (by decide) ?_
        refine lv_isub hx hb dX4_raise_35 ?_
        obtain ⟨hc, hf⟩ := cb_ck_inv hf
        refine cb_iald C hs hp.2.1 (vp_in_iff.mpr hc) dX4_raise_36 ?_
        obtain ⟨hc, hf⟩ := cb_ck_inv hf
        refine cb_iast C hs hp.2.1 (vp_in_iff.mpr hc) dX4_raise_37 (fun H locs hs => ?_)
        obtain ⟨σ_1, e9, hf⟩ := cb_let_inv hf
        replace hs := cb_Hc e9 hs
        clear e9
        obtain ⟨x3_1, e9, hf⟩ := cb_let_inv hf
        refine lv_iinc (v := x3_1) (lv' := [(3, .int x3_1), (0, .ref (A k)), (1, .int x1), (2, .int x2)]) hx hb dX4_raise_38 hl (k := 3) rfl (by rw [e9]; rfl) (by decide) rfl (fun ls hl => ?_)
        clear e9
        refine lv_goto (tgt := 14) hx hb dX4_raise_41 (by decide) ?_
        exact ih _ _ _ hf _ _ _ hs (lv_sub hl [1, 2, 3, 0] rfl)
def f_X4_raise (k : Nat) (x1 : Int32) (σ : cb_St) : Option (cb_St) := cb_bp (f_X4_cardAt k x1 σ) (fun r_1 => if r_1 = (-1) then (some σ) else (f_X4_raise_14 k x1 cb_fu σ r_1 x1))
set_option maxHeartbeats 4000000 in
set_option maxRecDepth 100000 in
theorem c_X4_raise {k : Nat} {x1 : Int32} (hp : cb_pl k) {σ : cb_St} {o : cb_St} (hf : f_X4_raise k x1 σ = some o) : cb_M l yX4_raise cX4_raise 4 none 2 shC A T D σ [.ref (A k), .int x1] none o := by
  refine cb_met (by decide +kernel) (Nat.le_of_ble_eq_true rfl) ?_
  intro p e s m below meth c C hs ls hl
  have hl : lv_has ls 4 [(0, .ref (A k)), (1, .int x1)] := hl
  obtain ⟨hx, hb, hml, hr, hown, hts, hK, hlk, hN⟩ := id C
  unfold f_X4_raise at hf
  refine lv_aload_n hx hb dX4_raise_0 rfl (lv_at hl 0 rfl) ?_
  refine lv_iload_n hx hb dX4_raise_1 rfl (lv_at hl 1 rfl) ?_
  obtain ⟨r_1, hc, hf⟩ := cb_bp_inv hf
  refine cb_callVi C (c_X4_cardAt hp hc) mw_X4_cardAt ml_X4_56 rfl ⟨Nat.le_of_ble_eq_true rfl, Nat.le_of_ble_eq_true rfl⟩ hp.1 (Nat.le_of_ble_eq_true rfl) rfl hs hl rfl (Nat.le_of_ble_eq_true rfl) dX4_raise_2 (fun H locs hs => ?_)
  clear hc
  refine lv_istore_n (lv' := [(2, .int r_1), (0, .ref (A k)), (1, .int x1)]) hx hb dX4_raise_5 rfl hl (by decide) rfl (fun ls hl => ?_)
  refine lv_iload_n hx hb dX4_raise_6 rfl (lv_at hl 0 rfl) ?_
  refine lv_iconst (v := (-1)) hx hb dX4_raise_7 (by decide) ?_
  refine lv_icmp_ne (tgt := 12) hx hb dX4_raise_8 (by decide) (fun cn => ?_) (fun cn => ?_)
  · replace hf := cb_ifn cn hf
    refine lv_iload_n hx hb dX4_raise_12 rfl (lv_at hl 2 rfl) ?_
    refine lv_istore_n (lv' := [(3, .int x1), (2, .int r_1), (0, .ref (A k)), (1, .int x1)]) hx hb dX4_raise_13 rfl hl (by decide) rfl (fun ls hl => ?_)
    exact w_X4_raise_14 C hp cb_fu _ _ _ hf _ _ _ hs (lv_sub hl [2, 3, 1, 0] rfl)
  · replace hf := cb_ifp cn hf
    have hf := Option.some.inj hf
    subst hf
    exact cb_retv C hs dX4_raise_11
/-! ===== CardBecome$Play.secondCardIn ===== -/
def f_X4_secondCardIn (x0 : Int32) (σ : cb_St)  : Option (Int32) := some (((x0 >>> (12 &&& 31)) &&& 15) - 1)
set_option maxHeartbeats 4000000 in
set_option maxRecDepth 100000 in
theorem c_X4_secondCardIn {x0 : Int32} {σ : cb_St}   {o : Int32} (hf : f_X4_secondCardIn x0 σ = some o) : cb_M l yX4_secondCardIn cX4_secondCardIn 1 (some .int) 1 shC A T D σ [.int x0] (some (.int o)) σ := by
  refine cb_met (by decide +kernel) (Nat.le_of_ble_eq_true rfl) ?_
  intro p e s m below meth c C hs ls hl
  have hl : lv_has ls 1 [(0, .int x0)] := hl
  obtain ⟨hx, hb, hml, hr, hown, hts, hK, hlk, hN⟩ := id C
  unfold f_X4_secondCardIn at hf
  refine lv_iload_n hx hb dX4_secondCardIn_0 rfl (lv_at hl 0 rfl) ?_
  refine lv_bipush (v := 12) hx hb dX4_secondCardIn_1 (by decide) ?_
  refine lv_ishr hx hb dX4_secondCardIn_3 ?_
  refine lv_bipush (v := 15) hx hb dX4_secondCardIn_4 (by decide) ?_
  refine lv_iand hx hb dX4_secondCardIn_6 ?_
  refine lv_iconst (v := 1) hx hb dX4_secondCardIn_7 (by decide) ?_
  refine lv_isub hx hb dX4_secondCardIn_8 ?_
  have hf := Option.some.inj hf
  subst hf
  exact cb_reti C hs dX4_secondCardIn_9
/-! ===== CardBecome$Play.secondIn ===== -/
def f_X4_secondIn (x0 : Int32) (σ : cb_St)  : Option (Int32) := some ((x0 >>> (4 &&& 31)) &&& 15)
set_option maxHeartbeats 4000000 in
set_option maxRecDepth 100000 in
theorem c_X4_secondIn {x0 : Int32} {σ : cb_St}   {o : Int32} (hf : f_X4_secondIn x0 σ = some o) : cb_M l yX4_secondIn cX4_secondIn 1 (some .int) 1 shC A T D σ [.int x0] (some (.int o)) σ := by
  refine cb_met (by decide +kernel) (Nat.le_of_ble_eq_true rfl) ?_
  intro p e s m below meth c C hs ls hl
  have hl : lv_has ls 1 [(0, .int x0)] := hl
  obtain ⟨hx, hb, hml, hr, hown, hts, hK, hlk, hN⟩ := id C
  unfold f_X4_secondIn at hf
  refine lv_iload_n hx hb dX4_secondIn_0 rfl (lv_at hl 0 rfl) ?_
  refine lv_iconst (v := 4) hx hb dX4_secondIn_1 (by decide) ?_
  refine lv_ishr hx hb dX4_secondIn_2 ?_
  refine lv_bipush (v := 15) hx hb dX4_secondIn_3 (by decide) ?_
  refine lv_iand hx hb dX4_secondIn_5 ?_
  have hf := Option.some.inj hf
  subst hf
  exact cb_reti C hs dX4_secondIn_6
/-! ===== CardBecome$Play.takeOut ===== -/
def f_X4_takeOut (k : Nat) (x1 : Int32) (σ : cb_St) : Option (cb_St) := cb_let (cb_sI σ k 1 ((σ.1 k 1) &&& ((1 <<< (x1 &&& 31)) ^^^ (-1)))) (fun σ_1 => cb_bv (f_X4_putBelow k x1 σ_1) (fun σ_2 => some σ_2))
set_option maxHeartbeats 4000000 in
set_option maxRecDepth 100000 in
theorem c_X4_takeOut {k : Nat} {x1 : Int32} (hp : cb_pl k) {σ : cb_St} {o : cb_St} (hf : f_X4_takeOut k x1 σ = some o) : cb_M l yX4_takeOut cX4_takeOut 2 none 2 shC A T D σ [.ref (A k), .int x1] none o := by
  refine cb_met (by decide +kernel) (Nat.le_of_ble_eq_true rfl) ?_
  intro p e s m below meth c C hs ls hl
  have hl : lv_has ls 2 [(0, .ref (A k)), (1, .int x1)] := hl
  obtain ⟨hx, hb, hml, hr, hown, hts, hK, hlk, hN⟩ := id C
  unfold f_X4_takeOut at hf
  refine lv_aload_n hx hb dX4_takeOut_0 rfl (lv_at hl 0 rfl) ?_
  refine lv_dup hx hb dX4_takeOut_1 rfl ?_
  refine gf_X4_40 C hs hp.1 dX4_takeOut_2 ?_
  refine lv_iconst (v := 1) hx hb dX4_takeOut_5 (by decide) ?_
  refine lv_iload_n hx hb dX4_takeOut_6 rfl (lv_at hl 1 rfl) ?_
  refine lv_ishl hx hb dX4_takeOut_7 ?_
  refine lv_iconst (v := (-1)) hx hb dX4_takeOut_8 (by decide) ?_
  refine lv_ixor hx hb dX4_takeOut_9 ?_
  refine lv_iand hx hb dX4_takeOut_10 ?_
  refine pf_X4_40 C hs hp.1 dX4_takeOut_11 (fun H locs hs => ?_)
  obtain ⟨σ_1, e9, hf⟩ := cb_let_inv hf
  replace hs := cb_Hc e9 hs
  clear e9
  refine lv_aload_n hx hb dX4_takeOut_14 rfl (lv_at hl 0 rfl) ?_
  refine lv_iload_n hx hb dX4_takeOut_15 rfl (lv_at hl 1 rfl) ?_
  obtain ⟨σ_2, hc, hf⟩ := cb_bv_inv hf
  refine cb_callVv C (c_X4_putBelow hp hc) mw_X4_putBelow ml_X4_66 rfl ⟨Nat.le_of_ble_eq_true rfl, Nat.le_of_ble_eq_true rfl⟩ hp.1 (Nat.le_of_ble_eq_true rfl) rfl hs hl rfl (Nat.le_of_ble_eq_true rfl) dX4_takeOut_16 (fun H locs hs => ?_)
  clear hc
  have hf := Option.some.inj hf
  subst hf
  exact cb_retv C hs dX4_takeOut_19
/-! ===== CardBecome$Play.winsOf ===== -/
def f_X4_winsOf (k : Nat) (x1 : Int32) (σ : cb_St)  : Option (Int32) := cb_bp (f_X4_isPerson x1 σ) (fun r_1 => if r_1 = 0 then (some 0) else (cb_ck (0 ≤ Int32.toInt x1 ∧ Int32.toInt x1 < 6) (some (σ.1 (k + 3) (Int32.toNatClampNeg x1)))))
set_option maxHeartbeats 4000000 in
set_option maxRecDepth 100000 in
theorem c_X4_winsOf {k : Nat} {x1 : Int32} {σ : cb_St} (hp : cb_pl k)  {o : Int32} (hf : f_X4_winsOf k x1 σ = some o) : cb_M l yX4_winsOf cX4_winsOf 2 (some .int) 2 shC A T D σ [.ref (A k), .int x1] (some (.int o)) σ := by
  refine cb_met (by decide +kernel) (Nat.le_of_ble_eq_true rfl) ?_
  intro p e s m below meth c C hs ls hl
  have hl : lv_has ls 2 [(0, .ref (A k)), (1, .int x1)] := hl
  obtain ⟨hx, hb, hml, hr, hown, hts, hK, hlk, hN⟩ := id C
  unfold f_X4_winsOf at hf
  refine lv_iload_n hx hb dX4_winsOf_0 rfl (lv_at hl 1 rfl) ?_
  obtain ⟨r_1, hc, hf⟩ := cb_bp_inv hf
  refine cb_callSi C (c_X4_isPerson  hc) mw_X4_isPerson ml_X4_52 rfl ⟨Nat.le_of_ble_eq_true rfl, Nat.le_of_ble_eq_true rfl⟩ hs hl rfl (Nat.le_of_ble_eq_true rfl) dX4_winsOf_1 (fun H locs hs => ?_)
  clear hc
  refine lv_if_eq (tgt := 16) hx hb dX4_winsOf_4 (by decide) (fun cn => ?_) (fun cn => ?_)
  · replace hf := cb_ifp cn hf
    refine lv_iconst (v := 0) hx hb dX4_winsOf_16 (by decide) ?_
    have hf := Option.some.inj hf
    subst hf
    exact cb_reti C hs dX4_winsOf_17
  · replace hf := cb_ifn cn hf
    refine lv_aload_n hx hb dX4_winsOf_7 rfl (lv_at hl 0 rfl) ?_
    refine gf_X4_18 C hs hp.1 dX4_winsOf_8 ?_
    refine lv_iload_n hx hb dX4_winsOf_11 rfl (lv_at hl 1 rfl) ?_
    obtain ⟨hc, hf⟩ := cb_ck_inv hf
    refine cb_iald C hs hp.2.2.2.1 (vp_in_iff.mpr hc) dX4_winsOf_12 ?_
    refine lv_goto (tgt := 17) hx hb dX4_winsOf_13 (by decide) ?_
    have hf := Option.some.inj hf
    subst hf
    exact cb_reti C hs dX4_winsOf_17
end
