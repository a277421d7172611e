section
variable {p : Program} {l : Launch} {e : Env} {s : State} {m : MethodId} {args : Array Value} {below : List Frame} {meth : Method} {c : Code} {A : Nat → Nat} {T : Nat → ClassId} {D : va_G}
/-! ===== java/lang/Integer.bitCount ===== -/
def f_J6_bitCount_0f7a4 (σ : cb_St) (x0 : Int32) : Option (Int32) := cb_let (x0 - (((x0.toUInt32 >>> (Int32.toUInt32 1 &&& Int32.toUInt32 31)).toInt32) &&& 1431655765)) (fun x0_0 => cb_let ((x0_0 &&& 858993459) + (((x0_0.toUInt32 >>> (Int32.toUInt32 2 &&& Int32.toUInt32 31)).toInt32) &&& 858993459)) (fun x0_1 => cb_let ((x0_1 + ((x0_1.toUInt32 >>> (Int32.toUInt32 4 &&& Int32.toUInt32 31)).toInt32)) &&& 252645135) (fun x0_2 => cb_let (x0_2 + ((x0_2.toUInt32 >>> (Int32.toUInt32 8 &&& Int32.toUInt32 31)).toInt32)) (fun x0_3 => cb_let (x0_3 + ((x0_3.toUInt32 >>> (Int32.toUInt32 16 &&& Int32.toUInt32 31)).toInt32)) (fun x0_4 => some (x0_4 &&& 63))))))
set_option maxHeartbeats 4000000 in
set_option maxRecDepth 100000 in
theorem c_J6_bitCount_0f7a4 {σ : cb_St}  {x0 : Int32} {o : Int32} (hf : f_J6_bitCount_0f7a4 σ x0 = some o) : cb_M l yJ6_bitCount_0f7a4 cJ6_bitCount_0f7a4 1 (some .int) 1 shC A T D σ [.int x0] (some (.int o)) σ := by
  refine cb_met (by decide +kernel) (Nat.le_of_ble_eq_true rfl) ?_
  intro p e s m below meth c C hs ls hl
  have hl : lv_has ls 1 [(0, .int x0)] := hl
  obtain ⟨hx, hb, hml, hr, hown, hts, hK, hlk, hN⟩ := id C
  unfold f_J6_bitCount_0f7a4 at hf
  refine lv_iload_n hx hb dJ6_bitCount_0f7a4_0 rfl (lv_at hl 0 rfl) ?_
  refine lv_iload_n hx hb dJ6_bitCount_0f7a4_1 rfl (lv_at hl 0 rfl) ?_
  refine lv_iconst (v := 1) hx hb dJ6_bitCount_0f7a4_2 (by decide) ?_
  refine lv_iushr hx hb dJ6_bitCount_0f7a4_3 rfl ?_
  refine lv_ldcw (v := 1431655765) hx hb hown (hts _ kc_J6_265) dJ6_bitCount_0f7a4_4 ?_
  refine lv_iand hx hb dJ6_bitCount_0f7a4_7 ?_
  refine lv_isub hx hb dJ6_bitCount_0f7a4_8 ?_
  obtain ⟨x0_0, e9, hf⟩ := cb_let_inv hf
  refine cb_topi e9 ?_
  clear e9
  refine lv_istore_n (lv' := [(0, .int x0_0)]) hx hb dJ6_bitCount_0f7a4_9 rfl hl (by decide) rfl (fun ls hl => ?_)
  refine lv_iload_n hx hb dJ6_bitCount_0f7a4_10 rfl (lv_at hl 0 rfl) ?_
  refine lv_ldcw (v := 858993459) hx hb hown (hts _ kc_J6_266) dJ6_bitCount_0f7a4_11 ?_
  refine lv_iand hx hb dJ6_bitCount_0f7a4_14 ?_
  refine lv_iload_n hx hb dJ6_bitCount_0f7a4_15 rfl (lv_at hl 0 rfl) ?_
  refine lv_iconst (v := 2) hx hb dJ6_bitCount_0f7a4_16 (by decide) ?_
  refine lv_iushr hx hb dJ6_bitCount_0f7a4_17 rfl ?_
  refine lv_ldcw (v := 858993459) hx hb hown (hts _ kc_J6_266) dJ6_bitCount_0f7a4_18 ?_
  refine lv_iand hx hb dJ6_bitCount_0f7a4_21 ?_
  refine lv_iadd hx hb dJ6_bitCount_0f7a4_22 ?_
  obtain ⟨x0_1, e9, hf⟩ := cb_let_inv hf
  refine cb_topi e9 ?_
  clear e9
  refine lv_istore_n (lv' := [(0, .int x0_1)]) hx hb dJ6_bitCount_0f7a4_23 rfl hl (by decide) rfl (fun ls hl => ?_)
  refine lv_iload_n hx hb dJ6_bitCount_0f7a4_24 rfl (lv_at hl 0 rfl) ?_
  refine lv_iload_n hx hb dJ6_bitCount_0f7a4_25 rfl (lv_at hl 0 rfl) ?_
  refine lv_iconst (v := 4) hx hb dJ6_bitCount_0f7a4_26 (by decide) ?_
  refine lv_iushr hx hb dJ6_bitCount_0f7a4_27 rfl ?_
  refine lv_iadd hx hb dJ6_bitCount_0f7a4_28 ?_
  refine lv_ldcw (v := 252645135) hx hb hown (hts _ kc_J6_267) dJ6_bitCount_0f7a4_29 ?_
  refine lv_iand hx hb dJ6_bitCount_0f7a4_32 ?_
  obtain ⟨x0_2, e9, hf⟩ := cb_let_inv hf
  refine cb_topi e9 ?_
  clear e9
  refine lv_istore_n (lv' := [(0, .int x0_2)]) hx hb dJ6_bitCount_0f7a4_33 rfl hl (by decide) rfl (fun ls hl => ?_)
  refine lv_iload_n hx hb dJ6_bitCount_0f7a4_34 rfl (lv_at hl 0 rfl) ?_
  refine lv_iload_n hx hb dJ6_bitCount_0f7a4_35 rfl (lv_at hl 0 rfl) ?_
  refine lv_bipush (v := 8) hx hb dJ6_bitCount_0f7a4_36 (by decide) ?_
  refine lv_iushr hx hb dJ6_bitCount_0f7a4_38 rfl ?_
  refine lv_iadd hx hb dJ6_bitCount_0f7a4_39 ?_
  obtain ⟨x0_3, e9, hf⟩ := cb_let_inv hf
  refine cb_topi e9 ?_
  clear e9
  refine lv_istore_n (lv' := [(0, .int x0_3)]) hx hb dJ6_bitCount_0f7a4_40 rfl hl (by decide) rfl (fun ls hl => ?_)
  refine lv_iload_n hx hb dJ6_bitCount_0f7a4_41 rfl (lv_at hl 0 rfl) ?_
  refine lv_iload_n hx hb dJ6_bitCount_0f7a4_42 rfl (lv_at hl 0 rfl) ?_
  refine lv_bipush (v := 16) hx hb dJ6_bitCount_0f7a4_43 (by decide) ?_
  refine lv_iushr hx hb dJ6_bitCount_0f7a4_45 rfl ?_
  refine lv_iadd hx hb dJ6_bitCount_0f7a4_46 ?_
  obtain ⟨x0_4, e9, hf⟩ := cb_let_inv hf
  refine cb_topi e9 ?_
  clear e9
  refine lv_istore_n (lv' := [(0, .int x0_4)]) hx hb dJ6_bitCount_0f7a4_47 rfl hl (by decide) rfl (fun ls hl => ?_)
  refine lv_iload_n hx hb dJ6_bitCount_0f7a4_48 rfl (lv_at hl 0 rfl) ?_
  refine lv_bipush (v := 63) hx hb dJ6_bitCount_0f7a4_49 (by decide) ?_
  refine lv_iand hx hb dJ6_bitCount_0f7a4_51 ?_
  have hf := Option.some.inj hf
  subst hf
  exact cb_reti C hs dJ6_bitCount_0f7a4_52
/-! ===== java/util/Arrays.fill ===== -/
def f_J7_fill_53178_5 (k2 : Nat) (N2 : Nat) (x1 : Int32) : Nat → cb_St → Int32 → Int32 → Option (cb_St)
  | 0, _, _, _ => none
  | fu + 1, σ, x2, x3 => if x3 ≤ x2 then (some σ) else (cb_ck (0 ≤ Int32.toInt x2 ∧ Int32.toInt x2 < N2) (cb_let (cb_sI σ k2 (Int32.toNatClampNeg x2) x1) (fun σ_1 => cb_let (x2 + 1) (fun x2_1 => f_J7_fill_53178_5 k2 N2 x1 fu σ_1 x2_1 x3))))
set_option maxHeartbeats 4000000 in
set_option maxRecDepth 100000 in
theorem w_J7_fill_53178_5 (C : cb_C p s m args meth c cJ7_fill_53178 4 none RJ7 D T) {k2 : Nat} {N2 : Nat} {x1 : Int32} {o : cb_St} (hp2 : shC[k2]? = some (N2 + 20)) : ∀ (fu : Nat) (σ : cb_St) (x2 : Int32) (x3 : Int32), f_J7_fill_53178_5 k2 N2 x1 fu σ x2 x3 = some o → ∀ (H : Heap) (locs : List Loc) (ls : Array Slot), cb_H shC A T D σ s.heap H locs → lv_has ls 4 [(0, .ref (A k2)), (1, .int x1), (2, .int x2), (3, .int x3)] → cb_W p l e 1 s m args below meth c shC A T D none o H locs (F0 m 5 ls []) := by
  obtain ⟨hx, hb, hml, hr, hown, hts, hK, hlk, hN⟩ := id C
  intro fu
  induction fu with
  | zero =>
    intro σ x2 x3 hf
    rw [f_J7_fill_53178_5] at hf
    cases hf
  | succ fu ih =>
    intro σ x2 x3 hf H locs ls hs hl
    rw [f_J7_fill_53178_5] at hf
    refine lv_iload_n hx hb dJ7_fill_53178_5 rfl (lv_at hl 2 rfl) ?_
    refine lv_iload_n hx hb dJ7_fill_53178_6 rfl (lv_at hl 3 rfl) ?_
    refine lv_icmp_ge (tgt := 20) hx hb dJ7_fill_53178_7 (by decide) (fun cn => ?_) (fun cn => ?_)
    · replace hf := cb_ifp cn hf
      have hf := Option.some.inj hf
      subst hf
      exact cb_retv C hs dJ7_fill_53178_20
    · replace hf := cb_ifn cn hf
      refine lv_aload_n hx hb dJ7_fill_53178_10 rfl (lv_at hl 0 rfl) ?_
      refine lv_iload_n hx hb dJ7_fill_53178_11 rfl (lv_at hl 2 rfl) ?_
      refine lv_iload_n hx hb dJ7_fill_53178_12 rfl (lv_at hl 1 rfl) ?_
      obtain ⟨hc, hf⟩ := cb_ck_inv hf
      refine cb_iast C hs hp2 (vp_in_iff.mpr hc) dJ7_fill_53178_13 (fun H locs hs => ?_)
      obtain ⟨σ_1, e9, hf⟩ := cb_let_inv hf
      replace hs := cb_Hc e9 hs
      clear e9
      obtain ⟨x2_1, e9, hf⟩ := cb_let_inv hf
      refine lv_iinc (v := x2_1) (lv' := [(2, .int x2_1), (0, .ref (A k2)), (1, .int x1), (3, .int x3)]) hx hb dJ7_fill_53178_14 hl (k := 2) rfl (by rw [e9]; rfl) (by decide) rfl (fun ls hl => ?_)
      clear e9
      refine lv_goto (tgt := 5) hx hb dJ7_fill_53178_17 (by decide) ?_
      exact ih _ _ _ hf _ _ _ hs (lv_sub hl [1, 2, 0, 3] rfl)
def f_J7_fill_53178 (k2 : Nat) (N2 : Nat) (x1 : Int32) (σ : cb_St) : Option (cb_St) := cb_let (Int32.ofNat N2) (fun x3_0 => f_J7_fill_53178_5 k2 N2 x1 cb_fu σ 0 x3_0)
set_option maxHeartbeats 4000000 in
set_option maxRecDepth 100000 in
theorem c_J7_fill_53178 {k2 : Nat} {N2 : Nat} {x1 : Int32} (hp2 : shC[k2]? = some (N2 + 20)) {σ : cb_St} {o : cb_St} (hf : f_J7_fill_53178 k2 N2 x1 σ = some o) : cb_M l yJ7_fill_53178 cJ7_fill_53178 4 none 1 shC A T D σ [.ref (A k2), .int x1] none o := by
  refine cb_met (by decide +kernel) (Nat.le_of_ble_eq_true rfl) ?_
  intro p e s m below meth c C hs ls hl
  have hl : lv_has ls 4 [(0, .ref (A k2)), (1, .int x1)] := hl
  obtain ⟨hx, hb, hml, hr, hown, hts, hK, hlk, hN⟩ := id C
  unfold f_J7_fill_53178 at hf
  refine lv_iconst (v := 0) hx hb dJ7_fill_53178_0 (by decide) ?_
  refine lv_istore_n (lv' := [(2, .int 0), (0, .ref (A k2)), (1, .int x1)]) hx hb dJ7_fill_53178_1 rfl hl (by decide) rfl (fun ls hl => ?_)
  refine lv_aload_n hx hb dJ7_fill_53178_2 rfl (lv_at hl 1 rfl) ?_
  refine cb_alen C hs hp2 (v := (Int32.ofNat N2)) rfl dJ7_fill_53178_3 ?_
  obtain ⟨x3_0, e9, hf⟩ := cb_let_inv hf
  refine cb_topi e9 ?_
  clear e9
  refine lv_istore_n (lv' := [(3, .int x3_0), (2, .int 0), (0, .ref (A k2)), (1, .int x1)]) hx hb dJ7_fill_53178_4 rfl hl (by decide) rfl (fun ls hl => ?_)
  exact w_J7_fill_53178_5 C hp2 cb_fu _ _ _ hf _ _ _ hs (lv_sub hl [2, 3, 1, 0] rfl)
/-! ===== java/lang/Math.floorMod ===== -/
def f_J9_floorMod_7cf53_18 (x0 : Int32) (x1 : Int32) (σ : cb_St) (x2 : Int32) : Option (Int32) := some x2
set_option maxHeartbeats 4000000 in
set_option maxRecDepth 100000 in
theorem w_J9_floorMod_7cf53_18 (C : cb_C p s m args meth c cJ9_floorMod_7cf53 3 (some .int) RJ9 D T) {x0 : Int32} {x1 : Int32} {σ : cb_St} {o : Int32}  {x2 : Int32} (hf : f_J9_floorMod_7cf53_18 x0 x1 σ x2 = some o) {H : Heap} {locs : List Loc} {ls : Array Slot} (hs : cb_H shC A T D σ s.heap H locs) (hl : lv_has ls 3 [(0, .int x0), (1, .int x1), (2, .int x2)]) : cb_W p l e 1 s m args below meth c shC A T D (some (.int o)) σ H locs (F0 m 18 ls []) := by
  obtain ⟨hx, hb, hml, hr, hown, hts, hK, hlk, hN⟩ := id C
  unfold f_J9_floorMod_7cf53_18 at hf
  refine lv_iload_n hx hb dJ9_floorMod_7cf53_18 rfl (lv_at hl 2 rfl) ?_
  have hf := Option.some.inj hf
  subst hf
  exact cb_reti C hs dJ9_floorMod_7cf53_19
def f_J9_floorMod_7cf53 (x0 : Int32) (x1 : Int32) (σ : cb_St)  : Option (Int32) := cb_ck (¬ x1 = 0) (cb_let (x0 - x0 / x1 * x1) (fun x2_0 => if 0 ≤ (x0 ^^^ x1) then (f_J9_floorMod_7cf53_18 x0 x1 σ x2_0) else (if x2_0 = 0 then (f_J9_floorMod_7cf53_18 x0 x1 σ x2_0) else (some (x2_0 + x1)))))
set_option maxHeartbeats 4000000 in
set_option maxRecDepth 100000 in
theorem c_J9_floorMod_7cf53 {x0 : Int32} {x1 : Int32} {σ : cb_St}   {o : Int32} (hf : f_J9_floorMod_7cf53 x0 x1 σ = some o) : cb_M l yJ9_floorMod_7cf53 cJ9_floorMod_7cf53 3 (some .int) 1 shC A T D σ [.int x0, .int x1] (some (.int o)) σ := by
  refine cb_metF (by decide +kernel) (Nat.le_of_ble_eq_true rfl) ?_
  intro p e s m below meth c C hs ls hl
  have hl : lv_has ls 3 [(0, .int x0), (1, .int x1)] := hl
  obtain ⟨hx, hb, hml, hr, hown, hts, hK, hlk, hN⟩ := id C
  unfold f_J9_floorMod_7cf53 at hf
  refine lv_iload_n hx hb dJ9_floorMod_7cf53_0 rfl (lv_at hl 0 rfl) ?_
  refine lv_iload_n hx hb dJ9_floorMod_7cf53_1 rfl (lv_at hl 1 rfl) ?_
  obtain ⟨hc, hf⟩ := cb_ck_inv hf
  refine lv_irem hx hb dJ9_floorMod_7cf53_2 hc ?_
  obtain ⟨x2_0, e9, hf⟩ := cb_let_inv hf
  refine cb_topi e9 ?_
  clear e9
  refine lv_istore_n (lv' := [(2, .int x2_0), (0, .int x0), (1, .int x1)]) hx hb dJ9_floorMod_7cf53_3 rfl hl (by decide) rfl (fun ls hl => ?_)
  refine lv_iload_n hx hb dJ9_floorMod_7cf53_4 rfl (lv_at hl 1 rfl) ?_
  refine lv_iload_n hx hb dJ9_floorMod_7cf53_5 rfl (lv_at hl 2 rfl) ?_
  refine lv_ixor hx hb dJ9_floorMod_7cf53_6 ?_
  refine lv_if_ge (tgt := 18) hx hb dJ9_floorMod_7cf53_7 (by decide) (fun cn => ?_) (fun cn => ?_)
  · replace hf := cb_ifp cn hf
    exact w_J9_floorMod_7cf53_18 C  hf hs (lv_sub hl [1, 2, 0] rfl)
  · replace hf := cb_ifn cn hf
    refine lv_iload_n hx hb dJ9_floorMod_7cf53_10 rfl (lv_at hl 0 rfl) ?_
    refine lv_if_eq (tgt := 18) hx hb dJ9_floorMod_7cf53_11 (by decide) (fun cn => ?_) (fun cn => ?_)
    · replace hf := cb_ifp cn hf
      exact w_J9_floorMod_7cf53_18 C  hf hs (lv_sub hl [1, 2, 0] rfl)
    · replace hf := cb_ifn cn hf
      refine lv_iload_n hx hb dJ9_floorMod_7cf53_14 rfl (lv_at hl 0 rfl) ?_
      refine lv_iload_n hx hb dJ9_floorMod_7cf53_15 rfl (lv_at hl 2 rfl) ?_
      refine lv_iadd hx hb dJ9_floorMod_7cf53_16 ?_
      have hf := Option.some.inj hf
      subst hf
      exact cb_reti C hs dJ9_floorMod_7cf53_17
/-! ===== java/lang/Math.max ===== -/
def f_J9_max_7cf53 (x0 : Int32) (x1 : Int32) (σ : cb_St)  : Option (Int32) := if x0 < x1 then (some x1) else (some x0)
set_option maxHeartbeats 4000000 in
set_option maxRecDepth 100000 in
theorem c_J9_max_7cf53 {x0 : Int32} {x1 : Int32} {σ : cb_St}   {o : Int32} (hf : f_J9_max_7cf53 x0 x1 σ = some o) : cb_M l yJ9_max_7cf53 cJ9_max_7cf53 2 (some .int) 1 shC A T D σ [.int x0, .int x1] (some (.int o)) σ := by
  refine cb_metF (by decide +kernel) (Nat.le_of_ble_eq_true rfl) ?_
  intro p e s m below meth c C hs ls hl
  have hl : lv_has ls 2 [(0, .int x0), (1, .int x1)] := hl
  obtain ⟨hx, hb, hml, hr, hown, hts, hK, hlk, hN⟩ := id C
  unfold f_J9_max_7cf53 at hf
  refine lv_iload_n hx hb dJ9_max_7cf53_0 rfl (lv_at hl 0 rfl) ?_
  refine lv_iload_n hx hb dJ9_max_7cf53_1 rfl (lv_at hl 1 rfl) ?_
  refine lv_icmp_lt (tgt := 9) hx hb dJ9_max_7cf53_2 (by decide) (fun cn => ?_) (fun cn => ?_)
  · replace hf := cb_ifp cn hf
    refine lv_iload_n hx hb dJ9_max_7cf53_9 rfl (lv_at hl 1 rfl) ?_
    have hf := Option.some.inj hf
    subst hf
    exact cb_reti C hs dJ9_max_7cf53_10
  · replace hf := cb_ifn cn hf
    refine lv_iload_n hx hb dJ9_max_7cf53_5 rfl (lv_at hl 0 rfl) ?_
    refine lv_goto (tgt := 10) hx hb dJ9_max_7cf53_6 (by decide) ?_
    have hf := Option.some.inj hf
    subst hf
    exact cb_reti C hs dJ9_max_7cf53_10
/-! ===== java/lang/Math.min ===== -/
def f_J9_min_7cf53 (x0 : Int32) (x1 : Int32) (σ : cb_St)  : Option (Int32) := if x1 < x0 then (some x1) else (some x0)
set_option maxHeartbeats 4000000 in
set_option maxRecDepth 100000 in
theorem c_J9_min_7cf53 {x0 : Int32} {x1 : Int32} {σ : cb_St}   {o : Int32} (hf : f_J9_min_7cf53 x0 x1 σ = some o) : cb_M l yJ9_min_7cf53 cJ9_min_7cf53 2 (some .int) 1 shC A T D σ [.int x0, .int x1] (some (.int o)) σ := by
  refine cb_metF (by decide +kernel) (Nat.le_of_ble_eq_true rfl) ?_
  intro p e s m below meth c C hs ls hl
  have hl : lv_has ls 2 [(0, .int x0), (1, .int x1)] := hl
  obtain ⟨hx, hb, hml, hr, hown, hts, hK, hlk, hN⟩ := id C
  unfold f_J9_min_7cf53 at hf
  refine lv_iload_n hx hb dJ9_min_7cf53_0 rfl (lv_at hl 0 rfl) ?_
  refine lv_iload_n hx hb dJ9_min_7cf53_1 rfl (lv_at hl 1 rfl) ?_
  refine lv_icmp_gt (tgt := 9) hx hb dJ9_min_7cf53_2 (by decide) (fun cn => ?_) (fun cn => ?_)
  · replace hf := cb_ifp cn hf
    refine lv_iload_n hx hb dJ9_min_7cf53_9 rfl (lv_at hl 1 rfl) ?_
    have hf := Option.some.inj hf
    subst hf
    exact cb_reti C hs dJ9_min_7cf53_10
  · replace hf := cb_ifn cn hf
    refine lv_iload_n hx hb dJ9_min_7cf53_5 rfl (lv_at hl 0 rfl) ?_
    refine lv_goto (tgt := 10) hx hb dJ9_min_7cf53_6 (by decide) ?_
    have hf := Option.some.inj hf
    subst hf
    exact cb_reti C hs dJ9_min_7cf53_10
/-! ===== CardBecome$Table.isBeaten ===== -/
def f_X6_isBeaten_31 (k : Nat) (x1 : Int32) (x2 : Int32) (σ : cb_St)  : Option (Int32) := some 1
set_option maxHeartbeats 4000000 in
set_option maxRecDepth 100000 in
theorem w_X6_isBeaten_31 (C : cb_C p s m args meth c cX6_isBeaten 3 (some .boolean) RX6 D T) {k : Nat} {x1 : Int32} {x2 : Int32} {σ : cb_St} {o : Int32} (hp : cb_tb k)  (hf : f_X6_isBeaten_31 k x1 x2 σ = some o) {H : Heap} {locs : List Loc} {ls : Array Slot} (hs : cb_H shC A T D σ s.heap H locs) (hl : lv_has ls 3 [(0, .ref (A k)), (1, .int x1), (2, .int x2)]) : cb_W p l e 1 s m args below meth c shC A T D (some (.int o)) σ H locs (F0 m 31 ls []) := by
  obtain ⟨hx, hb, hml, hr, hown, hts, hK, hlk, hN⟩ := id C
  unfold f_X6_isBeaten_31 at hf
  refine lv_iconst (v := 1) hx hb dX6_isBeaten_31 (by decide) ?_
  refine lv_goto (tgt := 36) hx hb dX6_isBeaten_32 (by decide) ?_
  have hf := Option.some.inj hf
  subst hf
  exact cb_retz C hs (Or.inr rfl) dX6_isBeaten_36
def f_X6_isBeaten_10 (k : Nat) (x1 : Int32) (x2 : Int32) (σ : cb_St)  : Option (Int32) := some 0
set_option maxHeartbeats 4000000 in
set_option maxRecDepth 100000 in
theorem w_X6_isBeaten_10 (C : cb_C p s m args meth c cX6_isBeaten 3 (some .boolean) RX6 D T) {k : Nat} {x1 : Int32} {x2 : Int32} {σ : cb_St} {o : Int32} (hp : cb_tb k)  (hf : f_X6_isBeaten_10 k x1 x2 σ = some o) {H : Heap} {locs : List Loc} {ls : Array Slot} (hs : cb_H shC A T D σ s.heap H locs) (hl : lv_has ls 3 [(0, .ref (A k)), (1, .int x1), (2, .int x2)]) : cb_W p l e 1 s m args below meth c shC A T D (some (.int o)) σ H locs (F0 m 10 ls []) := by
  obtain ⟨hx, hb, hml, hr, hown, hts, hK, hlk, hN⟩ := id C
  unfold f_X6_isBeaten_10 at hf
  refine lv_iconst (v := 0) hx hb dX6_isBeaten_10 (by decide) ?_
  have hf := Option.some.inj hf
  subst hf
  exact cb_retz C hs (Or.inl rfl) dX6_isBeaten_11
def f_X6_isBeaten (k : Nat) (x1 : Int32) (x2 : Int32) (σ : cb_St)  : Option (Int32) := if x2 < 0 then (f_X6_isBeaten_10 k x1 x2 σ) else (if x2 < 12 then (if x1 = (-1) then (f_X6_isBeaten_31 k x1 x2 σ) else (cb_ck (0 ≤ Int32.toInt x2 ∧ Int32.toInt x2 < 12) (if (((σ.1 (k + 3) (Int32.toNatClampNeg x2)) >>> (x1 &&& 31)) &&& 1) = 1 then (f_X6_isBeaten_31 k x1 x2 σ) else (some 0)))) else (f_X6_isBeaten_10 k x1 x2 σ))
set_option maxHeartbeats 4000000 in
set_option maxRecDepth 100000 in
theorem c_X6_isBeaten {k : Nat} {x1 : Int32} {x2 : Int32} {σ : cb_St} (hp : cb_tb k)  {o : Int32} (hf : f_X6_isBeaten k x1 x2 σ = some o) : cb_M l yX6_isBeaten cX6_isBeaten 3 (some .boolean) 1 shC A T D σ [.ref (A k), .int x1, .int x2] (some (.int o)) σ := by
  refine cb_met (by decide +kernel) (Nat.le_of_ble_eq_true rfl) ?_
  intro p e s m below meth c C hs ls hl
  have hl : lv_has ls 3 [(0, .ref (A k)), (1, .int x1), (2, .int x2)] := hl
  obtain ⟨hx, hb, hml, hr, hown, hts, hK, hlk, hN⟩ := id C
  unfold f_X6_isBeaten at hf
  refine lv_iload_n hx hb dX6_isBeaten_0 rfl (lv_at hl 2 rfl) ?_
  refine lv_if_lt (tgt := 10) hx hb dX6_isBeaten_1 (by decide) (fun cn => ?_) (fun cn => ?_)
  · replace hf := cb_ifp cn hf
    exact w_X6_isBeaten_10 C hp hf hs (lv_sub hl [0, 1, 2] rfl)
  · replace hf := cb_ifn cn hf
    refine lv_iload_n hx hb dX6_isBeaten_4 rfl (lv_at hl 2 rfl) ?_
    refine lv_bipush (v := 12) hx hb dX6_isBeaten_5 (by decide) ?_
    refine lv_icmp_lt (tgt := 12) hx hb dX6_isBeaten_7 (by decide) (fun cn => ?_) (fun cn => ?_)
    · replace hf := cb_ifp cn hf
      refine lv_iload_n hx hb dX6_isBeaten_12 rfl (lv_at hl 1 rfl) ?_
      refine lv_iconst (v := (-1)) hx hb dX6_isBeaten_13 (by decide) ?_
      refine lv_icmp_eq (tgt := 31) hx hb dX6_isBeaten_14 (by decide) (fun cn => ?_) (fun cn => ?_)
      · replace hf := cb_ifp cn hf
        exact w_X6_isBeaten_31 C hp hf hs (lv_sub hl [0, 1, 2] rfl)
      · replace hf := cb_ifn cn hf
        refine lv_aload_n hx hb dX6_isBeaten_17 rfl (lv_at hl 0 rfl) ?_
        refine gf_X6_22 C hs hp.1 dX6_isBeaten_18 ?_
        refine lv_iload_n hx hb dX6_isBeaten_21 rfl (lv_at hl 2 rfl) ?_
        obtain ⟨hc, hf⟩ := cb_ck_inv hf
        refine cb_iald C hs hp.2.2.2 (vp_in_iff.mpr hc) dX6_isBeaten_22 ?_
        refine lv_iload_n hx hb dX6_isBeaten_23 rfl (lv_at hl 1 rfl) ?_
        refine lv_ishr hx hb dX6_isBeaten_24 ?_
        refine lv_iconst (v := 1) hx hb dX6_isBeaten_25 (by decide) ?_
        refine lv_iand hx hb dX6_isBeaten_26 ?_
        refine lv_iconst (v := 1) hx hb dX6_isBeaten_27 (by decide) ?_
        refine lv_icmp_ne (tgt := 35) hx hb dX6_isBeaten_28 (by decide) (fun cn => ?_) (fun cn => ?_)
        · replace hf := cb_ifn cn hf
          refine lv_iconst (v := 0) hx hb dX6_isBeaten_35 (by decide) ?_
          have hf := Option.some.inj hf
          subst hf
          exact cb_retz C hs (Or.inl rfl) dX6_isBeaten_36
        · replace hf := cb_ifp cn hf
          exact w_X6_isBeaten_31 C hp hf hs (lv_sub hl [0, 1, 2] rfl)
    · replace hf := cb_ifn cn hf
      exact w_X6_isBeaten_10 C hp hf hs (lv_sub hl [0, 1, 2] rfl)
/-! ===== CardBecome$Table.between ===== -/
def f_X6_between (k : Nat) (x1 : Int32) (x2 : Int32) (σ : cb_St)  : Option (Int32) := cb_bp (f_X6_isBeaten k x2 x1 σ) (fun r_1 => if r_1 = 0 then (cb_bp (f_X6_isBeaten k x1 x2 σ) (fun r_2 => if r_2 = 0 then (some 2) else (some 1))) else (some 0))
set_option maxHeartbeats 4000000 in
set_option maxRecDepth 100000 in
theorem c_X6_between {k : Nat} {x1 : Int32} {x2 : Int32} {σ : cb_St} (hp : cb_tb k)  {o : Int32} (hf : f_X6_between k x1 x2 σ = some o) : cb_M l yX6_between cX6_between 3 (some .int) 2 shC A T D σ [.ref (A k), .int x1, .int x2] (some (.int o)) σ := by
  refine cb_met (by decide +kernel) (Nat.le_of_ble_eq_true rfl) ?_
  intro p e s m below meth c C hs ls hl
  have hl : lv_has ls 3 [(0, .ref (A k)), (1, .int x1), (2, .int x2)] := hl
  obtain ⟨hx, hb, hml, hr, hown, hts, hK, hlk, hN⟩ := id C
  unfold f_X6_between at hf
  refine lv_aload_n hx hb dX6_between_0 rfl (lv_at hl 0 rfl) ?_
  refine lv_iload_n hx hb dX6_between_1 rfl (lv_at hl 2 rfl) ?_
  refine lv_iload_n hx hb dX6_between_2 rfl (lv_at hl 1 rfl) ?_
  obtain ⟨r_1, hc, hf⟩ := cb_bp_inv hf
  refine cb_callVi C (c_X6_isBeaten hp hc) mw_X6_isBeaten ml_X6_67 rfl ⟨Nat.le_of_ble_eq_true rfl, Nat.le_of_ble_eq_true rfl⟩ hp.1 (Nat.le_of_ble_eq_true rfl) rfl hs hl rfl (Nat.le_of_ble_eq_true rfl) dX6_between_3 (fun H locs hs => ?_)
  clear hc
  refine lv_if_eq (tgt := 11) hx hb dX6_between_6 (by decide) (fun cn => ?_) (fun cn => ?_)
  · replace hf := cb_ifp cn hf
    refine lv_aload_n hx hb dX6_between_11 rfl (lv_at hl 0 rfl) ?_
    refine lv_iload_n hx hb dX6_between_12 rfl (lv_at hl 1 rfl) ?_
    refine lv_iload_n hx hb dX6_between_13 rfl (lv_at hl 2 rfl) ?_
    obtain ⟨r_2, hc, hf⟩ := cb_bp_inv hf
    refine cb_callVi C (c_X6_isBeaten hp hc) mw_X6_isBeaten ml_X6_67 rfl ⟨Nat.le_of_ble_eq_true rfl, Nat.le_of_ble_eq_true rfl⟩ hp.1 (Nat.le_of_ble_eq_true rfl) rfl hs hl rfl (Nat.le_of_ble_eq_true rfl) dX6_between_14 (fun H locs hs => ?_)
    clear hc
    refine lv_if_eq (tgt := 24) hx hb dX6_between_17 (by decide) (fun cn => ?_) (fun cn => ?_)
    · replace hf := cb_ifp cn hf
      refine lv_iconst (v := 2) hx hb dX6_between_24 (by decide) ?_
      have hf := Option.some.inj hf
      subst hf
      exact cb_reti C hs dX6_between_25
    · replace hf := cb_ifn cn hf
      refine lv_iconst (v := 1) hx hb dX6_between_20 (by decide) ?_
      refine lv_goto (tgt := 25) hx hb dX6_between_21 (by decide) ?_
      have hf := Option.some.inj hf
      subst hf
      exact cb_reti C hs dX6_between_25
  · replace hf := cb_ifn cn hf
    refine lv_iconst (v := 0) hx hb dX6_between_9 (by decide) ?_
    have hf := Option.some.inj hf
    subst hf
    exact cb_reti C hs dX6_between_10
/-! ===== CardBecome$Papers.entry ===== -/
def f_X2_entry_15 (k2 : Nat) (N2 : Nat) (x1 : Int32) (x2 : Int32) (σ : cb_St)  : Option (Int32) := some (-1)
set_option maxHeartbeats 4000000 in
set_option maxRecDepth 100000 in
theorem w_X2_entry_15 (C : cb_C p s m args meth c cX2_entry 3 (some .int) RX2 D T) {k2 : Nat} {N2 : Nat} {x1 : Int32} {x2 : Int32} {σ : cb_St} {o : Int32} (hp2 : shC[k2]? = some (N2 + 20))  (hf : f_X2_entry_15 k2 N2 x1 x2 σ = some o) {H : Heap} {locs : List Loc} {ls : Array Slot} (hs : cb_H shC A T D σ s.heap H locs) (hl : lv_has ls 3 [(0, .ref (A k2)), (1, .int x1), (2, .int x2)]) : cb_W p l e 1 s m args below meth c shC A T D (some (.int o)) σ H locs (F0 m 15 ls []) := by
  obtain ⟨hx, hb, hml, hr, hown, hts, hK, hlk, hN⟩ := id C
  unfold f_X2_entry_15 at hf
  refine lv_iconst (v := (-1)) hx hb dX2_entry_15 (by decide) ?_
  refine lv_goto (tgt := 22) hx hb dX2_entry_16 (by decide) ?_
  have hf := Option.some.inj hf
  subst hf
  exact cb_reti C hs dX2_entry_22
def f_X2_entry (k2 : Nat) (N2 : Nat) (x1 : Int32) (x2 : Int32) (σ : cb_St)  : Option (Int32) := if x1 < 0 then (f_X2_entry_15 k2 N2 x1 x2 σ) else (if x2 ≤ x1 then (f_X2_entry_15 k2 N2 x1 x2 σ) else (if x1 < (Int32.ofNat N2) then (cb_ck (0 ≤ Int32.toInt x1 ∧ Int32.toInt x1 < N2) (some (σ.1 k2 (Int32.toNatClampNeg x1)))) else (f_X2_entry_15 k2 N2 x1 x2 σ)))
set_option maxHeartbeats 4000000 in
set_option maxRecDepth 100000 in
theorem c_X2_entry {k2 : Nat} {N2 : Nat} {x1 : Int32} {x2 : Int32} {σ : cb_St} (hp2 : shC[k2]? = some (N2 + 20))  {o : Int32} (hf : f_X2_entry k2 N2 x1 x2 σ = some o) : cb_M l yX2_entry cX2_entry 3 (some .int) 1 shC A T D σ [.ref (A k2), .int x1, .int x2] (some (.int o)) σ := by
  refine cb_met (by decide +kernel) (Nat.le_of_ble_eq_true rfl) ?_
  intro p e s m below meth c C hs ls hl
  have hl : lv_has ls 3 [(0, .ref (A k2)), (1, .int x1), (2, .int x2)] := hl
  obtain ⟨hx, hb, hml, hr, hown, hts, hK, hlk, hN⟩ := id C
  unfold f_X2_entry at hf
  refine lv_iload_n hx hb dX2_entry_0 rfl (lv_at hl 1 rfl) ?_
  refine lv_if_lt (tgt := 15) hx hb dX2_entry_1 (by decide) (fun cn => ?_) (fun cn => ?_)
  · replace hf := cb_ifp cn hf
    exact w_X2_entry_15 C hp2 hf hs (lv_sub hl [0, 1, 2] rfl)
  · replace hf := cb_ifn cn hf
    refine lv_iload_n hx hb dX2_entry_4 rfl (lv_at hl 1 rfl) ?_
    refine lv_iload_n hx hb dX2_entry_5 rfl (lv_at hl 2 rfl) ?_
    refine lv_icmp_ge (tgt := 15) hx hb dX2_entry_6 (by decide) (fun cn => ?_) (fun cn => ?_)
    · replace hf := cb_ifp cn hf
      exact w_X2_entry_15 C hp2 hf hs (lv_sub hl [0, 1, 2] rfl)
    · replace hf := cb_ifn cn hf
      refine lv_iload_n hx hb dX2_entry_9 rfl (lv_at hl 1 rfl) ?_
      refine lv_aload_n hx hb dX2_entry_10 rfl (lv_at hl 0 rfl) ?_
      refine cb_alen C hs hp2 (v := (Int32.ofNat N2)) rfl dX2_entry_11 ?_
      refine lv_icmp_lt (tgt := 19) hx hb dX2_entry_12 (by decide) (fun cn => ?_) (fun cn => ?_)
      · replace hf := cb_ifp cn hf
        refine lv_aload_n hx hb dX2_entry_19 rfl (lv_at hl 0 rfl) ?_
        refine lv_iload_n hx hb dX2_entry_20 rfl (lv_at hl 1 rfl) ?_
        obtain ⟨hc, hf⟩ := cb_ck_inv hf
        refine cb_iald C hs hp2 (vp_in_iff.mpr hc) dX2_entry_21 ?_
        have hf := Option.some.inj hf
        subst hf
        exact cb_reti C hs dX2_entry_22
      · replace hf := cb_ifn cn hf
        exact w_X2_entry_15 C hp2 hf hs (lv_sub hl [0, 1, 2] rfl)
/-! ===== CardBecome$Papers.firstSeen ===== -/
def f_X2_firstSeen (x1 : Int32) (σ : cb_St)  : Option (Int32) := cb_bp (f_X2_entry 101 6 x1 (σ.1 100 0) σ) (fun r_1 => some r_1)
set_option maxHeartbeats 4000000 in
set_option maxRecDepth 100000 in
theorem c_X2_firstSeen {x1 : Int32} {σ : cb_St}   {o : Int32} (hf : f_X2_firstSeen x1 σ = some o) : cb_M l yX2_firstSeen cX2_firstSeen 2 (some .int) 2 shC A T D σ [.ref (A 100), .int x1] (some (.int o)) σ := by
  refine cb_met (by decide +kernel) (Nat.le_of_ble_eq_true rfl) ?_
  intro p e s m below meth c C hs ls hl
  have hl : lv_has ls 2 [(0, .ref (A 100)), (1, .int x1)] := hl
  obtain ⟨hx, hb, hml, hr, hown, hts, hK, hlk, hN⟩ := id C
  unfold f_X2_firstSeen at hf
  refine lv_aload_n hx hb dX2_firstSeen_0 rfl (lv_at hl 0 rfl) ?_
  refine gf_X2_9 C hs rfl dX2_firstSeen_1 ?_
  refine lv_iload_n hx hb dX2_firstSeen_4 rfl (lv_at hl 1 rfl) ?_
  refine lv_aload_n hx hb dX2_firstSeen_5 rfl (lv_at hl 0 rfl) ?_
  refine gf_X2_27 C hs rfl dX2_firstSeen_6 ?_
  obtain ⟨r_1, hc, hf⟩ := cb_bp_inv hf
  refine cb_callSi C (c_X2_entry rfl hc) mw_X2_entry ml_X2_34 rfl ⟨Nat.le_of_ble_eq_true rfl, Nat.le_of_ble_eq_true rfl⟩ hs hl rfl (Nat.le_of_ble_eq_true rfl) dX2_firstSeen_9 (fun H locs hs => ?_)
  clear hc
  have hf := Option.some.inj hf
  subst hf
  exact cb_reti C hs dX2_firstSeen_12
/-! ===== CardBecome$Papers.secondSeen ===== -/
def f_X2_secondSeen (x1 : Int32) (σ : cb_St)  : Option (Int32) := cb_bp (f_X2_entry 102 6 x1 (σ.1 100 0) σ) (fun r_1 => some r_1)
set_option maxHeartbeats 4000000 in
set_option maxRecDepth 100000 in
theorem c_X2_secondSeen {x1 : Int32} {σ : cb_St}   {o : Int32} (hf : f_X2_secondSeen x1 σ = some o) : cb_M l yX2_secondSeen cX2_secondSeen 2 (some .int) 2 shC A T D σ [.ref (A 100), .int x1] (some (.int o)) σ := by
  refine cb_met (by decide +kernel) (Nat.le_of_ble_eq_true rfl) ?_
  intro p e s m below meth c C hs ls hl
  have hl : lv_has ls 2 [(0, .ref (A 100)), (1, .int x1)] := hl
  obtain ⟨hx, hb, hml, hr, hown, hts, hK, hlk, hN⟩ := id C
  unfold f_X2_secondSeen at hf
  refine lv_aload_n hx hb dX2_secondSeen_0 rfl (lv_at hl 0 rfl) ?_
  refine gf_X2_15 C hs rfl dX2_secondSeen_1 ?_
  refine lv_iload_n hx hb dX2_secondSeen_4 rfl (lv_at hl 1 rfl) ?_
  refine lv_aload_n hx hb dX2_secondSeen_5 rfl (lv_at hl 0 rfl) ?_
  refine gf_X2_27 C hs rfl dX2_secondSeen_6 ?_
  obtain ⟨r_1, hc, hf⟩ := cb_bp_inv hf
  refine cb_callSi C (c_X2_entry rfl hc) mw_X2_entry ml_X2_34 rfl ⟨Nat.le_of_ble_eq_true rfl, Nat.le_of_ble_eq_true rfl⟩ hs hl rfl (Nat.le_of_ble_eq_true rfl) dX2_secondSeen_9 (fun H locs hs => ?_)
  clear hc
  have hf := Option.some.inj hf
  subst hf
  exact cb_reti C hs dX2_secondSeen_12
/-! ===== CardBecome$Papers.whoSeen ===== -/
def f_X2_whoSeen (x1 : Int32) (σ : cb_St)  : Option (Int32) := cb_bp (f_X2_entry 103 6 x1 (σ.1 100 0) σ) (fun r_1 => some r_1)
set_option maxHeartbeats 4000000 in
set_option maxRecDepth 100000 in
theorem c_X2_whoSeen {x1 : Int32} {σ : cb_St}   {o : Int32} (hf : f_X2_whoSeen x1 σ = some o) : cb_M l yX2_whoSeen cX2_whoSeen 2 (some .int) 2 shC A T D σ [.ref (A 100), .int x1] (some (.int o)) σ := by
  refine cb_met (by decide +kernel) (Nat.le_of_ble_eq_true rfl) ?_
  intro p e s m below meth c C hs ls hl
  have hl : lv_has ls 2 [(0, .ref (A 100)), (1, .int x1)] := hl
  obtain ⟨hx, hb, hml, hr, hown, hts, hK, hlk, hN⟩ := id C
  unfold f_X2_whoSeen at hf
  refine lv_aload_n hx hb dX2_whoSeen_0 rfl (lv_at hl 0 rfl) ?_
  refine gf_X2_18 C hs rfl dX2_whoSeen_1 ?_
  refine lv_iload_n hx hb dX2_whoSeen_4 rfl (lv_at hl 1 rfl) ?_
  refine lv_aload_n hx hb dX2_whoSeen_5 rfl (lv_at hl 0 rfl) ?_
  refine gf_X2_27 C hs rfl dX2_whoSeen_6 ?_
  obtain ⟨r_1, hc, hf⟩ := cb_bp_inv hf
  refine cb_callSi C (c_X2_entry rfl hc) mw_X2_entry ml_X2_34 rfl ⟨Nat.le_of_ble_eq_true rfl, Nat.le_of_ble_eq_true rfl⟩ hs hl rfl (Nat.le_of_ble_eq_true rfl) dX2_whoSeen_9 (fun H locs hs => ?_)
  clear hc
  have hf := Option.some.inj hf
  subst hf
  exact cb_reti C hs dX2_whoSeen_12
/-! ===== CardBecome$Papers.addSeen ===== -/
def f_X2_addSeen_16 (x1 : Int32) (x2 : Int32) (x3 : Int32) (σ : cb_St) : Option (Int32 × cb_St) := some (0, σ)
set_option maxHeartbeats 4000000 in
set_option maxRecDepth 100000 in
theorem w_X2_addSeen_16 (C : cb_C p s m args meth c cX2_addSeen 4 (some .boolean) RX2 D T) {x1 : Int32} {x2 : Int32} {x3 : Int32} {o : Int32 × cb_St}  {σ : cb_St} (hf : f_X2_addSeen_16 x1 x2 x3 σ = some o) {H : Heap} {locs : List Loc} {ls : Array Slot} (hs : cb_H shC A T D σ s.heap H locs) (hl : lv_has ls 4 [(0, .ref (A 100)), (1, .int x1), (2, .int x2), (3, .int x3)]) : cb_W p l e 1 s m args below meth c shC A T D (some (.int o.1)) o.2 H locs (F0 m 16 ls []) := by
  obtain ⟨hx, hb, hml, hr, hown, hts, hK, hlk, hN⟩ := id C
  unfold f_X2_addSeen_16 at hf
  refine lv_iconst (v := 0) hx hb dX2_addSeen_16 (by decide) ?_
  have hf := Option.some.inj hf
  subst hf
  exact cb_retz C hs (Or.inl rfl) dX2_addSeen_17
def f_X2_addSeen (x1 : Int32) (x2 : Int32) (x3 : Int32) (σ : cb_St) : Option (Int32 × cb_St) := if (σ.1 100 0) < 0 then (f_X2_addSeen_16 x1 x2 x3 σ) else (if (σ.1 100 0) < 6 then (cb_ck (0 ≤ Int32.toInt (σ.1 100 0) ∧ Int32.toInt (σ.1 100 0) < 6) (cb_let (cb_sI σ 101 (Int32.toNatClampNeg (σ.1 100 0)) x1) (fun σ_1 => cb_ck (0 ≤ Int32.toInt (σ_1.1 100 0) ∧ Int32.toInt (σ_1.1 100 0) < 6) (cb_let (cb_sI σ_1 102 (Int32.toNatClampNeg (σ_1.1 100 0)) x2) (fun σ_2 => cb_ck (0 ≤ Int32.toInt (σ_2.1 100 0) ∧ Int32.toInt (σ_2.1 100 0) < 6) (cb_let (cb_sI σ_2 103 (Int32.toNatClampNeg (σ_2.1 100 0)) x3) (fun σ_3 => cb_let (cb_sI σ_3 100 0 ((σ_3.1 100 0) + 1)) (fun σ_4 => some (1, σ_4))))))))) else (f_X2_addSeen_16 x1 x2 x3 σ))
set_option maxHeartbeats 4000000 in
set_option maxRecDepth 100000 in
theorem c_X2_addSeen {x1 : Int32} {x2 : Int32} {x3 : Int32}  {σ : cb_St} {o : Int32 × cb_St} (hf : f_X2_addSeen x1 x2 x3 σ = some o) : cb_M l yX2_addSeen cX2_addSeen 4 (some .boolean) 1 shC A T D σ [.ref (A 100), .int x1, .int x2, .int x3] (some (.int o.1)) o.2 := by
  refine cb_met (by decide +kernel) (Nat.le_of_ble_eq_true rfl) ?_
  intro p e s m below meth c C hs ls hl
  have hl : lv_has ls 4 [(0, .ref (A 100)), (1, .int x1), (2, .int x2), (3, .int x3)] := hl
  obtain ⟨hx, hb, hml, hr, hown, hts, hK, hlk, hN⟩ := id C
  unfold f_X2_addSeen at hf
  refine lv_aload_n hx hb dX2_addSeen_0 rfl (lv_at hl 0 rfl) ?_
  refine gf_X2_27 C hs rfl dX2_addSeen_1 ?_
  refine lv_if_lt (tgt := 16) hx hb dX2_addSeen_4 (by decide) (fun cn => ?_) (fun cn => ?_)
  · replace hf := cb_ifp cn hf
    exact w_X2_addSeen_16 C  hf hs (lv_sub hl [0, 1, 2, 3] rfl)
  · replace hf := cb_ifn cn hf
    refine lv_aload_n hx hb dX2_addSeen_7 rfl (lv_at hl 0 rfl) ?_
    refine gf_X2_27 C hs rfl dX2_addSeen_8 ?_
    refine lv_bipush (v := 6) hx hb dX2_addSeen_11 (by decide) ?_
    refine lv_icmp_lt (tgt := 18) hx hb dX2_addSeen_13 (by decide) (fun cn => ?_) (fun cn => ?_)
    · replace hf := cb_ifp cn hf
      refine lv_aload_n hx hb dX2_addSeen_18 rfl (lv_at hl 0 rfl) ?_
      refine gf_X2_9 C hs rfl dX2_addSeen_19 ?_
      refine lv_aload_n hx hb dX2_addSeen_22 rfl (lv_at hl 0 rfl) ?_
      refine gf_X2_27 C hs rfl dX2_addSeen_23 ?_
      refine lv_iload_n hx hb dX2_addSeen_26 rfl (lv_at hl 1 rfl) ?_
      obtain ⟨hc, hf⟩ := cb_ck_inv hf
      refine cb_iast C hs rfl (vp_in_iff.mpr hc) dX2_addSeen_27 (fun H locs hs => ?_)
      obtain ⟨σ_1, e9, hf⟩ := cb_let_inv hf
      replace hs := cb_Hc e9 hs
      clear e9
      refine lv_aload_n hx hb dX2_addSeen_28 rfl (lv_at hl 0 rfl) ?_
      refine gf_X2_15 C hs rfl dX2_addSeen_29 ?_
      refine lv_aload_n hx hb dX2_addSeen_32 rfl (lv_at hl 0 rfl) ?_
      refine gf_X2_27 C hs rfl dX2_addSeen_33 ?_
      refine lv_iload_n hx hb dX2_addSeen_36 rfl (lv_at hl 2 rfl) ?_
      obtain ⟨hc, hf⟩ := cb_ck_inv hf
      refine cb_iast C hs rfl (vp_in_iff.mpr hc) dX2_addSeen_37 (fun H locs hs => ?_)
      obtain ⟨σ_2, e9, hf⟩ := cb_let_inv hf
      replace hs := cb_Hc e9 hs
      clear e9
      refine lv_aload_n hx hb dX2_addSeen_38 rfl (lv_at hl 0 rfl) ?_
      refine gf_X2_18 C hs rfl dX2_addSeen_39 ?_
      refine lv_aload_n hx hb dX2_addSeen_42 rfl (lv_at hl 0 rfl) ?_
      refine gf_X2_27 C hs rfl dX2_addSeen_43 ?_
      refine lv_iload_n hx hb dX2_addSeen_46 rfl (lv_at hl 3 rfl) ?_
      obtain ⟨hc, hf⟩ := cb_ck_inv hf
      refine cb_iast C hs rfl (vp_in_iff.mpr hc) dX2_addSeen_47 (fun H locs hs => ?_)
      obtain ⟨σ_3, e9, hf⟩ := cb_let_inv hf
      replace hs := cb_Hc e9 hs
      clear e9
      refine lv_aload_n hx hb dX2_addSeen_48 rfl (lv_at hl 0 rfl) ?_
      refine lv_dup hx hb dX2_addSeen_49 rfl ?_
      refine gf_X2_27 C hs rfl dX2_addSeen_50 ?_
      refine lv_iconst (v := 1) hx hb dX2_addSeen_53 (by decide) ?_
      refine lv_iadd hx hb dX2_addSeen_54 ?_
      refine pf_X2_27 C hs rfl dX2_addSeen_55 (fun H locs hs => ?_)
      obtain ⟨σ_4, e9, hf⟩ := cb_let_inv hf
      replace hs := cb_Hc e9 hs
      clear e9
      refine lv_iconst (v := 1) hx hb dX2_addSeen_58 (by decide) ?_
      have hf := Option.some.inj hf
      subst hf
      exact cb_retz C hs (Or.inr rfl) dX2_addSeen_59
    · replace hf := cb_ifn cn hf
      exact w_X2_addSeen_16 C  hf hs (lv_sub hl [0, 1, 2, 3] rfl)
/-! ===== CardBecome$Papers.addWritten ===== -/
def f_X2_addWritten_16 (x1 : Int32) (x2 : Int32) (σ : cb_St) : Option (Int32 × cb_St) := some (0, σ)
set_option maxHeartbeats 4000000 in
set_option maxRecDepth 100000 in
theorem w_X2_addWritten_16 (C : cb_C p s m args meth c cX2_addWritten 3 (some .boolean) RX2 D T) {x1 : Int32} {x2 : Int32} {o : Int32 × cb_St}  {σ : cb_St} (hf : f_X2_addWritten_16 x1 x2 σ = some o) {H : Heap} {locs : List Loc} {ls : Array Slot} (hs : cb_H shC A T D σ s.heap H locs) (hl : lv_has ls 3 [(0, .ref (A 100)), (1, .int x1), (2, .int x2)]) : cb_W p l e 1 s m args below meth c shC A T D (some (.int o.1)) o.2 H locs (F0 m 16 ls []) := by
  obtain ⟨hx, hb, hml, hr, hown, hts, hK, hlk, hN⟩ := id C
  unfold f_X2_addWritten_16 at hf
  refine lv_iconst (v := 0) hx hb dX2_addWritten_16 (by decide) ?_
  have hf := Option.some.inj hf
  subst hf
  exact cb_retz C hs (Or.inl rfl) dX2_addWritten_17
def f_X2_addWritten (x1 : Int32) (x2 : Int32) (σ : cb_St) : Option (Int32 × cb_St) := if (σ.1 100 1) < 0 then (f_X2_addWritten_16 x1 x2 σ) else (if (σ.1 100 1) < 15 then (cb_ck (0 ≤ Int32.toInt (σ.1 100 1) ∧ Int32.toInt (σ.1 100 1) < 15) (cb_let (cb_sI σ 104 (Int32.toNatClampNeg (σ.1 100 1)) x1) (fun σ_1 => cb_ck (0 ≤ Int32.toInt (σ_1.1 100 1) ∧ Int32.toInt (σ_1.1 100 1) < 15) (cb_let (cb_sI σ_1 105 (Int32.toNatClampNeg (σ_1.1 100 1)) x2) (fun σ_2 => cb_let (cb_sI σ_2 100 1 ((σ_2.1 100 1) + 1)) (fun σ_3 => some (1, σ_3))))))) else (f_X2_addWritten_16 x1 x2 σ))
set_option maxHeartbeats 4000000 in
set_option maxRecDepth 100000 in
theorem c_X2_addWritten {x1 : Int32} {x2 : Int32}  {σ : cb_St} {o : Int32 × cb_St} (hf : f_X2_addWritten x1 x2 σ = some o) : cb_M l yX2_addWritten cX2_addWritten 3 (some .boolean) 1 shC A T D σ [.ref (A 100), .int x1, .int x2] (some (.int o.1)) o.2 := by
  refine cb_met (by decide +kernel) (Nat.le_of_ble_eq_true rfl) ?_
  intro p e s m below meth c C hs ls hl
  have hl : lv_has ls 3 [(0, .ref (A 100)), (1, .int x1), (2, .int x2)] := hl
  obtain ⟨hx, hb, hml, hr, hown, hts, hK, hlk, hN⟩ := id C
  unfold f_X2_addWritten at hf
  refine lv_aload_n hx hb dX2_addWritten_0 rfl (lv_at hl 0 rfl) ?_
  refine gf_X2_31 C hs rfl dX2_addWritten_1 ?_
  refine lv_if_lt (tgt := 16) hx hb dX2_addWritten_4 (by decide) (fun cn => ?_) (fun cn => ?_)
  · replace hf := cb_ifp cn hf
    exact w_X2_addWritten_16 C  hf hs (lv_sub hl [0, 1, 2] rfl)
  · replace hf := cb_ifn cn hf
    refine lv_aload_n hx hb dX2_addWritten_7 rfl (lv_at hl 0 rfl) ?_
    refine gf_X2_31 C hs rfl dX2_addWritten_8 ?_
    refine lv_bipush (v := 15) hx hb dX2_addWritten_11 (by decide) ?_
    refine lv_icmp_lt (tgt := 18) hx hb dX2_addWritten_13 (by decide) (fun cn => ?_) (fun cn => ?_)
    · replace hf := cb_ifp cn hf
      refine lv_aload_n hx hb dX2_addWritten_18 rfl (lv_at hl 0 rfl) ?_
      refine gf_X2_21 C hs rfl dX2_addWritten_19 ?_
      refine lv_aload_n hx hb dX2_addWritten_22 rfl (lv_at hl 0 rfl) ?_
      refine gf_X2_31 C hs rfl dX2_addWritten_23 ?_
      refine lv_iload_n hx hb dX2_addWritten_26 rfl (lv_at hl 1 rfl) ?_
      obtain ⟨hc, hf⟩ := cb_ck_inv hf
      refine cb_iast C hs rfl (vp_in_iff.mpr hc) dX2_addWritten_27 (fun H locs hs => ?_)
      obtain ⟨σ_1, e9, hf⟩ := cb_let_inv hf
      replace hs := cb_Hc e9 hs
      clear e9
      refine lv_aload_n hx hb dX2_addWritten_28 rfl (lv_at hl 0 rfl) ?_
      refine gf_X2_24 C hs rfl dX2_addWritten_29 ?_
      refine lv_aload_n hx hb dX2_addWritten_32 rfl (lv_at hl 0 rfl) ?_
      refine gf_X2_31 C hs rfl dX2_addWritten_33 ?_
      refine lv_iload_n hx hb dX2_addWritten_36 rfl (lv_at hl 2 rfl) ?_
      obtain ⟨hc, hf⟩ := cb_ck_inv hf
      refine cb_iast C hs rfl (vp_in_iff.mpr hc) dX2_addWritten_37 (fun H locs hs => ?_)
      obtain ⟨σ_2, e9, hf⟩ := cb_let_inv hf
      replace hs := cb_Hc e9 hs
      clear e9
      refine lv_aload_n hx hb dX2_addWritten_38 rfl (lv_at hl 0 rfl) ?_
      refine lv_dup hx hb dX2_addWritten_39 rfl ?_
      refine gf_X2_31 C hs rfl dX2_addWritten_40 ?_
      refine lv_iconst (v := 1) hx hb dX2_addWritten_43 (by decide) ?_
      refine lv_iadd hx hb dX2_addWritten_44 ?_
      refine pf_X2_31 C hs rfl dX2_addWritten_45 (fun H locs hs => ?_)
      obtain ⟨σ_3, e9, hf⟩ := cb_let_inv hf
      replace hs := cb_Hc e9 hs
      clear e9
      refine lv_iconst (v := 1) hx hb dX2_addWritten_48 (by decide) ?_
      have hf := Option.some.inj hf
      subst hf
      exact cb_retz C hs (Or.inr rfl) dX2_addWritten_49
    · replace hf := cb_ifn cn hf
      exact w_X2_addWritten_16 C  hf hs (lv_sub hl [0, 1, 2] rfl)
/-! ===== CardBecome$Papers.empty ===== -/
def f_X2_empty  (σ : cb_St) : Option (cb_St) := cb_let (cb_sI σ 100 0 0) (fun σ_1 => cb_let (cb_sI σ_1 100 1 0) (fun σ_2 => some σ_2))
set_option maxHeartbeats 4000000 in
set_option maxRecDepth 100000 in
theorem c_X2_empty   {σ : cb_St} {o : cb_St} (hf : f_X2_empty σ = some o) : cb_M l yX2_empty cX2_empty 1 none 1 shC A T D σ [.ref (A 100)] none o := by
  refine cb_met (by decide +kernel) (Nat.le_of_ble_eq_true rfl) ?_
  intro p e s m below meth c C hs ls hl
  have hl : lv_has ls 1 [(0, .ref (A 100))] := hl
  obtain ⟨hx, hb, hml, hr, hown, hts, hK, hlk, hN⟩ := id C
  unfold f_X2_empty at hf
  refine lv_aload_n hx hb dX2_empty_0 rfl (lv_at hl 0 rfl) ?_
  refine lv_iconst (v := 0) hx hb dX2_empty_1 (by decide) ?_
  refine pf_X2_27 C hs rfl dX2_empty_2 (fun H locs hs => ?_)
  obtain ⟨σ_1, e9, hf⟩ := cb_let_inv hf
  replace hs := cb_Hc e9 hs
  clear e9
  refine lv_aload_n hx hb dX2_empty_5 rfl (lv_at hl 0 rfl) ?_
  refine lv_iconst (v := 0) hx hb dX2_empty_6 (by decide) ?_
  refine pf_X2_31 C hs rfl dX2_empty_7 (fun H locs hs => ?_)
  obtain ⟨σ_2, e9, hf⟩ := cb_let_inv hf
  replace hs := cb_Hc e9 hs
  clear e9
  have hf := Option.some.inj hf
  subst hf
  exact cb_retv C hs dX2_empty_10
/-! ===== CardBecome$Papers.writtenCard ===== -/
def f_X2_writtenCard (x1 : Int32) (σ : cb_St)  : Option (Int32) := cb_bp (f_X2_entry 105 15 x1 (σ.1 100 1) σ) (fun r_1 => some r_1)
set_option maxHeartbeats 4000000 in
set_option maxRecDepth 100000 in
theorem c_X2_writtenCard {x1 : Int32} {σ : cb_St}   {o : Int32} (hf : f_X2_writtenCard x1 σ = some o) : cb_M l yX2_writtenCard cX2_writtenCard 2 (some .int) 2 shC A T D σ [.ref (A 100), .int x1] (some (.int o)) σ := by
  refine cb_met (by decide +kernel) (Nat.le_of_ble_eq_true rfl) ?_
  intro p e s m below meth c C hs ls hl
  have hl : lv_has ls 2 [(0, .ref (A 100)), (1, .int x1)] := hl
  obtain ⟨hx, hb, hml, hr, hown, hts, hK, hlk, hN⟩ := id C
  unfold f_X2_writtenCard at hf
  refine lv_aload_n hx hb dX2_writtenCard_0 rfl (lv_at hl 0 rfl) ?_
  refine gf_X2_24 C hs rfl dX2_writtenCard_1 ?_
  refine lv_iload_n hx hb dX2_writtenCard_4 rfl (lv_at hl 1 rfl) ?_
  refine lv_aload_n hx hb dX2_writtenCard_5 rfl (lv_at hl 0 rfl) ?_
  refine gf_X2_31 C hs rfl dX2_writtenCard_6 ?_
  obtain ⟨r_1, hc, hf⟩ := cb_bp_inv hf
  refine cb_callSi C (c_X2_entry rfl hc) mw_X2_entry ml_X2_34 rfl ⟨Nat.le_of_ble_eq_true rfl, Nat.le_of_ble_eq_true rfl⟩ hs hl rfl (Nat.le_of_ble_eq_true rfl) dX2_writtenCard_9 (fun H locs hs => ?_)
  clear hc
  have hf := Option.some.inj hf
  subst hf
  exact cb_reti C hs dX2_writtenCard_12
/-! ===== CardBecome$Papers.writtenPerson ===== -/
def f_X2_writtenPerson (x1 : Int32) (σ : cb_St)  : Option (Int32) := cb_bp (f_X2_entry 104 15 x1 (σ.1 100 1) σ) (fun r_1 => some r_1)
set_option maxHeartbeats 4000000 in
set_option maxRecDepth 100000 in
theorem c_X2_writtenPerson {x1 : Int32} {σ : cb_St}   {o : Int32} (hf : f_X2_writtenPerson x1 σ = some o) : cb_M l yX2_writtenPerson cX2_writtenPerson 2 (some .int) 2 shC A T D σ [.ref (A 100), .int x1] (some (.int o)) σ := by
  refine cb_met (by decide +kernel) (Nat.le_of_ble_eq_true rfl) ?_
  intro p e s m below meth c C hs ls hl
  have hl : lv_has ls 2 [(0, .ref (A 100)), (1, .int x1)] := hl
  obtain ⟨hx, hb, hml, hr, hown, hts, hK, hlk, hN⟩ := id C
  unfold f_X2_writtenPerson at hf
  refine lv_aload_n hx hb dX2_writtenPerson_0 rfl (lv_at hl 0 rfl) ?_
  refine gf_X2_21 C hs rfl dX2_writtenPerson_1 ?_
  refine lv_iload_n hx hb dX2_writtenPerson_4 rfl (lv_at hl 1 rfl) ?_
  refine lv_aload_n hx hb dX2_writtenPerson_5 rfl (lv_at hl 0 rfl) ?_
  refine gf_X2_31 C hs rfl dX2_writtenPerson_6 ?_
  obtain ⟨r_1, hc, hf⟩ := cb_bp_inv hf
  refine cb_callSi C (c_X2_entry rfl hc) mw_X2_entry ml_X2_34 rfl ⟨Nat.le_of_ble_eq_true rfl, Nat.le_of_ble_eq_true rfl⟩ hs hl rfl (Nat.le_of_ble_eq_true rfl) dX2_writtenPerson_9 (fun H locs hs => ?_)
  clear hc
  have hf := Option.some.inj hf
  subst hf
  exact cb_reti C hs dX2_writtenPerson_12
/-! ===== CardBecome$Table.oneOfAll ===== -/
def f_X6_oneOfAll (x0 : Int32) (x1 : Int32) (σ : cb_St)  : Option (Int32) := some (((13 * x1) + x0) - 1)
set_option maxHeartbeats 4000000 in
set_option maxRecDepth 100000 in
theorem c_X6_oneOfAll {x0 : Int32} {x1 : Int32} {σ : cb_St}   {o : Int32} (hf : f_X6_oneOfAll x0 x1 σ = some o) : cb_M l yX6_oneOfAll cX6_oneOfAll 2 (some .int) 1 shC A T D σ [.int x0, .int x1] (some (.int o)) σ := by
  refine cb_met (by decide +kernel) (Nat.le_of_ble_eq_true rfl) ?_
  intro p e s m below meth c C hs ls hl
  have hl : lv_has ls 2 [(0, .int x0), (1, .int x1)] := hl
  obtain ⟨hx, hb, hml, hr, hown, hts, hK, hlk, hN⟩ := id C
  unfold f_X6_oneOfAll at hf
  refine lv_bipush (v := 13) hx hb dX6_oneOfAll_0 (by decide) ?_
  refine lv_iload_n hx hb dX6_oneOfAll_2 rfl (lv_at hl 1 rfl) ?_
  refine lv_imul hx hb dX6_oneOfAll_3 ?_
  refine lv_iload_n hx hb dX6_oneOfAll_4 rfl (lv_at hl 0 rfl) ?_
  refine lv_iadd hx hb dX6_oneOfAll_5 ?_
  refine lv_iconst (v := 1) hx hb dX6_oneOfAll_6 (by decide) ?_
  refine lv_isub hx hb dX6_oneOfAll_7 ?_
  have hf := Option.some.inj hf
  subst hf
  exact cb_reti C hs dX6_oneOfAll_8
/-! ===== CardBecome$Table.addCard ===== -/
def f_X6_addCard (k : Nat) (x1 : Int32) (x2 : Int32) (σ : cb_St) : Option (cb_St) := if (σ.1 k 4) < 0 then (some σ) else (if 12 ≤ (σ.1 k 4) then (some σ) else (cb_ck (0 ≤ Int32.toInt (σ.1 k 4) ∧ Int32.toInt (σ.1 k 4) < 12) (cb_let (cb_sI σ (k + 1) (Int32.toNatClampNeg (σ.1 k 4)) x1) (fun σ_1 => cb_ck (0 ≤ Int32.toInt (σ_1.1 k 4) ∧ Int32.toInt (σ_1.1 k 4) < 12) (cb_let (cb_sI σ_1 (k + 2) (Int32.toNatClampNeg (σ_1.1 k 4)) x2) (fun σ_2 => cb_let (cb_sI σ_2 k 4 ((σ_2.1 k 4) + 1)) (fun σ_3 => cb_bp (f_X6_oneOfAll x1 x2 σ_3) (fun r_4 => cb_let (cb_sL σ_3 k ((σ_3.2 k) ||| (1 <<< (Int32.toInt64 r_4 &&& 63)))) (fun σ_5 => some σ_5)))))))))
set_option maxHeartbeats 4000000 in
set_option maxRecDepth 100000 in
theorem c_X6_addCard {k : Nat} {x1 : Int32} {x2 : Int32} (hp : cb_tb k) {σ : cb_St} {o : cb_St} (hf : f_X6_addCard k x1 x2 σ = some o) : cb_M l yX6_addCard cX6_addCard 3 none 2 shC A T D σ [.ref (A k), .int x1, .int x2] none o := by
  refine cb_met (by decide +kernel) (Nat.le_of_ble_eq_true rfl) ?_
  intro p e s m below meth c C hs ls hl
  have hl : lv_has ls 3 [(0, .ref (A k)), (1, .int x1), (2, .int x2)] := hl
  obtain ⟨hx, hb, hml, hr, hown, hts, hK, hlk, hN⟩ := id C
  unfold f_X6_addCard at hf
  refine lv_aload_n hx hb dX6_addCard_0 rfl (lv_at hl 0 rfl) ?_
  refine gf_X6_35 C hs hp.1 dX6_addCard_1 ?_
  refine lv_if_lt (tgt := 62) hx hb dX6_addCard_4 (by decide) (fun cn => ?_) (fun cn => ?_)
  · replace hf := cb_ifp cn hf
    have hf := Option.some.inj hf
    subst hf
    exact cb_retv C hs dX6_addCard_62
  · replace hf := cb_ifn cn hf
    refine lv_aload_n hx hb dX6_addCard_7 rfl (lv_at hl 0 rfl) ?_
    refine gf_X6_35 C hs hp.1 dX6_addCard_8 ?_
    refine lv_bipush (v := 12) hx hb dX6_addCard_11 (by decide) ?_
    refine lv_icmp_ge (tgt := 62) hx hb dX6_addCard_13 (by decide) (fun cn => ?_) (fun cn => ?_)
    · replace hf := cb_ifp cn hf
      have hf := Option.some.inj hf
      subst hf
      exact cb_retv C hs dX6_addCard_62
    · replace hf := cb_ifn cn hf
      refine lv_aload_n hx hb dX6_addCard_16 rfl (lv_at hl 0 rfl) ?_
      refine gf_X6_15 C hs hp.1 dX6_addCard_17 ?_
      refine lv_aload_n hx hb dX6_addCard_20 rfl (lv_at hl 0 rfl) ?_
      refine gf_X6_35 C hs hp.1 dX6_addCard_21 ?_
      refine lv_iload_n hx hb dX6_addCard_24 rfl (lv_at hl 1 rfl) ?_
      obtain ⟨hc, hf⟩ := cb_ck_inv hf
      refine cb_iast C hs hp.2.1 (vp_in_iff.mpr hc) dX6_addCard_25 (fun H locs hs => ?_)
      obtain ⟨σ_1, e9, hf⟩ := cb_let_inv hf
      replace hs := cb_Hc e9 hs
      clear e9
      refine lv_aload_n hx hb dX6_addCard_26 rfl (lv_at hl 0 rfl) ?_
      refine gf_X6_19 C hs hp.1 dX6_addCard_27 ?_
      refine lv_aload_n hx hb dX6_addCard_30 rfl (lv_at hl 0 rfl) ?_
      refine gf_X6_35 C hs hp.1 dX6_addCard_31 ?_
      refine lv_iload_n hx hb dX6_addCard_34 rfl (lv_at hl 2 rfl) ?_
      obtain ⟨hc, hf⟩ := cb_ck_inv hf
      refine cb_iast C hs hp.2.2.1 (vp_in_iff.mpr hc) dX6_addCard_35 (fun H locs hs => ?_)
      obtain ⟨σ_2, e9, hf⟩ := cb_let_inv hf
      replace hs := cb_Hc e9 hs
      clear e9
      refine lv_aload_n hx hb dX6_addCard_36 rfl (lv_at hl 0 rfl) ?_
      refine lv_dup hx hb dX6_addCard_37 rfl ?_
      refine gf_X6_35 C hs hp.1 dX6_addCard_38 ?_
      refine lv_iconst (v := 1) hx hb dX6_addCard_41 (by decide) ?_
      refine lv_iadd hx hb dX6_addCard_42 ?_
      refine pf_X6_35 C hs hp.1 dX6_addCard_43 (fun H locs hs => ?_)
      obtain ⟨σ_3, e9, hf⟩ := cb_let_inv hf
      replace hs := cb_Hc e9 hs
      clear e9
      refine lv_aload_n hx hb dX6_addCard_46 rfl (lv_at hl 0 rfl) ?_
      refine lv_dup hx hb dX6_addCard_47 rfl ?_
      refine gf_X6_41 C hs hp.1 dX6_addCard_48 ?_
      refine lv_lconst (v := 1) hx hb dX6_addCard_51 (by decide) ?_
      refine lv_iload_n hx hb dX6_addCard_52 rfl (lv_at hl 1 rfl) ?_
      refine lv_iload_n hx hb dX6_addCard_53 rfl (lv_at hl 2 rfl) ?_
      obtain ⟨r_4, hc, hf⟩ := cb_bp_inv hf
      refine cb_callSi C (c_X6_oneOfAll  hc) mw_X6_oneOfAll ml_X6_59 rfl ⟨Nat.le_of_ble_eq_true rfl, Nat.le_of_ble_eq_true rfl⟩ hs hl rfl (Nat.le_of_ble_eq_true rfl) dX6_addCard_54 (fun H locs hs => ?_)
      clear hc
      refine lv_lshl hx hb dX6_addCard_57 rfl ?_
      refine lv_lor hx hb dX6_addCard_58 ?_
      refine pf_X6_41 C hs hp.1 dX6_addCard_59 (fun H locs hs => ?_)
      obtain ⟨σ_5, e9, hf⟩ := cb_let_inv hf
      replace hs := cb_Hc e9 hs
      clear e9
      have hf := Option.some.inj hf
      subst hf
      exact cb_retv C hs dX6_addCard_62
/-! ===== CardBecome$Table.hasTold ===== -/
def f_X6_hasTold (k : Nat) (x1 : Int32) (σ : cb_St)  : Option (Int32) := if (lg_cmp (((σ.2 k) >>> (Int32.toInt64 x1 &&& 63)) &&& 1) 1) = 0 then (some 1) else (some 0)
set_option maxHeartbeats 4000000 in
set_option maxRecDepth 100000 in
theorem c_X6_hasTold {k : Nat} {x1 : Int32} {σ : cb_St} (hp : cb_tb k)  {o : Int32} (hf : f_X6_hasTold k x1 σ = some o) : cb_M l yX6_hasTold cX6_hasTold 2 (some .boolean) 1 shC A T D σ [.ref (A k), .int x1] (some (.int o)) σ := by
  refine cb_met (by decide +kernel) (Nat.le_of_ble_eq_true rfl) ?_
  intro p e s m below meth c C hs ls hl
  have hl : lv_has ls 2 [(0, .ref (A k)), (1, .int x1)] := hl
  obtain ⟨hx, hb, hml, hr, hown, hts, hK, hlk, hN⟩ := id C
  unfold f_X6_hasTold at hf
  refine lv_aload_n hx hb dX6_hasTold_0 rfl (lv_at hl 0 rfl) ?_
  refine gf_X6_41 C hs hp.1 dX6_hasTold_1 ?_
  refine lv_iload_n hx hb dX6_hasTold_4 rfl (lv_at hl 1 rfl) ?_
  refine lv_lshr hx hb dX6_hasTold_5 rfl ?_
  refine lv_lconst (v := 1) hx hb dX6_hasTold_6 (by decide) ?_
  refine lv_land hx hb dX6_hasTold_7 ?_
  refine lv_lconst (v := 1) hx hb dX6_hasTold_8 (by decide) ?_
  refine W.lcmp hx hb dX6_hasTold_9 ?_
  refine lv_if_ne (tgt := 17) hx hb dX6_hasTold_10 (by decide) (fun cn => ?_) (fun cn => ?_)
  · replace hf := cb_ifn cn hf
    refine lv_iconst (v := 0) hx hb dX6_hasTold_17 (by decide) ?_
    have hf := Option.some.inj hf
    subst hf
    exact cb_retz C hs (Or.inl rfl) dX6_hasTold_18
  · replace hf := cb_ifp cn hf
    refine lv_iconst (v := 1) hx hb dX6_hasTold_13 (by decide) ?_
    refine lv_goto (tgt := 18) hx hb dX6_hasTold_14 (by decide) ?_
    have hf := Option.some.inj hf
    subst hf
    exact cb_retz C hs (Or.inr rfl) dX6_hasTold_18
/-! ===== CardBecome$Table.clear ===== -/
def f_X6_clear (k : Nat) (σ : cb_St) : Option (cb_St) := cb_let (cb_sI σ k 0 0) (fun σ_1 => cb_let (cb_sI σ_1 k 1 (-1)) (fun σ_2 => cb_let (cb_sI σ_2 k 2 0) (fun σ_3 => cb_let (cb_sI σ_3 k 3 0) (fun σ_4 => cb_let (cb_sI σ_4 k 4 0) (fun σ_5 => cb_let (cb_sI σ_5 k 5 0) (fun σ_6 => cb_let (cb_sL σ_6 k 0) (fun σ_7 => some σ_7)))))))
set_option maxHeartbeats 4000000 in
set_option maxRecDepth 100000 in
theorem c_X6_clear {k : Nat} (hp : cb_tb k) {σ : cb_St} {o : cb_St} (hf : f_X6_clear k σ = some o) : cb_M l yX6_clear cX6_clear 1 none 1 shC A T D σ [.ref (A k)] none o := by
  refine cb_met (by decide +kernel) (Nat.le_of_ble_eq_true rfl) ?_
  intro p e s m below meth c C hs ls hl
  have hl : lv_has ls 1 [(0, .ref (A k))] := hl
  obtain ⟨hx, hb, hml, hr, hown, hts, hK, hlk, hN⟩ := id C
  unfold f_X6_clear at hf
  refine lv_aload_n hx hb dX6_clear_0 rfl (lv_at hl 0 rfl) ?_
  refine lv_iconst (v := 0) hx hb dX6_clear_1 (by decide) ?_
  refine pf_X6_25 C hs hp.1 (Or.inl rfl) dX6_clear_2 (fun H locs hs => ?_)
  obtain ⟨σ_1, e9, hf⟩ := cb_let_inv hf
  replace hs := cb_Hc e9 hs
  clear e9
  refine lv_aload_n hx hb dX6_clear_5 rfl (lv_at hl 0 rfl) ?_
  refine lv_iconst (v := (-1)) hx hb dX6_clear_6 (by decide) ?_
  refine pf_X6_9 C hs hp.1 dX6_clear_7 (fun H locs hs => ?_)
  obtain ⟨σ_2, e9, hf⟩ := cb_let_inv hf
  replace hs := cb_Hc e9 hs
  clear e9
  refine lv_aload_n hx hb dX6_clear_10 rfl (lv_at hl 0 rfl) ?_
  refine lv_iconst (v := 0) hx hb dX6_clear_11 (by decide) ?_
  refine pf_X6_29 C hs hp.1 dX6_clear_12 (fun H locs hs => ?_)
  obtain ⟨σ_3, e9, hf⟩ := cb_let_inv hf
  replace hs := cb_Hc e9 hs
  clear e9
  refine lv_aload_n hx hb dX6_clear_15 rfl (lv_at hl 0 rfl) ?_
  refine lv_iconst (v := 0) hx hb dX6_clear_16 (by decide) ?_
  refine pf_X6_32 C hs hp.1 dX6_clear_17 (fun H locs hs => ?_)
  obtain ⟨σ_4, e9, hf⟩ := cb_let_inv hf
  replace hs := cb_Hc e9 hs
  clear e9
  refine lv_aload_n hx hb dX6_clear_20 rfl (lv_at hl 0 rfl) ?_
  refine lv_iconst (v := 0) hx hb dX6_clear_21 (by decide) ?_
  refine pf_X6_35 C hs hp.1 dX6_clear_22 (fun H locs hs => ?_)
  obtain ⟨σ_5, e9, hf⟩ := cb_let_inv hf
  replace hs := cb_Hc e9 hs
  clear e9
  refine lv_aload_n hx hb dX6_clear_25 rfl (lv_at hl 0 rfl) ?_
  refine lv_iconst (v := 0) hx hb dX6_clear_26 (by decide) ?_
  refine pf_X6_38 C hs hp.1 dX6_clear_27 (fun H locs hs => ?_)
  obtain ⟨σ_6, e9, hf⟩ := cb_let_inv hf
  replace hs := cb_Hc e9 hs
  clear e9
  refine lv_aload_n hx hb dX6_clear_30 rfl (lv_at hl 0 rfl) ?_
  refine lv_lconst (v := 0) hx hb dX6_clear_31 (by decide) ?_
  refine pf_X6_41 C hs hp.1 dX6_clear_32 (fun H locs hs => ?_)
  obtain ⟨σ_7, e9, hf⟩ := cb_let_inv hf
  replace hs := cb_Hc e9 hs
  clear e9
  have hf := Option.some.inj hf
  subst hf
  exact cb_retv C hs dX6_clear_35
/-! ===== CardBecome$Table.rankOf ===== -/
def f_X6_rankOf_10 (k : Nat) (x1 : Int32) (σ : cb_St)  : Option (Int32) := some (-1)
set_option maxHeartbeats 4000000 in
set_option maxRecDepth 100000 in
theorem w_X6_rankOf_10 (C : cb_C p s m args meth c cX6_rankOf 2 (some .int) RX6 D T) {k : Nat} {x1 : Int32} {σ : cb_St} {o : Int32} (hp : cb_tb k)  (hf : f_X6_rankOf_10 k x1 σ = some o) {H : Heap} {locs : List Loc} {ls : Array Slot} (hs : cb_H shC A T D σ s.heap H locs) (hl : lv_has ls 2 [(0, .ref (A k)), (1, .int x1)]) : cb_W p l e 1 s m args below meth c shC A T D (some (.int o)) σ H locs (F0 m 10 ls []) := by
  obtain ⟨hx, hb, hml, hr, hown, hts, hK, hlk, hN⟩ := id C
  unfold f_X6_rankOf_10 at hf
  refine lv_iconst (v := (-1)) hx hb dX6_rankOf_10 (by decide) ?_
  refine lv_goto (tgt := 20) hx hb dX6_rankOf_11 (by decide) ?_
  have hf := Option.some.inj hf
  subst hf
  exact cb_reti C hs dX6_rankOf_20
def f_X6_rankOf (k : Nat) (x1 : Int32) (σ : cb_St)  : Option (Int32) := if x1 < 0 then (f_X6_rankOf_10 k x1 σ) else (if x1 < 12 then (cb_ck (0 ≤ Int32.toInt x1 ∧ Int32.toInt x1 < 12) (some (σ.1 (k + 1) (Int32.toNatClampNeg x1)))) else (f_X6_rankOf_10 k x1 σ))
set_option maxHeartbeats 4000000 in
set_option maxRecDepth 100000 in
theorem c_X6_rankOf {k : Nat} {x1 : Int32} {σ : cb_St} (hp : cb_tb k)  {o : Int32} (hf : f_X6_rankOf k x1 σ = some o) : cb_M l yX6_rankOf cX6_rankOf 2 (some .int) 1 shC A T D σ [.ref (A k), .int x1] (some (.int o)) σ := by
  refine cb_met (by decide +kernel) (Nat.le_of_ble_eq_true rfl) ?_
  intro p e s m below meth c C hs ls hl
  have hl : lv_has ls 2 [(0, .ref (A k)), (1, .int x1)] := hl
  obtain ⟨hx, hb, hml, hr, hown, hts, hK, hlk, hN⟩ := id C
  unfold f_X6_rankOf at hf
  refine lv_iload_n hx hb dX6_rankOf_0 rfl (lv_at hl 1 rfl) ?_
  refine lv_if_lt (tgt := 10) hx hb dX6_rankOf_1 (by decide) (fun cn => ?_) (fun cn => ?_)
  · replace hf := cb_ifp cn hf
    exact w_X6_rankOf_10 C hp hf hs (lv_sub hl [0, 1] rfl)
  · replace hf := cb_ifn cn hf
    refine lv_iload_n hx hb dX6_rankOf_4 rfl (lv_at hl 1 rfl) ?_
    refine lv_bipush (v := 12) hx hb dX6_rankOf_5 (by decide) ?_
    refine lv_icmp_lt (tgt := 14) hx hb dX6_rankOf_7 (by decide) (fun cn => ?_) (fun cn => ?_)
    · replace hf := cb_ifp cn hf
      refine lv_aload_n hx hb dX6_rankOf_14 rfl (lv_at hl 0 rfl) ?_
      refine gf_X6_15 C hs hp.1 dX6_rankOf_15 ?_
      refine lv_iload_n hx hb dX6_rankOf_18 rfl (lv_at hl 1 rfl) ?_
      obtain ⟨hc, hf⟩ := cb_ck_inv hf
      refine cb_iald C hs hp.2.1 (vp_in_iff.mpr hc) dX6_rankOf_19 ?_
      have hf := Option.some.inj hf
      subst hf
      exact cb_reti C hs dX6_rankOf_20
    · replace hf := cb_ifn cn hf
      exact w_X6_rankOf_10 C hp hf hs (lv_sub hl [0, 1] rfl)
/-! ===== CardBecome$Table.suitOf ===== -/
def f_X6_suitOf_10 (k : Nat) (x1 : Int32) (σ : cb_St)  : Option (Int32) := some (-1)
set_option maxHeartbeats 4000000 in
set_option maxRecDepth 100000 in
theorem w_X6_suitOf_10 (C : cb_C p s m args meth c cX6_suitOf 2 (some .int) RX6 D T) {k : Nat} {x1 : Int32} {σ : cb_St} {o : Int32} (hp : cb_tb k)  (hf : f_X6_suitOf_10 k x1 σ = some o) {H : Heap} {locs : List Loc} {ls : Array Slot} (hs : cb_H shC A T D σ s.heap H locs) (hl : lv_has ls 2 [(0, .ref (A k)), (1, .int x1)]) : cb_W p l e 1 s m args below meth c shC A T D (some (.int o)) σ H locs (F0 m 10 ls []) := by
  obtain ⟨hx, hb, hml, hr, hown, hts, hK, hlk, hN⟩ := id C
  unfold f_X6_suitOf_10 at hf
  refine lv_iconst (v := (-1)) hx hb dX6_suitOf_10 (by decide) ?_
  refine lv_goto (tgt := 20) hx hb dX6_suitOf_11 (by decide) ?_
  have hf := Option.some.inj hf
  subst hf
  exact cb_reti C hs dX6_suitOf_20
def f_X6_suitOf (k : Nat) (x1 : Int32) (σ : cb_St)  : Option (Int32) := if x1 < 0 then (f_X6_suitOf_10 k x1 σ) else (if x1 < 12 then (cb_ck (0 ≤ Int32.toInt x1 ∧ Int32.toInt x1 < 12) (some (σ.1 (k + 2) (Int32.toNatClampNeg x1)))) else (f_X6_suitOf_10 k x1 σ))
set_option maxHeartbeats 4000000 in
set_option maxRecDepth 100000 in
theorem c_X6_suitOf {k : Nat} {x1 : Int32} {σ : cb_St} (hp : cb_tb k)  {o : Int32} (hf : f_X6_suitOf k x1 σ = some o) : cb_M l yX6_suitOf cX6_suitOf 2 (some .int) 1 shC A T D σ [.ref (A k), .int x1] (some (.int o)) σ := by
  refine cb_met (by decide +kernel) (Nat.le_of_ble_eq_true rfl) ?_
  intro p e s m below meth c C hs ls hl
  have hl : lv_has ls 2 [(0, .ref (A k)), (1, .int x1)] := hl
  obtain ⟨hx, hb, hml, hr, hown, hts, hK, hlk, hN⟩ := id C
  unfold f_X6_suitOf at hf
  refine lv_iload_n hx hb dX6_suitOf_0 rfl (lv_at hl 1 rfl) ?_
  refine lv_if_lt (tgt := 10) hx hb dX6_suitOf_1 (by decide) (fun cn => ?_) (fun cn => ?_)
  · replace hf := cb_ifp cn hf
    exact w_X6_suitOf_10 C hp hf hs (lv_sub hl [0, 1] rfl)
  · replace hf := cb_ifn cn hf
    refine lv_iload_n hx hb dX6_suitOf_4 rfl (lv_at hl 1 rfl) ?_
    refine lv_bipush (v := 12) hx hb dX6_suitOf_5 (by decide) ?_
    refine lv_icmp_lt (tgt := 14) hx hb dX6_suitOf_7 (by decide) (fun cn => ?_) (fun cn => ?_)
    · replace hf := cb_ifp cn hf
      refine lv_aload_n hx hb dX6_suitOf_14 rfl (lv_at hl 0 rfl) ?_
      refine gf_X6_19 C hs hp.1 dX6_suitOf_15 ?_
      refine lv_iload_n hx hb dX6_suitOf_18 rfl (lv_at hl 1 rfl) ?_
      obtain ⟨hc, hf⟩ := cb_ck_inv hf
      refine cb_iald C hs hp.2.2.1 (vp_in_iff.mpr hc) dX6_suitOf_19 ?_
      have hf := Option.some.inj hf
      subst hf
      exact cb_reti C hs dX6_suitOf_20
    · replace hf := cb_ifn cn hf
      exact w_X6_suitOf_10 C hp hf hs (lv_sub hl [0, 1] rfl)
/-! ===== CardBecome$Table.byTrump ===== -/
def f_X6_byTrump_156 (k : Nat) (x1 : Int32) (x2 : Int32) (x3 : Int32) (x4 : Int32) (σ : cb_St) (s0 : Int32) (s1 : Int32) : Option (Int32) := if s1 = s0 then (some 0) else (some 1)
set_option maxHeartbeats 4000000 in
set_option maxRecDepth 100000 in
theorem w_X6_byTrump_156 (C : cb_C p s m args meth c cX6_byTrump 9 (some .int) RX6 D T) {k : Nat} {x1 : Int32} {x2 : Int32} {x3 : Int32} {x4 : Int32} {σ : cb_St} {o : Int32} (hp : cb_tb k) {s0 : Int32} {s1 : Int32} (hf : f_X6_byTrump_156 k x1 x2 x3 x4 σ s0 s1 = some o) {H : Heap} {locs : List Loc} {ls : Array Slot} (hs : cb_H shC A T D σ s.heap H locs) (hl : lv_has ls 9 [(0, .ref (A k)), (1, .int x1), (2, .int x2), (3, .int x3), (4, .int x4)]) : cb_W p l e 2 s m args below meth c shC A T D (some (.int o)) σ H locs (F0 m 156 ls [.int s0, .int s1]) := by
  obtain ⟨hx, hb, hml, hr, hown, hts, hK, hlk, hN⟩ := id C
  unfold f_X6_byTrump_156 at hf
  refine lv_icmp_ne (tgt := 163) hx hb dX6_byTrump_156 (by decide) (fun cn => ?_) (fun cn => ?_)
  · replace hf := cb_ifn cn hf
    refine lv_iconst (v := 1) hx hb dX6_byTrump_163 (by decide) ?_
    have hf := Option.some.inj hf
    subst hf
    exact cb_reti C hs dX6_byTrump_164
  · replace hf := cb_ifp cn hf
    refine lv_iconst (v := 0) hx hb dX6_byTrump_159 (by decide) ?_
    refine lv_goto (tgt := 164) hx hb dX6_byTrump_160 (by decide) ?_
    have hf := Option.some.inj hf
    subst hf
    exact cb_reti C hs dX6_byTrump_164
def f_X6_byTrump_146 (k : Nat) (x1 : Int32) (x2 : Int32) (x3 : Int32) (x4 : Int32) (σ : cb_St) (s0 : Int32) : Option (Int32) := if x4 = 0 then (f_X6_byTrump_156 k x1 x2 x3 x4 σ 1 s0) else (f_X6_byTrump_156 k x1 x2 x3 x4 σ 0 s0)
set_option maxHeartbeats 4000000 in
set_option maxRecDepth 100000 in
theorem w_X6_byTrump_146 (C : cb_C p s m args meth c cX6_byTrump 9 (some .int) RX6 D T) {k : Nat} {x1 : Int32} {x2 : Int32} {x3 : Int32} {x4 : Int32} {σ : cb_St} {o : Int32} (hp : cb_tb k) {s0 : Int32} (hf : f_X6_byTrump_146 k x1 x2 x3 x4 σ s0 = some o) {H : Heap} {locs : List Loc} {ls : Array Slot} (hs : cb_H shC A T D σ s.heap H locs) (hl : lv_has ls 9 [(0, .ref (A k)), (1, .int x1), (2, .int x2), (3, .int x3), (4, .int x4)]) : cb_W p l e 2 s m args below meth c shC A T D (some (.int o)) σ H locs (F0 m 146 ls [.int s0]) := by
  obtain ⟨hx, hb, hml, hr, hown, hts, hK, hlk, hN⟩ := id C
  unfold f_X6_byTrump_146 at hf
  refine lv_iload hx hb dX6_byTrump_146 (lv_at hl 4 rfl) ?_
  refine lv_if_ne (tgt := 155) hx hb dX6_byTrump_148 (by decide) (fun cn => ?_) (fun cn => ?_)
  · replace hf := cb_ifn cn hf
    refine lv_iconst (v := 0) hx hb dX6_byTrump_155 (by decide) ?_
    exact w_X6_byTrump_156 C hp hf hs (lv_sub hl [0, 1, 2, 3, 4] rfl)
  · replace hf := cb_ifp cn hf
    refine lv_iconst (v := 1) hx hb dX6_byTrump_151 (by decide) ?_
    refine lv_goto (tgt := 156) hx hb dX6_byTrump_152 (by decide) ?_
    exact w_X6_byTrump_156 C hp hf hs (lv_sub hl [0, 1, 2, 3, 4] rfl)
def f_X6_byTrump_125 (k : Nat) (x1 : Int32) (x2 : Int32) (x3 : Int32) (x4 : Int32) (σ : cb_St) (x7 : Int32) (x8 : Int32) : Option (Int32) := if x7 = x8 then (some 2) else (if x7 ≤ x8 then (f_X6_byTrump_146 k x1 x2 x3 x4 σ 0) else (f_X6_byTrump_146 k x1 x2 x3 x4 σ 1))
set_option maxHeartbeats 4000000 in
set_option maxRecDepth 100000 in
theorem w_X6_byTrump_125 (C : cb_C p s m args meth c cX6_byTrump 9 (some .int) RX6 D T) {k : Nat} {x1 : Int32} {x2 : Int32} {x3 : Int32} {x4 : Int32} {σ : cb_St} {o : Int32} (hp : cb_tb k) {x7 : Int32} {x8 : Int32} (hf : f_X6_byTrump_125 k x1 x2 x3 x4 σ x7 x8 = some o) {H : Heap} {locs : List Loc} {ls : Array Slot} (hs : cb_H shC A T D σ s.heap H locs) (hl : lv_has ls 9 [(0, .ref (A k)), (1, .int x1), (2, .int x2), (3, .int x3), (4, .int x4), (7, .int x7), (8, .int x8)]) : cb_W p l e 2 s m args below meth c shC A T D (some (.int o)) σ H locs (F0 m 125 ls []) := by
  obtain ⟨hx, hb, hml, hr, hown, hts, hK, hlk, hN⟩ := id C
  unfold f_X6_byTrump_125 at hf
  refine lv_iload hx hb dX6_byTrump_125 (lv_at hl 5 rfl) ?_
  refine lv_iload hx hb dX6_byTrump_127 (lv_at hl 6 rfl) ?_
  refine lv_icmp_ne (tgt := 134) hx hb dX6_byTrump_129 (by decide) (fun cn => ?_) (fun cn => ?_)
  · replace hf := cb_ifn cn hf
    refine lv_iload hx hb dX6_byTrump_134 (lv_at hl 5 rfl) ?_
    refine lv_iload hx hb dX6_byTrump_136 (lv_at hl 6 rfl) ?_
    refine lv_icmp_le (tgt := 145) hx hb dX6_byTrump_138 (by decide) (fun cn => ?_) (fun cn => ?_)
    · replace hf := cb_ifp cn hf
      refine lv_iconst (v := 0) hx hb dX6_byTrump_145 (by decide) ?_
      exact w_X6_byTrump_146 C hp hf hs (lv_sub hl [0, 1, 2, 3, 4] rfl)
    · replace hf := cb_ifn cn hf
      refine lv_iconst (v := 1) hx hb dX6_byTrump_141 (by decide) ?_
      refine lv_goto (tgt := 146) hx hb dX6_byTrump_142 (by decide) ?_
      exact w_X6_byTrump_146 C hp hf hs (lv_sub hl [0, 1, 2, 3, 4] rfl)
  · replace hf := cb_ifp cn hf
    refine lv_iconst (v := 2) hx hb dX6_byTrump_132 (by decide) ?_
    have hf := Option.some.inj hf
    subst hf
    exact cb_reti C hs dX6_byTrump_133
def f_X6_byTrump_109 (k : Nat) (x1 : Int32) (x2 : Int32) (x3 : Int32) (x4 : Int32) (σ : cb_St) (x7 : Int32) (x8 : Int32) (s0 : Int32) (s1 : Int32) : Option (Int32) := if s1 = s0 then (f_X6_byTrump_125 k x1 x2 x3 x4 σ x7 x8) else (if x7 = 11 then (some 0) else (some 1))
set_option maxHeartbeats 4000000 in
set_option maxRecDepth 100000 in
theorem w_X6_byTrump_109 (C : cb_C p s m args meth c cX6_byTrump 9 (some .int) RX6 D T) {k : Nat} {x1 : Int32} {x2 : Int32} {x3 : Int32} {x4 : Int32} {σ : cb_St} {o : Int32} (hp : cb_tb k) {x7 : Int32} {x8 : Int32} {s0 : Int32} {s1 : Int32} (hf : f_X6_byTrump_109 k x1 x2 x3 x4 σ x7 x8 s0 s1 = some o) {H : Heap} {locs : List Loc} {ls : Array Slot} (hs : cb_H shC A T D σ s.heap H locs) (hl : lv_has ls 9 [(0, .ref (A k)), (1, .int x1), (2, .int x2), (3, .int x3), (4, .int x4), (7, .int x7), (8, .int x8)]) : cb_W p l e 2 s m args below meth c shC A T D (some (.int o)) σ H locs (F0 m 109 ls [.int s0, .int s1]) := by
  obtain ⟨hx, hb, hml, hr, hown, hts, hK, hlk, hN⟩ := id C
  unfold f_X6_byTrump_109 at hf
  refine lv_icmp_eq (tgt := 125) hx hb dX6_byTrump_109 (by decide) (fun cn => ?_) (fun cn => ?_)
  · replace hf := cb_ifp cn hf
    exact w_X6_byTrump_125 C hp hf hs (lv_sub hl [0, 1, 2, 3, 4, 5, 6] rfl)
  · replace hf := cb_ifn cn hf
    refine lv_iload hx hb dX6_byTrump_112 (lv_at hl 5 rfl) ?_
    refine lv_bipush (v := 11) hx hb dX6_byTrump_114 (by decide) ?_
    refine lv_icmp_ne (tgt := 123) hx hb dX6_byTrump_116 (by decide) (fun cn => ?_) (fun cn => ?_)
    · replace hf := cb_ifn cn hf
      refine lv_iconst (v := 1) hx hb dX6_byTrump_123 (by decide) ?_
      have hf := Option.some.inj hf
      subst hf
      exact cb_reti C hs dX6_byTrump_124
    · replace hf := cb_ifp cn hf
      refine lv_iconst (v := 0) hx hb dX6_byTrump_119 (by decide) ?_
      refine lv_goto (tgt := 124) hx hb dX6_byTrump_120 (by decide) ?_
      have hf := Option.some.inj hf
      subst hf
      exact cb_reti C hs dX6_byTrump_124
def f_X6_byTrump_97 (k : Nat) (x1 : Int32) (x2 : Int32) (x3 : Int32) (x4 : Int32) (σ : cb_St) (x7 : Int32) (x8 : Int32) (s0 : Int32) : Option (Int32) := if x8 = 11 then (f_X6_byTrump_109 k x1 x2 x3 x4 σ x7 x8 1 s0) else (f_X6_byTrump_109 k x1 x2 x3 x4 σ x7 x8 0 s0)
set_option maxHeartbeats 4000000 in
set_option maxRecDepth 100000 in
theorem w_X6_byTrump_97 (C : cb_C p s m args meth c cX6_byTrump 9 (some .int) RX6 D T) {k : Nat} {x1 : Int32} {x2 : Int32} {x3 : Int32} {x4 : Int32} {σ : cb_St} {o : Int32} (hp : cb_tb k) {x7 : Int32} {x8 : Int32} {s0 : Int32} (hf : f_X6_byTrump_97 k x1 x2 x3 x4 σ x7 x8 s0 = some o) {H : Heap} {locs : List Loc} {ls : Array Slot} (hs : cb_H shC A T D σ s.heap H locs) (hl : lv_has ls 9 [(0, .ref (A k)), (1, .int x1), (2, .int x2), (3, .int x3), (4, .int x4), (7, .int x7), (8, .int x8)]) : cb_W p l e 2 s m args below meth c shC A T D (some (.int o)) σ H locs (F0 m 97 ls [.int s0]) := by
  obtain ⟨hx, hb, hml, hr, hown, hts, hK, hlk, hN⟩ := id C
  unfold f_X6_byTrump_97 at hf
  refine lv_iload hx hb dX6_byTrump_97 (lv_at hl 6 rfl) ?_
  refine lv_bipush (v := 11) hx hb dX6_byTrump_99 (by decide) ?_
  refine lv_icmp_ne (tgt := 108) hx hb dX6_byTrump_101 (by decide) (fun cn => ?_) (fun cn => ?_)
  · replace hf := cb_ifn cn hf
    refine lv_iconst (v := 0) hx hb dX6_byTrump_108 (by decide) ?_
    exact w_X6_byTrump_109 C hp hf hs (lv_sub hl [0, 1, 2, 3, 4, 5, 6] rfl)
  · replace hf := cb_ifp cn hf
    refine lv_iconst (v := 1) hx hb dX6_byTrump_104 (by decide) ?_
    refine lv_goto (tgt := 109) hx hb dX6_byTrump_105 (by decide) ?_
    exact w_X6_byTrump_109 C hp hf hs (lv_sub hl [0, 1, 2, 3, 4, 5, 6] rfl)
def f_X6_byTrump_30 (k : Nat) (x1 : Int32) (x2 : Int32) (x3 : Int32) (x4 : Int32) (σ : cb_St) (x5 : Int32) (s0 : Int32) : Option (Int32) := if x5 = s0 then (cb_bp (f_X6_rankOf k x1 σ) (fun r_1 => cb_bp (f_X6_rankOf k x2 σ) (fun r_2 => if (σ.1 k 3) = 1 then (cb_bp (f_X6_suitOf k x1 σ) (fun r_3 => cb_bp (f_X6_suitOf k x2 σ) (fun r_4 => if r_3 = r_4 then (if r_1 = 11 then (f_X6_byTrump_97 k x1 x2 x3 x4 σ r_1 r_2 1) else (f_X6_byTrump_97 k x1 x2 x3 x4 σ r_1 r_2 0)) else (f_X6_byTrump_125 k x1 x2 x3 x4 σ r_1 r_2)))) else (f_X6_byTrump_125 k x1 x2 x3 x4 σ r_1 r_2)))) else (if x5 = 0 then (some 1) else (some 0))
set_option maxHeartbeats 4000000 in
set_option maxRecDepth 100000 in
theorem w_X6_byTrump_30 (C : cb_C p s m args meth c cX6_byTrump 9 (some .int) RX6 D T) {k : Nat} {x1 : Int32} {x2 : Int32} {x3 : Int32} {x4 : Int32} {σ : cb_St} {o : Int32} (hp : cb_tb k) {x5 : Int32} {s0 : Int32} (hf : f_X6_byTrump_30 k x1 x2 x3 x4 σ x5 s0 = some o) {H : Heap} {locs : List Loc} {ls : Array Slot} (hs : cb_H shC A T D σ s.heap H locs) (hl : lv_has ls 9 [(0, .ref (A k)), (1, .int x1), (2, .int x2), (3, .int x3), (4, .int x4), (5, .int x5)]) : cb_W p l e 2 s m args below meth c shC A T D (some (.int o)) σ H locs (F0 m 30 ls [.int s0]) := by
  obtain ⟨hx, hb, hml, hr, hown, hts, hK, hlk, hN⟩ := id C
  unfold f_X6_byTrump_30 at hf
  refine lv_istore (lv' := [(6, .int s0), (0, .ref (A k)), (1, .int x1), (2, .int x2), (3, .int x3), (4, .int x4), (5, .int x5)]) hx hb dX6_byTrump_30 hl (by decide) rfl (fun ls hl => ?_)
  refine lv_iload hx hb dX6_byTrump_32 (lv_at hl 6 rfl) ?_
  refine lv_iload hx hb dX6_byTrump_34 (lv_at hl 0 rfl) ?_
  refine lv_icmp_eq (tgt := 50) hx hb dX6_byTrump_36 (by decide) (fun cn => ?_) (fun cn => ?_)
  · replace hf := cb_ifp cn hf
    refine lv_aload_n hx hb dX6_byTrump_50 rfl (lv_at hl 1 rfl) ?_
    refine lv_iload_n hx hb dX6_byTrump_51 rfl (lv_at hl 2 rfl) ?_
    obtain ⟨r_1, hc, hf⟩ := cb_bp_inv hf
    refine cb_callVi C (c_X6_rankOf hp hc) mw_X6_rankOf ml_X6_74 rfl ⟨Nat.le_of_ble_eq_true rfl, Nat.le_of_ble_eq_true rfl⟩ hp.1 (Nat.le_of_ble_eq_true rfl) rfl hs hl rfl (Nat.le_of_ble_eq_true rfl) dX6_byTrump_52 (fun H locs hs => ?_)
    clear hc
    refine lv_istore (lv' := [(7, .int r_1), (6, .int s0), (0, .ref (A k)), (1, .int x1), (2, .int x2), (3, .int x3), (4, .int x4), (5, .int x5)]) hx hb dX6_byTrump_55 hl (by decide) rfl (fun ls hl => ?_)
    refine lv_aload_n hx hb dX6_byTrump_57 rfl (lv_at hl 2 rfl) ?_
    refine lv_iload_n hx hb dX6_byTrump_58 rfl (lv_at hl 4 rfl) ?_
    obtain ⟨r_2, hc, hf⟩ := cb_bp_inv hf
    refine cb_callVi C (c_X6_rankOf hp hc) mw_X6_rankOf ml_X6_74 rfl ⟨Nat.le_of_ble_eq_true rfl, Nat.le_of_ble_eq_true rfl⟩ hp.1 (Nat.le_of_ble_eq_true rfl) rfl hs hl rfl (Nat.le_of_ble_eq_true rfl) dX6_byTrump_59 (fun H locs hs => ?_)
    clear hc
    refine lv_istore (lv' := [(8, .int r_2), (7, .int r_1), (6, .int s0), (0, .ref (A k)), (1, .int x1), (2, .int x2), (3, .int x3), (4, .int x4), (5, .int x5)]) hx hb dX6_byTrump_62 hl (by decide) rfl (fun ls hl => ?_)
    refine lv_aload_n hx hb dX6_byTrump_64 rfl (lv_at hl 3 rfl) ?_
    refine gf_X6_32 C hs hp.1 dX6_byTrump_65 ?_
    refine lv_iconst (v := 1) hx hb dX6_byTrump_68 (by decide) ?_
    refine lv_icmp_ne (tgt := 125) hx hb dX6_byTrump_69 (by decide) (fun cn => ?_) (fun cn => ?_)
    · replace hf := cb_ifn cn hf
      exact w_X6_byTrump_125 C hp hf hs (lv_sub hl [3, 4, 5, 6, 7, 1, 0] rfl)
    · replace hf := cb_ifp cn hf
      refine lv_aload_n hx hb dX6_byTrump_72 rfl (lv_at hl 3 rfl) ?_
      refine lv_iload_n hx hb dX6_byTrump_73 rfl (lv_at hl 4 rfl) ?_
      obtain ⟨r_3, hc, hf⟩ := cb_bp_inv hf
      refine cb_callVi C (c_X6_suitOf hp hc) mw_X6_suitOf ml_X6_71 rfl ⟨Nat.le_of_ble_eq_true rfl, Nat.le_of_ble_eq_true rfl⟩ hp.1 (Nat.le_of_ble_eq_true rfl) rfl hs hl rfl (Nat.le_of_ble_eq_true rfl) dX6_byTrump_74 (fun H locs hs => ?_)
      clear hc
      refine lv_aload_n hx hb dX6_byTrump_77 rfl (lv_at hl 3 rfl) ?_
      refine lv_iload_n hx hb dX6_byTrump_78 rfl (lv_at hl 5 rfl) ?_
      obtain ⟨r_4, hc, hf⟩ := cb_bp_inv hf
      refine cb_callVi C (c_X6_suitOf hp hc) mw_X6_suitOf ml_X6_71 rfl ⟨Nat.le_of_ble_eq_true rfl, Nat.le_of_ble_eq_true rfl⟩ hp.1 (Nat.le_of_ble_eq_true rfl) rfl hs hl rfl (Nat.le_of_ble_eq_true rfl) dX6_byTrump_79 (fun H locs hs => ?_)
      clear hc
      refine lv_icmp_ne (tgt := 125) hx hb dX6_byTrump_82 (by decide) (fun cn => ?_) (fun cn => ?_)
      · replace hf := cb_ifn cn hf
        exact w_X6_byTrump_125 C hp hf hs (lv_sub hl [3, 4, 5, 6, 7, 1, 0] rfl)
      · replace hf := cb_ifp cn hf
        refine lv_iload hx hb dX6_byTrump_85 (lv_at hl 1 rfl) ?_
        refine lv_bipush (v := 11) hx hb dX6_byTrump_87 (by decide) ?_
        refine lv_icmp_ne (tgt := 96) hx hb dX6_byTrump_89 (by decide) (fun cn => ?_) (fun cn => ?_)
        · replace hf := cb_ifn cn hf
          refine lv_iconst (v := 0) hx hb dX6_byTrump_96 (by decide) ?_
          exact w_X6_byTrump_97 C hp hf hs (lv_sub hl [3, 4, 5, 6, 7, 1, 0] rfl)
        · replace hf := cb_ifp cn hf
          refine lv_iconst (v := 1) hx hb dX6_byTrump_92 (by decide) ?_
          refine lv_goto (tgt := 97) hx hb dX6_byTrump_93 (by decide) ?_
          exact w_X6_byTrump_97 C hp hf hs (lv_sub hl [3, 4, 5, 6, 7, 1, 0] rfl)
  · replace hf := cb_ifn cn hf
    refine lv_iload hx hb dX6_byTrump_39 (lv_at hl 6 rfl) ?_
    refine lv_if_eq (tgt := 48) hx hb dX6_byTrump_41 (by decide) (fun cn => ?_) (fun cn => ?_)
    · replace hf := cb_ifp cn hf
      refine lv_iconst (v := 1) hx hb dX6_byTrump_48 (by decide) ?_
      have hf := Option.some.inj hf
      subst hf
      exact cb_reti C hs dX6_byTrump_49
    · replace hf := cb_ifn cn hf
      refine lv_iconst (v := 0) hx hb dX6_byTrump_44 (by decide) ?_
      refine lv_goto (tgt := 49) hx hb dX6_byTrump_45 (by decide) ?_
      have hf := Option.some.inj hf
      subst hf
      exact cb_reti C hs dX6_byTrump_49
def f_X6_byTrump_14 (k : Nat) (x1 : Int32) (x2 : Int32) (x3 : Int32) (x4 : Int32) (σ : cb_St) (s0 : Int32) : Option (Int32) := cb_bp (f_X6_suitOf k x2 σ) (fun r_1 => if r_1 = x3 then (f_X6_byTrump_30 k x1 x2 x3 x4 σ s0 1) else (f_X6_byTrump_30 k x1 x2 x3 x4 σ s0 0))
set_option maxHeartbeats 4000000 in
set_option maxRecDepth 100000 in
theorem w_X6_byTrump_14 (C : cb_C p s m args meth c cX6_byTrump 9 (some .int) RX6 D T) {k : Nat} {x1 : Int32} {x2 : Int32} {x3 : Int32} {x4 : Int32} {σ : cb_St} {o : Int32} (hp : cb_tb k) {s0 : Int32} (hf : f_X6_byTrump_14 k x1 x2 x3 x4 σ s0 = some o) {H : Heap} {locs : List Loc} {ls : Array Slot} (hs : cb_H shC A T D σ s.heap H locs) (hl : lv_has ls 9 [(0, .ref (A k)), (1, .int x1), (2, .int x2), (3, .int x3), (4, .int x4)]) : cb_W p l e 2 s m args below meth c shC A T D (some (.int o)) σ H locs (F0 m 14 ls [.int s0]) := by
  obtain ⟨hx, hb, hml, hr, hown, hts, hK, hlk, hN⟩ := id C
  unfold f_X6_byTrump_14 at hf
  refine lv_istore (lv' := [(5, .int s0), (0, .ref (A k)), (1, .int x1), (2, .int x2), (3, .int x3), (4, .int x4)]) hx hb dX6_byTrump_14 hl (by decide) rfl (fun ls hl => ?_)
  refine lv_aload_n hx hb dX6_byTrump_16 rfl (lv_at hl 1 rfl) ?_
  refine lv_iload_n hx hb dX6_byTrump_17 rfl (lv_at hl 3 rfl) ?_
  obtain ⟨r_1, hc, hf⟩ := cb_bp_inv hf
  refine cb_callVi C (c_X6_suitOf hp hc) mw_X6_suitOf ml_X6_71 rfl ⟨Nat.le_of_ble_eq_true rfl, Nat.le_of_ble_eq_true rfl⟩ hp.1 (Nat.le_of_ble_eq_true rfl) rfl hs hl rfl (Nat.le_of_ble_eq_true rfl) dX6_byTrump_18 (fun H locs hs => ?_)
  clear hc
  refine lv_iload_n hx hb dX6_byTrump_21 rfl (lv_at hl 4 rfl) ?_
  refine lv_icmp_ne (tgt := 29) hx hb dX6_byTrump_22 (by decide) (fun cn => ?_) (fun cn => ?_)
  · replace hf := cb_ifn cn hf
    refine lv_iconst (v := 0) hx hb dX6_byTrump_29 (by decide) ?_
    exact w_X6_byTrump_30 C hp hf hs (lv_sub hl [1, 2, 3, 4, 5, 0] rfl)
  · replace hf := cb_ifp cn hf
    refine lv_iconst (v := 1) hx hb dX6_byTrump_25 (by decide) ?_
    refine lv_goto (tgt := 30) hx hb dX6_byTrump_26 (by decide) ?_
    exact w_X6_byTrump_30 C hp hf hs (lv_sub hl [1, 2, 3, 4, 5, 0] rfl)
def f_X6_byTrump (k : Nat) (x1 : Int32) (x2 : Int32) (x3 : Int32) (x4 : Int32) (σ : cb_St)  : Option (Int32) := cb_bp (f_X6_suitOf k x1 σ) (fun r_1 => if r_1 = x3 then (f_X6_byTrump_14 k x1 x2 x3 x4 σ 1) else (f_X6_byTrump_14 k x1 x2 x3 x4 σ 0))
set_option maxHeartbeats 4000000 in
set_option maxRecDepth 100000 in
theorem c_X6_byTrump {k : Nat} {x1 : Int32} {x2 : Int32} {x3 : Int32} {x4 : Int32} {σ : cb_St} (hp : cb_tb k)  {o : Int32} (hf : f_X6_byTrump k x1 x2 x3 x4 σ = some o) : cb_M l yX6_byTrump cX6_byTrump 9 (some .int) 2 shC A T D σ [.ref (A k), .int x1, .int x2, .int x3, .int x4] (some (.int o)) σ := by
  refine cb_met (by decide +kernel) (Nat.le_of_ble_eq_true rfl) ?_
  intro p e s m below meth c C hs ls hl
  have hl : lv_has ls 9 [(0, .ref (A k)), (1, .int x1), (2, .int x2), (3, .int x3), (4, .int x4)] := hl
  obtain ⟨hx, hb, hml, hr, hown, hts, hK, hlk, hN⟩ := id C
  unfold f_X6_byTrump at hf
  refine lv_aload_n hx hb dX6_byTrump_0 rfl (lv_at hl 0 rfl) ?_
  refine lv_iload_n hx hb dX6_byTrump_1 rfl (lv_at hl 1 rfl) ?_
  obtain ⟨r_1, hc, hf⟩ := cb_bp_inv hf
  refine cb_callVi C (c_X6_suitOf hp hc) mw_X6_suitOf ml_X6_71 rfl ⟨Nat.le_of_ble_eq_true rfl, Nat.le_of_ble_eq_true rfl⟩ hp.1 (Nat.le_of_ble_eq_true rfl) rfl hs hl rfl (Nat.le_of_ble_eq_true rfl) dX6_byTrump_2 (fun H locs hs => ?_)
  clear hc
  refine lv_iload_n hx hb dX6_byTrump_5 rfl (lv_at hl 3 rfl) ?_
  refine lv_icmp_ne (tgt := 13) hx hb dX6_byTrump_6 (by decide) (fun cn => ?_) (fun cn => ?_)
  · replace hf := cb_ifn cn hf
    refine lv_iconst (v := 0) hx hb dX6_byTrump_13 (by decide) ?_
    exact w_X6_byTrump_14 C hp hf hs (lv_sub hl [0, 1, 2, 3, 4] rfl)
  · replace hf := cb_ifp cn hf
    refine lv_iconst (v := 1) hx hb dX6_byTrump_9 (by decide) ?_
    refine lv_goto (tgt := 14) hx hb dX6_byTrump_10 (by decide) ?_
    exact w_X6_byTrump_14 C hp hf hs (lv_sub hl [0, 1, 2, 3, 4] rfl)
/-! ===== CardBecome$Table.allBeatenBy ===== -/
def f_X6_allBeatenBy_49 (k : Nat) (x1 : Int32) (σ : cb_St) (x2 : Int32) : Option (Int32) := some x2
set_option maxHeartbeats 4000000 in
set_option maxRecDepth 100000 in
theorem w_X6_allBeatenBy_49 (C : cb_C p s m args meth c cX6_allBeatenBy 4 (some .int) RX6 D T) {k : Nat} {x1 : Int32} {σ : cb_St} {o : Int32} (hp : cb_tb k) {x2 : Int32} (hf : f_X6_allBeatenBy_49 k x1 σ x2 = some o) {H : Heap} {locs : List Loc} {ls : Array Slot} (hs : cb_H shC A T D σ s.heap H locs) (hl : lv_has ls 4 [(0, .ref (A k)), (1, .int x1), (2, .int x2)]) : cb_W p l e 3 s m args below meth c shC A T D (some (.int o)) σ H locs (F0 m 49 ls []) := by
  obtain ⟨hx, hb, hml, hr, hown, hts, hK, hlk, hN⟩ := id C
  unfold f_X6_allBeatenBy_49 at hf
  refine lv_iload_n hx hb dX6_allBeatenBy_49 rfl (lv_at hl 2 rfl) ?_
  have hf := Option.some.inj hf
  subst hf
  exact cb_reti C hs dX6_allBeatenBy_50
def f_X6_allBeatenBy_43 (K4 : Int32 → Int32 → Option (Int32)) (k : Nat) (x1 : Int32) (σ : cb_St) (x2 : Int32) (x3 : Int32) : Option (Int32) := cb_let (x3 + 1) (fun x3_0 => K4 x2 x3_0)
set_option maxHeartbeats 4000000 in
set_option maxRecDepth 100000 in
theorem w_X6_allBeatenBy_43 (C : cb_C p s m args meth c cX6_allBeatenBy 4 (some .int) RX6 D T) {K4 : Int32 → Int32 → Option (Int32)} {k : Nat} {x1 : Int32} {σ : cb_St} {o : Int32} (hK4 : ∀ (x2 : Int32) (x3 : Int32), K4 x2 x3 = some o → ∀ (H : Heap) (locs : List Loc) (ls : Array Slot), cb_H shC A T D σ s.heap H locs → lv_has ls 4 [(0, .ref (A k)), (1, .int x1), (2, .int x2), (3, .int x3)] → cb_W p l e 3 s m args below meth c shC A T D (some (.int o)) σ H locs (F0 m 4 ls [])) (hp : cb_tb k) {x2 : Int32} {x3 : Int32} (hf : f_X6_allBeatenBy_43 K4 k x1 σ x2 x3 = some o) {H : Heap} {locs : List Loc} {ls : Array Slot} (hs : cb_H shC A T D σ s.heap H locs) (hl : lv_has ls 4 [(0, .ref (A k)), (1, .int x1), (2, .int x2), (3, .int x3)]) : cb_W p l e 3 s m args below meth c shC A T D (some (.int o)) σ H locs (F0 m 43 ls []) := by
  obtain ⟨hx, hb, hml, hr, hown, hts, hK, hlk, hN⟩ := id C
  unfold f_X6_allBeatenBy_43 at hf
  obtain ⟨x3_0, e9, hf⟩ := cb_let_inv hf
  refine lv_iinc (v := x3_0) (lv' := [(3, .int x3_0), (0, .ref (A k)), (1, .int x1), (2, .int x2)]) hx hb dX6_allBeatenBy_43 hl (k := 3) rfl (by rw [e9]; rfl) (by decide) rfl (fun ls hl => ?_)
  clear e9
  refine lv_goto (tgt := 4) hx hb dX6_allBeatenBy_46 (by decide) ?_
  exact hK4 _ _ hf _ _ _ hs (lv_sub hl [1, 2, 3, 0] rfl)
def f_X6_allBeatenBy_4 (k : Nat) (x1 : Int32) (σ : cb_St) : Nat → Int32 → Int32 → Option (Int32)
  | 0, _, _ => none
  | fu + 1, x2, x3 => if (σ.1 k 4) ≤ x1 then (f_X6_allBeatenBy_49 k x1 σ x2) else (if (σ.1 k 4) ≤ x3 then (f_X6_allBeatenBy_49 k x1 σ x2) else (cb_bp (f_X6_byTrump k x1 x3 (σ.1 k 1) (σ.1 k 2) σ) (fun r_1 => if r_1 = 0 then (cb_let (x2 ||| (1 <<< (x3 &&& 31))) (fun x2_1 => f_X6_allBeatenBy_43 (f_X6_allBeatenBy_4 k x1 σ fu) k x1 σ x2_1 x3)) else (f_X6_allBeatenBy_43 (f_X6_allBeatenBy_4 k x1 σ fu) k x1 σ x2 x3))))
set_option maxHeartbeats 4000000 in
set_option maxRecDepth 100000 in
theorem w_X6_allBeatenBy_4 (C : cb_C p s m args meth c cX6_allBeatenBy 4 (some .int) RX6 D T) {k : Nat} {x1 : Int32} {σ : cb_St} {o : Int32} (hp : cb_tb k) : ∀ (fu : Nat) (x2 : Int32) (x3 : Int32), f_X6_allBeatenBy_4 k x1 σ fu x2 x3 = some o → ∀ (H : Heap) (locs : List Loc) (ls : Array Slot), cb_H shC A T D σ s.heap H locs → lv_has ls 4 [(0, .ref (A k)), (1, .int x1), (2, .int x2), (3, .int x3)] → cb_W p l e 3 s m args below meth c shC A T D (some (.int o)) σ H locs (F0 m 4 ls []) := by
  obtain ⟨hx, hb, hml, hr, hown, hts, hK, hlk, hN⟩ := id C
  intro fu
  induction fu with
  | zero =>
    intro x2 x3 hf
    rw [f_X6_allBeatenBy_4] at hf
    cases hf
  | succ fu ih =>
    intro x2 x3 hf H locs ls hs hl
    rw [f_X6_allBeatenBy_4] at hf
    refine lv_iload_n hx hb dX6_allBeatenBy_4 rfl (lv_at hl 1 rfl) ?_
    refine lv_aload_n hx hb dX6_allBeatenBy_5 rfl (lv_at hl 0 rfl) ?_
    refine gf_X6_35 C hs hp.1 dX6_allBeatenBy_6 ?_
    refine lv_icmp_ge (tgt := 49) hx hb dX6_allBeatenBy_9 (by decide) (fun cn => ?_) (fun cn => ?_)
    · replace hf := cb_ifp cn hf
      exact w_X6_allBeatenBy_49 C hp hf hs (lv_sub hl [0, 1, 2] rfl)
    · replace hf := cb_ifn cn hf
      refine lv_iload_n hx hb dX6_allBeatenBy_12 rfl (lv_at hl 3 rfl) ?_
      refine lv_aload_n hx hb dX6_allBeatenBy_13 rfl (lv_at hl 0 rfl) ?_
      refine gf_X6_35 C hs hp.1 dX6_allBeatenBy_14 ?_
      refine lv_icmp_ge (tgt := 49) hx hb dX6_allBeatenBy_17 (by decide) (fun cn => ?_) (fun cn => ?_)
      · replace hf := cb_ifp cn hf
        exact w_X6_allBeatenBy_49 C hp hf hs (lv_sub hl [0, 1, 2] rfl)
      · replace hf := cb_ifn cn hf
        refine lv_aload_n hx hb dX6_allBeatenBy_20 rfl (lv_at hl 0 rfl) ?_
        refine lv_iload_n hx hb dX6_allBeatenBy_21 rfl (lv_at hl 1 rfl) ?_
        refine lv_iload_n hx hb dX6_allBeatenBy_22 rfl (lv_at hl 3 rfl) ?_
        refine lv_aload_n hx hb dX6_allBeatenBy_23 rfl (lv_at hl 0 rfl) ?_
        refine gf_X6_9 C hs hp.1 dX6_allBeatenBy_24 ?_
        refine lv_aload_n hx hb dX6_allBeatenBy_27 rfl (lv_at hl 0 rfl) ?_
        refine gf_X6_29 C hs hp.1 dX6_allBeatenBy_28 ?_
        obtain ⟨r_1, hc, hf⟩ := cb_bp_inv hf
        refine cb_callVi C (c_X6_byTrump hp hc) mw_X6_byTrump ml_X6_55 rfl ⟨Nat.le_of_ble_eq_true rfl, Nat.le_of_ble_eq_true rfl⟩ hp.1 (Nat.le_of_ble_eq_true rfl) rfl hs hl rfl (Nat.le_of_ble_eq_true rfl) dX6_allBeatenBy_31 (fun H locs hs => ?_)
        clear hc
        refine lv_if_ne (tgt := 43) hx hb dX6_allBeatenBy_34 (by decide) (fun cn => ?_) (fun cn => ?_)
        · replace hf := cb_ifn cn hf
          exact w_X6_allBeatenBy_43 C ih hp hf hs (lv_sub hl [0, 1, 2, 3] rfl)
        · replace hf := cb_ifp cn hf
          refine lv_iload_n hx hb dX6_allBeatenBy_37 rfl (lv_at hl 2 rfl) ?_
          refine lv_iconst (v := 1) hx hb dX6_allBeatenBy_38 (by decide) ?_
          refine lv_iload_n hx hb dX6_allBeatenBy_39 rfl (lv_at hl 3 rfl) ?_
          refine lv_ishl hx hb dX6_allBeatenBy_40 ?_
          refine lv_ior hx hb dX6_allBeatenBy_41 ?_
          obtain ⟨x2_1, e9, hf⟩ := cb_let_inv hf
          refine cb_topi e9 ?_
          clear e9
          refine lv_istore_n (lv' := [(2, .int x2_1), (0, .ref (A k)), (1, .int x1), (3, .int x3)]) hx hb dX6_allBeatenBy_42 rfl hl (by decide) rfl (fun ls hl => ?_)
          exact w_X6_allBeatenBy_43 C ih hp hf hs (lv_sub hl [1, 2, 0, 3] rfl)
def f_X6_allBeatenBy (k : Nat) (x1 : Int32) (σ : cb_St)  : Option (Int32) := f_X6_allBeatenBy_4 k x1 σ cb_fu 0 0
set_option maxHeartbeats 4000000 in
set_option maxRecDepth 100000 in
theorem c_X6_allBeatenBy {k : Nat} {x1 : Int32} {σ : cb_St} (hp : cb_tb k)  {o : Int32} (hf : f_X6_allBeatenBy k x1 σ = some o) : cb_M l yX6_allBeatenBy cX6_allBeatenBy 4 (some .int) 3 shC A T D σ [.ref (A k), .int x1] (some (.int o)) σ := by
  refine cb_met (by decide +kernel) (Nat.le_of_ble_eq_true rfl) ?_
  intro p e s m below meth c C hs ls hl
  have hl : lv_has ls 4 [(0, .ref (A k)), (1, .int x1)] := hl
  obtain ⟨hx, hb, hml, hr, hown, hts, hK, hlk, hN⟩ := id C
  unfold f_X6_allBeatenBy at hf
  refine lv_iconst (v := 0) hx hb dX6_allBeatenBy_0 (by decide) ?_
  refine lv_istore_n (lv' := [(2, .int 0), (0, .ref (A k)), (1, .int x1)]) hx hb dX6_allBeatenBy_1 rfl hl (by decide) rfl (fun ls hl => ?_)
  refine lv_iconst (v := 0) hx hb dX6_allBeatenBy_2 (by decide) ?_
  refine lv_istore_n (lv' := [(3, .int 0), (2, .int 0), (0, .ref (A k)), (1, .int x1)]) hx hb dX6_allBeatenBy_3 rfl hl (by decide) rfl (fun ls hl => ?_)
  exact w_X6_allBeatenBy_4 C hp cb_fu _ _ hf _ _ _ hs (lv_sub hl [2, 3, 1, 0] rfl)
/-! ===== CardBecome$Table.become ===== -/
def f_X6_become_88 (k : Nat) : Nat → cb_St → Int32 → Option (cb_St)
  | 0, _, _ => none
  | fu + 1, σ, x2 => if 12 ≤ x2 then (some σ) else (cb_bp (f_X6_allBeatenBy k x2 σ) (fun r_1 => cb_ck (0 ≤ Int32.toInt x2 ∧ Int32.toInt x2 < 12) (cb_let (cb_sI σ (k + 3) (Int32.toNatClampNeg x2) r_1) (fun σ_2 => cb_let (x2 + 1) (fun x2_2 => f_X6_become_88 k fu σ_2 x2_2)))))
set_option maxHeartbeats 4000000 in
set_option maxRecDepth 100000 in
theorem w_X6_become_88 (C : cb_C p s m args meth c cX6_become 3 none RX6 D T) {k : Nat} {o : cb_St} (hp : cb_tb k) : ∀ (fu : Nat) (σ : cb_St) (x2 : Int32), f_X6_become_88 k fu σ x2 = some o → ∀ (H : Heap) (locs : List Loc) (ls : Array Slot), cb_H shC A T D σ s.heap H locs → lv_has ls 3 [(0, .ref (A k)), (1, .ref (A 4)), (2, .int x2)] → cb_W p l e 4 s m args below meth c shC A T D none o H locs (F0 m 88 ls []) := by
  obtain ⟨hx, hb, hml, hr, hown, hts, hK, hlk, hN⟩ := id C
  intro fu
  induction fu with
  | zero =>
    intro σ x2 hf
    rw [f_X6_become_88] at hf
    cases hf
  | succ fu ih =>
    intro σ x2 hf H locs ls hs hl
    rw [f_X6_become_88] at hf
    refine lv_iload_n hx hb dX6_become_88 rfl (lv_at hl 2 rfl) ?_
    refine lv_bipush (v := 12) hx hb dX6_become_89 (by decide) ?_
    refine lv_icmp_ge (tgt := 111) hx hb dX6_become_91 (by decide) (fun cn => ?_) (fun cn => ?_)
    · replace hf := cb_ifp cn hf
      have hf := Option.some.inj hf
      subst hf
      exact cb_retv C hs dX6_become_111
    · replace hf := cb_ifn cn hf
      refine lv_aload_n hx hb dX6_become_94 rfl (lv_at hl 0 rfl) ?_
      refine gf_X6_22 C hs hp.1 dX6_become_95 ?_
      refine lv_iload_n hx hb dX6_become_98 rfl (lv_at hl 2 rfl) ?_
      refine lv_aload_n hx hb dX6_become_99 rfl (lv_at hl 0 rfl) ?_
      refine lv_iload_n hx hb dX6_become_100 rfl (lv_at hl 2 rfl) ?_
      obtain ⟨r_1, hc, hf⟩ := cb_bp_inv hf
      refine cb_callVi C (c_X6_allBeatenBy hp hc) mw_X6_allBeatenBy ml_X6_51 rfl ⟨Nat.le_of_ble_eq_true rfl, Nat.le_of_ble_eq_true rfl⟩ hp.1 (Nat.le_of_ble_eq_true rfl) rfl hs hl rfl (Nat.le_of_ble_eq_true rfl) dX6_become_101 (fun H locs hs => ?_)
      clear hc
      obtain ⟨hc, hf⟩ := cb_ck_inv hf
      refine cb_iast C hs hp.2.2.2 (vp_in_iff.mpr hc) dX6_become_104 (fun H locs hs => ?_)
      obtain ⟨σ_2, e9, hf⟩ := cb_let_inv hf
      replace hs := cb_Hc e9 hs
      clear e9
      obtain ⟨x2_2, e9, hf⟩ := cb_let_inv hf
      refine lv_iinc (v := x2_2) (lv' := [(2, .int x2_2), (0, .ref (A k)), (1, .ref (A 4))]) hx hb dX6_become_105 hl (k := 2) rfl (by rw [e9]; rfl) (by decide) rfl (fun ls hl => ?_)
      clear e9
      refine lv_goto (tgt := 88) hx hb dX6_become_108 (by decide) ?_
      exact ih _ _ hf _ _ _ hs (lv_sub hl [1, 2, 0] rfl)
def f_X6_become (k : Nat) (σ : cb_St) : Option (cb_St) := cb_ck ((σ.1 4 0) = 0 ∨ (σ.1 4 0) = 1) (cb_let (cb_sI σ k 0 (σ.1 4 0)) (fun σ_1 => cb_let (cb_sI σ_1 k 1 (σ_1.1 4 1)) (fun σ_2 => cb_let (cb_sI σ_2 k 2 (σ_2.1 4 2)) (fun σ_3 => cb_let (cb_sI σ_3 k 3 (σ_3.1 4 3)) (fun σ_4 => cb_let (cb_sI σ_4 k 4 (σ_4.1 4 4)) (fun σ_5 => cb_let (cb_sI σ_5 k 5 (σ_5.1 4 5)) (fun σ_6 => cb_let (cb_sL σ_6 k (σ_6.2 4)) (fun σ_7 => cb_ck (0 ≤ (0 : Int32) ∧ 0 ≤ (0 : Int32) ∧ 0 ≤ (12 : Int32) ∧ Int32.toNatClampNeg 0 + Int32.toNatClampNeg 12 ≤ 12 ∧ Int32.toNatClampNeg 0 + Int32.toNatClampNeg 12 ≤ 12) (cb_let (cb_sA σ_7 (k + 1) (va_cpy (σ_7.1 (4 + 1)) (σ_7.1 (k + 1)) (Int32.toNatClampNeg 0) (Int32.toNatClampNeg 0) (Int32.toNatClampNeg 12))) (fun σ_8 => cb_ck (0 ≤ (0 : Int32) ∧ 0 ≤ (0 : Int32) ∧ 0 ≤ (12 : Int32) ∧ Int32.toNatClampNeg 0 + Int32.toNatClampNeg 12 ≤ 12 ∧ Int32.toNatClampNeg 0 + Int32.toNatClampNeg 12 ≤ 12) (cb_let (cb_sA σ_8 (k + 2) (va_cpy (σ_8.1 (4 + 2)) (σ_8.1 (k + 2)) (Int32.toNatClampNeg 0) (Int32.toNatClampNeg 0) (Int32.toNatClampNeg 12))) (fun σ_9 => f_X6_become_88 k cb_fu σ_9 0))))))))))))
set_option maxHeartbeats 4000000 in
set_option maxRecDepth 100000 in
theorem c_X6_become {k : Nat} (hp : cb_tb k) {σ : cb_St} {o : cb_St} (hf : f_X6_become k σ = some o) : cb_M l yX6_become cX6_become 3 none 4 shC A T D σ [.ref (A k), .ref (A 4)] none o := by
  refine cb_met (by decide +kernel) (Nat.le_of_ble_eq_true rfl) ?_
  intro p e s m below meth c C hs ls hl
  have hl : lv_has ls 3 [(0, .ref (A k)), (1, .ref (A 4))] := hl
  obtain ⟨hx, hb, hml, hr, hown, hts, hK, hlk, hN⟩ := id C
  unfold f_X6_become at hf
  refine lv_aload_n hx hb dX6_become_0 rfl (lv_at hl 0 rfl) ?_
  refine lv_aload_n hx hb dX6_become_1 rfl (lv_at hl 1 rfl) ?_
  refine gf_X6_25 C hs cb_tb4.1 dX6_become_2 ?_
  obtain ⟨hc, hf⟩ := cb_ck_inv hf
  refine pf_X6_25 C hs hp.1 hc dX6_become_5 (fun H locs hs => ?_)
  obtain ⟨σ_1, e9, hf⟩ := cb_let_inv hf
  replace hs := cb_Hc e9 hs
  clear e9
  refine lv_aload_n hx hb dX6_become_8 rfl (lv_at hl 0 rfl) ?_
  refine lv_aload_n hx hb dX6_become_9 rfl (lv_at hl 1 rfl) ?_
  refine gf_X6_9 C hs cb_tb4.1 dX6_become_10 ?_
  refine pf_X6_9 C hs hp.1 dX6_become_13 (fun H locs hs => ?_)
  obtain ⟨σ_2, e9, hf⟩ := cb_let_inv hf
  replace hs := cb_Hc e9 hs
  clear e9
  refine lv_aload_n hx hb dX6_become_16 rfl (lv_at hl 0 rfl) ?_
  refine lv_aload_n hx hb dX6_become_17 rfl (lv_at hl 1 rfl) ?_
  refine gf_X6_29 C hs cb_tb4.1 dX6_become_18 ?_
  refine pf_X6_29 C hs hp.1 dX6_become_21 (fun H locs hs => ?_)
  obtain ⟨σ_3, e9, hf⟩ := cb_let_inv hf
  replace hs := cb_Hc e9 hs
  clear e9
  refine lv_aload_n hx hb dX6_become_24 rfl (lv_at hl 0 rfl) ?_
  refine lv_aload_n hx hb dX6_become_25 rfl (lv_at hl 1 rfl) ?_
  refine gf_X6_32 C hs cb_tb4.1 dX6_become_26 ?_
  refine pf_X6_32 C hs hp.1 dX6_become_29 (fun H locs hs => ?_)
  obtain ⟨σ_4, e9, hf⟩ := cb_let_inv hf
  replace hs := cb_Hc e9 hs
  clear e9
  refine lv_aload_n hx hb dX6_become_32 rfl (lv_at hl 0 rfl) ?_
  refine lv_aload_n hx hb dX6_become_33 rfl (lv_at hl 1 rfl) ?_
  refine gf_X6_35 C hs cb_tb4.1 dX6_become_34 ?_
  refine pf_X6_35 C hs hp.1 dX6_become_37 (fun H locs hs => ?_)
  obtain ⟨σ_5, e9, hf⟩ := cb_let_inv hf
  replace hs := cb_Hc e9 hs
  clear e9
  refine lv_aload_n hx hb dX6_become_40 rfl (lv_at hl 0 rfl) ?_
  refine lv_aload_n hx hb dX6_become_41 rfl (lv_at hl 1 rfl) ?_
  refine gf_X6_38 C hs cb_tb4.1 dX6_become_42 ?_
  refine pf_X6_38 C hs hp.1 dX6_become_45 (fun H locs hs => ?_)
  obtain ⟨σ_6, e9, hf⟩ := cb_let_inv hf
  replace hs := cb_Hc e9 hs
  clear e9
  refine lv_aload_n hx hb dX6_become_48 rfl (lv_at hl 0 rfl) ?_
  refine lv_aload_n hx hb dX6_become_49 rfl (lv_at hl 1 rfl) ?_
  refine gf_X6_41 C hs cb_tb4.1 dX6_become_50 ?_
  refine pf_X6_41 C hs hp.1 dX6_become_53 (fun H locs hs => ?_)
  obtain ⟨σ_7, e9, hf⟩ := cb_let_inv hf
  replace hs := cb_Hc e9 hs
  clear e9
  refine lv_aload_n hx hb dX6_become_56 rfl (lv_at hl 1 rfl) ?_
  refine gf_X6_15 C hs cb_tb4.1 dX6_become_57 ?_
  refine lv_iconst (v := 0) hx hb dX6_become_60 (by decide) ?_
  refine lv_aload_n hx hb dX6_become_61 rfl (lv_at hl 0 rfl) ?_
  refine gf_X6_15 C hs hp.1 dX6_become_62 ?_
  refine lv_iconst (v := 0) hx hb dX6_become_65 (by decide) ?_
  refine lv_bipush (v := 12) hx hb dX6_become_66 (by decide) ?_
  obtain ⟨⟨g1, g2, g3, g4, g5⟩, hf⟩ := cb_ck_inv hf
  refine cb_copy C hs ml_X6_45 cb_tb4.2.1 hp.2.1 (Nat.le_of_ble_eq_true rfl) hl g1 g2 g3 g4 g5 mw_copy (Nat.le_of_ble_eq_true rfl) dX6_become_68 (fun H locs hs => ?_)
  obtain ⟨σ_8, e9, hf⟩ := cb_let_inv hf
  replace hs := cb_Hc e9 hs
  clear e9
  refine lv_aload_n hx hb dX6_become_71 rfl (lv_at hl 1 rfl) ?_
  refine gf_X6_19 C hs cb_tb4.1 dX6_become_72 ?_
  refine lv_iconst (v := 0) hx hb dX6_become_75 (by decide) ?_
  refine lv_aload_n hx hb dX6_become_76 rfl (lv_at hl 0 rfl) ?_
  refine gf_X6_19 C hs hp.1 dX6_become_77 ?_
  refine lv_iconst (v := 0) hx hb dX6_become_80 (by decide) ?_
  refine lv_bipush (v := 12) hx hb dX6_become_81 (by decide) ?_
  obtain ⟨⟨g1, g2, g3, g4, g5⟩, hf⟩ := cb_ck_inv hf
  refine cb_copy C hs ml_X6_45 cb_tb4.2.2.1 hp.2.2.1 (Nat.le_of_ble_eq_true rfl) hl g1 g2 g3 g4 g5 mw_copy (Nat.le_of_ble_eq_true rfl) dX6_become_83 (fun H locs hs => ?_)
  obtain ⟨σ_9, e9, hf⟩ := cb_let_inv hf
  replace hs := cb_Hc e9 hs
  clear e9
  refine lv_iconst (v := 0) hx hb dX6_become_86 (by decide) ?_
  refine lv_istore_n (lv' := [(2, .int 0), (0, .ref (A k)), (1, .ref (A 4))]) hx hb dX6_become_87 rfl hl (by decide) rfl (fun ls hl => ?_)
  exact w_X6_become_88 C hp cb_fu _ _ hf _ _ _ hs (lv_sub hl [1, 2, 0] rfl)
/-! ===== CardBecome$Table.byRule ===== -/
def f_X6_byRule (k : Nat) (x1 : Int32) (x2 : Int32) (x3 : Int32) (σ : cb_St)  : Option (Int32) := cb_bp (f_X6_byTrump k x1 x2 (x3 / 2) (x3 - x3 / 2 * 2) σ) (fun r_1 => some r_1)
set_option maxHeartbeats 4000000 in
set_option maxRecDepth 100000 in
theorem c_X6_byRule {k : Nat} {x1 : Int32} {x2 : Int32} {x3 : Int32} {σ : cb_St} (hp : cb_tb k)  {o : Int32} (hf : f_X6_byRule k x1 x2 x3 σ = some o) : cb_M l yX6_byRule cX6_byRule 4 (some .int) 3 shC A T D σ [.ref (A k), .int x1, .int x2, .int x3] (some (.int o)) σ := by
  refine cb_met (by decide +kernel) (Nat.le_of_ble_eq_true rfl) ?_
  intro p e s m below meth c C hs ls hl
  have hl : lv_has ls 4 [(0, .ref (A k)), (1, .int x1), (2, .int x2), (3, .int x3)] := hl
  obtain ⟨hx, hb, hml, hr, hown, hts, hK, hlk, hN⟩ := id C
  unfold f_X6_byRule at hf
  refine lv_aload_n hx hb dX6_byRule_0 rfl (lv_at hl 0 rfl) ?_
  refine lv_iload_n hx hb dX6_byRule_1 rfl (lv_at hl 1 rfl) ?_
  refine lv_iload_n hx hb dX6_byRule_2 rfl (lv_at hl 2 rfl) ?_
  refine lv_iload_n hx hb dX6_byRule_3 rfl (lv_at hl 3 rfl) ?_
  refine lv_iconst (v := 2) hx hb dX6_byRule_4 (by decide) ?_
  refine lv_idiv hx hb dX6_byRule_5 (by decide) ?_
  refine lv_iload_n hx hb dX6_byRule_6 rfl (lv_at hl 3 rfl) ?_
  refine lv_iconst (v := 2) hx hb dX6_byRule_7 (by decide) ?_
  refine lv_irem hx hb dX6_byRule_8 (by decide) ?_
  obtain ⟨r_1, hc, hf⟩ := cb_bp_inv hf
  refine cb_callVi C (c_X6_byTrump hp hc) mw_X6_byTrump ml_X6_55 rfl ⟨Nat.le_of_ble_eq_true rfl, Nat.le_of_ble_eq_true rfl⟩ hp.1 (Nat.le_of_ble_eq_true rfl) rfl hs hl rfl (Nat.le_of_ble_eq_true rfl) dX6_byRule_9 (fun H locs hs => ?_)
  clear hc
  have hf := Option.some.inj hf
  subst hf
  exact cb_reti C hs dX6_byRule_12
/-! ===== CardBecome$Table.hasCard ===== -/
def f_X6_hasCard_16 (k : Nat) (x1 : Int32) (σ : cb_St)  : Option (Int32) := some 0
set_option maxHeartbeats 4000000 in
set_option maxRecDepth 100000 in
theorem w_X6_hasCard_16 (C : cb_C p s m args meth c cX6_hasCard 2 (some .boolean) RX6 D T) {k : Nat} {x1 : Int32} {σ : cb_St} {o : Int32} (hp : cb_tb k)  (hf : f_X6_hasCard_16 k x1 σ = some o) {H : Heap} {locs : List Loc} {ls : Array Slot} (hs : cb_H shC A T D σ s.heap H locs) (hl : lv_has ls 2 [(0, .ref (A k)), (1, .int x1)]) : cb_W p l e 1 s m args below meth c shC A T D (some (.int o)) σ H locs (F0 m 16 ls []) := by
  obtain ⟨hx, hb, hml, hr, hown, hts, hK, hlk, hN⟩ := id C
  unfold f_X6_hasCard_16 at hf
  refine lv_iconst (v := 0) hx hb dX6_hasCard_16 (by decide) ?_
  have hf := Option.some.inj hf
  subst hf
  exact cb_retz C hs (Or.inl rfl) dX6_hasCard_17
def f_X6_hasCard (k : Nat) (x1 : Int32) (σ : cb_St)  : Option (Int32) := if x1 < 0 then (f_X6_hasCard_16 k x1 σ) else (if (σ.1 k 4) ≤ x1 then (f_X6_hasCard_16 k x1 σ) else (some 1))
set_option maxHeartbeats 4000000 in
set_option maxRecDepth 100000 in
theorem c_X6_hasCard {k : Nat} {x1 : Int32} {σ : cb_St} (hp : cb_tb k)  {o : Int32} (hf : f_X6_hasCard k x1 σ = some o) : cb_M l yX6_hasCard cX6_hasCard 2 (some .boolean) 1 shC A T D σ [.ref (A k), .int x1] (some (.int o)) σ := by
  refine cb_met (by decide +kernel) (Nat.le_of_ble_eq_true rfl) ?_
  intro p e s m below meth c C hs ls hl
  have hl : lv_has ls 2 [(0, .ref (A k)), (1, .int x1)] := hl
  obtain ⟨hx, hb, hml, hr, hown, hts, hK, hlk, hN⟩ := id C
  unfold f_X6_hasCard at hf
  refine lv_iload_n hx hb dX6_hasCard_0 rfl (lv_at hl 1 rfl) ?_
  refine lv_if_lt (tgt := 16) hx hb dX6_hasCard_1 (by decide) (fun cn => ?_) (fun cn => ?_)
  · replace hf := cb_ifp cn hf
    exact w_X6_hasCard_16 C hp hf hs (lv_sub hl [0, 1] rfl)
  · replace hf := cb_ifn cn hf
    refine lv_iload_n hx hb dX6_hasCard_4 rfl (lv_at hl 1 rfl) ?_
    refine lv_aload_n hx hb dX6_hasCard_5 rfl (lv_at hl 0 rfl) ?_
    refine gf_X6_35 C hs hp.1 dX6_hasCard_6 ?_
    refine lv_icmp_ge (tgt := 16) hx hb dX6_hasCard_9 (by decide) (fun cn => ?_) (fun cn => ?_)
    · replace hf := cb_ifp cn hf
      exact w_X6_hasCard_16 C hp hf hs (lv_sub hl [0, 1] rfl)
    · replace hf := cb_ifn cn hf
      refine lv_iconst (v := 1) hx hb dX6_hasCard_12 (by decide) ?_
      refine lv_goto (tgt := 17) hx hb dX6_hasCard_13 (by decide) ?_
      have hf := Option.some.inj hf
      subst hf
      exact cb_retz C hs (Or.inr rfl) dX6_hasCard_17
/-! ===== CardBecome$Table.hasPerson ===== -/
def f_X6_hasPerson_16 (k : Nat) (x1 : Int32) (σ : cb_St)  : Option (Int32) := some 0
set_option maxHeartbeats 4000000 in
set_option maxRecDepth 100000 in
theorem w_X6_hasPerson_16 (C : cb_C p s m args meth c cX6_hasPerson 2 (some .boolean) RX6 D T) {k : Nat} {x1 : Int32} {σ : cb_St} {o : Int32} (hp : cb_tb k)  (hf : f_X6_hasPerson_16 k x1 σ = some o) {H : Heap} {locs : List Loc} {ls : Array Slot} (hs : cb_H shC A T D σ s.heap H locs) (hl : lv_has ls 2 [(0, .ref (A k)), (1, .int x1)]) : cb_W p l e 1 s m args below meth c shC A T D (some (.int o)) σ H locs (F0 m 16 ls []) := by
  obtain ⟨hx, hb, hml, hr, hown, hts, hK, hlk, hN⟩ := id C
  unfold f_X6_hasPerson_16 at hf
  refine lv_iconst (v := 0) hx hb dX6_hasPerson_16 (by decide) ?_
  have hf := Option.some.inj hf
  subst hf
  exact cb_retz C hs (Or.inl rfl) dX6_hasPerson_17
def f_X6_hasPerson (k : Nat) (x1 : Int32) (σ : cb_St)  : Option (Int32) := if x1 < 0 then (f_X6_hasPerson_16 k x1 σ) else (if (σ.1 k 5) ≤ x1 then (f_X6_hasPerson_16 k x1 σ) else (some 1))
set_option maxHeartbeats 4000000 in
set_option maxRecDepth 100000 in
theorem c_X6_hasPerson {k : Nat} {x1 : Int32} {σ : cb_St} (hp : cb_tb k)  {o : Int32} (hf : f_X6_hasPerson k x1 σ = some o) : cb_M l yX6_hasPerson cX6_hasPerson 2 (some .boolean) 1 shC A T D σ [.ref (A k), .int x1] (some (.int o)) σ := by
  refine cb_met (by decide +kernel) (Nat.le_of_ble_eq_true rfl) ?_
  intro p e s m below meth c C hs ls hl
  have hl : lv_has ls 2 [(0, .ref (A k)), (1, .int x1)] := hl
  obtain ⟨hx, hb, hml, hr, hown, hts, hK, hlk, hN⟩ := id C
  unfold f_X6_hasPerson at hf
  refine lv_iload_n hx hb dX6_hasPerson_0 rfl (lv_at hl 1 rfl) ?_
  refine lv_if_lt (tgt := 16) hx hb dX6_hasPerson_1 (by decide) (fun cn => ?_) (fun cn => ?_)
  · replace hf := cb_ifp cn hf
    exact w_X6_hasPerson_16 C hp hf hs (lv_sub hl [0, 1] rfl)
  · replace hf := cb_ifn cn hf
    refine lv_iload_n hx hb dX6_hasPerson_4 rfl (lv_at hl 1 rfl) ?_
    refine lv_aload_n hx hb dX6_hasPerson_5 rfl (lv_at hl 0 rfl) ?_
    refine gf_X6_38 C hs hp.1 dX6_hasPerson_6 ?_
    refine lv_icmp_ge (tgt := 16) hx hb dX6_hasPerson_9 (by decide) (fun cn => ?_) (fun cn => ?_)
    · replace hf := cb_ifp cn hf
      exact w_X6_hasPerson_16 C hp hf hs (lv_sub hl [0, 1] rfl)
    · replace hf := cb_ifn cn hf
      refine lv_iconst (v := 1) hx hb dX6_hasPerson_12 (by decide) ?_
      refine lv_goto (tgt := 17) hx hb dX6_hasPerson_13 (by decide) ?_
      have hf := Option.some.inj hf
      subst hf
      exact cb_retz C hs (Or.inr rfl) dX6_hasPerson_17
/-! ===== CardBecome$Table.hasTwoPersons ===== -/
def f_X6_hasTwoPersons_25 (k : Nat) (x1 : Int32) (x2 : Int32) (σ : cb_St)  : Option (Int32) := some 0
set_option maxHeartbeats 4000000 in
set_option maxRecDepth 100000 in
theorem w_X6_hasTwoPersons_25 (C : cb_C p s m args meth c cX6_hasTwoPersons 3 (some .boolean) RX6 D T) {k : Nat} {x1 : Int32} {x2 : Int32} {σ : cb_St} {o : Int32} (hp : cb_tb k)  (hf : f_X6_hasTwoPersons_25 k x1 x2 σ = some o) {H : Heap} {locs : List Loc} {ls : Array Slot} (hs : cb_H shC A T D σ s.heap H locs) (hl : lv_has ls 3 [(0, .ref (A k)), (1, .int x1), (2, .int x2)]) : cb_W p l e 2 s m args below meth c shC A T D (some (.int o)) σ H locs (F0 m 25 ls []) := by
  obtain ⟨hx, hb, hml, hr, hown, hts, hK, hlk, hN⟩ := id C
  unfold f_X6_hasTwoPersons_25 at hf
  refine lv_iconst (v := 0) hx hb dX6_hasTwoPersons_25 (by decide) ?_
  have hf := Option.some.inj hf
  subst hf
  exact cb_retz C hs (Or.inl rfl) dX6_hasTwoPersons_26
def f_X6_hasTwoPersons (k : Nat) (x1 : Int32) (x2 : Int32) (σ : cb_St)  : Option (Int32) := cb_bp (f_X6_hasPerson k x1 σ) (fun r_1 => if r_1 = 0 then (f_X6_hasTwoPersons_25 k x1 x2 σ) else (cb_bp (f_X6_hasPerson k x2 σ) (fun r_2 => if r_2 = 0 then (f_X6_hasTwoPersons_25 k x1 x2 σ) else (if x1 = x2 then (f_X6_hasTwoPersons_25 k x1 x2 σ) else (some 1)))))
set_option maxHeartbeats 4000000 in
set_option maxRecDepth 100000 in
theorem c_X6_hasTwoPersons {k : Nat} {x1 : Int32} {x2 : Int32} {σ : cb_St} (hp : cb_tb k)  {o : Int32} (hf : f_X6_hasTwoPersons k x1 x2 σ = some o) : cb_M l yX6_hasTwoPersons cX6_hasTwoPersons 3 (some .boolean) 2 shC A T D σ [.ref (A k), .int x1, .int x2] (some (.int o)) σ := by
  refine cb_met (by decide +kernel) (Nat.le_of_ble_eq_true rfl) ?_
  intro p e s m below meth c C hs ls hl
  have hl : lv_has ls 3 [(0, .ref (A k)), (1, .int x1), (2, .int x2)] := hl
  obtain ⟨hx, hb, hml, hr, hown, hts, hK, hlk, hN⟩ := id C
  unfold f_X6_hasTwoPersons at hf
  refine lv_aload_n hx hb dX6_hasTwoPersons_0 rfl (lv_at hl 0 rfl) ?_
  refine lv_iload_n hx hb dX6_hasTwoPersons_1 rfl (lv_at hl 1 rfl) ?_
  obtain ⟨r_1, hc, hf⟩ := cb_bp_inv hf
  refine cb_callVi C (c_X6_hasPerson hp hc) mw_X6_hasPerson ml_X6_63 rfl ⟨Nat.le_of_ble_eq_true rfl, Nat.le_of_ble_eq_true rfl⟩ hp.1 (Nat.le_of_ble_eq_true rfl) rfl hs hl rfl (Nat.le_of_ble_eq_true rfl) dX6_hasTwoPersons_2 (fun H locs hs => ?_)
  clear hc
  refine lv_if_eq (tgt := 25) hx hb dX6_hasTwoPersons_5 (by decide) (fun cn => ?_) (fun cn => ?_)
  · replace hf := cb_ifp cn hf
    exact w_X6_hasTwoPersons_25 C hp hf hs (lv_sub hl [0, 1, 2] rfl)
  · replace hf := cb_ifn cn hf
    refine lv_aload_n hx hb dX6_hasTwoPersons_8 rfl (lv_at hl 0 rfl) ?_
    refine lv_iload_n hx hb dX6_hasTwoPersons_9 rfl (lv_at hl 2 rfl) ?_
    obtain ⟨r_2, hc, hf⟩ := cb_bp_inv hf
    refine cb_callVi C (c_X6_hasPerson hp hc) mw_X6_hasPerson ml_X6_63 rfl ⟨Nat.le_of_ble_eq_true rfl, Nat.le_of_ble_eq_true rfl⟩ hp.1 (Nat.le_of_ble_eq_true rfl) rfl hs hl rfl (Nat.le_of_ble_eq_true rfl) dX6_hasTwoPersons_10 (fun H locs hs => ?_)
    clear hc
    refine lv_if_eq (tgt := 25) hx hb dX6_hasTwoPersons_13 (by decide) (fun cn => ?_) (fun cn => ?_)
    · replace hf := cb_ifp cn hf
      exact w_X6_hasTwoPersons_25 C hp hf hs (lv_sub hl [0, 1, 2] rfl)
    · replace hf := cb_ifn cn hf
      refine lv_iload_n hx hb dX6_hasTwoPersons_16 rfl (lv_at hl 1 rfl) ?_
      refine lv_iload_n hx hb dX6_hasTwoPersons_17 rfl (lv_at hl 2 rfl) ?_
      refine lv_icmp_eq (tgt := 25) hx hb dX6_hasTwoPersons_18 (by decide) (fun cn => ?_) (fun cn => ?_)
      · replace hf := cb_ifp cn hf
        exact w_X6_hasTwoPersons_25 C hp hf hs (lv_sub hl [0, 1, 2] rfl)
      · replace hf := cb_ifn cn hf
        refine lv_iconst (v := 1) hx hb dX6_hasTwoPersons_21 (by decide) ?_
        refine lv_goto (tgt := 26) hx hb dX6_hasTwoPersons_22 (by decide) ?_
        have hf := Option.some.inj hf
        subst hf
        exact cb_retz C hs (Or.inr rfl) dX6_hasTwoPersons_26
end
