section
variable {p : Program} {l : Launch} {e : Env} {s : State} {m : MethodId} {args : Array Value} {below : List Frame} {meth : Method} {c : Code} {A : Nat → Nat} {T : Nat → ClassId} {D : va_G}
/-! ===== CardBecome.ask ===== -/
def f_X7_ask_10 (x1 : Int32) (σ : cb_St) : Option (Int32 × cb_St) := some ((-1000000002), σ)
set_option maxHeartbeats 4000000 in
set_option maxRecDepth 100000 in
theorem w_X7_ask_10 (C : cb_C p s m args meth c cX7_ask 2 (some .int) RX7 D T) {x1 : Int32} {o : Int32 × cb_St}  {σ : cb_St} (hf : f_X7_ask_10 x1 σ = some o) {H : Heap} {locs : List Loc} {ls : Array Slot} (hs : cb_H shC A T D σ s.heap H locs) (hl : lv_has ls 2 [(0, .ref (A 0)), (1, .int x1)]) : cb_W p l e 15 s m args below meth c shC A T D (some (.int o.1)) o.2 H locs (F0 m 10 ls []) := by
  obtain ⟨hx, hb, hml, hr, hown, hts, hK, hlk, hN⟩ := id C
  unfold f_X7_ask_10 at hf
  refine lv_ldc (v := (-1000000002)) hx hb hown (hts _ kc_X7_65) dX7_ask_10 ?_
  have hf := Option.some.inj hf
  subst hf
  exact cb_reti C hs dX7_ask_12
def f_X7_ask (x1 : Int32) (σ : cb_St) : Option (Int32 × cb_St) := if x1 < 1 then (f_X7_ask_10 x1 σ) else (if x1 ≤ 5 then (cb_bv (f_X0_lay x1 σ) (fun σ_1 => cb_bp (f_X0_bestPair σ_1) (fun r_2 => some (r_2, σ_1)))) else (f_X7_ask_10 x1 σ))
set_option maxHeartbeats 4000000 in
set_option maxRecDepth 100000 in
theorem c_X7_ask {x1 : Int32}  {σ : cb_St} {o : Int32 × cb_St} (hf : f_X7_ask x1 σ = some o) : cb_M l yX7_ask cX7_ask 2 (some .int) 15 shC A T D σ [.ref (A 0), .int x1] (some (.int o.1)) o.2 := by
  refine cb_met (by decide +kernel) (Nat.le_of_ble_eq_true rfl) ?_
  intro p e s m below meth c C hs ls hl
  have hl : lv_has ls 2 [(0, .ref (A 0)), (1, .int x1)] := hl
  obtain ⟨hx, hb, hml, hr, hown, hts, hK, hlk, hN⟩ := id C
  unfold f_X7_ask at hf
  refine lv_iload_n hx hb dX7_ask_0 rfl (lv_at hl 1 rfl) ?_
  refine lv_iconst (v := 1) hx hb dX7_ask_1 (by decide) ?_
  refine lv_icmp_lt (tgt := 10) hx hb dX7_ask_2 (by decide) (fun cn => ?_) (fun cn => ?_)
  · replace hf := cb_ifp cn hf
    exact w_X7_ask_10 C  hf hs (lv_sub hl [0, 1] rfl)
  · replace hf := cb_ifn cn hf
    refine lv_iload_n hx hb dX7_ask_5 rfl (lv_at hl 1 rfl) ?_
    refine lv_iconst (v := 5) hx hb dX7_ask_6 (by decide) ?_
    refine lv_icmp_le (tgt := 13) hx hb dX7_ask_7 (by decide) (fun cn => ?_) (fun cn => ?_)
    · replace hf := cb_ifp cn hf
      refine lv_aload_n hx hb dX7_ask_13 rfl (lv_at hl 0 rfl) ?_
      refine gf_X7_54 C hs rfl dX7_ask_14 ?_
      refine lv_iload_n hx hb dX7_ask_17 rfl (lv_at hl 1 rfl) ?_
      refine lv_aload_n hx hb dX7_ask_18 rfl (lv_at hl 0 rfl) ?_
      refine gf_X7_26 C hs rfl dX7_ask_19 ?_
      refine lv_aload_n hx hb dX7_ask_22 rfl (lv_at hl 0 rfl) ?_
      refine gf_X7_33 C hs rfl dX7_ask_23 ?_
      refine lv_aload_n hx hb dX7_ask_26 rfl (lv_at hl 0 rfl) ?_
      refine gf_X7_47 C hs rfl dX7_ask_27 ?_
      obtain ⟨σ_1, hc, hf⟩ := cb_bv_inv hf
      refine cb_callVv C (c_X0_lay  hc) mw_X0_lay ml_X7_282 rfl ⟨Nat.le_of_ble_eq_true rfl, Nat.le_of_ble_eq_true rfl⟩ rfl (Nat.le_of_ble_eq_true rfl) rfl hs hl rfl (Nat.le_of_ble_eq_true rfl) dX7_ask_30 (fun H locs hs => ?_)
      clear hc
      refine lv_aload_n hx hb dX7_ask_33 rfl (lv_at hl 0 rfl) ?_
      refine gf_X7_54 C hs rfl dX7_ask_34 ?_
      obtain ⟨r_2, hc, hf⟩ := cb_bp_inv hf
      refine cb_callVi C (c_X0_bestPair  hc) mw_X0_bestPair ml_X7_292 rfl ⟨Nat.le_of_ble_eq_true rfl, Nat.le_of_ble_eq_true rfl⟩ rfl (Nat.le_of_ble_eq_true rfl) rfl hs hl rfl (Nat.le_of_ble_eq_true rfl) dX7_ask_37 (fun H locs hs => ?_)
      clear hc
      have hf := Option.some.inj hf
      subst hf
      exact cb_reti C hs dX7_ask_40
    · replace hf := cb_ifn cn hf
      exact w_X7_ask_10 C  hf hs (lv_sub hl [0, 1] rfl)
/-! ===== CardBecome.winsOver ===== -/
def f_X7_winsOver (x1 : Int32) (x2 : Int32) (σ : cb_St)  : Option (Int32) := cb_bp (f_X4_cardOf 13 x1 σ) (fun r_1 => cb_bp (f_X4_cardOf 13 x2 σ) (fun r_2 => cb_bp (f_X6_between 9 r_1 r_2 σ) (fun r_3 => if r_3 = 0 then (some 1) else (some 0))))
set_option maxHeartbeats 4000000 in
set_option maxRecDepth 100000 in
theorem c_X7_winsOver {x1 : Int32} {x2 : Int32} {σ : cb_St}   {o : Int32} (hf : f_X7_winsOver x1 x2 σ = some o) : cb_M l yX7_winsOver cX7_winsOver 3 (some .boolean) 3 shC A T D σ [.ref (A 0), .int x1, .int x2] (some (.int o)) σ := by
  refine cb_met (by decide +kernel) (Nat.le_of_ble_eq_true rfl) ?_
  intro p e s m below meth c C hs ls hl
  have hl : lv_has ls 3 [(0, .ref (A 0)), (1, .int x1), (2, .int x2)] := hl
  obtain ⟨hx, hb, hml, hr, hown, hts, hK, hlk, hN⟩ := id C
  unfold f_X7_winsOver at hf
  refine lv_aload_n hx hb dX7_winsOver_0 rfl (lv_at hl 0 rfl) ?_
  refine gf_X7_26 C hs rfl dX7_winsOver_1 ?_
  refine lv_aload_n hx hb dX7_winsOver_4 rfl (lv_at hl 0 rfl) ?_
  refine gf_X7_33 C hs rfl dX7_winsOver_5 ?_
  refine lv_iload_n hx hb dX7_winsOver_8 rfl (lv_at hl 1 rfl) ?_
  obtain ⟨r_1, hc, hf⟩ := cb_bp_inv hf
  refine cb_callVi C (c_X4_cardOf cb_pl13 hc) mw_X4_cardOf ml_X7_170 rfl ⟨Nat.le_of_ble_eq_true rfl, Nat.le_of_ble_eq_true rfl⟩ cb_pl13.1 (Nat.le_of_ble_eq_true rfl) rfl hs hl rfl (Nat.le_of_ble_eq_true rfl) dX7_winsOver_9 (fun H locs hs => ?_)
  clear hc
  refine lv_aload_n hx hb dX7_winsOver_12 rfl (lv_at hl 0 rfl) ?_
  refine gf_X7_33 C hs rfl dX7_winsOver_13 ?_
  refine lv_iload_n hx hb dX7_winsOver_16 rfl (lv_at hl 2 rfl) ?_
  obtain ⟨r_2, hc, hf⟩ := cb_bp_inv hf
  refine cb_callVi C (c_X4_cardOf cb_pl13 hc) mw_X4_cardOf ml_X7_170 rfl ⟨Nat.le_of_ble_eq_true rfl, Nat.le_of_ble_eq_true rfl⟩ cb_pl13.1 (Nat.le_of_ble_eq_true rfl) rfl hs hl rfl (Nat.le_of_ble_eq_true rfl) dX7_winsOver_17 (fun H locs hs => ?_)
  clear hc
  obtain ⟨r_3, hc, hf⟩ := cb_bp_inv hf
  refine cb_callVi C (c_X6_between cb_tb9 hc) mw_X6_between ml_X7_239 rfl ⟨Nat.le_of_ble_eq_true rfl, Nat.le_of_ble_eq_true rfl⟩ cb_tb9.1 (Nat.le_of_ble_eq_true rfl) rfl hs hl rfl (Nat.le_of_ble_eq_true rfl) dX7_winsOver_20 (fun H locs hs => ?_)
  clear hc
  refine lv_if_ne (tgt := 30) hx hb dX7_winsOver_23 (by decide) (fun cn => ?_) (fun cn => ?_)
  · replace hf := cb_ifn cn hf
    refine lv_iconst (v := 0) hx hb dX7_winsOver_30 (by decide) ?_
    have hf := Option.some.inj hf
    subst hf
    exact cb_retz C hs (Or.inl rfl) dX7_winsOver_31
  · replace hf := cb_ifp cn hf
    refine lv_iconst (v := 1) hx hb dX7_winsOver_26 (by decide) ?_
    refine lv_goto (tgt := 31) hx hb dX7_winsOver_27 (by decide) ?_
    have hf := Option.some.inj hf
    subst hf
    exact cb_retz C hs (Or.inr rfl) dX7_winsOver_31
/-! ===== CardBecome.beatenBy ===== -/
def f_X7_beatenBy_30 (K4 : Int32 → Int32 → Option (Int32)) (x1 : Int32) (σ : cb_St) (x2 : Int32) (x3 : Int32) : Option (Int32) := cb_let (x3 + 1) (fun x3_0 => K4 x2 x3_0)
set_option maxHeartbeats 4000000 in
set_option maxRecDepth 100000 in
theorem w_X7_beatenBy_30 (C : cb_C p s m args meth c cX7_beatenBy 4 (some .int) RX7 D T) {K4 : Int32 → Int32 → Option (Int32)} {x1 : Int32} {σ : cb_St} {o : Int32} (hK4 : ∀ (x2 : Int32) (x3 : Int32), K4 x2 x3 = some o → ∀ (H : Heap) (locs : List Loc) (ls : Array Slot), cb_H shC A T D σ s.heap H locs → lv_has ls 4 [(0, .ref (A 0)), (1, .int x1), (2, .int x2), (3, .int x3)] → cb_W p l e 4 s m args below meth c shC A T D (some (.int o)) σ H locs (F0 m 4 ls [])) {x2 : Int32} {x3 : Int32} (hf : f_X7_beatenBy_30 K4 x1 σ x2 x3 = some o) {H : Heap} {locs : List Loc} {ls : Array Slot} (hs : cb_H shC A T D σ s.heap H locs) (hl : lv_has ls 4 [(0, .ref (A 0)), (1, .int x1), (2, .int x2), (3, .int x3)]) : cb_W p l e 4 s m args below meth c shC A T D (some (.int o)) σ H locs (F0 m 30 ls []) := by
  obtain ⟨hx, hb, hml, hr, hown, hts, hK, hlk, hN⟩ := id C
  unfold f_X7_beatenBy_30 at hf
  obtain ⟨x3_0, e9, hf⟩ := cb_let_inv hf
  refine lv_iinc (v := x3_0) (lv' := [(3, .int x3_0), (0, .ref (A 0)), (1, .int x1), (2, .int x2)]) hx hb dX7_beatenBy_30 hl (k := 3) rfl (by rw [e9]; rfl) (by decide) rfl (fun ls hl => ?_)
  clear e9
  refine lv_goto (tgt := 4) hx hb dX7_beatenBy_33 (by decide) ?_
  exact hK4 _ _ hf _ _ _ hs (lv_sub hl [1, 2, 3, 0] rfl)
def f_X7_beatenBy_4 (x1 : Int32) (σ : cb_St) : Nat → Int32 → Int32 → Option (Int32)
  | 0, _, _ => none
  | fu + 1, x2, x3 => if (σ.1 9 5) ≤ x3 then (some x2) else (cb_bp (f_X7_winsOver x1 x3 σ) (fun r_1 => if r_1 = 0 then (f_X7_beatenBy_30 (f_X7_beatenBy_4 x1 σ fu) x1 σ x2 x3) else (cb_let (x2 ||| (1 <<< (x3 &&& 31))) (fun x2_1 => f_X7_beatenBy_30 (f_X7_beatenBy_4 x1 σ fu) x1 σ x2_1 x3))))
set_option maxHeartbeats 4000000 in
set_option maxRecDepth 100000 in
theorem w_X7_beatenBy_4 (C : cb_C p s m args meth c cX7_beatenBy 4 (some .int) RX7 D T) {x1 : Int32} {σ : cb_St} {o : Int32}  : ∀ (fu : Nat) (x2 : Int32) (x3 : Int32), f_X7_beatenBy_4 x1 σ fu x2 x3 = some o → ∀ (H : Heap) (locs : List Loc) (ls : Array Slot), cb_H shC A T D σ s.heap H locs → lv_has ls 4 [(0, .ref (A 0)), (1, .int x1), (2, .int x2), (3, .int x3)] → cb_W p l e 4 s m args below meth c shC A T D (some (.int o)) σ H locs (F0 m 4 ls []) := by
  obtain ⟨hx, hb, hml, hr, hown, hts, hK, hlk, hN⟩ := id C
  intro fu
  induction fu with
  | zero =>
    intro x2 x3 hf
    rw [f_X7_beatenBy_4] at hf
    cases hf
  | succ fu ih =>
    intro x2 x3 hf H locs ls hs hl
    rw [f_X7_beatenBy_4] at hf
    refine lv_iload_n hx hb dX7_beatenBy_4 rfl (lv_at hl 3 rfl) ?_
    refine lv_aload_n hx hb dX7_beatenBy_5 rfl (lv_at hl 0 rfl) ?_
    refine gf_X7_26 C hs rfl dX7_beatenBy_6 ?_
    refine gf_X7_105 C hs cb_tb9.1 dX7_beatenBy_9 ?_
    refine lv_icmp_ge (tgt := 36) hx hb dX7_beatenBy_12 (by decide) (fun cn => ?_) (fun cn => ?_)
    · replace hf := cb_ifp cn hf
      refine lv_iload_n hx hb dX7_beatenBy_36 rfl (lv_at hl 2 rfl) ?_
      have hf := Option.some.inj hf
      subst hf
      exact cb_reti C hs dX7_beatenBy_37
    · replace hf := cb_ifn cn hf
      refine lv_aload_n hx hb dX7_beatenBy_15 rfl (lv_at hl 0 rfl) ?_
      refine lv_iload_n hx hb dX7_beatenBy_16 rfl (lv_at hl 1 rfl) ?_
      refine lv_iload_n hx hb dX7_beatenBy_17 rfl (lv_at hl 3 rfl) ?_
      obtain ⟨r_1, hc, hf⟩ := cb_bp_inv hf
      refine cb_callVi C (c_X7_winsOver  hc) mw_X7_winsOver ml_X7_273 rfl ⟨Nat.le_of_ble_eq_true rfl, Nat.le_of_ble_eq_true rfl⟩ rfl (Nat.le_of_ble_eq_true rfl) rfl hs hl rfl (Nat.le_of_ble_eq_true rfl) dX7_beatenBy_18 (fun H locs hs => ?_)
      clear hc
      refine lv_if_eq (tgt := 30) hx hb dX7_beatenBy_21 (by decide) (fun cn => ?_) (fun cn => ?_)
      · replace hf := cb_ifp cn hf
        exact w_X7_beatenBy_30 C ih hf hs (lv_sub hl [0, 1, 2, 3] rfl)
      · replace hf := cb_ifn cn hf
        refine lv_iload_n hx hb dX7_beatenBy_24 rfl (lv_at hl 2 rfl) ?_
        refine lv_iconst (v := 1) hx hb dX7_beatenBy_25 (by decide) ?_
        refine lv_iload_n hx hb dX7_beatenBy_26 rfl (lv_at hl 3 rfl) ?_
        refine lv_ishl hx hb dX7_beatenBy_27 ?_
        refine lv_ior hx hb dX7_beatenBy_28 ?_
        obtain ⟨x2_1, e9, hf⟩ := cb_let_inv hf
        refine cb_topi e9 ?_
        clear e9
        refine lv_istore_n (lv' := [(2, .int x2_1), (0, .ref (A 0)), (1, .int x1), (3, .int x3)]) hx hb dX7_beatenBy_29 rfl hl (by decide) rfl (fun ls hl => ?_)
        exact w_X7_beatenBy_30 C ih hf hs (lv_sub hl [1, 2, 0, 3] rfl)
def f_X7_beatenBy (x1 : Int32) (σ : cb_St)  : Option (Int32) := f_X7_beatenBy_4 x1 σ cb_fu 0 0
set_option maxHeartbeats 4000000 in
set_option maxRecDepth 100000 in
theorem c_X7_beatenBy {x1 : Int32} {σ : cb_St}   {o : Int32} (hf : f_X7_beatenBy x1 σ = some o) : cb_M l yX7_beatenBy cX7_beatenBy 4 (some .int) 4 shC A T D σ [.ref (A 0), .int x1] (some (.int o)) σ := by
  refine cb_met (by decide +kernel) (Nat.le_of_ble_eq_true rfl) ?_
  intro p e s m below meth c C hs ls hl
  have hl : lv_has ls 4 [(0, .ref (A 0)), (1, .int x1)] := hl
  obtain ⟨hx, hb, hml, hr, hown, hts, hK, hlk, hN⟩ := id C
  unfold f_X7_beatenBy at hf
  refine lv_iconst (v := 0) hx hb dX7_beatenBy_0 (by decide) ?_
  refine lv_istore_n (lv' := [(2, .int 0), (0, .ref (A 0)), (1, .int x1)]) hx hb dX7_beatenBy_1 rfl hl (by decide) rfl (fun ls hl => ?_)
  refine lv_iconst (v := 0) hx hb dX7_beatenBy_2 (by decide) ?_
  refine lv_istore_n (lv' := [(3, .int 0), (2, .int 0), (0, .ref (A 0)), (1, .int x1)]) hx hb dX7_beatenBy_3 rfl hl (by decide) rfl (fun ls hl => ?_)
  exact w_X7_beatenBy_4 C  cb_fu _ _ hf _ _ _ hs (lv_sub hl [2, 3, 1, 0] rfl)
/-! ===== CardBecome.back ===== -/
def f_X7_back_56 (K33 : Int32 → Int32 → Option (Int32)) (x1 : Int32) (σ : cb_St) (x2 : Int32) (x3 : Int32) : Option (Int32) := cb_let (x3 + 1) (fun x3_0 => K33 x2 x3_0)
set_option maxHeartbeats 4000000 in
set_option maxRecDepth 100000 in
theorem w_X7_back_56 (C : cb_C p s m args meth c cX7_back 4 (some .int) RX7 D T) {K33 : Int32 → Int32 → Option (Int32)} {x1 : Int32} {σ : cb_St} {o : Int32} (hK33 : ∀ (x2 : Int32) (x3 : Int32), K33 x2 x3 = some o → ∀ (H : Heap) (locs : List Loc) (ls : Array Slot), cb_H shC A T D σ s.heap H locs → lv_has ls 4 [(0, .ref (A 0)), (1, .int x1), (2, .int x2), (3, .int x3)] → cb_W p l e 5 s m args below meth c shC A T D (some (.int o)) σ H locs (F0 m 33 ls [])) {x2 : Int32} {x3 : Int32} (hf : f_X7_back_56 K33 x1 σ x2 x3 = some o) {H : Heap} {locs : List Loc} {ls : Array Slot} (hs : cb_H shC A T D σ s.heap H locs) (hl : lv_has ls 4 [(0, .ref (A 0)), (1, .int x1), (2, .int x2), (3, .int x3)]) : cb_W p l e 5 s m args below meth c shC A T D (some (.int o)) σ H locs (F0 m 56 ls []) := by
  obtain ⟨hx, hb, hml, hr, hown, hts, hK, hlk, hN⟩ := id C
  unfold f_X7_back_56 at hf
  obtain ⟨x3_0, e9, hf⟩ := cb_let_inv hf
  refine lv_iinc (v := x3_0) (lv' := [(3, .int x3_0), (0, .ref (A 0)), (1, .int x1), (2, .int x2)]) hx hb dX7_back_56 hl (k := 3) rfl (by rw [e9]; rfl) (by decide) rfl (fun ls hl => ?_)
  clear e9
  refine lv_goto (tgt := 33) hx hb dX7_back_59 (by decide) ?_
  exact hK33 _ _ hf _ _ _ hs (lv_sub hl [1, 2, 3, 0] rfl)
def f_X7_back_33 (x1 : Int32) (σ : cb_St) : Nat → Int32 → Int32 → Option (Int32)
  | 0, _, _ => none
  | fu + 1, x2, x3 => if (σ.1 9 5) ≤ x3 then (cb_bp (f_X7_beatenBy x1 σ) (fun r_1 => cb_bp (f_J6_bitCount_0f7a4 σ r_1) (fun r_2 => if x2 ≤ r_2 then (some 0) else (some 1)))) else (cb_bp (f_X7_winsOver x3 x1 σ) (fun r_3 => if r_3 = 0 then (f_X7_back_56 (f_X7_back_33 x1 σ fu) x1 σ x2 x3) else (cb_let (x2 + 1) (fun x2_3 => f_X7_back_56 (f_X7_back_33 x1 σ fu) x1 σ x2_3 x3))))
set_option maxHeartbeats 4000000 in
set_option maxRecDepth 100000 in
theorem w_X7_back_33 (C : cb_C p s m args meth c cX7_back 4 (some .int) RX7 D T) {x1 : Int32} {σ : cb_St} {o : Int32}  : ∀ (fu : Nat) (x2 : Int32) (x3 : Int32), f_X7_back_33 x1 σ fu x2 x3 = some o → ∀ (H : Heap) (locs : List Loc) (ls : Array Slot), cb_H shC A T D σ s.heap H locs → lv_has ls 4 [(0, .ref (A 0)), (1, .int x1), (2, .int x2), (3, .int x3)] → cb_W p l e 5 s m args below meth c shC A T D (some (.int o)) σ H locs (F0 m 33 ls []) := by
  obtain ⟨hx, hb, hml, hr, hown, hts, hK, hlk, hN⟩ := id C
  intro fu
  induction fu with
  | zero =>
    intro x2 x3 hf
    rw [f_X7_back_33] at hf
    cases hf
  | succ fu ih =>
    intro x2 x3 hf H locs ls hs hl
    rw [f_X7_back_33] at hf
    refine lv_iload_n hx hb dX7_back_33 rfl (lv_at hl 3 rfl) ?_
    refine lv_aload_n hx hb dX7_back_34 rfl (lv_at hl 0 rfl) ?_
    refine gf_X7_26 C hs rfl dX7_back_35 ?_
    refine gf_X7_105 C hs cb_tb9.1 dX7_back_38 ?_
    refine lv_icmp_ge (tgt := 62) hx hb dX7_back_41 (by decide) (fun cn => ?_) (fun cn => ?_)
    · replace hf := cb_ifp cn hf
      refine lv_iload_n hx hb dX7_back_62 rfl (lv_at hl 2 rfl) ?_
      refine lv_aload_n hx hb dX7_back_63 rfl (lv_at hl 0 rfl) ?_
      refine lv_iload_n hx hb dX7_back_64 rfl (lv_at hl 1 rfl) ?_
      obtain ⟨r_1, hc, hf⟩ := cb_bp_inv hf
      refine cb_callVi C (c_X7_beatenBy  hc) mw_X7_beatenBy ml_X7_176 rfl ⟨Nat.le_of_ble_eq_true rfl, Nat.le_of_ble_eq_true rfl⟩ rfl (Nat.le_of_ble_eq_true rfl) rfl hs hl rfl (Nat.le_of_ble_eq_true rfl) dX7_back_65 (fun H locs hs => ?_)
      clear hc
      obtain ⟨r_2, hc, hf⟩ := cb_bp_inv hf
      refine cb_callSi C (c_J6_bitCount_0f7a4  hc) mw_J6_bitCount_0f7a4 ml_X7_264 rfl ⟨Nat.le_of_ble_eq_true rfl, Nat.le_of_ble_eq_true rfl⟩ hs hl rfl (Nat.le_of_ble_eq_true rfl) dX7_back_68 (fun H locs hs => ?_)
      clear hc
      refine lv_icmp_le (tgt := 78) hx hb dX7_back_71 (by decide) (fun cn => ?_) (fun cn => ?_)
      · replace hf := cb_ifp cn hf
        refine lv_iconst (v := 0) hx hb dX7_back_78 (by decide) ?_
        have hf := Option.some.inj hf
        subst hf
        exact cb_reti C hs dX7_back_79
      · replace hf := cb_ifn cn hf
        refine lv_iconst (v := 1) hx hb dX7_back_74 (by decide) ?_
        refine lv_goto (tgt := 79) hx hb dX7_back_75 (by decide) ?_
        have hf := Option.some.inj hf
        subst hf
        exact cb_reti C hs dX7_back_79
    · replace hf := cb_ifn cn hf
      refine lv_aload_n hx hb dX7_back_44 rfl (lv_at hl 0 rfl) ?_
      refine lv_iload_n hx hb dX7_back_45 rfl (lv_at hl 3 rfl) ?_
      refine lv_iload_n hx hb dX7_back_46 rfl (lv_at hl 1 rfl) ?_
      obtain ⟨r_3, hc, hf⟩ := cb_bp_inv hf
      refine cb_callVi C (c_X7_winsOver  hc) mw_X7_winsOver ml_X7_273 rfl ⟨Nat.le_of_ble_eq_true rfl, Nat.le_of_ble_eq_true rfl⟩ rfl (Nat.le_of_ble_eq_true rfl) rfl hs hl rfl (Nat.le_of_ble_eq_true rfl) dX7_back_47 (fun H locs hs => ?_)
      clear hc
      refine lv_if_eq (tgt := 56) hx hb dX7_back_50 (by decide) (fun cn => ?_) (fun cn => ?_)
      · replace hf := cb_ifp cn hf
        exact w_X7_back_56 C ih hf hs (lv_sub hl [0, 1, 2, 3] rfl)
      · replace hf := cb_ifn cn hf
        obtain ⟨x2_3, e9, hf⟩ := cb_let_inv hf
        refine lv_iinc (v := x2_3) (lv' := [(2, .int x2_3), (0, .ref (A 0)), (1, .int x1), (3, .int x3)]) hx hb dX7_back_53 hl (k := 2) rfl (by rw [e9]; rfl) (by decide) rfl (fun ls hl => ?_)
        clear e9
        exact w_X7_back_56 C ih hf hs (lv_sub hl [1, 2, 0, 3] rfl)
def f_X7_back (x1 : Int32) (σ : cb_St)  : Option (Int32) := cb_bp (f_X6_hasPerson 9 x1 σ) (fun r_1 => if r_1 = 0 then (some (-1000000001)) else (cb_bp (f_X4_cardOf 13 x1 σ) (fun r_2 => if r_2 = (-1) then (some (-1000000003)) else (f_X7_back_33 x1 σ cb_fu 0 0))))
set_option maxHeartbeats 4000000 in
set_option maxRecDepth 100000 in
theorem c_X7_back {x1 : Int32} {σ : cb_St}   {o : Int32} (hf : f_X7_back x1 σ = some o) : cb_M l yX7_back cX7_back 4 (some .int) 5 shC A T D σ [.ref (A 0), .int x1] (some (.int o)) σ := by
  refine cb_met (by decide +kernel) (Nat.le_of_ble_eq_true rfl) ?_
  intro p e s m below meth c C hs ls hl
  have hl : lv_has ls 4 [(0, .ref (A 0)), (1, .int x1)] := hl
  obtain ⟨hx, hb, hml, hr, hown, hts, hK, hlk, hN⟩ := id C
  unfold f_X7_back at hf
  refine lv_aload_n hx hb dX7_back_0 rfl (lv_at hl 0 rfl) ?_
  refine gf_X7_26 C hs rfl dX7_back_1 ?_
  refine lv_iload_n hx hb dX7_back_4 rfl (lv_at hl 1 rfl) ?_
  obtain ⟨r_1, hc, hf⟩ := cb_bp_inv hf
  refine cb_callVi C (c_X6_hasPerson cb_tb9 hc) mw_X6_hasPerson ml_X7_167 rfl ⟨Nat.le_of_ble_eq_true rfl, Nat.le_of_ble_eq_true rfl⟩ cb_tb9.1 (Nat.le_of_ble_eq_true rfl) rfl hs hl rfl (Nat.le_of_ble_eq_true rfl) dX7_back_5 (fun H locs hs => ?_)
  clear hc
  refine lv_if_ne (tgt := 14) hx hb dX7_back_8 (by decide) (fun cn => ?_) (fun cn => ?_)
  · replace hf := cb_ifn cn hf
    refine lv_aload_n hx hb dX7_back_14 rfl (lv_at hl 0 rfl) ?_
    refine gf_X7_33 C hs rfl dX7_back_15 ?_
    refine lv_iload_n hx hb dX7_back_18 rfl (lv_at hl 1 rfl) ?_
    obtain ⟨r_2, hc, hf⟩ := cb_bp_inv hf
    refine cb_callVi C (c_X4_cardOf cb_pl13 hc) mw_X4_cardOf ml_X7_170 rfl ⟨Nat.le_of_ble_eq_true rfl, Nat.le_of_ble_eq_true rfl⟩ cb_pl13.1 (Nat.le_of_ble_eq_true rfl) rfl hs hl rfl (Nat.le_of_ble_eq_true rfl) dX7_back_19 (fun H locs hs => ?_)
    clear hc
    refine lv_iconst (v := (-1)) hx hb dX7_back_22 (by decide) ?_
    refine lv_icmp_ne (tgt := 29) hx hb dX7_back_23 (by decide) (fun cn => ?_) (fun cn => ?_)
    · replace hf := cb_ifn cn hf
      refine lv_iconst (v := 0) hx hb dX7_back_29 (by decide) ?_
      refine lv_istore_n (lv' := [(2, .int 0), (0, .ref (A 0)), (1, .int x1)]) hx hb dX7_back_30 rfl hl (by decide) rfl (fun ls hl => ?_)
      refine lv_iconst (v := 0) hx hb dX7_back_31 (by decide) ?_
      refine lv_istore_n (lv' := [(3, .int 0), (2, .int 0), (0, .ref (A 0)), (1, .int x1)]) hx hb dX7_back_32 rfl hl (by decide) rfl (fun ls hl => ?_)
      exact w_X7_back_33 C  cb_fu _ _ hf _ _ _ hs (lv_sub hl [2, 3, 1, 0] rfl)
    · replace hf := cb_ifp cn hf
      refine lv_ldc (v := (-1000000003)) hx hb hown (hts _ kc_X7_198) dX7_back_26 ?_
      have hf := Option.some.inj hf
      subst hf
      exact cb_reti C hs dX7_back_28
  · replace hf := cb_ifp cn hf
    refine lv_ldc (v := (-1000000001)) hx hb hown (hts _ kc_X7_150) dX7_back_11 ?_
    have hf := Option.some.inj hf
    subst hf
    exact cb_reti C hs dX7_back_13
/-! ===== CardBecome.beats ===== -/
def f_X7_beats_27 (x1 : Int32) (x2 : Int32) (σ : cb_St)  : Option (Int32) := some (-1000000001)
set_option maxHeartbeats 4000000 in
set_option maxRecDepth 100000 in
theorem w_X7_beats_27 (C : cb_C p s m args meth c cX7_beats 4 (some .int) RX7 D T) {x1 : Int32} {x2 : Int32} {σ : cb_St} {o : Int32}   (hf : f_X7_beats_27 x1 x2 σ = some o) {H : Heap} {locs : List Loc} {ls : Array Slot} (hs : cb_H shC A T D σ s.heap H locs) (hl : lv_has ls 4 [(0, .ref (A 0)), (1, .int x1), (2, .int x2)]) : cb_W p l e 3 s m args below meth c shC A T D (some (.int o)) σ H locs (F0 m 27 ls []) := by
  obtain ⟨hx, hb, hml, hr, hown, hts, hK, hlk, hN⟩ := id C
  unfold f_X7_beats_27 at hf
  refine lv_ldc (v := (-1000000001)) hx hb hown (hts _ kc_X7_150) dX7_beats_27 ?_
  have hf := Option.some.inj hf
  subst hf
  exact cb_reti C hs dX7_beats_29
def f_X7_beats (x1 : Int32) (x2 : Int32) (σ : cb_St)  : Option (Int32) := cb_bp (f_X6_hasCard 9 x1 σ) (fun r_1 => if r_1 = 0 then (f_X7_beats_27 x1 x2 σ) else (cb_bp (f_X6_hasCard 9 x2 σ) (fun r_2 => if r_2 = 0 then (f_X7_beats_27 x1 x2 σ) else (if x1 = x2 then (f_X7_beats_27 x1 x2 σ) else (cb_bp (f_X6_between 9 x1 x2 σ) (fun r_3 => if r_3 = 2 then (some 0) else (if r_3 = 0 then (some 1) else (some 2))))))))
set_option maxHeartbeats 4000000 in
set_option maxRecDepth 100000 in
theorem c_X7_beats {x1 : Int32} {x2 : Int32} {σ : cb_St}   {o : Int32} (hf : f_X7_beats x1 x2 σ = some o) : cb_M l yX7_beats cX7_beats 4 (some .int) 3 shC A T D σ [.ref (A 0), .int x1, .int x2] (some (.int o)) σ := by
  refine cb_met (by decide +kernel) (Nat.le_of_ble_eq_true rfl) ?_
  intro p e s m below meth c C hs ls hl
  have hl : lv_has ls 4 [(0, .ref (A 0)), (1, .int x1), (2, .int x2)] := hl
  obtain ⟨hx, hb, hml, hr, hown, hts, hK, hlk, hN⟩ := id C
  unfold f_X7_beats at hf
  refine lv_aload_n hx hb dX7_beats_0 rfl (lv_at hl 0 rfl) ?_
  refine gf_X7_26 C hs rfl dX7_beats_1 ?_
  refine lv_iload_n hx hb dX7_beats_4 rfl (lv_at hl 1 rfl) ?_
  obtain ⟨r_1, hc, hf⟩ := cb_bp_inv hf
  refine cb_callVi C (c_X6_hasCard cb_tb9 hc) mw_X6_hasCard ml_X7_147 rfl ⟨Nat.le_of_ble_eq_true rfl, Nat.le_of_ble_eq_true rfl⟩ cb_tb9.1 (Nat.le_of_ble_eq_true rfl) rfl hs hl rfl (Nat.le_of_ble_eq_true rfl) dX7_beats_5 (fun H locs hs => ?_)
  clear hc
  refine lv_if_eq (tgt := 27) hx hb dX7_beats_8 (by decide) (fun cn => ?_) (fun cn => ?_)
  · replace hf := cb_ifp cn hf
    exact w_X7_beats_27 C  hf hs (lv_sub hl [0, 1, 2] rfl)
  · replace hf := cb_ifn cn hf
    refine lv_aload_n hx hb dX7_beats_11 rfl (lv_at hl 0 rfl) ?_
    refine gf_X7_26 C hs rfl dX7_beats_12 ?_
    refine lv_iload_n hx hb dX7_beats_15 rfl (lv_at hl 2 rfl) ?_
    obtain ⟨r_2, hc, hf⟩ := cb_bp_inv hf
    refine cb_callVi C (c_X6_hasCard cb_tb9 hc) mw_X6_hasCard ml_X7_147 rfl ⟨Nat.le_of_ble_eq_true rfl, Nat.le_of_ble_eq_true rfl⟩ cb_tb9.1 (Nat.le_of_ble_eq_true rfl) rfl hs hl rfl (Nat.le_of_ble_eq_true rfl) dX7_beats_16 (fun H locs hs => ?_)
    clear hc
    refine lv_if_eq (tgt := 27) hx hb dX7_beats_19 (by decide) (fun cn => ?_) (fun cn => ?_)
    · replace hf := cb_ifp cn hf
      exact w_X7_beats_27 C  hf hs (lv_sub hl [0, 1, 2] rfl)
    · replace hf := cb_ifn cn hf
      refine lv_iload_n hx hb dX7_beats_22 rfl (lv_at hl 1 rfl) ?_
      refine lv_iload_n hx hb dX7_beats_23 rfl (lv_at hl 2 rfl) ?_
      refine lv_icmp_ne (tgt := 30) hx hb dX7_beats_24 (by decide) (fun cn => ?_) (fun cn => ?_)
      · replace hf := cb_ifn cn hf
        refine lv_aload_n hx hb dX7_beats_30 rfl (lv_at hl 0 rfl) ?_
        refine gf_X7_26 C hs rfl dX7_beats_31 ?_
        refine lv_iload_n hx hb dX7_beats_34 rfl (lv_at hl 1 rfl) ?_
        refine lv_iload_n hx hb dX7_beats_35 rfl (lv_at hl 2 rfl) ?_
        obtain ⟨r_3, hc, hf⟩ := cb_bp_inv hf
        refine cb_callVi C (c_X6_between cb_tb9 hc) mw_X6_between ml_X7_239 rfl ⟨Nat.le_of_ble_eq_true rfl, Nat.le_of_ble_eq_true rfl⟩ cb_tb9.1 (Nat.le_of_ble_eq_true rfl) rfl hs hl rfl (Nat.le_of_ble_eq_true rfl) dX7_beats_36 (fun H locs hs => ?_)
        clear hc
        refine lv_istore_n (lv' := [(3, .int r_3), (0, .ref (A 0)), (1, .int x1), (2, .int x2)]) hx hb dX7_beats_39 rfl hl (by decide) rfl (fun ls hl => ?_)
        refine lv_iload_n hx hb dX7_beats_40 rfl (lv_at hl 0 rfl) ?_
        refine lv_iconst (v := 2) hx hb dX7_beats_41 (by decide) ?_
        refine lv_icmp_ne (tgt := 47) hx hb dX7_beats_42 (by decide) (fun cn => ?_) (fun cn => ?_)
        · replace hf := cb_ifn cn hf
          refine lv_iload_n hx hb dX7_beats_47 rfl (lv_at hl 0 rfl) ?_
          refine lv_if_ne (tgt := 55) hx hb dX7_beats_48 (by decide) (fun cn => ?_) (fun cn => ?_)
          · replace hf := cb_ifn cn hf
            refine lv_iconst (v := 2) hx hb dX7_beats_55 (by decide) ?_
            have hf := Option.some.inj hf
            subst hf
            exact cb_reti C hs dX7_beats_56
          · replace hf := cb_ifp cn hf
            refine lv_iconst (v := 1) hx hb dX7_beats_51 (by decide) ?_
            refine lv_goto (tgt := 56) hx hb dX7_beats_52 (by decide) ?_
            have hf := Option.some.inj hf
            subst hf
            exact cb_reti C hs dX7_beats_56
        · replace hf := cb_ifp cn hf
          refine lv_iconst (v := 0) hx hb dX7_beats_45 (by decide) ?_
          have hf := Option.some.inj hf
          subst hf
          exact cb_reti C hs dX7_beats_46
      · replace hf := cb_ifp cn hf
        exact w_X7_beats_27 C  hf hs (lv_sub hl [0, 1, 2] rfl)
/-! ===== CardBecome.card ===== -/
def f_X7_card (x1 : Int32) (x2 : Int32) (σ : cb_St)  : Option (Int32) := cb_bp (f_X6_hasCard 9 x1 σ) (fun r_1 => if r_1 = 0 then (some (-1000000001)) else (if x2 = 0 then (cb_bp (f_X6_rankOf 9 x1 σ) (fun r_2 => some r_2)) else (if x2 = 1 then (cb_bp (f_X6_suitOf 9 x1 σ) (fun r_3 => some r_3)) else (if x2 = 2 then (cb_bp (f_X4_placeOf 13 x1 σ) (fun r_4 => some r_4)) else (if x2 = 3 then (cb_bp (f_X4_holderOf 13 x1 σ) (fun r_5 => some r_5)) else (if x2 = 4 then (some (((σ.1 13 1) >>> (x1 &&& 31)) &&& 1)) else (some (-1000000002))))))))
set_option maxHeartbeats 4000000 in
set_option maxRecDepth 100000 in
theorem c_X7_card {x1 : Int32} {x2 : Int32} {σ : cb_St}   {o : Int32} (hf : f_X7_card x1 x2 σ = some o) : cb_M l yX7_card cX7_card 3 (some .int) 3 shC A T D σ [.ref (A 0), .int x1, .int x2] (some (.int o)) σ := by
  refine cb_met (by decide +kernel) (Nat.le_of_ble_eq_true rfl) ?_
  intro p e s m below meth c C hs ls hl
  have hl : lv_has ls 3 [(0, .ref (A 0)), (1, .int x1), (2, .int x2)] := hl
  obtain ⟨hx, hb, hml, hr, hown, hts, hK, hlk, hN⟩ := id C
  unfold f_X7_card at hf
  refine lv_aload_n hx hb dX7_card_0 rfl (lv_at hl 0 rfl) ?_
  refine gf_X7_26 C hs rfl dX7_card_1 ?_
  refine lv_iload_n hx hb dX7_card_4 rfl (lv_at hl 1 rfl) ?_
  obtain ⟨r_1, hc, hf⟩ := cb_bp_inv hf
  refine cb_callVi C (c_X6_hasCard cb_tb9 hc) mw_X6_hasCard ml_X7_147 rfl ⟨Nat.le_of_ble_eq_true rfl, Nat.le_of_ble_eq_true rfl⟩ cb_tb9.1 (Nat.le_of_ble_eq_true rfl) rfl hs hl rfl (Nat.le_of_ble_eq_true rfl) dX7_card_5 (fun H locs hs => ?_)
  clear hc
  refine lv_if_ne (tgt := 14) hx hb dX7_card_8 (by decide) (fun cn => ?_) (fun cn => ?_)
  · replace hf := cb_ifn cn hf
    refine lv_iload_n hx hb dX7_card_14 rfl (lv_at hl 2 rfl) ?_
    by_cases cn0 : x2 = 0
    · replace hf := cb_ifp cn0 hf
      refine lv_tableIn (tgt := 48) hx hb dX7_card_15 (by rw [cn0]; decide) (by rw [cn0]; decide) (by rw [cn0]; rfl) (by decide) ?_
      refine lv_aload_n hx hb dX7_card_48 rfl (lv_at hl 0 rfl) ?_
      refine gf_X7_26 C hs rfl dX7_card_49 ?_
      refine lv_iload_n hx hb dX7_card_52 rfl (lv_at hl 1 rfl) ?_
      obtain ⟨r_2, hc, hf⟩ := cb_bp_inv hf
      refine cb_callVi C (c_X6_rankOf cb_tb9 hc) mw_X6_rankOf ml_X7_151 rfl ⟨Nat.le_of_ble_eq_true rfl, Nat.le_of_ble_eq_true rfl⟩ cb_tb9.1 (Nat.le_of_ble_eq_true rfl) rfl hs hl rfl (Nat.le_of_ble_eq_true rfl) dX7_card_53 (fun H locs hs => ?_)
      clear hc
      have hf := Option.some.inj hf
      subst hf
      exact cb_reti C hs dX7_card_56
    replace hf := cb_ifn cn0 hf
    by_cases cn1 : x2 = 1
    · replace hf := cb_ifp cn1 hf
      refine lv_tableIn (tgt := 57) hx hb dX7_card_15 (by rw [cn1]; decide) (by rw [cn1]; decide) (by rw [cn1]; rfl) (by decide) ?_
      refine lv_aload_n hx hb dX7_card_57 rfl (lv_at hl 0 rfl) ?_
      refine gf_X7_26 C hs rfl dX7_card_58 ?_
      refine lv_iload_n hx hb dX7_card_61 rfl (lv_at hl 1 rfl) ?_
      obtain ⟨r_3, hc, hf⟩ := cb_bp_inv hf
      refine cb_callVi C (c_X6_suitOf cb_tb9 hc) mw_X6_suitOf ml_X7_155 rfl ⟨Nat.le_of_ble_eq_true rfl, Nat.le_of_ble_eq_true rfl⟩ cb_tb9.1 (Nat.le_of_ble_eq_true rfl) rfl hs hl rfl (Nat.le_of_ble_eq_true rfl) dX7_card_62 (fun H locs hs => ?_)
      clear hc
      have hf := Option.some.inj hf
      subst hf
      exact cb_reti C hs dX7_card_65
    replace hf := cb_ifn cn1 hf
    by_cases cn2 : x2 = 2
    · replace hf := cb_ifp cn2 hf
      refine lv_tableIn (tgt := 66) hx hb dX7_card_15 (by rw [cn2]; decide) (by rw [cn2]; decide) (by rw [cn2]; rfl) (by decide) ?_
      refine lv_aload_n hx hb dX7_card_66 rfl (lv_at hl 0 rfl) ?_
      refine gf_X7_33 C hs rfl dX7_card_67 ?_
      refine lv_iload_n hx hb dX7_card_70 rfl (lv_at hl 1 rfl) ?_
      obtain ⟨r_4, hc, hf⟩ := cb_bp_inv hf
      refine cb_callVi C (c_X4_placeOf cb_pl13 hc) mw_X4_placeOf ml_X7_158 rfl ⟨Nat.le_of_ble_eq_true rfl, Nat.le_of_ble_eq_true rfl⟩ cb_pl13.1 (Nat.le_of_ble_eq_true rfl) rfl hs hl rfl (Nat.le_of_ble_eq_true rfl) dX7_card_71 (fun H locs hs => ?_)
      clear hc
      have hf := Option.some.inj hf
      subst hf
      exact cb_reti C hs dX7_card_74
    replace hf := cb_ifn cn2 hf
    by_cases cn3 : x2 = 3
    · replace hf := cb_ifp cn3 hf
      refine lv_tableIn (tgt := 75) hx hb dX7_card_15 (by rw [cn3]; decide) (by rw [cn3]; decide) (by rw [cn3]; rfl) (by decide) ?_
      refine lv_aload_n hx hb dX7_card_75 rfl (lv_at hl 0 rfl) ?_
      refine gf_X7_33 C hs rfl dX7_card_76 ?_
      refine lv_iload_n hx hb dX7_card_79 rfl (lv_at hl 1 rfl) ?_
      obtain ⟨r_5, hc, hf⟩ := cb_bp_inv hf
      refine cb_callVi C (c_X4_holderOf cb_pl13 hc) mw_X4_holderOf ml_X7_161 rfl ⟨Nat.le_of_ble_eq_true rfl, Nat.le_of_ble_eq_true rfl⟩ cb_pl13.1 (Nat.le_of_ble_eq_true rfl) rfl hs hl rfl (Nat.le_of_ble_eq_true rfl) dX7_card_80 (fun H locs hs => ?_)
      clear hc
      have hf := Option.some.inj hf
      subst hf
      exact cb_reti C hs dX7_card_83
    replace hf := cb_ifn cn3 hf
    by_cases cn4 : x2 = 4
    · replace hf := cb_ifp cn4 hf
      refine lv_tableIn (tgt := 84) hx hb dX7_card_15 (by rw [cn4]; decide) (by rw [cn4]; decide) (by rw [cn4]; rfl) (by decide) ?_
      refine lv_aload_n hx hb dX7_card_84 rfl (lv_at hl 0 rfl) ?_
      refine gf_X7_33 C hs rfl dX7_card_85 ?_
      refine gf_X7_123 C hs cb_pl13.1 dX7_card_88 ?_
      refine lv_iload_n hx hb dX7_card_91 rfl (lv_at hl 1 rfl) ?_
      refine lv_ishr hx hb dX7_card_92 ?_
      refine lv_iconst (v := 1) hx hb dX7_card_93 (by decide) ?_
      refine lv_iand hx hb dX7_card_94 ?_
      have hf := Option.some.inj hf
      subst hf
      exact cb_reti C hs dX7_card_95
    replace hf := cb_ifn cn4 hf
    refine lv_tableOut (tgt := 96) hx hb dX7_card_15 (by have g0 := lv_neT cn0 (show Int32.toInt 0 = 0 by decide); have g1 := lv_neT cn1 (show Int32.toInt 1 = 1 by decide); have g2 := lv_neT cn2 (show Int32.toInt 2 = 2 by decide); have g3 := lv_neT cn3 (show Int32.toInt 3 = 3 by decide); have g4 := lv_neT cn4 (show Int32.toInt 4 = 4 by decide); omega) (by decide) ?_
    refine lv_ldc (v := (-1000000002)) hx hb hown (hts _ kc_X7_65) dX7_card_96 ?_
    have hf := Option.some.inj hf
    subst hf
    exact cb_reti C hs dX7_card_98
  · replace hf := cb_ifp cn hf
    refine lv_ldc (v := (-1000000001)) hx hb hown (hts _ kc_X7_150) dX7_card_11 ?_
    have hf := Option.some.inj hf
    subst hf
    exact cb_reti C hs dX7_card_13
/-! ===== CardBecome.stepsFrom ===== -/
def f_X7_stepsFrom_10 (x1 : Int32) (σ : cb_St)  : Option (Int32) := some (-1)
set_option maxHeartbeats 4000000 in
set_option maxRecDepth 100000 in
theorem w_X7_stepsFrom_10 (C : cb_C p s m args meth c cX7_stepsFrom 2 (some .int) RX7 D T) {x1 : Int32} {σ : cb_St} {o : Int32}   (hf : f_X7_stepsFrom_10 x1 σ = some o) {H : Heap} {locs : List Loc} {ls : Array Slot} (hs : cb_H shC A T D σ s.heap H locs) (hl : lv_has ls 2 [(0, .ref (A 0)), (1, .int x1)]) : cb_W p l e 1 s m args below meth c shC A T D (some (.int o)) σ H locs (F0 m 10 ls []) := by
  obtain ⟨hx, hb, hml, hr, hown, hts, hK, hlk, hN⟩ := id C
  unfold f_X7_stepsFrom_10 at hf
  refine lv_iconst (v := (-1)) hx hb dX7_stepsFrom_10 (by decide) ?_
  refine lv_goto (tgt := 20) hx hb dX7_stepsFrom_11 (by decide) ?_
  have hf := Option.some.inj hf
  subst hf
  exact cb_reti C hs dX7_stepsFrom_20
def f_X7_stepsFrom (x1 : Int32) (σ : cb_St)  : Option (Int32) := if x1 < 0 then (f_X7_stepsFrom_10 x1 σ) else (if x1 < 12 then (cb_ck (0 ≤ Int32.toInt x1 ∧ Int32.toInt x1 < 12) (some (σ.1 2 (Int32.toNatClampNeg x1)))) else (f_X7_stepsFrom_10 x1 σ))
set_option maxHeartbeats 4000000 in
set_option maxRecDepth 100000 in
theorem c_X7_stepsFrom {x1 : Int32} {σ : cb_St}   {o : Int32} (hf : f_X7_stepsFrom x1 σ = some o) : cb_M l yX7_stepsFrom cX7_stepsFrom 2 (some .int) 1 shC A T D σ [.ref (A 0), .int x1] (some (.int o)) σ := by
  refine cb_met (by decide +kernel) (Nat.le_of_ble_eq_true rfl) ?_
  intro p e s m below meth c C hs ls hl
  have hl : lv_has ls 2 [(0, .ref (A 0)), (1, .int x1)] := hl
  obtain ⟨hx, hb, hml, hr, hown, hts, hK, hlk, hN⟩ := id C
  unfold f_X7_stepsFrom at hf
  refine lv_iload_n hx hb dX7_stepsFrom_0 rfl (lv_at hl 1 rfl) ?_
  refine lv_if_lt (tgt := 10) hx hb dX7_stepsFrom_1 (by decide) (fun cn => ?_) (fun cn => ?_)
  · replace hf := cb_ifp cn hf
    exact w_X7_stepsFrom_10 C  hf hs (lv_sub hl [0, 1] rfl)
  · replace hf := cb_ifn cn hf
    refine lv_iload_n hx hb dX7_stepsFrom_4 rfl (lv_at hl 1 rfl) ?_
    refine lv_bipush (v := 12) hx hb dX7_stepsFrom_5 (by decide) ?_
    refine lv_icmp_lt (tgt := 14) hx hb dX7_stepsFrom_7 (by decide) (fun cn => ?_) (fun cn => ?_)
    · replace hf := cb_ifp cn hf
      refine lv_aload_n hx hb dX7_stepsFrom_14 rfl (lv_at hl 0 rfl) ?_
      refine gf_X7_13 C hs rfl dX7_stepsFrom_15 ?_
      refine lv_iload_n hx hb dX7_stepsFrom_18 rfl (lv_at hl 1 rfl) ?_
      obtain ⟨hc, hf⟩ := cb_ck_inv hf
      refine cb_iald C hs rfl (vp_in_iff.mpr hc) dX7_stepsFrom_19 ?_
      have hf := Option.some.inj hf
      subst hf
      exact cb_reti C hs dX7_stepsFrom_20
    · replace hf := cb_ifn cn hf
      exact w_X7_stepsFrom_10 C  hf hs (lv_sub hl [0, 1] rfl)
/-! ===== CardBecome.stepTo ===== -/
def f_X7_stepTo_2 (x1 : Int32) (x2 : Int32) (σ : cb_St) : Nat → Int32 → Option (Int32)
  | 0, _ => none
  | fu + 1, x3 => if 3 ≤ x3 then (some (-1)) else (cb_bp (f_X7_placeAfter x3 x1 (σ.1 13 0) σ) (fun r_1 => cb_bp (f_X7_stepsFrom r_1 σ) (fun r_2 => if r_2 = x2 then (some x3) else (cb_let (x3 + 1) (fun x3_2 => f_X7_stepTo_2 x1 x2 σ fu x3_2)))))
set_option maxHeartbeats 4000000 in
set_option maxRecDepth 100000 in
theorem w_X7_stepTo_2 (C : cb_C p s m args meth c cX7_stepTo 4 (some .int) RX7 D T) {x1 : Int32} {x2 : Int32} {σ : cb_St} {o : Int32}  : ∀ (fu : Nat) (x3 : Int32), f_X7_stepTo_2 x1 x2 σ fu x3 = some o → ∀ (H : Heap) (locs : List Loc) (ls : Array Slot), cb_H shC A T D σ s.heap H locs → lv_has ls 4 [(0, .ref (A 0)), (1, .int x1), (2, .int x2), (3, .int x3)] → cb_W p l e 2 s m args below meth c shC A T D (some (.int o)) σ H locs (F0 m 2 ls []) := by
  obtain ⟨hx, hb, hml, hr, hown, hts, hK, hlk, hN⟩ := id C
  intro fu
  induction fu with
  | zero =>
    intro x3 hf
    rw [f_X7_stepTo_2] at hf
    cases hf
  | succ fu ih =>
    intro x3 hf H locs ls hs hl
    rw [f_X7_stepTo_2] at hf
    refine lv_iload_n hx hb dX7_stepTo_2 rfl (lv_at hl 3 rfl) ?_
    refine lv_iconst (v := 3) hx hb dX7_stepTo_3 (by decide) ?_
    refine lv_icmp_ge (tgt := 35) hx hb dX7_stepTo_4 (by decide) (fun cn => ?_) (fun cn => ?_)
    · replace hf := cb_ifp cn hf
      refine lv_iconst (v := (-1)) hx hb dX7_stepTo_35 (by decide) ?_
      have hf := Option.some.inj hf
      subst hf
      exact cb_reti C hs dX7_stepTo_36
    · replace hf := cb_ifn cn hf
      refine lv_aload_n hx hb dX7_stepTo_7 rfl (lv_at hl 0 rfl) ?_
      refine lv_iload_n hx hb dX7_stepTo_8 rfl (lv_at hl 3 rfl) ?_
      refine lv_iload_n hx hb dX7_stepTo_9 rfl (lv_at hl 1 rfl) ?_
      refine lv_aload_n hx hb dX7_stepTo_10 rfl (lv_at hl 0 rfl) ?_
      refine gf_X7_33 C hs rfl dX7_stepTo_11 ?_
      refine gf_X7_120 C hs cb_pl13.1 dX7_stepTo_14 ?_
      obtain ⟨r_1, hc, hf⟩ := cb_bp_inv hf
      refine cb_callSi C (c_X7_placeAfter  hc) mw_X7_placeAfter ml_X7_341 rfl ⟨Nat.le_of_ble_eq_true rfl, Nat.le_of_ble_eq_true rfl⟩ hs hl rfl (Nat.le_of_ble_eq_true rfl) dX7_stepTo_17 (fun H locs hs => ?_)
      clear hc
      obtain ⟨r_2, hc, hf⟩ := cb_bp_inv hf
      refine cb_callVi C (c_X7_stepsFrom  hc) mw_X7_stepsFrom ml_X7_258 rfl ⟨Nat.le_of_ble_eq_true rfl, Nat.le_of_ble_eq_true rfl⟩ rfl (Nat.le_of_ble_eq_true rfl) rfl hs hl rfl (Nat.le_of_ble_eq_true rfl) dX7_stepTo_20 (fun H locs hs => ?_)
      clear hc
      refine lv_iload_n hx hb dX7_stepTo_23 rfl (lv_at hl 2 rfl) ?_
      refine lv_icmp_ne (tgt := 29) hx hb dX7_stepTo_24 (by decide) (fun cn => ?_) (fun cn => ?_)
      · replace hf := cb_ifn cn hf
        obtain ⟨x3_2, e9, hf⟩ := cb_let_inv hf
        refine lv_iinc (v := x3_2) (lv' := [(3, .int x3_2), (0, .ref (A 0)), (1, .int x1), (2, .int x2)]) hx hb dX7_stepTo_29 hl (k := 3) rfl (by rw [e9]; rfl) (by decide) rfl (fun ls hl => ?_)
        clear e9
        refine lv_goto (tgt := 2) hx hb dX7_stepTo_32 (by decide) ?_
        exact ih _ hf _ _ _ hs (lv_sub hl [1, 2, 3, 0] rfl)
      · replace hf := cb_ifp cn hf
        refine lv_iload_n hx hb dX7_stepTo_27 rfl (lv_at hl 3 rfl) ?_
        have hf := Option.some.inj hf
        subst hf
        exact cb_reti C hs dX7_stepTo_28
def f_X7_stepTo (x1 : Int32) (x2 : Int32) (σ : cb_St)  : Option (Int32) := f_X7_stepTo_2 x1 x2 σ cb_fu 0
set_option maxHeartbeats 4000000 in
set_option maxRecDepth 100000 in
theorem c_X7_stepTo {x1 : Int32} {x2 : Int32} {σ : cb_St}   {o : Int32} (hf : f_X7_stepTo x1 x2 σ = some o) : cb_M l yX7_stepTo cX7_stepTo 4 (some .int) 2 shC A T D σ [.ref (A 0), .int x1, .int x2] (some (.int o)) σ := by
  refine cb_met (by decide +kernel) (Nat.le_of_ble_eq_true rfl) ?_
  intro p e s m below meth c C hs ls hl
  have hl : lv_has ls 4 [(0, .ref (A 0)), (1, .int x1), (2, .int x2)] := hl
  obtain ⟨hx, hb, hml, hr, hown, hts, hK, hlk, hN⟩ := id C
  unfold f_X7_stepTo at hf
  refine lv_iconst (v := 0) hx hb dX7_stepTo_0 (by decide) ?_
  refine lv_istore_n (lv' := [(3, .int 0), (0, .ref (A 0)), (1, .int x1), (2, .int x2)]) hx hb dX7_stepTo_1 rfl hl (by decide) rfl (fun ls hl => ?_)
  exact w_X7_stepTo_2 C  cb_fu _ hf _ _ _ hs (lv_sub hl [1, 2, 3, 0] rfl)
/-! ===== CardBecome.countSteps ===== -/
def f_X7_countSteps_87 (K28 : cb_St → Int32 → Option (cb_St)) (x1 : Int32) (σ : cb_St) (x2 : Int32) : Option (cb_St) := cb_let (x2 + 1) (fun x2_0 => K28 σ x2_0)
set_option maxHeartbeats 4000000 in
set_option maxRecDepth 100000 in
theorem w_X7_countSteps_87 (C : cb_C p s m args meth c cX7_countSteps 4 none RX7 D T) {K28 : cb_St → Int32 → Option (cb_St)} {x1 : Int32} {o : cb_St} (hK28 : ∀ (σ : cb_St) (x2 : Int32), K28 σ x2 = some o → ∀ (H : Heap) (locs : List Loc) (ls : Array Slot), cb_H shC A T D σ s.heap H locs → lv_has ls 4 [(0, .ref (A 0)), (1, .int x1), (2, .int x2)] → cb_W p l e 3 s m args below meth c shC A T D none o H locs (F0 m 28 ls [])) {σ : cb_St} {x2 : Int32} (hf : f_X7_countSteps_87 K28 x1 σ x2 = some o) {H : Heap} {locs : List Loc} {ls : Array Slot} (hs : cb_H shC A T D σ s.heap H locs) (hl : lv_has ls 4 [(0, .ref (A 0)), (1, .int x1), (2, .int x2)]) : cb_W p l e 3 s m args below meth c shC A T D none o H locs (F0 m 87 ls []) := by
  obtain ⟨hx, hb, hml, hr, hown, hts, hK, hlk, hN⟩ := id C
  unfold f_X7_countSteps_87 at hf
  obtain ⟨x2_0, e9, hf⟩ := cb_let_inv hf
  refine lv_iinc (v := x2_0) (lv' := [(2, .int x2_0), (0, .ref (A 0)), (1, .int x1)]) hx hb dX7_countSteps_87 hl (k := 2) rfl (by rw [e9]; rfl) (by decide) rfl (fun ls hl => ?_)
  clear e9
  refine lv_goto (tgt := 28) hx hb dX7_countSteps_90 (by decide) ?_
  exact hK28 _ _ hf _ _ _ hs (lv_sub hl [1, 2, 0] rfl)
def f_X7_countSteps_81 (K28 : cb_St → Int32 → Option (cb_St)) (K36 : cb_St → Int32 → Int32 → Option (cb_St)) (x1 : Int32) (σ : cb_St) (x2 : Int32) (x3 : Int32) : Option (cb_St) := cb_let (x3 + 1) (fun x3_0 => K36 σ x2 x3_0)
set_option maxHeartbeats 4000000 in
set_option maxRecDepth 100000 in
theorem w_X7_countSteps_81 (C : cb_C p s m args meth c cX7_countSteps 4 none RX7 D T) {K28 : cb_St → Int32 → Option (cb_St)} {K36 : cb_St → Int32 → Int32 → Option (cb_St)} {x1 : Int32} {o : cb_St} (hK28 : ∀ (σ : cb_St) (x2 : Int32), K28 σ x2 = some o → ∀ (H : Heap) (locs : List Loc) (ls : Array Slot), cb_H shC A T D σ s.heap H locs → lv_has ls 4 [(0, .ref (A 0)), (1, .int x1), (2, .int x2)] → cb_W p l e 3 s m args below meth c shC A T D none o H locs (F0 m 28 ls [])) (hK36 : ∀ (σ : cb_St) (x2 : Int32) (x3 : Int32), K36 σ x2 x3 = some o → ∀ (H : Heap) (locs : List Loc) (ls : Array Slot), cb_H shC A T D σ s.heap H locs → lv_has ls 4 [(0, .ref (A 0)), (1, .int x1), (2, .int x2), (3, .int x3)] → cb_W p l e 3 s m args below meth c shC A T D none o H locs (F0 m 36 ls [])) {σ : cb_St} {x2 : Int32} {x3 : Int32} (hf : f_X7_countSteps_81 K28 K36 x1 σ x2 x3 = some o) {H : Heap} {locs : List Loc} {ls : Array Slot} (hs : cb_H shC A T D σ s.heap H locs) (hl : lv_has ls 4 [(0, .ref (A 0)), (1, .int x1), (2, .int x2), (3, .int x3)]) : cb_W p l e 3 s m args below meth c shC A T D none o H locs (F0 m 81 ls []) := by
  obtain ⟨hx, hb, hml, hr, hown, hts, hK, hlk, hN⟩ := id C
  unfold f_X7_countSteps_81 at hf
  obtain ⟨x3_0, e9, hf⟩ := cb_let_inv hf
  refine lv_iinc (v := x3_0) (lv' := [(3, .int x3_0), (0, .ref (A 0)), (1, .int x1), (2, .int x2)]) hx hb dX7_countSteps_81 hl (k := 3) rfl (by rw [e9]; rfl) (by decide) rfl (fun ls hl => ?_)
  clear e9
  refine lv_goto (tgt := 36) hx hb dX7_countSteps_84 (by decide) ?_
  exact hK36 _ _ _ hf _ _ _ hs (lv_sub hl [1, 2, 3, 0] rfl)
def f_X7_countSteps_36 (K28 : cb_St → Int32 → Option (cb_St)) (x1 : Int32) : Nat → cb_St → Int32 → Int32 → Option (cb_St)
  | 0, _, _, _ => none
  | fu + 1, σ, x2, x3 => if (σ.1 13 0) ≤ x3 then (f_X7_countSteps_87 K28 x1 σ x2) else (if 12 ≤ x3 then (f_X7_countSteps_87 K28 x1 σ x2) else (cb_bp (f_X7_stepsFrom x3 σ) (fun r_1 => if r_1 = (-1) then (cb_bp (f_X7_stepTo x3 (x2 - 1) σ) (fun r_2 => if r_2 = (-1) then (f_X7_countSteps_81 K28 (f_X7_countSteps_36 K28 x1 fu) x1 σ x2 x3) else (cb_ck (0 ≤ Int32.toInt x3 ∧ Int32.toInt x3 < 12) (cb_let (cb_sI σ 2 (Int32.toNatClampNeg x3) x2) (fun σ_3 => f_X7_countSteps_81 K28 (f_X7_countSteps_36 K28 x1 fu) x1 σ_3 x2 x3))))) else (f_X7_countSteps_81 K28 (f_X7_countSteps_36 K28 x1 fu) x1 σ x2 x3))))
set_option maxHeartbeats 4000000 in
set_option maxRecDepth 100000 in
theorem w_X7_countSteps_36 (C : cb_C p s m args meth c cX7_countSteps 4 none RX7 D T) {K28 : cb_St → Int32 → Option (cb_St)} {x1 : Int32} {o : cb_St} (hK28 : ∀ (σ : cb_St) (x2 : Int32), K28 σ x2 = some o → ∀ (H : Heap) (locs : List Loc) (ls : Array Slot), cb_H shC A T D σ s.heap H locs → lv_has ls 4 [(0, .ref (A 0)), (1, .int x1), (2, .int x2)] → cb_W p l e 3 s m args below meth c shC A T D none o H locs (F0 m 28 ls [])) : ∀ (fu : Nat) (σ : cb_St) (x2 : Int32) (x3 : Int32), f_X7_countSteps_36 K28 x1 fu σ x2 x3 = some o → ∀ (H : Heap) (locs : List Loc) (ls : Array Slot), cb_H shC A T D σ s.heap H locs → lv_has ls 4 [(0, .ref (A 0)), (1, .int x1), (2, .int x2), (3, .int x3)] → cb_W p l e 3 s m args below meth c shC A T D none o H locs (F0 m 36 ls []) := by
  obtain ⟨hx, hb, hml, hr, hown, hts, hK, hlk, hN⟩ := id C
  intro fu
  induction fu with
  | zero =>
    intro σ x2 x3 hf
    rw [f_X7_countSteps_36] at hf
    cases hf
  | succ fu ih =>
    intro σ x2 x3 hf H locs ls hs hl
    rw [f_X7_countSteps_36] at hf
    refine lv_iload_n hx hb dX7_countSteps_36 rfl (lv_at hl 3 rfl) ?_
    refine lv_aload_n hx hb dX7_countSteps_37 rfl (lv_at hl 0 rfl) ?_
    refine gf_X7_33 C hs rfl dX7_countSteps_38 ?_
    refine gf_X7_120 C hs cb_pl13.1 dX7_countSteps_41 ?_
    refine lv_icmp_ge (tgt := 87) hx hb dX7_countSteps_44 (by decide) (fun cn => ?_) (fun cn => ?_)
    · replace hf := cb_ifp cn hf
      exact w_X7_countSteps_87 C hK28 hf hs (lv_sub hl [0, 1, 2] rfl)
    · replace hf := cb_ifn cn hf
      refine lv_iload_n hx hb dX7_countSteps_47 rfl (lv_at hl 3 rfl) ?_
      refine lv_bipush (v := 12) hx hb dX7_countSteps_48 (by decide) ?_
      refine lv_icmp_ge (tgt := 87) hx hb dX7_countSteps_50 (by decide) (fun cn => ?_) (fun cn => ?_)
      · replace hf := cb_ifp cn hf
        exact w_X7_countSteps_87 C hK28 hf hs (lv_sub hl [0, 1, 2] rfl)
      · replace hf := cb_ifn cn hf
        refine lv_aload_n hx hb dX7_countSteps_53 rfl (lv_at hl 0 rfl) ?_
        refine lv_iload_n hx hb dX7_countSteps_54 rfl (lv_at hl 3 rfl) ?_
        obtain ⟨r_1, hc, hf⟩ := cb_bp_inv hf
        refine cb_callVi C (c_X7_stepsFrom  hc) mw_X7_stepsFrom ml_X7_258 rfl ⟨Nat.le_of_ble_eq_true rfl, Nat.le_of_ble_eq_true rfl⟩ rfl (Nat.le_of_ble_eq_true rfl) rfl hs hl rfl (Nat.le_of_ble_eq_true rfl) dX7_countSteps_55 (fun H locs hs => ?_)
        clear hc
        refine lv_iconst (v := (-1)) hx hb dX7_countSteps_58 (by decide) ?_
        refine lv_icmp_ne (tgt := 81) hx hb dX7_countSteps_59 (by decide) (fun cn => ?_) (fun cn => ?_)
        · replace hf := cb_ifn cn hf
          exact w_X7_countSteps_81 C hK28 ih hf hs (lv_sub hl [0, 1, 2, 3] rfl)
        · replace hf := cb_ifp cn hf
          refine lv_aload_n hx hb dX7_countSteps_62 rfl (lv_at hl 0 rfl) ?_
          refine lv_iload_n hx hb dX7_countSteps_63 rfl (lv_at hl 3 rfl) ?_
          refine lv_iload_n hx hb dX7_countSteps_64 rfl (lv_at hl 2 rfl) ?_
          refine lv_iconst (v := 1) hx hb dX7_countSteps_65 (by decide) ?_
          refine lv_isub hx hb dX7_countSteps_66 ?_
          obtain ⟨r_2, hc, hf⟩ := cb_bp_inv hf
          refine cb_callVi C (c_X7_stepTo  hc) mw_X7_stepTo ml_X7_338 rfl ⟨Nat.le_of_ble_eq_true rfl, Nat.le_of_ble_eq_true rfl⟩ rfl (Nat.le_of_ble_eq_true rfl) rfl hs hl rfl (Nat.le_of_ble_eq_true rfl) dX7_countSteps_67 (fun H locs hs => ?_)
          clear hc
          refine lv_iconst (v := (-1)) hx hb dX7_countSteps_70 (by decide) ?_
          refine lv_icmp_eq (tgt := 81) hx hb dX7_countSteps_71 (by decide) (fun cn => ?_) (fun cn => ?_)
          · replace hf := cb_ifp cn hf
            exact w_X7_countSteps_81 C hK28 ih hf hs (lv_sub hl [0, 1, 2, 3] rfl)
          · replace hf := cb_ifn cn hf
            refine lv_aload_n hx hb dX7_countSteps_74 rfl (lv_at hl 0 rfl) ?_
            refine gf_X7_13 C hs rfl dX7_countSteps_75 ?_
            refine lv_iload_n hx hb dX7_countSteps_78 rfl (lv_at hl 3 rfl) ?_
            refine lv_iload_n hx hb dX7_countSteps_79 rfl (lv_at hl 2 rfl) ?_
            obtain ⟨hc, hf⟩ := cb_ck_inv hf
            refine cb_iast C hs rfl (vp_in_iff.mpr hc) dX7_countSteps_80 (fun H locs hs => ?_)
            obtain ⟨σ_3, e9, hf⟩ := cb_let_inv hf
            replace hs := cb_Hc e9 hs
            clear e9
            exact w_X7_countSteps_81 C hK28 ih hf hs (lv_sub hl [0, 1, 2, 3] rfl)
def f_X7_countSteps_28 (x1 : Int32) : Nat → cb_St → Int32 → Option (cb_St)
  | 0, _, _ => none
  | fu + 1, σ, x2 => if 10 < x2 then (some σ) else (f_X7_countSteps_36 (f_X7_countSteps_28 x1 fu) x1 cb_fu σ x2 0)
set_option maxHeartbeats 4000000 in
set_option maxRecDepth 100000 in
theorem w_X7_countSteps_28 (C : cb_C p s m args meth c cX7_countSteps 4 none RX7 D T) {x1 : Int32} {o : cb_St}  : ∀ (fu : Nat) (σ : cb_St) (x2 : Int32), f_X7_countSteps_28 x1 fu σ x2 = some o → ∀ (H : Heap) (locs : List Loc) (ls : Array Slot), cb_H shC A T D σ s.heap H locs → lv_has ls 4 [(0, .ref (A 0)), (1, .int x1), (2, .int x2)] → cb_W p l e 3 s m args below meth c shC A T D none o H locs (F0 m 28 ls []) := by
  obtain ⟨hx, hb, hml, hr, hown, hts, hK, hlk, hN⟩ := id C
  intro fu
  induction fu with
  | zero =>
    intro σ x2 hf
    rw [f_X7_countSteps_28] at hf
    cases hf
  | succ fu ih =>
    intro σ x2 hf H locs ls hs hl
    rw [f_X7_countSteps_28] at hf
    refine lv_iload_n hx hb dX7_countSteps_28 rfl (lv_at hl 2 rfl) ?_
    refine lv_bipush (v := 10) hx hb dX7_countSteps_29 (by decide) ?_
    refine lv_icmp_gt (tgt := 93) hx hb dX7_countSteps_31 (by decide) (fun cn => ?_) (fun cn => ?_)
    · replace hf := cb_ifp cn hf
      have hf := Option.some.inj hf
      subst hf
      exact cb_retv C hs dX7_countSteps_93
    · replace hf := cb_ifn cn hf
      refine lv_iconst (v := 0) hx hb dX7_countSteps_34 (by decide) ?_
      refine lv_istore_n (lv' := [(3, .int 0), (0, .ref (A 0)), (1, .int x1), (2, .int x2)]) hx hb dX7_countSteps_35 rfl hl (by decide) rfl (fun ls hl => ?_)
      exact w_X7_countSteps_36 C ih cb_fu _ _ _ hf _ _ _ hs (lv_sub hl [1, 2, 3, 0] rfl)
def f_X7_countSteps (x1 : Int32) (σ : cb_St) : Option (cb_St) := cb_bv (f_J7_fill_53178 2 12 (-1) σ) (fun σ_1 => if x1 < 0 then (some σ_1) else (if x1 < 12 then (cb_ck (0 ≤ Int32.toInt x1 ∧ Int32.toInt x1 < 12) (cb_let (cb_sI σ_1 2 (Int32.toNatClampNeg x1) 0) (fun σ_2 => f_X7_countSteps_28 x1 cb_fu σ_2 1))) else (some σ_1)))
set_option maxHeartbeats 4000000 in
set_option maxRecDepth 100000 in
theorem c_X7_countSteps {x1 : Int32}  {σ : cb_St} {o : cb_St} (hf : f_X7_countSteps x1 σ = some o) : cb_M l yX7_countSteps cX7_countSteps 4 none 3 shC A T D σ [.ref (A 0), .int x1] none o := by
  refine cb_met (by decide +kernel) (Nat.le_of_ble_eq_true rfl) ?_
  intro p e s m below meth c C hs ls hl
  have hl : lv_has ls 4 [(0, .ref (A 0)), (1, .int x1)] := hl
  obtain ⟨hx, hb, hml, hr, hown, hts, hK, hlk, hN⟩ := id C
  unfold f_X7_countSteps at hf
  refine lv_aload_n hx hb dX7_countSteps_0 rfl (lv_at hl 0 rfl) ?_
  refine gf_X7_13 C hs rfl dX7_countSteps_1 ?_
  refine lv_iconst (v := (-1)) hx hb dX7_countSteps_4 (by decide) ?_
  obtain ⟨σ_1, hc, hf⟩ := cb_bv_inv hf
  refine cb_callSv C (c_J7_fill_53178 rfl hc) mw_J7_fill_53178 ml_X7_332 rfl ⟨Nat.le_of_ble_eq_true rfl, Nat.le_of_ble_eq_true rfl⟩ hs hl rfl (Nat.le_of_ble_eq_true rfl) dX7_countSteps_5 (fun H locs hs => ?_)
  clear hc
  refine lv_iload_n hx hb dX7_countSteps_8 rfl (lv_at hl 1 rfl) ?_
  refine lv_if_lt (tgt := 18) hx hb dX7_countSteps_9 (by decide) (fun cn => ?_) (fun cn => ?_)
  · replace hf := cb_ifp cn hf
    have hf := Option.some.inj hf
    subst hf
    exact cb_retv C hs dX7_countSteps_18
  · replace hf := cb_ifn cn hf
    refine lv_iload_n hx hb dX7_countSteps_12 rfl (lv_at hl 1 rfl) ?_
    refine lv_bipush (v := 12) hx hb dX7_countSteps_13 (by decide) ?_
    refine lv_icmp_lt (tgt := 19) hx hb dX7_countSteps_15 (by decide) (fun cn => ?_) (fun cn => ?_)
    · replace hf := cb_ifp cn hf
      refine lv_aload_n hx hb dX7_countSteps_19 rfl (lv_at hl 0 rfl) ?_
      refine gf_X7_13 C hs rfl dX7_countSteps_20 ?_
      refine lv_iload_n hx hb dX7_countSteps_23 rfl (lv_at hl 1 rfl) ?_
      refine lv_iconst (v := 0) hx hb dX7_countSteps_24 (by decide) ?_
      obtain ⟨hc, hf⟩ := cb_ck_inv hf
      refine cb_iast C hs rfl (vp_in_iff.mpr hc) dX7_countSteps_25 (fun H locs hs => ?_)
      obtain ⟨σ_2, e9, hf⟩ := cb_let_inv hf
      replace hs := cb_Hc e9 hs
      clear e9
      refine lv_iconst (v := 1) hx hb dX7_countSteps_26 (by decide) ?_
      refine lv_istore_n (lv' := [(2, .int 1), (0, .ref (A 0)), (1, .int x1)]) hx hb dX7_countSteps_27 rfl hl (by decide) rfl (fun ls hl => ?_)
      exact w_X7_countSteps_28 C  cb_fu _ _ hf _ _ _ hs (lv_sub hl [1, 2, 0] rfl)
    · replace hf := cb_ifn cn hf
      have hf := Option.some.inj hf
      subst hf
      exact cb_retv C hs dX7_countSteps_18
/-! ===== CardBecome.deals ===== -/
def f_X7_deals_29 (x1 : Int32) (x2 : Int32) (σ : cb_St) : Option (Int32 × cb_St) := some ((-1000000002), σ)
set_option maxHeartbeats 4000000 in
set_option maxRecDepth 100000 in
theorem w_X7_deals_29 (C : cb_C p s m args meth c cX7_deals 3 (some .int) RX7 D T) {x1 : Int32} {x2 : Int32} {o : Int32 × cb_St}  {σ : cb_St} (hf : f_X7_deals_29 x1 x2 σ = some o) {H : Heap} {locs : List Loc} {ls : Array Slot} (hs : cb_H shC A T D σ s.heap H locs) (hl : lv_has ls 3 [(0, .ref (A 0)), (1, .int x1), (2, .int x2)]) : cb_W p l e 15 s m args below meth c shC A T D (some (.int o.1)) o.2 H locs (F0 m 29 ls []) := by
  obtain ⟨hx, hb, hml, hr, hown, hts, hK, hlk, hN⟩ := id C
  unfold f_X7_deals_29 at hf
  refine lv_ldc (v := (-1000000002)) hx hb hown (hts _ kc_X7_65) dX7_deals_29 ?_
  have hf := Option.some.inj hf
  subst hf
  exact cb_reti C hs dX7_deals_31
def f_X7_deals_19 (x1 : Int32) (x2 : Int32) (σ : cb_St) : Option (Int32 × cb_St) := if x1 < 1 then (f_X7_deals_29 x1 x2 σ) else (if x1 ≤ 5 then (cb_bv (f_X0_lay x1 σ) (fun σ_1 => if x2 = (-1) then (some (σ_1.1 106 0, σ_1)) else (cb_bp (f_X0_sureOf x2 σ_1) (fun r_2 => some (r_2, σ_1))))) else (f_X7_deals_29 x1 x2 σ))
set_option maxHeartbeats 4000000 in
set_option maxRecDepth 100000 in
theorem w_X7_deals_19 (C : cb_C p s m args meth c cX7_deals 3 (some .int) RX7 D T) {x1 : Int32} {x2 : Int32} {o : Int32 × cb_St}  {σ : cb_St} (hf : f_X7_deals_19 x1 x2 σ = some o) {H : Heap} {locs : List Loc} {ls : Array Slot} (hs : cb_H shC A T D σ s.heap H locs) (hl : lv_has ls 3 [(0, .ref (A 0)), (1, .int x1), (2, .int x2)]) : cb_W p l e 15 s m args below meth c shC A T D (some (.int o.1)) o.2 H locs (F0 m 19 ls []) := by
  obtain ⟨hx, hb, hml, hr, hown, hts, hK, hlk, hN⟩ := id C
  unfold f_X7_deals_19 at hf
  refine lv_iload_n hx hb dX7_deals_19 rfl (lv_at hl 1 rfl) ?_
  refine lv_iconst (v := 1) hx hb dX7_deals_20 (by decide) ?_
  refine lv_icmp_lt (tgt := 29) hx hb dX7_deals_21 (by decide) (fun cn => ?_) (fun cn => ?_)
  · replace hf := cb_ifp cn hf
    exact w_X7_deals_29 C  hf hs (lv_sub hl [0, 1, 2] rfl)
  · replace hf := cb_ifn cn hf
    refine lv_iload_n hx hb dX7_deals_24 rfl (lv_at hl 1 rfl) ?_
    refine lv_iconst (v := 5) hx hb dX7_deals_25 (by decide) ?_
    refine lv_icmp_le (tgt := 32) hx hb dX7_deals_26 (by decide) (fun cn => ?_) (fun cn => ?_)
    · replace hf := cb_ifp cn hf
      refine lv_aload_n hx hb dX7_deals_32 rfl (lv_at hl 0 rfl) ?_
      refine gf_X7_54 C hs rfl dX7_deals_33 ?_
      refine lv_iload_n hx hb dX7_deals_36 rfl (lv_at hl 1 rfl) ?_
      refine lv_aload_n hx hb dX7_deals_37 rfl (lv_at hl 0 rfl) ?_
      refine gf_X7_26 C hs rfl dX7_deals_38 ?_
      refine lv_aload_n hx hb dX7_deals_41 rfl (lv_at hl 0 rfl) ?_
      refine gf_X7_33 C hs rfl dX7_deals_42 ?_
      refine lv_aload_n hx hb dX7_deals_45 rfl (lv_at hl 0 rfl) ?_
      refine gf_X7_47 C hs rfl dX7_deals_46 ?_
      obtain ⟨σ_1, hc, hf⟩ := cb_bv_inv hf
      refine cb_callVv C (c_X0_lay  hc) mw_X0_lay ml_X7_282 rfl ⟨Nat.le_of_ble_eq_true rfl, Nat.le_of_ble_eq_true rfl⟩ rfl (Nat.le_of_ble_eq_true rfl) rfl hs hl rfl (Nat.le_of_ble_eq_true rfl) dX7_deals_49 (fun H locs hs => ?_)
      clear hc
      refine lv_iload_n hx hb dX7_deals_52 rfl (lv_at hl 2 rfl) ?_
      refine lv_iconst (v := (-1)) hx hb dX7_deals_53 (by decide) ?_
      refine lv_icmp_ne (tgt := 67) hx hb dX7_deals_54 (by decide) (fun cn => ?_) (fun cn => ?_)
      · replace hf := cb_ifn cn hf
        refine lv_aload_n hx hb dX7_deals_67 rfl (lv_at hl 0 rfl) ?_
        refine gf_X7_54 C hs rfl dX7_deals_68 ?_
        refine lv_iload_n hx hb dX7_deals_71 rfl (lv_at hl 2 rfl) ?_
        obtain ⟨r_2, hc, hf⟩ := cb_bp_inv hf
        refine cb_callVi C (c_X0_sureOf  hc) mw_X0_sureOf ml_X7_289 rfl ⟨Nat.le_of_ble_eq_true rfl, Nat.le_of_ble_eq_true rfl⟩ rfl (Nat.le_of_ble_eq_true rfl) rfl hs hl rfl (Nat.le_of_ble_eq_true rfl) dX7_deals_72 (fun H locs hs => ?_)
        clear hc
        have hf := Option.some.inj hf
        subst hf
        exact cb_reti C hs dX7_deals_75
      · replace hf := cb_ifp cn hf
        refine lv_aload_n hx hb dX7_deals_57 rfl (lv_at hl 0 rfl) ?_
        refine gf_X7_54 C hs rfl dX7_deals_58 ?_
        refine gf_X7_286 C hs rfl dX7_deals_61 ?_
        refine lv_goto (tgt := 75) hx hb dX7_deals_64 (by decide) ?_
        have hf := Option.some.inj hf
        subst hf
        exact cb_reti C hs dX7_deals_75
    · replace hf := cb_ifn cn hf
      exact w_X7_deals_29 C  hf hs (lv_sub hl [0, 1, 2] rfl)
def f_X7_deals (x1 : Int32) (x2 : Int32) (σ : cb_St) : Option (Int32 × cb_St) := if x2 = (-1) then (f_X7_deals_19 x1 x2 σ) else (cb_bp (f_X6_hasPerson 9 x2 σ) (fun r_1 => if r_1 = 0 then (some ((-1000000001), σ)) else (f_X7_deals_19 x1 x2 σ)))
set_option maxHeartbeats 4000000 in
set_option maxRecDepth 100000 in
theorem c_X7_deals {x1 : Int32} {x2 : Int32}  {σ : cb_St} {o : Int32 × cb_St} (hf : f_X7_deals x1 x2 σ = some o) : cb_M l yX7_deals cX7_deals 3 (some .int) 15 shC A T D σ [.ref (A 0), .int x1, .int x2] (some (.int o.1)) o.2 := by
  refine cb_met (by decide +kernel) (Nat.le_of_ble_eq_true rfl) ?_
  intro p e s m below meth c C hs ls hl
  have hl : lv_has ls 3 [(0, .ref (A 0)), (1, .int x1), (2, .int x2)] := hl
  obtain ⟨hx, hb, hml, hr, hown, hts, hK, hlk, hN⟩ := id C
  unfold f_X7_deals at hf
  refine lv_iload_n hx hb dX7_deals_0 rfl (lv_at hl 2 rfl) ?_
  refine lv_iconst (v := (-1)) hx hb dX7_deals_1 (by decide) ?_
  refine lv_icmp_eq (tgt := 19) hx hb dX7_deals_2 (by decide) (fun cn => ?_) (fun cn => ?_)
  · replace hf := cb_ifp cn hf
    exact w_X7_deals_19 C  hf hs (lv_sub hl [0, 1, 2] rfl)
  · replace hf := cb_ifn cn hf
    refine lv_aload_n hx hb dX7_deals_5 rfl (lv_at hl 0 rfl) ?_
    refine gf_X7_26 C hs rfl dX7_deals_6 ?_
    refine lv_iload_n hx hb dX7_deals_9 rfl (lv_at hl 2 rfl) ?_
    obtain ⟨r_1, hc, hf⟩ := cb_bp_inv hf
    refine cb_callVi C (c_X6_hasPerson cb_tb9 hc) mw_X6_hasPerson ml_X7_167 rfl ⟨Nat.le_of_ble_eq_true rfl, Nat.le_of_ble_eq_true rfl⟩ cb_tb9.1 (Nat.le_of_ble_eq_true rfl) rfl hs hl rfl (Nat.le_of_ble_eq_true rfl) dX7_deals_10 (fun H locs hs => ?_)
    clear hc
    refine lv_if_ne (tgt := 19) hx hb dX7_deals_13 (by decide) (fun cn => ?_) (fun cn => ?_)
    · replace hf := cb_ifn cn hf
      exact w_X7_deals_19 C  hf hs (lv_sub hl [0, 1, 2] rfl)
    · replace hf := cb_ifp cn hf
      refine lv_ldc (v := (-1000000001)) hx hb hown (hts _ kc_X7_150) dX7_deals_16 ?_
      have hf := Option.some.inj hf
      subst hf
      exact cb_reti C hs dX7_deals_18
/-! ===== CardBecome.drawOne ===== -/
def f_X7_drawOne (x1 : Int32) (σ : cb_St) : Option (Int32 × cb_St) := cb_bp (f_X6_hasPerson 9 x1 σ) (fun r_1 => if r_1 = 0 then (some ((-1000000001), σ)) else (cb_bp (f_X4_canDraw 13 x1 σ) (fun r_2 => if r_2 = 0 then (some ((-1000000003), σ)) else (cb_bv (f_X3_push σ) (fun σ_3 => cb_bi (f_X4_draw 13 x1 σ_3) (fun r_4 σ_5 => some (r_4, σ_5)))))))
set_option maxHeartbeats 4000000 in
set_option maxRecDepth 100000 in
theorem c_X7_drawOne {x1 : Int32}  {σ : cb_St} {o : Int32 × cb_St} (hf : f_X7_drawOne x1 σ = some o) : cb_M l yX7_drawOne cX7_drawOne 2 (some .int) 4 shC A T D σ [.ref (A 0), .int x1] (some (.int o.1)) o.2 := by
  refine cb_met (by decide +kernel) (Nat.le_of_ble_eq_true rfl) ?_
  intro p e s m below meth c C hs ls hl
  have hl : lv_has ls 2 [(0, .ref (A 0)), (1, .int x1)] := hl
  obtain ⟨hx, hb, hml, hr, hown, hts, hK, hlk, hN⟩ := id C
  unfold f_X7_drawOne at hf
  refine lv_aload_n hx hb dX7_drawOne_0 rfl (lv_at hl 0 rfl) ?_
  refine gf_X7_26 C hs rfl dX7_drawOne_1 ?_
  refine lv_iload_n hx hb dX7_drawOne_4 rfl (lv_at hl 1 rfl) ?_
  obtain ⟨r_1, hc, hf⟩ := cb_bp_inv hf
  refine cb_callVi C (c_X6_hasPerson cb_tb9 hc) mw_X6_hasPerson ml_X7_167 rfl ⟨Nat.le_of_ble_eq_true rfl, Nat.le_of_ble_eq_true rfl⟩ cb_tb9.1 (Nat.le_of_ble_eq_true rfl) rfl hs hl rfl (Nat.le_of_ble_eq_true rfl) dX7_drawOne_5 (fun H locs hs => ?_)
  clear hc
  refine lv_if_ne (tgt := 14) hx hb dX7_drawOne_8 (by decide) (fun cn => ?_) (fun cn => ?_)
  · replace hf := cb_ifn cn hf
    refine lv_aload_n hx hb dX7_drawOne_14 rfl (lv_at hl 0 rfl) ?_
    refine gf_X7_33 C hs rfl dX7_drawOne_15 ?_
    refine lv_iload_n hx hb dX7_drawOne_18 rfl (lv_at hl 1 rfl) ?_
    obtain ⟨r_2, hc, hf⟩ := cb_bp_inv hf
    refine cb_callVi C (c_X4_canDraw cb_pl13 hc) mw_X4_canDraw ml_X7_195 rfl ⟨Nat.le_of_ble_eq_true rfl, Nat.le_of_ble_eq_true rfl⟩ cb_pl13.1 (Nat.le_of_ble_eq_true rfl) rfl hs hl rfl (Nat.le_of_ble_eq_true rfl) dX7_drawOne_19 (fun H locs hs => ?_)
    clear hc
    refine lv_if_ne (tgt := 28) hx hb dX7_drawOne_22 (by decide) (fun cn => ?_) (fun cn => ?_)
    · replace hf := cb_ifn cn hf
      refine lv_aload_n hx hb dX7_drawOne_28 rfl (lv_at hl 0 rfl) ?_
      refine gf_X7_40 C hs rfl dX7_drawOne_29 ?_
      refine lv_aload_n hx hb dX7_drawOne_32 rfl (lv_at hl 0 rfl) ?_
      refine gf_X7_33 C hs rfl dX7_drawOne_33 ?_
      obtain ⟨σ_3, hc, hf⟩ := cb_bv_inv hf
      refine cb_callVv C (c_X3_push  hc) mw_X3_push ml_X7_199 rfl ⟨Nat.le_of_ble_eq_true rfl, Nat.le_of_ble_eq_true rfl⟩ rfl (Nat.le_of_ble_eq_true rfl) rfl hs hl rfl (Nat.le_of_ble_eq_true rfl) dX7_drawOne_36 (fun H locs hs => ?_)
      clear hc
      refine lv_aload_n hx hb dX7_drawOne_39 rfl (lv_at hl 0 rfl) ?_
      refine gf_X7_33 C hs rfl dX7_drawOne_40 ?_
      refine lv_iload_n hx hb dX7_drawOne_43 rfl (lv_at hl 1 rfl) ?_
      obtain ⟨r_4, σ_5, hc, hf⟩ := cb_bi_inv hf
      refine cb_callVi C (c_X4_draw cb_pl13 hc) mw_X4_draw ml_X7_203 rfl ⟨Nat.le_of_ble_eq_true rfl, Nat.le_of_ble_eq_true rfl⟩ cb_pl13.1 (Nat.le_of_ble_eq_true rfl) rfl hs hl rfl (Nat.le_of_ble_eq_true rfl) dX7_drawOne_44 (fun H locs hs => ?_)
      clear hc
      have hf := Option.some.inj hf
      subst hf
      exact cb_reti C hs dX7_drawOne_47
    · replace hf := cb_ifp cn hf
      refine lv_ldc (v := (-1000000003)) hx hb hown (hts _ kc_X7_198) dX7_drawOne_25 ?_
      have hf := Option.some.inj hf
      subst hf
      exact cb_reti C hs dX7_drawOne_27
  · replace hf := cb_ifp cn hf
    refine lv_ldc (v := (-1000000001)) hx hb hown (hts _ kc_X7_150) dX7_drawOne_11 ?_
    have hf := Option.some.inj hf
    subst hf
    exact cb_reti C hs dX7_drawOne_13
/-! ===== CardBecome.drawer ===== -/
def f_X7_drawer (x1 : Int32) (σ : cb_St) : Option (Int32 × cb_St) := cb_bp (f_X6_hasPerson 9 x1 σ) (fun r_1 => if r_1 = 0 then (some ((-1000000001), σ)) else (cb_bp (f_X4_cardOf 13 x1 σ) (fun r_2 => if r_2 = (-1) then (some ((-1000000003), σ)) else (cb_bv (f_X3_push σ) (fun σ_3 => cb_bi (f_X4_putAway 13 x1 σ_3) (fun r_4 σ_5 => some (r_4, σ_5)))))))
set_option maxHeartbeats 4000000 in
set_option maxRecDepth 100000 in
theorem c_X7_drawer {x1 : Int32}  {σ : cb_St} {o : Int32 × cb_St} (hf : f_X7_drawer x1 σ = some o) : cb_M l yX7_drawer cX7_drawer 2 (some .int) 5 shC A T D σ [.ref (A 0), .int x1] (some (.int o.1)) o.2 := by
  refine cb_met (by decide +kernel) (Nat.le_of_ble_eq_true rfl) ?_
  intro p e s m below meth c C hs ls hl
  have hl : lv_has ls 2 [(0, .ref (A 0)), (1, .int x1)] := hl
  obtain ⟨hx, hb, hml, hr, hown, hts, hK, hlk, hN⟩ := id C
  unfold f_X7_drawer at hf
  refine lv_aload_n hx hb dX7_drawer_0 rfl (lv_at hl 0 rfl) ?_
  refine gf_X7_26 C hs rfl dX7_drawer_1 ?_
  refine lv_iload_n hx hb dX7_drawer_4 rfl (lv_at hl 1 rfl) ?_
  obtain ⟨r_1, hc, hf⟩ := cb_bp_inv hf
  refine cb_callVi C (c_X6_hasPerson cb_tb9 hc) mw_X6_hasPerson ml_X7_167 rfl ⟨Nat.le_of_ble_eq_true rfl, Nat.le_of_ble_eq_true rfl⟩ cb_tb9.1 (Nat.le_of_ble_eq_true rfl) rfl hs hl rfl (Nat.le_of_ble_eq_true rfl) dX7_drawer_5 (fun H locs hs => ?_)
  clear hc
  refine lv_if_ne (tgt := 14) hx hb dX7_drawer_8 (by decide) (fun cn => ?_) (fun cn => ?_)
  · replace hf := cb_ifn cn hf
    refine lv_aload_n hx hb dX7_drawer_14 rfl (lv_at hl 0 rfl) ?_
    refine gf_X7_33 C hs rfl dX7_drawer_15 ?_
    refine lv_iload_n hx hb dX7_drawer_18 rfl (lv_at hl 1 rfl) ?_
    obtain ⟨r_2, hc, hf⟩ := cb_bp_inv hf
    refine cb_callVi C (c_X4_cardOf cb_pl13 hc) mw_X4_cardOf ml_X7_170 rfl ⟨Nat.le_of_ble_eq_true rfl, Nat.le_of_ble_eq_true rfl⟩ cb_pl13.1 (Nat.le_of_ble_eq_true rfl) rfl hs hl rfl (Nat.le_of_ble_eq_true rfl) dX7_drawer_19 (fun H locs hs => ?_)
    clear hc
    refine lv_iconst (v := (-1)) hx hb dX7_drawer_22 (by decide) ?_
    refine lv_icmp_ne (tgt := 29) hx hb dX7_drawer_23 (by decide) (fun cn => ?_) (fun cn => ?_)
    · replace hf := cb_ifn cn hf
      refine lv_aload_n hx hb dX7_drawer_29 rfl (lv_at hl 0 rfl) ?_
      refine gf_X7_40 C hs rfl dX7_drawer_30 ?_
      refine lv_aload_n hx hb dX7_drawer_33 rfl (lv_at hl 0 rfl) ?_
      refine gf_X7_33 C hs rfl dX7_drawer_34 ?_
      obtain ⟨σ_3, hc, hf⟩ := cb_bv_inv hf
      refine cb_callVv C (c_X3_push  hc) mw_X3_push ml_X7_199 rfl ⟨Nat.le_of_ble_eq_true rfl, Nat.le_of_ble_eq_true rfl⟩ rfl (Nat.le_of_ble_eq_true rfl) rfl hs hl rfl (Nat.le_of_ble_eq_true rfl) dX7_drawer_37 (fun H locs hs => ?_)
      clear hc
      refine lv_aload_n hx hb dX7_drawer_40 rfl (lv_at hl 0 rfl) ?_
      refine gf_X7_33 C hs rfl dX7_drawer_41 ?_
      refine lv_iload_n hx hb dX7_drawer_44 rfl (lv_at hl 1 rfl) ?_
      obtain ⟨r_4, σ_5, hc, hf⟩ := cb_bi_inv hf
      refine cb_callVi C (c_X4_putAway cb_pl13 hc) mw_X4_putAway ml_X7_227 rfl ⟨Nat.le_of_ble_eq_true rfl, Nat.le_of_ble_eq_true rfl⟩ cb_pl13.1 (Nat.le_of_ble_eq_true rfl) rfl hs hl rfl (Nat.le_of_ble_eq_true rfl) dX7_drawer_45 (fun H locs hs => ?_)
      clear hc
      have hf := Option.some.inj hf
      subst hf
      exact cb_reti C hs dX7_drawer_48
    · replace hf := cb_ifp cn hf
      refine lv_ldc (v := (-1000000003)) hx hb hown (hts _ kc_X7_198) dX7_drawer_26 ?_
      have hf := Option.some.inj hf
      subst hf
      exact cb_reti C hs dX7_drawer_28
  · replace hf := cb_ifp cn hf
    refine lv_ldc (v := (-1000000001)) hx hb hown (hts _ kc_X7_150) dX7_drawer_11 ?_
    have hf := Option.some.inj hf
    subst hf
    exact cb_reti C hs dX7_drawer_13
/-! ===== CardBecome.letMeet ===== -/
def f_X7_letMeet (x1 : Int32) (x2 : Int32) (σ : cb_St) : Option (Int32 × cb_St) := cb_bp (f_X4_cardOf 13 x1 σ) (fun r_1 => cb_bp (f_X4_cardOf 13 x2 σ) (fun r_2 => cb_bp (f_X6_between 9 r_1 r_2 σ) (fun r_3 => cb_bv (f_X4_noteMeeting 13 x1 x2 r_3 σ) (fun σ_4 => some (r_3, σ_4)))))
set_option maxHeartbeats 4000000 in
set_option maxRecDepth 100000 in
theorem c_X7_letMeet {x1 : Int32} {x2 : Int32}  {σ : cb_St} {o : Int32 × cb_St} (hf : f_X7_letMeet x1 x2 σ = some o) : cb_M l yX7_letMeet cX7_letMeet 4 (some .int) 4 shC A T D σ [.ref (A 0), .int x1, .int x2] (some (.int o.1)) o.2 := by
  refine cb_met (by decide +kernel) (Nat.le_of_ble_eq_true rfl) ?_
  intro p e s m below meth c C hs ls hl
  have hl : lv_has ls 4 [(0, .ref (A 0)), (1, .int x1), (2, .int x2)] := hl
  obtain ⟨hx, hb, hml, hr, hown, hts, hK, hlk, hN⟩ := id C
  unfold f_X7_letMeet at hf
  refine lv_aload_n hx hb dX7_letMeet_0 rfl (lv_at hl 0 rfl) ?_
  refine gf_X7_26 C hs rfl dX7_letMeet_1 ?_
  refine lv_aload_n hx hb dX7_letMeet_4 rfl (lv_at hl 0 rfl) ?_
  refine gf_X7_33 C hs rfl dX7_letMeet_5 ?_
  refine lv_iload_n hx hb dX7_letMeet_8 rfl (lv_at hl 1 rfl) ?_
  obtain ⟨r_1, hc, hf⟩ := cb_bp_inv hf
  refine cb_callVi C (c_X4_cardOf cb_pl13 hc) mw_X4_cardOf ml_X7_170 rfl ⟨Nat.le_of_ble_eq_true rfl, Nat.le_of_ble_eq_true rfl⟩ cb_pl13.1 (Nat.le_of_ble_eq_true rfl) rfl hs hl rfl (Nat.le_of_ble_eq_true rfl) dX7_letMeet_9 (fun H locs hs => ?_)
  clear hc
  refine lv_aload_n hx hb dX7_letMeet_12 rfl (lv_at hl 0 rfl) ?_
  refine gf_X7_33 C hs rfl dX7_letMeet_13 ?_
  refine lv_iload_n hx hb dX7_letMeet_16 rfl (lv_at hl 2 rfl) ?_
  obtain ⟨r_2, hc, hf⟩ := cb_bp_inv hf
  refine cb_callVi C (c_X4_cardOf cb_pl13 hc) mw_X4_cardOf ml_X7_170 rfl ⟨Nat.le_of_ble_eq_true rfl, Nat.le_of_ble_eq_true rfl⟩ cb_pl13.1 (Nat.le_of_ble_eq_true rfl) rfl hs hl rfl (Nat.le_of_ble_eq_true rfl) dX7_letMeet_17 (fun H locs hs => ?_)
  clear hc
  obtain ⟨r_3, hc, hf⟩ := cb_bp_inv hf
  refine cb_callVi C (c_X6_between cb_tb9 hc) mw_X6_between ml_X7_239 rfl ⟨Nat.le_of_ble_eq_true rfl, Nat.le_of_ble_eq_true rfl⟩ cb_tb9.1 (Nat.le_of_ble_eq_true rfl) rfl hs hl rfl (Nat.le_of_ble_eq_true rfl) dX7_letMeet_20 (fun H locs hs => ?_)
  clear hc
  refine lv_istore_n (lv' := [(3, .int r_3), (0, .ref (A 0)), (1, .int x1), (2, .int x2)]) hx hb dX7_letMeet_23 rfl hl (by decide) rfl (fun ls hl => ?_)
  refine lv_aload_n hx hb dX7_letMeet_24 rfl (lv_at hl 1 rfl) ?_
  refine gf_X7_33 C hs rfl dX7_letMeet_25 ?_
  refine lv_iload_n hx hb dX7_letMeet_28 rfl (lv_at hl 2 rfl) ?_
  refine lv_iload_n hx hb dX7_letMeet_29 rfl (lv_at hl 3 rfl) ?_
  refine lv_iload_n hx hb dX7_letMeet_30 rfl (lv_at hl 0 rfl) ?_
  obtain ⟨σ_4, hc, hf⟩ := cb_bv_inv hf
  refine cb_callVv C (c_X4_noteMeeting cb_pl13 hc) mw_X4_noteMeeting ml_X7_313 rfl ⟨Nat.le_of_ble_eq_true rfl, Nat.le_of_ble_eq_true rfl⟩ cb_pl13.1 (Nat.le_of_ble_eq_true rfl) rfl hs hl rfl (Nat.le_of_ble_eq_true rfl) dX7_letMeet_31 (fun H locs hs => ?_)
  clear hc
  refine lv_iload_n hx hb dX7_letMeet_34 rfl (lv_at hl 0 rfl) ?_
  have hf := Option.some.inj hf
  subst hf
  exact cb_reti C hs dX7_letMeet_35
/-! ===== CardBecome.nextDraw ===== -/
def f_X7_nextDraw (x1 : Int32) (σ : cb_St) : Option (Int32 × cb_St) := cb_let (cb_sI σ 0 0 ((((σ.1 0 0) * 1103515245) + 12345) &&& 2147483647)) (fun σ_1 => if 0 < x1 then (cb_ck (¬ x1 = 0) (some (((σ_1.1 0 0) / 65536) - ((σ_1.1 0 0) / 65536) / x1 * x1, σ_1))) else (some (0, σ_1)))
set_option maxHeartbeats 4000000 in
set_option maxRecDepth 100000 in
theorem c_X7_nextDraw {x1 : Int32}  {σ : cb_St} {o : Int32 × cb_St} (hf : f_X7_nextDraw x1 σ = some o) : cb_M l yX7_nextDraw cX7_nextDraw 2 (some .int) 1 shC A T D σ [.ref (A 0), .int x1] (some (.int o.1)) o.2 := by
  refine cb_met (by decide +kernel) (Nat.le_of_ble_eq_true rfl) ?_
  intro p e s m below meth c C hs ls hl
  have hl : lv_has ls 2 [(0, .ref (A 0)), (1, .int x1)] := hl
  obtain ⟨hx, hb, hml, hr, hown, hts, hK, hlk, hN⟩ := id C
  unfold f_X7_nextDraw at hf
  refine lv_aload_n hx hb dX7_nextDraw_0 rfl (lv_at hl 0 rfl) ?_
  refine lv_aload_n hx hb dX7_nextDraw_1 rfl (lv_at hl 0 rfl) ?_
  refine gf_X7_304 C hs rfl dX7_nextDraw_2 ?_
  refine lv_ldcw (v := 1103515245) hx hb hown (hts _ kc_X7_317) dX7_nextDraw_5 ?_
  refine lv_imul hx hb dX7_nextDraw_8 ?_
  refine lv_sipush (v := 12345) hx hb dX7_nextDraw_9 (by decide) ?_
  refine lv_iadd hx hb dX7_nextDraw_12 ?_
  refine lv_ldcw (v := 2147483647) hx hb hown (hts _ kc_X7_318) dX7_nextDraw_13 ?_
  refine lv_iand hx hb dX7_nextDraw_16 ?_
  refine pf_X7_304 C hs rfl dX7_nextDraw_17 (fun H locs hs => ?_)
  obtain ⟨σ_1, e9, hf⟩ := cb_let_inv hf
  replace hs := cb_Hc e9 hs
  clear e9
  refine lv_iload_n hx hb dX7_nextDraw_20 rfl (lv_at hl 1 rfl) ?_
  refine lv_if_gt (tgt := 28) hx hb dX7_nextDraw_21 (by decide) (fun cn => ?_) (fun cn => ?_)
  · replace hf := cb_ifp cn hf
    refine lv_aload_n hx hb dX7_nextDraw_28 rfl (lv_at hl 0 rfl) ?_
    refine gf_X7_304 C hs rfl dX7_nextDraw_29 ?_
    refine lv_ldcw (v := 65536) hx hb hown (hts _ kc_X7_319) dX7_nextDraw_32 ?_
    refine lv_idiv hx hb dX7_nextDraw_35 (by decide) ?_
    refine lv_iload_n hx hb dX7_nextDraw_36 rfl (lv_at hl 1 rfl) ?_
    obtain ⟨hc, hf⟩ := cb_ck_inv hf
    refine lv_irem hx hb dX7_nextDraw_37 hc ?_
    have hf := Option.some.inj hf
    subst hf
    exact cb_reti C hs dX7_nextDraw_38
  · replace hf := cb_ifn cn hf
    refine lv_iconst (v := 0) hx hb dX7_nextDraw_24 (by decide) ?_
    refine lv_goto (tgt := 38) hx hb dX7_nextDraw_25 (by decide) ?_
    have hf := Option.some.inj hf
    subst hf
    exact cb_reti C hs dX7_nextDraw_38
/-! ===== CardBecome.driftOnce ===== -/
def f_X7_driftOnce_81  (σ : cb_St) : Option (cb_St) := some σ
set_option maxHeartbeats 4000000 in
set_option maxRecDepth 100000 in
theorem w_X7_driftOnce_81 (C : cb_C p s m args meth c cX7_driftOnce 4 none RX7 D T)  {o : cb_St}  {σ : cb_St} (hf : f_X7_driftOnce_81 σ = some o) {H : Heap} {locs : List Loc} {ls : Array Slot} (hs : cb_H shC A T D σ s.heap H locs) (hl : lv_has ls 4 [(0, .ref (A 0))]) : cb_W p l e 5 s m args below meth c shC A T D none o H locs (F0 m 81 ls []) := by
  obtain ⟨hx, hb, hml, hr, hown, hts, hK, hlk, hN⟩ := id C
  unfold f_X7_driftOnce_81 at hf
  refine lv_goto (tgt := 100) hx hb dX7_driftOnce_81 (by decide) ?_
  have hf := Option.some.inj hf
  subst hf
  exact cb_retv C hs dX7_driftOnce_100
def f_X7_driftOnce  (σ : cb_St) : Option (cb_St) := cb_bi (f_X7_nextDraw (σ.1 9 5) σ) (fun r_1 σ_2 => cb_bi (f_X7_nextDraw 5 σ_2) (fun r_3 σ_4 => if 1 < r_3 then (if r_3 = 2 then (cb_bi (f_X4_giveBack 13 r_1 σ_4) (fun r_12 σ_13 => some σ_13)) else (if r_3 = 3 then (cb_bi (f_X7_nextDraw (σ_4.1 9 5) σ_4) (fun r_8 σ_9 => if r_1 = r_8 then (f_X7_driftOnce_81 σ_9) else (cb_bi (f_X7_letMeet r_1 r_8 σ_9) (fun r_10 σ_11 => f_X7_driftOnce_81 σ_11)))) else (cb_bi (f_X7_nextDraw 3 σ_4) (fun r_5 σ_6 => cb_bv (f_X4_mix 13 r_5 σ_6) (fun σ_7 => some σ_7))))) else (cb_bi (f_X4_draw 13 r_1 σ_4) (fun r_14 σ_15 => some σ_15))))
set_option maxHeartbeats 4000000 in
set_option maxRecDepth 100000 in
theorem c_X7_driftOnce   {σ : cb_St} {o : cb_St} (hf : f_X7_driftOnce σ = some o) : cb_M l yX7_driftOnce cX7_driftOnce 4 none 5 shC A T D σ [.ref (A 0)] none o := by
  refine cb_met (by decide +kernel) (Nat.le_of_ble_eq_true rfl) ?_
  intro p e s m below meth c C hs ls hl
  have hl : lv_has ls 4 [(0, .ref (A 0))] := hl
  obtain ⟨hx, hb, hml, hr, hown, hts, hK, hlk, hN⟩ := id C
  unfold f_X7_driftOnce at hf
  refine lv_aload_n hx hb dX7_driftOnce_0 rfl (lv_at hl 0 rfl) ?_
  refine lv_aload_n hx hb dX7_driftOnce_1 rfl (lv_at hl 0 rfl) ?_
  refine gf_X7_26 C hs rfl dX7_driftOnce_2 ?_
  refine gf_X7_105 C hs cb_tb9.1 dX7_driftOnce_5 ?_
  obtain ⟨r_1, σ_2, hc, hf⟩ := cb_bi_inv hf
  refine cb_callVi C (c_X7_nextDraw  hc) mw_X7_nextDraw ml_X7_320 rfl ⟨Nat.le_of_ble_eq_true rfl, Nat.le_of_ble_eq_true rfl⟩ rfl (Nat.le_of_ble_eq_true rfl) rfl hs hl rfl (Nat.le_of_ble_eq_true rfl) dX7_driftOnce_8 (fun H locs hs => ?_)
  clear hc
  refine lv_istore_n (lv' := [(1, .int r_1), (0, .ref (A 0))]) hx hb dX7_driftOnce_11 rfl hl (by decide) rfl (fun ls hl => ?_)
  refine lv_aload_n hx hb dX7_driftOnce_12 rfl (lv_at hl 1 rfl) ?_
  refine lv_iconst (v := 5) hx hb dX7_driftOnce_13 (by decide) ?_
  obtain ⟨r_3, σ_4, hc, hf⟩ := cb_bi_inv hf
  refine cb_callVi C (c_X7_nextDraw  hc) mw_X7_nextDraw ml_X7_320 rfl ⟨Nat.le_of_ble_eq_true rfl, Nat.le_of_ble_eq_true rfl⟩ rfl (Nat.le_of_ble_eq_true rfl) rfl hs hl rfl (Nat.le_of_ble_eq_true rfl) dX7_driftOnce_14 (fun H locs hs => ?_)
  clear hc
  refine lv_istore_n (lv' := [(2, .int r_3), (1, .int r_1), (0, .ref (A 0))]) hx hb dX7_driftOnce_17 rfl hl (by decide) rfl (fun ls hl => ?_)
  refine lv_iload_n hx hb dX7_driftOnce_18 rfl (lv_at hl 0 rfl) ?_
  refine lv_iconst (v := 1) hx hb dX7_driftOnce_19 (by decide) ?_
  refine lv_icmp_gt (tgt := 35) hx hb dX7_driftOnce_20 (by decide) (fun cn => ?_) (fun cn => ?_)
  · replace hf := cb_ifp cn hf
    refine lv_iload_n hx hb dX7_driftOnce_35 rfl (lv_at hl 0 rfl) ?_
    refine lv_iconst (v := 2) hx hb dX7_driftOnce_36 (by decide) ?_
    refine lv_icmp_ne (tgt := 52) hx hb dX7_driftOnce_37 (by decide) (fun cn => ?_) (fun cn => ?_)
    · replace hf := cb_ifn cn hf
      refine lv_iload_n hx hb dX7_driftOnce_52 rfl (lv_at hl 0 rfl) ?_
      refine lv_iconst (v := 3) hx hb dX7_driftOnce_53 (by decide) ?_
      refine lv_icmp_ne (tgt := 84) hx hb dX7_driftOnce_54 (by decide) (fun cn => ?_) (fun cn => ?_)
      · replace hf := cb_ifn cn hf
        refine lv_aload_n hx hb dX7_driftOnce_84 rfl (lv_at hl 2 rfl) ?_
        refine gf_X7_33 C hs rfl dX7_driftOnce_85 ?_
        refine lv_aload_n hx hb dX7_driftOnce_88 rfl (lv_at hl 2 rfl) ?_
        refine lv_iconst (v := 3) hx hb dX7_driftOnce_89 (by decide) ?_
        obtain ⟨r_5, σ_6, hc, hf⟩ := cb_bi_inv hf
        refine cb_callVi C (c_X7_nextDraw  hc) mw_X7_nextDraw ml_X7_320 rfl ⟨Nat.le_of_ble_eq_true rfl, Nat.le_of_ble_eq_true rfl⟩ rfl (Nat.le_of_ble_eq_true rfl) rfl hs hl rfl (Nat.le_of_ble_eq_true rfl) dX7_driftOnce_90 (fun H locs hs => ?_)
        clear hc
        refine lv_aload_n hx hb dX7_driftOnce_93 rfl (lv_at hl 2 rfl) ?_
        refine gf_X7_13 C hs rfl dX7_driftOnce_94 ?_
        obtain ⟨σ_7, hc, hf⟩ := cb_bv_inv hf
        refine cb_callVv C (c_X4_mix cb_pl13 hc) mw_X4_mix ml_X7_223 rfl ⟨Nat.le_of_ble_eq_true rfl, Nat.le_of_ble_eq_true rfl⟩ cb_pl13.1 (Nat.le_of_ble_eq_true rfl) rfl hs hl rfl (Nat.le_of_ble_eq_true rfl) dX7_driftOnce_97 (fun H locs hs => ?_)
        clear hc
        have hf := Option.some.inj hf
        subst hf
        exact cb_retv C hs dX7_driftOnce_100
      · replace hf := cb_ifp cn hf
        refine lv_aload_n hx hb dX7_driftOnce_57 rfl (lv_at hl 2 rfl) ?_
        refine lv_aload_n hx hb dX7_driftOnce_58 rfl (lv_at hl 2 rfl) ?_
        refine gf_X7_26 C hs rfl dX7_driftOnce_59 ?_
        refine gf_X7_105 C hs cb_tb9.1 dX7_driftOnce_62 ?_
        obtain ⟨r_8, σ_9, hc, hf⟩ := cb_bi_inv hf
        refine cb_callVi C (c_X7_nextDraw  hc) mw_X7_nextDraw ml_X7_320 rfl ⟨Nat.le_of_ble_eq_true rfl, Nat.le_of_ble_eq_true rfl⟩ rfl (Nat.le_of_ble_eq_true rfl) rfl hs hl rfl (Nat.le_of_ble_eq_true rfl) dX7_driftOnce_65 (fun H locs hs => ?_)
        clear hc
        refine lv_istore_n (lv' := [(3, .int r_8), (2, .int r_3), (1, .int r_1), (0, .ref (A 0))]) hx hb dX7_driftOnce_68 rfl hl (by decide) rfl (fun ls hl => ?_)
        refine lv_iload_n hx hb dX7_driftOnce_69 rfl (lv_at hl 2 rfl) ?_
        refine lv_iload_n hx hb dX7_driftOnce_70 rfl (lv_at hl 0 rfl) ?_
        refine lv_icmp_eq (tgt := 81) hx hb dX7_driftOnce_71 (by decide) (fun cn => ?_) (fun cn => ?_)
        · replace hf := cb_ifp cn hf
          exact w_X7_driftOnce_81 C  hf hs (lv_sub hl [3] rfl)
        · replace hf := cb_ifn cn hf
          refine lv_aload_n hx hb dX7_driftOnce_74 rfl (lv_at hl 3 rfl) ?_
          refine lv_iload_n hx hb dX7_driftOnce_75 rfl (lv_at hl 2 rfl) ?_
          refine lv_iload_n hx hb dX7_driftOnce_76 rfl (lv_at hl 0 rfl) ?_
          obtain ⟨r_10, σ_11, hc, hf⟩ := cb_bi_inv hf
          refine cb_callVi C (c_X7_letMeet  hc) mw_X7_letMeet ml_X7_213 rfl ⟨Nat.le_of_ble_eq_true rfl, Nat.le_of_ble_eq_true rfl⟩ rfl (Nat.le_of_ble_eq_true rfl) rfl hs hl rfl (Nat.le_of_ble_eq_true rfl) dX7_driftOnce_77 (fun H locs hs => ?_)
          clear hc
          refine lv_pop hx hb dX7_driftOnce_80 rfl ?_
          exact w_X7_driftOnce_81 C  hf hs (lv_sub hl [3] rfl)
    · replace hf := cb_ifp cn hf
      refine lv_aload_n hx hb dX7_driftOnce_40 rfl (lv_at hl 2 rfl) ?_
      refine gf_X7_33 C hs rfl dX7_driftOnce_41 ?_
      refine lv_iload_n hx hb dX7_driftOnce_44 rfl (lv_at hl 1 rfl) ?_
      obtain ⟨r_12, σ_13, hc, hf⟩ := cb_bi_inv hf
      refine cb_callVi C (c_X4_giveBack cb_pl13 hc) mw_X4_giveBack ml_X7_206 rfl ⟨Nat.le_of_ble_eq_true rfl, Nat.le_of_ble_eq_true rfl⟩ cb_pl13.1 (Nat.le_of_ble_eq_true rfl) rfl hs hl rfl (Nat.le_of_ble_eq_true rfl) dX7_driftOnce_45 (fun H locs hs => ?_)
      clear hc
      refine lv_pop hx hb dX7_driftOnce_48 rfl ?_
      refine lv_goto (tgt := 100) hx hb dX7_driftOnce_49 (by decide) ?_
      have hf := Option.some.inj hf
      subst hf
      exact cb_retv C hs dX7_driftOnce_100
  · replace hf := cb_ifn cn hf
    refine lv_aload_n hx hb dX7_driftOnce_23 rfl (lv_at hl 2 rfl) ?_
    refine gf_X7_33 C hs rfl dX7_driftOnce_24 ?_
    refine lv_iload_n hx hb dX7_driftOnce_27 rfl (lv_at hl 1 rfl) ?_
    obtain ⟨r_14, σ_15, hc, hf⟩ := cb_bi_inv hf
    refine cb_callVi C (c_X4_draw cb_pl13 hc) mw_X4_draw ml_X7_203 rfl ⟨Nat.le_of_ble_eq_true rfl, Nat.le_of_ble_eq_true rfl⟩ cb_pl13.1 (Nat.le_of_ble_eq_true rfl) rfl hs hl rfl (Nat.le_of_ble_eq_true rfl) dX7_driftOnce_28 (fun H locs hs => ?_)
    clear hc
    refine lv_pop hx hb dX7_driftOnce_31 rfl ?_
    refine lv_goto (tgt := 100) hx hb dX7_driftOnce_32 (by decide) ?_
    have hf := Option.some.inj hf
    subst hf
    exact cb_retv C hs dX7_driftOnce_100
/-! ===== CardBecome.drift ===== -/
def f_X7_drift_65 (x1 : Int32) (σ : cb_St) : Option (Int32 × cb_St) := cb_bp (f_X4_holders 13 σ) (fun r_1 => some (r_1, σ))
set_option maxHeartbeats 4000000 in
set_option maxRecDepth 100000 in
theorem w_X7_drift_65 (C : cb_C p s m args meth c cX7_drift 3 (some .int) RX7 D T) {x1 : Int32} {o : Int32 × cb_St}  {σ : cb_St} (hf : f_X7_drift_65 x1 σ = some o) {H : Heap} {locs : List Loc} {ls : Array Slot} (hs : cb_H shC A T D σ s.heap H locs) (hl : lv_has ls 3 [(0, .ref (A 0)), (1, .int x1)]) : cb_W p l e 6 s m args below meth c shC A T D (some (.int o.1)) o.2 H locs (F0 m 65 ls []) := by
  obtain ⟨hx, hb, hml, hr, hown, hts, hK, hlk, hN⟩ := id C
  unfold f_X7_drift_65 at hf
  refine lv_aload_n hx hb dX7_drift_65 rfl (lv_at hl 0 rfl) ?_
  refine gf_X7_33 C hs rfl dX7_drift_66 ?_
  obtain ⟨r_1, hc, hf⟩ := cb_bp_inv hf
  refine cb_callVi C (c_X4_holders cb_pl13 hc) mw_X4_holders ml_X7_126 rfl ⟨Nat.le_of_ble_eq_true rfl, Nat.le_of_ble_eq_true rfl⟩ cb_pl13.1 (Nat.le_of_ble_eq_true rfl) rfl hs hl rfl (Nat.le_of_ble_eq_true rfl) dX7_drift_69 (fun H locs hs => ?_)
  clear hc
  have hf := Option.some.inj hf
  subst hf
  exact cb_reti C hs dX7_drift_72
def f_X7_drift_50 (x1 : Int32) : Nat → cb_St → Int32 → Option (Int32 × cb_St)
  | 0, _, _ => none
  | fu + 1, σ, x2 => if x1 ≤ x2 then (f_X7_drift_65 x1 σ) else (cb_bv (f_X7_driftOnce σ) (fun σ_1 => cb_let (x2 + 1) (fun x2_1 => f_X7_drift_50 x1 fu σ_1 x2_1)))
set_option maxHeartbeats 4000000 in
set_option maxRecDepth 100000 in
theorem w_X7_drift_50 (C : cb_C p s m args meth c cX7_drift 3 (some .int) RX7 D T) {x1 : Int32} {o : Int32 × cb_St}  : ∀ (fu : Nat) (σ : cb_St) (x2 : Int32), f_X7_drift_50 x1 fu σ x2 = some o → ∀ (H : Heap) (locs : List Loc) (ls : Array Slot), cb_H shC A T D σ s.heap H locs → lv_has ls 3 [(0, .ref (A 0)), (1, .int x1), (2, .int x2)] → cb_W p l e 6 s m args below meth c shC A T D (some (.int o.1)) o.2 H locs (F0 m 50 ls []) := by
  obtain ⟨hx, hb, hml, hr, hown, hts, hK, hlk, hN⟩ := id C
  intro fu
  induction fu with
  | zero =>
    intro σ x2 hf
    rw [f_X7_drift_50] at hf
    cases hf
  | succ fu ih =>
    intro σ x2 hf H locs ls hs hl
    rw [f_X7_drift_50] at hf
    refine lv_iload_n hx hb dX7_drift_50 rfl (lv_at hl 2 rfl) ?_
    refine lv_iload_n hx hb dX7_drift_51 rfl (lv_at hl 1 rfl) ?_
    refine lv_icmp_ge (tgt := 65) hx hb dX7_drift_52 (by decide) (fun cn => ?_) (fun cn => ?_)
    · replace hf := cb_ifp cn hf
      exact w_X7_drift_65 C  hf hs (lv_sub hl [0, 1] rfl)
    · replace hf := cb_ifn cn hf
      refine lv_aload_n hx hb dX7_drift_55 rfl (lv_at hl 0 rfl) ?_
      obtain ⟨σ_1, hc, hf⟩ := cb_bv_inv hf
      refine cb_callVv C (c_X7_driftOnce  hc) mw_X7_driftOnce ml_X7_233 rfl ⟨Nat.le_of_ble_eq_true rfl, Nat.le_of_ble_eq_true rfl⟩ rfl (Nat.le_of_ble_eq_true rfl) rfl hs hl rfl (Nat.le_of_ble_eq_true rfl) dX7_drift_56 (fun H locs hs => ?_)
      clear hc
      obtain ⟨x2_1, e9, hf⟩ := cb_let_inv hf
      refine lv_iinc (v := x2_1) (lv' := [(2, .int x2_1), (0, .ref (A 0)), (1, .int x1)]) hx hb dX7_drift_59 hl (k := 2) rfl (by rw [e9]; rfl) (by decide) rfl (fun ls hl => ?_)
      clear e9
      refine lv_goto (tgt := 50) hx hb dX7_drift_62 (by decide) ?_
      exact ih _ _ hf _ _ _ hs (lv_sub hl [1, 2, 0] rfl)
def f_X7_drift_11 (x1 : Int32) (σ : cb_St) : Option (Int32 × cb_St) := some ((-1000000002), σ)
set_option maxHeartbeats 4000000 in
set_option maxRecDepth 100000 in
theorem w_X7_drift_11 (C : cb_C p s m args meth c cX7_drift 3 (some .int) RX7 D T) {x1 : Int32} {o : Int32 × cb_St}  {σ : cb_St} (hf : f_X7_drift_11 x1 σ = some o) {H : Heap} {locs : List Loc} {ls : Array Slot} (hs : cb_H shC A T D σ s.heap H locs) (hl : lv_has ls 3 [(0, .ref (A 0)), (1, .int x1)]) : cb_W p l e 6 s m args below meth c shC A T D (some (.int o.1)) o.2 H locs (F0 m 11 ls []) := by
  obtain ⟨hx, hb, hml, hr, hown, hts, hK, hlk, hN⟩ := id C
  unfold f_X7_drift_11 at hf
  refine lv_ldc (v := (-1000000002)) hx hb hown (hts _ kc_X7_65) dX7_drift_11 ?_
  have hf := Option.some.inj hf
  subst hf
  exact cb_reti C hs dX7_drift_13
def f_X7_drift (x1 : Int32) (σ : cb_St) : Option (Int32 × cb_St) := if x1 < 1 then (f_X7_drift_11 x1 σ) else (if x1 ≤ 60 then (if (σ.1 9 0) = 0 then (some ((-1000000003), σ)) else (cb_bv (f_X3_push σ) (fun σ_1 => if (σ_1.1 9 5) ≤ 0 then (f_X7_drift_65 x1 σ_1) else (f_X7_drift_50 x1 cb_fu σ_1 0)))) else (f_X7_drift_11 x1 σ))
set_option maxHeartbeats 4000000 in
set_option maxRecDepth 100000 in
theorem c_X7_drift {x1 : Int32}  {σ : cb_St} {o : Int32 × cb_St} (hf : f_X7_drift x1 σ = some o) : cb_M l yX7_drift cX7_drift 3 (some .int) 6 shC A T D σ [.ref (A 0), .int x1] (some (.int o.1)) o.2 := by
  refine cb_met (by decide +kernel) (Nat.le_of_ble_eq_true rfl) ?_
  intro p e s m below meth c C hs ls hl
  have hl : lv_has ls 3 [(0, .ref (A 0)), (1, .int x1)] := hl
  obtain ⟨hx, hb, hml, hr, hown, hts, hK, hlk, hN⟩ := id C
  unfold f_X7_drift at hf
  refine lv_iload_n hx hb dX7_drift_0 rfl (lv_at hl 1 rfl) ?_
  refine lv_iconst (v := 1) hx hb dX7_drift_1 (by decide) ?_
  refine lv_icmp_lt (tgt := 11) hx hb dX7_drift_2 (by decide) (fun cn => ?_) (fun cn => ?_)
  · replace hf := cb_ifp cn hf
    exact w_X7_drift_11 C  hf hs (lv_sub hl [0, 1] rfl)
  · replace hf := cb_ifn cn hf
    refine lv_iload_n hx hb dX7_drift_5 rfl (lv_at hl 1 rfl) ?_
    refine lv_bipush (v := 60) hx hb dX7_drift_6 (by decide) ?_
    refine lv_icmp_le (tgt := 14) hx hb dX7_drift_8 (by decide) (fun cn => ?_) (fun cn => ?_)
    · replace hf := cb_ifp cn hf
      refine lv_aload_n hx hb dX7_drift_14 rfl (lv_at hl 0 rfl) ?_
      refine gf_X7_26 C hs rfl dX7_drift_15 ?_
      refine gf_X7_220 C hs cb_tb9.1 dX7_drift_18 ?_
      refine lv_if_ne (tgt := 27) hx hb dX7_drift_21 (by decide) (fun cn => ?_) (fun cn => ?_)
      · replace hf := cb_ifn cn hf
        refine lv_aload_n hx hb dX7_drift_27 rfl (lv_at hl 0 rfl) ?_
        refine gf_X7_40 C hs rfl dX7_drift_28 ?_
        refine lv_aload_n hx hb dX7_drift_31 rfl (lv_at hl 0 rfl) ?_
        refine gf_X7_33 C hs rfl dX7_drift_32 ?_
        obtain ⟨σ_1, hc, hf⟩ := cb_bv_inv hf
        refine cb_callVv C (c_X3_push  hc) mw_X3_push ml_X7_199 rfl ⟨Nat.le_of_ble_eq_true rfl, Nat.le_of_ble_eq_true rfl⟩ rfl (Nat.le_of_ble_eq_true rfl) rfl hs hl rfl (Nat.le_of_ble_eq_true rfl) dX7_drift_35 (fun H locs hs => ?_)
        clear hc
        refine lv_aload_n hx hb dX7_drift_38 rfl (lv_at hl 0 rfl) ?_
        refine gf_X7_26 C hs rfl dX7_drift_39 ?_
        refine gf_X7_105 C hs cb_tb9.1 dX7_drift_42 ?_
        refine lv_if_le (tgt := 65) hx hb dX7_drift_45 (by decide) (fun cn => ?_) (fun cn => ?_)
        · replace hf := cb_ifp cn hf
          exact w_X7_drift_65 C  hf hs (lv_sub hl [0, 1] rfl)
        · replace hf := cb_ifn cn hf
          refine lv_iconst (v := 0) hx hb dX7_drift_48 (by decide) ?_
          refine lv_istore_n (lv' := [(2, .int 0), (0, .ref (A 0)), (1, .int x1)]) hx hb dX7_drift_49 rfl hl (by decide) rfl (fun ls hl => ?_)
          exact w_X7_drift_50 C  cb_fu _ _ hf _ _ _ hs (lv_sub hl [1, 2, 0] rfl)
      · replace hf := cb_ifp cn hf
        refine lv_ldc (v := (-1000000003)) hx hb hown (hts _ kc_X7_198) dX7_drift_24 ?_
        have hf := Option.some.inj hf
        subst hf
        exact cb_reti C hs dX7_drift_26
    · replace hf := cb_ifn cn hf
      exact w_X7_drift_11 C  hf hs (lv_sub hl [0, 1] rfl)
/-! ===== CardBecome.fault ===== -/
def f_X7_fault (σ : cb_St)  : Option (Int32) := some (σ.1 3 2)
set_option maxHeartbeats 4000000 in
set_option maxRecDepth 100000 in
theorem c_X7_fault {σ : cb_St}   {o : Int32} (hf : f_X7_fault σ = some o) : cb_M l yX7_fault cX7_fault 1 (some .int) 1 shC A T D σ [.ref (A 0)] (some (.int o)) σ := by
  refine cb_met (by decide +kernel) (Nat.le_of_ble_eq_true rfl) ?_
  intro p e s m below meth c C hs ls hl
  have hl : lv_has ls 1 [(0, .ref (A 0))] := hl
  obtain ⟨hx, hb, hml, hr, hown, hts, hK, hlk, hN⟩ := id C
  unfold f_X7_fault at hf
  refine lv_aload_n hx hb dX7_fault_0 rfl (lv_at hl 0 rfl) ?_
  refine gf_X7_19 C hs rfl dX7_fault_1 ?_
  refine gf_X7_108 C hs rfl dX7_fault_4 ?_
  have hf := Option.some.inj hf
  subst hf
  exact cb_reti C hs dX7_fault_7
/-! ===== CardBecome.feed ===== -/
def f_X7_feed_11 (x1 : Int32) (σ : cb_St) : Option (Int32 × cb_St) := some ((-1000000002), σ)
set_option maxHeartbeats 4000000 in
set_option maxRecDepth 100000 in
theorem w_X7_feed_11 (C : cb_C p s m args meth c cX7_feed 2 (some .int) RX7 D T) {x1 : Int32} {o : Int32 × cb_St}  {σ : cb_St} (hf : f_X7_feed_11 x1 σ = some o) {H : Heap} {locs : List Loc} {ls : Array Slot} (hs : cb_H shC A T D σ s.heap H locs) (hl : lv_has ls 2 [(0, .ref (A 0)), (1, .int x1)]) : cb_W p l e 2 s m args below meth c shC A T D (some (.int o.1)) o.2 H locs (F0 m 11 ls []) := by
  obtain ⟨hx, hb, hml, hr, hown, hts, hK, hlk, hN⟩ := id C
  unfold f_X7_feed_11 at hf
  refine lv_ldc (v := (-1000000002)) hx hb hown (hts _ kc_X7_65) dX7_feed_11 ?_
  have hf := Option.some.inj hf
  subst hf
  exact cb_reti C hs dX7_feed_13
def f_X7_feed (x1 : Int32) (σ : cb_St) : Option (Int32 × cb_St) := if x1 < 0 then (f_X7_feed_11 x1 σ) else (if x1 ≤ 255 then (cb_bi (f_X5_add x1 σ) (fun r_1 σ_2 => if r_1 = 0 then (some ((-1000000004), σ_2)) else (some (σ_2.1 3 3, σ_2)))) else (f_X7_feed_11 x1 σ))
set_option maxHeartbeats 4000000 in
set_option maxRecDepth 100000 in
theorem c_X7_feed {x1 : Int32}  {σ : cb_St} {o : Int32 × cb_St} (hf : f_X7_feed x1 σ = some o) : cb_M l yX7_feed cX7_feed 2 (some .int) 2 shC A T D σ [.ref (A 0), .int x1] (some (.int o.1)) o.2 := by
  refine cb_met (by decide +kernel) (Nat.le_of_ble_eq_true rfl) ?_
  intro p e s m below meth c C hs ls hl
  have hl : lv_has ls 2 [(0, .ref (A 0)), (1, .int x1)] := hl
  obtain ⟨hx, hb, hml, hr, hown, hts, hK, hlk, hN⟩ := id C
  unfold f_X7_feed at hf
  refine lv_iload_n hx hb dX7_feed_0 rfl (lv_at hl 1 rfl) ?_
  refine lv_if_lt (tgt := 11) hx hb dX7_feed_1 (by decide) (fun cn => ?_) (fun cn => ?_)
  · replace hf := cb_ifp cn hf
    exact w_X7_feed_11 C  hf hs (lv_sub hl [0, 1] rfl)
  · replace hf := cb_ifn cn hf
    refine lv_iload_n hx hb dX7_feed_4 rfl (lv_at hl 1 rfl) ?_
    refine lv_sipush (v := 255) hx hb dX7_feed_5 (by decide) ?_
    refine lv_icmp_le (tgt := 14) hx hb dX7_feed_8 (by decide) (fun cn => ?_) (fun cn => ?_)
    · replace hf := cb_ifp cn hf
      refine lv_aload_n hx hb dX7_feed_14 rfl (lv_at hl 0 rfl) ?_
      refine gf_X7_19 C hs rfl dX7_feed_15 ?_
      refine lv_iload_n hx hb dX7_feed_18 rfl (lv_at hl 1 rfl) ?_
      obtain ⟨r_1, σ_2, hc, hf⟩ := cb_bi_inv hf
      refine cb_callVi C (c_X5_add  hc) mw_X5_add ml_X7_66 rfl ⟨Nat.le_of_ble_eq_true rfl, Nat.le_of_ble_eq_true rfl⟩ rfl (Nat.le_of_ble_eq_true rfl) rfl hs hl rfl (Nat.le_of_ble_eq_true rfl) dX7_feed_19 (fun H locs hs => ?_)
      clear hc
      refine lv_if_eq (tgt := 35) hx hb dX7_feed_22 (by decide) (fun cn => ?_) (fun cn => ?_)
      · replace hf := cb_ifp cn hf
        refine lv_ldc (v := (-1000000004)) hx hb hown (hts _ kc_X7_74) dX7_feed_35 ?_
        have hf := Option.some.inj hf
        subst hf
        exact cb_reti C hs dX7_feed_37
      · replace hf := cb_ifn cn hf
        refine lv_aload_n hx hb dX7_feed_25 rfl (lv_at hl 0 rfl) ?_
        refine gf_X7_19 C hs rfl dX7_feed_26 ?_
        refine gf_X7_70 C hs rfl dX7_feed_29 ?_
        refine lv_goto (tgt := 37) hx hb dX7_feed_32 (by decide) ?_
        have hf := Option.some.inj hf
        subst hf
        exact cb_reti C hs dX7_feed_37
    · replace hf := cb_ifn cn hf
      exact w_X7_feed_11 C  hf hs (lv_sub hl [0, 1] rfl)
/-! ===== CardBecome.firstStep ===== -/
def f_X7_firstStep (x1 : Int32) (x2 : Int32) (σ : cb_St)  : Option (Int32) := if 0 < x2 then (cb_bp (f_X7_stepTo x1 (x2 - 1) σ) (fun r_1 => some r_1)) else (some (-1))
set_option maxHeartbeats 4000000 in
set_option maxRecDepth 100000 in
theorem c_X7_firstStep {x1 : Int32} {x2 : Int32} {σ : cb_St}   {o : Int32} (hf : f_X7_firstStep x1 x2 σ = some o) : cb_M l yX7_firstStep cX7_firstStep 3 (some .int) 3 shC A T D σ [.ref (A 0), .int x1, .int x2] (some (.int o)) σ := by
  refine cb_met (by decide +kernel) (Nat.le_of_ble_eq_true rfl) ?_
  intro p e s m below meth c C hs ls hl
  have hl : lv_has ls 3 [(0, .ref (A 0)), (1, .int x1), (2, .int x2)] := hl
  obtain ⟨hx, hb, hml, hr, hown, hts, hK, hlk, hN⟩ := id C
  unfold f_X7_firstStep at hf
  refine lv_iload_n hx hb dX7_firstStep_0 rfl (lv_at hl 2 rfl) ?_
  refine lv_if_gt (tgt := 8) hx hb dX7_firstStep_1 (by decide) (fun cn => ?_) (fun cn => ?_)
  · replace hf := cb_ifp cn hf
    refine lv_aload_n hx hb dX7_firstStep_8 rfl (lv_at hl 0 rfl) ?_
    refine lv_iload_n hx hb dX7_firstStep_9 rfl (lv_at hl 1 rfl) ?_
    refine lv_iload_n hx hb dX7_firstStep_10 rfl (lv_at hl 2 rfl) ?_
    refine lv_iconst (v := 1) hx hb dX7_firstStep_11 (by decide) ?_
    refine lv_isub hx hb dX7_firstStep_12 ?_
    obtain ⟨r_1, hc, hf⟩ := cb_bp_inv hf
    refine cb_callVi C (c_X7_stepTo  hc) mw_X7_stepTo ml_X7_338 rfl ⟨Nat.le_of_ble_eq_true rfl, Nat.le_of_ble_eq_true rfl⟩ rfl (Nat.le_of_ble_eq_true rfl) rfl hs hl rfl (Nat.le_of_ble_eq_true rfl) dX7_firstStep_13 (fun H locs hs => ?_)
    clear hc
    have hf := Option.some.inj hf
    subst hf
    exact cb_reti C hs dX7_firstStep_16
  · replace hf := cb_ifn cn hf
    refine lv_iconst (v := (-1)) hx hb dX7_firstStep_4 (by decide) ?_
    refine lv_goto (tgt := 16) hx hb dX7_firstStep_5 (by decide) ?_
    have hf := Option.some.inj hf
    subst hf
    exact cb_reti C hs dX7_firstStep_16
/-! ===== CardBecome.fitsLog ===== -/
def f_X7_fitsLog_67 (K2 : Int32 → Option (Int32)) (x1 : Int32) (σ : cb_St) (x2 : Int32) : Option (Int32) := cb_let (x2 + 1) (fun x2_0 => K2 x2_0)
set_option maxHeartbeats 4000000 in
set_option maxRecDepth 100000 in
theorem w_X7_fitsLog_67 (C : cb_C p s m args meth c cX7_fitsLog 6 (some .boolean) RX7 D T) {K2 : Int32 → Option (Int32)} {x1 : Int32} {σ : cb_St} {o : Int32} (hK2 : ∀ (x2 : Int32), K2 x2 = some o → ∀ (H : Heap) (locs : List Loc) (ls : Array Slot), cb_H shC A T D σ s.heap H locs → lv_has ls 6 [(0, .ref (A 0)), (1, .int x1), (2, .int x2)] → cb_W p l e 4 s m args below meth c shC A T D (some (.int o)) σ H locs (F0 m 2 ls [])) {x2 : Int32} (hf : f_X7_fitsLog_67 K2 x1 σ x2 = some o) {H : Heap} {locs : List Loc} {ls : Array Slot} (hs : cb_H shC A T D σ s.heap H locs) (hl : lv_has ls 6 [(0, .ref (A 0)), (1, .int x1), (2, .int x2)]) : cb_W p l e 4 s m args below meth c shC A T D (some (.int o)) σ H locs (F0 m 67 ls []) := by
  obtain ⟨hx, hb, hml, hr, hown, hts, hK, hlk, hN⟩ := id C
  unfold f_X7_fitsLog_67 at hf
  obtain ⟨x2_0, e9, hf⟩ := cb_let_inv hf
  refine lv_iinc (v := x2_0) (lv' := [(2, .int x2_0), (0, .ref (A 0)), (1, .int x1)]) hx hb dX7_fitsLog_67 hl (k := 2) rfl (by rw [e9]; rfl) (by decide) rfl (fun ls hl => ?_)
  clear e9
  refine lv_goto (tgt := 2) hx hb dX7_fitsLog_70 (by decide) ?_
  exact hK2 _ hf _ _ _ hs (lv_sub hl [1, 2, 0] rfl)
def f_X7_fitsLog_2 (x1 : Int32) (σ : cb_St) : Nat → Int32 → Option (Int32)
  | 0, _ => none
  | fu + 1, x2 => if (σ.1 13 2) ≤ x2 then (some 1) else (cb_bp (f_X4_entry 13 x2 σ) (fun r_1 => cb_bp (f_X4_firstCardIn r_1 σ) (fun r_2 => cb_bp (f_X4_secondCardIn r_1 σ) (fun r_3 => if r_2 = (-1) then (f_X7_fitsLog_67 (f_X7_fitsLog_2 x1 σ fu) x1 σ x2) else (if r_3 = (-1) then (f_X7_fitsLog_67 (f_X7_fitsLog_2 x1 σ fu) x1 σ x2) else (cb_bp (f_X6_byRule 9 r_2 r_3 x1 σ) (fun r_4 => cb_bp (f_X4_outcomeIn r_1 σ) (fun r_5 => if r_4 = r_5 then (f_X7_fitsLog_67 (f_X7_fitsLog_2 x1 σ fu) x1 σ x2) else (some 0)))))))))
set_option maxHeartbeats 4000000 in
set_option maxRecDepth 100000 in
theorem w_X7_fitsLog_2 (C : cb_C p s m args meth c cX7_fitsLog 6 (some .boolean) RX7 D T) {x1 : Int32} {σ : cb_St} {o : Int32}  : ∀ (fu : Nat) (x2 : Int32), f_X7_fitsLog_2 x1 σ fu x2 = some o → ∀ (H : Heap) (locs : List Loc) (ls : Array Slot), cb_H shC A T D σ s.heap H locs → lv_has ls 6 [(0, .ref (A 0)), (1, .int x1), (2, .int x2)] → cb_W p l e 4 s m args below meth c shC A T D (some (.int o)) σ H locs (F0 m 2 ls []) := by
  obtain ⟨hx, hb, hml, hr, hown, hts, hK, hlk, hN⟩ := id C
  intro fu
  induction fu with
  | zero =>
    intro x2 hf
    rw [f_X7_fitsLog_2] at hf
    cases hf
  | succ fu ih =>
    intro x2 hf H locs ls hs hl
    rw [f_X7_fitsLog_2] at hf
    refine lv_iload_n hx hb dX7_fitsLog_2 rfl (lv_at hl 2 rfl) ?_
    refine lv_aload_n hx hb dX7_fitsLog_3 rfl (lv_at hl 0 rfl) ?_
    refine gf_X7_33 C hs rfl dX7_fitsLog_4 ?_
    refine gf_X7_133 C hs cb_pl13.1 dX7_fitsLog_7 ?_
    refine lv_icmp_ge (tgt := 73) hx hb dX7_fitsLog_10 (by decide) (fun cn => ?_) (fun cn => ?_)
    · replace hf := cb_ifp cn hf
      refine lv_iconst (v := 1) hx hb dX7_fitsLog_73 (by decide) ?_
      have hf := Option.some.inj hf
      subst hf
      exact cb_retz C hs (Or.inr rfl) dX7_fitsLog_74
    · replace hf := cb_ifn cn hf
      refine lv_aload_n hx hb dX7_fitsLog_13 rfl (lv_at hl 0 rfl) ?_
      refine gf_X7_33 C hs rfl dX7_fitsLog_14 ?_
      refine lv_iload_n hx hb dX7_fitsLog_17 rfl (lv_at hl 2 rfl) ?_
      obtain ⟨r_1, hc, hf⟩ := cb_bp_inv hf
      refine cb_callVi C (c_X4_entry cb_pl13 hc) mw_X4_entry ml_X7_179 rfl ⟨Nat.le_of_ble_eq_true rfl, Nat.le_of_ble_eq_true rfl⟩ cb_pl13.1 (Nat.le_of_ble_eq_true rfl) rfl hs hl rfl (Nat.le_of_ble_eq_true rfl) dX7_fitsLog_18 (fun H locs hs => ?_)
      clear hc
      refine lv_istore_n (lv' := [(3, .int r_1), (0, .ref (A 0)), (1, .int x1), (2, .int x2)]) hx hb dX7_fitsLog_21 rfl hl (by decide) rfl (fun ls hl => ?_)
      refine lv_iload_n hx hb dX7_fitsLog_22 rfl (lv_at hl 0 rfl) ?_
      obtain ⟨r_2, hc, hf⟩ := cb_bp_inv hf
      refine cb_callSi C (c_X4_firstCardIn  hc) mw_X4_firstCardIn ml_X7_347 rfl ⟨Nat.le_of_ble_eq_true rfl, Nat.le_of_ble_eq_true rfl⟩ hs hl rfl (Nat.le_of_ble_eq_true rfl) dX7_fitsLog_23 (fun H locs hs => ?_)
      clear hc
      refine lv_istore (lv' := [(4, .int r_2), (3, .int r_1), (0, .ref (A 0)), (1, .int x1), (2, .int x2)]) hx hb dX7_fitsLog_26 hl (by decide) rfl (fun ls hl => ?_)
      refine lv_iload_n hx hb dX7_fitsLog_28 rfl (lv_at hl 1 rfl) ?_
      obtain ⟨r_3, hc, hf⟩ := cb_bp_inv hf
      refine cb_callSi C (c_X4_secondCardIn  hc) mw_X4_secondCardIn ml_X7_350 rfl ⟨Nat.le_of_ble_eq_true rfl, Nat.le_of_ble_eq_true rfl⟩ hs hl rfl (Nat.le_of_ble_eq_true rfl) dX7_fitsLog_29 (fun H locs hs => ?_)
      clear hc
      refine lv_istore (lv' := [(5, .int r_3), (4, .int r_2), (3, .int r_1), (0, .ref (A 0)), (1, .int x1), (2, .int x2)]) hx hb dX7_fitsLog_32 hl (by decide) rfl (fun ls hl => ?_)
      refine lv_iload hx hb dX7_fitsLog_34 (lv_at hl 1 rfl) ?_
      refine lv_iconst (v := (-1)) hx hb dX7_fitsLog_36 (by decide) ?_
      refine lv_icmp_eq (tgt := 67) hx hb dX7_fitsLog_37 (by decide) (fun cn => ?_) (fun cn => ?_)
      · replace hf := cb_ifp cn hf
        exact w_X7_fitsLog_67 C ih hf hs (lv_sub hl [3, 4, 5] rfl)
      · replace hf := cb_ifn cn hf
        refine lv_iload hx hb dX7_fitsLog_40 (lv_at hl 0 rfl) ?_
        refine lv_iconst (v := (-1)) hx hb dX7_fitsLog_42 (by decide) ?_
        refine lv_icmp_eq (tgt := 67) hx hb dX7_fitsLog_43 (by decide) (fun cn => ?_) (fun cn => ?_)
        · replace hf := cb_ifp cn hf
          exact w_X7_fitsLog_67 C ih hf hs (lv_sub hl [3, 4, 5] rfl)
        · replace hf := cb_ifn cn hf
          refine lv_aload_n hx hb dX7_fitsLog_46 rfl (lv_at hl 3 rfl) ?_
          refine gf_X7_26 C hs rfl dX7_fitsLog_47 ?_
          refine lv_iload hx hb dX7_fitsLog_50 (lv_at hl 1 rfl) ?_
          refine lv_iload hx hb dX7_fitsLog_52 (lv_at hl 0 rfl) ?_
          refine lv_iload_n hx hb dX7_fitsLog_54 rfl (lv_at hl 4 rfl) ?_
          obtain ⟨r_4, hc, hf⟩ := cb_bp_inv hf
          refine cb_callVi C (c_X6_byRule cb_tb9 hc) mw_X6_byRule ml_X7_353 rfl ⟨Nat.le_of_ble_eq_true rfl, Nat.le_of_ble_eq_true rfl⟩ cb_tb9.1 (Nat.le_of_ble_eq_true rfl) rfl hs hl rfl (Nat.le_of_ble_eq_true rfl) dX7_fitsLog_55 (fun H locs hs => ?_)
          clear hc
          refine lv_iload_n hx hb dX7_fitsLog_58 rfl (lv_at hl 2 rfl) ?_
          obtain ⟨r_5, hc, hf⟩ := cb_bp_inv hf
          refine cb_callSi C (c_X4_outcomeIn  hc) mw_X4_outcomeIn ml_X7_188 rfl ⟨Nat.le_of_ble_eq_true rfl, Nat.le_of_ble_eq_true rfl⟩ hs hl rfl (Nat.le_of_ble_eq_true rfl) dX7_fitsLog_59 (fun H locs hs => ?_)
          clear hc
          refine lv_icmp_eq (tgt := 67) hx hb dX7_fitsLog_62 (by decide) (fun cn => ?_) (fun cn => ?_)
          · replace hf := cb_ifp cn hf
            exact w_X7_fitsLog_67 C ih hf hs (lv_sub hl [3, 4, 5] rfl)
          · replace hf := cb_ifn cn hf
            refine lv_iconst (v := 0) hx hb dX7_fitsLog_65 (by decide) ?_
            have hf := Option.some.inj hf
            subst hf
            exact cb_retz C hs (Or.inl rfl) dX7_fitsLog_66
def f_X7_fitsLog (x1 : Int32) (σ : cb_St)  : Option (Int32) := f_X7_fitsLog_2 x1 σ cb_fu 0
set_option maxHeartbeats 4000000 in
set_option maxRecDepth 100000 in
theorem c_X7_fitsLog {x1 : Int32} {σ : cb_St}   {o : Int32} (hf : f_X7_fitsLog x1 σ = some o) : cb_M l yX7_fitsLog cX7_fitsLog 6 (some .boolean) 4 shC A T D σ [.ref (A 0), .int x1] (some (.int o)) σ := by
  refine cb_met (by decide +kernel) (Nat.le_of_ble_eq_true rfl) ?_
  intro p e s m below meth c C hs ls hl
  have hl : lv_has ls 6 [(0, .ref (A 0)), (1, .int x1)] := hl
  obtain ⟨hx, hb, hml, hr, hown, hts, hK, hlk, hN⟩ := id C
  unfold f_X7_fitsLog at hf
  refine lv_iconst (v := 0) hx hb dX7_fitsLog_0 (by decide) ?_
  refine lv_istore_n (lv' := [(2, .int 0), (0, .ref (A 0)), (1, .int x1)]) hx hb dX7_fitsLog_1 rfl hl (by decide) rfl (fun ls hl => ?_)
  exact w_X7_fitsLog_2 C  cb_fu _ hf _ _ _ hs (lv_sub hl [1, 2, 0] rfl)
/-! ===== CardBecome.force ===== -/
def f_X7_force (x1 : Int32) (σ : cb_St) : Option (Int32 × cb_St) := cb_bp (f_X6_hasCard 9 x1 σ) (fun r_1 => if r_1 = 0 then (some ((-1000000001), σ)) else (cb_bp (f_X4_placeOf 13 x1 σ) (fun r_2 => if r_2 = (-1) then (some ((-1000000003), σ)) else (cb_bv (f_X3_push σ) (fun σ_3 => cb_bv (f_X4_raise 13 r_2 σ_3) (fun σ_4 => some (r_2, σ_4)))))))
set_option maxHeartbeats 4000000 in
set_option maxRecDepth 100000 in
theorem c_X7_force {x1 : Int32}  {σ : cb_St} {o : Int32 × cb_St} (hf : f_X7_force x1 σ = some o) : cb_M l yX7_force cX7_force 3 (some .int) 3 shC A T D σ [.ref (A 0), .int x1] (some (.int o.1)) o.2 := by
  refine cb_met (by decide +kernel) (Nat.le_of_ble_eq_true rfl) ?_
  intro p e s m below meth c C hs ls hl
  have hl : lv_has ls 3 [(0, .ref (A 0)), (1, .int x1)] := hl
  obtain ⟨hx, hb, hml, hr, hown, hts, hK, hlk, hN⟩ := id C
  unfold f_X7_force at hf
  refine lv_aload_n hx hb dX7_force_0 rfl (lv_at hl 0 rfl) ?_
  refine gf_X7_26 C hs rfl dX7_force_1 ?_
  refine lv_iload_n hx hb dX7_force_4 rfl (lv_at hl 1 rfl) ?_
  obtain ⟨r_1, hc, hf⟩ := cb_bp_inv hf
  refine cb_callVi C (c_X6_hasCard cb_tb9 hc) mw_X6_hasCard ml_X7_147 rfl ⟨Nat.le_of_ble_eq_true rfl, Nat.le_of_ble_eq_true rfl⟩ cb_tb9.1 (Nat.le_of_ble_eq_true rfl) rfl hs hl rfl (Nat.le_of_ble_eq_true rfl) dX7_force_5 (fun H locs hs => ?_)
  clear hc
  refine lv_if_ne (tgt := 14) hx hb dX7_force_8 (by decide) (fun cn => ?_) (fun cn => ?_)
  · replace hf := cb_ifn cn hf
    refine lv_aload_n hx hb dX7_force_14 rfl (lv_at hl 0 rfl) ?_
    refine gf_X7_33 C hs rfl dX7_force_15 ?_
    refine lv_iload_n hx hb dX7_force_18 rfl (lv_at hl 1 rfl) ?_
    obtain ⟨r_2, hc, hf⟩ := cb_bp_inv hf
    refine cb_callVi C (c_X4_placeOf cb_pl13 hc) mw_X4_placeOf ml_X7_158 rfl ⟨Nat.le_of_ble_eq_true rfl, Nat.le_of_ble_eq_true rfl⟩ cb_pl13.1 (Nat.le_of_ble_eq_true rfl) rfl hs hl rfl (Nat.le_of_ble_eq_true rfl) dX7_force_19 (fun H locs hs => ?_)
    clear hc
    refine lv_istore_n (lv' := [(2, .int r_2), (0, .ref (A 0)), (1, .int x1)]) hx hb dX7_force_22 rfl hl (by decide) rfl (fun ls hl => ?_)
    refine lv_iload_n hx hb dX7_force_23 rfl (lv_at hl 0 rfl) ?_
    refine lv_iconst (v := (-1)) hx hb dX7_force_24 (by decide) ?_
    refine lv_icmp_ne (tgt := 31) hx hb dX7_force_25 (by decide) (fun cn => ?_) (fun cn => ?_)
    · replace hf := cb_ifn cn hf
      refine lv_aload_n hx hb dX7_force_31 rfl (lv_at hl 1 rfl) ?_
      refine gf_X7_40 C hs rfl dX7_force_32 ?_
      refine lv_aload_n hx hb dX7_force_35 rfl (lv_at hl 1 rfl) ?_
      refine gf_X7_33 C hs rfl dX7_force_36 ?_
      obtain ⟨σ_3, hc, hf⟩ := cb_bv_inv hf
      refine cb_callVv C (c_X3_push  hc) mw_X3_push ml_X7_199 rfl ⟨Nat.le_of_ble_eq_true rfl, Nat.le_of_ble_eq_true rfl⟩ rfl (Nat.le_of_ble_eq_true rfl) rfl hs hl rfl (Nat.le_of_ble_eq_true rfl) dX7_force_39 (fun H locs hs => ?_)
      clear hc
      refine lv_aload_n hx hb dX7_force_42 rfl (lv_at hl 1 rfl) ?_
      refine gf_X7_33 C hs rfl dX7_force_43 ?_
      refine lv_iload_n hx hb dX7_force_46 rfl (lv_at hl 0 rfl) ?_
      obtain ⟨σ_4, hc, hf⟩ := cb_bv_inv hf
      refine cb_callVv C (c_X4_raise cb_pl13 hc) mw_X4_raise ml_X7_217 rfl ⟨Nat.le_of_ble_eq_true rfl, Nat.le_of_ble_eq_true rfl⟩ cb_pl13.1 (Nat.le_of_ble_eq_true rfl) rfl hs hl rfl (Nat.le_of_ble_eq_true rfl) dX7_force_47 (fun H locs hs => ?_)
      clear hc
      refine lv_iload_n hx hb dX7_force_50 rfl (lv_at hl 0 rfl) ?_
      have hf := Option.some.inj hf
      subst hf
      exact cb_reti C hs dX7_force_51
    · replace hf := cb_ifp cn hf
      refine lv_ldc (v := (-1000000003)) hx hb hown (hts _ kc_X7_198) dX7_force_28 ?_
      have hf := Option.some.inj hf
      subst hf
      exact cb_reti C hs dX7_force_30
  · replace hf := cb_ifp cn hf
    refine lv_ldc (v := (-1000000001)) hx hb hown (hts _ kc_X7_150) dX7_force_11 ?_
    have hf := Option.some.inj hf
    subst hf
    exact cb_reti C hs dX7_force_13
/-! ===== CardBecome.getBack ===== -/
def f_X7_getBack (x1 : Int32) (σ : cb_St) : Option (Int32 × cb_St) := cb_bp (f_X6_hasPerson 9 x1 σ) (fun r_1 => if r_1 = 0 then (some ((-1000000001), σ)) else (cb_bp (f_X4_cardOf 13 x1 σ) (fun r_2 => if r_2 = (-1) then (some ((-1000000003), σ)) else (cb_bv (f_X3_push σ) (fun σ_3 => cb_bi (f_X4_giveBack 13 x1 σ_3) (fun r_4 σ_5 => some (r_4, σ_5)))))))
set_option maxHeartbeats 4000000 in
set_option maxRecDepth 100000 in
theorem c_X7_getBack {x1 : Int32}  {σ : cb_St} {o : Int32 × cb_St} (hf : f_X7_getBack x1 σ = some o) : cb_M l yX7_getBack cX7_getBack 2 (some .int) 5 shC A T D σ [.ref (A 0), .int x1] (some (.int o.1)) o.2 := by
  refine cb_met (by decide +kernel) (Nat.le_of_ble_eq_true rfl) ?_
  intro p e s m below meth c C hs ls hl
  have hl : lv_has ls 2 [(0, .ref (A 0)), (1, .int x1)] := hl
  obtain ⟨hx, hb, hml, hr, hown, hts, hK, hlk, hN⟩ := id C
  unfold f_X7_getBack at hf
  refine lv_aload_n hx hb dX7_getBack_0 rfl (lv_at hl 0 rfl) ?_
  refine gf_X7_26 C hs rfl dX7_getBack_1 ?_
  refine lv_iload_n hx hb dX7_getBack_4 rfl (lv_at hl 1 rfl) ?_
  obtain ⟨r_1, hc, hf⟩ := cb_bp_inv hf
  refine cb_callVi C (c_X6_hasPerson cb_tb9 hc) mw_X6_hasPerson ml_X7_167 rfl ⟨Nat.le_of_ble_eq_true rfl, Nat.le_of_ble_eq_true rfl⟩ cb_tb9.1 (Nat.le_of_ble_eq_true rfl) rfl hs hl rfl (Nat.le_of_ble_eq_true rfl) dX7_getBack_5 (fun H locs hs => ?_)
  clear hc
  refine lv_if_ne (tgt := 14) hx hb dX7_getBack_8 (by decide) (fun cn => ?_) (fun cn => ?_)
  · replace hf := cb_ifn cn hf
    refine lv_aload_n hx hb dX7_getBack_14 rfl (lv_at hl 0 rfl) ?_
    refine gf_X7_33 C hs rfl dX7_getBack_15 ?_
    refine lv_iload_n hx hb dX7_getBack_18 rfl (lv_at hl 1 rfl) ?_
    obtain ⟨r_2, hc, hf⟩ := cb_bp_inv hf
    refine cb_callVi C (c_X4_cardOf cb_pl13 hc) mw_X4_cardOf ml_X7_170 rfl ⟨Nat.le_of_ble_eq_true rfl, Nat.le_of_ble_eq_true rfl⟩ cb_pl13.1 (Nat.le_of_ble_eq_true rfl) rfl hs hl rfl (Nat.le_of_ble_eq_true rfl) dX7_getBack_19 (fun H locs hs => ?_)
    clear hc
    refine lv_iconst (v := (-1)) hx hb dX7_getBack_22 (by decide) ?_
    refine lv_icmp_ne (tgt := 29) hx hb dX7_getBack_23 (by decide) (fun cn => ?_) (fun cn => ?_)
    · replace hf := cb_ifn cn hf
      refine lv_aload_n hx hb dX7_getBack_29 rfl (lv_at hl 0 rfl) ?_
      refine gf_X7_40 C hs rfl dX7_getBack_30 ?_
      refine lv_aload_n hx hb dX7_getBack_33 rfl (lv_at hl 0 rfl) ?_
      refine gf_X7_33 C hs rfl dX7_getBack_34 ?_
      obtain ⟨σ_3, hc, hf⟩ := cb_bv_inv hf
      refine cb_callVv C (c_X3_push  hc) mw_X3_push ml_X7_199 rfl ⟨Nat.le_of_ble_eq_true rfl, Nat.le_of_ble_eq_true rfl⟩ rfl (Nat.le_of_ble_eq_true rfl) rfl hs hl rfl (Nat.le_of_ble_eq_true rfl) dX7_getBack_37 (fun H locs hs => ?_)
      clear hc
      refine lv_aload_n hx hb dX7_getBack_40 rfl (lv_at hl 0 rfl) ?_
      refine gf_X7_33 C hs rfl dX7_getBack_41 ?_
      refine lv_iload_n hx hb dX7_getBack_44 rfl (lv_at hl 1 rfl) ?_
      obtain ⟨r_4, σ_5, hc, hf⟩ := cb_bi_inv hf
      refine cb_callVi C (c_X4_giveBack cb_pl13 hc) mw_X4_giveBack ml_X7_206 rfl ⟨Nat.le_of_ble_eq_true rfl, Nat.le_of_ble_eq_true rfl⟩ cb_pl13.1 (Nat.le_of_ble_eq_true rfl) rfl hs hl rfl (Nat.le_of_ble_eq_true rfl) dX7_getBack_45 (fun H locs hs => ?_)
      clear hc
      have hf := Option.some.inj hf
      subst hf
      exact cb_reti C hs dX7_getBack_48
    · replace hf := cb_ifp cn hf
      refine lv_ldc (v := (-1000000003)) hx hb hown (hts _ kc_X7_198) dX7_getBack_26 ?_
      have hf := Option.some.inj hf
      subst hf
      exact cb_reti C hs dX7_getBack_28
  · replace hf := cb_ifp cn hf
    refine lv_ldc (v := (-1000000001)) hx hb hown (hts _ kc_X7_150) dX7_getBack_11 ?_
    have hf := Option.some.inj hf
    subst hf
    exact cb_reti C hs dX7_getBack_13
/-! ===== CardBecome.goBack ===== -/
def f_X7_goBack_9 (x1 : Int32) (σ : cb_St) : Option (Int32 × cb_St) := some ((-1000000001), σ)
set_option maxHeartbeats 4000000 in
set_option maxRecDepth 100000 in
theorem w_X7_goBack_9 (C : cb_C p s m args meth c cX7_goBack 2 (some .int) RX7 D T) {x1 : Int32} {o : Int32 × cb_St}  {σ : cb_St} (hf : f_X7_goBack_9 x1 σ = some o) {H : Heap} {locs : List Loc} {ls : Array Slot} (hs : cb_H shC A T D σ s.heap H locs) (hl : lv_has ls 2 [(0, .ref (A 0)), (1, .int x1)]) : cb_W p l e 2 s m args below meth c shC A T D (some (.int o.1)) o.2 H locs (F0 m 9 ls []) := by
  obtain ⟨hx, hb, hml, hr, hown, hts, hK, hlk, hN⟩ := id C
  unfold f_X7_goBack_9 at hf
  refine lv_ldc (v := (-1000000001)) hx hb hown (hts _ kc_X7_150) dX7_goBack_9 ?_
  have hf := Option.some.inj hf
  subst hf
  exact cb_reti C hs dX7_goBack_11
def f_X7_goBack (x1 : Int32) (σ : cb_St) : Option (Int32 × cb_St) := if x1 < 0 then (f_X7_goBack_9 x1 σ) else (if x1 < 2 then (cb_ck (0 ≤ Int32.toInt x1 ∧ Int32.toInt x1 < 2) (if (σ.1 (111 + 1 + 6 * Int32.toNatClampNeg x1) 0) = 0 then (some ((-1000000003), σ)) else (cb_ck (0 ≤ Int32.toInt x1 ∧ Int32.toInt x1 < 2) (cb_bv (f_X4_become 13 (111 + 1 + 6 * Int32.toNatClampNeg x1 + 1) σ) (fun σ_3 => cb_ck (0 ≤ Int32.toInt x1 ∧ Int32.toInt x1 < 2) (cb_let (cb_sI σ_3 0 0 (σ_3.1 (111 + 1 + 6 * Int32.toNatClampNeg x1) 1)) (fun σ_5 => cb_bv (f_X3_forget σ_5) (fun σ_6 => some (1, σ_6))))))))) else (f_X7_goBack_9 x1 σ))
set_option maxHeartbeats 4000000 in
set_option maxRecDepth 100000 in
theorem c_X7_goBack {x1 : Int32}  {σ : cb_St} {o : Int32 × cb_St} (hf : f_X7_goBack x1 σ = some o) : cb_M l yX7_goBack cX7_goBack 2 (some .int) 2 shC A T D σ [.ref (A 0), .int x1] (some (.int o.1)) o.2 := by
  refine cb_met (by decide +kernel) (Nat.le_of_ble_eq_true rfl) ?_
  intro p e s m below meth c C hs ls hl
  have hl : lv_has ls 2 [(0, .ref (A 0)), (1, .int x1)] := hl
  obtain ⟨hx, hb, hml, hr, hown, hts, hK, hlk, hN⟩ := id C
  unfold f_X7_goBack at hf
  refine lv_iload_n hx hb dX7_goBack_0 rfl (lv_at hl 1 rfl) ?_
  refine lv_if_lt (tgt := 9) hx hb dX7_goBack_1 (by decide) (fun cn => ?_) (fun cn => ?_)
  · replace hf := cb_ifp cn hf
    exact w_X7_goBack_9 C  hf hs (lv_sub hl [0, 1] rfl)
  · replace hf := cb_ifn cn hf
    refine lv_iload_n hx hb dX7_goBack_4 rfl (lv_at hl 1 rfl) ?_
    refine lv_iconst (v := 2) hx hb dX7_goBack_5 (by decide) ?_
    refine lv_icmp_lt (tgt := 12) hx hb dX7_goBack_6 (by decide) (fun cn => ?_) (fun cn => ?_)
    · replace hf := cb_ifp cn hf
      refine lv_aload_n hx hb dX7_goBack_12 rfl (lv_at hl 0 rfl) ?_
      refine gf_X7_60 C hs rfl dX7_goBack_13 ?_
      refine lv_iload_n hx hb dX7_goBack_16 rfl (lv_at hl 1 rfl) ?_
      obtain ⟨hc, hf⟩ := cb_ck_inv hf
      refine cb_aald (w := 111 + 1 + 6 * Int32.toNatClampNeg x1) (C0 := 2) C hs rfl rfl rfl (vp_in_iff.mpr hc) rfl dX7_goBack_17 ?_
      have hq_1 := cb_imI (vp_in_iff.mpr hc)
      refine gf_X7_101 C hs hq_1.1 dX7_goBack_18 ?_
      refine lv_if_ne (tgt := 27) hx hb dX7_goBack_21 (by decide) (fun cn => ?_) (fun cn => ?_)
      · replace hf := cb_ifn cn hf
        refine lv_aload_n hx hb dX7_goBack_27 rfl (lv_at hl 0 rfl) ?_
        refine gf_X7_33 C hs rfl dX7_goBack_28 ?_
        refine lv_aload_n hx hb dX7_goBack_31 rfl (lv_at hl 0 rfl) ?_
        refine gf_X7_60 C hs rfl dX7_goBack_32 ?_
        refine lv_iload_n hx hb dX7_goBack_35 rfl (lv_at hl 1 rfl) ?_
        obtain ⟨hc, hf⟩ := cb_ck_inv hf
        refine cb_aald (w := 111 + 1 + 6 * Int32.toNatClampNeg x1) (C0 := 2) C hs rfl rfl rfl (vp_in_iff.mpr hc) rfl dX7_goBack_36 ?_
        have hq_2 := cb_imI (vp_in_iff.mpr hc)
        refine gf_X7_307 C hs hq_2.1 dX7_goBack_37 ?_
        obtain ⟨σ_3, hc, hf⟩ := cb_bv_inv hf
        refine cb_callVv C (c_X4_become cb_pl13 hq_2.2 hc) mw_X4_become ml_X7_310 rfl ⟨Nat.le_of_ble_eq_true rfl, Nat.le_of_ble_eq_true rfl⟩ cb_pl13.1 (Nat.le_of_ble_eq_true rfl) rfl hs hl rfl (Nat.le_of_ble_eq_true rfl) dX7_goBack_40 (fun H locs hs => ?_)
        clear hc
        refine lv_aload_n hx hb dX7_goBack_43 rfl (lv_at hl 0 rfl) ?_
        refine lv_aload_n hx hb dX7_goBack_44 rfl (lv_at hl 0 rfl) ?_
        refine gf_X7_60 C hs rfl dX7_goBack_45 ?_
        refine lv_iload_n hx hb dX7_goBack_48 rfl (lv_at hl 1 rfl) ?_
        obtain ⟨hc, hf⟩ := cb_ck_inv hf
        refine cb_aald (w := 111 + 1 + 6 * Int32.toNatClampNeg x1) (C0 := 2) C hs rfl rfl rfl (vp_in_iff.mpr hc) rfl dX7_goBack_49 ?_
        have hq_4 := cb_imI (vp_in_iff.mpr hc)
        refine gf_X7_312 C hs hq_4.1 dX7_goBack_50 ?_
        refine pf_X7_304 C hs rfl dX7_goBack_53 (fun H locs hs => ?_)
        obtain ⟨σ_5, e9, hf⟩ := cb_let_inv hf
        replace hs := cb_Hc e9 hs
        clear e9
        refine lv_aload_n hx hb dX7_goBack_56 rfl (lv_at hl 0 rfl) ?_
        refine gf_X7_40 C hs rfl dX7_goBack_57 ?_
        obtain ⟨σ_6, hc, hf⟩ := cb_bv_inv hf
        refine cb_callVv C (c_X3_forget  hc) mw_X3_forget ml_X7_98 rfl ⟨Nat.le_of_ble_eq_true rfl, Nat.le_of_ble_eq_true rfl⟩ rfl (Nat.le_of_ble_eq_true rfl) rfl hs hl rfl (Nat.le_of_ble_eq_true rfl) dX7_goBack_60 (fun H locs hs => ?_)
        clear hc
        refine lv_iconst (v := 1) hx hb dX7_goBack_63 (by decide) ?_
        have hf := Option.some.inj hf
        subst hf
        exact cb_reti C hs dX7_goBack_64
      · replace hf := cb_ifp cn hf
        refine lv_ldc (v := (-1000000003)) hx hb hown (hts _ kc_X7_198) dX7_goBack_24 ?_
        have hf := Option.some.inj hf
        subst hf
        exact cb_reti C hs dX7_goBack_26
    · replace hf := cb_ifn cn hf
      exact w_X7_goBack_9 C  hf hs (lv_sub hl [0, 1] rfl)
/-! ===== CardBecome.greatestPart ===== -/
def f_X7_greatestPart_68 (K12 : Int32 → Int32 → Int32 → Int32 → Option (Int32)) (x1 : Int32) (x2 : Int32) (x3 : Int32) (σ : cb_St) (x4 : Int32) (x5 : Int32) (x6 : Int32) (x7 : Int32) : Option (Int32) := cb_let (x7 + 1) (fun x7_0 => K12 x4 x5 x6 x7_0)
set_option maxHeartbeats 4000000 in
set_option maxRecDepth 100000 in
theorem w_X7_greatestPart_68 (C : cb_C p s m args meth c cX7_greatestPart 9 (some .int) RX7 D T) {K12 : Int32 → Int32 → Int32 → Int32 → Option (Int32)} {x1 : Int32} {x2 : Int32} {x3 : Int32} {σ : cb_St} {o : Int32} (hK12 : ∀ (x4 : Int32) (x5 : Int32) (x6 : Int32) (x7 : Int32), K12 x4 x5 x6 x7 = some o → ∀ (H : Heap) (locs : List Loc) (ls : Array Slot), cb_H shC A T D σ s.heap H locs → lv_has ls 9 [(0, .ref (A 0)), (1, .int x1), (2, .int x2), (3, .int x3), (4, .int x4), (5, .int x5), (6, .int x6), (7, .int x7)] → cb_W p l e 4 s m args below meth c shC A T D (some (.int o)) σ H locs (F0 m 12 ls [])) {x4 : Int32} {x5 : Int32} {x6 : Int32} {x7 : Int32} (hf : f_X7_greatestPart_68 K12 x1 x2 x3 σ x4 x5 x6 x7 = some o) {H : Heap} {locs : List Loc} {ls : Array Slot} (hs : cb_H shC A T D σ s.heap H locs) (hl : lv_has ls 9 [(0, .ref (A 0)), (1, .int x1), (2, .int x2), (3, .int x3), (4, .int x4), (5, .int x5), (6, .int x6), (7, .int x7)]) : cb_W p l e 4 s m args below meth c shC A T D (some (.int o)) σ H locs (F0 m 68 ls []) := by
  obtain ⟨hx, hb, hml, hr, hown, hts, hK, hlk, hN⟩ := id C
  unfold f_X7_greatestPart_68 at hf
  obtain ⟨x7_0, e9, hf⟩ := cb_let_inv hf
  refine lv_iinc (v := x7_0) (lv' := [(7, .int x7_0), (0, .ref (A 0)), (1, .int x1), (2, .int x2), (3, .int x3), (4, .int x4), (5, .int x5), (6, .int x6)]) hx hb dX7_greatestPart_68 hl (k := 7) rfl (by rw [e9]; rfl) (by decide) rfl (fun ls hl => ?_)
  clear e9
  refine lv_goto (tgt := 12) hx hb dX7_greatestPart_71 (by decide) ?_
  exact hK12 _ _ _ _ hf _ _ _ hs (lv_sub hl [1, 2, 3, 4, 5, 6, 7, 0] rfl)
def f_X7_greatestPart_12 (x1 : Int32) (x2 : Int32) (x3 : Int32) (σ : cb_St) : Nat → Int32 → Int32 → Int32 → Int32 → Option (Int32)
  | 0, _, _, _, _ => none
  | fu + 1, x4, x5, x6, x7 => if 10 ≤ x7 then (cb_bp (f_J9_max_7cf53 x5 x6 σ) (fun r_1 => cb_bp (f_J9_max_7cf53 x4 r_1 σ) (fun r_2 => some r_2))) else (if ((x3 >>> (x7 &&& 31)) &&& 1) = 1 then (cb_bp (f_X6_byRule 9 x1 x2 x7 σ) (fun r_3 => if r_3 = 0 then (cb_let (x4 + 1) (fun x4_5 => f_X7_greatestPart_68 (f_X7_greatestPart_12 x1 x2 x3 σ fu) x1 x2 x3 σ x4_5 x5 x6 x7)) else (if r_3 = 1 then (cb_let (x5 + 1) (fun x5_4 => f_X7_greatestPart_68 (f_X7_greatestPart_12 x1 x2 x3 σ fu) x1 x2 x3 σ x4 x5_4 x6 x7)) else (cb_let (x6 + 1) (fun x6_3 => f_X7_greatestPart_68 (f_X7_greatestPart_12 x1 x2 x3 σ fu) x1 x2 x3 σ x4 x5 x6_3 x7))))) else (f_X7_greatestPart_68 (f_X7_greatestPart_12 x1 x2 x3 σ fu) x1 x2 x3 σ x4 x5 x6 x7))
set_option maxHeartbeats 4000000 in
set_option maxRecDepth 100000 in
theorem w_X7_greatestPart_12 (C : cb_C p s m args meth c cX7_greatestPart 9 (some .int) RX7 D T) {x1 : Int32} {x2 : Int32} {x3 : Int32} {σ : cb_St} {o : Int32}  : ∀ (fu : Nat) (x4 : Int32) (x5 : Int32) (x6 : Int32) (x7 : Int32), f_X7_greatestPart_12 x1 x2 x3 σ fu x4 x5 x6 x7 = some o → ∀ (H : Heap) (locs : List Loc) (ls : Array Slot), cb_H shC A T D σ s.heap H locs → lv_has ls 9 [(0, .ref (A 0)), (1, .int x1), (2, .int x2), (3, .int x3), (4, .int x4), (5, .int x5), (6, .int x6), (7, .int x7)] → cb_W p l e 4 s m args below meth c shC A T D (some (.int o)) σ H locs (F0 m 12 ls []) := by
  obtain ⟨hx, hb, hml, hr, hown, hts, hK, hlk, hN⟩ := id C
  intro fu
  induction fu with
  | zero =>
    intro x4 x5 x6 x7 hf
    rw [f_X7_greatestPart_12] at hf
    cases hf
  | succ fu ih =>
    intro x4 x5 x6 x7 hf H locs ls hs hl
    rw [f_X7_greatestPart_12] at hf
    refine lv_iload hx hb dX7_greatestPart_12 (lv_at hl 7 rfl) ?_
    refine lv_bipush (v := 10) hx hb dX7_greatestPart_14 (by decide) ?_
    refine lv_icmp_ge (tgt := 74) hx hb dX7_greatestPart_16 (by decide) (fun cn => ?_) (fun cn => ?_)
    · replace hf := cb_ifp cn hf
      refine lv_iload hx hb dX7_greatestPart_74 (lv_at hl 4 rfl) ?_
      refine lv_iload hx hb dX7_greatestPart_76 (lv_at hl 5 rfl) ?_
      refine lv_iload hx hb dX7_greatestPart_78 (lv_at hl 6 rfl) ?_
      obtain ⟨r_1, hc, hf⟩ := cb_bp_inv hf
      refine cb_callSi C (c_J9_max_7cf53  hc) mw_J9_max_7cf53 ml_X7_356 rfl ⟨Nat.le_of_ble_eq_true rfl, Nat.le_of_ble_eq_true rfl⟩ hs hl rfl (Nat.le_of_ble_eq_true rfl) dX7_greatestPart_80 (fun H locs hs => ?_)
      clear hc
      obtain ⟨r_2, hc, hf⟩ := cb_bp_inv hf
      refine cb_callSi C (c_J9_max_7cf53  hc) mw_J9_max_7cf53 ml_X7_356 rfl ⟨Nat.le_of_ble_eq_true rfl, Nat.le_of_ble_eq_true rfl⟩ hs hl rfl (Nat.le_of_ble_eq_true rfl) dX7_greatestPart_83 (fun H locs hs => ?_)
      clear hc
      have hf := Option.some.inj hf
      subst hf
      exact cb_reti C hs dX7_greatestPart_86
    · replace hf := cb_ifn cn hf
      refine lv_iload_n hx hb dX7_greatestPart_19 rfl (lv_at hl 3 rfl) ?_
      refine lv_iload hx hb dX7_greatestPart_20 (lv_at hl 7 rfl) ?_
      refine lv_ishr hx hb dX7_greatestPart_22 ?_
      refine lv_iconst (v := 1) hx hb dX7_greatestPart_23 (by decide) ?_
      refine lv_iand hx hb dX7_greatestPart_24 ?_
      refine lv_iconst (v := 1) hx hb dX7_greatestPart_25 (by decide) ?_
      refine lv_icmp_ne (tgt := 68) hx hb dX7_greatestPart_26 (by decide) (fun cn => ?_) (fun cn => ?_)
      · replace hf := cb_ifn cn hf
        exact w_X7_greatestPart_68 C ih hf hs (lv_sub hl [0, 1, 2, 3, 4, 5, 6, 7] rfl)
      · replace hf := cb_ifp cn hf
        refine lv_aload_n hx hb dX7_greatestPart_29 rfl (lv_at hl 0 rfl) ?_
        refine gf_X7_26 C hs rfl dX7_greatestPart_30 ?_
        refine lv_iload_n hx hb dX7_greatestPart_33 rfl (lv_at hl 1 rfl) ?_
        refine lv_iload_n hx hb dX7_greatestPart_34 rfl (lv_at hl 2 rfl) ?_
        refine lv_iload hx hb dX7_greatestPart_35 (lv_at hl 7 rfl) ?_
        obtain ⟨r_3, hc, hf⟩ := cb_bp_inv hf
        refine cb_callVi C (c_X6_byRule cb_tb9 hc) mw_X6_byRule ml_X7_353 rfl ⟨Nat.le_of_ble_eq_true rfl, Nat.le_of_ble_eq_true rfl⟩ cb_tb9.1 (Nat.le_of_ble_eq_true rfl) rfl hs hl rfl (Nat.le_of_ble_eq_true rfl) dX7_greatestPart_37 (fun H locs hs => ?_)
        clear hc
        refine lv_istore (lv' := [(8, .int r_3), (0, .ref (A 0)), (1, .int x1), (2, .int x2), (3, .int x3), (4, .int x4), (5, .int x5), (6, .int x6), (7, .int x7)]) hx hb dX7_greatestPart_40 hl (by decide) rfl (fun ls hl => ?_)
        refine lv_iload hx hb dX7_greatestPart_42 (lv_at hl 0 rfl) ?_
        refine lv_if_ne (tgt := 53) hx hb dX7_greatestPart_44 (by decide) (fun cn => ?_) (fun cn => ?_)
        · replace hf := cb_ifn cn hf
          refine lv_iload hx hb dX7_greatestPart_53 (lv_at hl 0 rfl) ?_
          refine lv_iconst (v := 1) hx hb dX7_greatestPart_55 (by decide) ?_
          refine lv_icmp_ne (tgt := 65) hx hb dX7_greatestPart_56 (by decide) (fun cn => ?_) (fun cn => ?_)
          · replace hf := cb_ifn cn hf
            obtain ⟨x6_3, e9, hf⟩ := cb_let_inv hf
            refine lv_iinc (v := x6_3) (lv' := [(6, .int x6_3), (8, .int r_3), (0, .ref (A 0)), (1, .int x1), (2, .int x2), (3, .int x3), (4, .int x4), (5, .int x5), (7, .int x7)]) hx hb dX7_greatestPart_65 hl (k := 7) rfl (by rw [e9]; rfl) (by decide) rfl (fun ls hl => ?_)
            clear e9
            exact w_X7_greatestPart_68 C ih hf hs (lv_sub hl [2, 3, 4, 5, 6, 7, 0, 8] rfl)
          · replace hf := cb_ifp cn hf
            obtain ⟨x5_4, e9, hf⟩ := cb_let_inv hf
            refine lv_iinc (v := x5_4) (lv' := [(5, .int x5_4), (8, .int r_3), (0, .ref (A 0)), (1, .int x1), (2, .int x2), (3, .int x3), (4, .int x4), (6, .int x6), (7, .int x7)]) hx hb dX7_greatestPart_59 hl (k := 6) rfl (by rw [e9]; rfl) (by decide) rfl (fun ls hl => ?_)
            clear e9
            refine lv_goto (tgt := 68) hx hb dX7_greatestPart_62 (by decide) ?_
            exact w_X7_greatestPart_68 C ih hf hs (lv_sub hl [2, 3, 4, 5, 6, 0, 7, 8] rfl)
        · replace hf := cb_ifp cn hf
          obtain ⟨x4_5, e9, hf⟩ := cb_let_inv hf
          refine lv_iinc (v := x4_5) (lv' := [(4, .int x4_5), (8, .int r_3), (0, .ref (A 0)), (1, .int x1), (2, .int x2), (3, .int x3), (5, .int x5), (6, .int x6), (7, .int x7)]) hx hb dX7_greatestPart_47 hl (k := 5) rfl (by rw [e9]; rfl) (by decide) rfl (fun ls hl => ?_)
          clear e9
          refine lv_goto (tgt := 68) hx hb dX7_greatestPart_50 (by decide) ?_
          exact w_X7_greatestPart_68 C ih hf hs (lv_sub hl [2, 3, 4, 5, 0, 6, 7, 8] rfl)
def f_X7_greatestPart (x1 : Int32) (x2 : Int32) (x3 : Int32) (σ : cb_St)  : Option (Int32) := f_X7_greatestPart_12 x1 x2 x3 σ cb_fu 0 0 0 0
set_option maxHeartbeats 4000000 in
set_option maxRecDepth 100000 in
theorem c_X7_greatestPart {x1 : Int32} {x2 : Int32} {x3 : Int32} {σ : cb_St}   {o : Int32} (hf : f_X7_greatestPart x1 x2 x3 σ = some o) : cb_M l yX7_greatestPart cX7_greatestPart 9 (some .int) 4 shC A T D σ [.ref (A 0), .int x1, .int x2, .int x3] (some (.int o)) σ := by
  refine cb_met (by decide +kernel) (Nat.le_of_ble_eq_true rfl) ?_
  intro p e s m below meth c C hs ls hl
  have hl : lv_has ls 9 [(0, .ref (A 0)), (1, .int x1), (2, .int x2), (3, .int x3)] := hl
  obtain ⟨hx, hb, hml, hr, hown, hts, hK, hlk, hN⟩ := id C
  unfold f_X7_greatestPart at hf
  refine lv_iconst (v := 0) hx hb dX7_greatestPart_0 (by decide) ?_
  refine lv_istore (lv' := [(4, .int 0), (0, .ref (A 0)), (1, .int x1), (2, .int x2), (3, .int x3)]) hx hb dX7_greatestPart_1 hl (by decide) rfl (fun ls hl => ?_)
  refine lv_iconst (v := 0) hx hb dX7_greatestPart_3 (by decide) ?_
  refine lv_istore (lv' := [(5, .int 0), (4, .int 0), (0, .ref (A 0)), (1, .int x1), (2, .int x2), (3, .int x3)]) hx hb dX7_greatestPart_4 hl (by decide) rfl (fun ls hl => ?_)
  refine lv_iconst (v := 0) hx hb dX7_greatestPart_6 (by decide) ?_
  refine lv_istore (lv' := [(6, .int 0), (5, .int 0), (4, .int 0), (0, .ref (A 0)), (1, .int x1), (2, .int x2), (3, .int x3)]) hx hb dX7_greatestPart_7 hl (by decide) rfl (fun ls hl => ?_)
  refine lv_iconst (v := 0) hx hb dX7_greatestPart_9 (by decide) ?_
  refine lv_istore (lv' := [(7, .int 0), (6, .int 0), (5, .int 0), (4, .int 0), (0, .ref (A 0)), (1, .int x1), (2, .int x2), (3, .int x3)]) hx hb dX7_greatestPart_10 hl (by decide) rfl (fun ls hl => ?_)
  exact w_X7_greatestPart_12 C  cb_fu _ _ _ _ hf _ _ _ hs (lv_sub hl [4, 5, 6, 7, 3, 2, 1, 0] rfl)
/-! ===== CardBecome.heldRules ===== -/
def f_X7_heldRules_24 (K4 : Int32 → Int32 → Option (Int32)) (σ : cb_St) (x1 : Int32) (x2 : Int32) : Option (Int32) := cb_let (x2 + 1) (fun x2_0 => K4 x1 x2_0)
set_option maxHeartbeats 4000000 in
set_option maxRecDepth 100000 in
theorem w_X7_heldRules_24 (C : cb_C p s m args meth c cX7_heldRules 3 (some .int) RX7 D T) {K4 : Int32 → Int32 → Option (Int32)} {σ : cb_St} {o : Int32} (hK4 : ∀ (x1 : Int32) (x2 : Int32), K4 x1 x2 = some o → ∀ (H : Heap) (locs : List Loc) (ls : Array Slot), cb_H shC A T D σ s.heap H locs → lv_has ls 3 [(0, .ref (A 0)), (1, .int x1), (2, .int x2)] → cb_W p l e 5 s m args below meth c shC A T D (some (.int o)) σ H locs (F0 m 4 ls [])) {x1 : Int32} {x2 : Int32} (hf : f_X7_heldRules_24 K4 σ x1 x2 = some o) {H : Heap} {locs : List Loc} {ls : Array Slot} (hs : cb_H shC A T D σ s.heap H locs) (hl : lv_has ls 3 [(0, .ref (A 0)), (1, .int x1), (2, .int x2)]) : cb_W p l e 5 s m args below meth c shC A T D (some (.int o)) σ H locs (F0 m 24 ls []) := by
  obtain ⟨hx, hb, hml, hr, hown, hts, hK, hlk, hN⟩ := id C
  unfold f_X7_heldRules_24 at hf
  obtain ⟨x2_0, e9, hf⟩ := cb_let_inv hf
  refine lv_iinc (v := x2_0) (lv' := [(2, .int x2_0), (0, .ref (A 0)), (1, .int x1)]) hx hb dX7_heldRules_24 hl (k := 2) rfl (by rw [e9]; rfl) (by decide) rfl (fun ls hl => ?_)
  clear e9
  refine lv_goto (tgt := 4) hx hb dX7_heldRules_27 (by decide) ?_
  exact hK4 _ _ hf _ _ _ hs (lv_sub hl [1, 2, 0] rfl)
def f_X7_heldRules_4 (σ : cb_St) : Nat → Int32 → Int32 → Option (Int32)
  | 0, _, _ => none
  | fu + 1, x1, x2 => if 10 ≤ x2 then (some x1) else (cb_bp (f_X7_fitsLog x2 σ) (fun r_1 => if r_1 = 0 then (f_X7_heldRules_24 (f_X7_heldRules_4 σ fu) σ x1 x2) else (cb_let (x1 ||| (1 <<< (x2 &&& 31))) (fun x1_1 => f_X7_heldRules_24 (f_X7_heldRules_4 σ fu) σ x1_1 x2))))
set_option maxHeartbeats 4000000 in
set_option maxRecDepth 100000 in
theorem w_X7_heldRules_4 (C : cb_C p s m args meth c cX7_heldRules 3 (some .int) RX7 D T) {σ : cb_St} {o : Int32}  : ∀ (fu : Nat) (x1 : Int32) (x2 : Int32), f_X7_heldRules_4 σ fu x1 x2 = some o → ∀ (H : Heap) (locs : List Loc) (ls : Array Slot), cb_H shC A T D σ s.heap H locs → lv_has ls 3 [(0, .ref (A 0)), (1, .int x1), (2, .int x2)] → cb_W p l e 5 s m args below meth c shC A T D (some (.int o)) σ H locs (F0 m 4 ls []) := by
  obtain ⟨hx, hb, hml, hr, hown, hts, hK, hlk, hN⟩ := id C
  intro fu
  induction fu with
  | zero =>
    intro x1 x2 hf
    rw [f_X7_heldRules_4] at hf
    cases hf
  | succ fu ih =>
    intro x1 x2 hf H locs ls hs hl
    rw [f_X7_heldRules_4] at hf
    refine lv_iload_n hx hb dX7_heldRules_4 rfl (lv_at hl 2 rfl) ?_
    refine lv_bipush (v := 10) hx hb dX7_heldRules_5 (by decide) ?_
    refine lv_icmp_ge (tgt := 30) hx hb dX7_heldRules_7 (by decide) (fun cn => ?_) (fun cn => ?_)
    · replace hf := cb_ifp cn hf
      refine lv_iload_n hx hb dX7_heldRules_30 rfl (lv_at hl 1 rfl) ?_
      have hf := Option.some.inj hf
      subst hf
      exact cb_reti C hs dX7_heldRules_31
    · replace hf := cb_ifn cn hf
      refine lv_aload_n hx hb dX7_heldRules_10 rfl (lv_at hl 0 rfl) ?_
      refine lv_iload_n hx hb dX7_heldRules_11 rfl (lv_at hl 2 rfl) ?_
      obtain ⟨r_1, hc, hf⟩ := cb_bp_inv hf
      refine cb_callVi C (c_X7_fitsLog  hc) mw_X7_fitsLog ml_X7_344 rfl ⟨Nat.le_of_ble_eq_true rfl, Nat.le_of_ble_eq_true rfl⟩ rfl (Nat.le_of_ble_eq_true rfl) rfl hs hl rfl (Nat.le_of_ble_eq_true rfl) dX7_heldRules_12 (fun H locs hs => ?_)
      clear hc
      refine lv_if_eq (tgt := 24) hx hb dX7_heldRules_15 (by decide) (fun cn => ?_) (fun cn => ?_)
      · replace hf := cb_ifp cn hf
        exact w_X7_heldRules_24 C ih hf hs (lv_sub hl [0, 1, 2] rfl)
      · replace hf := cb_ifn cn hf
        refine lv_iload_n hx hb dX7_heldRules_18 rfl (lv_at hl 1 rfl) ?_
        refine lv_iconst (v := 1) hx hb dX7_heldRules_19 (by decide) ?_
        refine lv_iload_n hx hb dX7_heldRules_20 rfl (lv_at hl 2 rfl) ?_
        refine lv_ishl hx hb dX7_heldRules_21 ?_
        refine lv_ior hx hb dX7_heldRules_22 ?_
        obtain ⟨x1_1, e9, hf⟩ := cb_let_inv hf
        refine cb_topi e9 ?_
        clear e9
        refine lv_istore_n (lv' := [(1, .int x1_1), (0, .ref (A 0)), (2, .int x2)]) hx hb dX7_heldRules_23 rfl hl (by decide) rfl (fun ls hl => ?_)
        exact w_X7_heldRules_24 C ih hf hs (lv_sub hl [1, 0, 2] rfl)
def f_X7_heldRules (σ : cb_St)  : Option (Int32) := f_X7_heldRules_4 σ cb_fu 0 0
set_option maxHeartbeats 4000000 in
set_option maxRecDepth 100000 in
theorem c_X7_heldRules {σ : cb_St}   {o : Int32} (hf : f_X7_heldRules σ = some o) : cb_M l yX7_heldRules cX7_heldRules 3 (some .int) 5 shC A T D σ [.ref (A 0)] (some (.int o)) σ := by
  refine cb_met (by decide +kernel) (Nat.le_of_ble_eq_true rfl) ?_
  intro p e s m below meth c C hs ls hl
  have hl : lv_has ls 3 [(0, .ref (A 0))] := hl
  obtain ⟨hx, hb, hml, hr, hown, hts, hK, hlk, hN⟩ := id C
  unfold f_X7_heldRules at hf
  refine lv_iconst (v := 0) hx hb dX7_heldRules_0 (by decide) ?_
  refine lv_istore_n (lv' := [(1, .int 0), (0, .ref (A 0))]) hx hb dX7_heldRules_1 rfl hl (by decide) rfl (fun ls hl => ?_)
  refine lv_iconst (v := 0) hx hb dX7_heldRules_2 (by decide) ?_
  refine lv_istore_n (lv' := [(2, .int 0), (1, .int 0), (0, .ref (A 0))]) hx hb dX7_heldRules_3 rfl hl (by decide) rfl (fun ls hl => ?_)
  exact w_X7_heldRules_4 C  cb_fu _ _ hf _ _ _ hs (lv_sub hl [2, 1, 0] rfl)
/-! ===== CardBecome.wouldBe ===== -/
def f_X7_wouldBe_10 (x1 : Int32) (σ : cb_St)  : Option (Int32) := some (-1)
set_option maxHeartbeats 4000000 in
set_option maxRecDepth 100000 in
theorem w_X7_wouldBe_10 (C : cb_C p s m args meth c cX7_wouldBe 2 (some .int) RX7 D T) {x1 : Int32} {σ : cb_St} {o : Int32}   (hf : f_X7_wouldBe_10 x1 σ = some o) {H : Heap} {locs : List Loc} {ls : Array Slot} (hs : cb_H shC A T D σ s.heap H locs) (hl : lv_has ls 2 [(0, .ref (A 0)), (1, .int x1)]) : cb_W p l e 1 s m args below meth c shC A T D (some (.int o)) σ H locs (F0 m 10 ls []) := by
  obtain ⟨hx, hb, hml, hr, hown, hts, hK, hlk, hN⟩ := id C
  unfold f_X7_wouldBe_10 at hf
  refine lv_iconst (v := (-1)) hx hb dX7_wouldBe_10 (by decide) ?_
  refine lv_goto (tgt := 20) hx hb dX7_wouldBe_11 (by decide) ?_
  have hf := Option.some.inj hf
  subst hf
  exact cb_reti C hs dX7_wouldBe_20
def f_X7_wouldBe (x1 : Int32) (σ : cb_St)  : Option (Int32) := if x1 < 0 then (f_X7_wouldBe_10 x1 σ) else (if x1 < 6 then (cb_ck (0 ≤ Int32.toInt x1 ∧ Int32.toInt x1 < 6) (some (σ.1 1 (Int32.toNatClampNeg x1)))) else (f_X7_wouldBe_10 x1 σ))
set_option maxHeartbeats 4000000 in
set_option maxRecDepth 100000 in
theorem c_X7_wouldBe {x1 : Int32} {σ : cb_St}   {o : Int32} (hf : f_X7_wouldBe x1 σ = some o) : cb_M l yX7_wouldBe cX7_wouldBe 2 (some .int) 1 shC A T D σ [.ref (A 0), .int x1] (some (.int o)) σ := by
  refine cb_met (by decide +kernel) (Nat.le_of_ble_eq_true rfl) ?_
  intro p e s m below meth c C hs ls hl
  have hl : lv_has ls 2 [(0, .ref (A 0)), (1, .int x1)] := hl
  obtain ⟨hx, hb, hml, hr, hown, hts, hK, hlk, hN⟩ := id C
  unfold f_X7_wouldBe at hf
  refine lv_iload_n hx hb dX7_wouldBe_0 rfl (lv_at hl 1 rfl) ?_
  refine lv_if_lt (tgt := 10) hx hb dX7_wouldBe_1 (by decide) (fun cn => ?_) (fun cn => ?_)
  · replace hf := cb_ifp cn hf
    exact w_X7_wouldBe_10 C  hf hs (lv_sub hl [0, 1] rfl)
  · replace hf := cb_ifn cn hf
    refine lv_iload_n hx hb dX7_wouldBe_4 rfl (lv_at hl 1 rfl) ?_
    refine lv_bipush (v := 6) hx hb dX7_wouldBe_5 (by decide) ?_
    refine lv_icmp_lt (tgt := 14) hx hb dX7_wouldBe_7 (by decide) (fun cn => ?_) (fun cn => ?_)
    · replace hf := cb_ifp cn hf
      refine lv_aload_n hx hb dX7_wouldBe_14 rfl (lv_at hl 0 rfl) ?_
      refine gf_X7_9 C hs rfl dX7_wouldBe_15 ?_
      refine lv_iload_n hx hb dX7_wouldBe_18 rfl (lv_at hl 1 rfl) ?_
      obtain ⟨hc, hf⟩ := cb_ck_inv hf
      refine cb_iald C hs rfl (vp_in_iff.mpr hc) dX7_wouldBe_19 ?_
      have hf := Option.some.inj hf
      subst hf
      exact cb_reti C hs dX7_wouldBe_20
    · replace hf := cb_ifn cn hf
      exact w_X7_wouldBe_10 C  hf hs (lv_sub hl [0, 1] rfl)
/-! ===== CardBecome.isNoHindrance ===== -/
def f_X7_isNoHindrance_90 (K21 : Int32 → Int32 → Int32 → Option (Int32)) (x1 : Int32) (x2 : Int32) (σ : cb_St) (x3 : Int32) (x4 : Int32) (x5 : Int32) : Option (Int32) := cb_let (x5 + 1) (fun x5_0 => K21 x3 x4 x5_0)
set_option maxHeartbeats 4000000 in
set_option maxRecDepth 100000 in
theorem w_X7_isNoHindrance_90 (C : cb_C p s m args meth c cX7_isNoHindrance 7 (some .boolean) RX7 D T) {K21 : Int32 → Int32 → Int32 → Option (Int32)} {x1 : Int32} {x2 : Int32} {σ : cb_St} {o : Int32} (hK21 : ∀ (x3 : Int32) (x4 : Int32) (x5 : Int32), K21 x3 x4 x5 = some o → ∀ (H : Heap) (locs : List Loc) (ls : Array Slot), cb_H shC A T D σ s.heap H locs → lv_has ls 7 [(0, .ref (A 0)), (1, .int x1), (2, .int x2), (3, .int x3), (4, .int x4), (5, .int x5)] → cb_W p l e 3 s m args below meth c shC A T D (some (.int o)) σ H locs (F0 m 21 ls [])) {x3 : Int32} {x4 : Int32} {x5 : Int32} (hf : f_X7_isNoHindrance_90 K21 x1 x2 σ x3 x4 x5 = some o) {H : Heap} {locs : List Loc} {ls : Array Slot} (hs : cb_H shC A T D σ s.heap H locs) (hl : lv_has ls 7 [(0, .ref (A 0)), (1, .int x1), (2, .int x2), (3, .int x3), (4, .int x4), (5, .int x5)]) : cb_W p l e 3 s m args below meth c shC A T D (some (.int o)) σ H locs (F0 m 90 ls []) := by
  obtain ⟨hx, hb, hml, hr, hown, hts, hK, hlk, hN⟩ := id C
  unfold f_X7_isNoHindrance_90 at hf
  obtain ⟨x5_0, e9, hf⟩ := cb_let_inv hf
  refine lv_iinc (v := x5_0) (lv' := [(5, .int x5_0), (0, .ref (A 0)), (1, .int x1), (2, .int x2), (3, .int x3), (4, .int x4)]) hx hb dX7_isNoHindrance_90 hl (k := 5) rfl (by rw [e9]; rfl) (by decide) rfl (fun ls hl => ?_)
  clear e9
  refine lv_goto (tgt := 21) hx hb dX7_isNoHindrance_93 (by decide) ?_
  exact hK21 _ _ _ hf _ _ _ hs (lv_sub hl [1, 2, 3, 4, 5, 0] rfl)
def f_X7_isNoHindrance_58 (K21 : Int32 → Int32 → Int32 → Option (Int32)) (x1 : Int32) (x2 : Int32) (σ : cb_St) (x3 : Int32) (x4 : Int32) (x5 : Int32) (s0 : Int32) : Option (Int32) := if s0 = 0 then (f_X7_isNoHindrance_90 K21 x1 x2 σ x3 x4 x5) else (cb_bp (f_X7_wouldBe x1 σ) (fun r_1 => cb_bp (f_X7_wouldBe x5 σ) (fun r_2 => cb_bp (f_X6_between 9 r_1 r_2 σ) (fun r_3 => if r_3 = x4 then (f_X7_isNoHindrance_90 K21 x1 x2 σ x3 x4 x5) else (some 0)))))
set_option maxHeartbeats 4000000 in
set_option maxRecDepth 100000 in
theorem w_X7_isNoHindrance_58 (C : cb_C p s m args meth c cX7_isNoHindrance 7 (some .boolean) RX7 D T) {K21 : Int32 → Int32 → Int32 → Option (Int32)} {x1 : Int32} {x2 : Int32} {σ : cb_St} {o : Int32} (hK21 : ∀ (x3 : Int32) (x4 : Int32) (x5 : Int32), K21 x3 x4 x5 = some o → ∀ (H : Heap) (locs : List Loc) (ls : Array Slot), cb_H shC A T D σ s.heap H locs → lv_has ls 7 [(0, .ref (A 0)), (1, .int x1), (2, .int x2), (3, .int x3), (4, .int x4), (5, .int x5)] → cb_W p l e 3 s m args below meth c shC A T D (some (.int o)) σ H locs (F0 m 21 ls [])) {x3 : Int32} {x4 : Int32} {x5 : Int32} {s0 : Int32} (hf : f_X7_isNoHindrance_58 K21 x1 x2 σ x3 x4 x5 s0 = some o) {H : Heap} {locs : List Loc} {ls : Array Slot} (hs : cb_H shC A T D σ s.heap H locs) (hl : lv_has ls 7 [(0, .ref (A 0)), (1, .int x1), (2, .int x2), (3, .int x3), (4, .int x4), (5, .int x5)]) : cb_W p l e 3 s m args below meth c shC A T D (some (.int o)) σ H locs (F0 m 58 ls [.int s0]) := by
  obtain ⟨hx, hb, hml, hr, hown, hts, hK, hlk, hN⟩ := id C
  unfold f_X7_isNoHindrance_58 at hf
  refine lv_istore (lv' := [(6, .int s0), (0, .ref (A 0)), (1, .int x1), (2, .int x2), (3, .int x3), (4, .int x4), (5, .int x5)]) hx hb dX7_isNoHindrance_58 hl (by decide) rfl (fun ls hl => ?_)
  refine lv_iload hx hb dX7_isNoHindrance_60 (lv_at hl 0 rfl) ?_
  refine lv_if_eq (tgt := 90) hx hb dX7_isNoHindrance_62 (by decide) (fun cn => ?_) (fun cn => ?_)
  · replace hf := cb_ifp cn hf
    exact w_X7_isNoHindrance_90 C hK21 hf hs (lv_sub hl [1, 2, 3, 4, 5, 6] rfl)
  · replace hf := cb_ifn cn hf
    refine lv_aload_n hx hb dX7_isNoHindrance_65 rfl (lv_at hl 1 rfl) ?_
    refine gf_X7_26 C hs rfl dX7_isNoHindrance_66 ?_
    refine lv_aload_n hx hb dX7_isNoHindrance_69 rfl (lv_at hl 1 rfl) ?_
    refine lv_iload_n hx hb dX7_isNoHindrance_70 rfl (lv_at hl 2 rfl) ?_
    obtain ⟨r_1, hc, hf⟩ := cb_bp_inv hf
    refine cb_callVi C (c_X7_wouldBe  hc) mw_X7_wouldBe ml_X7_329 rfl ⟨Nat.le_of_ble_eq_true rfl, Nat.le_of_ble_eq_true rfl⟩ rfl (Nat.le_of_ble_eq_true rfl) rfl hs hl rfl (Nat.le_of_ble_eq_true rfl) dX7_isNoHindrance_71 (fun H locs hs => ?_)
    clear hc
    refine lv_aload_n hx hb dX7_isNoHindrance_74 rfl (lv_at hl 1 rfl) ?_
    refine lv_iload hx hb dX7_isNoHindrance_75 (lv_at hl 6 rfl) ?_
    obtain ⟨r_2, hc, hf⟩ := cb_bp_inv hf
    refine cb_callVi C (c_X7_wouldBe  hc) mw_X7_wouldBe ml_X7_329 rfl ⟨Nat.le_of_ble_eq_true rfl, Nat.le_of_ble_eq_true rfl⟩ rfl (Nat.le_of_ble_eq_true rfl) rfl hs hl rfl (Nat.le_of_ble_eq_true rfl) dX7_isNoHindrance_77 (fun H locs hs => ?_)
    clear hc
    obtain ⟨r_3, hc, hf⟩ := cb_bp_inv hf
    refine cb_callVi C (c_X6_between cb_tb9 hc) mw_X6_between ml_X7_239 rfl ⟨Nat.le_of_ble_eq_true rfl, Nat.le_of_ble_eq_true rfl⟩ cb_tb9.1 (Nat.le_of_ble_eq_true rfl) rfl hs hl rfl (Nat.le_of_ble_eq_true rfl) dX7_isNoHindrance_80 (fun H locs hs => ?_)
    clear hc
    refine lv_iload hx hb dX7_isNoHindrance_83 (lv_at hl 5 rfl) ?_
    refine lv_icmp_eq (tgt := 90) hx hb dX7_isNoHindrance_85 (by decide) (fun cn => ?_) (fun cn => ?_)
    · replace hf := cb_ifp cn hf
      exact w_X7_isNoHindrance_90 C hK21 hf hs (lv_sub hl [1, 2, 3, 4, 5, 6] rfl)
    · replace hf := cb_ifn cn hf
      refine lv_iconst (v := 0) hx hb dX7_isNoHindrance_88 (by decide) ?_
      have hf := Option.some.inj hf
      subst hf
      exact cb_retz C hs (Or.inl rfl) dX7_isNoHindrance_89
def f_X7_isNoHindrance_57 (K21 : Int32 → Int32 → Int32 → Option (Int32)) (x1 : Int32) (x2 : Int32) (σ : cb_St) (x3 : Int32) (x4 : Int32) (x5 : Int32) : Option (Int32) := f_X7_isNoHindrance_58 K21 x1 x2 σ x3 x4 x5 0
set_option maxHeartbeats 4000000 in
set_option maxRecDepth 100000 in
theorem w_X7_isNoHindrance_57 (C : cb_C p s m args meth c cX7_isNoHindrance 7 (some .boolean) RX7 D T) {K21 : Int32 → Int32 → Int32 → Option (Int32)} {x1 : Int32} {x2 : Int32} {σ : cb_St} {o : Int32} (hK21 : ∀ (x3 : Int32) (x4 : Int32) (x5 : Int32), K21 x3 x4 x5 = some o → ∀ (H : Heap) (locs : List Loc) (ls : Array Slot), cb_H shC A T D σ s.heap H locs → lv_has ls 7 [(0, .ref (A 0)), (1, .int x1), (2, .int x2), (3, .int x3), (4, .int x4), (5, .int x5)] → cb_W p l e 3 s m args below meth c shC A T D (some (.int o)) σ H locs (F0 m 21 ls [])) {x3 : Int32} {x4 : Int32} {x5 : Int32} (hf : f_X7_isNoHindrance_57 K21 x1 x2 σ x3 x4 x5 = some o) {H : Heap} {locs : List Loc} {ls : Array Slot} (hs : cb_H shC A T D σ s.heap H locs) (hl : lv_has ls 7 [(0, .ref (A 0)), (1, .int x1), (2, .int x2), (3, .int x3), (4, .int x4), (5, .int x5)]) : cb_W p l e 3 s m args below meth c shC A T D (some (.int o)) σ H locs (F0 m 57 ls []) := by
  obtain ⟨hx, hb, hml, hr, hown, hts, hK, hlk, hN⟩ := id C
  unfold f_X7_isNoHindrance_57 at hf
  refine lv_iconst (v := 0) hx hb dX7_isNoHindrance_57 (by decide) ?_
  exact w_X7_isNoHindrance_58 C hK21 hf hs (lv_sub hl [0, 1, 2, 3, 4, 5] rfl)
def f_X7_isNoHindrance_21 (x1 : Int32) (x2 : Int32) (σ : cb_St) : Nat → Int32 → Int32 → Int32 → Option (Int32)
  | 0, _, _, _ => none
  | fu + 1, x3, x4, x5 => if (σ.1 9 5) ≤ x5 then (some 1) else (if ((x2 >>> (x5 &&& 31)) &&& 1) = x3 then (f_X7_isNoHindrance_57 (f_X7_isNoHindrance_21 x1 x2 σ fu) x1 x2 σ x3 x4 x5) else (cb_bp (f_X7_wouldBe x5 σ) (fun r_1 => if r_1 = (-1) then (f_X7_isNoHindrance_57 (f_X7_isNoHindrance_21 x1 x2 σ fu) x1 x2 σ x3 x4 x5) else (f_X7_isNoHindrance_58 (f_X7_isNoHindrance_21 x1 x2 σ fu) x1 x2 σ x3 x4 x5 1))))
set_option maxHeartbeats 4000000 in
set_option maxRecDepth 100000 in
theorem w_X7_isNoHindrance_21 (C : cb_C p s m args meth c cX7_isNoHindrance 7 (some .boolean) RX7 D T) {x1 : Int32} {x2 : Int32} {σ : cb_St} {o : Int32}  : ∀ (fu : Nat) (x3 : Int32) (x4 : Int32) (x5 : Int32), f_X7_isNoHindrance_21 x1 x2 σ fu x3 x4 x5 = some o → ∀ (H : Heap) (locs : List Loc) (ls : Array Slot), cb_H shC A T D σ s.heap H locs → lv_has ls 7 [(0, .ref (A 0)), (1, .int x1), (2, .int x2), (3, .int x3), (4, .int x4), (5, .int x5)] → cb_W p l e 3 s m args below meth c shC A T D (some (.int o)) σ H locs (F0 m 21 ls []) := by
  obtain ⟨hx, hb, hml, hr, hown, hts, hK, hlk, hN⟩ := id C
  intro fu
  induction fu with
  | zero =>
    intro x3 x4 x5 hf
    rw [f_X7_isNoHindrance_21] at hf
    cases hf
  | succ fu ih =>
    intro x3 x4 x5 hf H locs ls hs hl
    rw [f_X7_isNoHindrance_21] at hf
    refine lv_iload hx hb dX7_isNoHindrance_21 (lv_at hl 5 rfl) ?_
    refine lv_aload_n hx hb dX7_isNoHindrance_23 rfl (lv_at hl 0 rfl) ?_
    refine gf_X7_26 C hs rfl dX7_isNoHindrance_24 ?_
    refine gf_X7_105 C hs cb_tb9.1 dX7_isNoHindrance_27 ?_
    refine lv_icmp_ge (tgt := 96) hx hb dX7_isNoHindrance_30 (by decide) (fun cn => ?_) (fun cn => ?_)
    · replace hf := cb_ifp cn hf
      refine lv_iconst (v := 1) hx hb dX7_isNoHindrance_96 (by decide) ?_
      have hf := Option.some.inj hf
      subst hf
      exact cb_retz C hs (Or.inr rfl) dX7_isNoHindrance_97
    · replace hf := cb_ifn cn hf
      refine lv_iload_n hx hb dX7_isNoHindrance_33 rfl (lv_at hl 2 rfl) ?_
      refine lv_iload hx hb dX7_isNoHindrance_34 (lv_at hl 5 rfl) ?_
      refine lv_ishr hx hb dX7_isNoHindrance_36 ?_
      refine lv_iconst (v := 1) hx hb dX7_isNoHindrance_37 (by decide) ?_
      refine lv_iand hx hb dX7_isNoHindrance_38 ?_
      refine lv_iload_n hx hb dX7_isNoHindrance_39 rfl (lv_at hl 3 rfl) ?_
      refine lv_icmp_eq (tgt := 57) hx hb dX7_isNoHindrance_40 (by decide) (fun cn => ?_) (fun cn => ?_)
      · replace hf := cb_ifp cn hf
        exact w_X7_isNoHindrance_57 C ih hf hs (lv_sub hl [0, 1, 2, 3, 4, 5] rfl)
      · replace hf := cb_ifn cn hf
        refine lv_aload_n hx hb dX7_isNoHindrance_43 rfl (lv_at hl 0 rfl) ?_
        refine lv_iload hx hb dX7_isNoHindrance_44 (lv_at hl 5 rfl) ?_
        obtain ⟨r_1, hc, hf⟩ := cb_bp_inv hf
        refine cb_callVi C (c_X7_wouldBe  hc) mw_X7_wouldBe ml_X7_329 rfl ⟨Nat.le_of_ble_eq_true rfl, Nat.le_of_ble_eq_true rfl⟩ rfl (Nat.le_of_ble_eq_true rfl) rfl hs hl rfl (Nat.le_of_ble_eq_true rfl) dX7_isNoHindrance_46 (fun H locs hs => ?_)
        clear hc
        refine lv_iconst (v := (-1)) hx hb dX7_isNoHindrance_49 (by decide) ?_
        refine lv_icmp_eq (tgt := 57) hx hb dX7_isNoHindrance_50 (by decide) (fun cn => ?_) (fun cn => ?_)
        · replace hf := cb_ifp cn hf
          exact w_X7_isNoHindrance_57 C ih hf hs (lv_sub hl [0, 1, 2, 3, 4, 5] rfl)
        · replace hf := cb_ifn cn hf
          refine lv_iconst (v := 1) hx hb dX7_isNoHindrance_53 (by decide) ?_
          refine lv_goto (tgt := 58) hx hb dX7_isNoHindrance_54 (by decide) ?_
          exact w_X7_isNoHindrance_58 C ih hf hs (lv_sub hl [0, 1, 2, 3, 4, 5] rfl)
def f_X7_isNoHindrance_16 (x1 : Int32) (x2 : Int32) (σ : cb_St) (x3 : Int32) (s0 : Int32) : Option (Int32) := f_X7_isNoHindrance_21 x1 x2 σ cb_fu x3 s0 0
set_option maxHeartbeats 4000000 in
set_option maxRecDepth 100000 in
theorem w_X7_isNoHindrance_16 (C : cb_C p s m args meth c cX7_isNoHindrance 7 (some .boolean) RX7 D T) {x1 : Int32} {x2 : Int32} {σ : cb_St} {o : Int32}  {x3 : Int32} {s0 : Int32} (hf : f_X7_isNoHindrance_16 x1 x2 σ x3 s0 = some o) {H : Heap} {locs : List Loc} {ls : Array Slot} (hs : cb_H shC A T D σ s.heap H locs) (hl : lv_has ls 7 [(0, .ref (A 0)), (1, .int x1), (2, .int x2), (3, .int x3)]) : cb_W p l e 3 s m args below meth c shC A T D (some (.int o)) σ H locs (F0 m 16 ls [.int s0]) := by
  obtain ⟨hx, hb, hml, hr, hown, hts, hK, hlk, hN⟩ := id C
  unfold f_X7_isNoHindrance_16 at hf
  refine lv_istore (lv' := [(4, .int s0), (0, .ref (A 0)), (1, .int x1), (2, .int x2), (3, .int x3)]) hx hb dX7_isNoHindrance_16 hl (by decide) rfl (fun ls hl => ?_)
  refine lv_iconst (v := 0) hx hb dX7_isNoHindrance_18 (by decide) ?_
  refine lv_istore (lv' := [(5, .int 0), (4, .int s0), (0, .ref (A 0)), (1, .int x1), (2, .int x2), (3, .int x3)]) hx hb dX7_isNoHindrance_19 hl (by decide) rfl (fun ls hl => ?_)
  exact w_X7_isNoHindrance_21 C  cb_fu _ _ _ hf _ _ _ hs (lv_sub hl [2, 3, 4, 5, 1, 0] rfl)
def f_X7_isNoHindrance (x1 : Int32) (x2 : Int32) (σ : cb_St)  : Option (Int32) := cb_let ((x2 >>> (x1 &&& 31)) &&& 1) (fun x3_0 => if x3_0 = 1 then (f_X7_isNoHindrance_16 x1 x2 σ x3_0 0) else (f_X7_isNoHindrance_16 x1 x2 σ x3_0 1))
set_option maxHeartbeats 4000000 in
set_option maxRecDepth 100000 in
theorem c_X7_isNoHindrance {x1 : Int32} {x2 : Int32} {σ : cb_St}   {o : Int32} (hf : f_X7_isNoHindrance x1 x2 σ = some o) : cb_M l yX7_isNoHindrance cX7_isNoHindrance 7 (some .boolean) 3 shC A T D σ [.ref (A 0), .int x1, .int x2] (some (.int o)) σ := by
  refine cb_met (by decide +kernel) (Nat.le_of_ble_eq_true rfl) ?_
  intro p e s m below meth c C hs ls hl
  have hl : lv_has ls 7 [(0, .ref (A 0)), (1, .int x1), (2, .int x2)] := hl
  obtain ⟨hx, hb, hml, hr, hown, hts, hK, hlk, hN⟩ := id C
  unfold f_X7_isNoHindrance at hf
  refine lv_iload_n hx hb dX7_isNoHindrance_0 rfl (lv_at hl 2 rfl) ?_
  refine lv_iload_n hx hb dX7_isNoHindrance_1 rfl (lv_at hl 1 rfl) ?_
  refine lv_ishr hx hb dX7_isNoHindrance_2 ?_
  refine lv_iconst (v := 1) hx hb dX7_isNoHindrance_3 (by decide) ?_
  refine lv_iand hx hb dX7_isNoHindrance_4 ?_
  obtain ⟨x3_0, e9, hf⟩ := cb_let_inv hf
  refine cb_topi e9 ?_
  clear e9
  refine lv_istore_n (lv' := [(3, .int x3_0), (0, .ref (A 0)), (1, .int x1), (2, .int x2)]) hx hb dX7_isNoHindrance_5 rfl hl (by decide) rfl (fun ls hl => ?_)
  refine lv_iload_n hx hb dX7_isNoHindrance_6 rfl (lv_at hl 0 rfl) ?_
  refine lv_iconst (v := 1) hx hb dX7_isNoHindrance_7 (by decide) ?_
  refine lv_icmp_ne (tgt := 15) hx hb dX7_isNoHindrance_8 (by decide) (fun cn => ?_) (fun cn => ?_)
  · replace hf := cb_ifn cn hf
    refine lv_iconst (v := 1) hx hb dX7_isNoHindrance_15 (by decide) ?_
    exact w_X7_isNoHindrance_16 C  hf hs (lv_sub hl [1, 2, 3, 0] rfl)
  · replace hf := cb_ifp cn hf
    refine lv_iconst (v := 0) hx hb dX7_isNoHindrance_11 (by decide) ?_
    refine lv_goto (tgt := 16) hx hb dX7_isNoHindrance_12 (by decide) ?_
    exact w_X7_isNoHindrance_16 C  hf hs (lv_sub hl [1, 2, 3, 0] rfl)
end
