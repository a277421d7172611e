/-! ===== the reference's constructor (partly printed by wip/whole/gen/mk_init.py) ===== -/
def nw (i : Nat) : Nat → Int32 := fun j => if 13 ≤ j ∧ j < 13 + i then -1 else 0
theorem nw_0 : nw 0 = fun _ => 0 := by
  funext j
  exact if_neg (by omega)
theorem nw_s (i : Nat) : upd (nw i) (13 + i) (-1) = nw (i + 1) := by
  funext j
  unfold nw
  by_cases h : j = 13 + i
  · subst h; rw [upd_e, if_pos (by omega)]
  · rw [upd_n _ _ h]
    by_cases g : 13 ≤ j ∧ j < 13 + i
    · rw [if_pos g, if_pos (by omega)]
    · rw [if_neg g, if_neg (by omega)]
set_option maxHeartbeats 4000000 in
set_option maxRecDepth 100000 in
theorem model_loop {l : Launch} {T : Nat → ClassId} {D : va_G} {σ : cb_St} {p : Program} {e : Env} {s : State} {m : MethodId} {below : List Frame} {meth : Method} {c : Code} {P : Nat → Prop} {h0 q3 : Nat} {A : Nat → Nat} {fs : List Value} (C : cb_C p s m #[.ref h0] meth c cX8_init 2 none RX8 D T) (hv : fs[8]? = some (.ref q3)) (e0 : A 0 = h0) (e3 : A 3 = q3) (hE : cb_cE A T (σ.1 0) (σ.2 0) 0 (shM.getD 0 0) = .inr (8, fs)) (h3 : σ.1 3 = nw 6) :
    ∀ (r i : Nat), i + r = 6 → ∀ (H : Heap) (locs : List Loc) (ls : Array Slot), ci_H P D ([(h0, .inr (8, fs))] ++ sl shM A T (cb_sA σ 3 (nw i)) 1 20) s.heap H locs → lv_has ls 2 [(0, .ref h0), (1, .int (zI i))] →
      W p l e (ci_R 3 100 2000) s m #[.ref h0] below meth c H locs 100 2000 (MQ below (ci_Q shM T D σ 0 21 h0 P) #[.ref h0] s 100 2000 P) (F0 m 170 ls []) := by
  obtain ⟨hx, hb, hml, hr, hown, hts, hK, hlk, hNn⟩ := id C
  intro r
  induction r with
  | zero =>
    intro i hi H locs ls hs hl
    refine lv_iload_n hx hb dX8_init_170 rfl (lv_at hl 1 rfl) ?_
    refine lv_bipush (v := 6) hx hb dX8_init_171 (by decide) ?_
    refine lv_icmp_ge (tgt := 192) hx hb dX8_init_173 (by decide) (fun cn => ?_) (fun cn => ?_)
    · have hi : i = 6 := by omega
      subst hi
      rw [← h3, sA_id] at hs
      have hs3 : ci_H P D (sl shM A T σ 0 21) s.heap H locs := ci_H.re (sl_fin hE e0) hs
      exact ci_ret C hs3 e0 (by decide) (by decide) dX8_init_192
    · exact absurd (by rw [show (6 : Int32) = zI 6 from rfl, zI_le (by omega) (by omega) (by omega) (by omega)]; omega) cn
  | succ r ih =>
    intro i hi H locs ls hs hl
    refine lv_iload_n hx hb dX8_init_170 rfl (lv_at hl 1 rfl) ?_
    refine lv_bipush (v := 6) hx hb dX8_init_171 (by decide) ?_
    refine lv_icmp_ge (tgt := 192) hx hb dX8_init_173 (by decide) (fun cn => ?_) (fun cn => ?_)
    · exact absurd cn (by rw [show (6 : Int32) = zI 6 from rfl, zI_le (by omega) (by omega) (by omega) (by omega)]; omega)
    · clear cn
      refine lv_aload_n hx hb dX8_init_176 rfl (lv_at hl 0 rfl) ?_
      refine va_get (D := D) (ci := 8) (v := .ref q3) (C := RX8) (T := TX8) (N := 40) hx hb hts fw_X8 hown hK hs.1 0 rfl rfl 8 (by decide) (hts _ kf_X8_16) (fun _ h => h) hv dX8_init_177 ?_
      refine lv_bipush (v := 13) hx hb dX8_init_180 (by decide) ?_
      refine lv_iload_n hx hb dX8_init_182 rfl (lv_at hl 1 rfl) ?_
      refine lv_iadd hx hb dX8_init_183 ?_
      refine lv_iconst (v := -1) hx hb dX8_init_184 (by decide) ?_
      have e13 : (13 : Int32) + zI (i : Int) = zI ((13 + i : Nat) : Int) := by rw [show (13 : Int32) = zI 13 from rfl, zI_add, la_13]
      rw [e13]
      have hat : ([(h0, (Sum.inr (8, fs) : va_E))] ++ sl shM A T (cb_sA σ 3 (nw i)) 1 20)[3]? = some (q3, .inl (T 0, 51, .inl (nw i))) := by
        show (sl shM A T (cb_sA σ 3 (nw i)) 1 20)[2]? = _
        rw [at_sl _ _ _ _ _ _ (show 2 < 20 by decide), show (1 + 2 : Nat) = 3 from rfl, e3, sA_e]
        rfl
      have hin : vp_in (zI ((13 + i : Nat) : Int)) 51 := by
        intro q
        rcases q with q | q
        · rw [show (0 : Int32) = zI 0 from rfl, zI_lt (by omega) (by omega) (by omega) (by omega)] at q; omega
        · rw [zI_clamp (by omega) (by omega)] at q; omega
      refine va_iast hx hb hK hs.1 hs.2.1 hs.2.2 3 0 hat rfl hin dX8_init_185 (fun H3 locs3 h1 h2 h3 => ?_)
      rw [show (zI ((13 + i : Nat) : Int)).toNatClampNeg = 13 + i from by rw [zI_clamp (by omega) (by omega), Int.toNat_natCast], nw_s] at h1 h2
      have es : ([(h0, (Sum.inr (8, fs) : va_E))] ++ sl shM A T (cb_sA σ 3 (nw i)) 1 20).set 3 (q3, .inl (T 0, 51, .inl (nw (i + 1)))) = [(h0, (Sum.inr (8, fs) : va_E))] ++ sl shM A T (cb_sA σ 3 (nw (i + 1))) 1 20 := by
        show [(h0, (Sum.inr (8, fs) : va_E))] ++ (sl shM A T (cb_sA σ 3 (nw i)) 1 20).set 2 (q3, .inl (T 0, 51, .inl (nw (i + 1)))) = _
        have q : (q3, (Sum.inl (T 0, 51, Sum.inl (nw (i + 1))) : va_E)) = (A (1 + 2), cb_cE A T (nw (i + 1)) ((cb_sA σ 3 (nw i)).2 (1 + 2)) (1 + 2) (shM.getD (1 + 2) 0)) := by
          rw [show (1 + 2 : Nat) = 3 from rfl, e3]; rfl
        rw [q, sl_set _ _ _ _ _ _ (show 2 < 20 by decide), show (1 + 2 : Nat) = 3 from rfl, sA_sA]
      rw [es] at h1 h2
      refine lv_iinc (v := zI ((i + 1 : Nat) : Int)) (lv' := [(1, .int (zI ((i + 1 : Nat) : Int))), (0, .ref h0)]) hx hb dX8_init_186 hl (k := 1) rfl (by rw [show Int32.ofInt 1 = zI 1 from rfl, zI_add, al_1]) (by decide) rfl (fun ls hl => ?_)
      refine lv_goto (tgt := 170) hx hb dX8_init_189 (by decide) ?_
      exact ih (i + 1) (by omega) _ _ _ ⟨h1, h2, h3⟩ (lv_sub hl [1, 0] rfl)
set_option maxHeartbeats 4000000 in
set_option maxRecDepth 100000 in
theorem m_X8 {l : Launch} {T : Nat → ClassId} {D : va_G} {σ : cb_St} (hb0 : σ.1 0 = fun i => if i = 12 then -1 else 0) (hy3 : σ.1 3 = nw 6) (hy1 : σ.1 1 = fun _ => 0) (hy2 : σ.1 2 = fun _ => 0) (hy4 : σ.1 4 = fun _ => 0) (hy5 : σ.1 5 = fun _ => 0) (hy6 : σ.1 6 = fun _ => 0) (hy7 : σ.1 7 = fun _ => 0) (hy8 : σ.1 8 = fun _ => 0) (hy9 : σ.1 9 = fun _ => 0) (hy10 : σ.1 10 = fun _ => 0) (hy11 : σ.1 11 = fun _ => 0) (hy12 : σ.1 12 = fun _ => 0) (hy13 : σ.1 13 = fun _ => 0) (hy14 : σ.1 14 = fun _ => 0) (hy15 : σ.1 15 = fun _ => 0) (hy16 : σ.1 16 = fun _ => 0) (hy17 : σ.1 17 = fun _ => 0) (hy18 : σ.1 18 = fun _ => 0) (hy19 : σ.1 19 = fun _ => 0) (hy20 : σ.1 20 = fun _ => 0) : ci_M l yX8_init cX8_init 2 3 100 2000 shM T D σ (.inr (8, [.int 0, .int 0, .int 0, .int 0, .int 0, .null, .null, .int 0, .null, .int 0, .null, .int 0, .int 0, .int 0, .int 0, .int 0, .int 0, .null, .int 0, .null, .null, .int 0, .int 0, .null, .null, .null, .null, .null, .int 0, .null, .null, .null, .null, .int 0, .int 0, .int 0, .null, .null, .null, .null])) 0 21 := by
  refine ci_met (by decide +kernel) rfl (by decide) ?_
  intro h0 p e s m below meth c P C hN hin hA hs ls hl
  obtain ⟨hx, hb, hml, hr, hown, hts, hK, hlk, hNn⟩ := id C
  have hk : ∀ j, j < 21 → shM.getD (0 + j) 0 = shM.getD j 0 := fun j _ => by rw [Nat.zero_add]
  have hz1 : (cb_sA σ 3 (nw 0)).1 (0 + 1 + 0) = fun _ => 0 := (sA_n _ _ (by decide)).trans hy1
  have hz2 : (cb_sA σ 3 (nw 0)).1 (0 + 1 + 1) = fun _ => 0 := (sA_n _ _ (by decide)).trans hy2
  have hz3 : (cb_sA σ 3 (nw 0)).1 (0 + 1 + 2) = fun _ => 0 := (sA_e _ _ _).trans nw_0
  have hz4 : (cb_sA σ 3 (nw 0)).1 (0 + 1 + 3) = fun _ => 0 := (sA_n _ _ (by decide)).trans hy4
  have hz5 : (cb_sA σ 3 (nw 0)).1 (0 + 1 + 4) = fun _ => 0 := (sA_n _ _ (by decide)).trans hy5
  have hz6 : (cb_sA σ 3 (nw 0)).1 (0 + 1 + 5) = fun _ => 0 := (sA_n _ _ (by decide)).trans hy6
  have hz7 : (cb_sA σ 3 (nw 0)).1 (0 + 1 + 6) = fun _ => 0 := (sA_n _ _ (by decide)).trans hy7
  have hz8 : (cb_sA σ 3 (nw 0)).1 (0 + 1 + 7) = fun _ => 0 := (sA_n _ _ (by decide)).trans hy8
  have hz9 : (cb_sA σ 3 (nw 0)).1 (0 + 1 + 8) = fun _ => 0 := (sA_n _ _ (by decide)).trans hy9
  have hz10 : (cb_sA σ 3 (nw 0)).1 (0 + 1 + 9) = fun _ => 0 := (sA_n _ _ (by decide)).trans hy10
  have hz11 : (cb_sA σ 3 (nw 0)).1 (0 + 1 + 10) = fun _ => 0 := (sA_n _ _ (by decide)).trans hy11
  have hz12 : (cb_sA σ 3 (nw 0)).1 (0 + 1 + 11) = fun _ => 0 := (sA_n _ _ (by decide)).trans hy12
  have hz13 : (cb_sA σ 3 (nw 0)).1 (0 + 1 + 12) = fun _ => 0 := (sA_n _ _ (by decide)).trans hy13
  have hz14 : (cb_sA σ 3 (nw 0)).1 (0 + 1 + 13) = fun _ => 0 := (sA_n _ _ (by decide)).trans hy14
  have hz15 : (cb_sA σ 3 (nw 0)).1 (0 + 1 + 14) = fun _ => 0 := (sA_n _ _ (by decide)).trans hy15
  have hz16 : (cb_sA σ 3 (nw 0)).1 (0 + 1 + 15) = fun _ => 0 := (sA_n _ _ (by decide)).trans hy16
  have hz17 : (cb_sA σ 3 (nw 0)).1 (0 + 1 + 16) = fun _ => 0 := (sA_n _ _ (by decide)).trans hy17
  have hz18 : (cb_sA σ 3 (nw 0)).1 (0 + 1 + 17) = fun _ => 0 := (sA_n _ _ (by decide)).trans hy18
  have hz19 : (cb_sA σ 3 (nw 0)).1 (0 + 1 + 18) = fun _ => 0 := (sA_n _ _ (by decide)).trans hy19
  have hz20 : (cb_sA σ 3 (nw 0)).1 (0 + 1 + 19) = fun _ => 0 := (sA_n _ _ (by decide)).trans hy20
  obtain ⟨A, e0⟩ : ∃ A : Nat → Nat, A 0 = h0 := ⟨fun _ => h0, rfl⟩
  have hs : ci_H P D ([(h0, .inr (8, [.int 0, .int 0, .int 0, .int 0, .int 0, .null, .null, .int 0, .null, .int 0, .null, .int 0, .int 0, .int 0, .int 0, .int 0, .int 0, .null, .int 0, .null, .null, .int 0, .int 0, .null, .null, .null, .null, .null, .int 0, .null, .null, .null, .null, .int 0, .int 0, .int 0, .null, .null, .null, .null]))] ++ sl shM A T (cb_sA σ 3 (nw 0)) (0 + 1) 0) s.heap s.heap [] := hs
  refine lv_aload_n hx hb dX8_init_0 rfl (lv_at hl 0 rfl) ?_
  refine ci_obj C ml_X8_1 hl dX8_init_1 (by decide) (by decide) ?_
  refine lv_aload_n hx hb dX8_init_4 rfl (lv_at hl 0 rfl) ?_
  refine lv_bipush (v := 12) hx hb dX8_init_5 (by decide) ?_
  refine ci_newS (n := 0) (N := 12) C hA (slC_of shM hk 1 0 (by decide) (by decide)) (hk 1 (by decide)) (hz1) hs (by decide) (by decide) (by decide) (by decide) (by decide) dX8_init_7 (fun A1 H1 g1 hs => ?_)
  have e0 := (g1 0 (by omega)).trans e0
  obtain ⟨q1, e1⟩ : ∃ q, A1 (0 + 1 + 0) = q := ⟨_, rfl⟩
  rw [e1]
  refine va_putF (D := D) (ci := 8) (v := .ref q1) (ty := .array .int) (C := RX8) (T := TX8) (N := 40) hx hb hts fw_X8 tyX8 tyX8_ok nmX8 hown hK hs.1 hs.2.1 hs.2.2 0 rfl rfl 5 (by decide) (hts _ kf_X8_7) (fun _ h9 => h9) rfl hin rfl (by decide +kernel) rfl rfl (Nat.le_of_ble_eq_true rfl) dX8_init_9 (fun H2 locs2 h1 h2 h3 => ?_)
  have hs : ci_H P D ([(h0, .inr (8, [.int 0, .int 0, .int 0, .int 0, .int 0, .ref q1, .null, .int 0, .null, .int 0, .null, .int 0, .int 0, .int 0, .int 0, .int 0, .int 0, .null, .int 0, .null, .null, .int 0, .int 0, .null, .null, .null, .null, .null, .int 0, .null, .null, .null, .null, .int 0, .int 0, .int 0, .null, .null, .null, .null]))] ++ sl shM A1 T (cb_sA σ 3 (nw 0)) (0 + 1) 1) s.heap H2 locs2 := ⟨h1, h2, h3⟩
  refine lv_aload_n hx hb dX8_init_12 rfl (lv_at hl 0 rfl) ?_
  refine lv_bipush (v := 12) hx hb dX8_init_13 (by decide) ?_
  refine ci_newS (n := 1) (N := 12) C hA (slC_of shM hk 1 1 (by decide) (by decide)) (hk 2 (by decide)) (hz2) hs (by decide) (by decide) (by decide) (by decide) (by decide) dX8_init_15 (fun A3 H3 g3 hs => ?_)
  have e0 := (g3 0 (by omega)).trans e0
  have e1 := (g3 (0 + 1 + 0) (by omega)).trans e1
  obtain ⟨q2, e2⟩ : ∃ q, A3 (0 + 1 + 1) = q := ⟨_, rfl⟩
  rw [e2]
  refine va_putF (D := D) (ci := 8) (v := .ref q2) (ty := .array .int) (C := RX8) (T := TX8) (N := 40) hx hb hts fw_X8 tyX8 tyX8_ok nmX8 hown hK hs.1 hs.2.1 hs.2.2 0 rfl rfl 6 (by decide) (hts _ kf_X8_13) (fun _ h9 => h9) rfl hin rfl (by decide +kernel) rfl rfl (Nat.le_of_ble_eq_true rfl) dX8_init_17 (fun H4 locs4 h1 h2 h3 => ?_)
  have hs : ci_H P D ([(h0, .inr (8, [.int 0, .int 0, .int 0, .int 0, .int 0, .ref q1, .ref q2, .int 0, .null, .int 0, .null, .int 0, .int 0, .int 0, .int 0, .int 0, .int 0, .null, .int 0, .null, .null, .int 0, .int 0, .null, .null, .null, .null, .null, .int 0, .null, .null, .null, .null, .int 0, .int 0, .int 0, .null, .null, .null, .null]))] ++ sl shM A3 T (cb_sA σ 3 (nw 0)) (0 + 1) 2) s.heap H4 locs4 := ⟨h1, h2, h3⟩
  refine lv_aload_n hx hb dX8_init_20 rfl (lv_at hl 0 rfl) ?_
  refine lv_bipush (v := 51) hx hb dX8_init_21 (by decide) ?_
  refine ci_newS (n := 2) (N := 51) C hA (slC_of shM hk 1 2 (by decide) (by decide)) (hk 3 (by decide)) (hz3) hs (by decide) (by decide) (by decide) (by decide) (by decide) dX8_init_23 (fun A5 H5 g5 hs => ?_)
  have e0 := (g5 0 (by omega)).trans e0
  have e1 := (g5 (0 + 1 + 0) (by omega)).trans e1
  have e2 := (g5 (0 + 1 + 1) (by omega)).trans e2
  obtain ⟨q3, e3⟩ : ∃ q, A5 (0 + 1 + 2) = q := ⟨_, rfl⟩
  rw [e3]
  refine va_putF (D := D) (ci := 8) (v := .ref q3) (ty := .array .int) (C := RX8) (T := TX8) (N := 40) hx hb hts fw_X8 tyX8 tyX8_ok nmX8 hown hK hs.1 hs.2.1 hs.2.2 0 rfl rfl 8 (by decide) (hts _ kf_X8_16) (fun _ h9 => h9) rfl hin rfl (by decide +kernel) rfl rfl (Nat.le_of_ble_eq_true rfl) dX8_init_25 (fun H6 locs6 h1 h2 h3 => ?_)
  have hs : ci_H P D ([(h0, .inr (8, [.int 0, .int 0, .int 0, .int 0, .int 0, .ref q1, .ref q2, .int 0, .ref q3, .int 0, .null, .int 0, .int 0, .int 0, .int 0, .int 0, .int 0, .null, .int 0, .null, .null, .int 0, .int 0, .null, .null, .null, .null, .null, .int 0, .null, .null, .null, .null, .int 0, .int 0, .int 0, .null, .null, .null, .null]))] ++ sl shM A5 T (cb_sA σ 3 (nw 0)) (0 + 1) 3) s.heap H6 locs6 := ⟨h1, h2, h3⟩
  refine lv_aload_n hx hb dX8_init_28 rfl (lv_at hl 0 rfl) ?_
  refine lv_sipush (v := 240) hx hb dX8_init_29 (by decide) ?_
  refine ci_newS (n := 3) (N := 240) C hA (slC_of shM hk 1 3 (by decide) (by decide)) (hk 4 (by decide)) (hz4) hs (by decide) (by decide) (by decide) (by decide) (by decide) dX8_init_32 (fun A7 H7 g7 hs => ?_)
  have e0 := (g7 0 (by omega)).trans e0
  have e1 := (g7 (0 + 1 + 0) (by omega)).trans e1
  have e2 := (g7 (0 + 1 + 1) (by omega)).trans e2
  have e3 := (g7 (0 + 1 + 2) (by omega)).trans e3
  obtain ⟨q4, e4⟩ : ∃ q, A7 (0 + 1 + 3) = q := ⟨_, rfl⟩
  rw [e4]
  refine va_putF (D := D) (ci := 8) (v := .ref q4) (ty := .array .int) (C := RX8) (T := TX8) (N := 40) hx hb hts fw_X8 tyX8 tyX8_ok nmX8 hown hK hs.1 hs.2.1 hs.2.2 0 rfl rfl 10 (by decide) (hts _ kf_X8_19) (fun _ h9 => h9) rfl hin rfl (by decide +kernel) rfl rfl (Nat.le_of_ble_eq_true rfl) dX8_init_34 (fun H8 locs8 h1 h2 h3 => ?_)
  have hs : ci_H P D ([(h0, .inr (8, [.int 0, .int 0, .int 0, .int 0, .int 0, .ref q1, .ref q2, .int 0, .ref q3, .int 0, .ref q4, .int 0, .int 0, .int 0, .int 0, .int 0, .int 0, .null, .int 0, .null, .null, .int 0, .int 0, .null, .null, .null, .null, .null, .int 0, .null, .null, .null, .null, .int 0, .int 0, .int 0, .null, .null, .null, .null]))] ++ sl shM A7 T (cb_sA σ 3 (nw 0)) (0 + 1) 4) s.heap H8 locs8 := ⟨h1, h2, h3⟩
  refine lv_aload_n hx hb dX8_init_37 rfl (lv_at hl 0 rfl) ?_
  refine lv_iconst (v := (-1)) hx hb dX8_init_38 (by decide) ?_
  refine va_put (D := D) (ci := 8) (v := .int (-1)) (ty := .int) (C := RX8) (T := TX8) (N := 40) hx hb hts fw_X8 tyX8 tyX8_ok nmX8 hown hK hs.1 hs.2.1 hs.2.2 0 rfl rfl 12 (by decide) (hts _ kf_X8_22) (fun _ h9 => h9) rfl (by decide +kernel) rfl rfl (Nat.le_of_ble_eq_true rfl) dX8_init_39 (fun H9 locs9 h1 h2 h3 => ?_)
  have hs : ci_H P D ([(h0, .inr (8, [.int 0, .int 0, .int 0, .int 0, .int 0, .ref q1, .ref q2, .int 0, .ref q3, .int 0, .ref q4, .int 0, .int (-1), .int 0, .int 0, .int 0, .int 0, .null, .int 0, .null, .null, .int 0, .int 0, .null, .null, .null, .null, .null, .int 0, .null, .null, .null, .null, .int 0, .int 0, .int 0, .null, .null, .null, .null]))] ++ sl shM A7 T (cb_sA σ 3 (nw 0)) (0 + 1) 4) s.heap H9 locs9 := ⟨h1, h2, h3⟩
  refine lv_aload_n hx hb dX8_init_42 rfl (lv_at hl 0 rfl) ?_
  refine lv_iconst (v := 3) hx hb dX8_init_43 (by decide) ?_
  refine ci_newS (n := 4) (N := 3) C hA (slC_of shM hk 1 4 (by decide) (by decide)) (hk 5 (by decide)) (hz5) hs (by decide) (by decide) (by decide) (by decide) (by decide) dX8_init_44 (fun A10 H10 g10 hs => ?_)
  have e0 := (g10 0 (by omega)).trans e0
  have e1 := (g10 (0 + 1 + 0) (by omega)).trans e1
  have e2 := (g10 (0 + 1 + 1) (by omega)).trans e2
  have e3 := (g10 (0 + 1 + 2) (by omega)).trans e3
  have e4 := (g10 (0 + 1 + 3) (by omega)).trans e4
  obtain ⟨q5, e5⟩ : ∃ q, A10 (0 + 1 + 4) = q := ⟨_, rfl⟩
  rw [e5]
  refine va_putF (D := D) (ci := 8) (v := .ref q5) (ty := .array .int) (C := RX8) (T := TX8) (N := 40) hx hb hts fw_X8 tyX8 tyX8_ok nmX8 hown hK hs.1 hs.2.1 hs.2.2 0 rfl rfl 17 (by decide) (hts _ kf_X8_26) (fun _ h9 => h9) rfl hin rfl (by decide +kernel) rfl rfl (Nat.le_of_ble_eq_true rfl) dX8_init_46 (fun H11 locs11 h1 h2 h3 => ?_)
  have hs : ci_H P D ([(h0, .inr (8, [.int 0, .int 0, .int 0, .int 0, .int 0, .ref q1, .ref q2, .int 0, .ref q3, .int 0, .ref q4, .int 0, .int (-1), .int 0, .int 0, .int 0, .int 0, .ref q5, .int 0, .null, .null, .int 0, .int 0, .null, .null, .null, .null, .null, .int 0, .null, .null, .null, .null, .int 0, .int 0, .int 0, .null, .null, .null, .null]))] ++ sl shM A10 T (cb_sA σ 3 (nw 0)) (0 + 1) 5) s.heap H11 locs11 := ⟨h1, h2, h3⟩
  refine lv_aload_n hx hb dX8_init_49 rfl (lv_at hl 0 rfl) ?_
  refine lv_bipush (v := 12) hx hb dX8_init_50 (by decide) ?_
  refine ci_newS (n := 5) (N := 12) C hA (slC_of shM hk 1 5 (by decide) (by decide)) (hk 6 (by decide)) (hz6) hs (by decide) (by decide) (by decide) (by decide) (by decide) dX8_init_52 (fun A12 H12 g12 hs => ?_)
  have e0 := (g12 0 (by omega)).trans e0
  have e1 := (g12 (0 + 1 + 0) (by omega)).trans e1
  have e2 := (g12 (0 + 1 + 1) (by omega)).trans e2
  have e3 := (g12 (0 + 1 + 2) (by omega)).trans e3
  have e4 := (g12 (0 + 1 + 3) (by omega)).trans e4
  have e5 := (g12 (0 + 1 + 4) (by omega)).trans e5
  obtain ⟨q6, e6⟩ : ∃ q, A12 (0 + 1 + 5) = q := ⟨_, rfl⟩
  rw [e6]
  refine va_putF (D := D) (ci := 8) (v := .ref q6) (ty := .array .int) (C := RX8) (T := TX8) (N := 40) hx hb hts fw_X8 tyX8 tyX8_ok nmX8 hown hK hs.1 hs.2.1 hs.2.2 0 rfl rfl 19 (by decide) (hts _ kf_X8_29) (fun _ h9 => h9) rfl hin rfl (by decide +kernel) rfl rfl (Nat.le_of_ble_eq_true rfl) dX8_init_54 (fun H13 locs13 h1 h2 h3 => ?_)
  have hs : ci_H P D ([(h0, .inr (8, [.int 0, .int 0, .int 0, .int 0, .int 0, .ref q1, .ref q2, .int 0, .ref q3, .int 0, .ref q4, .int 0, .int (-1), .int 0, .int 0, .int 0, .int 0, .ref q5, .int 0, .ref q6, .null, .int 0, .int 0, .null, .null, .null, .null, .null, .int 0, .null, .null, .null, .null, .int 0, .int 0, .int 0, .null, .null, .null, .null]))] ++ sl shM A12 T (cb_sA σ 3 (nw 0)) (0 + 1) 6) s.heap H13 locs13 := ⟨h1, h2, h3⟩
  refine lv_aload_n hx hb dX8_init_57 rfl (lv_at hl 0 rfl) ?_
  refine lv_bipush (v := 12) hx hb dX8_init_58 (by decide) ?_
  refine ci_newS (n := 6) (N := 12) C hA (slC_of shM hk 1 6 (by decide) (by decide)) (hk 7 (by decide)) (hz7) hs (by decide) (by decide) (by decide) (by decide) (by decide) dX8_init_60 (fun A14 H14 g14 hs => ?_)
  have e0 := (g14 0 (by omega)).trans e0
  have e1 := (g14 (0 + 1 + 0) (by omega)).trans e1
  have e2 := (g14 (0 + 1 + 1) (by omega)).trans e2
  have e3 := (g14 (0 + 1 + 2) (by omega)).trans e3
  have e4 := (g14 (0 + 1 + 3) (by omega)).trans e4
  have e5 := (g14 (0 + 1 + 4) (by omega)).trans e5
  have e6 := (g14 (0 + 1 + 5) (by omega)).trans e6
  obtain ⟨q7, e7⟩ : ∃ q, A14 (0 + 1 + 6) = q := ⟨_, rfl⟩
  rw [e7]
  refine va_putF (D := D) (ci := 8) (v := .ref q7) (ty := .array .int) (C := RX8) (T := TX8) (N := 40) hx hb hts fw_X8 tyX8 tyX8_ok nmX8 hown hK hs.1 hs.2.1 hs.2.2 0 rfl rfl 20 (by decide) (hts _ kf_X8_32) (fun _ h9 => h9) rfl hin rfl (by decide +kernel) rfl rfl (Nat.le_of_ble_eq_true rfl) dX8_init_62 (fun H15 locs15 h1 h2 h3 => ?_)
  have hs : ci_H P D ([(h0, .inr (8, [.int 0, .int 0, .int 0, .int 0, .int 0, .ref q1, .ref q2, .int 0, .ref q3, .int 0, .ref q4, .int 0, .int (-1), .int 0, .int 0, .int 0, .int 0, .ref q5, .int 0, .ref q6, .ref q7, .int 0, .int 0, .null, .null, .null, .null, .null, .int 0, .null, .null, .null, .null, .int 0, .int 0, .int 0, .null, .null, .null, .null]))] ++ sl shM A14 T (cb_sA σ 3 (nw 0)) (0 + 1) 7) s.heap H15 locs15 := ⟨h1, h2, h3⟩
  refine lv_aload_n hx hb dX8_init_65 rfl (lv_at hl 0 rfl) ?_
  refine lv_sipush (v := 816) hx hb dX8_init_66 (by decide) ?_
  refine ci_newS (n := 7) (N := 816) C hA (slC_of shM hk 1 7 (by decide) (by decide)) (hk 8 (by decide)) (hz8) hs (by decide) (by decide) (by decide) (by decide) (by decide) dX8_init_69 (fun A16 H16 g16 hs => ?_)
  have e0 := (g16 0 (by omega)).trans e0
  have e1 := (g16 (0 + 1 + 0) (by omega)).trans e1
  have e2 := (g16 (0 + 1 + 1) (by omega)).trans e2
  have e3 := (g16 (0 + 1 + 2) (by omega)).trans e3
  have e4 := (g16 (0 + 1 + 3) (by omega)).trans e4
  have e5 := (g16 (0 + 1 + 4) (by omega)).trans e5
  have e6 := (g16 (0 + 1 + 5) (by omega)).trans e6
  have e7 := (g16 (0 + 1 + 6) (by omega)).trans e7
  obtain ⟨q8, e8⟩ : ∃ q, A16 (0 + 1 + 7) = q := ⟨_, rfl⟩
  rw [e8]
  refine va_putF (D := D) (ci := 8) (v := .ref q8) (ty := .array .int) (C := RX8) (T := TX8) (N := 40) hx hb hts fw_X8 tyX8 tyX8_ok nmX8 hown hK hs.1 hs.2.1 hs.2.2 0 rfl rfl 23 (by decide) (hts _ kf_X8_35) (fun _ h9 => h9) rfl hin rfl (by decide +kernel) rfl rfl (Nat.le_of_ble_eq_true rfl) dX8_init_71 (fun H17 locs17 h1 h2 h3 => ?_)
  have hs : ci_H P D ([(h0, .inr (8, [.int 0, .int 0, .int 0, .int 0, .int 0, .ref q1, .ref q2, .int 0, .ref q3, .int 0, .ref q4, .int 0, .int (-1), .int 0, .int 0, .int 0, .int 0, .ref q5, .int 0, .ref q6, .ref q7, .int 0, .int 0, .ref q8, .null, .null, .null, .null, .int 0, .null, .null, .null, .null, .int 0, .int 0, .int 0, .null, .null, .null, .null]))] ++ sl shM A16 T (cb_sA σ 3 (nw 0)) (0 + 1) 8) s.heap H17 locs17 := ⟨h1, h2, h3⟩
  refine lv_aload_n hx hb dX8_init_74 rfl (lv_at hl 0 rfl) ?_
  refine lv_bipush (v := 12) hx hb dX8_init_75 (by decide) ?_
  refine ci_newS (n := 8) (N := 12) C hA (slC_of shM hk 1 8 (by decide) (by decide)) (hk 9 (by decide)) (hz9) hs (by decide) (by decide) (by decide) (by decide) (by decide) dX8_init_77 (fun A18 H18 g18 hs => ?_)
  have e0 := (g18 0 (by omega)).trans e0
  have e1 := (g18 (0 + 1 + 0) (by omega)).trans e1
  have e2 := (g18 (0 + 1 + 1) (by omega)).trans e2
  have e3 := (g18 (0 + 1 + 2) (by omega)).trans e3
  have e4 := (g18 (0 + 1 + 3) (by omega)).trans e4
  have e5 := (g18 (0 + 1 + 4) (by omega)).trans e5
  have e6 := (g18 (0 + 1 + 5) (by omega)).trans e6
  have e7 := (g18 (0 + 1 + 6) (by omega)).trans e7
  have e8 := (g18 (0 + 1 + 7) (by omega)).trans e8
  obtain ⟨q9, e9⟩ : ∃ q, A18 (0 + 1 + 8) = q := ⟨_, rfl⟩
  rw [e9]
  refine va_putF (D := D) (ci := 8) (v := .ref q9) (ty := .array .int) (C := RX8) (T := TX8) (N := 40) hx hb hts fw_X8 tyX8 tyX8_ok nmX8 hown hK hs.1 hs.2.1 hs.2.2 0 rfl rfl 24 (by decide) (hts _ kf_X8_38) (fun _ h9 => h9) rfl hin rfl (by decide +kernel) rfl rfl (Nat.le_of_ble_eq_true rfl) dX8_init_79 (fun H19 locs19 h1 h2 h3 => ?_)
  have hs : ci_H P D ([(h0, .inr (8, [.int 0, .int 0, .int 0, .int 0, .int 0, .ref q1, .ref q2, .int 0, .ref q3, .int 0, .ref q4, .int 0, .int (-1), .int 0, .int 0, .int 0, .int 0, .ref q5, .int 0, .ref q6, .ref q7, .int 0, .int 0, .ref q8, .ref q9, .null, .null, .null, .int 0, .null, .null, .null, .null, .int 0, .int 0, .int 0, .null, .null, .null, .null]))] ++ sl shM A18 T (cb_sA σ 3 (nw 0)) (0 + 1) 9) s.heap H19 locs19 := ⟨h1, h2, h3⟩
  refine lv_aload_n hx hb dX8_init_82 rfl (lv_at hl 0 rfl) ?_
  refine lv_bipush (v := 6) hx hb dX8_init_83 (by decide) ?_
  refine ci_newS (n := 9) (N := 6) C hA (slC_of shM hk 1 9 (by decide) (by decide)) (hk 10 (by decide)) (hz10) hs (by decide) (by decide) (by decide) (by decide) (by decide) dX8_init_85 (fun A20 H20 g20 hs => ?_)
  have e0 := (g20 0 (by omega)).trans e0
  have e1 := (g20 (0 + 1 + 0) (by omega)).trans e1
  have e2 := (g20 (0 + 1 + 1) (by omega)).trans e2
  have e3 := (g20 (0 + 1 + 2) (by omega)).trans e3
  have e4 := (g20 (0 + 1 + 3) (by omega)).trans e4
  have e5 := (g20 (0 + 1 + 4) (by omega)).trans e5
  have e6 := (g20 (0 + 1 + 5) (by omega)).trans e6
  have e7 := (g20 (0 + 1 + 6) (by omega)).trans e7
  have e8 := (g20 (0 + 1 + 7) (by omega)).trans e8
  have e9 := (g20 (0 + 1 + 8) (by omega)).trans e9
  obtain ⟨q10, e10⟩ : ∃ q, A20 (0 + 1 + 9) = q := ⟨_, rfl⟩
  rw [e10]
  refine va_putF (D := D) (ci := 8) (v := .ref q10) (ty := .array .int) (C := RX8) (T := TX8) (N := 40) hx hb hts fw_X8 tyX8 tyX8_ok nmX8 hown hK hs.1 hs.2.1 hs.2.2 0 rfl rfl 25 (by decide) (hts _ kf_X8_41) (fun _ h9 => h9) rfl hin rfl (by decide +kernel) rfl rfl (Nat.le_of_ble_eq_true rfl) dX8_init_87 (fun H21 locs21 h1 h2 h3 => ?_)
  have hs : ci_H P D ([(h0, .inr (8, [.int 0, .int 0, .int 0, .int 0, .int 0, .ref q1, .ref q2, .int 0, .ref q3, .int 0, .ref q4, .int 0, .int (-1), .int 0, .int 0, .int 0, .int 0, .ref q5, .int 0, .ref q6, .ref q7, .int 0, .int 0, .ref q8, .ref q9, .ref q10, .null, .null, .int 0, .null, .null, .null, .null, .int 0, .int 0, .int 0, .null, .null, .null, .null]))] ++ sl shM A20 T (cb_sA σ 3 (nw 0)) (0 + 1) 10) s.heap H21 locs21 := ⟨h1, h2, h3⟩
  refine lv_aload_n hx hb dX8_init_90 rfl (lv_at hl 0 rfl) ?_
  refine lv_bipush (v := 12) hx hb dX8_init_91 (by decide) ?_
  refine ci_newS (n := 10) (N := 12) C hA (slC_of shM hk 1 10 (by decide) (by decide)) (hk 11 (by decide)) (hz11) hs (by decide) (by decide) (by decide) (by decide) (by decide) dX8_init_93 (fun A22 H22 g22 hs => ?_)
  have e0 := (g22 0 (by omega)).trans e0
  have e1 := (g22 (0 + 1 + 0) (by omega)).trans e1
  have e2 := (g22 (0 + 1 + 1) (by omega)).trans e2
  have e3 := (g22 (0 + 1 + 2) (by omega)).trans e3
  have e4 := (g22 (0 + 1 + 3) (by omega)).trans e4
  have e5 := (g22 (0 + 1 + 4) (by omega)).trans e5
  have e6 := (g22 (0 + 1 + 5) (by omega)).trans e6
  have e7 := (g22 (0 + 1 + 6) (by omega)).trans e7
  have e8 := (g22 (0 + 1 + 7) (by omega)).trans e8
  have e9 := (g22 (0 + 1 + 8) (by omega)).trans e9
  have e10 := (g22 (0 + 1 + 9) (by omega)).trans e10
  obtain ⟨q11, e11⟩ : ∃ q, A22 (0 + 1 + 10) = q := ⟨_, rfl⟩
  rw [e11]
  refine va_putF (D := D) (ci := 8) (v := .ref q11) (ty := .array .int) (C := RX8) (T := TX8) (N := 40) hx hb hts fw_X8 tyX8 tyX8_ok nmX8 hown hK hs.1 hs.2.1 hs.2.2 0 rfl rfl 26 (by decide) (hts _ kf_X8_44) (fun _ h9 => h9) rfl hin rfl (by decide +kernel) rfl rfl (Nat.le_of_ble_eq_true rfl) dX8_init_95 (fun H23 locs23 h1 h2 h3 => ?_)
  have hs : ci_H P D ([(h0, .inr (8, [.int 0, .int 0, .int 0, .int 0, .int 0, .ref q1, .ref q2, .int 0, .ref q3, .int 0, .ref q4, .int 0, .int (-1), .int 0, .int 0, .int 0, .int 0, .ref q5, .int 0, .ref q6, .ref q7, .int 0, .int 0, .ref q8, .ref q9, .ref q10, .ref q11, .null, .int 0, .null, .null, .null, .null, .int 0, .int 0, .int 0, .null, .null, .null, .null]))] ++ sl shM A22 T (cb_sA σ 3 (nw 0)) (0 + 1) 11) s.heap H23 locs23 := ⟨h1, h2, h3⟩
  refine lv_aload_n hx hb dX8_init_98 rfl (lv_at hl 0 rfl) ?_
  refine lv_iconst (v := 3) hx hb dX8_init_99 (by decide) ?_
  refine ci_newS (n := 11) (N := 3) C hA (slC_of shM hk 1 11 (by decide) (by decide)) (hk 12 (by decide)) (hz12) hs (by decide) (by decide) (by decide) (by decide) (by decide) dX8_init_100 (fun A24 H24 g24 hs => ?_)
  have e0 := (g24 0 (by omega)).trans e0
  have e1 := (g24 (0 + 1 + 0) (by omega)).trans e1
  have e2 := (g24 (0 + 1 + 1) (by omega)).trans e2
  have e3 := (g24 (0 + 1 + 2) (by omega)).trans e3
  have e4 := (g24 (0 + 1 + 3) (by omega)).trans e4
  have e5 := (g24 (0 + 1 + 4) (by omega)).trans e5
  have e6 := (g24 (0 + 1 + 5) (by omega)).trans e6
  have e7 := (g24 (0 + 1 + 6) (by omega)).trans e7
  have e8 := (g24 (0 + 1 + 7) (by omega)).trans e8
  have e9 := (g24 (0 + 1 + 8) (by omega)).trans e9
  have e10 := (g24 (0 + 1 + 9) (by omega)).trans e10
  have e11 := (g24 (0 + 1 + 10) (by omega)).trans e11
  obtain ⟨q12, e12⟩ : ∃ q, A24 (0 + 1 + 11) = q := ⟨_, rfl⟩
  rw [e12]
  refine va_putF (D := D) (ci := 8) (v := .ref q12) (ty := .array .int) (C := RX8) (T := TX8) (N := 40) hx hb hts fw_X8 tyX8 tyX8_ok nmX8 hown hK hs.1 hs.2.1 hs.2.2 0 rfl rfl 27 (by decide) (hts _ kf_X8_47) (fun _ h9 => h9) rfl hin rfl (by decide +kernel) rfl rfl (Nat.le_of_ble_eq_true rfl) dX8_init_102 (fun H25 locs25 h1 h2 h3 => ?_)
  have hs : ci_H P D ([(h0, .inr (8, [.int 0, .int 0, .int 0, .int 0, .int 0, .ref q1, .ref q2, .int 0, .ref q3, .int 0, .ref q4, .int 0, .int (-1), .int 0, .int 0, .int 0, .int 0, .ref q5, .int 0, .ref q6, .ref q7, .int 0, .int 0, .ref q8, .ref q9, .ref q10, .ref q11, .ref q12, .int 0, .null, .null, .null, .null, .int 0, .int 0, .int 0, .null, .null, .null, .null]))] ++ sl shM A24 T (cb_sA σ 3 (nw 0)) (0 + 1) 12) s.heap H25 locs25 := ⟨h1, h2, h3⟩
  refine lv_aload_n hx hb dX8_init_105 rfl (lv_at hl 0 rfl) ?_
  refine lv_bipush (v := 6) hx hb dX8_init_106 (by decide) ?_
  refine ci_newS (n := 12) (N := 6) C hA (slC_of shM hk 1 12 (by decide) (by decide)) (hk 13 (by decide)) (hz13) hs (by decide) (by decide) (by decide) (by decide) (by decide) dX8_init_108 (fun A26 H26 g26 hs => ?_)
  have e0 := (g26 0 (by omega)).trans e0
  have e1 := (g26 (0 + 1 + 0) (by omega)).trans e1
  have e2 := (g26 (0 + 1 + 1) (by omega)).trans e2
  have e3 := (g26 (0 + 1 + 2) (by omega)).trans e3
  have e4 := (g26 (0 + 1 + 3) (by omega)).trans e4
  have e5 := (g26 (0 + 1 + 4) (by omega)).trans e5
  have e6 := (g26 (0 + 1 + 5) (by omega)).trans e6
  have e7 := (g26 (0 + 1 + 6) (by omega)).trans e7
  have e8 := (g26 (0 + 1 + 7) (by omega)).trans e8
  have e9 := (g26 (0 + 1 + 8) (by omega)).trans e9
  have e10 := (g26 (0 + 1 + 9) (by omega)).trans e10
  have e11 := (g26 (0 + 1 + 10) (by omega)).trans e11
  have e12 := (g26 (0 + 1 + 11) (by omega)).trans e12
  obtain ⟨q13, e13⟩ : ∃ q, A26 (0 + 1 + 12) = q := ⟨_, rfl⟩
  rw [e13]
  refine va_putF (D := D) (ci := 8) (v := .ref q13) (ty := .array .int) (C := RX8) (T := TX8) (N := 40) hx hb hts fw_X8 tyX8 tyX8_ok nmX8 hown hK hs.1 hs.2.1 hs.2.2 0 rfl rfl 29 (by decide) (hts _ kf_X8_50) (fun _ h9 => h9) rfl hin rfl (by decide +kernel) rfl rfl (Nat.le_of_ble_eq_true rfl) dX8_init_110 (fun H27 locs27 h1 h2 h3 => ?_)
  have hs : ci_H P D ([(h0, .inr (8, [.int 0, .int 0, .int 0, .int 0, .int 0, .ref q1, .ref q2, .int 0, .ref q3, .int 0, .ref q4, .int 0, .int (-1), .int 0, .int 0, .int 0, .int 0, .ref q5, .int 0, .ref q6, .ref q7, .int 0, .int 0, .ref q8, .ref q9, .ref q10, .ref q11, .ref q12, .int 0, .ref q13, .null, .null, .null, .int 0, .int 0, .int 0, .null, .null, .null, .null]))] ++ sl shM A26 T (cb_sA σ 3 (nw 0)) (0 + 1) 13) s.heap H27 locs27 := ⟨h1, h2, h3⟩
  refine lv_aload_n hx hb dX8_init_113 rfl (lv_at hl 0 rfl) ?_
  refine lv_bipush (v := 6) hx hb dX8_init_114 (by decide) ?_
  refine ci_newS (n := 13) (N := 6) C hA (slC_of shM hk 1 13 (by decide) (by decide)) (hk 14 (by decide)) (hz14) hs (by decide) (by decide) (by decide) (by decide) (by decide) dX8_init_116 (fun A28 H28 g28 hs => ?_)
  have e0 := (g28 0 (by omega)).trans e0
  have e1 := (g28 (0 + 1 + 0) (by omega)).trans e1
  have e2 := (g28 (0 + 1 + 1) (by omega)).trans e2
  have e3 := (g28 (0 + 1 + 2) (by omega)).trans e3
  have e4 := (g28 (0 + 1 + 3) (by omega)).trans e4
  have e5 := (g28 (0 + 1 + 4) (by omega)).trans e5
  have e6 := (g28 (0 + 1 + 5) (by omega)).trans e6
  have e7 := (g28 (0 + 1 + 6) (by omega)).trans e7
  have e8 := (g28 (0 + 1 + 7) (by omega)).trans e8
  have e9 := (g28 (0 + 1 + 8) (by omega)).trans e9
  have e10 := (g28 (0 + 1 + 9) (by omega)).trans e10
  have e11 := (g28 (0 + 1 + 10) (by omega)).trans e11
  have e12 := (g28 (0 + 1 + 11) (by omega)).trans e12
  have e13 := (g28 (0 + 1 + 12) (by omega)).trans e13
  obtain ⟨q14, e14⟩ : ∃ q, A28 (0 + 1 + 13) = q := ⟨_, rfl⟩
  rw [e14]
  refine va_putF (D := D) (ci := 8) (v := .ref q14) (ty := .array .int) (C := RX8) (T := TX8) (N := 40) hx hb hts fw_X8 tyX8 tyX8_ok nmX8 hown hK hs.1 hs.2.1 hs.2.2 0 rfl rfl 30 (by decide) (hts _ kf_X8_53) (fun _ h9 => h9) rfl hin rfl (by decide +kernel) rfl rfl (Nat.le_of_ble_eq_true rfl) dX8_init_118 (fun H29 locs29 h1 h2 h3 => ?_)
  have hs : ci_H P D ([(h0, .inr (8, [.int 0, .int 0, .int 0, .int 0, .int 0, .ref q1, .ref q2, .int 0, .ref q3, .int 0, .ref q4, .int 0, .int (-1), .int 0, .int 0, .int 0, .int 0, .ref q5, .int 0, .ref q6, .ref q7, .int 0, .int 0, .ref q8, .ref q9, .ref q10, .ref q11, .ref q12, .int 0, .ref q13, .ref q14, .null, .null, .int 0, .int 0, .int 0, .null, .null, .null, .null]))] ++ sl shM A28 T (cb_sA σ 3 (nw 0)) (0 + 1) 14) s.heap H29 locs29 := ⟨h1, h2, h3⟩
  refine lv_aload_n hx hb dX8_init_121 rfl (lv_at hl 0 rfl) ?_
  refine lv_bipush (v := 6) hx hb dX8_init_122 (by decide) ?_
  refine ci_newS (n := 14) (N := 6) C hA (slC_of shM hk 1 14 (by decide) (by decide)) (hk 15 (by decide)) (hz15) hs (by decide) (by decide) (by decide) (by decide) (by decide) dX8_init_124 (fun A30 H30 g30 hs => ?_)
  have e0 := (g30 0 (by omega)).trans e0
  have e1 := (g30 (0 + 1 + 0) (by omega)).trans e1
  have e2 := (g30 (0 + 1 + 1) (by omega)).trans e2
  have e3 := (g30 (0 + 1 + 2) (by omega)).trans e3
  have e4 := (g30 (0 + 1 + 3) (by omega)).trans e4
  have e5 := (g30 (0 + 1 + 4) (by omega)).trans e5
  have e6 := (g30 (0 + 1 + 5) (by omega)).trans e6
  have e7 := (g30 (0 + 1 + 6) (by omega)).trans e7
  have e8 := (g30 (0 + 1 + 7) (by omega)).trans e8
  have e9 := (g30 (0 + 1 + 8) (by omega)).trans e9
  have e10 := (g30 (0 + 1 + 9) (by omega)).trans e10
  have e11 := (g30 (0 + 1 + 10) (by omega)).trans e11
  have e12 := (g30 (0 + 1 + 11) (by omega)).trans e12
  have e13 := (g30 (0 + 1 + 12) (by omega)).trans e13
  have e14 := (g30 (0 + 1 + 13) (by omega)).trans e14
  obtain ⟨q15, e15⟩ : ∃ q, A30 (0 + 1 + 14) = q := ⟨_, rfl⟩
  rw [e15]
  refine va_putF (D := D) (ci := 8) (v := .ref q15) (ty := .array .int) (C := RX8) (T := TX8) (N := 40) hx hb hts fw_X8 tyX8 tyX8_ok nmX8 hown hK hs.1 hs.2.1 hs.2.2 0 rfl rfl 31 (by decide) (hts _ kf_X8_56) (fun _ h9 => h9) rfl hin rfl (by decide +kernel) rfl rfl (Nat.le_of_ble_eq_true rfl) dX8_init_126 (fun H31 locs31 h1 h2 h3 => ?_)
  have hs : ci_H P D ([(h0, .inr (8, [.int 0, .int 0, .int 0, .int 0, .int 0, .ref q1, .ref q2, .int 0, .ref q3, .int 0, .ref q4, .int 0, .int (-1), .int 0, .int 0, .int 0, .int 0, .ref q5, .int 0, .ref q6, .ref q7, .int 0, .int 0, .ref q8, .ref q9, .ref q10, .ref q11, .ref q12, .int 0, .ref q13, .ref q14, .ref q15, .null, .int 0, .int 0, .int 0, .null, .null, .null, .null]))] ++ sl shM A30 T (cb_sA σ 3 (nw 0)) (0 + 1) 15) s.heap H31 locs31 := ⟨h1, h2, h3⟩
  refine lv_aload_n hx hb dX8_init_129 rfl (lv_at hl 0 rfl) ?_
  refine lv_bipush (v := 6) hx hb dX8_init_130 (by decide) ?_
  refine ci_newS (n := 15) (N := 6) C hA (slC_of shM hk 1 15 (by decide) (by decide)) (hk 16 (by decide)) (hz16) hs (by decide) (by decide) (by decide) (by decide) (by decide) dX8_init_132 (fun A32 H32 g32 hs => ?_)
  have e0 := (g32 0 (by omega)).trans e0
  have e1 := (g32 (0 + 1 + 0) (by omega)).trans e1
  have e2 := (g32 (0 + 1 + 1) (by omega)).trans e2
  have e3 := (g32 (0 + 1 + 2) (by omega)).trans e3
  have e4 := (g32 (0 + 1 + 3) (by omega)).trans e4
  have e5 := (g32 (0 + 1 + 4) (by omega)).trans e5
  have e6 := (g32 (0 + 1 + 5) (by omega)).trans e6
  have e7 := (g32 (0 + 1 + 6) (by omega)).trans e7
  have e8 := (g32 (0 + 1 + 7) (by omega)).trans e8
  have e9 := (g32 (0 + 1 + 8) (by omega)).trans e9
  have e10 := (g32 (0 + 1 + 9) (by omega)).trans e10
  have e11 := (g32 (0 + 1 + 10) (by omega)).trans e11
  have e12 := (g32 (0 + 1 + 11) (by omega)).trans e12
  have e13 := (g32 (0 + 1 + 12) (by omega)).trans e13
  have e14 := (g32 (0 + 1 + 13) (by omega)).trans e14
  have e15 := (g32 (0 + 1 + 14) (by omega)).trans e15
  obtain ⟨q16, e16⟩ : ∃ q, A32 (0 + 1 + 15) = q := ⟨_, rfl⟩
  rw [e16]
  refine va_putF (D := D) (ci := 8) (v := .ref q16) (ty := .array .int) (C := RX8) (T := TX8) (N := 40) hx hb hts fw_X8 tyX8 tyX8_ok nmX8 hown hK hs.1 hs.2.1 hs.2.2 0 rfl rfl 32 (by decide) (hts _ kf_X8_59) (fun _ h9 => h9) rfl hin rfl (by decide +kernel) rfl rfl (Nat.le_of_ble_eq_true rfl) dX8_init_134 (fun H33 locs33 h1 h2 h3 => ?_)
  have hs : ci_H P D ([(h0, .inr (8, [.int 0, .int 0, .int 0, .int 0, .int 0, .ref q1, .ref q2, .int 0, .ref q3, .int 0, .ref q4, .int 0, .int (-1), .int 0, .int 0, .int 0, .int 0, .ref q5, .int 0, .ref q6, .ref q7, .int 0, .int 0, .ref q8, .ref q9, .ref q10, .ref q11, .ref q12, .int 0, .ref q13, .ref q14, .ref q15, .ref q16, .int 0, .int 0, .int 0, .null, .null, .null, .null]))] ++ sl shM A32 T (cb_sA σ 3 (nw 0)) (0 + 1) 16) s.heap H33 locs33 := ⟨h1, h2, h3⟩
  refine lv_aload_n hx hb dX8_init_137 rfl (lv_at hl 0 rfl) ?_
  refine lv_bipush (v := 15) hx hb dX8_init_138 (by decide) ?_
  refine ci_newS (n := 16) (N := 15) C hA (slC_of shM hk 1 16 (by decide) (by decide)) (hk 17 (by decide)) (hz17) hs (by decide) (by decide) (by decide) (by decide) (by decide) dX8_init_140 (fun A34 H34 g34 hs => ?_)
  have e0 := (g34 0 (by omega)).trans e0
  have e1 := (g34 (0 + 1 + 0) (by omega)).trans e1
  have e2 := (g34 (0 + 1 + 1) (by omega)).trans e2
  have e3 := (g34 (0 + 1 + 2) (by omega)).trans e3
  have e4 := (g34 (0 + 1 + 3) (by omega)).trans e4
  have e5 := (g34 (0 + 1 + 4) (by omega)).trans e5
  have e6 := (g34 (0 + 1 + 5) (by omega)).trans e6
  have e7 := (g34 (0 + 1 + 6) (by omega)).trans e7
  have e8 := (g34 (0 + 1 + 7) (by omega)).trans e8
  have e9 := (g34 (0 + 1 + 8) (by omega)).trans e9
  have e10 := (g34 (0 + 1 + 9) (by omega)).trans e10
  have e11 := (g34 (0 + 1 + 10) (by omega)).trans e11
  have e12 := (g34 (0 + 1 + 11) (by omega)).trans e12
  have e13 := (g34 (0 + 1 + 12) (by omega)).trans e13
  have e14 := (g34 (0 + 1 + 13) (by omega)).trans e14
  have e15 := (g34 (0 + 1 + 14) (by omega)).trans e15
  have e16 := (g34 (0 + 1 + 15) (by omega)).trans e16
  obtain ⟨q17, e17⟩ : ∃ q, A34 (0 + 1 + 16) = q := ⟨_, rfl⟩
  rw [e17]
  refine va_putF (D := D) (ci := 8) (v := .ref q17) (ty := .array .int) (C := RX8) (T := TX8) (N := 40) hx hb hts fw_X8 tyX8 tyX8_ok nmX8 hown hK hs.1 hs.2.1 hs.2.2 0 rfl rfl 36 (by decide) (hts _ kf_X8_62) (fun _ h9 => h9) rfl hin rfl (by decide +kernel) rfl rfl (Nat.le_of_ble_eq_true rfl) dX8_init_142 (fun H35 locs35 h1 h2 h3 => ?_)
  have hs : ci_H P D ([(h0, .inr (8, [.int 0, .int 0, .int 0, .int 0, .int 0, .ref q1, .ref q2, .int 0, .ref q3, .int 0, .ref q4, .int 0, .int (-1), .int 0, .int 0, .int 0, .int 0, .ref q5, .int 0, .ref q6, .ref q7, .int 0, .int 0, .ref q8, .ref q9, .ref q10, .ref q11, .ref q12, .int 0, .ref q13, .ref q14, .ref q15, .ref q16, .int 0, .int 0, .int 0, .ref q17, .null, .null, .null]))] ++ sl shM A34 T (cb_sA σ 3 (nw 0)) (0 + 1) 17) s.heap H35 locs35 := ⟨h1, h2, h3⟩
  refine lv_aload_n hx hb dX8_init_145 rfl (lv_at hl 0 rfl) ?_
  refine lv_bipush (v := 15) hx hb dX8_init_146 (by decide) ?_
  refine ci_newS (n := 17) (N := 15) C hA (slC_of shM hk 1 17 (by decide) (by decide)) (hk 18 (by decide)) (hz18) hs (by decide) (by decide) (by decide) (by decide) (by decide) dX8_init_148 (fun A36 H36 g36 hs => ?_)
  have e0 := (g36 0 (by omega)).trans e0
  have e1 := (g36 (0 + 1 + 0) (by omega)).trans e1
  have e2 := (g36 (0 + 1 + 1) (by omega)).trans e2
  have e3 := (g36 (0 + 1 + 2) (by omega)).trans e3
  have e4 := (g36 (0 + 1 + 3) (by omega)).trans e4
  have e5 := (g36 (0 + 1 + 4) (by omega)).trans e5
  have e6 := (g36 (0 + 1 + 5) (by omega)).trans e6
  have e7 := (g36 (0 + 1 + 6) (by omega)).trans e7
  have e8 := (g36 (0 + 1 + 7) (by omega)).trans e8
  have e9 := (g36 (0 + 1 + 8) (by omega)).trans e9
  have e10 := (g36 (0 + 1 + 9) (by omega)).trans e10
  have e11 := (g36 (0 + 1 + 10) (by omega)).trans e11
  have e12 := (g36 (0 + 1 + 11) (by omega)).trans e12
  have e13 := (g36 (0 + 1 + 12) (by omega)).trans e13
  have e14 := (g36 (0 + 1 + 13) (by omega)).trans e14
  have e15 := (g36 (0 + 1 + 14) (by omega)).trans e15
  have e16 := (g36 (0 + 1 + 15) (by omega)).trans e16
  have e17 := (g36 (0 + 1 + 16) (by omega)).trans e17
  obtain ⟨q18, e18⟩ : ∃ q, A36 (0 + 1 + 17) = q := ⟨_, rfl⟩
  rw [e18]
  refine va_putF (D := D) (ci := 8) (v := .ref q18) (ty := .array .int) (C := RX8) (T := TX8) (N := 40) hx hb hts fw_X8 tyX8 tyX8_ok nmX8 hown hK hs.1 hs.2.1 hs.2.2 0 rfl rfl 37 (by decide) (hts _ kf_X8_65) (fun _ h9 => h9) rfl hin rfl (by decide +kernel) rfl rfl (Nat.le_of_ble_eq_true rfl) dX8_init_150 (fun H37 locs37 h1 h2 h3 => ?_)
  have hs : ci_H P D ([(h0, .inr (8, [.int 0, .int 0, .int 0, .int 0, .int 0, .ref q1, .ref q2, .int 0, .ref q3, .int 0, .ref q4, .int 0, .int (-1), .int 0, .int 0, .int 0, .int 0, .ref q5, .int 0, .ref q6, .ref q7, .int 0, .int 0, .ref q8, .ref q9, .ref q10, .ref q11, .ref q12, .int 0, .ref q13, .ref q14, .ref q15, .ref q16, .int 0, .int 0, .int 0, .ref q17, .ref q18, .null, .null]))] ++ sl shM A36 T (cb_sA σ 3 (nw 0)) (0 + 1) 18) s.heap H37 locs37 := ⟨h1, h2, h3⟩
  refine lv_aload_n hx hb dX8_init_153 rfl (lv_at hl 0 rfl) ?_
  refine lv_bipush (v := 104) hx hb dX8_init_154 (by decide) ?_
  refine ci_newS (n := 18) (N := 104) C hA (slC_of shM hk 1 18 (by decide) (by decide)) (hk 19 (by decide)) (hz19) hs (by decide) (by decide) (by decide) (by decide) (by decide) dX8_init_156 (fun A38 H38 g38 hs => ?_)
  have e0 := (g38 0 (by omega)).trans e0
  have e1 := (g38 (0 + 1 + 0) (by omega)).trans e1
  have e2 := (g38 (0 + 1 + 1) (by omega)).trans e2
  have e3 := (g38 (0 + 1 + 2) (by omega)).trans e3
  have e4 := (g38 (0 + 1 + 3) (by omega)).trans e4
  have e5 := (g38 (0 + 1 + 4) (by omega)).trans e5
  have e6 := (g38 (0 + 1 + 5) (by omega)).trans e6
  have e7 := (g38 (0 + 1 + 6) (by omega)).trans e7
  have e8 := (g38 (0 + 1 + 7) (by omega)).trans e8
  have e9 := (g38 (0 + 1 + 8) (by omega)).trans e9
  have e10 := (g38 (0 + 1 + 9) (by omega)).trans e10
  have e11 := (g38 (0 + 1 + 10) (by omega)).trans e11
  have e12 := (g38 (0 + 1 + 11) (by omega)).trans e12
  have e13 := (g38 (0 + 1 + 12) (by omega)).trans e13
  have e14 := (g38 (0 + 1 + 13) (by omega)).trans e14
  have e15 := (g38 (0 + 1 + 14) (by omega)).trans e15
  have e16 := (g38 (0 + 1 + 15) (by omega)).trans e16
  have e17 := (g38 (0 + 1 + 16) (by omega)).trans e17
  have e18 := (g38 (0 + 1 + 17) (by omega)).trans e18
  obtain ⟨q19, e19⟩ : ∃ q, A38 (0 + 1 + 18) = q := ⟨_, rfl⟩
  rw [e19]
  refine va_putF (D := D) (ci := 8) (v := .ref q19) (ty := .array .int) (C := RX8) (T := TX8) (N := 40) hx hb hts fw_X8 tyX8 tyX8_ok nmX8 hown hK hs.1 hs.2.1 hs.2.2 0 rfl rfl 38 (by decide) (hts _ kf_X8_68) (fun _ h9 => h9) rfl hin rfl (by decide +kernel) rfl rfl (Nat.le_of_ble_eq_true rfl) dX8_init_158 (fun H39 locs39 h1 h2 h3 => ?_)
  have hs : ci_H P D ([(h0, .inr (8, [.int 0, .int 0, .int 0, .int 0, .int 0, .ref q1, .ref q2, .int 0, .ref q3, .int 0, .ref q4, .int 0, .int (-1), .int 0, .int 0, .int 0, .int 0, .ref q5, .int 0, .ref q6, .ref q7, .int 0, .int 0, .ref q8, .ref q9, .ref q10, .ref q11, .ref q12, .int 0, .ref q13, .ref q14, .ref q15, .ref q16, .int 0, .int 0, .int 0, .ref q17, .ref q18, .ref q19, .null]))] ++ sl shM A38 T (cb_sA σ 3 (nw 0)) (0 + 1) 19) s.heap H39 locs39 := ⟨h1, h2, h3⟩
  refine lv_aload_n hx hb dX8_init_161 rfl (lv_at hl 0 rfl) ?_
  refine lv_iconst (v := 2) hx hb dX8_init_162 (by decide) ?_
  refine ci_newZ (n := 19) C hA (slC_of shM hk 1 19 (by decide) (by decide)) (hk 20 (by decide)) (hz20) hs (by decide) (by decide) (by decide) (by decide) dX8_init_163 (fun A40 H40 g40 hs => ?_)
  have e0 := (g40 0 (by omega)).trans e0
  have e1 := (g40 (0 + 1 + 0) (by omega)).trans e1
  have e2 := (g40 (0 + 1 + 1) (by omega)).trans e2
  have e3 := (g40 (0 + 1 + 2) (by omega)).trans e3
  have e4 := (g40 (0 + 1 + 3) (by omega)).trans e4
  have e5 := (g40 (0 + 1 + 4) (by omega)).trans e5
  have e6 := (g40 (0 + 1 + 5) (by omega)).trans e6
  have e7 := (g40 (0 + 1 + 6) (by omega)).trans e7
  have e8 := (g40 (0 + 1 + 7) (by omega)).trans e8
  have e9 := (g40 (0 + 1 + 8) (by omega)).trans e9
  have e10 := (g40 (0 + 1 + 9) (by omega)).trans e10
  have e11 := (g40 (0 + 1 + 10) (by omega)).trans e11
  have e12 := (g40 (0 + 1 + 11) (by omega)).trans e12
  have e13 := (g40 (0 + 1 + 12) (by omega)).trans e13
  have e14 := (g40 (0 + 1 + 13) (by omega)).trans e14
  have e15 := (g40 (0 + 1 + 14) (by omega)).trans e15
  have e16 := (g40 (0 + 1 + 15) (by omega)).trans e16
  have e17 := (g40 (0 + 1 + 16) (by omega)).trans e17
  have e18 := (g40 (0 + 1 + 17) (by omega)).trans e18
  have e19 := (g40 (0 + 1 + 18) (by omega)).trans e19
  obtain ⟨q20, e20⟩ : ∃ q, A40 (0 + 1 + 19) = q := ⟨_, rfl⟩
  rw [e20]
  refine va_putF (D := D) (ci := 8) (v := .ref q20) (ty := .array .boolean) (C := RX8) (T := TX8) (N := 40) hx hb hts fw_X8 tyX8 tyX8_ok nmX8 hown hK hs.1 hs.2.1 hs.2.2 0 rfl rfl 39 (by decide) (hts _ kf_X8_71) (fun _ h9 => h9) rfl hin rfl (by decide +kernel) rfl rfl (Nat.le_of_ble_eq_true rfl) dX8_init_165 (fun H41 locs41 h1 h2 h3 => ?_)
  have hs : ci_H P D ([(h0, .inr (8, [.int 0, .int 0, .int 0, .int 0, .int 0, .ref q1, .ref q2, .int 0, .ref q3, .int 0, .ref q4, .int 0, .int (-1), .int 0, .int 0, .int 0, .int 0, .ref q5, .int 0, .ref q6, .ref q7, .int 0, .int 0, .ref q8, .ref q9, .ref q10, .ref q11, .ref q12, .int 0, .ref q13, .ref q14, .ref q15, .ref q16, .int 0, .int 0, .int 0, .ref q17, .ref q18, .ref q19, .ref q20]))] ++ sl shM A40 T (cb_sA σ 3 (nw 0)) (0 + 1) 20) s.heap H41 locs41 := ⟨h1, h2, h3⟩
  have hE : cb_cE A40 T (σ.1 0) (σ.2 0) 0 (shM.getD 0 0) = .inr (8, [.int 0, .int 0, .int 0, .int 0, .int 0, .ref q1, .ref q2, .int 0, .ref q3, .int 0, .ref q4, .int 0, .int (-1), .int 0, .int 0, .int 0, .int 0, .ref q5, .int 0, .ref q6, .ref q7, .int 0, .int 0, .ref q8, .ref q9, .ref q10, .ref q11, .ref q12, .int 0, .ref q13, .ref q14, .ref q15, .ref q16, .int 0, .int 0, .int 0, .ref q17, .ref q18, .ref q19, .ref q20]) := by
    rw [show shM.getD 0 0 = 8 from rfl, hb0]
    show (Sum.inr (8, [.int 0, .int 0, .int 0, .int 0, .int 0, .ref (A40 (0 + 1 + 0)), .ref (A40 (0 + 1 + 1)), .int 0, .ref (A40 (0 + 1 + 2)), .int 0, .ref (A40 (0 + 1 + 3)), .int 0, .int (-1), .int 0, .int 0, .int 0, .int 0, .ref (A40 (0 + 1 + 4)), .int 0, .ref (A40 (0 + 1 + 5)), .ref (A40 (0 + 1 + 6)), .int 0, .int 0, .ref (A40 (0 + 1 + 7)), .ref (A40 (0 + 1 + 8)), .ref (A40 (0 + 1 + 9)), .ref (A40 (0 + 1 + 10)), .ref (A40 (0 + 1 + 11)), .int 0, .ref (A40 (0 + 1 + 12)), .ref (A40 (0 + 1 + 13)), .ref (A40 (0 + 1 + 14)), .ref (A40 (0 + 1 + 15)), .int 0, .int 0, .int 0, .ref (A40 (0 + 1 + 16)), .ref (A40 (0 + 1 + 17)), .ref (A40 (0 + 1 + 18)), .ref (A40 (0 + 1 + 19))]) : va_E) = _
    rw [e1, e2, e3, e4, e5, e6, e7, e8, e9, e10, e11, e12, e13, e14, e15, e16, e17, e18, e19, e20]
  refine lv_iconst (v := 0) hx hb dX8_init_168 (by decide) ?_
  refine lv_istore_n (lv' := [(1, .int 0), (0, .ref h0)]) hx hb dX8_init_169 rfl hl (by decide) rfl (fun ls hl => ?_)
  refine W.widen (k := 100) (n := 2000) (by decide) (by decide) ?_
  exact model_loop C rfl e0 e3 hE hy3 6 0 rfl _ _ ls hs (lv_sub hl [1, 0] rfl)
