/-! ===== the class's constructor, the reference's (partly printed by wip/whole/gen/mk_init.py) ===== -/
theorem sl_ims : ∀ i, i < 2 → ∀ j, j < 6 → shC.getD (112 + 6 * i + j) 0 = [1, 4, 32, 26, 26, 44].getD j 0 := by decide
theorem slC_ims : ∀ i, i < 3 → slC shC 112 (6 * i) := by
  have h : ∀ j, j < 12 → rfN (shC.getD (112 + j) 0) = (if j % 6 = 0 then 1 else if j % 6 = 1 then 4 else 0) := by decide
  intro i hi j h1 h2
  have h3 := h (j - 112) (by omega)
  rw [show 112 + (j - 112) = j by omega] at h3
  rw [h3]
  split
  · omega
  · split <;> omega
theorem slC_im1 (k i : Nat) (hi : k = 112 + 6 * i) (h : i < 2) : slC shC k 6 := by
  subst hi
  exact slC_of [1, 4, 32, 26, 26, 44] (sl_ims i h) 0 6 (by decide) (by decide)
theorem slC_all : slC shC 1 110 := by
  have h : ∀ j, j < 110 → j + rfN (shC.getD (1 + j) 0) < 110 := by decide
  exact slC_of (b := 0) (N := 124) shC (fun j _ => by rw [Nat.zero_add]) 1 110 h (by decide)
theorem card_end {P : Nat → Prop} {D : va_G} {T : Nat → ClassId} {σ : cb_St} {A A0 : Nat → Nat} {h0 q : Nat} {E : va_E} {H0 H : Heap} {locs : List Loc} {f : Nat → Option Nat} (g : ∀ j, j < 111 → A j = A0 j) (e0 : A 0 = h0) (e111 : A 111 = q) (hE : cb_cE A T (σ.1 0) (σ.2 0) 0 (shC.getD 0 0) = E) (hf : ∀ i, i < 2 → f i = some (A (111 + 1 + 6 * i))) (hs : ci_H P D ((h0, E) :: (q, rw_ (T 2) 2 f) :: (sl shC A0 T σ 1 110 ++ sl shC A T σ 112 12)) H0 H locs) : ci_H P D (sl shC A T σ 0 124) H0 H locs := by
  have hs := row_re (f' := fun i => some (A (111 + 1 + 6 * i))) hf hs
  have e : sl shC A T σ 0 124 = (h0, E) :: (sl shC A T σ 1 110 ++ ((q, rw_ (T 2) 2 (fun i => some (A (111 + 1 + 6 * i)))) :: sl shC A T σ 112 12)) := by
    rw [show (124 : Nat) = 1 + (110 + (1 + 12)) from rfl, sl_app, sl_app, sl_app, sl_1, sl_1, hE, e0]
    show _ :: (_ ++ ((A 111, _) :: _)) = _
    rw [e111]
    rfl
  have hg : ∀ j, 1 ≤ j → j < 1 + 110 → A j = A0 j := fun j _ h => g j (by omega)
  rw [e]
  refine ⟨?_, ?_, hs.2.2⟩
  · have h1 := P_iff.mp hs.1
    have hS : va_P D cb_cl (sl shC A T σ 1 110) H := sl_P slC_all hg (P_iff.mpr fun z hz => h1 z (List.mem_cons_of_mem _ (List.mem_cons_of_mem _ (List.mem_append_left _ hz))))
    have hS2 := P_iff.mp hS
    rw [P_iff]
    intro z hz
    rcases List.mem_cons.mp hz with e | hz
    · exact h1 z (by rw [e]; exact List.mem_cons_self)
    · rcases List.mem_append.mp hz with hz | hz
      · exact hS2 z hz
      · rcases List.mem_cons.mp hz with e | hz
        · exact h1 z (by rw [e]; exact List.mem_cons_of_mem _ List.mem_cons_self)
        · exact h1 z (List.mem_cons_of_mem _ (List.mem_cons_of_mem _ (List.mem_append_right _ hz)))
  · refine D_map (w1 := (h0, E) :: (sl shC A0 T σ 1 110 ++ ((q, rw_ (T 2) 2 (fun i => some (A (111 + 1 + 6 * i)))) :: sl shC A T σ 112 12))) ?_ (D_perm ?_ hs.2.1)
    · rw [List.map_cons, List.map_cons, List.map_append, List.map_append, sl_mapc hg]
    · exact List.Perm.cons _ (List.perm_middle.symm)
set_option maxHeartbeats 4000000 in
set_option maxRecDepth 100000 in
theorem card_loop {l : Launch} {T : Nat → ClassId} {D : va_G} {σ : cb_St} {p : Program} {e : Env} {s : State} {m : MethodId} {below : List Frame} {meth : Method} {c : Code} {P : Nat → Prop} {h0 q : Nat} {A0 : Nat → Nat} {v1 v2 v3 v4 v5 v6 v8 v9 : Value} (C : cb_C p s m #[.ref h0] meth c cX7_init 2 none RX7 D T) (hN : ci_N s) (hA : ∀ q, s.heap.size ≤ q → P q) (hM : ∀ i, i < 2 → ci_M l yX1_init cX1_init 1 4 12 200 shC T D σ im0 (112 + 6 * i) 6) (hE : ∀ A : Nat → Nat, (∀ j, j < 111 → A j = A0 j) → A 111 = q → cb_cE A T (σ.1 0) (σ.2 0) 0 (shC.getD 0 0) = .inr (7, [.int 0, v1, v2, v3, v4, v5, v6, .ref q, v8, v9])) (e00 : A0 0 = h0) :
    ∀ (r i : Nat), i + r = 2 → ∀ (A : Nat → Nat) (f : Nat → Option Nat) (H : Heap) (locs : List Loc) (ls : Array Slot), (∀ j, j < 111 → A j = A0 j) → A 111 = q → (∀ j, j < i → f j = some (A (111 + 1 + 6 * j))) → ci_H P D (((h0, .inr (7, [.int 0, v1, v2, v3, v4, v5, v6, .ref q, v8, v9])) :: (q, rw_ (T 2) 2 f) :: sl shC A0 T σ 1 110) ++ sl shC A T σ 112 (6 * i)) s.heap H locs → lv_has ls 2 [(0, .ref h0), (1, .int (zI i))] →
      W p l e (ci_R 5 1000 10000) s m #[.ref h0] below meth c H locs (500 + 13 * i) (5000 + 203 * i) (MQ below (ci_Q shC T D σ 0 124 h0 P) #[.ref h0] s 1000 10000 P) (F0 m 96 ls []) := by
  obtain ⟨hx, hb, hml, hr, hown, hts, hK, hlk, hNn⟩ := id C
  intro r
  induction r with
  | zero =>
    intro i hi A f H locs ls ga e111 hf hs hl
    refine lv_iload_n hx hb dX7_init_96 rfl (lv_at hl 1 rfl) ?_
    refine lv_iconst (v := 2) hx hb dX7_init_97 (by decide) ?_
    refine lv_icmp_ge (tgt := 120) hx hb dX7_init_98 (by decide) (fun cn => ?_) (fun cn => ?_)
    · have hi : i = 2 := by omega
      subst hi
      have e0 : A 0 = h0 := (ga 0 (by omega)).trans e00
      have hs3 : ci_H P D (sl shC A T σ 0 124) s.heap H locs := card_end ga e0 e111 (hE A ga e111) hf hs
      exact ci_ret C hs3 e0 (by decide) (by decide) dX7_init_120
    · exact absurd (by rw [show (2 : Int32) = zI 2 from rfl, zI_le (by omega) (by omega) (by omega) (by omega)]; omega) cn
  | succ r ih =>
    intro i hi A f H locs ls ga e111 hf hs hl
    refine lv_iload_n hx hb dX7_init_96 rfl (lv_at hl 1 rfl) ?_
    refine lv_iconst (v := 2) hx hb dX7_init_97 (by decide) ?_
    refine lv_icmp_ge (tgt := 120) hx hb dX7_init_98 (by decide) (fun cn => ?_) (fun cn => ?_)
    · exact absurd cn (by rw [show (2 : Int32) = zI 2 from rfl, zI_le (by omega) (by omega) (by omega) (by omega)]; omega)
    · clear cn
      refine lv_aload_n hx hb dX7_init_101 rfl (lv_at hl 0 rfl) ?_
      refine va_get (D := D) (ci := 7) (v := .ref q) (C := RX7) (T := TX7) (N := 10) hx hb hts fw_X7 hown hK hs.1 0 rfl rfl 7 (by decide) (hts _ kf_X7_60) (fun _ h => h) rfl dX7_init_102 ?_
      refine lv_iload_n hx hb dX7_init_105 rfl (lv_at hl 1 rfl) ?_
      refine ci_newI (k := 112) (n := 6 * i) (kd := 1) (Nc := 3) (n' := 6) C hN hA (hM i (by omega)) rfl fw_X1 tyX1 tyX1_ok dv_X1 (cb_in (cb_t1 (List.mem_of_getElem? (i := 219) rfl)) rfl) (cb_in (cb_t1 (List.mem_of_getElem? (i := 221) rfl)) rfl) (cb_in (cb_t1 (List.mem_of_getElem? (i := 9) rfl)) rfl) (cb_in (cb_t1 (List.mem_of_getElem? (i := 224) rfl)) rfl) (cb_in (cb_t1 (List.mem_of_getElem? (i := 223) rfl)) rfl) ⟨by decide +kernel, by decide +kernel, by decide +kernel⟩ rfl (Or.inr hN.2.2.2.2.2.1) ⟨by decide, by decide⟩ (by show 500 + 13 * i + 1 + 12 ≤ 1000; omega) (by show 5000 + 203 * i + 3 + 200 ≤ 10000; omega) (slC_ims i (by omega)) (slC_im1 _ i rfl (by omega)) hs hl (Nat.le_of_ble_eq_true rfl) dX7_init_106 dX7_init_109 dX7_init_110 (fun A2 H2 locs2 g hs _ => ?_) (by decide)
      have hkd : shC.getD (112 + 6 * i) 0 = 1 := sl_ims i (by omega) 0 (by decide)
      have hat : (((h0, (Sum.inr (7, [.int 0, v1, v2, v3, v4, v5, v6, .ref q, v8, v9]) : va_E)) :: (q, rw_ (T 2) 2 f) :: sl shC A0 T σ 1 110) ++ sl shC A2 T σ 112 (6 * i + 6))[112 + 6 * i]? = some (A2 (112 + 6 * i), .inr (1, [.int (σ.1 (112 + 6 * i) 0), .int (σ.1 (112 + 6 * i) 1), .ref (A2 (112 + 6 * i + 1))])) := by
        have hlen : ((h0, (Sum.inr (7, [.int 0, v1, v2, v3, v4, v5, v6, .ref q, v8, v9]) : va_E)) :: (q, rw_ (T 2) 2 f) :: sl shC A0 T σ 1 110).length = 112 := by
          rw [List.length_cons, List.length_cons, sl_len]
        rw [List.getElem?_append_right (by rw [hlen]; omega), hlen, show 112 + 6 * i - 112 = 6 * i by omega, at_sl _ _ _ _ _ _ (show 6 * i < 6 * i + 6 by omega), hkd]
        rfl
      have hin : vp_in (zI (i : Int)) 2 := by
        intro q
        rcases q with q | q
        · rw [show (0 : Int32) = zI 0 from rfl, zI_lt (by omega) (by omega) (by omega) (by omega)] at q; omega
        · rw [zI_clamp (by omega) (by omega)] at q; omega
      refine va_astq hx hb hK hs.1 hs.2.1 hs.2.2 1 2 (112 + 6 * i) 1 (r := (RX1, TX1, 3)) (i := zI (i : Int)) rfl rfl hat rfl hin dX7_init_113 (fun H3 locs3 h1 h2 h3 => ?_)
      rw [show (zI (i : Int)).toNatClampNeg = i from by rw [zI_clamp (by omega) (by omega), Int.toNat_natCast]] at h1 h2
      have hs : ci_H P D (((h0, (Sum.inr (7, [.int 0, v1, v2, v3, v4, v5, v6, .ref q, v8, v9]) : va_E)) :: (q, rw_ (T 2) 2 (va_up f i (some (A2 (112 + 6 * i))))) :: sl shC A0 T σ 1 110) ++ sl shC A2 T σ 112 (6 * i + 6)) s.heap H3 locs3 := ⟨h1, h2, h3⟩
      refine lv_iinc (v := zI ((i + 1 : Nat) : Int)) (lv' := [(1, .int (zI ((i + 1 : Nat) : Int))), (0, .ref h0)]) hx hb dX7_init_114 hl (k := 1) rfl (by rw [show Int32.ofInt 1 = zI 1 from rfl, zI_add, al_1]) (by decide) rfl (fun ls hl => ?_)
      refine lv_goto (tgt := 96) hx hb dX7_init_117 (by decide) ?_
      refine W.widen (k := 500 + 13 * (i + 1)) (n := 5000 + 203 * (i + 1)) (by omega) (by omega) ?_
      refine ih (i + 1) (by omega) A2 _ _ _ _ (fun j hj => (g j (by omega)).trans (ga j hj)) ((g 111 (by omega)).trans e111) (fun j hj => ?_) hs (lv_sub hl [1, 0] rfl)
      by_cases hji : j = i
      · subst hji; rw [va_up_e]
      · rw [va_up_n _ _ hji, hf j (by omega), g (111 + 1 + 6 * j) (by omega)]
set_option maxHeartbeats 4000000 in
set_option maxRecDepth 100000 in
theorem m_X7 {l : Launch} {T : Nat → ClassId} {D : va_G} {σ : cb_St} (hb0 : σ.1 0 = fun _ => 0) (hz1 : σ.1 (0 + 1 + 0) = fun _ => 0) (hz2 : σ.1 (0 + 1 + 1) = fun _ => 0) (hM5 : ci_M l yX5_init cX5_init 1 4 12 500 shC T D σ (.inr (5, [.null, .int 0, .int 0, .int 0, .null, .int 0])) (0 + 1 + 2) 6) (hM6 : ci_M l yX6_init cX6_init 1 3 4 100 shC T D σ (.inr (6, [.int 0, .int 0, .int 0, .int 0, .int 0, .int 0, .long 0, .null, .null, .null])) (0 + 1 + 8) 4) (hM4 : ci_M l yX4_init cX4_init 1 3 5 100 shC T D σ (.inr (4, [.int 0, .int 0, .int 0, .null, .null, .null, .null])) (0 + 1 + 12) 5) (hM3 : ci_M l yX3_init cX3_init 2 4 100 2000 shC T D σ (.inr (3, [.int 0, .int 0, .null])) (0 + 1 + 17) 82) (hM2 : ci_M l yX2_init cX2_init 1 3 6 200 shC T D σ (.inr (2, [.int 0, .int 0, .null, .null, .null, .null, .null])) (0 + 1 + 99) 6) (hM0 : ci_M l yX0_init cX0_init 1 3 5 200 shC T D σ (.inr (0, [.int 0, .int 0, .int 0, .null, .null, .null, .null])) (0 + 1 + 105) 5) (hM1 : ∀ i, i < 2 → ci_M l yX1_init cX1_init 1 4 12 200 shC T D σ im0 (112 + 6 * i) 6) : ci_M l yX7_init cX7_init 2 5 1000 10000 shC T D σ (.inr (7, [.int 0, .null, .null, .null, .null, .null, .null, .null, .null, .null])) 0 124 := by
  refine ci_met (by decide +kernel) rfl (by decide) ?_
  intro h0 p e s m below meth c P C hN hin hA hs ls hl
  obtain ⟨hx, hb, hml, hr, hown, hts, hK, hlk, hNn⟩ := id C
  have hk : ∀ j, j < 124 → shC.getD (0 + j) 0 = shC.getD j 0 := fun j _ => by rw [Nat.zero_add]
  obtain ⟨A, e0⟩ : ∃ A : Nat → Nat, A 0 = h0 := ⟨fun _ => h0, rfl⟩
  have hs : ci_H P D ([(h0, .inr (7, [.int 0, .null, .null, .null, .null, .null, .null, .null, .null, .null]))] ++ sl shC A T σ (0 + 1) 0) s.heap s.heap [] := hs
  refine lv_aload_n hx hb dX7_init_0 rfl (lv_at hl 0 rfl) ?_
  refine ci_obj C ml_X7_1 hl dX7_init_1 (by decide) (by decide) ?_
  refine lv_aload_n hx hb dX7_init_4 rfl (lv_at hl 0 rfl) ?_
  refine lv_bipush (v := 6) hx hb dX7_init_5 (by decide) ?_
  refine ci_newS (n := 0) (N := 6) C hA (slC_of shC hk 1 0 (by decide) (by decide)) (hk 1 (by decide)) (hz1) hs (by decide) (by decide) (by decide) (by decide) (by decide) dX7_init_7 (fun A1 H1 g1 hs => ?_)
  have e0 := (g1 0 (by omega)).trans e0
  obtain ⟨q1, e1⟩ : ∃ q, A1 (0 + 1 + 0) = q := ⟨_, rfl⟩
  rw [e1]
  refine va_putF (D := D) (ci := 7) (v := .ref q1) (ty := .array .int) (C := RX7) (T := TX7) (N := 10) hx hb hts fw_X7 tyX7 tyX7_ok nmX7 hown hK hs.1 hs.2.1 hs.2.2 0 rfl rfl 8 (by decide) (hts _ kf_X7_9) (fun _ h9 => h9) rfl hin rfl (by decide +kernel) rfl rfl (Nat.le_of_ble_eq_true rfl) dX7_init_9 (fun H2 locs2 h1 h2 h3 => ?_)
  have hs : ci_H P D ([(h0, .inr (7, [.int 0, .null, .null, .null, .null, .null, .null, .null, .ref q1, .null]))] ++ sl shC A1 T σ (0 + 1) 1) s.heap H2 locs2 := ⟨h1, h2, h3⟩
  refine lv_aload_n hx hb dX7_init_12 rfl (lv_at hl 0 rfl) ?_
  refine lv_bipush (v := 12) hx hb dX7_init_13 (by decide) ?_
  refine ci_newS (n := 1) (N := 12) C hA (slC_of shC hk 1 1 (by decide) (by decide)) (hk 2 (by decide)) (hz2) hs (by decide) (by decide) (by decide) (by decide) (by decide) dX7_init_15 (fun A3 H3 g3 hs => ?_)
  have e0 := (g3 0 (by omega)).trans e0
  have e1 := (g3 (0 + 1 + 0) (by omega)).trans e1
  obtain ⟨q2, e2⟩ : ∃ q, A3 (0 + 1 + 1) = q := ⟨_, rfl⟩
  rw [e2]
  refine va_putF (D := D) (ci := 7) (v := .ref q2) (ty := .array .int) (C := RX7) (T := TX7) (N := 10) hx hb hts fw_X7 tyX7 tyX7_ok nmX7 hown hK hs.1 hs.2.1 hs.2.2 0 rfl rfl 9 (by decide) (hts _ kf_X7_13) (fun _ h9 => h9) rfl hin rfl (by decide +kernel) rfl rfl (Nat.le_of_ble_eq_true rfl) dX7_init_17 (fun H4 locs4 h1 h2 h3 => ?_)
  have hs : ci_H P D ([(h0, .inr (7, [.int 0, .null, .null, .null, .null, .null, .null, .null, .ref q1, .ref q2]))] ++ sl shC A3 T σ (0 + 1) 2) s.heap H4 locs4 := ⟨h1, h2, h3⟩
  refine lv_aload_n hx hb dX7_init_20 rfl (lv_at hl 0 rfl) ?_
  refine ci_newI (n := 2) (kd := 5) (Nc := 6) (n' := 6) (fs := [.null, .int 0, .int 0, .int 0, .null, .int 0]) C hN hA hM5 rfl fw_X5 tyX5 tyX5_ok dv_X5 (cb_in (cb_t1 (List.mem_of_getElem? (i := 22) rfl)) rfl) (cb_in (cb_t1 (List.mem_of_getElem? (i := 23) rfl)) rfl) (cb_in (cb_t1 (List.mem_of_getElem? (i := 2) rfl)) rfl) (cb_in (cb_t1 (List.mem_of_getElem? (i := 26) rfl)) rfl) (cb_in (cb_t1 (List.mem_of_getElem? (i := 25) rfl)) rfl) ⟨by decide +kernel, by decide +kernel, by decide +kernel⟩ rfl (Or.inr hN.2.1) ⟨by decide, by decide⟩ (by decide) (by decide) (slC_of shC hk 1 2 (by decide) (by decide)) (slC_of shC hk (1 + 2) 6 (by decide) (by decide)) hs hl (Nat.le_of_ble_eq_true rfl) dX7_init_21 dX7_init_24 dX7_init_25 (fun A5 H5 locs5 g5 hs _ => ?_) (by decide)
  have e0 := (g5 0 (by omega)).trans e0
  have e1 := (g5 (0 + 1 + 0) (by omega)).trans e1
  have e2 := (g5 (0 + 1 + 1) (by omega)).trans e2
  obtain ⟨q3, e3⟩ : ∃ q, A5 (0 + 1 + 2) = q := ⟨_, rfl⟩
  rw [e3]
  refine va_putF (D := D) (ci := 7) (v := .ref q3) (ty := .object "CardBecome$Reader") (C := RX7) (T := TX7) (N := 10) hx hb hts fw_X7 tyX7 tyX7_ok nmX7 hown hK hs.1 hs.2.1 hs.2.2 0 rfl rfl 1 (by decide) (hts _ kf_X7_19) (fun _ h9 => h9) rfl hin rfl (by decide +kernel) rfl rfl (Nat.le_of_ble_eq_true rfl) dX7_init_28 (fun H6 locs6 h1 h2 h3 => ?_)
  have hs : ci_H P D ([(h0, .inr (7, [.int 0, .ref q3, .null, .null, .null, .null, .null, .null, .ref q1, .ref q2]))] ++ sl shC A5 T σ (0 + 1) 8) s.heap H6 locs6 := ⟨h1, h2, h3⟩
  refine lv_aload_n hx hb dX7_init_31 rfl (lv_at hl 0 rfl) ?_
  refine ci_newI (n := 8) (kd := 6) (Nc := 10) (n' := 4) (fs := [.int 0, .int 0, .int 0, .int 0, .int 0, .int 0, .long 0, .null, .null, .null]) C hN hA hM6 rfl fw_X6 tyX6 tyX6_ok dv_X6 (cb_in (cb_t1 (List.mem_of_getElem? (i := 102) rfl)) rfl) (cb_in (cb_t1 (List.mem_of_getElem? (i := 29) rfl)) rfl) (cb_in (cb_t1 (List.mem_of_getElem? (i := 3) rfl)) rfl) (cb_in (cb_t1 (List.mem_of_getElem? (i := 32) rfl)) rfl) (cb_in (cb_t1 (List.mem_of_getElem? (i := 31) rfl)) rfl) ⟨by decide +kernel, by decide +kernel, by decide +kernel⟩ rfl (Or.inr hN.2.2.1) ⟨by decide, by decide⟩ (by decide) (by decide) (slC_of shC hk 1 8 (by decide) (by decide)) (slC_of shC hk (1 + 8) 4 (by decide) (by decide)) hs hl (Nat.le_of_ble_eq_true rfl) dX7_init_32 dX7_init_35 dX7_init_36 (fun A7 H7 locs7 g7 hs _ => ?_) (by decide)
  have e0 := (g7 0 (by omega)).trans e0
  have e1 := (g7 (0 + 1 + 0) (by omega)).trans e1
  have e2 := (g7 (0 + 1 + 1) (by omega)).trans e2
  have e3 := (g7 (0 + 1 + 2) (by omega)).trans e3
  obtain ⟨q9, e9⟩ : ∃ q, A7 (0 + 1 + 8) = q := ⟨_, rfl⟩
  rw [e9]
  refine va_putF (D := D) (ci := 7) (v := .ref q9) (ty := .object "CardBecome$Table") (C := RX7) (T := TX7) (N := 10) hx hb hts fw_X7 tyX7 tyX7_ok nmX7 hown hK hs.1 hs.2.1 hs.2.2 0 rfl rfl 2 (by decide) (hts _ kf_X7_26) (fun _ h9 => h9) rfl hin rfl (by decide +kernel) rfl rfl (Nat.le_of_ble_eq_true rfl) dX7_init_39 (fun H8 locs8 h1 h2 h3 => ?_)
  have hs : ci_H P D ([(h0, .inr (7, [.int 0, .ref q3, .ref q9, .null, .null, .null, .null, .null, .ref q1, .ref q2]))] ++ sl shC A7 T σ (0 + 1) 12) s.heap H8 locs8 := ⟨h1, h2, h3⟩
  refine lv_aload_n hx hb dX7_init_42 rfl (lv_at hl 0 rfl) ?_
  refine ci_newI (n := 12) (kd := 4) (Nc := 7) (n' := 5) (fs := [.int 0, .int 0, .int 0, .null, .null, .null, .null]) C hN hA hM4 rfl fw_X4 tyX4 tyX4_ok dv_X4 (cb_in (cb_t1 (List.mem_of_getElem? (i := 104) rfl)) rfl) (cb_in (cb_t1 (List.mem_of_getElem? (i := 105) rfl)) rfl) (cb_in (cb_t1 (List.mem_of_getElem? (i := 4) rfl)) rfl) (cb_in (cb_t1 (List.mem_of_getElem? (i := 108) rfl)) rfl) (cb_in (cb_t1 (List.mem_of_getElem? (i := 107) rfl)) rfl) ⟨by decide +kernel, by decide +kernel, by decide +kernel⟩ rfl (Or.inl ml_X7_32) ⟨by decide, by decide⟩ (by decide) (by decide) (slC_of shC hk 1 12 (by decide) (by decide)) (slC_of shC hk (1 + 12) 5 (by decide) (by decide)) hs hl (Nat.le_of_ble_eq_true rfl) dX7_init_43 dX7_init_46 dX7_init_47 (fun A9 H9 locs9 g9 hs _ => ?_) (by decide)
  have e0 := (g9 0 (by omega)).trans e0
  have e1 := (g9 (0 + 1 + 0) (by omega)).trans e1
  have e2 := (g9 (0 + 1 + 1) (by omega)).trans e2
  have e3 := (g9 (0 + 1 + 2) (by omega)).trans e3
  have e9 := (g9 (0 + 1 + 8) (by omega)).trans e9
  obtain ⟨q13, e13⟩ : ∃ q, A9 (0 + 1 + 12) = q := ⟨_, rfl⟩
  rw [e13]
  refine va_putF (D := D) (ci := 7) (v := .ref q13) (ty := .object "CardBecome$Play") (C := RX7) (T := TX7) (N := 10) hx hb hts fw_X7 tyX7 tyX7_ok nmX7 hown hK hs.1 hs.2.1 hs.2.2 0 rfl rfl 3 (by decide) (hts _ kf_X7_33) (fun _ h9 => h9) rfl hin rfl (by decide +kernel) rfl rfl (Nat.le_of_ble_eq_true rfl) dX7_init_50 (fun H10 locs10 h1 h2 h3 => ?_)
  have hs : ci_H P D ([(h0, .inr (7, [.int 0, .ref q3, .ref q9, .ref q13, .null, .null, .null, .null, .ref q1, .ref q2]))] ++ sl shC A9 T σ (0 + 1) 17) s.heap H10 locs10 := ⟨h1, h2, h3⟩
  refine lv_aload_n hx hb dX7_init_53 rfl (lv_at hl 0 rfl) ?_
  refine ci_newI (n := 17) (kd := 3) (Nc := 3) (n' := 82) (fs := [.int 0, .int 0, .null]) C hN hA hM3 rfl fw_X3 tyX3 tyX3_ok dv_X3 (cb_in (cb_t1 (List.mem_of_getElem? (i := 139) rfl)) rfl) (cb_in (cb_t1 (List.mem_of_getElem? (i := 140) rfl)) rfl) (cb_in (cb_t1 (List.mem_of_getElem? (i := 6) rfl)) rfl) (cb_in (cb_t1 (List.mem_of_getElem? (i := 143) rfl)) rfl) (cb_in (cb_t1 (List.mem_of_getElem? (i := 142) rfl)) rfl) ⟨by decide +kernel, by decide +kernel, by decide +kernel⟩ rfl (Or.inl ml_X7_39) ⟨by decide, by decide⟩ (by decide) (by decide) (slC_of shC hk 1 17 (by decide) (by decide)) (slC_of shC hk (1 + 17) 82 (by decide) (by decide)) hs hl (Nat.le_of_ble_eq_true rfl) dX7_init_54 dX7_init_57 dX7_init_58 (fun A11 H11 locs11 g11 hs _ => ?_) (by decide)
  have e0 := (g11 0 (by omega)).trans e0
  have e1 := (g11 (0 + 1 + 0) (by omega)).trans e1
  have e2 := (g11 (0 + 1 + 1) (by omega)).trans e2
  have e3 := (g11 (0 + 1 + 2) (by omega)).trans e3
  have e9 := (g11 (0 + 1 + 8) (by omega)).trans e9
  have e13 := (g11 (0 + 1 + 12) (by omega)).trans e13
  obtain ⟨q18, e18⟩ : ∃ q, A11 (0 + 1 + 17) = q := ⟨_, rfl⟩
  rw [e18]
  refine va_putF (D := D) (ci := 7) (v := .ref q18) (ty := .object "CardBecome$Past") (C := RX7) (T := TX7) (N := 10) hx hb hts fw_X7 tyX7 tyX7_ok nmX7 hown hK hs.1 hs.2.1 hs.2.2 0 rfl rfl 4 (by decide) (hts _ kf_X7_40) (fun _ h9 => h9) rfl hin rfl (by decide +kernel) rfl rfl (Nat.le_of_ble_eq_true rfl) dX7_init_61 (fun H12 locs12 h1 h2 h3 => ?_)
  have hs : ci_H P D ([(h0, .inr (7, [.int 0, .ref q3, .ref q9, .ref q13, .ref q18, .null, .null, .null, .ref q1, .ref q2]))] ++ sl shC A11 T σ (0 + 1) 99) s.heap H12 locs12 := ⟨h1, h2, h3⟩
  refine lv_aload_n hx hb dX7_init_64 rfl (lv_at hl 0 rfl) ?_
  refine ci_newI (n := 99) (kd := 2) (Nc := 7) (n' := 6) (fs := [.int 0, .int 0, .null, .null, .null, .null, .null]) C hN hA hM2 rfl fw_X2 tyX2 tyX2_ok dv_X2 (cb_in (cb_t1 (List.mem_of_getElem? (i := 159) rfl)) rfl) (cb_in (cb_t1 (List.mem_of_getElem? (i := 160) rfl)) rfl) (cb_in (cb_t1 (List.mem_of_getElem? (i := 7) rfl)) rfl) (cb_in (cb_t1 (List.mem_of_getElem? (i := 163) rfl)) rfl) (cb_in (cb_t1 (List.mem_of_getElem? (i := 162) rfl)) rfl) ⟨by decide +kernel, by decide +kernel, by decide +kernel⟩ rfl (Or.inr hN.2.2.2.1) ⟨by decide, by decide⟩ (by decide) (by decide) (slC_of shC hk 1 99 (by decide) (by decide)) (slC_of shC hk (1 + 99) 6 (by decide) (by decide)) hs hl (Nat.le_of_ble_eq_true rfl) dX7_init_65 dX7_init_68 dX7_init_69 (fun A13 H13 locs13 g13 hs _ => ?_) (by decide)
  have e0 := (g13 0 (by omega)).trans e0
  have e1 := (g13 (0 + 1 + 0) (by omega)).trans e1
  have e2 := (g13 (0 + 1 + 1) (by omega)).trans e2
  have e3 := (g13 (0 + 1 + 2) (by omega)).trans e3
  have e9 := (g13 (0 + 1 + 8) (by omega)).trans e9
  have e13 := (g13 (0 + 1 + 12) (by omega)).trans e13
  have e18 := (g13 (0 + 1 + 17) (by omega)).trans e18
  obtain ⟨q100, e100⟩ : ∃ q, A13 (0 + 1 + 99) = q := ⟨_, rfl⟩
  rw [e100]
  refine va_putF (D := D) (ci := 7) (v := .ref q100) (ty := .object "CardBecome$Papers") (C := RX7) (T := TX7) (N := 10) hx hb hts fw_X7 tyX7 tyX7_ok nmX7 hown hK hs.1 hs.2.1 hs.2.2 0 rfl rfl 5 (by decide) (hts _ kf_X7_47) (fun _ h9 => h9) rfl hin rfl (by decide +kernel) rfl rfl (Nat.le_of_ble_eq_true rfl) dX7_init_72 (fun H14 locs14 h1 h2 h3 => ?_)
  have hs : ci_H P D ([(h0, .inr (7, [.int 0, .ref q3, .ref q9, .ref q13, .ref q18, .ref q100, .null, .null, .ref q1, .ref q2]))] ++ sl shC A13 T σ (0 + 1) 105) s.heap H14 locs14 := ⟨h1, h2, h3⟩
  refine lv_aload_n hx hb dX7_init_75 rfl (lv_at hl 0 rfl) ?_
  refine ci_newI (n := 105) (kd := 0) (Nc := 7) (n' := 5) (fs := [.int 0, .int 0, .int 0, .null, .null, .null, .null]) C hN hA hM0 rfl fw_X0 tyX0 tyX0_ok dv_X0 (cb_in (cb_t1 (List.mem_of_getElem? (i := 190) rfl)) rfl) (cb_in (cb_t1 (List.mem_of_getElem? (i := 191) rfl)) rfl) (cb_in (cb_t1 (List.mem_of_getElem? (i := 8) rfl)) rfl) (cb_in (cb_t1 (List.mem_of_getElem? (i := 194) rfl)) rfl) (cb_in (cb_t1 (List.mem_of_getElem? (i := 193) rfl)) rfl) ⟨by decide +kernel, by decide +kernel, by decide +kernel⟩ rfl (Or.inr hN.2.2.2.2.1) ⟨by decide, by decide⟩ (by decide) (by decide) (slC_of shC hk 1 105 (by decide) (by decide)) (slC_of shC hk (1 + 105) 5 (by decide) (by decide)) hs hl (Nat.le_of_ble_eq_true rfl) dX7_init_76 dX7_init_79 dX7_init_80 (fun A15 H15 locs15 g15 hs _ => ?_) (by decide)
  have e0 := (g15 0 (by omega)).trans e0
  have e1 := (g15 (0 + 1 + 0) (by omega)).trans e1
  have e2 := (g15 (0 + 1 + 1) (by omega)).trans e2
  have e3 := (g15 (0 + 1 + 2) (by omega)).trans e3
  have e9 := (g15 (0 + 1 + 8) (by omega)).trans e9
  have e13 := (g15 (0 + 1 + 12) (by omega)).trans e13
  have e18 := (g15 (0 + 1 + 17) (by omega)).trans e18
  have e100 := (g15 (0 + 1 + 99) (by omega)).trans e100
  obtain ⟨q106, e106⟩ : ∃ q, A15 (0 + 1 + 105) = q := ⟨_, rfl⟩
  rw [e106]
  refine va_putF (D := D) (ci := 7) (v := .ref q106) (ty := .object "CardBecome$Deals") (C := RX7) (T := TX7) (N := 10) hx hb hts fw_X7 tyX7 tyX7_ok nmX7 hown hK hs.1 hs.2.1 hs.2.2 0 rfl rfl 6 (by decide) (hts _ kf_X7_54) (fun _ h9 => h9) rfl hin rfl (by decide +kernel) rfl rfl (Nat.le_of_ble_eq_true rfl) dX7_init_83 (fun H16 locs16 h1 h2 h3 => ?_)
  have hs : ci_H P D ([(h0, .inr (7, [.int 0, .ref q3, .ref q9, .ref q13, .ref q18, .ref q100, .ref q106, .null, .ref q1, .ref q2]))] ++ sl shC A15 T σ (0 + 1) 110) s.heap H16 locs16 := ⟨h1, h2, h3⟩
  refine lv_aload_n hx hb dX7_init_86 rfl (lv_at hl 0 rfl) ?_
  refine lv_iconst (v := 2) hx hb dX7_init_87 (by decide) ?_
  refine va_newq hx hb hown (hts (.classLink RX7 58 RX1) (cb_in (cb_t1 (List.mem_of_getElem? (i := 219) rfl)) rfl)) hN.2.2.2.2.2.2.2.2 hK hs.1 hs.2.1 hs.2.2 hA (N' := 2) (by decide) (by decide) (by decide) (by decide) (by decide) dX7_init_88 (fun q111 cA H88 hK1 h1 h2 h3 => ?_)
  have eT := rowT2 hK hK1
  subst eT
  refine va_putF (D := D) (ci := 7) (v := .ref q111) (ty := .array (.object "CardBecome$Image")) (C := RX7) (T := TX7) (N := 10) hx hb hts fw_X7 tyX7 tyX7_ok nmX7 hown hK h1 h2 h3 0 rfl rfl 7 (by decide) (hts _ kf_X7_60) (fun _ h9 => h9) rfl hin rfl (by decide +kernel) rfl rfl (Nat.le_of_ble_eq_true rfl) dX7_init_91 (fun H91 locs91 h1 h2 h3 => ?_)
  have hperm : (([(h0, (Sum.inr (7, [.int 0, .ref q3, .ref q9, .ref q13, .ref q18, .ref q100, .ref q106, .ref q111, .ref q1, .ref q2]) : va_E))] ++ sl shC A15 T σ 1 110) ++ [(q111, rw_ (T 2) 2 (fun _ => none))]).Perm (((h0, (Sum.inr (7, [.int 0, .ref q3, .ref q9, .ref q13, .ref q18, .ref q100, .ref q106, .ref q111, .ref q1, .ref q2]) : va_E)) :: (q111, rw_ (T 2) 2 (fun _ => none)) :: sl shC A15 T σ 1 110) ++ sl shC (fun j => if j < 111 then A15 j else q111) T σ 112 (6 * 0)) := by
    show ((h0, (Sum.inr (7, [.int 0, .ref q3, .ref q9, .ref q13, .ref q18, .ref q100, .ref q106, .ref q111, .ref q1, .ref q2]) : va_E)) :: (sl shC A15 T σ 1 110 ++ [(q111, rw_ (T 2) 2 (fun _ => none))])).Perm ((h0, (Sum.inr (7, [.int 0, .ref q3, .ref q9, .ref q13, .ref q18, .ref q100, .ref q106, .ref q111, .ref q1, .ref q2]) : va_E)) :: (q111, rw_ (T 2) 2 (fun _ => none)) :: (sl shC A15 T σ 1 110 ++ []))
    rw [List.append_nil]
    exact List.Perm.cons _ List.perm_append_comm
  have hs : ci_H P D (((h0, (Sum.inr (7, [.int 0, .ref q3, .ref q9, .ref q13, .ref q18, .ref q100, .ref q106, .ref q111, .ref q1, .ref q2]) : va_E)) :: (q111, rw_ (T 2) 2 (fun _ => none)) :: sl shC A15 T σ 1 110) ++ sl shC (fun j => if j < 111 then A15 j else q111) T σ 112 (6 * 0)) s.heap H91 locs91 := ⟨P_perm hperm h1, D_perm hperm h2, h3⟩
  refine lv_iconst (v := 0) hx hb dX7_init_94 (by decide) ?_
  refine lv_istore_n (lv' := [(1, .int 0), (0, .ref h0)]) hx hb dX7_init_95 rfl hl (by decide) rfl (fun ls hl => ?_)
  refine W.widen (k := 500 + 13 * 0) (n := 5000 + 203 * 0) (by decide) (by decide) ?_
  refine card_loop (A0 := A15) C hN hA hM1 (fun A ga e111 => ?_) e0 2 0 rfl (fun j => if j < 111 then A15 j else q111) (fun _ => none) H91 locs91 ls (fun j hj => if_pos hj) (if_neg (by decide)) (fun j hj => absurd hj (by omega)) hs (lv_sub hl [1, 0] rfl)
  rw [show shC.getD 0 0 = 7 from rfl, hb0]
  show (Sum.inr (7, [.int 0, .ref (A (0 + 1 + 2)), .ref (A (0 + 1 + 8)), .ref (A (0 + 1 + 12)), .ref (A (0 + 1 + 17)), .ref (A (0 + 1 + 99)), .ref (A (0 + 1 + 105)), .ref (A (111)), .ref (A (0 + 1 + 0)), .ref (A (0 + 1 + 1))]) : va_E) = _
  rw [e111, (ga (0 + 1 + 2) (by omega)).trans e3, (ga (0 + 1 + 8) (by omega)).trans e9, (ga (0 + 1 + 12) (by omega)).trans e13, (ga (0 + 1 + 17) (by omega)).trans e18, (ga (0 + 1 + 99) (by omega)).trans e100, (ga (0 + 1 + 105) (by omega)).trans e106, (ga (0 + 1 + 0) (by omega)).trans e1, (ga (0 + 1 + 1) (by omega)).trans e2]
