/-! ===== the law ===== -/
section LL
variable {p : Program} {l : Launch} {e : Env} {s : State} {m : MethodId} {below : List Frame} {meth : Method} {c : Code} {A B : Nat → Nat} {T : Nat → ClassId} {D : va_G} {b L : Nat} {xs : Nat → Int32}
theorem w63 (x : Int32) : (x &&& 63).toInt < 0 ∨ 34 < (x &&& 63).toInt ∨ ∃ k : Nat, k < 35 ∧ x &&& 63 = zI (k : Int) := by
  by_cases h1 : (x &&& 63).toInt < 0
  · exact Or.inl h1
  · by_cases h2 : 34 < (x &&& 63).toInt
    · exact Or.inr (Or.inl h2)
    · refine Or.inr (Or.inr ⟨(x &&& 63).toInt.toNat, by omega, ?_⟩)
      rw [Int.toNat_of_nonneg (by omega)]
      exact zI_of _
set_option maxHeartbeats 4000000 in
set_option maxRecDepth 100000 in
theorem law_loop (C : cb_C p s m #[.ref b] meth c code 4 ret R_law D T) (hX : va_X b L xs s s.heap) (hbl : b < s.heap.size) (hL : L ≤ 256) :
    ∀ (r i : Nat), i ≤ L + 4 → L + 5 ≤ i + r → ∀ (σ τ : cb_St) (H : Heap) (locs : List Loc) (ls : Array Slot), Rel σ τ → ci_H (fun q => s.heap.size ≤ q) D (cb_wS shC A T σ ++ cb_wS shM B T τ) s.heap H locs → lv_has ls 4 [(0, .ref b), (1, .ref (A 0)), (2, .ref (B 0)), (3, .int (zI i))] →
      W p l e room_1 s m #[.ref b] below meth c H locs 10000 100000 (lw_Z below #[.ref b] s) (F0 m 18 ls []) := by
  obtain ⟨hx, hb, hml, hr, hown, hts, hK, hlk, hNn⟩ := id C
  have hbA : ¬ (fun q : Nat => s.heap.size ≤ q) b := Nat.not_le.mpr hbl
  intro r
  induction r with
  | zero => intro i h1 h2; exact absurd h2 (by omega)
  | succ r ih =>
    intro i h1 h2 σ τ H locs ls hR hs hl
    refine lv_iload_n hx hb dW_18 rfl (lv_at hl 3 rfl) ?_
    refine lv_aload_n hx hb dW_19 rfl (lv_at hl 0 rfl) ?_
    refine va_slen hx hb hX hbl hbA hs.2.2 dW_20 ?_
    refine lv_iconst (v := 4) hx hb dW_21 (by decide) ?_
    refine lv_isub hx hb dW_22 ?_
    have e4 : Int32.ofNat L - 4 = zI ((L : Int) - 4) := by
      rw [show Int32.ofNat L = zI (L : Int) from (zI_nat L).symm, show (4 : Int32) = zI 4 from rfl, zI_sub]
    rw [e4]
    refine lv_icmp_gt (tgt := 1059) hx hb dW_23 (by decide) (fun cn => ?_) (fun cn => ?_)
    · refine lv_iconst (v := 1) hx hb dW_1059 (by decide) ?_
      refine va_forget (fun q hq => hs.2.2.2.2 q hq) ?_
      refine W.widen (k := 600000) (n := 7302250) (by decide) (by decide) ?_
      exact lw_ret hx hb hr hlk dW_1060
    · have hi4 : i + 4 ≤ L := by
        by_cases q : i + 4 ≤ L
        · exact q
        · exact absurd (by rw [zI_lt (by omega) (by omega) (by omega) (by omega)]; omega) cn
      refine lv_aload_n hx hb dW_26 rfl (lv_at hl 0 rfl) ?_
      refine lv_iload_n hx hb dW_27 rfl (lv_at hl 3 rfl) ?_
      have hin : vp_in (zI (i : Int)) L := by
        intro q
        rcases q with q | q
        · rw [show (0 : Int32) = zI 0 from rfl, zI_lt (by omega) (by omega) (by omega) (by omega)] at q; omega
        · rw [zI_clamp (by omega) (by omega)] at q; omega
      refine va_sld hx hb hX hbl hbA hs.2.2 hin dW_28 ?_
      refine lv_bipush (v := 63) hx hb dW_29 (by decide) ?_
      refine lv_iand hx hb dW_31 ?_
      have kk : ∀ (σ' τ' : cb_St) (H1 : Heap) (locs1 : List Loc), Rel σ' τ' → ci_H (fun q => s.heap.size ≤ q) D (cb_wS shC A T σ' ++ cb_wS shM B T τ') s.heap H1 locs1 → W p l e room_1 s m #[.ref b] below meth c H1 locs1 10000 100000 (lw_Z below #[.ref b] s) (F0 m 1053 ls []) := by
        intro σ' τ' H1 locs1 hR1 hs1
        refine lv_iinc (v := zI ((i + 4 : Nat) : Int)) (lv' := [(3, .int (zI ((i + 4 : Nat) : Int))), (0, .ref b), (1, .ref (A 0)), (2, .ref (B 0))]) hx hb dW_1053 hl (k := 3) rfl (by rw [show Int32.ofInt 4 = zI 4 from rfl, zI_add, al_4]) (by decide) rfl (fun ls hl => ?_)
        refine lv_goto (tgt := 18) hx hb dW_1056 (by decide) ?_
        exact ih (i + 4) (by omega) (by omega) σ' τ' H1 locs1 ls hR1 hs1 (lv_sub hl [1, 2, 3, 0] rfl)
      have hc : (10000 : Nat) ≤ room_1.cells := by decide
      have hsl : (100000 : Nat) ≤ room_1.slots := by decide
      rcases w63 (xs (zI (i : Int)).toNatClampNeg) with h | h | ⟨k, hk, h⟩
      · exact lv_tableOut (tgt := 1053) hx hb dW_32 (Or.inl h) (by decide) (kk σ τ H locs hR hs)
      · exact lv_tableOut (tgt := 1053) hx hb dW_32 (Or.inr h) (by decide) (kk σ τ H locs hR hs)
      · rw [h]
        match k, hk with
      | 0, _ => exact lv_tableIn (tgt := 188) hx hb dW_32 (by decide) (by decide) rfl (by decide) (lc_feed C hX hbl hi4 hL hR hs hl hc hsl kk)
      | 1, _ => exact lv_tableIn (tgt := 211) hx hb dW_32 (by decide) (by decide) rfl (by decide) (lc_table C hX hbl hi4 hL hR hs hl hc hsl kk)
      | 2, _ => exact lv_tableIn (tgt := 224) hx hb dW_32 (by decide) (by decide) rfl (by decide) (lc_fault C hX hbl hi4 hL hR hs hl hc hsl kk)
      | 3, _ => exact lv_tableIn (tgt := 237) hx hb dW_32 (by decide) (by decide) rfl (by decide) (lc_told C hX hbl hi4 hL hR hs hl hc hsl kk)
      | 4, _ => exact lv_tableIn (tgt := 260) hx hb dW_32 (by decide) (by decide) rfl (by decide) (lc_card C hX hbl hi4 hL hR hs hl hc hsl kk)
      | 5, _ => exact lv_tableIn (tgt := 293) hx hb dW_32 (by decide) (by decide) rfl (by decide) (lc_pack C hX hbl hi4 hL hR hs hl hc hsl kk)
      | 6, _ => exact lv_tableIn (tgt := 316) hx hb dW_32 (by decide) (by decide) rfl (by decide) (lc_person C hX hbl hi4 hL hR hs hl hc hsl kk)
      | 7, _ => exact lv_tableIn (tgt := 349) hx hb dW_32 (by decide) (by decide) rfl (by decide) (lc_logged C hX hbl hi4 hL hR hs hl hc hsl kk)
      | 8, _ => exact lv_tableIn (tgt := 382) hx hb dW_32 (by decide) (by decide) rfl (by decide) (lc_drawOne C hX hbl hi4 hL hR hs hl hc hsl kk)
      | 9, _ => exact lv_tableIn (tgt := 405) hx hb dW_32 (by decide) (by decide) rfl (by decide) (lc_getBack C hX hbl hi4 hL hR hs hl hc hsl kk)
      | 10, _ => exact lv_tableIn (tgt := 428) hx hb dW_32 (by decide) (by decide) rfl (by decide) (lc_meet C hX hbl hi4 hL hR hs hl hc hsl kk)
      | 11, _ => exact lv_tableIn (tgt := 461) hx hb dW_32 (by decide) (by decide) rfl (by decide) (lc_force C hX hbl hi4 hL hR hs hl hc hsl kk)
      | 12, _ => exact lv_tableIn (tgt := 484) hx hb dW_32 (by decide) (by decide) rfl (by decide) (lc_shuffle C hX hbl hi4 hL hR hs hl hc hsl kk)
      | 13, _ => exact lv_tableIn (tgt := 507) hx hb dW_32 (by decide) (by decide) rfl (by decide) (lc_drawer C hX hbl hi4 hL hR hs hl hc hsl kk)
      | 14, _ => exact lv_tableIn (tgt := 530) hx hb dW_32 (by decide) (by decide) rfl (by decide) (lc_out C hX hbl hi4 hL hR hs hl hc hsl kk)
      | 15, _ => exact lv_tableIn (tgt := 553) hx hb dW_32 (by decide) (by decide) rfl (by decide) (lc_drift C hX hbl hi4 hL hR hs hl hc hsl kk)
      | 16, _ => exact lv_tableIn (tgt := 576) hx hb dW_32 (by decide) (by decide) rfl (by decide) (lc_undo C hX hbl hi4 hL hR hs hl hc hsl kk)
      | 17, _ => exact lv_tableIn (tgt := 589) hx hb dW_32 (by decide) (by decide) rfl (by decide) (lc_beats C hX hbl hi4 hL hR hs hl hc hsl kk)
      | 18, _ => exact lv_tableIn (tgt := 622) hx hb dW_32 (by decide) (by decide) rfl (by decide) (lc_rings C hX hbl hi4 hL hR hs hl hc hsl kk)
      | 19, _ => exact lv_tableIn (tgt := 645) hx hb dW_32 (by decide) (by decide) rfl (by decide) (lc_order C hX hbl hi4 hL hR hs hl hc hsl kk)
      | 20, _ => exact lv_tableIn (tgt := 668) hx hb dW_32 (by decide) (by decide) rfl (by decide) (lc_row C hX hbl hi4 hL hR hs hl hc hsl kk)
      | 21, _ => exact lv_tableIn (tgt := 711) hx hb dW_32 (by decide) (by decide) rfl (by decide) (lc_tells C hX hbl hi4 hL hR hs hl hc hsl kk)
      | 22, _ => exact lv_tableIn (tgt := 724) hx hb dW_32 (by decide) (by decide) rfl (by decide) (lc_odds C hX hbl hi4 hL hR hs hl hc hsl kk)
      | 23, _ => exact lv_tableIn (tgt := 757) hx hb dW_32 (by decide) (by decide) rfl (by decide) (lc_back C hX hbl hi4 hL hR hs hl hc hsl kk)
      | 24, _ => exact lv_tableIn (tgt := 780) hx hb dW_32 (by decide) (by decide) rfl (by decide) (lc_missing C hX hbl hi4 hL hR hs hl hc hsl kk)
      | 25, _ => exact lv_tableIn (tgt := 803) hx hb dW_32 (by decide) (by decide) rfl (by decide) (lc_wanted C hX hbl hi4 hL hR hs hl hc hsl kk)
      | 26, _ => exact lv_tableIn (tgt := 826) hx hb dW_32 (by decide) (by decide) rfl (by decide) (lc_see C hX hbl hi4 hL hR hs hl hc hsl kk)
      | 27, _ => exact lv_tableIn (tgt := 869) hx hb dW_32 (by decide) (by decide) rfl (by decide) (lc_deals C hX hbl hi4 hL hR hs hl hc hsl kk)
      | 28, _ => exact lv_tableIn (tgt := 902) hx hb dW_32 (by decide) (by decide) rfl (by decide) (lc_ask C hX hbl hi4 hL hR hs hl hc hsl kk)
      | 29, _ => exact lv_tableIn (tgt := 925) hx hb dW_32 (by decide) (by decide) rfl (by decide) (lc_write C hX hbl hi4 hL hR hs hl hc hsl kk)
      | 30, _ => exact lv_tableIn (tgt := 958) hx hb dW_32 (by decide) (by decide) rfl (by decide) (lc_tear C hX hbl hi4 hL hR hs hl hc hsl kk)
      | 31, _ => exact lv_tableIn (tgt := 971) hx hb dW_32 (by decide) (by decide) rfl (by decide) (lc_judge C hX hbl hi4 hL hR hs hl hc hsl kk)
      | 32, _ => exact lv_tableIn (tgt := 984) hx hb dW_32 (by decide) (by decide) rfl (by decide) (lc_seed C hX hbl hi4 hL hR hs hl hc hsl kk)
      | 33, _ => exact lv_tableIn (tgt := 1007) hx hb dW_32 (by decide) (by decide) rfl (by decide) (lc_keep C hX hbl hi4 hL hR hs hl hc hsl kk)
      | 34, _ => exact lv_tableIn (tgt := 1030) hx hb dW_32 (by decide) (by decide) rfl (by decide) (lc_goBack C hX hbl hi4 hL hR hs hl hc hsl kk)
      | k + 35, hk => exact absurd hk (by omega)
theorem arr_K {s : State} {args : Array Value} {t : FieldType} (h : (Cond.arrayClass t).before args s = true) : ∃ cA : ClassId, ArrOfT s cA t ∧ s.vm.findClass ("[" ++ t.toString) = some cA := by
  obtain ⟨cA, kA, comp, h1, h2, h3⟩ := Cond.arrayClass_spec h
  exact ⟨cA, fun n z => ⟨fun k h => (by cases h), kA, h2, comp, h3⟩, h1⟩
theorem arr_O {s : State} {args : Array Value} {n : String} (h : (Cond.arrayOver (.object n)).before args s = true) : ∃ cA : ClassId, ArrOfT s cA (.object n) ∧ va_RA s cA (.object n) := by
  obtain ⟨comp, cA, kA, h1, h2, h3, h4, h5⟩ := Cond.arrayOver_spec h
  exact ⟨cA, fun N z => ⟨(fun k h => by cases h), kA, h3, comp, h4⟩, kA, comp, h3, h4, h1, h5⟩
theorem law_K {args : Array Value} (hts : ∀ w ∈ lw_tbl, w.before args s = true) : ∃ (D : va_G) (T : Nat → ClassId), va_K D cb_cl (cb_ty T) s := by
  have hg : ∀ w ∈ cb_gt, w.before args s = true := fun w h => hts w (cb_lw h)
  obtain ⟨c0, i0, k0⟩ := u_known (C := RX0) (T := TX0) (N := 7) (n := 7) hg fw_X0 (hg _ (cb_in (cb_t1 (List.mem_of_getElem? (i := 191) rfl)) rfl))
  obtain ⟨c1, i1, k1⟩ := u_known (C := RX1) (T := TX1) (N := 3) (n := 3) hg fw_X1 (hg _ (cb_in (cb_t1 (List.mem_of_getElem? (i := 221) rfl)) rfl))
  obtain ⟨c2, i2, k2⟩ := u_known (C := RX2) (T := TX2) (N := 7) (n := 7) hg fw_X2 (hg _ (cb_in (cb_t1 (List.mem_of_getElem? (i := 160) rfl)) rfl))
  obtain ⟨c3, i3, k3⟩ := u_known (C := RX3) (T := TX3) (N := 3) (n := 3) hg fw_X3 (hg _ (cb_in (cb_t1 (List.mem_of_getElem? (i := 140) rfl)) rfl))
  obtain ⟨c4, i4, k4⟩ := u_known (C := RX4) (T := TX4) (N := 7) (n := 7) hg fw_X4 (hg _ (cb_in (cb_t1 (List.mem_of_getElem? (i := 105) rfl)) rfl))
  obtain ⟨c5, i5, k5⟩ := u_known (C := RX5) (T := TX5) (N := 6) (n := 6) hg fw_X5 (hg _ (cb_in (cb_t1 (List.mem_of_getElem? (i := 23) rfl)) rfl))
  obtain ⟨c6, i6, k6⟩ := u_known (C := RX6) (T := TX6) (N := 10) (n := 10) hg fw_X6 (hg _ (cb_in (cb_t1 (List.mem_of_getElem? (i := 29) rfl)) rfl))
  obtain ⟨c7, i7, k7⟩ := u_known (C := RX7) (T := TX7) (N := 10) (n := 10) hg fw_X7 (hg _ (cb_in (cb_t1 (List.mem_of_getElem? (i := 15) rfl)) rfl))
  obtain ⟨c8, i8, k8⟩ := u_known (C := RX8) (T := TX8) (N := 40) (n := 40) hg fw_X8 (hg _ (cb_in (cb_t4 (List.mem_of_getElem? (i := 106) rfl)) rfl))
  obtain ⟨t0, a0, b0⟩ := arr_K (hg _ ka_int)
  obtain ⟨t3, a3, b3⟩ := arr_K (hg _ ka_bool)
  obtain ⟨t1, a1, b1⟩ := arr_O (hts (.arrayOver (.object RX4)) (List.mem_append_right _ (cb_t1 (List.mem_of_getElem? (i := 146) rfl))))
  obtain ⟨t2, a2, b2⟩ := arr_O (hts (.arrayOver (.object RX1)) (List.mem_append_right _ (cb_t1 (List.mem_of_getElem? (i := 220) rfl))))
  refine ⟨(fun k => match k with | 0 => c0 | 1 => c1 | 2 => c2 | 3 => c3 | 4 => c4 | 5 => c5 | 6 => c6 | 7 => c7 | _ => c8, fun k => match k with | 0 => i0 | 1 => i1 | 2 => i2 | 3 => i3 | 4 => i4 | 5 => i5 | 6 => i6 | 7 => i7 | _ => i8), fun k => match k with | 0 => t0 | 1 => t1 | 2 => t2 | _ => t3, ?_, ?_⟩
  · intro k q hq
    match k, hq with
    | 0, hq => cases hq; exact k0
    | 1, hq => cases hq; exact k1
    | 2, hq => cases hq; exact k2
    | 3, hq => cases hq; exact k3
    | 4, hq => cases hq; exact k4
    | 5, hq => cases hq; exact k5
    | 6, hq => cases hq; exact k6
    | 7, hq => cases hq; exact k7
    | 8, hq => cases hq; exact k8
    | k + 9, hq => simp [cb_cl] at hq
  · intro k q hq
    match k, hq with
    | 0, hq => cases hq; exact ⟨a0, b0⟩
    | 1, hq => cases hq; exact ⟨a1, b1⟩
    | 2, hq => cases hq; exact ⟨a2, b2⟩
    | 3, hq => cases hq; exact ⟨a3, b3⟩
    | k + 4, hq => simp [cb_ty] at hq
theorem law_N {args : Array Value} (hts : ∀ w ∈ lw_tbl, w.before args s = true) : ci_N s :=
  ⟨va_Nw.of rfl (hts _ (List.mem_append_right _ (cb_t3 (List.mem_of_getElem? (i := 111) rfl)))), va_Nw.of rfl (hts _ (List.mem_append_right _ (cb_t1 (List.mem_of_getElem? (i := 24) rfl)))), va_Nw.of rfl (hts _ (List.mem_append_right _ (cb_t1 (List.mem_of_getElem? (i := 103) rfl)))), va_Nw.of rfl (hts _ (List.mem_append_right _ (cb_t1 (List.mem_of_getElem? (i := 161) rfl)))), va_Nw.of rfl (hts _ (List.mem_append_right _ (cb_t1 (List.mem_of_getElem? (i := 192) rfl)))), va_Nw.of rfl (hts _ (List.mem_append_right _ (cb_t1 (List.mem_of_getElem? (i := 222) rfl)))), va_Nw.of rfl (hts _ (List.mem_append_right _ (cb_t1 (List.mem_of_getElem? (i := 30) rfl)))), va_AO.of (hts _ (List.mem_append_right _ (cb_t1 (List.mem_of_getElem? (i := 146) rfl)))), va_AO.of (hts _ (List.mem_append_right _ (cb_t1 (List.mem_of_getElem? (i := 220) rfl))))⟩
end LL
theorem slC_C : slC shC 0 124 := by
  have h : ∀ j, j < 124 → j + rfN (shC.getD (0 + j) 0) < 124 := by decide
  exact slC_of (b := 0) (N := 124) shC (fun j _ => by rw [Nat.zero_add]) 0 124 h (by decide)
theorem slC_M : slC shM 0 21 := by
  have h : ∀ j, j < 21 → j + rfN (shM.getD (0 + j) 0) < 21 := by decide
  exact slC_of (b := 0) (N := 21) shM (fun j _ => by rw [Nat.zero_add]) 0 21 h (by decide)
theorem slC_0 (sh : List Nat) (k : Nat) : slC sh k 0 := fun j h1 h2 => absurd h2 (by omega)
set_option maxHeartbeats 4000000 in
set_option maxRecDepth 100000 in
/-- THE LAW, from its entry -/
theorem whole_start {p : Program} {e : Env} {s : State} {m : MethodId} {below : List Frame} {meth : Method} {c : Code} (l : Launch) {b L : Nat} {xs : Nat → Int32} (hL : L ≤ 256) (C0 : lw_At p s m meth c b L xs) : W p l e room_1 s m #[Value.ref b] below meth c s.heap [] 0 0 (lw_Z below #[Value.ref b] s) (entryFrame m ([Value.ref b] : List Value).toArray 4) := by
  obtain ⟨hx, hb, hr, hml, hown, hts, hX, hbl, hlocks, hgv⟩ := id C0
  obtain ⟨D, T, hK⟩ := law_K hts
  have hN := law_N hts
  have C : cb_C p s m #[.ref b] meth c code 4 ret R_law D T := ⟨hx, hb, hml, hr, hown, fun w h => hts w (cb_lw h), hK, hlocks, hN.1⟩
  have hA : ∀ q : Nat, s.heap.size ≤ q → (fun q : Nat => s.heap.size ≤ q) q := fun _ h => h
  have hl := lv_entry ([.ref b]) (n := 4) (Nat.le_of_ble_eq_true rfl)
  rw [lg_entry_eq]
  generalize (lg_sl ([.ref b]) ++ List.replicate (4 - (lg_sl ([.ref b])).length) Slot.unset).toArray = ls at hl ⊢
  have hl : lv_has ls 4 [(0, .ref b)] := hl
  have hs : ci_H (fun q => s.heap.size ≤ q) D (([] : va_W) ++ sl shC (fun _ => 0) T σI 0 0) s.heap s.heap [] := ⟨fun k q h => by simp [sl] at h, ⟨fun i j p q h => by simp [sl] at h, fun k q h => by simp [sl] at h⟩, va_S.rf⟩
  refine ci_newI (k := 0) (n := 0) (kd := 7) (Nc := 10) (n' := 124) C hN hA mk_card rfl fw_X7 tyX7 tyX7_ok dv_X7 (cb_in (cb_t1 (List.mem_of_getElem? (i := 14) rfl)) rfl) (cb_in (cb_t1 (List.mem_of_getElem? (i := 15) rfl)) rfl) (cb_in (cb_t1 (List.mem_of_getElem? (i := 1) rfl)) rfl) (cb_in (cb_t1 (List.mem_of_getElem? (i := 18) rfl)) rfl) (cb_in (cb_t1 (List.mem_of_getElem? (i := 17) rfl)) rfl) ⟨by decide +kernel, by decide +kernel, by decide +kernel⟩ rfl (Or.inl ml_L_9) ⟨by decide, by decide⟩ (by decide) (by decide) (slC_0 _ _) slC_C hs hl (Nat.le_of_ble_eq_true rfl) dW_0 dW_3 dW_4 (fun A H1 locs1 _ hs _ => ?_) (by decide)
  refine lv_astore_n (lv' := [(1, .ref (A 0)), (0, .ref b)]) hx hb dW_7 rfl hl (by decide) rfl (fun ls hl => ?_)
  have hs : ci_H (fun q => s.heap.size ≤ q) D (cb_wS shC A T σI ++ sl shM (fun _ => 0) T τI 0 0) s.heap H1 locs1 := by
    refine ci_H.re ?_ hs
    rw [sl_0, List.append_nil, wS_sl, List.nil_append]
    rfl
  refine ci_newI (k := 0) (n := 0) (kd := 8) (Nc := 40) (n' := 21) C hN hA mk_model rfl fw_X8 tyX8 tyX8_ok dv_X8 (cb_in (cb_t4 (List.mem_of_getElem? (i := 105) rfl)) rfl) (cb_in (cb_t4 (List.mem_of_getElem? (i := 106) rfl)) rfl) (cb_in (cb_t1 (List.mem_of_getElem? (i := 10) rfl)) rfl) (cb_in (cb_t4 (List.mem_of_getElem? (i := 109) rfl)) rfl) (cb_in (cb_t4 (List.mem_of_getElem? (i := 108) rfl)) rfl) ⟨by decide +kernel, by decide +kernel, by decide +kernel⟩ rfl (Or.inl ml_L_12) ⟨by decide, by decide⟩ (by decide) (by decide) (slC_0 _ _) slC_M hs hl (Nat.le_of_ble_eq_true rfl) dW_8 dW_11 dW_12 (fun B H2 locs2 _ hs _ => ?_) (by decide)
  refine lv_astore_n (lv' := [(2, .ref (B 0)), (1, .ref (A 0)), (0, .ref b)]) hx hb dW_15 rfl hl (by decide) rfl (fun ls hl => ?_)
  have hs : ci_H (fun q => s.heap.size ≤ q) D (cb_wS shC A T σI ++ cb_wS shM B T τI) s.heap H2 locs2 := by
    refine ci_H.re ?_ hs
    rw [wS_sl shM]
    rfl
  refine lv_iconst (v := 0) hx hb dW_16 (by decide) ?_
  refine lv_istore_n (lv' := [(3, .int 0), (2, .ref (B 0)), (1, .ref (A 0)), (0, .ref b)]) hx hb dW_17 rfl hl (by decide) rfl (fun ls hl => ?_)
  refine W.widen (k := 10000) (n := 100000) (by decide) (by decide) ?_
  exact law_loop C hX hbl hL (L + 5) 0 (by omega) (by omega) σI τI H2 locs2 ls relI hs (lv_sub hl [3, 2, 1, 0] rfl)
