section LC
variable {p : Program} {l : Launch} {e : Env} {s : State} {m : MethodId} {below : List Frame} {meth : Method} {c : Code} {A B : Nat → Nat} {T : Nat → ClassId} {D : va_G} {σ τ : cb_St} {H : Heap} {locs : List Loc} {Q : State → Prop} {cells slots : Nat} {ls : Array Slot} {b L i : Nat} {xs : Nat → Int32}
set_option maxHeartbeats 4000000 in
set_option maxRecDepth 100000 in
theorem lc_feed (C : cb_C p s m #[.ref b] meth c code 4 ret R_law D T) (hX : va_X b L xs s s.heap) (hbl : b < s.heap.size) (hi : i + 4 ≤ L) (hL : L ≤ 256) (hR : Rel σ τ) (hs : ci_H (fun q => s.heap.size ≤ q) D (cb_wS shC A T σ ++ cb_wS shM B T τ) s.heap H locs) (hl : lv_has ls 4 [(0, .ref b), (1, .ref (A 0)), (2, .ref (B 0)), (3, .int (zI i))]) (hc : cells ≤ room_1.cells) (hsl : slots ≤ room_1.slots)
    (kk : ∀ (σ' τ' : cb_St) (H1 : Heap) (locs1 : List Loc), Rel σ' τ' → ci_H (fun q => s.heap.size ≤ q) D (cb_wS shC A T σ' ++ cb_wS shM B T τ') s.heap H1 locs1 → W p l e room_1 s m #[.ref b] below meth c H1 locs1 cells slots Q (F0 m 1053 ls [])) : W p l e room_1 s m #[.ref b] below meth c H locs cells slots Q (F0 m 188 ls []) := by
  have hbA : ¬ (fun q : Nat => s.heap.size ≤ q) b := Nat.not_le.mpr hbl
  obtain ⟨hx, hb, hml, hr, hown, hts, hK, hlk, hNn⟩ := id C
  obtain ⟨r, σ', τ', h1, h2, hR2⟩ := al_feed (l := l) (T := T) (D := D) (A := A) (B := B) hR (xs (zI i + 1).toNatClampNeg)
  refine lv_aload_n hx hb dW_188 rfl (lv_at hl 1 rfl) ?_
  refine lv_aload_n hx hb dW_189 rfl (lv_at hl 0 rfl) ?_
  refine lv_iload_n hx hb dW_190 rfl (lv_at hl 3 rfl) ?_
  refine lv_iconst (v := 1) hx hb dW_191 (by decide) ?_
  refine lv_iadd hx hb dW_192 ?_
  refine va_sld hx hb hX hbl hbA hs.2.2 (sc_in hi hL 1 (by decide)) dW_193 ?_
  refine lw_callL C h1 mw_X7_feed ml_L_13 rfl ⟨by decide, by decide⟩ rfl hs hl rfl (Nat.le_of_ble_eq_true rfl) hc hsl dW_194 (fun H locs hs => ?_)
  refine lv_aload_n hx hb dW_197 rfl (lv_at hl 2 rfl) ?_
  refine lv_aload_n hx hb dW_198 rfl (lv_at hl 0 rfl) ?_
  refine lv_iload_n hx hb dW_199 rfl (lv_at hl 3 rfl) ?_
  refine lv_iconst (v := 1) hx hb dW_200 (by decide) ?_
  refine lv_iadd hx hb dW_201 ?_
  refine va_sld hx hb hX hbl hbA hs.2.2 (sc_in hi hL 1 (by decide)) dW_202 ?_
  refine lw_callR C h2 mw_X8_feed ml_L_17 rfl ⟨by decide, by decide⟩ rfl hs hl rfl (Nat.le_of_ble_eq_true rfl) hc hsl dW_203 (fun H locs hs => ?_)
  refine lv_icmp_eq (tgt := 1053) hx hb dW_206 (by decide) (fun _ => ?_) (fun cn => absurd rfl cn)
  exact kk σ' τ' H locs hR2 hs
set_option maxHeartbeats 4000000 in
set_option maxRecDepth 100000 in
theorem lc_table (C : cb_C p s m #[.ref b] meth c code 4 ret R_law D T) (hX : va_X b L xs s s.heap) (hbl : b < s.heap.size) (hi : i + 4 ≤ L) (hL : L ≤ 256) (hR : Rel σ τ) (hs : ci_H (fun q => s.heap.size ≤ q) D (cb_wS shC A T σ ++ cb_wS shM B T τ) s.heap H locs) (hl : lv_has ls 4 [(0, .ref b), (1, .ref (A 0)), (2, .ref (B 0)), (3, .int (zI i))]) (hc : cells ≤ room_1.cells) (hsl : slots ≤ room_1.slots)
    (kk : ∀ (σ' τ' : cb_St) (H1 : Heap) (locs1 : List Loc), Rel σ' τ' → ci_H (fun q => s.heap.size ≤ q) D (cb_wS shC A T σ' ++ cb_wS shM B T τ') s.heap H1 locs1 → W p l e room_1 s m #[.ref b] below meth c H1 locs1 cells slots Q (F0 m 1053 ls [])) : W p l e room_1 s m #[.ref b] below meth c H locs cells slots Q (F0 m 211 ls []) := by
  have hbA : ¬ (fun q : Nat => s.heap.size ≤ q) b := Nat.not_le.mpr hbl
  obtain ⟨hx, hb, hml, hr, hown, hts, hK, hlk, hNn⟩ := id C
  obtain ⟨r, σ', τ', h1, h2, hR2⟩ := al_table (l := l) (T := T) (D := D) (A := A) (B := B) hR 
  refine lv_aload_n hx hb dW_211 rfl (lv_at hl 1 rfl) ?_
  refine lw_callL C h1 mw_X7_table ml_L_18 rfl ⟨by decide, by decide⟩ rfl hs hl rfl (Nat.le_of_ble_eq_true rfl) hc hsl dW_212 (fun H locs hs => ?_)
  refine lv_aload_n hx hb dW_215 rfl (lv_at hl 2 rfl) ?_
  refine lw_callR C h2 mw_X8_table ml_L_22 rfl ⟨by decide, by decide⟩ rfl hs hl rfl (Nat.le_of_ble_eq_true rfl) hc hsl dW_216 (fun H locs hs => ?_)
  refine lv_icmp_eq (tgt := 1053) hx hb dW_219 (by decide) (fun _ => ?_) (fun cn => absurd rfl cn)
  exact kk σ' τ' H locs hR2 hs
set_option maxHeartbeats 4000000 in
set_option maxRecDepth 100000 in
theorem lc_fault (C : cb_C p s m #[.ref b] meth c code 4 ret R_law D T) (hX : va_X b L xs s s.heap) (hbl : b < s.heap.size) (hi : i + 4 ≤ L) (hL : L ≤ 256) (hR : Rel σ τ) (hs : ci_H (fun q => s.heap.size ≤ q) D (cb_wS shC A T σ ++ cb_wS shM B T τ) s.heap H locs) (hl : lv_has ls 4 [(0, .ref b), (1, .ref (A 0)), (2, .ref (B 0)), (3, .int (zI i))]) (hc : cells ≤ room_1.cells) (hsl : slots ≤ room_1.slots)
    (kk : ∀ (σ' τ' : cb_St) (H1 : Heap) (locs1 : List Loc), Rel σ' τ' → ci_H (fun q => s.heap.size ≤ q) D (cb_wS shC A T σ' ++ cb_wS shM B T τ') s.heap H1 locs1 → W p l e room_1 s m #[.ref b] below meth c H1 locs1 cells slots Q (F0 m 1053 ls [])) : W p l e room_1 s m #[.ref b] below meth c H locs cells slots Q (F0 m 224 ls []) := by
  have hbA : ¬ (fun q : Nat => s.heap.size ≤ q) b := Nat.not_le.mpr hbl
  obtain ⟨hx, hb, hml, hr, hown, hts, hK, hlk, hNn⟩ := id C
  obtain ⟨r, σ', τ', h1, h2, hR2⟩ := al_fault (l := l) (T := T) (D := D) (A := A) (B := B) hR 
  refine lv_aload_n hx hb dW_224 rfl (lv_at hl 1 rfl) ?_
  refine lw_callL C h1 mw_X7_fault ml_L_23 rfl ⟨by decide, by decide⟩ rfl hs hl rfl (Nat.le_of_ble_eq_true rfl) hc hsl dW_225 (fun H locs hs => ?_)
  refine lv_aload_n hx hb dW_228 rfl (lv_at hl 2 rfl) ?_
  refine lw_callR C h2 mw_X8_fault ml_L_26 rfl ⟨by decide, by decide⟩ rfl hs hl rfl (Nat.le_of_ble_eq_true rfl) hc hsl dW_229 (fun H locs hs => ?_)
  refine lv_icmp_eq (tgt := 1053) hx hb dW_232 (by decide) (fun _ => ?_) (fun cn => absurd rfl cn)
  exact kk σ' τ' H locs hR2 hs
set_option maxHeartbeats 4000000 in
set_option maxRecDepth 100000 in
theorem lc_told (C : cb_C p s m #[.ref b] meth c code 4 ret R_law D T) (hX : va_X b L xs s s.heap) (hbl : b < s.heap.size) (hi : i + 4 ≤ L) (hL : L ≤ 256) (hR : Rel σ τ) (hs : ci_H (fun q => s.heap.size ≤ q) D (cb_wS shC A T σ ++ cb_wS shM B T τ) s.heap H locs) (hl : lv_has ls 4 [(0, .ref b), (1, .ref (A 0)), (2, .ref (B 0)), (3, .int (zI i))]) (hc : cells ≤ room_1.cells) (hsl : slots ≤ room_1.slots)
    (kk : ∀ (σ' τ' : cb_St) (H1 : Heap) (locs1 : List Loc), Rel σ' τ' → ci_H (fun q => s.heap.size ≤ q) D (cb_wS shC A T σ' ++ cb_wS shM B T τ') s.heap H1 locs1 → W p l e room_1 s m #[.ref b] below meth c H1 locs1 cells slots Q (F0 m 1053 ls [])) : W p l e room_1 s m #[.ref b] below meth c H locs cells slots Q (F0 m 237 ls []) := by
  have hbA : ¬ (fun q : Nat => s.heap.size ≤ q) b := Nat.not_le.mpr hbl
  obtain ⟨hx, hb, hml, hr, hown, hts, hK, hlk, hNn⟩ := id C
  obtain ⟨r, σ', τ', h1, h2, hR2⟩ := al_told (l := l) (T := T) (D := D) (A := A) (B := B) hR (xs (zI i + 1).toNatClampNeg)
  refine lv_aload_n hx hb dW_237 rfl (lv_at hl 1 rfl) ?_
  refine lv_aload_n hx hb dW_238 rfl (lv_at hl 0 rfl) ?_
  refine lv_iload_n hx hb dW_239 rfl (lv_at hl 3 rfl) ?_
  refine lv_iconst (v := 1) hx hb dW_240 (by decide) ?_
  refine lv_iadd hx hb dW_241 ?_
  refine va_sld hx hb hX hbl hbA hs.2.2 (sc_in hi hL 1 (by decide)) dW_242 ?_
  refine lw_callL C h1 mw_X7_told ml_L_27 rfl ⟨by decide, by decide⟩ rfl hs hl rfl (Nat.le_of_ble_eq_true rfl) hc hsl dW_243 (fun H locs hs => ?_)
  refine lv_aload_n hx hb dW_246 rfl (lv_at hl 2 rfl) ?_
  refine lv_aload_n hx hb dW_247 rfl (lv_at hl 0 rfl) ?_
  refine lv_iload_n hx hb dW_248 rfl (lv_at hl 3 rfl) ?_
  refine lv_iconst (v := 1) hx hb dW_249 (by decide) ?_
  refine lv_iadd hx hb dW_250 ?_
  refine va_sld hx hb hX hbl hbA hs.2.2 (sc_in hi hL 1 (by decide)) dW_251 ?_
  refine lw_callR C h2 mw_X8_told ml_L_30 rfl ⟨by decide, by decide⟩ rfl hs hl rfl (Nat.le_of_ble_eq_true rfl) hc hsl dW_252 (fun H locs hs => ?_)
  refine lv_icmp_eq (tgt := 1053) hx hb dW_255 (by decide) (fun _ => ?_) (fun cn => absurd rfl cn)
  exact kk σ' τ' H locs hR2 hs
set_option maxHeartbeats 4000000 in
set_option maxRecDepth 100000 in
theorem lc_card (C : cb_C p s m #[.ref b] meth c code 4 ret R_law D T) (hX : va_X b L xs s s.heap) (hbl : b < s.heap.size) (hi : i + 4 ≤ L) (hL : L ≤ 256) (hR : Rel σ τ) (hs : ci_H (fun q => s.heap.size ≤ q) D (cb_wS shC A T σ ++ cb_wS shM B T τ) s.heap H locs) (hl : lv_has ls 4 [(0, .ref b), (1, .ref (A 0)), (2, .ref (B 0)), (3, .int (zI i))]) (hc : cells ≤ room_1.cells) (hsl : slots ≤ room_1.slots)
    (kk : ∀ (σ' τ' : cb_St) (H1 : Heap) (locs1 : List Loc), Rel σ' τ' → ci_H (fun q => s.heap.size ≤ q) D (cb_wS shC A T σ' ++ cb_wS shM B T τ') s.heap H1 locs1 → W p l e room_1 s m #[.ref b] below meth c H1 locs1 cells slots Q (F0 m 1053 ls [])) : W p l e room_1 s m #[.ref b] below meth c H locs cells slots Q (F0 m 260 ls []) := by
  have hbA : ¬ (fun q : Nat => s.heap.size ≤ q) b := Nat.not_le.mpr hbl
  obtain ⟨hx, hb, hml, hr, hown, hts, hK, hlk, hNn⟩ := id C
  obtain ⟨r, σ', τ', h1, h2, hR2⟩ := al_card (l := l) (T := T) (D := D) (A := A) (B := B) hR (xs (zI i + 1).toNatClampNeg) (xs (zI i + 2).toNatClampNeg)
  refine lv_aload_n hx hb dW_260 rfl (lv_at hl 1 rfl) ?_
  refine lv_aload_n hx hb dW_261 rfl (lv_at hl 0 rfl) ?_
  refine lv_iload_n hx hb dW_262 rfl (lv_at hl 3 rfl) ?_
  refine lv_iconst (v := 1) hx hb dW_263 (by decide) ?_
  refine lv_iadd hx hb dW_264 ?_
  refine va_sld hx hb hX hbl hbA hs.2.2 (sc_in hi hL 1 (by decide)) dW_265 ?_
  refine lv_aload_n hx hb dW_266 rfl (lv_at hl 0 rfl) ?_
  refine lv_iload_n hx hb dW_267 rfl (lv_at hl 3 rfl) ?_
  refine lv_iconst (v := 2) hx hb dW_268 (by decide) ?_
  refine lv_iadd hx hb dW_269 ?_
  refine va_sld hx hb hX hbl hbA hs.2.2 (sc_in hi hL 2 (by decide)) dW_270 ?_
  refine lw_callL C h1 mw_X7_card ml_L_31 rfl ⟨by decide, by decide⟩ rfl hs hl rfl (Nat.le_of_ble_eq_true rfl) hc hsl dW_271 (fun H locs hs => ?_)
  refine lv_aload_n hx hb dW_274 rfl (lv_at hl 2 rfl) ?_
  refine lv_aload_n hx hb dW_275 rfl (lv_at hl 0 rfl) ?_
  refine lv_iload_n hx hb dW_276 rfl (lv_at hl 3 rfl) ?_
  refine lv_iconst (v := 1) hx hb dW_277 (by decide) ?_
  refine lv_iadd hx hb dW_278 ?_
  refine va_sld hx hb hX hbl hbA hs.2.2 (sc_in hi hL 1 (by decide)) dW_279 ?_
  refine lv_aload_n hx hb dW_280 rfl (lv_at hl 0 rfl) ?_
  refine lv_iload_n hx hb dW_281 rfl (lv_at hl 3 rfl) ?_
  refine lv_iconst (v := 2) hx hb dW_282 (by decide) ?_
  refine lv_iadd hx hb dW_283 ?_
  refine va_sld hx hb hX hbl hbA hs.2.2 (sc_in hi hL 2 (by decide)) dW_284 ?_
  refine lw_callR C h2 mw_X8_card ml_L_35 rfl ⟨by decide, by decide⟩ rfl hs hl rfl (Nat.le_of_ble_eq_true rfl) hc hsl dW_285 (fun H locs hs => ?_)
  refine lv_icmp_eq (tgt := 1053) hx hb dW_288 (by decide) (fun _ => ?_) (fun cn => absurd rfl cn)
  exact kk σ' τ' H locs hR2 hs
set_option maxHeartbeats 4000000 in
set_option maxRecDepth 100000 in
theorem lc_pack (C : cb_C p s m #[.ref b] meth c code 4 ret R_law D T) (hX : va_X b L xs s s.heap) (hbl : b < s.heap.size) (hi : i + 4 ≤ L) (hL : L ≤ 256) (hR : Rel σ τ) (hs : ci_H (fun q => s.heap.size ≤ q) D (cb_wS shC A T σ ++ cb_wS shM B T τ) s.heap H locs) (hl : lv_has ls 4 [(0, .ref b), (1, .ref (A 0)), (2, .ref (B 0)), (3, .int (zI i))]) (hc : cells ≤ room_1.cells) (hsl : slots ≤ room_1.slots)
    (kk : ∀ (σ' τ' : cb_St) (H1 : Heap) (locs1 : List Loc), Rel σ' τ' → ci_H (fun q => s.heap.size ≤ q) D (cb_wS shC A T σ' ++ cb_wS shM B T τ') s.heap H1 locs1 → W p l e room_1 s m #[.ref b] below meth c H1 locs1 cells slots Q (F0 m 1053 ls [])) : W p l e room_1 s m #[.ref b] below meth c H locs cells slots Q (F0 m 293 ls []) := by
  have hbA : ¬ (fun q : Nat => s.heap.size ≤ q) b := Nat.not_le.mpr hbl
  obtain ⟨hx, hb, hml, hr, hown, hts, hK, hlk, hNn⟩ := id C
  obtain ⟨r, σ', τ', h1, h2, hR2⟩ := al_pack (l := l) (T := T) (D := D) (A := A) (B := B) hR (xs (zI i + 1).toNatClampNeg)
  refine lv_aload_n hx hb dW_293 rfl (lv_at hl 1 rfl) ?_
  refine lv_aload_n hx hb dW_294 rfl (lv_at hl 0 rfl) ?_
  refine lv_iload_n hx hb dW_295 rfl (lv_at hl 3 rfl) ?_
  refine lv_iconst (v := 1) hx hb dW_296 (by decide) ?_
  refine lv_iadd hx hb dW_297 ?_
  refine va_sld hx hb hX hbl hbA hs.2.2 (sc_in hi hL 1 (by decide)) dW_298 ?_
  refine lw_callL C h1 mw_X7_pack ml_L_36 rfl ⟨by decide, by decide⟩ rfl hs hl rfl (Nat.le_of_ble_eq_true rfl) hc hsl dW_299 (fun H locs hs => ?_)
  refine lv_aload_n hx hb dW_302 rfl (lv_at hl 2 rfl) ?_
  refine lv_aload_n hx hb dW_303 rfl (lv_at hl 0 rfl) ?_
  refine lv_iload_n hx hb dW_304 rfl (lv_at hl 3 rfl) ?_
  refine lv_iconst (v := 1) hx hb dW_305 (by decide) ?_
  refine lv_iadd hx hb dW_306 ?_
  refine va_sld hx hb hX hbl hbA hs.2.2 (sc_in hi hL 1 (by decide)) dW_307 ?_
  refine lw_callR C h2 mw_X8_pack ml_L_39 rfl ⟨by decide, by decide⟩ rfl hs hl rfl (Nat.le_of_ble_eq_true rfl) hc hsl dW_308 (fun H locs hs => ?_)
  refine lv_icmp_eq (tgt := 1053) hx hb dW_311 (by decide) (fun _ => ?_) (fun cn => absurd rfl cn)
  exact kk σ' τ' H locs hR2 hs
set_option maxHeartbeats 4000000 in
set_option maxRecDepth 100000 in
theorem lc_person (C : cb_C p s m #[.ref b] meth c code 4 ret R_law D T) (hX : va_X b L xs s s.heap) (hbl : b < s.heap.size) (hi : i + 4 ≤ L) (hL : L ≤ 256) (hR : Rel σ τ) (hs : ci_H (fun q => s.heap.size ≤ q) D (cb_wS shC A T σ ++ cb_wS shM B T τ) s.heap H locs) (hl : lv_has ls 4 [(0, .ref b), (1, .ref (A 0)), (2, .ref (B 0)), (3, .int (zI i))]) (hc : cells ≤ room_1.cells) (hsl : slots ≤ room_1.slots)
    (kk : ∀ (σ' τ' : cb_St) (H1 : Heap) (locs1 : List Loc), Rel σ' τ' → ci_H (fun q => s.heap.size ≤ q) D (cb_wS shC A T σ' ++ cb_wS shM B T τ') s.heap H1 locs1 → W p l e room_1 s m #[.ref b] below meth c H1 locs1 cells slots Q (F0 m 1053 ls [])) : W p l e room_1 s m #[.ref b] below meth c H locs cells slots Q (F0 m 316 ls []) := by
  have hbA : ¬ (fun q : Nat => s.heap.size ≤ q) b := Nat.not_le.mpr hbl
  obtain ⟨hx, hb, hml, hr, hown, hts, hK, hlk, hNn⟩ := id C
  obtain ⟨r, σ', τ', h1, h2, hR2⟩ := al_person (l := l) (T := T) (D := D) (A := A) (B := B) hR (xs (zI i + 1).toNatClampNeg) (xs (zI i + 2).toNatClampNeg)
  refine lv_aload_n hx hb dW_316 rfl (lv_at hl 1 rfl) ?_
  refine lv_aload_n hx hb dW_317 rfl (lv_at hl 0 rfl) ?_
  refine lv_iload_n hx hb dW_318 rfl (lv_at hl 3 rfl) ?_
  refine lv_iconst (v := 1) hx hb dW_319 (by decide) ?_
  refine lv_iadd hx hb dW_320 ?_
  refine va_sld hx hb hX hbl hbA hs.2.2 (sc_in hi hL 1 (by decide)) dW_321 ?_
  refine lv_aload_n hx hb dW_322 rfl (lv_at hl 0 rfl) ?_
  refine lv_iload_n hx hb dW_323 rfl (lv_at hl 3 rfl) ?_
  refine lv_iconst (v := 2) hx hb dW_324 (by decide) ?_
  refine lv_iadd hx hb dW_325 ?_
  refine va_sld hx hb hX hbl hbA hs.2.2 (sc_in hi hL 2 (by decide)) dW_326 ?_
  refine lw_callL C h1 mw_X7_person ml_L_40 rfl ⟨by decide, by decide⟩ rfl hs hl rfl (Nat.le_of_ble_eq_true rfl) hc hsl dW_327 (fun H locs hs => ?_)
  refine lv_aload_n hx hb dW_330 rfl (lv_at hl 2 rfl) ?_
  refine lv_aload_n hx hb dW_331 rfl (lv_at hl 0 rfl) ?_
  refine lv_iload_n hx hb dW_332 rfl (lv_at hl 3 rfl) ?_
  refine lv_iconst (v := 1) hx hb dW_333 (by decide) ?_
  refine lv_iadd hx hb dW_334 ?_
  refine va_sld hx hb hX hbl hbA hs.2.2 (sc_in hi hL 1 (by decide)) dW_335 ?_
  refine lv_aload_n hx hb dW_336 rfl (lv_at hl 0 rfl) ?_
  refine lv_iload_n hx hb dW_337 rfl (lv_at hl 3 rfl) ?_
  refine lv_iconst (v := 2) hx hb dW_338 (by decide) ?_
  refine lv_iadd hx hb dW_339 ?_
  refine va_sld hx hb hX hbl hbA hs.2.2 (sc_in hi hL 2 (by decide)) dW_340 ?_
  refine lw_callR C h2 mw_X8_person ml_L_43 rfl ⟨by decide, by decide⟩ rfl hs hl rfl (Nat.le_of_ble_eq_true rfl) hc hsl dW_341 (fun H locs hs => ?_)
  refine lv_icmp_eq (tgt := 1053) hx hb dW_344 (by decide) (fun _ => ?_) (fun cn => absurd rfl cn)
  exact kk σ' τ' H locs hR2 hs
set_option maxHeartbeats 4000000 in
set_option maxRecDepth 100000 in
theorem lc_logged (C : cb_C p s m #[.ref b] meth c code 4 ret R_law D T) (hX : va_X b L xs s s.heap) (hbl : b < s.heap.size) (hi : i + 4 ≤ L) (hL : L ≤ 256) (hR : Rel σ τ) (hs : ci_H (fun q => s.heap.size ≤ q) D (cb_wS shC A T σ ++ cb_wS shM B T τ) s.heap H locs) (hl : lv_has ls 4 [(0, .ref b), (1, .ref (A 0)), (2, .ref (B 0)), (3, .int (zI i))]) (hc : cells ≤ room_1.cells) (hsl : slots ≤ room_1.slots)
    (kk : ∀ (σ' τ' : cb_St) (H1 : Heap) (locs1 : List Loc), Rel σ' τ' → ci_H (fun q => s.heap.size ≤ q) D (cb_wS shC A T σ' ++ cb_wS shM B T τ') s.heap H1 locs1 → W p l e room_1 s m #[.ref b] below meth c H1 locs1 cells slots Q (F0 m 1053 ls [])) : W p l e room_1 s m #[.ref b] below meth c H locs cells slots Q (F0 m 349 ls []) := by
  have hbA : ¬ (fun q : Nat => s.heap.size ≤ q) b := Nat.not_le.mpr hbl
  obtain ⟨hx, hb, hml, hr, hown, hts, hK, hlk, hNn⟩ := id C
  obtain ⟨r, σ', τ', h1, h2, hR2⟩ := al_logged (l := l) (T := T) (D := D) (A := A) (B := B) hR (xs (zI i + 1).toNatClampNeg) (xs (zI i + 2).toNatClampNeg)
  refine lv_aload_n hx hb dW_349 rfl (lv_at hl 1 rfl) ?_
  refine lv_aload_n hx hb dW_350 rfl (lv_at hl 0 rfl) ?_
  refine lv_iload_n hx hb dW_351 rfl (lv_at hl 3 rfl) ?_
  refine lv_iconst (v := 1) hx hb dW_352 (by decide) ?_
  refine lv_iadd hx hb dW_353 ?_
  refine va_sld hx hb hX hbl hbA hs.2.2 (sc_in hi hL 1 (by decide)) dW_354 ?_
  refine lv_aload_n hx hb dW_355 rfl (lv_at hl 0 rfl) ?_
  refine lv_iload_n hx hb dW_356 rfl (lv_at hl 3 rfl) ?_
  refine lv_iconst (v := 2) hx hb dW_357 (by decide) ?_
  refine lv_iadd hx hb dW_358 ?_
  refine va_sld hx hb hX hbl hbA hs.2.2 (sc_in hi hL 2 (by decide)) dW_359 ?_
  refine lw_callL C h1 mw_X7_logged ml_L_44 rfl ⟨by decide, by decide⟩ rfl hs hl rfl (Nat.le_of_ble_eq_true rfl) hc hsl dW_360 (fun H locs hs => ?_)
  refine lv_aload_n hx hb dW_363 rfl (lv_at hl 2 rfl) ?_
  refine lv_aload_n hx hb dW_364 rfl (lv_at hl 0 rfl) ?_
  refine lv_iload_n hx hb dW_365 rfl (lv_at hl 3 rfl) ?_
  refine lv_iconst (v := 1) hx hb dW_366 (by decide) ?_
  refine lv_iadd hx hb dW_367 ?_
  refine va_sld hx hb hX hbl hbA hs.2.2 (sc_in hi hL 1 (by decide)) dW_368 ?_
  refine lv_aload_n hx hb dW_369 rfl (lv_at hl 0 rfl) ?_
  refine lv_iload_n hx hb dW_370 rfl (lv_at hl 3 rfl) ?_
  refine lv_iconst (v := 2) hx hb dW_371 (by decide) ?_
  refine lv_iadd hx hb dW_372 ?_
  refine va_sld hx hb hX hbl hbA hs.2.2 (sc_in hi hL 2 (by decide)) dW_373 ?_
  refine lw_callR C h2 mw_X8_logged ml_L_47 rfl ⟨by decide, by decide⟩ rfl hs hl rfl (Nat.le_of_ble_eq_true rfl) hc hsl dW_374 (fun H locs hs => ?_)
  refine lv_icmp_eq (tgt := 1053) hx hb dW_377 (by decide) (fun _ => ?_) (fun cn => absurd rfl cn)
  exact kk σ' τ' H locs hR2 hs
set_option maxHeartbeats 4000000 in
set_option maxRecDepth 100000 in
theorem lc_drawOne (C : cb_C p s m #[.ref b] meth c code 4 ret R_law D T) (hX : va_X b L xs s s.heap) (hbl : b < s.heap.size) (hi : i + 4 ≤ L) (hL : L ≤ 256) (hR : Rel σ τ) (hs : ci_H (fun q => s.heap.size ≤ q) D (cb_wS shC A T σ ++ cb_wS shM B T τ) s.heap H locs) (hl : lv_has ls 4 [(0, .ref b), (1, .ref (A 0)), (2, .ref (B 0)), (3, .int (zI i))]) (hc : cells ≤ room_1.cells) (hsl : slots ≤ room_1.slots)
    (kk : ∀ (σ' τ' : cb_St) (H1 : Heap) (locs1 : List Loc), Rel σ' τ' → ci_H (fun q => s.heap.size ≤ q) D (cb_wS shC A T σ' ++ cb_wS shM B T τ') s.heap H1 locs1 → W p l e room_1 s m #[.ref b] below meth c H1 locs1 cells slots Q (F0 m 1053 ls [])) : W p l e room_1 s m #[.ref b] below meth c H locs cells slots Q (F0 m 382 ls []) := by
  have hbA : ¬ (fun q : Nat => s.heap.size ≤ q) b := Nat.not_le.mpr hbl
  obtain ⟨hx, hb, hml, hr, hown, hts, hK, hlk, hNn⟩ := id C
  obtain ⟨r, σ', τ', h1, h2, hR2⟩ := al_drawOne (l := l) (T := T) (D := D) (A := A) (B := B) hR (xs (zI i + 1).toNatClampNeg)
  refine lv_aload_n hx hb dW_382 rfl (lv_at hl 1 rfl) ?_
  refine lv_aload_n hx hb dW_383 rfl (lv_at hl 0 rfl) ?_
  refine lv_iload_n hx hb dW_384 rfl (lv_at hl 3 rfl) ?_
  refine lv_iconst (v := 1) hx hb dW_385 (by decide) ?_
  refine lv_iadd hx hb dW_386 ?_
  refine va_sld hx hb hX hbl hbA hs.2.2 (sc_in hi hL 1 (by decide)) dW_387 ?_
  refine lw_callL C h1 mw_X7_drawOne ml_L_48 rfl ⟨by decide, by decide⟩ rfl hs hl rfl (Nat.le_of_ble_eq_true rfl) hc hsl dW_388 (fun H locs hs => ?_)
  refine lv_aload_n hx hb dW_391 rfl (lv_at hl 2 rfl) ?_
  refine lv_aload_n hx hb dW_392 rfl (lv_at hl 0 rfl) ?_
  refine lv_iload_n hx hb dW_393 rfl (lv_at hl 3 rfl) ?_
  refine lv_iconst (v := 1) hx hb dW_394 (by decide) ?_
  refine lv_iadd hx hb dW_395 ?_
  refine va_sld hx hb hX hbl hbA hs.2.2 (sc_in hi hL 1 (by decide)) dW_396 ?_
  refine lw_callR C h2 mw_X8_drawOne ml_L_51 rfl ⟨by decide, by decide⟩ rfl hs hl rfl (Nat.le_of_ble_eq_true rfl) hc hsl dW_397 (fun H locs hs => ?_)
  refine lv_icmp_eq (tgt := 1053) hx hb dW_400 (by decide) (fun _ => ?_) (fun cn => absurd rfl cn)
  exact kk σ' τ' H locs hR2 hs
set_option maxHeartbeats 4000000 in
set_option maxRecDepth 100000 in
theorem lc_getBack (C : cb_C p s m #[.ref b] meth c code 4 ret R_law D T) (hX : va_X b L xs s s.heap) (hbl : b < s.heap.size) (hi : i + 4 ≤ L) (hL : L ≤ 256) (hR : Rel σ τ) (hs : ci_H (fun q => s.heap.size ≤ q) D (cb_wS shC A T σ ++ cb_wS shM B T τ) s.heap H locs) (hl : lv_has ls 4 [(0, .ref b), (1, .ref (A 0)), (2, .ref (B 0)), (3, .int (zI i))]) (hc : cells ≤ room_1.cells) (hsl : slots ≤ room_1.slots)
    (kk : ∀ (σ' τ' : cb_St) (H1 : Heap) (locs1 : List Loc), Rel σ' τ' → ci_H (fun q => s.heap.size ≤ q) D (cb_wS shC A T σ' ++ cb_wS shM B T τ') s.heap H1 locs1 → W p l e room_1 s m #[.ref b] below meth c H1 locs1 cells slots Q (F0 m 1053 ls [])) : W p l e room_1 s m #[.ref b] below meth c H locs cells slots Q (F0 m 405 ls []) := by
  have hbA : ¬ (fun q : Nat => s.heap.size ≤ q) b := Nat.not_le.mpr hbl
  obtain ⟨hx, hb, hml, hr, hown, hts, hK, hlk, hNn⟩ := id C
  obtain ⟨r, σ', τ', h1, h2, hR2⟩ := al_getBack (l := l) (T := T) (D := D) (A := A) (B := B) hR (xs (zI i + 1).toNatClampNeg)
  refine lv_aload_n hx hb dW_405 rfl (lv_at hl 1 rfl) ?_
  refine lv_aload_n hx hb dW_406 rfl (lv_at hl 0 rfl) ?_
  refine lv_iload_n hx hb dW_407 rfl (lv_at hl 3 rfl) ?_
  refine lv_iconst (v := 1) hx hb dW_408 (by decide) ?_
  refine lv_iadd hx hb dW_409 ?_
  refine va_sld hx hb hX hbl hbA hs.2.2 (sc_in hi hL 1 (by decide)) dW_410 ?_
  refine lw_callL C h1 mw_X7_getBack ml_L_52 rfl ⟨by decide, by decide⟩ rfl hs hl rfl (Nat.le_of_ble_eq_true rfl) hc hsl dW_411 (fun H locs hs => ?_)
  refine lv_aload_n hx hb dW_414 rfl (lv_at hl 2 rfl) ?_
  refine lv_aload_n hx hb dW_415 rfl (lv_at hl 0 rfl) ?_
  refine lv_iload_n hx hb dW_416 rfl (lv_at hl 3 rfl) ?_
  refine lv_iconst (v := 1) hx hb dW_417 (by decide) ?_
  refine lv_iadd hx hb dW_418 ?_
  refine va_sld hx hb hX hbl hbA hs.2.2 (sc_in hi hL 1 (by decide)) dW_419 ?_
  refine lw_callR C h2 mw_X8_getBack ml_L_55 rfl ⟨by decide, by decide⟩ rfl hs hl rfl (Nat.le_of_ble_eq_true rfl) hc hsl dW_420 (fun H locs hs => ?_)
  refine lv_icmp_eq (tgt := 1053) hx hb dW_423 (by decide) (fun _ => ?_) (fun cn => absurd rfl cn)
  exact kk σ' τ' H locs hR2 hs
set_option maxHeartbeats 4000000 in
set_option maxRecDepth 100000 in
theorem lc_meet (C : cb_C p s m #[.ref b] meth c code 4 ret R_law D T) (hX : va_X b L xs s s.heap) (hbl : b < s.heap.size) (hi : i + 4 ≤ L) (hL : L ≤ 256) (hR : Rel σ τ) (hs : ci_H (fun q => s.heap.size ≤ q) D (cb_wS shC A T σ ++ cb_wS shM B T τ) s.heap H locs) (hl : lv_has ls 4 [(0, .ref b), (1, .ref (A 0)), (2, .ref (B 0)), (3, .int (zI i))]) (hc : cells ≤ room_1.cells) (hsl : slots ≤ room_1.slots)
    (kk : ∀ (σ' τ' : cb_St) (H1 : Heap) (locs1 : List Loc), Rel σ' τ' → ci_H (fun q => s.heap.size ≤ q) D (cb_wS shC A T σ' ++ cb_wS shM B T τ') s.heap H1 locs1 → W p l e room_1 s m #[.ref b] below meth c H1 locs1 cells slots Q (F0 m 1053 ls [])) : W p l e room_1 s m #[.ref b] below meth c H locs cells slots Q (F0 m 428 ls []) := by
  have hbA : ¬ (fun q : Nat => s.heap.size ≤ q) b := Nat.not_le.mpr hbl
  obtain ⟨hx, hb, hml, hr, hown, hts, hK, hlk, hNn⟩ := id C
  obtain ⟨r, σ', τ', h1, h2, hR2⟩ := al_meet (l := l) (T := T) (D := D) (A := A) (B := B) hR (xs (zI i + 1).toNatClampNeg) (xs (zI i + 2).toNatClampNeg)
  refine lv_aload_n hx hb dW_428 rfl (lv_at hl 1 rfl) ?_
  refine lv_aload_n hx hb dW_429 rfl (lv_at hl 0 rfl) ?_
  refine lv_iload_n hx hb dW_430 rfl (lv_at hl 3 rfl) ?_
  refine lv_iconst (v := 1) hx hb dW_431 (by decide) ?_
  refine lv_iadd hx hb dW_432 ?_
  refine va_sld hx hb hX hbl hbA hs.2.2 (sc_in hi hL 1 (by decide)) dW_433 ?_
  refine lv_aload_n hx hb dW_434 rfl (lv_at hl 0 rfl) ?_
  refine lv_iload_n hx hb dW_435 rfl (lv_at hl 3 rfl) ?_
  refine lv_iconst (v := 2) hx hb dW_436 (by decide) ?_
  refine lv_iadd hx hb dW_437 ?_
  refine va_sld hx hb hX hbl hbA hs.2.2 (sc_in hi hL 2 (by decide)) dW_438 ?_
  refine lw_callL C h1 mw_X7_meet ml_L_56 rfl ⟨by decide, by decide⟩ rfl hs hl rfl (Nat.le_of_ble_eq_true rfl) hc hsl dW_439 (fun H locs hs => ?_)
  refine lv_aload_n hx hb dW_442 rfl (lv_at hl 2 rfl) ?_
  refine lv_aload_n hx hb dW_443 rfl (lv_at hl 0 rfl) ?_
  refine lv_iload_n hx hb dW_444 rfl (lv_at hl 3 rfl) ?_
  refine lv_iconst (v := 1) hx hb dW_445 (by decide) ?_
  refine lv_iadd hx hb dW_446 ?_
  refine va_sld hx hb hX hbl hbA hs.2.2 (sc_in hi hL 1 (by decide)) dW_447 ?_
  refine lv_aload_n hx hb dW_448 rfl (lv_at hl 0 rfl) ?_
  refine lv_iload_n hx hb dW_449 rfl (lv_at hl 3 rfl) ?_
  refine lv_iconst (v := 2) hx hb dW_450 (by decide) ?_
  refine lv_iadd hx hb dW_451 ?_
  refine va_sld hx hb hX hbl hbA hs.2.2 (sc_in hi hL 2 (by decide)) dW_452 ?_
  refine lw_callR C h2 mw_X8_meet ml_L_59 rfl ⟨by decide, by decide⟩ rfl hs hl rfl (Nat.le_of_ble_eq_true rfl) hc hsl dW_453 (fun H locs hs => ?_)
  refine lv_icmp_eq (tgt := 1053) hx hb dW_456 (by decide) (fun _ => ?_) (fun cn => absurd rfl cn)
  exact kk σ' τ' H locs hR2 hs
set_option maxHeartbeats 4000000 in
set_option maxRecDepth 100000 in
theorem lc_force (C : cb_C p s m #[.ref b] meth c code 4 ret R_law D T) (hX : va_X b L xs s s.heap) (hbl : b < s.heap.size) (hi : i + 4 ≤ L) (hL : L ≤ 256) (hR : Rel σ τ) (hs : ci_H (fun q => s.heap.size ≤ q) D (cb_wS shC A T σ ++ cb_wS shM B T τ) s.heap H locs) (hl : lv_has ls 4 [(0, .ref b), (1, .ref (A 0)), (2, .ref (B 0)), (3, .int (zI i))]) (hc : cells ≤ room_1.cells) (hsl : slots ≤ room_1.slots)
    (kk : ∀ (σ' τ' : cb_St) (H1 : Heap) (locs1 : List Loc), Rel σ' τ' → ci_H (fun q => s.heap.size ≤ q) D (cb_wS shC A T σ' ++ cb_wS shM B T τ') s.heap H1 locs1 → W p l e room_1 s m #[.ref b] below meth c H1 locs1 cells slots Q (F0 m 1053 ls [])) : W p l e room_1 s m #[.ref b] below meth c H locs cells slots Q (F0 m 461 ls []) := by
  have hbA : ¬ (fun q : Nat => s.heap.size ≤ q) b := Nat.not_le.mpr hbl
  obtain ⟨hx, hb, hml, hr, hown, hts, hK, hlk, hNn⟩ := id C
  obtain ⟨r, σ', τ', h1, h2, hR2⟩ := al_force (l := l) (T := T) (D := D) (A := A) (B := B) hR (xs (zI i + 1).toNatClampNeg)
  refine lv_aload_n hx hb dW_461 rfl (lv_at hl 1 rfl) ?_
  refine lv_aload_n hx hb dW_462 rfl (lv_at hl 0 rfl) ?_
  refine lv_iload_n hx hb dW_463 rfl (lv_at hl 3 rfl) ?_
  refine lv_iconst (v := 1) hx hb dW_464 (by decide) ?_
  refine lv_iadd hx hb dW_465 ?_
  refine va_sld hx hb hX hbl hbA hs.2.2 (sc_in hi hL 1 (by decide)) dW_466 ?_
  refine lw_callL C h1 mw_X7_force ml_L_60 rfl ⟨by decide, by decide⟩ rfl hs hl rfl (Nat.le_of_ble_eq_true rfl) hc hsl dW_467 (fun H locs hs => ?_)
  refine lv_aload_n hx hb dW_470 rfl (lv_at hl 2 rfl) ?_
  refine lv_aload_n hx hb dW_471 rfl (lv_at hl 0 rfl) ?_
  refine lv_iload_n hx hb dW_472 rfl (lv_at hl 3 rfl) ?_
  refine lv_iconst (v := 1) hx hb dW_473 (by decide) ?_
  refine lv_iadd hx hb dW_474 ?_
  refine va_sld hx hb hX hbl hbA hs.2.2 (sc_in hi hL 1 (by decide)) dW_475 ?_
  refine lw_callR C h2 mw_X8_force ml_L_63 rfl ⟨by decide, by decide⟩ rfl hs hl rfl (Nat.le_of_ble_eq_true rfl) hc hsl dW_476 (fun H locs hs => ?_)
  refine lv_icmp_eq (tgt := 1053) hx hb dW_479 (by decide) (fun _ => ?_) (fun cn => absurd rfl cn)
  exact kk σ' τ' H locs hR2 hs
set_option maxHeartbeats 4000000 in
set_option maxRecDepth 100000 in
theorem lc_shuffle (C : cb_C p s m #[.ref b] meth c code 4 ret R_law D T) (hX : va_X b L xs s s.heap) (hbl : b < s.heap.size) (hi : i + 4 ≤ L) (hL : L ≤ 256) (hR : Rel σ τ) (hs : ci_H (fun q => s.heap.size ≤ q) D (cb_wS shC A T σ ++ cb_wS shM B T τ) s.heap H locs) (hl : lv_has ls 4 [(0, .ref b), (1, .ref (A 0)), (2, .ref (B 0)), (3, .int (zI i))]) (hc : cells ≤ room_1.cells) (hsl : slots ≤ room_1.slots)
    (kk : ∀ (σ' τ' : cb_St) (H1 : Heap) (locs1 : List Loc), Rel σ' τ' → ci_H (fun q => s.heap.size ≤ q) D (cb_wS shC A T σ' ++ cb_wS shM B T τ') s.heap H1 locs1 → W p l e room_1 s m #[.ref b] below meth c H1 locs1 cells slots Q (F0 m 1053 ls [])) : W p l e room_1 s m #[.ref b] below meth c H locs cells slots Q (F0 m 484 ls []) := by
  have hbA : ¬ (fun q : Nat => s.heap.size ≤ q) b := Nat.not_le.mpr hbl
  obtain ⟨hx, hb, hml, hr, hown, hts, hK, hlk, hNn⟩ := id C
  obtain ⟨r, σ', τ', h1, h2, hR2⟩ := al_shuffle (l := l) (T := T) (D := D) (A := A) (B := B) hR (xs (zI i + 1).toNatClampNeg)
  refine lv_aload_n hx hb dW_484 rfl (lv_at hl 1 rfl) ?_
  refine lv_aload_n hx hb dW_485 rfl (lv_at hl 0 rfl) ?_
  refine lv_iload_n hx hb dW_486 rfl (lv_at hl 3 rfl) ?_
  refine lv_iconst (v := 1) hx hb dW_487 (by decide) ?_
  refine lv_iadd hx hb dW_488 ?_
  refine va_sld hx hb hX hbl hbA hs.2.2 (sc_in hi hL 1 (by decide)) dW_489 ?_
  refine lw_callL C h1 mw_X7_shuffle ml_L_64 rfl ⟨by decide, by decide⟩ rfl hs hl rfl (Nat.le_of_ble_eq_true rfl) hc hsl dW_490 (fun H locs hs => ?_)
  refine lv_aload_n hx hb dW_493 rfl (lv_at hl 2 rfl) ?_
  refine lv_aload_n hx hb dW_494 rfl (lv_at hl 0 rfl) ?_
  refine lv_iload_n hx hb dW_495 rfl (lv_at hl 3 rfl) ?_
  refine lv_iconst (v := 1) hx hb dW_496 (by decide) ?_
  refine lv_iadd hx hb dW_497 ?_
  refine va_sld hx hb hX hbl hbA hs.2.2 (sc_in hi hL 1 (by decide)) dW_498 ?_
  refine lw_callR C h2 mw_X8_shuffle ml_L_67 rfl ⟨by decide, by decide⟩ rfl hs hl rfl (Nat.le_of_ble_eq_true rfl) hc hsl dW_499 (fun H locs hs => ?_)
  refine lv_icmp_eq (tgt := 1053) hx hb dW_502 (by decide) (fun _ => ?_) (fun cn => absurd rfl cn)
  exact kk σ' τ' H locs hR2 hs
set_option maxHeartbeats 4000000 in
set_option maxRecDepth 100000 in
theorem lc_drawer (C : cb_C p s m #[.ref b] meth c code 4 ret R_law D T) (hX : va_X b L xs s s.heap) (hbl : b < s.heap.size) (hi : i + 4 ≤ L) (hL : L ≤ 256) (hR : Rel σ τ) (hs : ci_H (fun q => s.heap.size ≤ q) D (cb_wS shC A T σ ++ cb_wS shM B T τ) s.heap H locs) (hl : lv_has ls 4 [(0, .ref b), (1, .ref (A 0)), (2, .ref (B 0)), (3, .int (zI i))]) (hc : cells ≤ room_1.cells) (hsl : slots ≤ room_1.slots)
    (kk : ∀ (σ' τ' : cb_St) (H1 : Heap) (locs1 : List Loc), Rel σ' τ' → ci_H (fun q => s.heap.size ≤ q) D (cb_wS shC A T σ' ++ cb_wS shM B T τ') s.heap H1 locs1 → W p l e room_1 s m #[.ref b] below meth c H1 locs1 cells slots Q (F0 m 1053 ls [])) : W p l e room_1 s m #[.ref b] below meth c H locs cells slots Q (F0 m 507 ls []) := by
  have hbA : ¬ (fun q : Nat => s.heap.size ≤ q) b := Nat.not_le.mpr hbl
  obtain ⟨hx, hb, hml, hr, hown, hts, hK, hlk, hNn⟩ := id C
  obtain ⟨r, σ', τ', h1, h2, hR2⟩ := al_drawer (l := l) (T := T) (D := D) (A := A) (B := B) hR (xs (zI i + 1).toNatClampNeg)
  refine lv_aload_n hx hb dW_507 rfl (lv_at hl 1 rfl) ?_
  refine lv_aload_n hx hb dW_508 rfl (lv_at hl 0 rfl) ?_
  refine lv_iload_n hx hb dW_509 rfl (lv_at hl 3 rfl) ?_
  refine lv_iconst (v := 1) hx hb dW_510 (by decide) ?_
  refine lv_iadd hx hb dW_511 ?_
  refine va_sld hx hb hX hbl hbA hs.2.2 (sc_in hi hL 1 (by decide)) dW_512 ?_
  refine lw_callL C h1 mw_X7_drawer ml_L_68 rfl ⟨by decide, by decide⟩ rfl hs hl rfl (Nat.le_of_ble_eq_true rfl) hc hsl dW_513 (fun H locs hs => ?_)
  refine lv_aload_n hx hb dW_516 rfl (lv_at hl 2 rfl) ?_
  refine lv_aload_n hx hb dW_517 rfl (lv_at hl 0 rfl) ?_
  refine lv_iload_n hx hb dW_518 rfl (lv_at hl 3 rfl) ?_
  refine lv_iconst (v := 1) hx hb dW_519 (by decide) ?_
  refine lv_iadd hx hb dW_520 ?_
  refine va_sld hx hb hX hbl hbA hs.2.2 (sc_in hi hL 1 (by decide)) dW_521 ?_
  refine lw_callR C h2 mw_X8_drawer ml_L_71 rfl ⟨by decide, by decide⟩ rfl hs hl rfl (Nat.le_of_ble_eq_true rfl) hc hsl dW_522 (fun H locs hs => ?_)
  refine lv_icmp_eq (tgt := 1053) hx hb dW_525 (by decide) (fun _ => ?_) (fun cn => absurd rfl cn)
  exact kk σ' τ' H locs hR2 hs
set_option maxHeartbeats 4000000 in
set_option maxRecDepth 100000 in
theorem lc_out (C : cb_C p s m #[.ref b] meth c code 4 ret R_law D T) (hX : va_X b L xs s s.heap) (hbl : b < s.heap.size) (hi : i + 4 ≤ L) (hL : L ≤ 256) (hR : Rel σ τ) (hs : ci_H (fun q => s.heap.size ≤ q) D (cb_wS shC A T σ ++ cb_wS shM B T τ) s.heap H locs) (hl : lv_has ls 4 [(0, .ref b), (1, .ref (A 0)), (2, .ref (B 0)), (3, .int (zI i))]) (hc : cells ≤ room_1.cells) (hsl : slots ≤ room_1.slots)
    (kk : ∀ (σ' τ' : cb_St) (H1 : Heap) (locs1 : List Loc), Rel σ' τ' → ci_H (fun q => s.heap.size ≤ q) D (cb_wS shC A T σ' ++ cb_wS shM B T τ') s.heap H1 locs1 → W p l e room_1 s m #[.ref b] below meth c H1 locs1 cells slots Q (F0 m 1053 ls [])) : W p l e room_1 s m #[.ref b] below meth c H locs cells slots Q (F0 m 530 ls []) := by
  have hbA : ¬ (fun q : Nat => s.heap.size ≤ q) b := Nat.not_le.mpr hbl
  obtain ⟨hx, hb, hml, hr, hown, hts, hK, hlk, hNn⟩ := id C
  obtain ⟨r, σ', τ', h1, h2, hR2⟩ := al_out (l := l) (T := T) (D := D) (A := A) (B := B) hR (xs (zI i + 1).toNatClampNeg)
  refine lv_aload_n hx hb dW_530 rfl (lv_at hl 1 rfl) ?_
  refine lv_aload_n hx hb dW_531 rfl (lv_at hl 0 rfl) ?_
  refine lv_iload_n hx hb dW_532 rfl (lv_at hl 3 rfl) ?_
  refine lv_iconst (v := 1) hx hb dW_533 (by decide) ?_
  refine lv_iadd hx hb dW_534 ?_
  refine va_sld hx hb hX hbl hbA hs.2.2 (sc_in hi hL 1 (by decide)) dW_535 ?_
  refine lw_callL C h1 mw_X7_out ml_L_72 rfl ⟨by decide, by decide⟩ rfl hs hl rfl (Nat.le_of_ble_eq_true rfl) hc hsl dW_536 (fun H locs hs => ?_)
  refine lv_aload_n hx hb dW_539 rfl (lv_at hl 2 rfl) ?_
  refine lv_aload_n hx hb dW_540 rfl (lv_at hl 0 rfl) ?_
  refine lv_iload_n hx hb dW_541 rfl (lv_at hl 3 rfl) ?_
  refine lv_iconst (v := 1) hx hb dW_542 (by decide) ?_
  refine lv_iadd hx hb dW_543 ?_
  refine va_sld hx hb hX hbl hbA hs.2.2 (sc_in hi hL 1 (by decide)) dW_544 ?_
  refine lw_callR C h2 mw_X8_out ml_L_75 rfl ⟨by decide, by decide⟩ rfl hs hl rfl (Nat.le_of_ble_eq_true rfl) hc hsl dW_545 (fun H locs hs => ?_)
  refine lv_icmp_eq (tgt := 1053) hx hb dW_548 (by decide) (fun _ => ?_) (fun cn => absurd rfl cn)
  exact kk σ' τ' H locs hR2 hs
set_option maxHeartbeats 4000000 in
set_option maxRecDepth 100000 in
theorem lc_drift (C : cb_C p s m #[.ref b] meth c code 4 ret R_law D T) (hX : va_X b L xs s s.heap) (hbl : b < s.heap.size) (hi : i + 4 ≤ L) (hL : L ≤ 256) (hR : Rel σ τ) (hs : ci_H (fun q => s.heap.size ≤ q) D (cb_wS shC A T σ ++ cb_wS shM B T τ) s.heap H locs) (hl : lv_has ls 4 [(0, .ref b), (1, .ref (A 0)), (2, .ref (B 0)), (3, .int (zI i))]) (hc : cells ≤ room_1.cells) (hsl : slots ≤ room_1.slots)
    (kk : ∀ (σ' τ' : cb_St) (H1 : Heap) (locs1 : List Loc), Rel σ' τ' → ci_H (fun q => s.heap.size ≤ q) D (cb_wS shC A T σ' ++ cb_wS shM B T τ') s.heap H1 locs1 → W p l e room_1 s m #[.ref b] below meth c H1 locs1 cells slots Q (F0 m 1053 ls [])) : W p l e room_1 s m #[.ref b] below meth c H locs cells slots Q (F0 m 553 ls []) := by
  have hbA : ¬ (fun q : Nat => s.heap.size ≤ q) b := Nat.not_le.mpr hbl
  obtain ⟨hx, hb, hml, hr, hown, hts, hK, hlk, hNn⟩ := id C
  obtain ⟨r, σ', τ', h1, h2, hR2⟩ := al_drift (l := l) (T := T) (D := D) (A := A) (B := B) hR (xs (zI i + 1).toNatClampNeg)
  refine lv_aload_n hx hb dW_553 rfl (lv_at hl 1 rfl) ?_
  refine lv_aload_n hx hb dW_554 rfl (lv_at hl 0 rfl) ?_
  refine lv_iload_n hx hb dW_555 rfl (lv_at hl 3 rfl) ?_
  refine lv_iconst (v := 1) hx hb dW_556 (by decide) ?_
  refine lv_iadd hx hb dW_557 ?_
  refine va_sld hx hb hX hbl hbA hs.2.2 (sc_in hi hL 1 (by decide)) dW_558 ?_
  refine lw_callL C h1 mw_X7_drift ml_L_76 rfl ⟨by decide, by decide⟩ rfl hs hl rfl (Nat.le_of_ble_eq_true rfl) hc hsl dW_559 (fun H locs hs => ?_)
  refine lv_aload_n hx hb dW_562 rfl (lv_at hl 2 rfl) ?_
  refine lv_aload_n hx hb dW_563 rfl (lv_at hl 0 rfl) ?_
  refine lv_iload_n hx hb dW_564 rfl (lv_at hl 3 rfl) ?_
  refine lv_iconst (v := 1) hx hb dW_565 (by decide) ?_
  refine lv_iadd hx hb dW_566 ?_
  refine va_sld hx hb hX hbl hbA hs.2.2 (sc_in hi hL 1 (by decide)) dW_567 ?_
  refine lw_callR C h2 mw_X8_drift ml_L_79 rfl ⟨by decide, by decide⟩ rfl hs hl rfl (Nat.le_of_ble_eq_true rfl) hc hsl dW_568 (fun H locs hs => ?_)
  refine lv_icmp_eq (tgt := 1053) hx hb dW_571 (by decide) (fun _ => ?_) (fun cn => absurd rfl cn)
  exact kk σ' τ' H locs hR2 hs
set_option maxHeartbeats 4000000 in
set_option maxRecDepth 100000 in
theorem lc_undo (C : cb_C p s m #[.ref b] meth c code 4 ret R_law D T) (hX : va_X b L xs s s.heap) (hbl : b < s.heap.size) (hi : i + 4 ≤ L) (hL : L ≤ 256) (hR : Rel σ τ) (hs : ci_H (fun q => s.heap.size ≤ q) D (cb_wS shC A T σ ++ cb_wS shM B T τ) s.heap H locs) (hl : lv_has ls 4 [(0, .ref b), (1, .ref (A 0)), (2, .ref (B 0)), (3, .int (zI i))]) (hc : cells ≤ room_1.cells) (hsl : slots ≤ room_1.slots)
    (kk : ∀ (σ' τ' : cb_St) (H1 : Heap) (locs1 : List Loc), Rel σ' τ' → ci_H (fun q => s.heap.size ≤ q) D (cb_wS shC A T σ' ++ cb_wS shM B T τ') s.heap H1 locs1 → W p l e room_1 s m #[.ref b] below meth c H1 locs1 cells slots Q (F0 m 1053 ls [])) : W p l e room_1 s m #[.ref b] below meth c H locs cells slots Q (F0 m 576 ls []) := by
  have hbA : ¬ (fun q : Nat => s.heap.size ≤ q) b := Nat.not_le.mpr hbl
  obtain ⟨hx, hb, hml, hr, hown, hts, hK, hlk, hNn⟩ := id C
  obtain ⟨r, σ', τ', h1, h2, hR2⟩ := al_undo (l := l) (T := T) (D := D) (A := A) (B := B) hR 
  refine lv_aload_n hx hb dW_576 rfl (lv_at hl 1 rfl) ?_
  refine lw_callL C h1 mw_X7_undo ml_L_80 rfl ⟨by decide, by decide⟩ rfl hs hl rfl (Nat.le_of_ble_eq_true rfl) hc hsl dW_577 (fun H locs hs => ?_)
  refine lv_aload_n hx hb dW_580 rfl (lv_at hl 2 rfl) ?_
  refine lw_callR C h2 mw_X8_undo ml_L_83 rfl ⟨by decide, by decide⟩ rfl hs hl rfl (Nat.le_of_ble_eq_true rfl) hc hsl dW_581 (fun H locs hs => ?_)
  refine lv_icmp_eq (tgt := 1053) hx hb dW_584 (by decide) (fun _ => ?_) (fun cn => absurd rfl cn)
  exact kk σ' τ' H locs hR2 hs
set_option maxHeartbeats 4000000 in
set_option maxRecDepth 100000 in
theorem lc_beats (C : cb_C p s m #[.ref b] meth c code 4 ret R_law D T) (hX : va_X b L xs s s.heap) (hbl : b < s.heap.size) (hi : i + 4 ≤ L) (hL : L ≤ 256) (hR : Rel σ τ) (hs : ci_H (fun q => s.heap.size ≤ q) D (cb_wS shC A T σ ++ cb_wS shM B T τ) s.heap H locs) (hl : lv_has ls 4 [(0, .ref b), (1, .ref (A 0)), (2, .ref (B 0)), (3, .int (zI i))]) (hc : cells ≤ room_1.cells) (hsl : slots ≤ room_1.slots)
    (kk : ∀ (σ' τ' : cb_St) (H1 : Heap) (locs1 : List Loc), Rel σ' τ' → ci_H (fun q => s.heap.size ≤ q) D (cb_wS shC A T σ' ++ cb_wS shM B T τ') s.heap H1 locs1 → W p l e room_1 s m #[.ref b] below meth c H1 locs1 cells slots Q (F0 m 1053 ls [])) : W p l e room_1 s m #[.ref b] below meth c H locs cells slots Q (F0 m 589 ls []) := by
  have hbA : ¬ (fun q : Nat => s.heap.size ≤ q) b := Nat.not_le.mpr hbl
  obtain ⟨hx, hb, hml, hr, hown, hts, hK, hlk, hNn⟩ := id C
  obtain ⟨r, σ', τ', h1, h2, hR2⟩ := al_beats (l := l) (T := T) (D := D) (A := A) (B := B) hR (xs (zI i + 1).toNatClampNeg) (xs (zI i + 2).toNatClampNeg)
  refine lv_aload_n hx hb dW_589 rfl (lv_at hl 1 rfl) ?_
  refine lv_aload_n hx hb dW_590 rfl (lv_at hl 0 rfl) ?_
  refine lv_iload_n hx hb dW_591 rfl (lv_at hl 3 rfl) ?_
  refine lv_iconst (v := 1) hx hb dW_592 (by decide) ?_
  refine lv_iadd hx hb dW_593 ?_
  refine va_sld hx hb hX hbl hbA hs.2.2 (sc_in hi hL 1 (by decide)) dW_594 ?_
  refine lv_aload_n hx hb dW_595 rfl (lv_at hl 0 rfl) ?_
  refine lv_iload_n hx hb dW_596 rfl (lv_at hl 3 rfl) ?_
  refine lv_iconst (v := 2) hx hb dW_597 (by decide) ?_
  refine lv_iadd hx hb dW_598 ?_
  refine va_sld hx hb hX hbl hbA hs.2.2 (sc_in hi hL 2 (by decide)) dW_599 ?_
  refine lw_callL C h1 mw_X7_beats ml_L_84 rfl ⟨by decide, by decide⟩ rfl hs hl rfl (Nat.le_of_ble_eq_true rfl) hc hsl dW_600 (fun H locs hs => ?_)
  refine lv_aload_n hx hb dW_603 rfl (lv_at hl 2 rfl) ?_
  refine lv_aload_n hx hb dW_604 rfl (lv_at hl 0 rfl) ?_
  refine lv_iload_n hx hb dW_605 rfl (lv_at hl 3 rfl) ?_
  refine lv_iconst (v := 1) hx hb dW_606 (by decide) ?_
  refine lv_iadd hx hb dW_607 ?_
  refine va_sld hx hb hX hbl hbA hs.2.2 (sc_in hi hL 1 (by decide)) dW_608 ?_
  refine lv_aload_n hx hb dW_609 rfl (lv_at hl 0 rfl) ?_
  refine lv_iload_n hx hb dW_610 rfl (lv_at hl 3 rfl) ?_
  refine lv_iconst (v := 2) hx hb dW_611 (by decide) ?_
  refine lv_iadd hx hb dW_612 ?_
  refine va_sld hx hb hX hbl hbA hs.2.2 (sc_in hi hL 2 (by decide)) dW_613 ?_
  refine lw_callR C h2 mw_X8_beats ml_L_87 rfl ⟨by decide, by decide⟩ rfl hs hl rfl (Nat.le_of_ble_eq_true rfl) hc hsl dW_614 (fun H locs hs => ?_)
  refine lv_icmp_eq (tgt := 1053) hx hb dW_617 (by decide) (fun _ => ?_) (fun cn => absurd rfl cn)
  exact kk σ' τ' H locs hR2 hs
set_option maxHeartbeats 4000000 in
set_option maxRecDepth 100000 in
theorem lc_rings (C : cb_C p s m #[.ref b] meth c code 4 ret R_law D T) (hX : va_X b L xs s s.heap) (hbl : b < s.heap.size) (hi : i + 4 ≤ L) (hL : L ≤ 256) (hR : Rel σ τ) (hs : ci_H (fun q => s.heap.size ≤ q) D (cb_wS shC A T σ ++ cb_wS shM B T τ) s.heap H locs) (hl : lv_has ls 4 [(0, .ref b), (1, .ref (A 0)), (2, .ref (B 0)), (3, .int (zI i))]) (hc : cells ≤ room_1.cells) (hsl : slots ≤ room_1.slots)
    (kk : ∀ (σ' τ' : cb_St) (H1 : Heap) (locs1 : List Loc), Rel σ' τ' → ci_H (fun q => s.heap.size ≤ q) D (cb_wS shC A T σ' ++ cb_wS shM B T τ') s.heap H1 locs1 → W p l e room_1 s m #[.ref b] below meth c H1 locs1 cells slots Q (F0 m 1053 ls [])) : W p l e room_1 s m #[.ref b] below meth c H locs cells slots Q (F0 m 622 ls []) := by
  have hbA : ¬ (fun q : Nat => s.heap.size ≤ q) b := Nat.not_le.mpr hbl
  obtain ⟨hx, hb, hml, hr, hown, hts, hK, hlk, hNn⟩ := id C
  obtain ⟨r, σ', τ', h1, h2, hR2⟩ := al_rings (l := l) (T := T) (D := D) (A := A) (B := B) hR (xs (zI i + 1).toNatClampNeg)
  refine lv_aload_n hx hb dW_622 rfl (lv_at hl 1 rfl) ?_
  refine lv_aload_n hx hb dW_623 rfl (lv_at hl 0 rfl) ?_
  refine lv_iload_n hx hb dW_624 rfl (lv_at hl 3 rfl) ?_
  refine lv_iconst (v := 1) hx hb dW_625 (by decide) ?_
  refine lv_iadd hx hb dW_626 ?_
  refine va_sld hx hb hX hbl hbA hs.2.2 (sc_in hi hL 1 (by decide)) dW_627 ?_
  refine lw_callL C h1 mw_X7_rings ml_L_88 rfl ⟨by decide, by decide⟩ rfl hs hl rfl (Nat.le_of_ble_eq_true rfl) hc hsl dW_628 (fun H locs hs => ?_)
  refine lv_aload_n hx hb dW_631 rfl (lv_at hl 2 rfl) ?_
  refine lv_aload_n hx hb dW_632 rfl (lv_at hl 0 rfl) ?_
  refine lv_iload_n hx hb dW_633 rfl (lv_at hl 3 rfl) ?_
  refine lv_iconst (v := 1) hx hb dW_634 (by decide) ?_
  refine lv_iadd hx hb dW_635 ?_
  refine va_sld hx hb hX hbl hbA hs.2.2 (sc_in hi hL 1 (by decide)) dW_636 ?_
  refine lw_callR C h2 mw_X8_rings ml_L_91 rfl ⟨by decide, by decide⟩ rfl hs hl rfl (Nat.le_of_ble_eq_true rfl) hc hsl dW_637 (fun H locs hs => ?_)
  refine lv_icmp_eq (tgt := 1053) hx hb dW_640 (by decide) (fun _ => ?_) (fun cn => absurd rfl cn)
  exact kk σ' τ' H locs hR2 hs
set_option maxHeartbeats 4000000 in
set_option maxRecDepth 100000 in
theorem lc_order (C : cb_C p s m #[.ref b] meth c code 4 ret R_law D T) (hX : va_X b L xs s s.heap) (hbl : b < s.heap.size) (hi : i + 4 ≤ L) (hL : L ≤ 256) (hR : Rel σ τ) (hs : ci_H (fun q => s.heap.size ≤ q) D (cb_wS shC A T σ ++ cb_wS shM B T τ) s.heap H locs) (hl : lv_has ls 4 [(0, .ref b), (1, .ref (A 0)), (2, .ref (B 0)), (3, .int (zI i))]) (hc : cells ≤ room_1.cells) (hsl : slots ≤ room_1.slots)
    (kk : ∀ (σ' τ' : cb_St) (H1 : Heap) (locs1 : List Loc), Rel σ' τ' → ci_H (fun q => s.heap.size ≤ q) D (cb_wS shC A T σ' ++ cb_wS shM B T τ') s.heap H1 locs1 → W p l e room_1 s m #[.ref b] below meth c H1 locs1 cells slots Q (F0 m 1053 ls [])) : W p l e room_1 s m #[.ref b] below meth c H locs cells slots Q (F0 m 645 ls []) := by
  have hbA : ¬ (fun q : Nat => s.heap.size ≤ q) b := Nat.not_le.mpr hbl
  obtain ⟨hx, hb, hml, hr, hown, hts, hK, hlk, hNn⟩ := id C
  obtain ⟨r, σ', τ', h1, h2, hR2⟩ := al_order (l := l) (T := T) (D := D) (A := A) (B := B) hR (xs (zI i + 1).toNatClampNeg)
  refine lv_aload_n hx hb dW_645 rfl (lv_at hl 1 rfl) ?_
  refine lv_aload_n hx hb dW_646 rfl (lv_at hl 0 rfl) ?_
  refine lv_iload_n hx hb dW_647 rfl (lv_at hl 3 rfl) ?_
  refine lv_iconst (v := 1) hx hb dW_648 (by decide) ?_
  refine lv_iadd hx hb dW_649 ?_
  refine va_sld hx hb hX hbl hbA hs.2.2 (sc_in hi hL 1 (by decide)) dW_650 ?_
  refine lw_callL C h1 mw_X7_order ml_L_92 rfl ⟨by decide, by decide⟩ rfl hs hl rfl (Nat.le_of_ble_eq_true rfl) hc hsl dW_651 (fun H locs hs => ?_)
  refine lv_aload_n hx hb dW_654 rfl (lv_at hl 2 rfl) ?_
  refine lv_aload_n hx hb dW_655 rfl (lv_at hl 0 rfl) ?_
  refine lv_iload_n hx hb dW_656 rfl (lv_at hl 3 rfl) ?_
  refine lv_iconst (v := 1) hx hb dW_657 (by decide) ?_
  refine lv_iadd hx hb dW_658 ?_
  refine va_sld hx hb hX hbl hbA hs.2.2 (sc_in hi hL 1 (by decide)) dW_659 ?_
  refine lw_callR C h2 mw_X8_order ml_L_95 rfl ⟨by decide, by decide⟩ rfl hs hl rfl (Nat.le_of_ble_eq_true rfl) hc hsl dW_660 (fun H locs hs => ?_)
  refine lv_icmp_eq (tgt := 1053) hx hb dW_663 (by decide) (fun _ => ?_) (fun cn => absurd rfl cn)
  exact kk σ' τ' H locs hR2 hs
set_option maxHeartbeats 4000000 in
set_option maxRecDepth 100000 in
theorem lc_row (C : cb_C p s m #[.ref b] meth c code 4 ret R_law D T) (hX : va_X b L xs s s.heap) (hbl : b < s.heap.size) (hi : i + 4 ≤ L) (hL : L ≤ 256) (hR : Rel σ τ) (hs : ci_H (fun q => s.heap.size ≤ q) D (cb_wS shC A T σ ++ cb_wS shM B T τ) s.heap H locs) (hl : lv_has ls 4 [(0, .ref b), (1, .ref (A 0)), (2, .ref (B 0)), (3, .int (zI i))]) (hc : cells ≤ room_1.cells) (hsl : slots ≤ room_1.slots)
    (kk : ∀ (σ' τ' : cb_St) (H1 : Heap) (locs1 : List Loc), Rel σ' τ' → ci_H (fun q => s.heap.size ≤ q) D (cb_wS shC A T σ' ++ cb_wS shM B T τ') s.heap H1 locs1 → W p l e room_1 s m #[.ref b] below meth c H1 locs1 cells slots Q (F0 m 1053 ls [])) : W p l e room_1 s m #[.ref b] below meth c H locs cells slots Q (F0 m 668 ls []) := by
  have hbA : ¬ (fun q : Nat => s.heap.size ≤ q) b := Nat.not_le.mpr hbl
  obtain ⟨hx, hb, hml, hr, hown, hts, hK, hlk, hNn⟩ := id C
  obtain ⟨r, σ', τ', h1, h2, hR2⟩ := al_row (l := l) (T := T) (D := D) (A := A) (B := B) hR (xs (zI i + 1).toNatClampNeg) (xs (zI i + 2).toNatClampNeg) (xs (zI i + 3).toNatClampNeg)
  refine lv_aload_n hx hb dW_668 rfl (lv_at hl 1 rfl) ?_
  refine lv_aload_n hx hb dW_669 rfl (lv_at hl 0 rfl) ?_
  refine lv_iload_n hx hb dW_670 rfl (lv_at hl 3 rfl) ?_
  refine lv_iconst (v := 1) hx hb dW_671 (by decide) ?_
  refine lv_iadd hx hb dW_672 ?_
  refine va_sld hx hb hX hbl hbA hs.2.2 (sc_in hi hL 1 (by decide)) dW_673 ?_
  refine lv_aload_n hx hb dW_674 rfl (lv_at hl 0 rfl) ?_
  refine lv_iload_n hx hb dW_675 rfl (lv_at hl 3 rfl) ?_
  refine lv_iconst (v := 2) hx hb dW_676 (by decide) ?_
  refine lv_iadd hx hb dW_677 ?_
  refine va_sld hx hb hX hbl hbA hs.2.2 (sc_in hi hL 2 (by decide)) dW_678 ?_
  refine lv_aload_n hx hb dW_679 rfl (lv_at hl 0 rfl) ?_
  refine lv_iload_n hx hb dW_680 rfl (lv_at hl 3 rfl) ?_
  refine lv_iconst (v := 3) hx hb dW_681 (by decide) ?_
  refine lv_iadd hx hb dW_682 ?_
  refine va_sld hx hb hX hbl hbA hs.2.2 (sc_in hi hL 3 (by decide)) dW_683 ?_
  refine lw_callL C h1 mw_X7_row ml_L_96 rfl ⟨by decide, by decide⟩ rfl hs hl rfl (Nat.le_of_ble_eq_true rfl) hc hsl dW_684 (fun H locs hs => ?_)
  refine lv_aload_n hx hb dW_687 rfl (lv_at hl 2 rfl) ?_
  refine lv_aload_n hx hb dW_688 rfl (lv_at hl 0 rfl) ?_
  refine lv_iload_n hx hb dW_689 rfl (lv_at hl 3 rfl) ?_
  refine lv_iconst (v := 1) hx hb dW_690 (by decide) ?_
  refine lv_iadd hx hb dW_691 ?_
  refine va_sld hx hb hX hbl hbA hs.2.2 (sc_in hi hL 1 (by decide)) dW_692 ?_
  refine lv_aload_n hx hb dW_693 rfl (lv_at hl 0 rfl) ?_
  refine lv_iload_n hx hb dW_694 rfl (lv_at hl 3 rfl) ?_
  refine lv_iconst (v := 2) hx hb dW_695 (by decide) ?_
  refine lv_iadd hx hb dW_696 ?_
  refine va_sld hx hb hX hbl hbA hs.2.2 (sc_in hi hL 2 (by decide)) dW_697 ?_
  refine lv_aload_n hx hb dW_698 rfl (lv_at hl 0 rfl) ?_
  refine lv_iload_n hx hb dW_699 rfl (lv_at hl 3 rfl) ?_
  refine lv_iconst (v := 3) hx hb dW_700 (by decide) ?_
  refine lv_iadd hx hb dW_701 ?_
  refine va_sld hx hb hX hbl hbA hs.2.2 (sc_in hi hL 3 (by decide)) dW_702 ?_
  refine lw_callR C h2 mw_X8_row ml_L_100 rfl ⟨by decide, by decide⟩ rfl hs hl rfl (Nat.le_of_ble_eq_true rfl) hc hsl dW_703 (fun H locs hs => ?_)
  refine lv_icmp_eq (tgt := 1053) hx hb dW_706 (by decide) (fun _ => ?_) (fun cn => absurd rfl cn)
  exact kk σ' τ' H locs hR2 hs
set_option maxHeartbeats 4000000 in
set_option maxRecDepth 100000 in
theorem lc_tells (C : cb_C p s m #[.ref b] meth c code 4 ret R_law D T) (hX : va_X b L xs s s.heap) (hbl : b < s.heap.size) (hi : i + 4 ≤ L) (hL : L ≤ 256) (hR : Rel σ τ) (hs : ci_H (fun q => s.heap.size ≤ q) D (cb_wS shC A T σ ++ cb_wS shM B T τ) s.heap H locs) (hl : lv_has ls 4 [(0, .ref b), (1, .ref (A 0)), (2, .ref (B 0)), (3, .int (zI i))]) (hc : cells ≤ room_1.cells) (hsl : slots ≤ room_1.slots)
    (kk : ∀ (σ' τ' : cb_St) (H1 : Heap) (locs1 : List Loc), Rel σ' τ' → ci_H (fun q => s.heap.size ≤ q) D (cb_wS shC A T σ' ++ cb_wS shM B T τ') s.heap H1 locs1 → W p l e room_1 s m #[.ref b] below meth c H1 locs1 cells slots Q (F0 m 1053 ls [])) : W p l e room_1 s m #[.ref b] below meth c H locs cells slots Q (F0 m 711 ls []) := by
  have hbA : ¬ (fun q : Nat => s.heap.size ≤ q) b := Nat.not_le.mpr hbl
  obtain ⟨hx, hb, hml, hr, hown, hts, hK, hlk, hNn⟩ := id C
  obtain ⟨r, σ', τ', h1, h2, hR2⟩ := al_tells (l := l) (T := T) (D := D) (A := A) (B := B) hR 
  refine lv_aload_n hx hb dW_711 rfl (lv_at hl 1 rfl) ?_
  refine lw_callL C h1 mw_X7_tells ml_L_101 rfl ⟨by decide, by decide⟩ rfl hs hl rfl (Nat.le_of_ble_eq_true rfl) hc hsl dW_712 (fun H locs hs => ?_)
  refine lv_aload_n hx hb dW_715 rfl (lv_at hl 2 rfl) ?_
  refine lw_callR C h2 mw_X8_tells ml_L_104 rfl ⟨by decide, by decide⟩ rfl hs hl rfl (Nat.le_of_ble_eq_true rfl) hc hsl dW_716 (fun H locs hs => ?_)
  refine lv_icmp_eq (tgt := 1053) hx hb dW_719 (by decide) (fun _ => ?_) (fun cn => absurd rfl cn)
  exact kk σ' τ' H locs hR2 hs
set_option maxHeartbeats 4000000 in
set_option maxRecDepth 100000 in
theorem lc_odds (C : cb_C p s m #[.ref b] meth c code 4 ret R_law D T) (hX : va_X b L xs s s.heap) (hbl : b < s.heap.size) (hi : i + 4 ≤ L) (hL : L ≤ 256) (hR : Rel σ τ) (hs : ci_H (fun q => s.heap.size ≤ q) D (cb_wS shC A T σ ++ cb_wS shM B T τ) s.heap H locs) (hl : lv_has ls 4 [(0, .ref b), (1, .ref (A 0)), (2, .ref (B 0)), (3, .int (zI i))]) (hc : cells ≤ room_1.cells) (hsl : slots ≤ room_1.slots)
    (kk : ∀ (σ' τ' : cb_St) (H1 : Heap) (locs1 : List Loc), Rel σ' τ' → ci_H (fun q => s.heap.size ≤ q) D (cb_wS shC A T σ' ++ cb_wS shM B T τ') s.heap H1 locs1 → W p l e room_1 s m #[.ref b] below meth c H1 locs1 cells slots Q (F0 m 1053 ls [])) : W p l e room_1 s m #[.ref b] below meth c H locs cells slots Q (F0 m 724 ls []) := by
  have hbA : ¬ (fun q : Nat => s.heap.size ≤ q) b := Nat.not_le.mpr hbl
  obtain ⟨hx, hb, hml, hr, hown, hts, hK, hlk, hNn⟩ := id C
  obtain ⟨r, σ', τ', h1, h2, hR2⟩ := al_odds (l := l) (T := T) (D := D) (A := A) (B := B) hR (xs (zI i + 1).toNatClampNeg) (xs (zI i + 2).toNatClampNeg)
  refine lv_aload_n hx hb dW_724 rfl (lv_at hl 1 rfl) ?_
  refine lv_aload_n hx hb dW_725 rfl (lv_at hl 0 rfl) ?_
  refine lv_iload_n hx hb dW_726 rfl (lv_at hl 3 rfl) ?_
  refine lv_iconst (v := 1) hx hb dW_727 (by decide) ?_
  refine lv_iadd hx hb dW_728 ?_
  refine va_sld hx hb hX hbl hbA hs.2.2 (sc_in hi hL 1 (by decide)) dW_729 ?_
  refine lv_aload_n hx hb dW_730 rfl (lv_at hl 0 rfl) ?_
  refine lv_iload_n hx hb dW_731 rfl (lv_at hl 3 rfl) ?_
  refine lv_iconst (v := 2) hx hb dW_732 (by decide) ?_
  refine lv_iadd hx hb dW_733 ?_
  refine va_sld hx hb hX hbl hbA hs.2.2 (sc_in hi hL 2 (by decide)) dW_734 ?_
  refine lw_callL C h1 mw_X7_odds ml_L_105 rfl ⟨by decide, by decide⟩ rfl hs hl rfl (Nat.le_of_ble_eq_true rfl) hc hsl dW_735 (fun H locs hs => ?_)
  refine lv_aload_n hx hb dW_738 rfl (lv_at hl 2 rfl) ?_
  refine lv_aload_n hx hb dW_739 rfl (lv_at hl 0 rfl) ?_
  refine lv_iload_n hx hb dW_740 rfl (lv_at hl 3 rfl) ?_
  refine lv_iconst (v := 1) hx hb dW_741 (by decide) ?_
  refine lv_iadd hx hb dW_742 ?_
  refine va_sld hx hb hX hbl hbA hs.2.2 (sc_in hi hL 1 (by decide)) dW_743 ?_
  refine lv_aload_n hx hb dW_744 rfl (lv_at hl 0 rfl) ?_
  refine lv_iload_n hx hb dW_745 rfl (lv_at hl 3 rfl) ?_
  refine lv_iconst (v := 2) hx hb dW_746 (by decide) ?_
  refine lv_iadd hx hb dW_747 ?_
  refine va_sld hx hb hX hbl hbA hs.2.2 (sc_in hi hL 2 (by decide)) dW_748 ?_
  refine lw_callR C h2 mw_X8_odds ml_L_108 rfl ⟨by decide, by decide⟩ rfl hs hl rfl (Nat.le_of_ble_eq_true rfl) hc hsl dW_749 (fun H locs hs => ?_)
  refine lv_icmp_eq (tgt := 1053) hx hb dW_752 (by decide) (fun _ => ?_) (fun cn => absurd rfl cn)
  exact kk σ' τ' H locs hR2 hs
set_option maxHeartbeats 4000000 in
set_option maxRecDepth 100000 in
theorem lc_back (C : cb_C p s m #[.ref b] meth c code 4 ret R_law D T) (hX : va_X b L xs s s.heap) (hbl : b < s.heap.size) (hi : i + 4 ≤ L) (hL : L ≤ 256) (hR : Rel σ τ) (hs : ci_H (fun q => s.heap.size ≤ q) D (cb_wS shC A T σ ++ cb_wS shM B T τ) s.heap H locs) (hl : lv_has ls 4 [(0, .ref b), (1, .ref (A 0)), (2, .ref (B 0)), (3, .int (zI i))]) (hc : cells ≤ room_1.cells) (hsl : slots ≤ room_1.slots)
    (kk : ∀ (σ' τ' : cb_St) (H1 : Heap) (locs1 : List Loc), Rel σ' τ' → ci_H (fun q => s.heap.size ≤ q) D (cb_wS shC A T σ' ++ cb_wS shM B T τ') s.heap H1 locs1 → W p l e room_1 s m #[.ref b] below meth c H1 locs1 cells slots Q (F0 m 1053 ls [])) : W p l e room_1 s m #[.ref b] below meth c H locs cells slots Q (F0 m 757 ls []) := by
  have hbA : ¬ (fun q : Nat => s.heap.size ≤ q) b := Nat.not_le.mpr hbl
  obtain ⟨hx, hb, hml, hr, hown, hts, hK, hlk, hNn⟩ := id C
  obtain ⟨r, σ', τ', h1, h2, hR2⟩ := al_back (l := l) (T := T) (D := D) (A := A) (B := B) hR (xs (zI i + 1).toNatClampNeg)
  refine lv_aload_n hx hb dW_757 rfl (lv_at hl 1 rfl) ?_
  refine lv_aload_n hx hb dW_758 rfl (lv_at hl 0 rfl) ?_
  refine lv_iload_n hx hb dW_759 rfl (lv_at hl 3 rfl) ?_
  refine lv_iconst (v := 1) hx hb dW_760 (by decide) ?_
  refine lv_iadd hx hb dW_761 ?_
  refine va_sld hx hb hX hbl hbA hs.2.2 (sc_in hi hL 1 (by decide)) dW_762 ?_
  refine lw_callL C h1 mw_X7_back ml_L_109 rfl ⟨by decide, by decide⟩ rfl hs hl rfl (Nat.le_of_ble_eq_true rfl) hc hsl dW_763 (fun H locs hs => ?_)
  refine lv_aload_n hx hb dW_766 rfl (lv_at hl 2 rfl) ?_
  refine lv_aload_n hx hb dW_767 rfl (lv_at hl 0 rfl) ?_
  refine lv_iload_n hx hb dW_768 rfl (lv_at hl 3 rfl) ?_
  refine lv_iconst (v := 1) hx hb dW_769 (by decide) ?_
  refine lv_iadd hx hb dW_770 ?_
  refine va_sld hx hb hX hbl hbA hs.2.2 (sc_in hi hL 1 (by decide)) dW_771 ?_
  refine lw_callR C h2 mw_X8_back ml_L_112 rfl ⟨by decide, by decide⟩ rfl hs hl rfl (Nat.le_of_ble_eq_true rfl) hc hsl dW_772 (fun H locs hs => ?_)
  refine lv_icmp_eq (tgt := 1053) hx hb dW_775 (by decide) (fun _ => ?_) (fun cn => absurd rfl cn)
  exact kk σ' τ' H locs hR2 hs
set_option maxHeartbeats 4000000 in
set_option maxRecDepth 100000 in
theorem lc_missing (C : cb_C p s m #[.ref b] meth c code 4 ret R_law D T) (hX : va_X b L xs s s.heap) (hbl : b < s.heap.size) (hi : i + 4 ≤ L) (hL : L ≤ 256) (hR : Rel σ τ) (hs : ci_H (fun q => s.heap.size ≤ q) D (cb_wS shC A T σ ++ cb_wS shM B T τ) s.heap H locs) (hl : lv_has ls 4 [(0, .ref b), (1, .ref (A 0)), (2, .ref (B 0)), (3, .int (zI i))]) (hc : cells ≤ room_1.cells) (hsl : slots ≤ room_1.slots)
    (kk : ∀ (σ' τ' : cb_St) (H1 : Heap) (locs1 : List Loc), Rel σ' τ' → ci_H (fun q => s.heap.size ≤ q) D (cb_wS shC A T σ' ++ cb_wS shM B T τ') s.heap H1 locs1 → W p l e room_1 s m #[.ref b] below meth c H1 locs1 cells slots Q (F0 m 1053 ls [])) : W p l e room_1 s m #[.ref b] below meth c H locs cells slots Q (F0 m 780 ls []) := by
  have hbA : ¬ (fun q : Nat => s.heap.size ≤ q) b := Nat.not_le.mpr hbl
  obtain ⟨hx, hb, hml, hr, hown, hts, hK, hlk, hNn⟩ := id C
  obtain ⟨r, σ', τ', h1, h2, hR2⟩ := al_missing (l := l) (T := T) (D := D) (A := A) (B := B) hR (xs (zI i + 1).toNatClampNeg)
  refine lv_aload_n hx hb dW_780 rfl (lv_at hl 1 rfl) ?_
  refine lv_aload_n hx hb dW_781 rfl (lv_at hl 0 rfl) ?_
  refine lv_iload_n hx hb dW_782 rfl (lv_at hl 3 rfl) ?_
  refine lv_iconst (v := 1) hx hb dW_783 (by decide) ?_
  refine lv_iadd hx hb dW_784 ?_
  refine va_sld hx hb hX hbl hbA hs.2.2 (sc_in hi hL 1 (by decide)) dW_785 ?_
  refine lw_callL C h1 mw_X7_missing ml_L_113 rfl ⟨by decide, by decide⟩ rfl hs hl rfl (Nat.le_of_ble_eq_true rfl) hc hsl dW_786 (fun H locs hs => ?_)
  refine lv_aload_n hx hb dW_789 rfl (lv_at hl 2 rfl) ?_
  refine lv_aload_n hx hb dW_790 rfl (lv_at hl 0 rfl) ?_
  refine lv_iload_n hx hb dW_791 rfl (lv_at hl 3 rfl) ?_
  refine lv_iconst (v := 1) hx hb dW_792 (by decide) ?_
  refine lv_iadd hx hb dW_793 ?_
  refine va_sld hx hb hX hbl hbA hs.2.2 (sc_in hi hL 1 (by decide)) dW_794 ?_
  refine lw_callR C h2 mw_X8_missing ml_L_116 rfl ⟨by decide, by decide⟩ rfl hs hl rfl (Nat.le_of_ble_eq_true rfl) hc hsl dW_795 (fun H locs hs => ?_)
  refine lv_icmp_eq (tgt := 1053) hx hb dW_798 (by decide) (fun _ => ?_) (fun cn => absurd rfl cn)
  exact kk σ' τ' H locs hR2 hs
set_option maxHeartbeats 4000000 in
set_option maxRecDepth 100000 in
theorem lc_wanted (C : cb_C p s m #[.ref b] meth c code 4 ret R_law D T) (hX : va_X b L xs s s.heap) (hbl : b < s.heap.size) (hi : i + 4 ≤ L) (hL : L ≤ 256) (hR : Rel σ τ) (hs : ci_H (fun q => s.heap.size ≤ q) D (cb_wS shC A T σ ++ cb_wS shM B T τ) s.heap H locs) (hl : lv_has ls 4 [(0, .ref b), (1, .ref (A 0)), (2, .ref (B 0)), (3, .int (zI i))]) (hc : cells ≤ room_1.cells) (hsl : slots ≤ room_1.slots)
    (kk : ∀ (σ' τ' : cb_St) (H1 : Heap) (locs1 : List Loc), Rel σ' τ' → ci_H (fun q => s.heap.size ≤ q) D (cb_wS shC A T σ' ++ cb_wS shM B T τ') s.heap H1 locs1 → W p l e room_1 s m #[.ref b] below meth c H1 locs1 cells slots Q (F0 m 1053 ls [])) : W p l e room_1 s m #[.ref b] below meth c H locs cells slots Q (F0 m 803 ls []) := by
  have hbA : ¬ (fun q : Nat => s.heap.size ≤ q) b := Nat.not_le.mpr hbl
  obtain ⟨hx, hb, hml, hr, hown, hts, hK, hlk, hNn⟩ := id C
  obtain ⟨r, σ', τ', h1, h2, hR2⟩ := al_wanted (l := l) (T := T) (D := D) (A := A) (B := B) hR (xs (zI i + 1).toNatClampNeg)
  refine lv_aload_n hx hb dW_803 rfl (lv_at hl 1 rfl) ?_
  refine lv_aload_n hx hb dW_804 rfl (lv_at hl 0 rfl) ?_
  refine lv_iload_n hx hb dW_805 rfl (lv_at hl 3 rfl) ?_
  refine lv_iconst (v := 1) hx hb dW_806 (by decide) ?_
  refine lv_iadd hx hb dW_807 ?_
  refine va_sld hx hb hX hbl hbA hs.2.2 (sc_in hi hL 1 (by decide)) dW_808 ?_
  refine lw_callL C h1 mw_X7_wanted ml_L_117 rfl ⟨by decide, by decide⟩ rfl hs hl rfl (Nat.le_of_ble_eq_true rfl) hc hsl dW_809 (fun H locs hs => ?_)
  refine lv_aload_n hx hb dW_812 rfl (lv_at hl 2 rfl) ?_
  refine lv_aload_n hx hb dW_813 rfl (lv_at hl 0 rfl) ?_
  refine lv_iload_n hx hb dW_814 rfl (lv_at hl 3 rfl) ?_
  refine lv_iconst (v := 1) hx hb dW_815 (by decide) ?_
  refine lv_iadd hx hb dW_816 ?_
  refine va_sld hx hb hX hbl hbA hs.2.2 (sc_in hi hL 1 (by decide)) dW_817 ?_
  refine lw_callR C h2 mw_X8_wanted ml_L_120 rfl ⟨by decide, by decide⟩ rfl hs hl rfl (Nat.le_of_ble_eq_true rfl) hc hsl dW_818 (fun H locs hs => ?_)
  refine lv_icmp_eq (tgt := 1053) hx hb dW_821 (by decide) (fun _ => ?_) (fun cn => absurd rfl cn)
  exact kk σ' τ' H locs hR2 hs
set_option maxHeartbeats 4000000 in
set_option maxRecDepth 100000 in
theorem lc_see (C : cb_C p s m #[.ref b] meth c code 4 ret R_law D T) (hX : va_X b L xs s s.heap) (hbl : b < s.heap.size) (hi : i + 4 ≤ L) (hL : L ≤ 256) (hR : Rel σ τ) (hs : ci_H (fun q => s.heap.size ≤ q) D (cb_wS shC A T σ ++ cb_wS shM B T τ) s.heap H locs) (hl : lv_has ls 4 [(0, .ref b), (1, .ref (A 0)), (2, .ref (B 0)), (3, .int (zI i))]) (hc : cells ≤ room_1.cells) (hsl : slots ≤ room_1.slots)
    (kk : ∀ (σ' τ' : cb_St) (H1 : Heap) (locs1 : List Loc), Rel σ' τ' → ci_H (fun q => s.heap.size ≤ q) D (cb_wS shC A T σ' ++ cb_wS shM B T τ') s.heap H1 locs1 → W p l e room_1 s m #[.ref b] below meth c H1 locs1 cells slots Q (F0 m 1053 ls [])) : W p l e room_1 s m #[.ref b] below meth c H locs cells slots Q (F0 m 826 ls []) := by
  have hbA : ¬ (fun q : Nat => s.heap.size ≤ q) b := Nat.not_le.mpr hbl
  obtain ⟨hx, hb, hml, hr, hown, hts, hK, hlk, hNn⟩ := id C
  obtain ⟨r, σ', τ', h1, h2, hR2⟩ := al_see (l := l) (T := T) (D := D) (A := A) (B := B) hR (xs (zI i + 1).toNatClampNeg) (xs (zI i + 2).toNatClampNeg) (xs (zI i + 3).toNatClampNeg)
  refine lv_aload_n hx hb dW_826 rfl (lv_at hl 1 rfl) ?_
  refine lv_aload_n hx hb dW_827 rfl (lv_at hl 0 rfl) ?_
  refine lv_iload_n hx hb dW_828 rfl (lv_at hl 3 rfl) ?_
  refine lv_iconst (v := 1) hx hb dW_829 (by decide) ?_
  refine lv_iadd hx hb dW_830 ?_
  refine va_sld hx hb hX hbl hbA hs.2.2 (sc_in hi hL 1 (by decide)) dW_831 ?_
  refine lv_aload_n hx hb dW_832 rfl (lv_at hl 0 rfl) ?_
  refine lv_iload_n hx hb dW_833 rfl (lv_at hl 3 rfl) ?_
  refine lv_iconst (v := 2) hx hb dW_834 (by decide) ?_
  refine lv_iadd hx hb dW_835 ?_
  refine va_sld hx hb hX hbl hbA hs.2.2 (sc_in hi hL 2 (by decide)) dW_836 ?_
  refine lv_aload_n hx hb dW_837 rfl (lv_at hl 0 rfl) ?_
  refine lv_iload_n hx hb dW_838 rfl (lv_at hl 3 rfl) ?_
  refine lv_iconst (v := 3) hx hb dW_839 (by decide) ?_
  refine lv_iadd hx hb dW_840 ?_
  refine va_sld hx hb hX hbl hbA hs.2.2 (sc_in hi hL 3 (by decide)) dW_841 ?_
  refine lw_callL C h1 mw_X7_see ml_L_121 rfl ⟨by decide, by decide⟩ rfl hs hl rfl (Nat.le_of_ble_eq_true rfl) hc hsl dW_842 (fun H locs hs => ?_)
  refine lv_aload_n hx hb dW_845 rfl (lv_at hl 2 rfl) ?_
  refine lv_aload_n hx hb dW_846 rfl (lv_at hl 0 rfl) ?_
  refine lv_iload_n hx hb dW_847 rfl (lv_at hl 3 rfl) ?_
  refine lv_iconst (v := 1) hx hb dW_848 (by decide) ?_
  refine lv_iadd hx hb dW_849 ?_
  refine va_sld hx hb hX hbl hbA hs.2.2 (sc_in hi hL 1 (by decide)) dW_850 ?_
  refine lv_aload_n hx hb dW_851 rfl (lv_at hl 0 rfl) ?_
  refine lv_iload_n hx hb dW_852 rfl (lv_at hl 3 rfl) ?_
  refine lv_iconst (v := 2) hx hb dW_853 (by decide) ?_
  refine lv_iadd hx hb dW_854 ?_
  refine va_sld hx hb hX hbl hbA hs.2.2 (sc_in hi hL 2 (by decide)) dW_855 ?_
  refine lv_aload_n hx hb dW_856 rfl (lv_at hl 0 rfl) ?_
  refine lv_iload_n hx hb dW_857 rfl (lv_at hl 3 rfl) ?_
  refine lv_iconst (v := 3) hx hb dW_858 (by decide) ?_
  refine lv_iadd hx hb dW_859 ?_
  refine va_sld hx hb hX hbl hbA hs.2.2 (sc_in hi hL 3 (by decide)) dW_860 ?_
  refine lw_callR C h2 mw_X8_see ml_L_124 rfl ⟨by decide, by decide⟩ rfl hs hl rfl (Nat.le_of_ble_eq_true rfl) hc hsl dW_861 (fun H locs hs => ?_)
  refine lv_icmp_eq (tgt := 1053) hx hb dW_864 (by decide) (fun _ => ?_) (fun cn => absurd rfl cn)
  exact kk σ' τ' H locs hR2 hs
set_option maxHeartbeats 4000000 in
set_option maxRecDepth 100000 in
theorem lc_deals (C : cb_C p s m #[.ref b] meth c code 4 ret R_law D T) (hX : va_X b L xs s s.heap) (hbl : b < s.heap.size) (hi : i + 4 ≤ L) (hL : L ≤ 256) (hR : Rel σ τ) (hs : ci_H (fun q => s.heap.size ≤ q) D (cb_wS shC A T σ ++ cb_wS shM B T τ) s.heap H locs) (hl : lv_has ls 4 [(0, .ref b), (1, .ref (A 0)), (2, .ref (B 0)), (3, .int (zI i))]) (hc : cells ≤ room_1.cells) (hsl : slots ≤ room_1.slots)
    (kk : ∀ (σ' τ' : cb_St) (H1 : Heap) (locs1 : List Loc), Rel σ' τ' → ci_H (fun q => s.heap.size ≤ q) D (cb_wS shC A T σ' ++ cb_wS shM B T τ') s.heap H1 locs1 → W p l e room_1 s m #[.ref b] below meth c H1 locs1 cells slots Q (F0 m 1053 ls [])) : W p l e room_1 s m #[.ref b] below meth c H locs cells slots Q (F0 m 869 ls []) := by
  have hbA : ¬ (fun q : Nat => s.heap.size ≤ q) b := Nat.not_le.mpr hbl
  obtain ⟨hx, hb, hml, hr, hown, hts, hK, hlk, hNn⟩ := id C
  obtain ⟨r, σ', τ', h1, h2, hR2⟩ := al_deals (l := l) (T := T) (D := D) (A := A) (B := B) hR (xs (zI i + 1).toNatClampNeg) (xs (zI i + 2).toNatClampNeg)
  refine lv_aload_n hx hb dW_869 rfl (lv_at hl 1 rfl) ?_
  refine lv_aload_n hx hb dW_870 rfl (lv_at hl 0 rfl) ?_
  refine lv_iload_n hx hb dW_871 rfl (lv_at hl 3 rfl) ?_
  refine lv_iconst (v := 1) hx hb dW_872 (by decide) ?_
  refine lv_iadd hx hb dW_873 ?_
  refine va_sld hx hb hX hbl hbA hs.2.2 (sc_in hi hL 1 (by decide)) dW_874 ?_
  refine lv_aload_n hx hb dW_875 rfl (lv_at hl 0 rfl) ?_
  refine lv_iload_n hx hb dW_876 rfl (lv_at hl 3 rfl) ?_
  refine lv_iconst (v := 2) hx hb dW_877 (by decide) ?_
  refine lv_iadd hx hb dW_878 ?_
  refine va_sld hx hb hX hbl hbA hs.2.2 (sc_in hi hL 2 (by decide)) dW_879 ?_
  refine lw_callL C h1 mw_X7_deals ml_L_125 rfl ⟨by decide, by decide⟩ rfl hs hl rfl (Nat.le_of_ble_eq_true rfl) hc hsl dW_880 (fun H locs hs => ?_)
  refine lv_aload_n hx hb dW_883 rfl (lv_at hl 2 rfl) ?_
  refine lv_aload_n hx hb dW_884 rfl (lv_at hl 0 rfl) ?_
  refine lv_iload_n hx hb dW_885 rfl (lv_at hl 3 rfl) ?_
  refine lv_iconst (v := 1) hx hb dW_886 (by decide) ?_
  refine lv_iadd hx hb dW_887 ?_
  refine va_sld hx hb hX hbl hbA hs.2.2 (sc_in hi hL 1 (by decide)) dW_888 ?_
  refine lv_aload_n hx hb dW_889 rfl (lv_at hl 0 rfl) ?_
  refine lv_iload_n hx hb dW_890 rfl (lv_at hl 3 rfl) ?_
  refine lv_iconst (v := 2) hx hb dW_891 (by decide) ?_
  refine lv_iadd hx hb dW_892 ?_
  refine va_sld hx hb hX hbl hbA hs.2.2 (sc_in hi hL 2 (by decide)) dW_893 ?_
  refine lw_callR C h2 mw_X8_deals ml_L_128 rfl ⟨by decide, by decide⟩ rfl hs hl rfl (Nat.le_of_ble_eq_true rfl) hc hsl dW_894 (fun H locs hs => ?_)
  refine lv_icmp_eq (tgt := 1053) hx hb dW_897 (by decide) (fun _ => ?_) (fun cn => absurd rfl cn)
  exact kk σ' τ' H locs hR2 hs
set_option maxHeartbeats 4000000 in
set_option maxRecDepth 100000 in
theorem lc_ask (C : cb_C p s m #[.ref b] meth c code 4 ret R_law D T) (hX : va_X b L xs s s.heap) (hbl : b < s.heap.size) (hi : i + 4 ≤ L) (hL : L ≤ 256) (hR : Rel σ τ) (hs : ci_H (fun q => s.heap.size ≤ q) D (cb_wS shC A T σ ++ cb_wS shM B T τ) s.heap H locs) (hl : lv_has ls 4 [(0, .ref b), (1, .ref (A 0)), (2, .ref (B 0)), (3, .int (zI i))]) (hc : cells ≤ room_1.cells) (hsl : slots ≤ room_1.slots)
    (kk : ∀ (σ' τ' : cb_St) (H1 : Heap) (locs1 : List Loc), Rel σ' τ' → ci_H (fun q => s.heap.size ≤ q) D (cb_wS shC A T σ' ++ cb_wS shM B T τ') s.heap H1 locs1 → W p l e room_1 s m #[.ref b] below meth c H1 locs1 cells slots Q (F0 m 1053 ls [])) : W p l e room_1 s m #[.ref b] below meth c H locs cells slots Q (F0 m 902 ls []) := by
  have hbA : ¬ (fun q : Nat => s.heap.size ≤ q) b := Nat.not_le.mpr hbl
  obtain ⟨hx, hb, hml, hr, hown, hts, hK, hlk, hNn⟩ := id C
  obtain ⟨r, σ', τ', h1, h2, hR2⟩ := al_ask (l := l) (T := T) (D := D) (A := A) (B := B) hR (xs (zI i + 1).toNatClampNeg)
  refine lv_aload_n hx hb dW_902 rfl (lv_at hl 1 rfl) ?_
  refine lv_aload_n hx hb dW_903 rfl (lv_at hl 0 rfl) ?_
  refine lv_iload_n hx hb dW_904 rfl (lv_at hl 3 rfl) ?_
  refine lv_iconst (v := 1) hx hb dW_905 (by decide) ?_
  refine lv_iadd hx hb dW_906 ?_
  refine va_sld hx hb hX hbl hbA hs.2.2 (sc_in hi hL 1 (by decide)) dW_907 ?_
  refine lw_callL C h1 mw_X7_ask ml_L_129 rfl ⟨by decide, by decide⟩ rfl hs hl rfl (Nat.le_of_ble_eq_true rfl) hc hsl dW_908 (fun H locs hs => ?_)
  refine lv_aload_n hx hb dW_911 rfl (lv_at hl 2 rfl) ?_
  refine lv_aload_n hx hb dW_912 rfl (lv_at hl 0 rfl) ?_
  refine lv_iload_n hx hb dW_913 rfl (lv_at hl 3 rfl) ?_
  refine lv_iconst (v := 1) hx hb dW_914 (by decide) ?_
  refine lv_iadd hx hb dW_915 ?_
  refine va_sld hx hb hX hbl hbA hs.2.2 (sc_in hi hL 1 (by decide)) dW_916 ?_
  refine lw_callR C h2 mw_X8_ask ml_L_132 rfl ⟨by decide, by decide⟩ rfl hs hl rfl (Nat.le_of_ble_eq_true rfl) hc hsl dW_917 (fun H locs hs => ?_)
  refine lv_icmp_eq (tgt := 1053) hx hb dW_920 (by decide) (fun _ => ?_) (fun cn => absurd rfl cn)
  exact kk σ' τ' H locs hR2 hs
set_option maxHeartbeats 4000000 in
set_option maxRecDepth 100000 in
theorem lc_write (C : cb_C p s m #[.ref b] meth c code 4 ret R_law D T) (hX : va_X b L xs s s.heap) (hbl : b < s.heap.size) (hi : i + 4 ≤ L) (hL : L ≤ 256) (hR : Rel σ τ) (hs : ci_H (fun q => s.heap.size ≤ q) D (cb_wS shC A T σ ++ cb_wS shM B T τ) s.heap H locs) (hl : lv_has ls 4 [(0, .ref b), (1, .ref (A 0)), (2, .ref (B 0)), (3, .int (zI i))]) (hc : cells ≤ room_1.cells) (hsl : slots ≤ room_1.slots)
    (kk : ∀ (σ' τ' : cb_St) (H1 : Heap) (locs1 : List Loc), Rel σ' τ' → ci_H (fun q => s.heap.size ≤ q) D (cb_wS shC A T σ' ++ cb_wS shM B T τ') s.heap H1 locs1 → W p l e room_1 s m #[.ref b] below meth c H1 locs1 cells slots Q (F0 m 1053 ls [])) : W p l e room_1 s m #[.ref b] below meth c H locs cells slots Q (F0 m 925 ls []) := by
  have hbA : ¬ (fun q : Nat => s.heap.size ≤ q) b := Nat.not_le.mpr hbl
  obtain ⟨hx, hb, hml, hr, hown, hts, hK, hlk, hNn⟩ := id C
  obtain ⟨r, σ', τ', h1, h2, hR2⟩ := al_write (l := l) (T := T) (D := D) (A := A) (B := B) hR (xs (zI i + 1).toNatClampNeg) (xs (zI i + 2).toNatClampNeg)
  refine lv_aload_n hx hb dW_925 rfl (lv_at hl 1 rfl) ?_
  refine lv_aload_n hx hb dW_926 rfl (lv_at hl 0 rfl) ?_
  refine lv_iload_n hx hb dW_927 rfl (lv_at hl 3 rfl) ?_
  refine lv_iconst (v := 1) hx hb dW_928 (by decide) ?_
  refine lv_iadd hx hb dW_929 ?_
  refine va_sld hx hb hX hbl hbA hs.2.2 (sc_in hi hL 1 (by decide)) dW_930 ?_
  refine lv_aload_n hx hb dW_931 rfl (lv_at hl 0 rfl) ?_
  refine lv_iload_n hx hb dW_932 rfl (lv_at hl 3 rfl) ?_
  refine lv_iconst (v := 2) hx hb dW_933 (by decide) ?_
  refine lv_iadd hx hb dW_934 ?_
  refine va_sld hx hb hX hbl hbA hs.2.2 (sc_in hi hL 2 (by decide)) dW_935 ?_
  refine lw_callL C h1 mw_X7_write ml_L_133 rfl ⟨by decide, by decide⟩ rfl hs hl rfl (Nat.le_of_ble_eq_true rfl) hc hsl dW_936 (fun H locs hs => ?_)
  refine lv_aload_n hx hb dW_939 rfl (lv_at hl 2 rfl) ?_
  refine lv_aload_n hx hb dW_940 rfl (lv_at hl 0 rfl) ?_
  refine lv_iload_n hx hb dW_941 rfl (lv_at hl 3 rfl) ?_
  refine lv_iconst (v := 1) hx hb dW_942 (by decide) ?_
  refine lv_iadd hx hb dW_943 ?_
  refine va_sld hx hb hX hbl hbA hs.2.2 (sc_in hi hL 1 (by decide)) dW_944 ?_
  refine lv_aload_n hx hb dW_945 rfl (lv_at hl 0 rfl) ?_
  refine lv_iload_n hx hb dW_946 rfl (lv_at hl 3 rfl) ?_
  refine lv_iconst (v := 2) hx hb dW_947 (by decide) ?_
  refine lv_iadd hx hb dW_948 ?_
  refine va_sld hx hb hX hbl hbA hs.2.2 (sc_in hi hL 2 (by decide)) dW_949 ?_
  refine lw_callR C h2 mw_X8_write ml_L_136 rfl ⟨by decide, by decide⟩ rfl hs hl rfl (Nat.le_of_ble_eq_true rfl) hc hsl dW_950 (fun H locs hs => ?_)
  refine lv_icmp_eq (tgt := 1053) hx hb dW_953 (by decide) (fun _ => ?_) (fun cn => absurd rfl cn)
  exact kk σ' τ' H locs hR2 hs
set_option maxHeartbeats 4000000 in
set_option maxRecDepth 100000 in
theorem lc_tear (C : cb_C p s m #[.ref b] meth c code 4 ret R_law D T) (hX : va_X b L xs s s.heap) (hbl : b < s.heap.size) (hi : i + 4 ≤ L) (hL : L ≤ 256) (hR : Rel σ τ) (hs : ci_H (fun q => s.heap.size ≤ q) D (cb_wS shC A T σ ++ cb_wS shM B T τ) s.heap H locs) (hl : lv_has ls 4 [(0, .ref b), (1, .ref (A 0)), (2, .ref (B 0)), (3, .int (zI i))]) (hc : cells ≤ room_1.cells) (hsl : slots ≤ room_1.slots)
    (kk : ∀ (σ' τ' : cb_St) (H1 : Heap) (locs1 : List Loc), Rel σ' τ' → ci_H (fun q => s.heap.size ≤ q) D (cb_wS shC A T σ' ++ cb_wS shM B T τ') s.heap H1 locs1 → W p l e room_1 s m #[.ref b] below meth c H1 locs1 cells slots Q (F0 m 1053 ls [])) : W p l e room_1 s m #[.ref b] below meth c H locs cells slots Q (F0 m 958 ls []) := by
  have hbA : ¬ (fun q : Nat => s.heap.size ≤ q) b := Nat.not_le.mpr hbl
  obtain ⟨hx, hb, hml, hr, hown, hts, hK, hlk, hNn⟩ := id C
  obtain ⟨r, σ', τ', h1, h2, hR2⟩ := al_tear (l := l) (T := T) (D := D) (A := A) (B := B) hR 
  refine lv_aload_n hx hb dW_958 rfl (lv_at hl 1 rfl) ?_
  refine lw_callL C h1 mw_X7_tear ml_L_137 rfl ⟨by decide, by decide⟩ rfl hs hl rfl (Nat.le_of_ble_eq_true rfl) hc hsl dW_959 (fun H locs hs => ?_)
  refine lv_aload_n hx hb dW_962 rfl (lv_at hl 2 rfl) ?_
  refine lw_callR C h2 mw_X8_tear ml_L_140 rfl ⟨by decide, by decide⟩ rfl hs hl rfl (Nat.le_of_ble_eq_true rfl) hc hsl dW_963 (fun H locs hs => ?_)
  refine lv_icmp_eq (tgt := 1053) hx hb dW_966 (by decide) (fun _ => ?_) (fun cn => absurd rfl cn)
  exact kk σ' τ' H locs hR2 hs
set_option maxHeartbeats 4000000 in
set_option maxRecDepth 100000 in
theorem lc_judge (C : cb_C p s m #[.ref b] meth c code 4 ret R_law D T) (hX : va_X b L xs s s.heap) (hbl : b < s.heap.size) (hi : i + 4 ≤ L) (hL : L ≤ 256) (hR : Rel σ τ) (hs : ci_H (fun q => s.heap.size ≤ q) D (cb_wS shC A T σ ++ cb_wS shM B T τ) s.heap H locs) (hl : lv_has ls 4 [(0, .ref b), (1, .ref (A 0)), (2, .ref (B 0)), (3, .int (zI i))]) (hc : cells ≤ room_1.cells) (hsl : slots ≤ room_1.slots)
    (kk : ∀ (σ' τ' : cb_St) (H1 : Heap) (locs1 : List Loc), Rel σ' τ' → ci_H (fun q => s.heap.size ≤ q) D (cb_wS shC A T σ' ++ cb_wS shM B T τ') s.heap H1 locs1 → W p l e room_1 s m #[.ref b] below meth c H1 locs1 cells slots Q (F0 m 1053 ls [])) : W p l e room_1 s m #[.ref b] below meth c H locs cells slots Q (F0 m 971 ls []) := by
  have hbA : ¬ (fun q : Nat => s.heap.size ≤ q) b := Nat.not_le.mpr hbl
  obtain ⟨hx, hb, hml, hr, hown, hts, hK, hlk, hNn⟩ := id C
  obtain ⟨r, σ', τ', h1, h2, hR2⟩ := al_judge (l := l) (T := T) (D := D) (A := A) (B := B) hR 
  refine lv_aload_n hx hb dW_971 rfl (lv_at hl 1 rfl) ?_
  refine lw_callL C h1 mw_X7_judge ml_L_141 rfl ⟨by decide, by decide⟩ rfl hs hl rfl (Nat.le_of_ble_eq_true rfl) hc hsl dW_972 (fun H locs hs => ?_)
  refine lv_aload_n hx hb dW_975 rfl (lv_at hl 2 rfl) ?_
  refine lw_callR C h2 mw_X8_judge ml_L_144 rfl ⟨by decide, by decide⟩ rfl hs hl rfl (Nat.le_of_ble_eq_true rfl) hc hsl dW_976 (fun H locs hs => ?_)
  refine lv_icmp_eq (tgt := 1053) hx hb dW_979 (by decide) (fun _ => ?_) (fun cn => absurd rfl cn)
  exact kk σ' τ' H locs hR2 hs
set_option maxHeartbeats 4000000 in
set_option maxRecDepth 100000 in
theorem lc_seed (C : cb_C p s m #[.ref b] meth c code 4 ret R_law D T) (hX : va_X b L xs s s.heap) (hbl : b < s.heap.size) (hi : i + 4 ≤ L) (hL : L ≤ 256) (hR : Rel σ τ) (hs : ci_H (fun q => s.heap.size ≤ q) D (cb_wS shC A T σ ++ cb_wS shM B T τ) s.heap H locs) (hl : lv_has ls 4 [(0, .ref b), (1, .ref (A 0)), (2, .ref (B 0)), (3, .int (zI i))]) (hc : cells ≤ room_1.cells) (hsl : slots ≤ room_1.slots)
    (kk : ∀ (σ' τ' : cb_St) (H1 : Heap) (locs1 : List Loc), Rel σ' τ' → ci_H (fun q => s.heap.size ≤ q) D (cb_wS shC A T σ' ++ cb_wS shM B T τ') s.heap H1 locs1 → W p l e room_1 s m #[.ref b] below meth c H1 locs1 cells slots Q (F0 m 1053 ls [])) : W p l e room_1 s m #[.ref b] below meth c H locs cells slots Q (F0 m 984 ls []) := by
  have hbA : ¬ (fun q : Nat => s.heap.size ≤ q) b := Nat.not_le.mpr hbl
  obtain ⟨hx, hb, hml, hr, hown, hts, hK, hlk, hNn⟩ := id C
  obtain ⟨r, σ', τ', h1, h2, hR2⟩ := al_seed (l := l) (T := T) (D := D) (A := A) (B := B) hR (xs (zI i + 1).toNatClampNeg)
  refine lv_aload_n hx hb dW_984 rfl (lv_at hl 1 rfl) ?_
  refine lv_aload_n hx hb dW_985 rfl (lv_at hl 0 rfl) ?_
  refine lv_iload_n hx hb dW_986 rfl (lv_at hl 3 rfl) ?_
  refine lv_iconst (v := 1) hx hb dW_987 (by decide) ?_
  refine lv_iadd hx hb dW_988 ?_
  refine va_sld hx hb hX hbl hbA hs.2.2 (sc_in hi hL 1 (by decide)) dW_989 ?_
  refine lw_callL C h1 mw_X7_seed ml_L_145 rfl ⟨by decide, by decide⟩ rfl hs hl rfl (Nat.le_of_ble_eq_true rfl) hc hsl dW_990 (fun H locs hs => ?_)
  refine lv_aload_n hx hb dW_993 rfl (lv_at hl 2 rfl) ?_
  refine lv_aload_n hx hb dW_994 rfl (lv_at hl 0 rfl) ?_
  refine lv_iload_n hx hb dW_995 rfl (lv_at hl 3 rfl) ?_
  refine lv_iconst (v := 1) hx hb dW_996 (by decide) ?_
  refine lv_iadd hx hb dW_997 ?_
  refine va_sld hx hb hX hbl hbA hs.2.2 (sc_in hi hL 1 (by decide)) dW_998 ?_
  refine lw_callR C h2 mw_X8_seed ml_L_148 rfl ⟨by decide, by decide⟩ rfl hs hl rfl (Nat.le_of_ble_eq_true rfl) hc hsl dW_999 (fun H locs hs => ?_)
  refine lv_icmp_eq (tgt := 1053) hx hb dW_1002 (by decide) (fun _ => ?_) (fun cn => absurd rfl cn)
  exact kk σ' τ' H locs hR2 hs
set_option maxHeartbeats 4000000 in
set_option maxRecDepth 100000 in
theorem lc_keep (C : cb_C p s m #[.ref b] meth c code 4 ret R_law D T) (hX : va_X b L xs s s.heap) (hbl : b < s.heap.size) (hi : i + 4 ≤ L) (hL : L ≤ 256) (hR : Rel σ τ) (hs : ci_H (fun q => s.heap.size ≤ q) D (cb_wS shC A T σ ++ cb_wS shM B T τ) s.heap H locs) (hl : lv_has ls 4 [(0, .ref b), (1, .ref (A 0)), (2, .ref (B 0)), (3, .int (zI i))]) (hc : cells ≤ room_1.cells) (hsl : slots ≤ room_1.slots)
    (kk : ∀ (σ' τ' : cb_St) (H1 : Heap) (locs1 : List Loc), Rel σ' τ' → ci_H (fun q => s.heap.size ≤ q) D (cb_wS shC A T σ' ++ cb_wS shM B T τ') s.heap H1 locs1 → W p l e room_1 s m #[.ref b] below meth c H1 locs1 cells slots Q (F0 m 1053 ls [])) : W p l e room_1 s m #[.ref b] below meth c H locs cells slots Q (F0 m 1007 ls []) := by
  have hbA : ¬ (fun q : Nat => s.heap.size ≤ q) b := Nat.not_le.mpr hbl
  obtain ⟨hx, hb, hml, hr, hown, hts, hK, hlk, hNn⟩ := id C
  obtain ⟨r, σ', τ', h1, h2, hR2⟩ := al_keep (l := l) (T := T) (D := D) (A := A) (B := B) hR (xs (zI i + 1).toNatClampNeg)
  refine lv_aload_n hx hb dW_1007 rfl (lv_at hl 1 rfl) ?_
  refine lv_aload_n hx hb dW_1008 rfl (lv_at hl 0 rfl) ?_
  refine lv_iload_n hx hb dW_1009 rfl (lv_at hl 3 rfl) ?_
  refine lv_iconst (v := 1) hx hb dW_1010 (by decide) ?_
  refine lv_iadd hx hb dW_1011 ?_
  refine va_sld hx hb hX hbl hbA hs.2.2 (sc_in hi hL 1 (by decide)) dW_1012 ?_
  refine lw_callL C h1 mw_X7_keep ml_L_149 rfl ⟨by decide, by decide⟩ rfl hs hl rfl (Nat.le_of_ble_eq_true rfl) hc hsl dW_1013 (fun H locs hs => ?_)
  refine lv_aload_n hx hb dW_1016 rfl (lv_at hl 2 rfl) ?_
  refine lv_aload_n hx hb dW_1017 rfl (lv_at hl 0 rfl) ?_
  refine lv_iload_n hx hb dW_1018 rfl (lv_at hl 3 rfl) ?_
  refine lv_iconst (v := 1) hx hb dW_1019 (by decide) ?_
  refine lv_iadd hx hb dW_1020 ?_
  refine va_sld hx hb hX hbl hbA hs.2.2 (sc_in hi hL 1 (by decide)) dW_1021 ?_
  refine lw_callR C h2 mw_X8_keep ml_L_152 rfl ⟨by decide, by decide⟩ rfl hs hl rfl (Nat.le_of_ble_eq_true rfl) hc hsl dW_1022 (fun H locs hs => ?_)
  refine lv_icmp_eq (tgt := 1053) hx hb dW_1025 (by decide) (fun _ => ?_) (fun cn => absurd rfl cn)
  exact kk σ' τ' H locs hR2 hs
set_option maxHeartbeats 4000000 in
set_option maxRecDepth 100000 in
theorem lc_goBack (C : cb_C p s m #[.ref b] meth c code 4 ret R_law D T) (hX : va_X b L xs s s.heap) (hbl : b < s.heap.size) (hi : i + 4 ≤ L) (hL : L ≤ 256) (hR : Rel σ τ) (hs : ci_H (fun q => s.heap.size ≤ q) D (cb_wS shC A T σ ++ cb_wS shM B T τ) s.heap H locs) (hl : lv_has ls 4 [(0, .ref b), (1, .ref (A 0)), (2, .ref (B 0)), (3, .int (zI i))]) (hc : cells ≤ room_1.cells) (hsl : slots ≤ room_1.slots)
    (kk : ∀ (σ' τ' : cb_St) (H1 : Heap) (locs1 : List Loc), Rel σ' τ' → ci_H (fun q => s.heap.size ≤ q) D (cb_wS shC A T σ' ++ cb_wS shM B T τ') s.heap H1 locs1 → W p l e room_1 s m #[.ref b] below meth c H1 locs1 cells slots Q (F0 m 1053 ls [])) : W p l e room_1 s m #[.ref b] below meth c H locs cells slots Q (F0 m 1030 ls []) := by
  have hbA : ¬ (fun q : Nat => s.heap.size ≤ q) b := Nat.not_le.mpr hbl
  obtain ⟨hx, hb, hml, hr, hown, hts, hK, hlk, hNn⟩ := id C
  obtain ⟨r, σ', τ', h1, h2, hR2⟩ := al_goBack (l := l) (T := T) (D := D) (A := A) (B := B) hR (xs (zI i + 1).toNatClampNeg)
  refine lv_aload_n hx hb dW_1030 rfl (lv_at hl 1 rfl) ?_
  refine lv_aload_n hx hb dW_1031 rfl (lv_at hl 0 rfl) ?_
  refine lv_iload_n hx hb dW_1032 rfl (lv_at hl 3 rfl) ?_
  refine lv_iconst (v := 1) hx hb dW_1033 (by decide) ?_
  refine lv_iadd hx hb dW_1034 ?_
  refine va_sld hx hb hX hbl hbA hs.2.2 (sc_in hi hL 1 (by decide)) dW_1035 ?_
  refine lw_callL C h1 mw_X7_goBack ml_L_153 rfl ⟨by decide, by decide⟩ rfl hs hl rfl (Nat.le_of_ble_eq_true rfl) hc hsl dW_1036 (fun H locs hs => ?_)
  refine lv_aload_n hx hb dW_1039 rfl (lv_at hl 2 rfl) ?_
  refine lv_aload_n hx hb dW_1040 rfl (lv_at hl 0 rfl) ?_
  refine lv_iload_n hx hb dW_1041 rfl (lv_at hl 3 rfl) ?_
  refine lv_iconst (v := 1) hx hb dW_1042 (by decide) ?_
  refine lv_iadd hx hb dW_1043 ?_
  refine va_sld hx hb hX hbl hbA hs.2.2 (sc_in hi hL 1 (by decide)) dW_1044 ?_
  refine lw_callR C h2 mw_X8_goBack ml_L_156 rfl ⟨by decide, by decide⟩ rfl hs hl rfl (Nat.le_of_ble_eq_true rfl) hc hsl dW_1045 (fun H locs hs => ?_)
  refine lv_icmp_eq (tgt := 1053) hx hb dW_1048 (by decide) (fun _ => ?_) (fun cn => absurd rfl cn)
  exact kk σ' τ' H locs hR2 hs
end LC
