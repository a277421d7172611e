/-! ===== calls over a state ===== -/
theorem cb_blind {sh : List Nat} {A : Nat → Nat} {T : Nat → ClassId} {D : va_G} {σ : cb_St} {vs : List Value} : FrameBlind (cb_P sh A T D σ vs) := by
  intro a U g mk q
  obtain ⟨q0, qP, qD, qK, qN⟩ := q
  exact ⟨q0, qP, qD, va_K.moved (u := U) (U := U.calling g mk a) (Vm.Alike.refl U.vm) qK, va_Nw.same rfl rfl qN⟩
theorem cb_good {Ts : List Cond} {y : MethodName} {bytes : ByteArray} {mL : Nat} {rt : Option FieldType} (hT : ∀ w ∈ cb_gt, w ∈ Ts) (h : Cond.code y bytes mL rt ∈ cb_gt) : GoodIn Ts (Cond.code y bytes mL rt :: cb_gt) := by
  intro w hw
  have hg : w ∈ cb_gt := by
    rcases List.mem_cons.mp hw with h1 | h1
    · rw [h1]; exact h
    · exact h1
  exact ⟨hT w hg, good_of_word (cb_gw hg)⟩
theorem cb_obj {A : Nat → Nat} {T : Nat → ClassId} {r : Nat → Int32} {g : Int64} {k kd : Nat} (h : kd < 9) : ∃ fs, cb_cE A T r g k kd = .inr (kd, fs) := by
  match kd, h with
  | 0, _ => exact ⟨_, rfl⟩
  | 1, _ => exact ⟨_, rfl⟩
  | 2, _ => exact ⟨_, rfl⟩
  | 3, _ => exact ⟨_, rfl⟩
  | 4, _ => exact ⟨_, rfl⟩
  | 5, _ => exact ⟨_, rfl⟩
  | 6, _ => exact ⟨_, rfl⟩
  | 7, _ => exact ⟨_, rfl⟩
  | 8, _ => exact ⟨_, rfl⟩
  | n + 9, h => exact absurd h (by omega)
def cb_okm (y : MethodName) (n : Nat) : Prop := y.cls ≠ "java/lang/invoke/MethodHandle" ∧ y.cls ≠ "java/lang/invoke/VarHandle" ∧ (parseMethodDescriptor y.desc).map (fun d => d.parameters.length) = some n
/-- a method of an object: its words -/
def cb_vw (y : MethodName) (bytes : ByteArray) (mL : Nat) (rt : Option FieldType) (n : Nat) : Prop := Cond.code y bytes mL rt ∈ cb_gt ∧ Cond.instanceMethod y ∈ cb_gt ∧ Cond.selects y.cls y y ∈ cb_gt ∧ Cond.initialized y.cls ∈ cb_gt ∧ cb_okm y n
def cb_sw (y : MethodName) (bytes : ByteArray) (mL : Nat) (rt : Option FieldType) (n : Nat) : Prop := Cond.code y bytes mL rt ∈ cb_gt ∧ Cond.static y ∈ cb_gt ∧ Cond.initialized y.cls ∈ cb_gt ∧ cb_okm y n
section CBC
variable {p : Program} {l : Launch} {e : Env} {n : Nat} {s : State} {m : MethodId} {args : Array Value} {below : List Frame} {meth : Method} {c : Code} {sh : List Nat} {A : Nat → Nat} {T : Nat → ClassId} {D : va_G} {r : Option Value} {σ τ : cb_St} {H : Heap} {locs : List Loc} {R : Room} {Q : State → Prop}
variable {cc : ByteArray} {nL : Nat} {ret : Option FieldType} {own : String} {pc : Nat} {ls : Array Slot} {rest st0 : List Value}
variable {y : MethodName} {bytes : ByteArray} {mL n' nA index : Nat} {rt : Option FieldType} {As : List Value} {a : Array Value}
theorem cb_go (hr : va_Run p l e R s m args below meth c H locs 0 0 0 0 (F0 m pc ls st0) rest (cb_Q sh A T D r τ a) (cb_fA sh A)) (hs : cb_H sh A T D σ s.heap H locs)
    (kk : ∀ (H1 : Heap) (locs1 : List Loc), cb_H sh A T D τ s.heap H1 locs1 → W p l e R s m args below meth c H1 locs1 0 0 Q (F0 m (pc + 3) ls (r.toList ++ rest))) : W p l e R s m args below meth c H locs 0 0 Q (F0 m pc ls st0) := by
  intro T0 hT X
  obtain ⟨v, st₀, t, T', L, h0, X', hL, e1, e2, ⟨hv, hP, hz, hk⟩, st⟩ := hr T0 hT X
  cases hv
  rw [h0] at hz hk
  obtain ⟨t2, a1, b1⟩ := kk T'.heap (locs ++ L) ⟨by rw [e1]; exact hP, cb_D hs.2.1, Nat.le_trans hs.2.2.1 (by rw [e1]; exact hz), fun q h1 h2 => by rw [e1, hk q (Nat.lt_of_lt_of_le h1 hs.2.2.1) h2]; exact hs.2.2.2.1 q h1 h2, fun q hq => by
      rcases List.mem_append.mp hq with h | h
      · exact hs.2.2.2.2 q h
      · exact hL q h⟩ T' rfl X'
  exact ⟨t2, st t2 a1, b1⟩
theorem cb_pre {vs : List Value} (C : cb_C p s m args meth c cc nL ret own D T) (hs : cb_H sh A T D σ s.heap H locs) : ∀ U : State, U.heap = H → s.WarmedH U.vm → cb_P sh A T D σ vs vs.toArray U := by
  obtain ⟨hx, hb, hml, hr, hown, hts, hK, hlk, hN⟩ := C
  intro U hU hW
  exact ⟨rfl, by rw [hU]; exact hs.1, hs.2.1, va_K.moved hW.alike hK, va_Nw.warmM hW hN⟩
theorem cb_callV {k kd Nc : Nat} {Tc : u_T} (C : cb_C p s m args meth c cc nL ret own D T) (hM : cb_M l y bytes mL rt n' sh A T D σ (.ref (A k) :: As) r τ) (hv : cb_vw y bytes mL rt nA) (hl : Cond.methodLink own index y ∈ cb_gt) (hn : As.length = nA) (hR : n' + 1 ≤ n ∧ 8 + (mL + 11) + 40 * n' ≤ 40 * n)
    (hk : sh[k]? = some kd) (hkd : kd < 9) (hc : cb_cl[kd]? = some (y.cls, Tc, Nc)) (hs : cb_H sh A T D σ s.heap H locs) {lv : List (Nat × Value)} (hls : lv_has ls nL lv) (hst : st0 = As.reverse ++ .ref (A k) :: rest) (hcat : (rest.map fun v => v.category).sum ≤ 8) (hdg : decode cc pc = .ok (.invokevirtual index, 3))
    (kk : ∀ (H1 : Heap) (locs1 : List Loc), cb_H sh A T D τ s.heap H1 locs1 → W p l e (cb_rm n) s m args below meth c H1 locs1 0 0 Q (F0 m (pc + 3) ls (r.toList ++ rest))) : W p l e (cb_rm n) s m args below meth c H locs 0 0 Q (F0 m pc ls st0) := by
  have C0 := C
  obtain ⟨hx, hb, hml, hr, hown, hts, hK, hlk, hN⟩ := C
  obtain ⟨w1, w2, w3, w4, w5⟩ := hv
  obtain ⟨fs, hfs⟩ := cb_obj (A := A) (T := T) (r := σ.1 k) (g := σ.2 k) (k := k) hkd
  have he : (cb_wS sh A T σ)[k]? = some (A k, .inr (kd, fs)) := by rw [cb_at hk, hfs]
  have hrun := va_runV (l := l) (e := e) (below := below) (meth := meth) (locs := locs) (cells := 0) (slots := 0) (n := nA) (g := F0 m pc ls st0) (As := As) (rest := rest) (Ts := cb_gt) ⟨hx, hb, hml, hown, hts⟩ hM ⟨callB_of (R := cb_rm n) nA hts (cb_good (fun _ h => h) w1) rfl rfl rfl (hts _ w4) (hts _ hl) w5 ⟨hR.1, hR.2⟩, hts _ w2, hts _ w3⟩ ⟨cb_blind, va_recv hK hs.1 hc he, cb_pre C0 hs⟩ rfl hn hls.1 hst (lv_room hcat) hdg ⟨Nat.le_refl 0, Nat.le_refl 0⟩
  exact cb_go hrun hs kk
theorem cb_callS (C : cb_C p s m args meth c cc nL ret own D T) (hM : cb_M l y bytes mL rt n' sh A T D σ As r τ) (hv : cb_sw y bytes mL rt nA) (hl : Cond.methodLink own index y ∈ cb_gt) (hn : As.length = nA) (hR : n' + 1 ≤ n ∧ 8 + (mL + 11) + 40 * n' ≤ 40 * n)
    (hs : cb_H sh A T D σ s.heap H locs) {lv : List (Nat × Value)} (hls : lv_has ls nL lv) (hst : st0 = As.reverse ++ rest) (hcat : (rest.map fun v => v.category).sum ≤ 8) (hdg : decode cc pc = .ok (.invokestatic index, 3))
    (kk : ∀ (H1 : Heap) (locs1 : List Loc), cb_H sh A T D τ s.heap H1 locs1 → W p l e (cb_rm n) s m args below meth c H1 locs1 0 0 Q (F0 m (pc + 3) ls (r.toList ++ rest))) : W p l e (cb_rm n) s m args below meth c H locs 0 0 Q (F0 m pc ls st0) := by
  have C0 := C
  obtain ⟨hx, hb, hml, hr, hown, hts, hK, hlk, hN⟩ := C
  obtain ⟨w1, w2, w4, w5⟩ := hv
  have hrun := va_runS (l := l) (e := e) (below := below) (meth := meth) (locs := locs) (cells := 0) (slots := 0) (n := nA) (g := F0 m pc ls st0) (As := As) (rest := rest) (Ts := cb_gt) ⟨hx, hb, hml, hown, hts⟩ hM ⟨callB_of (R := cb_rm n) nA hts (cb_good (fun _ h => h) w1) rfl rfl rfl (hts _ w4) (hts _ hl) w5 ⟨hR.1, hR.2⟩, hts _ w2⟩ ⟨cb_blind, cb_pre C0 hs⟩ rfl hn hls.1 hst (lv_room hcat) hdg ⟨Nat.le_refl 0, Nat.le_refl 0⟩
  exact cb_go hrun hs kk
theorem cb_callN (C : cb_C p s m args meth c cc nL ret RX4 D T) (hM : cb_M l yX7_placeAfter bytes mL rt n' sh A T D σ As r τ) (hv : cb_sw yX7_placeAfter bytes mL rt nA) (hn : As.length = nA) (hR : n' + 1 ≤ n ∧ 8 + (mL + 11) + 40 * n' ≤ 40 * n)
    (hs : cb_H sh A T D σ s.heap H locs) {lv : List (Nat × Value)} (hls : lv_has ls nL lv) (hst : st0 = As.reverse ++ rest) (hcat : (rest.map fun v => v.category).sum ≤ 8) (hdg : decode cc pc = .ok (.invokestatic 70, 3))
    (kk : ∀ (H1 : Heap) (locs1 : List Loc), cb_H sh A T D τ s.heap H1 locs1 → W p l e (cb_rm n) s m args below meth c H1 locs1 0 0 Q (F0 m (pc + 3) ls (r.toList ++ rest))) : W p l e (cb_rm n) s m args below meth c H locs 0 0 Q (F0 m pc ls st0) := by
  have C0 := C
  obtain ⟨hx, hb, hml, hr, hown, hts, hK, hlk, hN⟩ := C
  obtain ⟨w1, w2, w4, w5⟩ := hv
  have hrun := va_runSN (l := l) (e := e) (below := below) (meth := meth) (locs := locs) (cells := 0) (slots := 0) (n := nA) (g := F0 m pc ls st0) (As := As) (rest := rest) (Ts := cb_gt) ⟨hx, hb, hml, hown, hts⟩ hM ⟨va_cnB (R := cb_rm n) nA hts (cb_good (fun _ h => h) w1) rfl rfl rfl hN (hts _ w4) w5 ⟨hR.1, hR.2⟩, hts _ w2, trivial⟩ ⟨cb_blind, cb_pre C0 hs⟩ rfl hn hls.1 hst (lv_room hcat) hdg ⟨Nat.le_refl 0, Nat.le_refl 0⟩
  exact cb_go hrun hs kk
/-- the row of plays, the row of images -/
theorem cb_aald {k kd w C0 : Nat} {X : String} {i : Int32} {N : Nat} {f : Nat → Option Nat} (C : cb_C p s m args meth c cc nL ret own D T) (hs : cb_H sh A T D σ s.heap H locs) (hk : sh[k]? = some kd) (hE : cb_cE A T (σ.1 k) (σ.2 k) k kd = .inl (T C0, N, .inr (.inr (.inr (.inr f))))) (ht : (cb_ty T)[C0]? = some (T C0, .object X)) (hin : vp_in i N) (hf : f i.toNatClampNeg = some (A w)) (hdg : decode cc pc = .ok (.aaload, 1))
    (kk : W p l e R s m args below meth c H locs 0 0 Q (F0 m (pc + 1) ls (.ref (A w) :: rest))) : W p l e R s m args below meth c H locs 0 0 Q (F0 m pc ls (.int i :: .ref (A k) :: rest)) := by
  obtain ⟨hx, hb, hml, hr, hown, hts, hK, hlk, hN⟩ := C
  refine va_aldq hx hb hK hs.1 k C0 (by rw [cb_at hk, hE]) ht hin hdg ?_
  rw [hf]
  exact kk
theorem cb_zald {k : Nat} {i : Int32} (C : cb_C p s m args meth c cc nL ret own D T) (hs : cb_H sh A T D σ s.heap H locs) (hk : sh[k]? = some 12) (hin : vp_in i 2) (hdg : decode cc pc = .ok (.baload, 1))
    (kk : W p l e R s m args below meth c H locs 0 0 Q (F0 m (pc + 1) ls (.int (σ.1 k i.toNatClampNeg) :: rest))) : W p l e R s m args below meth c H locs 0 0 Q (F0 m pc ls (.int i :: .ref (A k) :: rest)) := by
  obtain ⟨hx, hb, hml, hr, hown, hts, hK, hlk, hN⟩ := C
  exact va_zald hx hb hK hs.1 k 3 (cb_at hk) rfl hin hdg kk
theorem cb_zast {k : Nat} {i x : Int32} (C : cb_C p s m args meth c cc nL ret own D T) (hs : cb_H sh A T D σ s.heap H locs) (hk : sh[k]? = some 12) (hin : vp_in i 2) (hz : x = 0 ∨ x = 1) (hdg : decode cc pc = .ok (.bastore, 1))
    (kk : ∀ (H1 : Heap) (locs1 : List Loc), cb_H sh A T D (cb_sI σ k i.toNatClampNeg x) s.heap H1 locs1 → W p l e R s m args below meth c H1 locs1 0 0 Q (F0 m (pc + 1) ls rest)) : W p l e R s m args below meth c H locs 0 0 Q (F0 m pc ls (.int x :: .int i :: .ref (A k) :: rest)) := by
  obtain ⟨hx, hb, hml, hr, hown, hts, hK, hlk, hN⟩ := C
  have hnar : vp_nar .boolean x = x := by rcases hz with rfl | rfl <;> decide
  refine va_zast hx hb hK hs.1 hs.2.1 hs.2.2 k 3 (cb_at hk) rfl hin hdg (fun H1 locs1 h1 h2 h3 => kk H1 locs1 ⟨?_, cb_D hs.2.1, h3⟩)
  have := cb_setA (A := A) (T := T) (σ := σ) hk (upd (σ.1 k) i.toNatClampNeg x)
  rw [cb_sI, ← this]
  rw [hnar] at h1
  exact h1
/-- a row copied into another -/
theorem cb_copy {k0 k1 N0 N1 : Nat} {sp dp q : Int32} (C : cb_C p s m args meth c cc nL ret own D T) (hs : cb_H sh A T D σ s.heap H locs) (hl : Cond.methodLink own index arraycopyName ∈ cb_gt) (h0 : sh[k0]? = some (N0 + 20)) (h1 : sh[k1]? = some (N1 + 20)) (hfr : 1 ≤ n) {lv : List (Nat × Value)} (hls : lv_has ls nL lv)
    (hb1 : 0 ≤ sp) (hb2 : 0 ≤ dp) (hb3 : 0 ≤ q) (hb4 : sp.toNatClampNeg + q.toNatClampNeg ≤ N0) (hb5 : dp.toNatClampNeg + q.toNatClampNeg ≤ N1) (hw : Cond.native arraycopyName ∈ cb_gt ∧ Cond.static arraycopyName ∈ cb_gt ∧ Cond.initialized "java/lang/System" ∈ cb_gt) (hcat : (rest.map fun v => v.category).sum ≤ 8) (hdg : decode cc pc = .ok (.invokestatic index, 3))
    (kk : ∀ (H1 : Heap) (locs1 : List Loc), cb_H sh A T D (cb_sA σ k1 (va_cpy (σ.1 k0) (σ.1 k1) sp.toNatClampNeg dp.toNatClampNeg q.toNatClampNeg)) s.heap H1 locs1 → W p l e (cb_rm n) s m args below meth c H1 locs1 0 0 Q (F0 m (pc + 3) ls rest)) : W p l e (cb_rm n) s m args below meth c H locs 0 0 Q (F0 m pc ls (.int q :: .int dp :: .ref (A k1) :: .int sp :: .ref (A k0) :: rest)) := by
  obtain ⟨hx, hb, hml, hr, hown, hts, hK, hlk, hN⟩ := C
  have nn : ∀ z : Int32, 0 ≤ z → ¬ z < 0 := fun z h => Int32.not_lt.mpr h
  refine va_copyi hx hb (hml.trans hls.1.symm) hown (hts _ hl) (hts _ hw.1) (hts _ hw.2.1) (hts _ hw.2.2) hK hs.1 hs.2.1 hs.2.2 k0 k1 0 0 (ty := .int) (cb_at h0) (cb_at h1) rfl rfl rfl (nn _ hb1) (nn _ hb2) (nn _ hb3) hb4 hb5 (fun _ _ => rfl) hfr ?_ hdg (fun H1 locs1 g1 g2 g3 => kk H1 locs1 ⟨?_, cb_D hs.2.1, g3⟩)
  · have e9 : nativeFrameWords "java/lang/System" "arraycopy" 5 ≤ 21 := by decide
    show _ ≤ 40 * n
    omega
  · have := cb_setA (A := A) (T := T) (σ := σ) h1 (va_cpy (σ.1 k0) (σ.1 k1) sp.toNatClampNeg dp.toNatClampNeg q.toNatClampNeg)
    rw [← this]
    exact g1
end CBC
