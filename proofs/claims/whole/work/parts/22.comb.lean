/-! ===== the functions' words: let, call, check ===== -/
def cb_let {α β : Type} (x : α) (f : α → β) : β := f x
theorem cb_let_inv {α β : Type} {x : α} {f : α → Option β} {o : β} (h : cb_let x f = some o) : ∃ y, y = x ∧ f y = some o := ⟨x, rfl, h⟩
def cb_bp {β : Type} (x : Option Int32) (f : Int32 → Option β) : Option β := match x with
  | none => none
  | some r => f r
theorem cb_bp_inv {β : Type} {x : Option Int32} {f : Int32 → Option β} {o : β} (h : cb_bp x f = some o) : ∃ r, x = some r ∧ f r = some o := by
  cases x with
  | none => cases h
  | some r => exact ⟨r, rfl, h⟩
def cb_bv {β : Type} (x : Option cb_St) (f : cb_St → Option β) : Option β := match x with
  | none => none
  | some r => f r
theorem cb_bv_inv {β : Type} {x : Option cb_St} {f : cb_St → Option β} {o : β} (h : cb_bv x f = some o) : ∃ r, x = some r ∧ f r = some o := by
  cases x with
  | none => cases h
  | some r => exact ⟨r, rfl, h⟩
def cb_bi {β : Type} (x : Option (Int32 × cb_St)) (f : Int32 → cb_St → Option β) : Option β := match x with
  | none => none
  | some r => f r.1 r.2
theorem cb_bi_inv {β : Type} {x : Option (Int32 × cb_St)} {f : Int32 → cb_St → Option β} {o : β} (h : cb_bi x f = some o) : ∃ r τ, x = some (r, τ) ∧ f r τ = some o := by
  cases x with
  | none => cases h
  | some r => exact ⟨r.1, r.2, rfl, h⟩
def cb_ck {β : Type} (P : Prop) [Decidable P] (x : Option β) : Option β := if P then x else none
theorem cb_ck_inv {β : Type} {P : Prop} [Decidable P] {x : Option β} {o : β} (h : cb_ck P x = some o) : P ∧ x = some o := by
  unfold cb_ck at h
  by_cases hp : P
  · rw [if_pos hp] at h; exact ⟨hp, h⟩
  · rw [if_neg hp] at h; cases h
theorem cb_ifp {α : Type} {P : Prop} [Decidable P] {a b o : α} (hp : P) (h : (if P then a else b) = o) : a = o := by rw [if_pos hp] at h; exact h
theorem cb_ifn {α : Type} {P : Prop} [Decidable P] {a b o : α} (hp : ¬ P) (h : (if P then a else b) = o) : b = o := by rw [if_neg hp] at h; exact h
def cb_fu : Nat := 100000
def cb_rd : Nat := 9
def shC : List Nat := [7, 26, 32, 5, 6, 32, 32, 32, 260, 6, 32, 32, 32, 4, 32, 26, 26, 44, 3, 10, 4, 32, 26, 26, 44, 4, 32, 26, 26, 44, 4, 32, 26, 26, 44, 4, 32, 26, 26, 44, 4, 32, 26, 26, 44, 4, 32, 26, 26, 44, 4, 32, 26, 26, 44, 4, 32, 26, 26, 44, 4, 32, 26, 26, 44, 4, 32, 26, 26, 44, 4, 32, 26, 26, 44, 4, 32, 26, 26, 44, 4, 32, 26, 26, 44, 4, 32, 26, 26, 44, 4, 32, 26, 26, 44, 4, 32, 26, 26, 44, 2, 26, 26, 26, 35, 35, 0, 25, 26, 26, 128, 11, 1, 4, 32, 26, 26, 44, 1, 4, 32, 26, 26, 44]
def shM : List Nat := [8, 32, 32, 71, 260, 23, 32, 32, 836, 32, 26, 32, 23, 26, 26, 26, 26, 35, 35, 124, 12]
def cb_pl (k : Nat) : Prop := shC[k]? = some 4 ∧ shC[k + 1]? = some 32 ∧ shC[k + 2]? = some 26 ∧ shC[k + 3]? = some 26 ∧ shC[k + 4]? = some 44
def cb_tb (k : Nat) : Prop := shC[k]? = some 6 ∧ shC[k + 1]? = some 32 ∧ shC[k + 2]? = some 32 ∧ shC[k + 3]? = some 32
def cb_im (k : Nat) : Prop := shC[k]? = some 1 ∧ cb_pl (k + 1)
theorem cb_pl13 : cb_pl 13 := ⟨rfl, rfl, rfl, rfl, rfl⟩
theorem cb_tb4 : cb_tb 4 := ⟨rfl, rfl, rfl, rfl⟩
theorem cb_tb9 : cb_tb 9 := ⟨rfl, rfl, rfl, rfl⟩
theorem cb_plj : ∀ j, j < 16 → cb_pl (19 + 1 + 5 * j) := by unfold cb_pl; decide
theorem cb_imj : ∀ j, j < 2 → cb_im (111 + 1 + 6 * j) := by unfold cb_im cb_pl; decide
theorem cb_plP {i : Int32} (h : vp_in i 16) : cb_pl (19 + 1 + 5 * Int32.toNatClampNeg i) := cb_plj _ (Nat.not_le.mp fun q => h (Or.inr q))
theorem cb_imI {i : Int32} (h : vp_in i 2) : cb_im (111 + 1 + 6 * Int32.toNatClampNeg i) := cb_imj _ (Nat.not_le.mp fun q => h (Or.inr q))
/-- a method's contract out of its body, also of a class that has rows run in other methods' place -/
theorem cb_metF {l : Launch} {y : MethodName} {cc : ByteArray} {nL : Nat} {ret : Option FieldType} {n : Nat} {sh : List Nat} {A : Nat → Nat} {T : Nat → ClassId} {D : va_G} {σ τ : cb_St} {vs : List Value} {r : Option Value} (hy : plainFor y = true) (hlen : (lg_sl vs).length ≤ nL)
    (body : ∀ (p : Program) (e : Env) (s : State) (m : MethodId) (below : List Frame) (meth : Method) (c : Code), cb_C p s m vs.toArray meth c cc nL ret y.cls D T → cb_H sh A T D σ s.heap s.heap [] → ∀ ls : Array Slot, lv_has ls nL (lv_args 0 vs) → cb_W p l e n s m vs.toArray below meth c sh A T D r τ s.heap [] (F0 m 0 ls [])) :
    cb_M l y cc nL ret n sh A T D σ vs r τ := by
  refine MetFree.of_bodySF (code := cc) (maxLocals := nL) (ret := ret) hy (fun a st mm h hn => ?_) ?_
  · obtain ⟨meth, c, h1, h2, h3, h4, h5, h6, -, -⟩ := Cond.code_spec hn (atoms_spec (ws := Cond.code y cc nL ret :: cb_gt) h _ List.mem_cons_self)
    exact ⟨meth, c, h1, h2, h3, h4, h5, h6⟩
  · intro p e s m args below meth c s₁ B hml hv _
    obtain ⟨rfl, hP, hD, hK, hN⟩ := hv
    have hts := atoms_spec (ws := Cond.code y cc nL ret :: cb_gt) B.pre
    have hh0 : s₁.heap = s.heap := by rw [B.state]; rfl
    have hl := lv_entry vs (n := nL) hlen
    rw [lg_entry_eq]
    generalize (lg_sl vs ++ List.replicate (nL - (lg_sl vs).length) Slot.unset).toArray = ls at hl ⊢
    obtain ⟨t, a1, o, b1, b2, b3⟩ := body p e s m below meth c ⟨B.exec, B.bytes, hml, B.returns, findClass_of_methodNamed B.named, fun w h => hts w (List.mem_cons_of_mem _ h), hK, B.notSynchronized, hN⟩ ⟨hP, hD, va_S.rf⟩ ls hl s₁ hh0 (Stand.of_body B)
    exact ⟨t, o, a1, b1, b2, ⟨b3.1, b3.2⟩⟩
section CBX
variable {p : Program} {l : Launch} {e : Env} {n : Nat} {s : State} {m : MethodId} {args : Array Value} {below : List Frame} {meth : Method} {c : Code} {sh : List Nat} {A : Nat → Nat} {T : Nat → ClassId} {D : va_G} {σ τ : cb_St} {H : Heap} {locs : List Loc} {R : Room} {Q : State → Prop}
variable {cc : ByteArray} {nL : Nat} {ret : Option FieldType} {own : String} {pc : Nat} {ls : Array Slot} {rest st0 : List Value}
variable {y : MethodName} {bytes : ByteArray} {mL n' nA index : Nat} {rt : Option FieldType} {As : List Value} {v : Int32}
theorem cb_Hc {H0 : Heap} (e : τ = σ) (h : cb_H sh A T D σ H0 H locs) : cb_H sh A T D τ H0 H locs := e ▸ h
theorem cb_topi {x t : Int32} (e0 : x = t) (k : W p l e R s m args below meth c H locs 0 0 Q (F0 m pc ls (.int x :: rest))) : W p l e R s m args below meth c H locs 0 0 Q (F0 m pc ls (.int t :: rest)) := e0 ▸ k
theorem cb_callVi {k kd Nc : Nat} {Tc : u_T} (C : cb_C p s m args meth c cc nL ret own D T) (hM : cb_M l y bytes mL rt n' sh A T D σ (.ref (A k) :: As) (some (.int v)) τ) (hv : cb_vw y bytes mL rt nA) (hl : Cond.methodLink own index y ∈ cb_gt) (hn : As.length = nA) (hR : n' + 1 ≤ n ∧ 8 + (mL + 11) + 40 * n' ≤ 40 * n)
    (hk : sh[k]? = some kd) (hkd : kd < 9) (hc : cb_cl[kd]? = some (y.cls, Tc, Nc)) (hs : cb_H sh A T D σ s.heap H locs) {lv : List (Nat × Value)} (hls : lv_has ls nL lv) (hst : st0 = As.reverse ++ .ref (A k) :: rest) (hcat : (rest.map fun v => v.category).sum ≤ 8) (hdg : decode cc pc = .ok (.invokevirtual index, 3))
    (kk : ∀ (H1 : Heap) (locs1 : List Loc), cb_H sh A T D τ s.heap H1 locs1 → W p l e (cb_rm n) s m args below meth c H1 locs1 0 0 Q (F0 m (pc + 3) ls (.int v :: rest))) : W p l e (cb_rm n) s m args below meth c H locs 0 0 Q (F0 m pc ls st0) :=
  cb_callV C hM hv hl hn hR hk hkd hc hs hls hst hcat hdg kk
theorem cb_callVv {k kd Nc : Nat} {Tc : u_T} (C : cb_C p s m args meth c cc nL ret own D T) (hM : cb_M l y bytes mL rt n' sh A T D σ (.ref (A k) :: As) none τ) (hv : cb_vw y bytes mL rt nA) (hl : Cond.methodLink own index y ∈ cb_gt) (hn : As.length = nA) (hR : n' + 1 ≤ n ∧ 8 + (mL + 11) + 40 * n' ≤ 40 * n)
    (hk : sh[k]? = some kd) (hkd : kd < 9) (hc : cb_cl[kd]? = some (y.cls, Tc, Nc)) (hs : cb_H sh A T D σ s.heap H locs) {lv : List (Nat × Value)} (hls : lv_has ls nL lv) (hst : st0 = As.reverse ++ .ref (A k) :: rest) (hcat : (rest.map fun v => v.category).sum ≤ 8) (hdg : decode cc pc = .ok (.invokevirtual index, 3))
    (kk : ∀ (H1 : Heap) (locs1 : List Loc), cb_H sh A T D τ s.heap H1 locs1 → W p l e (cb_rm n) s m args below meth c H1 locs1 0 0 Q (F0 m (pc + 3) ls rest)) : W p l e (cb_rm n) s m args below meth c H locs 0 0 Q (F0 m pc ls st0) :=
  cb_callV C hM hv hl hn hR hk hkd hc hs hls hst hcat hdg kk
theorem cb_callSi (C : cb_C p s m args meth c cc nL ret own D T) (hM : cb_M l y bytes mL rt n' sh A T D σ As (some (.int v)) τ) (hv : cb_sw y bytes mL rt nA) (hl : Cond.methodLink own index y ∈ cb_gt) (hn : As.length = nA) (hR : n' + 1 ≤ n ∧ 8 + (mL + 11) + 40 * n' ≤ 40 * n)
    (hs : cb_H sh A T D σ s.heap H locs) {lv : List (Nat × Value)} (hls : lv_has ls nL lv) (hst : st0 = As.reverse ++ rest) (hcat : (rest.map fun v => v.category).sum ≤ 8) (hdg : decode cc pc = .ok (.invokestatic index, 3))
    (kk : ∀ (H1 : Heap) (locs1 : List Loc), cb_H sh A T D τ s.heap H1 locs1 → W p l e (cb_rm n) s m args below meth c H1 locs1 0 0 Q (F0 m (pc + 3) ls (.int v :: rest))) : W p l e (cb_rm n) s m args below meth c H locs 0 0 Q (F0 m pc ls st0) :=
  cb_callS C hM hv hl hn hR hs hls hst hcat hdg kk
theorem cb_callSv (C : cb_C p s m args meth c cc nL ret own D T) (hM : cb_M l y bytes mL rt n' sh A T D σ As none τ) (hv : cb_sw y bytes mL rt nA) (hl : Cond.methodLink own index y ∈ cb_gt) (hn : As.length = nA) (hR : n' + 1 ≤ n ∧ 8 + (mL + 11) + 40 * n' ≤ 40 * n)
    (hs : cb_H sh A T D σ s.heap H locs) {lv : List (Nat × Value)} (hls : lv_has ls nL lv) (hst : st0 = As.reverse ++ rest) (hcat : (rest.map fun v => v.category).sum ≤ 8) (hdg : decode cc pc = .ok (.invokestatic index, 3))
    (kk : ∀ (H1 : Heap) (locs1 : List Loc), cb_H sh A T D τ s.heap H1 locs1 → W p l e (cb_rm n) s m args below meth c H1 locs1 0 0 Q (F0 m (pc + 3) ls rest)) : W p l e (cb_rm n) s m args below meth c H locs 0 0 Q (F0 m pc ls st0) :=
  cb_callS C hM hv hl hn hR hs hls hst hcat hdg kk
theorem cb_callNi (C : cb_C p s m args meth c cc nL ret RX4 D T) (hM : cb_M l yX7_placeAfter bytes mL rt n' sh A T D σ As (some (.int v)) τ) (hv : cb_sw yX7_placeAfter bytes mL rt nA) (hn : As.length = nA) (hR : n' + 1 ≤ n ∧ 8 + (mL + 11) + 40 * n' ≤ 40 * n)
    (hs : cb_H sh A T D σ s.heap H locs) {lv : List (Nat × Value)} (hls : lv_has ls nL lv) (hst : st0 = As.reverse ++ rest) (hcat : (rest.map fun v => v.category).sum ≤ 8) (hdg : decode cc pc = .ok (.invokestatic 70, 3))
    (kk : ∀ (H1 : Heap) (locs1 : List Loc), cb_H sh A T D τ s.heap H1 locs1 → W p l e (cb_rm n) s m args below meth c H1 locs1 0 0 Q (F0 m (pc + 3) ls (.int v :: rest))) : W p l e (cb_rm n) s m args below meth c H locs 0 0 Q (F0 m pc ls st0) :=
  cb_callN C hM hv hn hR hs hls hst hcat hdg kk
end CBX
