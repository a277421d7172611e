/-! ===== making objects: contracts of constructors ===== -/
def ci_N (U : State) : Prop := va_Nw cb_nw U ∧ va_Nw (.methodLinkNest RX7 18 yX5_init RX7) U ∧ va_Nw (.methodLinkNest RX7 25 yX6_init RX7) U ∧ va_Nw (.methodLinkNest RX7 46 yX2_init RX7) U ∧ va_Nw (.methodLinkNest RX7 53 yX0_init RX7) U ∧ va_Nw (.methodLinkNest RX7 64 yX1_init RX7) U ∧ va_Nw (.methodLinkNest RX5 11 yX6_init RX7) U ∧ va_AO RX4 U ∧ va_AO RX1 U
theorem ci_N.warm {s U : State} (hW : s.WarmedH U.vm) (h : ci_N s) : ci_N U := by
  obtain ⟨h1, h2, h3, h4, h5, h6, h7, h8, h9⟩ := h
  exact ⟨va_Nw.warmM hW h1, va_Nw.warmM hW h2, va_Nw.warmM hW h3, va_Nw.warmM hW h4, va_Nw.warmM hW h5, va_Nw.warmM hW h6, va_Nw.warmM hW h7, va_AO.moved hW.alike h8, va_AO.moved hW.alike h9⟩
theorem ci_N.same {u U : State} (e : u.vm = U.vm) (h : ci_N u) : ci_N U := by
  obtain ⟨h1, h2, h3, h4, h5, h6, h7, h8, h9⟩ := h
  exact ⟨va_Nw.same rfl e h1, va_Nw.same rfl e h2, va_Nw.same rfl e h3, va_Nw.same rfl e h4, va_Nw.same rfl e h5, va_Nw.same rfl e h6, va_Nw.same rfl e h7, va_AO.moved (by rw [e]; exact Vm.Alike.refl U.vm) h8, va_AO.moved (by rw [e]; exact Vm.Alike.refl U.vm) h9⟩
def ci_H (P : Nat → Prop) (D : va_G) (ws : va_W) (H0 H : Heap) (locs : List Loc) : Prop := va_P D cb_cl ws H ∧ va_D P ws ∧ va_S P H0 H locs
def ci_R (nf mc ms : Nat) : Room := { frames := nf, cells := mc, slots := ms, locals := 40 * nf }
abbrev ci_Q (sh : List Nat) (T : Nat → ClassId) (D : va_G) (σ : cb_St) (b n h0 : Nat) (P : Nat → Prop) : Array Value → State → Outcome → State → Prop := va_Qv (fun A : Nat → Nat => A b = h0) (fun A t => va_P D cb_cl (sl sh A T σ b n) t.heap ∧ va_D P (sl sh A T σ b n)) P
abbrev ci_Pc (T : Nat → ClassId) (D : va_G) (E : va_E) (h0 sz : Nat) : Array Value → State → Prop := va_Pc [.ref h0] (fun U => U.heap.size = sz ∧ va_P D cb_cl [(h0, E)] U.heap ∧ va_K D cb_cl (cb_ty T) U ∧ ci_N U)
abbrev ci_M (l : Launch) (y : MethodName) (cc : ByteArray) (nL nf mc ms : Nat) (sh : List Nat) (T : Nat → ClassId) (D : va_G) (σ : cb_St) (E : va_E) (b n : Nat) : Prop :=
  ∀ (h0 sz : Nat), Met l y (.code y cc nL none :: cb_gt) (ci_R nf mc ms) (ci_Pc T D E h0 sz) (ci_Q sh T D σ b n h0 (va_A [(h0, E)] sz)) mc ms (va_A [(h0, E)] sz)
theorem ko_code : Cond.code objectInit ⟨#[0xb1]⟩ 1 none ∈ cb_gt := cb_in (cb_t1 (List.mem_of_getElem? (i := 21) rfl)) rfl
theorem ko_inst : Cond.instanceMethod objectInit ∈ cb_gt := cb_in (cb_t1 (List.mem_of_getElem? (i := 20) rfl)) rfl
theorem ka_int : Cond.arrayClass .int ∈ cb_gt := cb_in (cb_t1 (List.mem_of_getElem? (i := 78) rfl)) rfl
theorem ka_bool : Cond.arrayClass .boolean ∈ cb_gt := cb_in (cb_t4 (List.mem_of_getElem? (i := 232) rfl)) rfl
theorem D_one {E : va_E} {h0 sz : Nat} : va_D (va_A [(h0, E)] sz) [(h0, E)] := by
  have h1 : ∀ (i : Nat) (q : Nat × va_E), [(h0, E)][i]? = some q → i = 0 := fun i q h => by
    have := (List.getElem?_eq_some_iff.mp h).1
    simp at this; exact this
  exact ⟨fun i j p q hi hj _ => by rw [h1 i p hi, h1 j q hj], fun i q hi => Or.inl ⟨i, q.2, hi⟩⟩
theorem ci_met {l : Launch} {y : MethodName} {cc : ByteArray} {nL nf mc ms : Nat} {sh : List Nat} {T : Nat → ClassId} {D : va_G} {σ : cb_St} {E : va_E} {b n : Nat} (hy : plainName y.cls = true) (hnm : y.name = "<init>") (hlen : 1 ≤ nL)
    (body : ∀ (h0 : Nat) (p : Program) (e : Env) (s : State) (m : MethodId) (below : List Frame) (meth : Method) (c : Code) (P : Nat → Prop), cb_C p s m #[.ref h0] meth c cc nL none y.cls D T → ci_N s → meth.name = "<init>" → (∀ q, s.heap.size ≤ q → P q) → ci_H P D [(h0, E)] s.heap s.heap [] → ∀ ls : Array Slot, lv_has ls nL [(0, .ref h0)] → W p l e (ci_R nf mc ms) s m #[.ref h0] below meth c s.heap [] 0 0 (MQ below (ci_Q sh T D σ b n h0 P) #[.ref h0] s mc ms P) (F0 m 0 ls [])) :
    ci_M l y cc nL nf mc ms sh T D σ E b n := by
  intro h0 sz
  refine Met.ofW (cc := cc) (maxL := nL) (ret := none) hy rfl ?_
  intro p e s m args below meth c s₁ B hml hv
  obtain ⟨rfl, hsz, hP, hK, hN⟩ := hv
  subst hsz
  have hts := atoms_spec (ws := Cond.code y cc nL none :: cb_gt) B.pre
  have hl := lv_entry [.ref h0] (n := nL) hlen
  rw [lg_entry_eq]
  generalize (lg_sl [.ref h0] ++ List.replicate (nL - (lg_sl [.ref h0]).length) Slot.unset).toArray = ls at hl ⊢
  exact body h0 p e s m below meth c _ ⟨B.exec, B.bytes, hml, B.returns, findClass_of_methodNamed B.named, fun w h => hts w (List.mem_cons_of_mem _ h), hK, B.notSynchronized, hN.1⟩ hN ((name_of_methodNamed B.named B.method).1.trans hnm) (fun q h => Or.inr h) ⟨hP, D_one, va_S.rf⟩ ls hl
theorem ci_blind {T : Nat → ClassId} {D : va_G} {E : va_E} {h0 sz : Nat} : FrameBlind (ci_Pc T D E h0 sz) := by
  intro a U g mk q
  obtain ⟨q0, q1, qP, qK, qN⟩ := q
  exact ⟨q0, q1, qP, va_K.moved (u := U) (U := U.calling g mk a) (Vm.Alike.refl U.vm) qK, ci_N.same rfl qN⟩
theorem D_map {P : Nat → Prop} {w1 w2 : va_W} (e : w1.map (·.1) = w2.map (·.1)) (h : va_D P w1) : va_D P w2 := by
  rw [D_iff] at h ⊢
  refine ⟨by rw [← e]; exact h.1, fun q hq => ?_⟩
  have h1 : q.1 ∈ w2.map (·.1) := List.mem_map.mpr ⟨q, hq, rfl⟩
  rw [← e] at h1
  obtain ⟨q2, h2, h3⟩ := List.mem_map.mp h1
  rw [← h3]; exact h.2 q2 h2
theorem sl_map (sh : List Nat) (A : Nat → Nat) (T : Nat → ClassId) (σ : cb_St) (k n : Nat) : (sl sh A T σ k n).map (·.1) = (List.range n).map (fun j => A (k + j)) := by
  unfold sl; rw [List.map_map]; rfl
theorem sl_mapc {sh : List Nat} {A A' : Nat → Nat} {T : Nat → ClassId} {σ σ' : cb_St} {k n : Nat} (hA : ∀ j, k ≤ j → j < k + n → A' j = A j) : (sl sh A T σ k n).map (·.1) = (sl sh A' T σ' k n).map (·.1) := by
  rw [sl_map, sl_map]
  apply List.map_congr_left
  intro j hj
  have := List.mem_range.mp hj
  exact (hA (k + j) (by omega) (by omega)).symm
section CI
variable {p : Program} {l : Launch} {e : Env} {s : State} {m : MethodId} {args : Array Value} {below : List Frame} {meth : Method} {c : Code} {sh : List Nat} {A : Nat → Nat} {T : Nat → ClassId} {D : va_G} {σ : cb_St} {H0 H : Heap} {locs : List Loc} {R : Room} {Q : State → Prop} {P : Nat → Prop} {X : va_W} {cells slots : Nat}
variable {cc : ByteArray} {nL : Nat} {ret : Option FieldType} {own : String} {pc : Nat} {ls : Array Slot} {rest : List Value} {k n : Nat}
theorem ci_obj {idx a : Nat} {lv : List (Nat × Value)} (C : cb_C p s m args meth c cc nL ret own D T) (hl : Cond.methodLink own idx objectInit ∈ cb_gt) (hls : lv_has ls nL lv) (hdg : decode cc pc = .ok (.invokespecial idx, 3)) (hf : 1 ≤ R.frames) (hlo : 12 ≤ R.locals) (kk : W p l e R s m args below meth c H locs cells slots Q (F0 m (pc + 3) ls [])) : W p l e R s m args below meth c H locs cells slots Q (F0 m pc ls [.ref a]) := by
  obtain ⟨hx, hb, hml, hr, hown, hts, hK, hlk, hN⟩ := C
  refine W.objInit hx hb hown (hts _ hl) (hts _ ko_inst) (hts _ ko_code) rfl (by rw [hml]; exact hls.1) rfl hdg hf (by show 2 * 0 + 0 + 12 ≤ _; omega) ?_
  exact W.eq (g2 := F0 m (pc + 3) ls []) rfl kk
theorem ci_newa {x : Int32} {N : Nat} (C : cb_C p s m args meth c cc nL ret own D T) (hA : ∀ q, H0.size ≤ q → P q) (hs : ci_H P D X H0 H locs) (hn : ¬ x < 0) (hN : x.toNatClampNeg = N) (hN2 : N ≤ 1000) (hc : cells + 1 ≤ R.cells) (hsl : slots + N ≤ R.slots) (hdg : decode cc pc = .ok (.newarray .int, 2))
    (kk : ∀ (q : Nat) (H1 : Heap), ci_H P D (X ++ [(q, .inl (T 0, N, .inl (fun _ => 0)))]) H0 H1 locs → W p l e R s m args below meth c H1 locs (cells + 1) (slots + N) Q (F0 m (pc + 2) ls (.ref q :: rest))) : W p l e R s m args below meth c H locs cells slots Q (F0 m pc ls (.int x :: rest)) := by
  obtain ⟨hx, hb, hml, hr, hown, hts, hK, hlk, hNn⟩ := C
  refine va_newa (atype := .int) hx hb (show (Cond.arrayClass (newarray.typeOf .int)).before args s = true from hts _ ka_int) (ty := .int) rfl hK hs.1 hs.2.1 hs.2.2 hA (a0 := (N, .inl (fun _ => 0))) (fun cA => rfl) hn hN (by show N * 4 ≤ _; omega) hc hsl hdg (fun q cA H1 hK1 h1 h2 h3 => ?_)
  have e1 : s.vm.findClass ("[" ++ FieldType.int.toString) = some (T 0) := (hK.2 0 _ rfl).2
  have e2 : s.vm.findClass ("[" ++ FieldType.int.toString) = some cA := (hK1.2 4 _ rfl).2
  have e3 : cA = T 0 := Option.some.inj (e2.symm.trans e1)
  subst e3
  exact kk q H1 ⟨h1, h2, h3⟩
theorem ci_newz {x : Int32} (C : cb_C p s m args meth c cc nL ret own D T) (hA : ∀ q, H0.size ≤ q → P q) (hs : ci_H P D X H0 H locs) (hN : x.toNatClampNeg = 2) (hn : ¬ x < 0) (hc : cells + 1 ≤ R.cells) (hsl : slots + 2 ≤ R.slots) (hdg : decode cc pc = .ok (.newarray .boolean, 2))
    (kk : ∀ (q : Nat) (H1 : Heap), ci_H P D (X ++ [(q, .inl (T 3, 2, .inl (fun _ => 0)))]) H0 H1 locs → W p l e R s m args below meth c H1 locs (cells + 1) (slots + 2) Q (F0 m (pc + 2) ls (.ref q :: rest))) : W p l e R s m args below meth c H locs cells slots Q (F0 m pc ls (.int x :: rest)) := by
  obtain ⟨hx, hb, hml, hr, hown, hts, hK, hlk, hNn⟩ := C
  refine va_newa (atype := .boolean) hx hb (show (Cond.arrayClass (newarray.typeOf .boolean)).before args s = true from hts _ ka_bool) (ty := .boolean) rfl hK hs.1 hs.2.1 hs.2.2 hA (a0 := (2, .inl (fun _ => 0))) (fun cA => rfl) hn hN (by decide) hc hsl hdg (fun q cA H1 hK1 h1 h2 h3 => ?_)
  have e1 : s.vm.findClass ("[" ++ FieldType.boolean.toString) = some (T 3) := (hK.2 3 _ rfl).2
  have e2 : s.vm.findClass ("[" ++ FieldType.boolean.toString) = some cA := (hK1.2 4 _ rfl).2
  have e3 : cA = T 3 := Option.some.inj (e2.symm.trans e1)
  subst e3
  exact kk q H1 ⟨h1, h2, h3⟩
theorem sl_join {w : va_W} {A1 : Nat → Nat} {n' : Nat} (c1 : slC sh k n) (c2 : slC sh (k + n) n') (hP : va_P D cb_cl w H) (hD : va_D P w) (hp : w.Perm (X ++ (sl sh A T σ k n ++ sl sh A1 T σ (k + n) n'))) : va_P D cb_cl (X ++ sl sh (fun j => if j < k + n then A j else A1 j) T σ k (n + n')) H ∧ va_D P (X ++ sl sh (fun j => if j < k + n then A j else A1 j) T σ k (n + n')) := by
  have g1 : ∀ j, k ≤ j → j < k + n → (fun j => if j < k + n then A j else A1 j) j = A j := fun j _ h => if_pos h
  have g2 : ∀ j, k + n ≤ j → j < k + n + n' → (fun j => if j < k + n then A j else A1 j) j = A1 j := fun j h _ => if_neg (by omega)
  have hP2 := P_perm hp hP
  have hD2 := D_perm hp hD
  rw [sl_app]
  constructor
  · rw [P_iff] at hP2
    refine va_P.app (P_iff.mpr fun q hq => hP2 q (List.mem_append_left _ hq)) (va_P.app (sl_P c1 g1 (P_iff.mpr fun q hq => hP2 q (List.mem_append_right _ (List.mem_append_left _ hq)))) (sl_P c2 g2 (P_iff.mpr fun q hq => hP2 q (List.mem_append_right _ (List.mem_append_right _ hq)))))
  · refine D_map ?_ hD2
    rw [List.map_append, List.map_append, List.map_append, List.map_append, sl_mapc g1, sl_mapc g2]
/-- a row of ints, made in a slice -/
theorem ci_newS {x : Int32} {N : Nat} (C : cb_C p s m args meth c cc nL ret own D T) (hA : ∀ q, H0.size ≤ q → P q) (c1 : slC sh k n) (hk : sh.getD (k + n) 0 = N + 20) (hσ : σ.1 (k + n) = fun _ => 0) (hs : ci_H P D (X ++ sl sh A T σ k n) H0 H locs) (hn : ¬ x < 0) (hN : x.toNatClampNeg = N) (hN2 : N ≤ 1000) (hc : cells + 1 ≤ R.cells) (hsl : slots + N ≤ R.slots) (hdg : decode cc pc = .ok (.newarray .int, 2))
    (kk : ∀ (A2 : Nat → Nat) (H1 : Heap), (∀ j, j < k + n → A2 j = A j) → ci_H P D (X ++ sl sh A2 T σ k (n + 1)) H0 H1 locs → W p l e R s m args below meth c H1 locs (cells + 1) (slots + N) Q (F0 m (pc + 2) ls (.ref (A2 (k + n)) :: rest))) : W p l e R s m args below meth c H locs cells slots Q (F0 m pc ls (.int x :: rest)) := by
  refine ci_newa C hA hs hn hN hN2 hc hsl hdg (fun q H1 h => ?_)
  have e1 : sl sh (fun _ => q) T σ (k + n) 1 = [(q, .inl (T 0, N, .inl (fun _ => 0)))] := by
    rw [sl_1, hk, hσ]
    show [(q, (Sum.inl (T 0, N + 20 - 20, Sum.inl (fun _ => 0)) : va_E))] = _
    rw [Nat.add_sub_cancel]
  have c2 : slC sh (k + n) 1 := fun j h1 h2 => by
    have : j = k + n := by omega
    subst this
    rw [hk]
    show k + n + 0 < _
    omega
  obtain ⟨j1, j2⟩ := sl_join (X := X) (A := A) (A1 := fun _ => q) c1 c2 h.1 h.2.1 (by rw [e1, List.append_assoc])
  have := kk (fun j => if j < k + n then A j else q) H1 (fun j hj => if_pos hj) ⟨j1, j2, h.2.2⟩
  rw [if_neg (Nat.lt_irrefl _)] at this
  exact this
theorem ci_newI {y : MethodName} {cc' : ByteArray} {nL' nf' mc ms kd n' index ix2 Nc : Nat} {Tc : u_T} {fs : List Value} {lv : List (Nat × Value)} (C : cb_C p s m args meth c cc nL ret own D T) (hN : ci_N s) (hA : ∀ q, H0.size ≤ q → P q)
    (hM : ci_M l y cc' nL' nf' mc ms sh T D σ (.inr (kd, fs)) (k + n) n')
    (hcl : cb_cl[kd]? = some (y.cls, Tc, Nc)) (fw : ∀ w ∈ u_ws y.cls Tc Nc, w ∈ cb_gt) (ty : Nat → FieldType) (hty : ∀ k, k < Nc → parseFieldDescriptor (Tc k).2.2.1 = some (ty k)) (hfs : ∀ j, j < Nc → defaultValue (ty j) = vp_V fs j)
    (w1 : Cond.classLink own index y.cls ∈ cb_gt) (w2 : Cond.instantiable y.cls Nc ∈ cb_gt) (w3 : Cond.initialized y.cls ∈ cb_gt) (w4 : Cond.code y cc' nL' none ∈ cb_gt) (w5 : Cond.instanceMethod y ∈ cb_gt) (okm : cb_okm y 0) (hy1 : y.name = "<init>")
    (hlk : Cond.methodLink own ix2 y ∈ cb_gt ∨ va_Nw (.methodLinkNest own ix2 y RX7) s)
    (hR : nf' + 1 ≤ R.frames ∧ 8 + (nL' + 11) + 40 * nf' ≤ R.locals) (hc : cells + 1 + mc ≤ R.cells) (hsl : slots + Nc + ms ≤ R.slots) (c1 : slC sh k n) (c2 : slC sh (k + n) n')
    (hs : ci_H P D (X ++ sl sh A T σ k n) H0 H locs) (hls : lv_has ls nL lv) (hcat : (rest.map fun v => v.category).sum ≤ 7)
    (d1 : decode cc pc = .ok (.new index, 3)) (d2 : decode cc (pc + 3) = .ok (.dup, 1)) (d3 : decode cc (pc + 4) = .ok (.invokespecial ix2, 3))
    (kk : ∀ (A2 : Nat → Nat) (H1 : Heap) (locs1 : List Loc), (∀ j, j < k + n → A2 j = A j) → ci_H P D (X ++ sl sh A2 T σ k (n + n')) H0 H1 locs1 → (∀ q, q < k + n + n' → k + n ≤ q → True) → W p l e R s m args below meth c H1 locs1 (cells + 1 + mc) (slots + Nc + ms) Q (F0 m (pc + 7) ls (.ref (A2 (k + n)) :: rest))) (hn' : 0 < n') : W p l e R s m args below meth c H locs cells slots Q (F0 m pc ls rest) := by
  have C0 := C
  obtain ⟨hx, hb, hml, hr, hown, hts, hK, hlk0, hNn⟩ := C
  refine va_new (ci := kd) (fs := fs) (C := y.cls) (T := Tc) (N := Nc) hx hb hts fw ty hty hown (hts _ w1) (hts _ w2) (hts _ w3) hK hs.1 hs.2.1 hs.2.2 hA hcl hfs (by omega) (by omega) d1 (fun q H1 h1 h2 h3 => ?_)
  refine lv_dup hx hb d2 rfl ?_
  have hP1 : va_P D cb_cl [(q, .inr (kd, fs))] H1 := by
    rw [P_iff] at h1 ⊢
    exact fun z hz => h1 z (List.mem_append_right _ hz)
  have hF : ∀ z, va_A [(q, .inr (kd, fs))] H1.size z → P z := by
    intro z hz
    rcases hz with ⟨i, e0, hi⟩ | hz
    · have : (z, e0) ∈ [(q, (Sum.inr (kd, fs) : va_E))] := List.mem_of_getElem? hi
      rw [List.mem_singleton] at this
      have h4 := (D_iff.mp h2).2 (q, .inr (kd, fs)) (List.mem_append_right _ (List.mem_singleton.mpr rfl))
      cases this
      exact h4
    · exact hA z (Nat.le_trans h3.1 hz)
  have hpre : PreS s H1 (ci_Pc T D (.inr (kd, fs)) q H1.size) [.ref q] := ⟨ci_blind, fun U hU hW => ⟨rfl, by rw [hU], by rw [hU]; exact hP1, va_K.moved hW.alike hK, hN.warm hW⟩⟩
  have hrun : va_Run p l e R s m args below meth c H1 locs (cells + 1) (slots + Nc) mc ms (F0 m (pc + 3 + 1) ls (.ref q :: .ref q :: rest)) (.ref q :: rest) (ci_Q sh T D σ (k + n) n' q (va_A [(q, .inr (kd, fs))] H1.size) #[.ref q]) (va_A [(q, .inr (kd, fs))] H1.size) := by
    have hcat2 : (((Value.ref q) :: rest).map fun v => v.category).sum ≤ 8 := by
      show 1 + (rest.map fun v => v.category).sum ≤ 8
      omega
    rcases hlk with h | h
    · exact va_runI (As := []) (rest := .ref q :: rest) (Ts := cb_gt) (n := 0) (g := F0 m (pc + 3 + 1) ls (.ref q :: .ref q :: rest)) ⟨hx, hb, hml, hown, hts⟩ (hM q H1.size) (cwI 0 hts (cb_good (fun _ h => h) w4) rfl rfl rfl (hts _ w3) (hts _ h) (hts _ w5) hy1 okm hR) hpre rfl rfl hls.1 rfl (lv_room hcat2) d3 ⟨hc, hsl⟩
    · exact va_runIN (As := []) (rest := .ref q :: rest) (Ts := cb_gt) (n := 0) (g := F0 m (pc + 3 + 1) ls (.ref q :: .ref q :: rest)) ⟨hx, hb, hml, hown, hts⟩ (hM q H1.size) ⟨va_cnB 0 hts (cb_good (fun _ h => h) w4) rfl rfl rfl h (hts _ w3) okm hR, hy1, hts _ w5⟩ hpre rfl rfl hls.1 rfl (lv_room hcat2) d3 ⟨hc, hsl⟩
  refine va_callv hrun h3 (fun z _ h => hF z h) hF (fun A1 t H2 locs2 ht hvm hw hB hz hk2 hS2 => ?_)
  obtain ⟨hP2, hD2⟩ := hB
  rw [ht] at hP2
  have hperm : ((X ++ sl sh A T σ k n) ++ [(q, (Sum.inr (kd, fs) : va_E))]).Perm ([(q, .inr (kd, fs))] ++ (X ++ sl sh A T σ k n)) := List.perm_append_comm
  obtain ⟨j1, j2⟩ := va_joinQ (X := [(q, .inr (kd, fs))]) (cx := [(q, .inr (kd, fs))]) (wr := []) (w1 := sl sh A1 T σ (k + n) n') (pl := X ++ sl sh A T σ k n) (P_perm hperm h1) (D_perm hperm h2) [0] [] rfl rfl rfl (by simp) hk2 hF hP2 hD2
  obtain ⟨i1, i2⟩ := sl_join (X := X) (A := A) (A1 := A1) (sh := sh) (T := T) (σ := σ) c1 c2 j1 j2 (by
    rw [List.nil_append, ← List.append_assoc X]
    exact List.perm_append_comm)
  have := kk (fun j => if j < k + n then A j else A1 j) H2 locs2 (fun j hj => if_pos hj) ⟨i1, i2, hS2⟩ (fun _ _ _ => trivial)
  rw [if_neg (Nat.lt_irrefl _), hw] at this
  exact this
theorem ci_ret {h0 mc ms b : Nat} (C : cb_C p s m args meth c cc nL none own D T) (hs : ci_H P D (sl sh A T σ b n) s.heap H locs) (hb0 : A b = h0) (hc : cells ≤ mc) (hsl : slots ≤ ms) (hdg : decode cc pc = .ok (.return_, 1)) : W p l e R s m args below meth c H locs cells slots (MQ below (ci_Q sh T D σ b n h0 P) args s mc ms P) (F0 m pc ls []) := by
  obtain ⟨hx, hb, hml, hr, hown, hts, hK, hlk, hN⟩ := C
  refine W.widen hc hsl ?_
  exact W.vret hx hb hr (fun t ht hW => ⟨⟨A, rfl, hb0, by rw [ht]; exact hs.1, hs.2.1⟩, hs.2.2.F ht⟩) hs.2.2.2.2 hdg
theorem ci_H.re {ws ws' : va_W} (e : ws' = ws) (h : ci_H P D ws H0 H locs) : ci_H P D ws' H0 H locs := e ▸ h
end CI
