/-! ===== the words that a call may carry ===== -/
def cb_gt : List Cond := lw_tbl.filter goodWord
theorem cb_in {w : Cond} (h : w ∈ tables_1) (g : goodWord w = true) : w ∈ cb_gt := List.mem_filter.mpr ⟨List.mem_append_right _ h, g⟩
theorem cb_t1 {w : Cond} (h : w ∈ tables_1_1) : w ∈ tables_1 := List.mem_append_left _ h
theorem cb_t2 {w : Cond} (h : w ∈ tables_1_2) : w ∈ tables_1 := List.mem_append_right _ (List.mem_append_left _ h)
theorem cb_t3 {w : Cond} (h : w ∈ tables_1_3) : w ∈ tables_1 := List.mem_append_right _ (List.mem_append_right _ (List.mem_append_left _ h))
theorem cb_t4 {w : Cond} (h : w ∈ tables_1_4) : w ∈ tables_1 := List.mem_append_right _ (List.mem_append_right _ (List.mem_append_right _ (List.mem_append_left _ h)))
theorem cb_t5 {w : Cond} (h : w ∈ tables_1_5) : w ∈ tables_1 := List.mem_append_right _ (List.mem_append_right _ (List.mem_append_right _ (List.mem_append_right _ (List.mem_append_left _ h))))
theorem cb_t6 {w : Cond} (h : w ∈ tables_1_6) : w ∈ tables_1 := List.mem_append_right _ (List.mem_append_right _ (List.mem_append_right _ (List.mem_append_right _ (List.mem_append_right _ h))))
theorem cb_sel {y : MethodName} {n : Nat} (h : (y, n) ∈ lw_privs) : Cond.selects y.cls y y ∈ cb_gt := List.mem_filter.mpr ⟨List.mem_append_left _ (List.mem_map.mpr ⟨(y, n), h, rfl⟩), rfl⟩
theorem cb_gw {w : Cond} (h : w ∈ cb_gt) : goodWord w = true := (List.mem_filter.mp h).2
theorem cb_lw {w : Cond} (h : w ∈ cb_gt) : w ∈ lw_tbl := (List.mem_filter.mp h).1
theorem cb_pv1 {q : MethodName × Nat} (h : q ∈ lw_privs_1) : q ∈ lw_privs := List.mem_append_left _ h
theorem cb_pv2 {q : MethodName × Nat} (h : q ∈ lw_privs_2) : q ∈ lw_privs := List.mem_append_right _ (List.mem_append_left _ h)
theorem cb_pv3 {q : MethodName × Nat} (h : q ∈ lw_privs_3) : q ∈ lw_privs := List.mem_append_right _ (List.mem_append_right _ (List.mem_append_left _ h))
theorem cb_pv4 {q : MethodName × Nat} (h : q ∈ lw_privs_4) : q ∈ lw_privs := List.mem_append_right _ (List.mem_append_right _ (List.mem_append_right _ (List.mem_append_left _ h)))
theorem cb_pv5 {q : MethodName × Nat} (h : q ∈ lw_privs_5) : q ∈ lw_privs := List.mem_append_right _ (List.mem_append_right _ (List.mem_append_right _ (List.mem_append_right _ (List.mem_append_left _ h))))
theorem cb_pv6 {q : MethodName × Nat} (h : q ∈ lw_privs_6) : q ∈ lw_privs := List.mem_append_right _ (List.mem_append_right _ (List.mem_append_right _ (List.mem_append_right _ (List.mem_append_right _ h))))
/-! ===== the state: numbers by cell and slot, a long by cell ===== -/
abbrev cb_St : Type := (Nat → Nat → Int32) × (Nat → Int64)
def cb_sA (σ : cb_St) (k : Nat) (f : Nat → Int32) : cb_St := (fun q => if q = k then f else σ.1 q, σ.2)
def cb_sI (σ : cb_St) (k i : Nat) (v : Int32) : cb_St := cb_sA σ k (upd (σ.1 k) i v)
def cb_sL (σ : cb_St) (k : Nat) (v : Int64) : cb_St := (σ.1, fun q => if q = k then v else σ.2 q)
/-- the nine classes, by their numbers -/
abbrev cb_cl : List vw_C := [(RX0, TX0, 7), (RX1, TX1, 3), (RX2, TX2, 7), (RX3, TX3, 3), (RX4, TX4, 7), (RX5, TX5, 6), (RX6, TX6, 10), (RX7, TX7, 10), (RX8, TX8, 40)]
/-- what stands in a cell of a kind: 0..8 an object of a class, 10 the row of plays, 11 the row of images, 12 two booleans, from 20 on ints -/
def cb_cE (A : Nat → Nat) (T : Nat → ClassId) (r : Nat → Int32) (g : Int64) (k : Nat) (kd : Nat) : va_E := match kd with
  | 0 => .inr (0, [.int (r 0), .int (r 1), .int (r 2), .ref (A (k + 1)), .ref (A (k + 2)), .ref (A (k + 3)), .ref (A (k + 4))])
  | 1 => .inr (1, [.int (r 0), .int (r 1), .ref (A (k + 1))])
  | 2 => .inr (2, [.int (r 0), .int (r 1), .ref (A (k + 1)), .ref (A (k + 2)), .ref (A (k + 3)), .ref (A (k + 4)), .ref (A (k + 5))])
  | 3 => .inr (3, [.int (r 0), .int (r 1), .ref (A (k + 1))])
  | 4 => .inr (4, [.int (r 0), .int (r 1), .int (r 2), .ref (A (k + 1)), .ref (A (k + 2)), .ref (A (k + 3)), .ref (A (k + 4))])
  | 5 => .inr (5, [.ref (A (k + 1)), .int (r 1), .int (r 2), .int (r 3), .ref (A (k + 5)), .int (r 5)])
  | 6 => .inr (6, [.int (r 0), .int (r 1), .int (r 2), .int (r 3), .int (r 4), .int (r 5), .long g, .ref (A (k + 1)), .ref (A (k + 2)), .ref (A (k + 3))])
  | 7 => .inr (7, [.int (r 0), .ref (A (k + 3)), .ref (A (k + 9)), .ref (A (k + 13)), .ref (A (k + 18)), .ref (A (k + 100)), .ref (A (k + 106)), .ref (A (k + 111)), .ref (A (k + 1)), .ref (A (k + 2))])
  | 8 => .inr (8, [.int (r 0), .int (r 1), .int (r 2), .int (r 3), .int (r 4), .ref (A (k + 1)), .ref (A (k + 2)), .int (r 7), .ref (A (k + 3)), .int (r 9), .ref (A (k + 4)), .int (r 11), .int (r 12), .int (r 13), .int (r 14), .int (r 15), .int (r 16), .ref (A (k + 5)), .int (r 18), .ref (A (k + 6)), .ref (A (k + 7)), .int (r 21), .int (r 22), .ref (A (k + 8)), .ref (A (k + 9)), .ref (A (k + 10)), .ref (A (k + 11)), .ref (A (k + 12)), .int (r 28), .ref (A (k + 13)), .ref (A (k + 14)), .ref (A (k + 15)), .ref (A (k + 16)), .int (r 33), .int (r 34), .int (r 35), .ref (A (k + 17)), .ref (A (k + 18)), .ref (A (k + 19)), .ref (A (k + 20))])
  | 10 => .inl (T 1, 16, .inr (.inr (.inr (.inr (fun i => some (A (k + 1 + 5 * i)))))))
  | 11 => .inl (T 2, 2, .inr (.inr (.inr (.inr (fun i => some (A (k + 1 + 6 * i)))))))
  | 12 => .inl (T 3, 2, .inl r)
  | n => .inl (T 0, n - 20, .inl r)
def cb_ty (T : Nat → ClassId) : List (ClassId × FieldType) := [(T 0, .int), (T 1, .object RX4), (T 2, .object RX1), (T 3, .boolean)]
def cb_wS (sh : List Nat) (A : Nat → Nat) (T : Nat → ClassId) (σ : cb_St) : va_W := (List.range sh.length).map (fun k => (A k, cb_cE A T (σ.1 k) (σ.2 k) k (sh.getD k 0)))
theorem cb_at {sh : List Nat} {A : Nat → Nat} {T : Nat → ClassId} {σ : cb_St} {k kd : Nat} (h : sh[k]? = some kd) : (cb_wS sh A T σ)[k]? = some (A k, cb_cE A T (σ.1 k) (σ.2 k) k kd) := by
  obtain ⟨hk, e⟩ := List.getElem?_eq_some_iff.mp h
  have e2 : sh.getD k 0 = kd := by rw [List.getD_eq_getElem?_getD, h]; rfl
  simp only [cb_wS, List.getElem?_map, List.getElem?_range hk, Option.map_some, e2]
theorem cb_ad {sh : List Nat} {A : Nat → Nat} {T : Nat → ClassId} {σ : cb_St} {k : Nat} {q : Nat × va_E} (h : (cb_wS sh A T σ)[k]? = some q) : k < sh.length ∧ q.1 = A k := by
  have hl : k < sh.length := by
    have := (List.getElem?_eq_some_iff.mp h).1
    simpa [cb_wS] using this
  simp only [cb_wS, List.getElem?_map, List.getElem?_range hl, Option.map_some, Option.some.injEq] at h
  exact ⟨hl, by rw [← h]⟩
theorem cb_lt {sh : List Nat} {k kd : Nat} (h : sh[k]? = some kd) : k < sh.length := (List.getElem?_eq_some_iff.mp h).1
theorem cb_setS {sh : List Nat} {A : Nat → Nat} {T : Nat → ClassId} {σ τ : cb_St} {k kd : Nat} (h : sh[k]? = some kd) (h1 : ∀ q, q ≠ k → τ.1 q = σ.1 q) (h2 : ∀ q, q ≠ k → τ.2 q = σ.2 q) : (cb_wS sh A T σ).set k (A k, cb_cE A T (τ.1 k) (τ.2 k) k kd) = cb_wS sh A T τ := by
  obtain ⟨hk, e⟩ := List.getElem?_eq_some_iff.mp h
  have e2 : sh.getD k 0 = kd := by rw [List.getD_eq_getElem?_getD, h]; rfl
  apply List.ext_getElem?
  intro j
  rw [List.getElem?_set]
  by_cases hj : k = j
  · subst hj
    have hl : k < (cb_wS sh A T σ).length := by simpa [cb_wS] using hk
    rw [if_pos rfl, if_pos hl, cb_at h]
  · rw [if_neg hj]
    by_cases hl : j < sh.length
    · simp only [cb_wS, List.getElem?_map, List.getElem?_range hl, Option.map_some, h1 j (fun q => hj q.symm), h2 j (fun q => hj q.symm)]
    · have e1 : ∀ ρ : cb_St, (cb_wS sh A T ρ)[j]? = none := fun ρ => List.getElem?_eq_none (by simpa [cb_wS] using Nat.not_lt.mp hl)
      rw [e1, e1]
theorem cb_sA_self (σ : cb_St) (k : Nat) (f : Nat → Int32) : (cb_sA σ k f).1 k = f := by simp [cb_sA]
theorem cb_sA_ne (σ : cb_St) {k q : Nat} (f : Nat → Int32) (h : q ≠ k) : (cb_sA σ k f).1 q = σ.1 q := by simp [cb_sA, h]
theorem cb_setA {sh : List Nat} {A : Nat → Nat} {T : Nat → ClassId} {σ : cb_St} {k kd : Nat} (h : sh[k]? = some kd) (f : Nat → Int32) : (cb_wS sh A T σ).set k (A k, cb_cE A T f (σ.2 k) k kd) = cb_wS sh A T (cb_sA σ k f) := by
  have := cb_setS (A := A) (T := T) (σ := σ) (τ := cb_sA σ k f) h (fun q hq => cb_sA_ne σ f hq) (fun _ _ => rfl)
  rw [cb_sA_self] at this
  exact this
theorem cb_setL {sh : List Nat} {A : Nat → Nat} {T : Nat → ClassId} {σ : cb_St} {k kd : Nat} (h : sh[k]? = some kd) (v : Int64) : (cb_wS sh A T σ).set k (A k, cb_cE A T (σ.1 k) v k kd) = cb_wS sh A T (cb_sL σ k v) := by
  have := cb_setS (A := A) (T := T) (σ := σ) (τ := cb_sL σ k v) h (fun _ _ => rfl) (fun q hq => by simp [cb_sL, hq])
  have e : (cb_sL σ k v).2 k = v := by simp [cb_sL]
  rw [e] at this
  exact this
/-! ===== the heap holds a state; what a method may change; nest mates ===== -/
def cb_fA (sh : List Nat) (A : Nat → Nat) : Nat → Prop := fun q => ∃ k, k < sh.length ∧ q = A k
def cb_H (sh : List Nat) (A : Nat → Nat) (T : Nat → ClassId) (D : va_G) (σ : cb_St) (H0 H : Heap) (locs : List Loc) : Prop := va_P D cb_cl (cb_wS sh A T σ) H ∧ va_D (cb_fA sh A) (cb_wS sh A T σ) ∧ va_S (cb_fA sh A) H0 H locs
theorem cb_D {sh : List Nat} {A : Nat → Nat} {T : Nat → ClassId} {σ τ : cb_St} {P : Nat → Prop} (h : va_D P (cb_wS sh A T σ)) : va_D P (cb_wS sh A T τ) := by
  have lk : ∀ {j : Nat}, j < sh.length → ∃ e, (cb_wS sh A T σ)[j]? = some (A j, e) := fun {j} hj => ⟨_, cb_at (List.getElem?_eq_getElem hj)⟩
  refine ⟨fun i j p q hi hj hpq => ?_, fun k q hk => ?_⟩
  · obtain ⟨l1, e1⟩ := cb_ad hi
    obtain ⟨l2, e2⟩ := cb_ad hj
    obtain ⟨x, hx⟩ := lk l1
    obtain ⟨y, hy⟩ := lk l2
    exact h.1 i j _ _ hx hy (by rw [← e1, ← e2]; exact hpq)
  · obtain ⟨l1, e1⟩ := cb_ad hk
    obtain ⟨x, hx⟩ := lk l1
    rw [e1]
    exact h.2 k _ hx
def cb_nw : Cond := .methodLinkNest RX4 70 yX7_placeAfter RX7
def cb_rm (n : Nat) : Room := { frames := n, cells := 0, slots := 0, locals := 40 * n }
/-- where a method stands: its code and tables -/
def cb_C (p : Program) (s : State) (m : MethodId) (args : Array Value) (meth : Method) (c : Code) (cc : ByteArray) (nL : Nat) (ret : Option FieldType) (own : String) (D : va_G) (T : Nat → ClassId) : Prop :=
  p.tables.exec = Jvm.exec ∧ c.code = cc ∧ c.maxLocals = nL ∧ meth.sig.returnType = ret ∧ s.vm.findClass own = some m.cls ∧ (∀ w ∈ cb_gt, w.before args s = true) ∧ va_K D cb_cl (cb_ty T) s ∧ meth.locks = false ∧ va_Nw cb_nw s
def cb_P (sh : List Nat) (A : Nat → Nat) (T : Nat → ClassId) (D : va_G) (σ : cb_St) (vs : List Value) : Array Value → State → Prop := va_Pc vs (fun U => va_P D cb_cl (cb_wS sh A T σ) U.heap ∧ va_D (cb_fA sh A) (cb_wS sh A T σ) ∧ va_K D cb_cl (cb_ty T) U ∧ va_Nw cb_nw U)
def cb_Q (sh : List Nat) (A : Nat → Nat) (T : Nat → ClassId) (D : va_G) (r : Option Value) (σ : cb_St) : Array Value → State → Outcome → State → Prop := fun _ st oc t => oc = .returned r ∧ va_P D cb_cl (cb_wS sh A T σ) t.heap ∧ va_F (cb_fA sh A) st t
abbrev cb_W (p : Program) (l : Launch) (e : Env) (n : Nat) (s : State) (m : MethodId) (args : Array Value) (below : List Frame) (meth : Method) (c : Code) (sh : List Nat) (A : Nat → Nat) (T : Nat → ClassId) (D : va_G) (r : Option Value) (τ : cb_St) (H : Heap) (locs : List Loc) (g : JFrame) : Prop :=
  W p l e (cb_rm n) s m args below meth c H locs 0 0 (MQ below (cb_Q sh A T D r τ) args s 0 0 (cb_fA sh A)) g
abbrev cb_M (l : Launch) (y : MethodName) (cc : ByteArray) (nL : Nat) (ret : Option FieldType) (n : Nat) (sh : List Nat) (A : Nat → Nat) (T : Nat → ClassId) (D : va_G) (σ : cb_St) (vs : List Value) (r : Option Value) (τ : cb_St) : Prop :=
  Met l y (.code y cc nL ret :: cb_gt) (cb_rm n) (cb_P sh A T D σ vs) (cb_Q sh A T D r τ) 0 0 (cb_fA sh A)
theorem cb_met {l : Launch} {y : MethodName} {cc : ByteArray} {nL : Nat} {ret : Option FieldType} {n : Nat} {sh : List Nat} {A : Nat → Nat} {T : Nat → ClassId} {D : va_G} {σ τ : cb_St} {vs : List Value} {r : Option Value} (hy : plainName y.cls = true) (hlen : (lg_sl vs).length ≤ nL)
    (body : ∀ (p : Program) (e : Env) (s : State) (m : MethodId) (below : List Frame) (meth : Method) (c : Code), cb_C p s m vs.toArray meth c cc nL ret y.cls D T → cb_H sh A T D σ s.heap s.heap [] → ∀ ls : Array Slot, lv_has ls nL (lv_args 0 vs) → cb_W p l e n s m vs.toArray below meth c sh A T D r τ s.heap [] (F0 m 0 ls [])) :
    cb_M l y cc nL ret n sh A T D σ vs r τ := by
  refine Met.ofW (cc := cc) (maxL := nL) (ret := ret) hy rfl ?_
  intro p e s m args below meth c s₁ B hml hv
  obtain ⟨rfl, hP, hD, hK, hN⟩ := hv
  have hts := atoms_spec (ws := Cond.code y cc nL ret :: cb_gt) B.pre
  have hl := lv_entry vs (n := nL) hlen
  rw [lg_entry_eq]
  generalize (lg_sl vs ++ List.replicate (nL - (lg_sl vs).length) Slot.unset).toArray = ls at hl ⊢
  exact body p e s m below meth c ⟨B.exec, B.bytes, hml, B.returns, findClass_of_methodNamed B.named, fun w h => hts w (List.mem_cons_of_mem _ h), hK, B.notSynchronized, hN⟩ ⟨hP, hD, va_S.rf⟩ ls hl
section CBW
variable {p : Program} {l : Launch} {e : Env} {n : Nat} {s : State} {m : MethodId} {args : Array Value} {below : List Frame} {meth : Method} {c : Code} {sh : List Nat} {A : Nat → Nat} {T : Nat → ClassId} {D : va_G} {r : Option Value} {σ τ : cb_St} {H : Heap} {locs : List Loc} {R : Room} {Q : State → Prop}
variable {cc : ByteArray} {nL : Nat} {ret : Option FieldType} {own : String} {pc : Nat} {ls : Array Slot} {rest : List Value}
theorem cb_reti {v : Int32} (C : cb_C p s m args meth c cc nL (some .int) own D T) (hs : cb_H sh A T D σ s.heap H locs) (hdg : decode cc pc = .ok (.ireturn, 1)) : cb_W p l e n s m args below meth c sh A T D (some (.int v)) σ H locs (F0 m pc ls [.int v]) := by
  obtain ⟨hx, hb, hml, hr, hown, hts, hK, hlk, hN⟩ := C
  exact W.iret hx hb hr (fun t ht hW => ⟨rfl, by rw [ht]; exact hs.1, hs.2.2.F ht⟩) hs.2.2.2.2 hdg
theorem cb_retz {v : Int32} (C : cb_C p s m args meth c cc nL (some .boolean) own D T) (hs : cb_H sh A T D σ s.heap H locs) (hz : v = 0 ∨ v = 1) (hdg : decode cc pc = .ok (.ireturn, 1)) : cb_W p l e n s m args below meth c sh A T D (some (.int v)) σ H locs (F0 m pc ls [.int v]) := by
  obtain ⟨hx, hb, hml, hr, hown, hts, hK, hlk, hN⟩ := C
  exact W.zret hx hb hr (by rcases hz with rfl | rfl <;> rfl) (fun t ht hW => ⟨rfl, by rw [ht]; exact hs.1, hs.2.2.F ht⟩) hs.2.2.2.2 hdg
theorem cb_retv (C : cb_C p s m args meth c cc nL none own D T) (hs : cb_H sh A T D σ s.heap H locs) (hdg : decode cc pc = .ok (.return_, 1)) : cb_W p l e n s m args below meth c sh A T D none σ H locs (F0 m pc ls []) := by
  obtain ⟨hx, hb, hml, hr, hown, hts, hK, hlk, hN⟩ := C
  exact W.vret hx hb hr (fun t ht hW => ⟨rfl, by rw [ht]; exact hs.1, hs.2.2.F ht⟩) hs.2.2.2.2 hdg
/-- a row of ints: read, length, written -/
theorem cb_iald {k N : Nat} {i : Int32} (C : cb_C p s m args meth c cc nL ret own D T) (hs : cb_H sh A T D σ s.heap H locs) (hk : sh[k]? = some (N + 20)) (hin : vp_in i N) (hdg : decode cc pc = .ok (.iaload, 1))
    (kk : W p l e R s m args below meth c H locs 0 0 Q (F0 m (pc + 1) ls (.int (σ.1 k i.toNatClampNeg) :: rest))) : W p l e R s m args below meth c H locs 0 0 Q (F0 m pc ls (.int i :: .ref (A k) :: rest)) := by
  obtain ⟨hx, hb, hml, hr, hown, hts, hK, hlk, hN⟩ := C
  exact va_iald hx hb hK hs.1 k 0 (cb_at hk) rfl hin hdg kk
theorem cb_alen {k N : Nat} {v : Int32} (C : cb_C p s m args meth c cc nL ret own D T) (hs : cb_H sh A T D σ s.heap H locs) (hk : sh[k]? = some (N + 20)) (hv : Int32.ofNat N = v) (hdg : decode cc pc = .ok (.arraylength, 1))
    (kk : W p l e R s m args below meth c H locs 0 0 Q (F0 m (pc + 1) ls (.int v :: rest))) : W p l e R s m args below meth c H locs 0 0 Q (F0 m pc ls (.ref (A k) :: rest)) := by
  obtain ⟨hx, hb, hml, hr, hown, hts, hK, hlk, hN⟩ := C
  exact va_alen hx hb hK hs.1 k 0 (x := (N, .inl (σ.1 k))) (cb_at hk) rfl hv hdg kk
theorem cb_iast {k N : Nat} {i x : Int32} (C : cb_C p s m args meth c cc nL ret own D T) (hs : cb_H sh A T D σ s.heap H locs) (hk : sh[k]? = some (N + 20)) (hin : vp_in i N) (hdg : decode cc pc = .ok (.iastore, 1))
    (kk : ∀ (H1 : Heap) (locs1 : List Loc), cb_H sh A T D (cb_sI σ k i.toNatClampNeg x) s.heap H1 locs1 → W p l e R s m args below meth c H1 locs1 0 0 Q (F0 m (pc + 1) ls rest)) : W p l e R s m args below meth c H locs 0 0 Q (F0 m pc ls (.int x :: .int i :: .ref (A k) :: rest)) := by
  obtain ⟨hx, hb, hml, hr, hown, hts, hK, hlk, hN⟩ := C
  refine va_iast hx hb hK hs.1 hs.2.1 hs.2.2 k 0 (cb_at hk) rfl hin hdg (fun H1 locs1 h1 h2 h3 => kk H1 locs1 ⟨?_, cb_D hs.2.1, h3⟩)
  have := cb_setA (A := A) (T := T) (σ := σ) hk (upd (σ.1 k) i.toNatClampNeg x)
  rw [cb_sI, ← this]
  exact h1
end CBW
