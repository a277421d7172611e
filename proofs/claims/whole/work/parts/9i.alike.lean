/-! THE CLAIM OUT OF ONE WALK OF THE LAW'S BODY. Your part is whole_start (and what it stands on); all else here is the same for every law, but numbers. -/
def R_law : String := "CardBecomeLaw"
def lw_P (b : Addr) (xs : List Int32) (args : Array Value) (s : State) : Prop := args = #[.ref b] ∧ s.IntsAt b xs ∧ xs.length ≤ 256 ∧ (Jvm.Cond.and given_1 narrow_1).before args s = true
def lw_Q (_ : Array Value) (s : State) (o : Outcome) (t : State) : Prop := o = .returned (some (.int 1)) ∧ Framed s o t [] 600000 7302250
def lw_Z (below : List Frame) (a : Array Value) (s : State) : State → Prop := fun t => ∃ o, t.status = .running ∧ Ended t below o ∧ lw_Q a s o t
/-- the law's own end, with 1 on the stack, nothing written that was there before, its room as the claim has it -/
theorem lw_ret {p : Program} {l : Launch} {e : Env} {s : State} {m : MethodId} {below : List Frame} {meth : Method} {c : Code} {b : Nat} (hx : p.tables.exec = Jvm.exec) (hb : c.code = code) (hr : meth.sig.returnType = ret) (hlocks : meth.locks = false) {pc : Nat} {H : Heap} {ls : Array Slot} (hdg : decode code pc = .ok (.ireturn, 1)) : W p l e room_1 s m #[Value.ref b] below meth c H [] 600000 7302250 (lw_Z below #[Value.ref b] s) (F0 m pc ls [.int 1]) := by
  intro T hT X
  obtain ⟨fs, hret, hrun, hended, hW, hframe⟩ := X.leave (v := some (.int 1)) (hlocks := hlocks) (fun h => by rw [hr] at h; cases h)
  have hmeth' : T.vm.method? m = some meth := X.method'
  refine ⟨T.setFrames fs, ?_, .returned (some (.int 1)), hrun, hended, rfl, ⟨_, rfl⟩, hW, hframe⟩
  jvm_step X.here [X.here.top, hx, hb, hdg, hmeth', hr, ret, narrow_b1]
  (try refine ⟨rfl, ?_⟩); (try refine ⟨rfl, ?_⟩)
  first | (intro acts; rw [hret _ acts rfl rfl rfl]) | rw [hret _ _ rfl rfl rfl]
  exact Steps.refl _
/-- what holds at the law's entry: the machine, the code, the tables' words (any of lw_tbl by 'hts w (by decide +kernel)'), the script of L ints xs at the cell b, what the Statement gives of the start (any of its parts by flat_of_before) -/
def lw_At (p : Program) (s : State) (m : MethodId) (meth : Method) (c : Code) (b L : Nat) (xs : Nat → Int32) : Prop :=
  p.tables.exec = Jvm.exec ∧ c.code = code ∧ meth.sig.returnType = ret ∧ c.maxLocals = 4 ∧ s.vm.findClass R_law = some m.cls ∧ (∀ w ∈ lw_tbl, w.before #[Value.ref b] s = true) ∧ va_X b L xs s s.heap ∧ b < s.heap.size ∧ meth.locks = false ∧ (Jvm.Cond.and given_1 narrow_1).before #[Value.ref b] s = true
/-! ===== a call of one of two objects ===== -/
section LW
variable {p : Program} {l : Launch} {e : Env} {s : State} {m : MethodId} {args : Array Value} {below : List Frame} {meth : Method} {c : Code} {sh : List Nat} {A : Nat → Nat} {T : Nat → ClassId} {D : va_G} {σ τ : cb_St} {H : Heap} {locs : List Loc} {R : Room} {Q : State → Prop} {P : Nat → Prop} {Y : va_W} {cells slots : Nat}
variable {cc : ByteArray} {nL : Nat} {ret : Option FieldType} {own : String} {pc : Nat} {ls : Array Slot} {rest st0 : List Value}
variable {y : MethodName} {bytes : ByteArray} {mL n' nA index : Nat} {As : List Value} {v : Int32}
theorem wS_map (sh : List Nat) (A : Nat → Nat) (T : Nat → ClassId) (σ τ : cb_St) : (cb_wS sh A T σ).map (·.1) = (cb_wS sh A T τ).map (·.1) := by
  unfold cb_wS; rw [List.map_map, List.map_map]; rfl
theorem lw_callL {kd Nc : Nat} {Tc : u_T} (C : cb_C p s m args meth c cc nL ret own D T) (hM : cb_M l y bytes mL (some .int) n' sh A T D σ (.ref (A 0) :: As) (some (.int v)) τ) (hv : cb_vw y bytes mL (some .int) nA) (hl : Cond.methodLink own index y ∈ cb_gt) (hn : As.length = nA) (hR : n' + 1 ≤ R.frames ∧ 8 + (mL + 11) + 40 * n' ≤ R.locals)
    (hk : sh[0]? = some kd) (hs : ci_H P D (cb_wS sh A T σ ++ Y) s.heap H locs) {lv : List (Nat × Value)} (hls : lv_has ls nL lv) (hst : st0 = As.reverse ++ .ref (A 0) :: rest) (hcat : (rest.map fun v => v.category).sum ≤ 8) (hc : cells ≤ R.cells) (hsl : slots ≤ R.slots) (hdg : decode cc pc = .ok (.invokevirtual index, 3))
    (kk : ∀ (H1 : Heap) (locs1 : List Loc), ci_H P D (cb_wS sh A T τ ++ Y) s.heap H1 locs1 → W p l e R s m args below meth c H1 locs1 cells slots Q (F0 m (pc + 3) ls (.int v :: rest)))
    (hkd : kd < 9 := by decide) (hcl : cb_cl[kd]? = some (y.cls, Tc, Nc) := by rfl) : W p l e R s m args below meth c H locs cells slots Q (F0 m pc ls st0) := by
  obtain ⟨hx, hb, hml, hr, hown, hts, hK, hlk, hNn⟩ := C
  obtain ⟨w1, w2, w3, w4, w5⟩ := hv
  obtain ⟨fs, hfs⟩ := cb_obj (A := A) (T := T) (r := σ.1 0) (g := σ.2 0) (k := 0) hkd
  have hPL : va_P D cb_cl (cb_wS sh A T σ) H := P_iff.mpr fun q hq => P_iff.mp hs.1 q (List.mem_append_left _ hq)
  have hDD := D_iff.mp hs.2.1
  rw [List.map_append, List.nodup_append] at hDD
  have hDL : va_D (cb_fA sh A) (cb_wS sh A T σ) := by
    refine D_iff.mpr ⟨hDD.1.1, fun q hq => ?_⟩
    obtain ⟨i, hi, e0⟩ := List.mem_iff_getElem.mp hq
    obtain ⟨h1, h2⟩ := cb_ad (show (cb_wS sh A T σ)[i]? = some q by rw [List.getElem?_eq_getElem hi, e0])
    exact ⟨i, h1, h2⟩
  have hfAP : ∀ q, cb_fA sh A q → P q := by
    rintro q ⟨k, hk1, rfl⟩
    have h1 : (A k, cb_cE A T (σ.1 k) (σ.2 k) k sh[k]) ∈ cb_wS sh A T σ := List.mem_of_getElem? (cb_at (List.getElem?_eq_getElem hk1))
    exact hDD.2 _ (List.mem_append_left _ h1)
  have hY : ∀ q ∈ Y, ¬ cb_fA sh A q.1 := by
    rintro q hq ⟨k, hk1, e0⟩
    have h1 : (A k, cb_cE A T (σ.1 k) (σ.2 k) k sh[k]) ∈ cb_wS sh A T σ := List.mem_of_getElem? (cb_at (List.getElem?_eq_getElem hk1))
    exact hDD.1.2.2 _ (List.mem_map.mpr ⟨_, h1, rfl⟩) _ (List.mem_map.mpr ⟨q, hq, rfl⟩) e0.symm
  have he : (cb_wS sh A T σ)[0]? = some (A 0, .inr (kd, fs)) := by rw [cb_at hk, hfs]
  have hpre : ∀ U : State, U.heap = H → s.WarmedH U.vm → cb_P sh A T D σ (.ref (A 0) :: As) (Value.ref (A 0) :: As).toArray U := fun U hU hW => ⟨rfl, by rw [hU]; exact hPL, hDL, va_K.moved hW.alike hK, va_Nw.warmM hW hNn⟩
  have hrun := va_runV (l := l) (e := e) (below := below) (meth := meth) (locs := locs) (cells := cells) (slots := slots) (R := R) (n := nA) (g := F0 m pc ls st0) (As := As) (rest := rest) (Ts := cb_gt) ⟨hx, hb, hml, hown, hts⟩ hM ⟨callB_of (R := R) nA hts (cb_good (fun _ h => h) w1) rfl rfl rfl (hts _ w4) (hts _ hl) w5 ⟨hR.1, hR.2⟩, hts _ w2, hts _ w3⟩ ⟨cb_blind, va_recv hK hPL hcl he, hpre⟩ rfl hn hls.1 hst (lv_room hcat) hdg ⟨by omega, by omega⟩
  intro T0 hT X0
  obtain ⟨v2, st₀, t, T', L, h0, X', hL, e1, e2, ⟨hv2, hP, hz, hk2⟩, st⟩ := hrun T0 hT X0
  cases hv2
  rw [h0] at hz hk2
  have hPY : va_P D cb_cl Y t.heap := by
    rw [P_iff]
    intro q hq
    have h1 := P_iff.mp hs.1 q (List.mem_append_right _ hq)
    exact h1.kept (hk2 q.1 h1.lt (hY q hq))
  obtain ⟨t2, a1, b1⟩ := kk T'.heap (locs ++ L) ⟨by rw [e1]; exact va_P.app hP hPY, D_map (by rw [List.map_append, List.map_append, wS_map sh A T σ τ]) hs.2.1, Nat.le_trans hs.2.2.1 (by rw [e1]; exact hz), fun q h1 h2 => by
      rw [e1, hk2 q (Nat.lt_of_lt_of_le h1 hs.2.2.1) (fun h => h2 (hfAP q h))]; exact hs.2.2.2.1 q h1 h2, fun q hq => by
      rcases List.mem_append.mp hq with h | h
      · exact hs.2.2.2.2 q h
      · exact hfAP _ (hL q h)⟩ T' rfl X'
  exact ⟨t2, st t2 a1, b1⟩
theorem lw_callR {kd Nc : Nat} {Tc : u_T} (C : cb_C p s m args meth c cc nL ret own D T) (hM : cb_M l y bytes mL (some .int) n' sh A T D σ (.ref (A 0) :: As) (some (.int v)) τ) (hv : cb_vw y bytes mL (some .int) nA) (hl : Cond.methodLink own index y ∈ cb_gt) (hn : As.length = nA) (hR : n' + 1 ≤ R.frames ∧ 8 + (mL + 11) + 40 * n' ≤ R.locals)
    (hk : sh[0]? = some kd) (hs : ci_H P D (Y ++ cb_wS sh A T σ) s.heap H locs) {lv : List (Nat × Value)} (hls : lv_has ls nL lv) (hst : st0 = As.reverse ++ .ref (A 0) :: rest) (hcat : (rest.map fun v => v.category).sum ≤ 8) (hc : cells ≤ R.cells) (hsl : slots ≤ R.slots) (hdg : decode cc pc = .ok (.invokevirtual index, 3))
    (kk : ∀ (H1 : Heap) (locs1 : List Loc), ci_H P D (Y ++ cb_wS sh A T τ) s.heap H1 locs1 → W p l e R s m args below meth c H1 locs1 cells slots Q (F0 m (pc + 3) ls (.int v :: rest)))
    (hkd : kd < 9 := by decide) (hcl : cb_cl[kd]? = some (y.cls, Tc, Nc) := by rfl) : W p l e R s m args below meth c H locs cells slots Q (F0 m pc ls st0) :=
  lw_callL C hM hv hl hn hR hk (Y := Y) ⟨P_perm List.perm_append_comm hs.1, D_perm List.perm_append_comm hs.2.1, hs.2.2⟩ hls hst hcat hc hsl hdg (fun H1 locs1 h => kk H1 locs1 ⟨P_perm List.perm_append_comm h.1, D_perm List.perm_append_comm h.2.1, h.2.2⟩) hkd hcl
theorem sc_in {i L : Nat} (hi : i + 4 ≤ L) (hL : L ≤ 256) (j : Nat) (hj : j ≤ 3) : vp_in (zI (i : Int) + (OfNat.ofNat j : Int32)) L := by
  rw [zI_lit]
  rw [show zI (i : Int) + zI (OfNat.ofNat j : Int) = zI ((i + j : Nat) : Int) from by rw [zI_add]; rfl]
  intro q
  rcases q with q | q
  · rw [show (0 : Int32) = zI 0 from rfl, zI_lt (by omega) (by omega) (by omega) (by omega)] at q; omega
  · rw [zI_clamp (by omega) (by omega)] at q; omega
end LW
/-! ===== every method alike, as contracts (printed by wip/whole/gen/mk_law.py) ===== -/
section AL
variable {l : Launch} {T : Nat → ClassId} {D : va_G} {A B : Nat → Nat} {σ τ : cb_St}
theorem al_feed (h : Rel σ τ) (x1 : Int32) : ∃ (r : Int32) (σ' τ' : cb_St), cb_M l yX7_feed cX7_feed 2 (some .int) 2 shC A T D σ [.ref (A 0), .int x1] (some (.int r)) σ' ∧ cb_M l yX8_feed cX8_feed 2 (some .int) 2 shM B T D τ [.ref (B 0), .int x1] (some (.int r)) τ' ∧ Rel σ' τ' := by
  obtain ⟨r, σ', τ', h1, h2, h3⟩ := q_feed h x1
  exact ⟨r, σ', τ', c_X7_feed h1, c_X8_feed h2, h3⟩
theorem al_table (h : Rel σ τ) : ∃ (r : Int32) (σ' τ' : cb_St), cb_M l yX7_table cX7_table 2 (some .int) 8 shC A T D σ [.ref (A 0)] (some (.int r)) σ' ∧ cb_M l yX8_table cX8_table 2 (some .int) 6 shM B T D τ [.ref (B 0)] (some (.int r)) τ' ∧ Rel σ' τ' := by
  obtain ⟨r, σ', τ', h1, h2, h3⟩ := q_table h 
  exact ⟨r, σ', τ', c_X7_table h1, c_X8_table h2, h3⟩
theorem al_fault (h : Rel σ τ) : ∃ (r : Int32) (σ' τ' : cb_St), cb_M l yX7_fault cX7_fault 1 (some .int) 1 shC A T D σ [.ref (A 0)] (some (.int r)) σ' ∧ cb_M l yX8_fault cX8_fault 1 (some .int) 1 shM B T D τ [.ref (B 0)] (some (.int r)) τ' ∧ Rel σ' τ' := by
  obtain ⟨r, h1, h2⟩ := q_fault h 
  exact ⟨r, σ, τ, c_X7_fault h1, c_X8_fault h2, h⟩
theorem al_told (h : Rel σ τ) (x1 : Int32) : ∃ (r : Int32) (σ' τ' : cb_St), cb_M l yX7_told cX7_told 2 (some .int) 6 shC A T D σ [.ref (A 0), .int x1] (some (.int r)) σ' ∧ cb_M l yX8_told cX8_told 2 (some .int) 6 shM B T D τ [.ref (B 0), .int x1] (some (.int r)) τ' ∧ Rel σ' τ' := by
  obtain ⟨r, h1, h2⟩ := q_told h x1
  exact ⟨r, σ, τ, c_X7_told h1, c_X8_told h2, h⟩
theorem al_card (h : Rel σ τ) (x1 x2 : Int32) : ∃ (r : Int32) (σ' τ' : cb_St), cb_M l yX7_card cX7_card 3 (some .int) 3 shC A T D σ [.ref (A 0), .int x1, .int x2] (some (.int r)) σ' ∧ cb_M l yX8_card cX8_card 3 (some .int) 3 shM B T D τ [.ref (B 0), .int x1, .int x2] (some (.int r)) τ' ∧ Rel σ' τ' := by
  obtain ⟨N, Q, n, ml, pk, hd, u, z, hX, hP, hU, hS⟩ := id h
  obtain ⟨r, h1, h2⟩ := q_card hX.1 hP x1 x2
  exact ⟨r, σ, τ, c_X7_card h1, c_X8_card h2, h⟩
theorem al_pack (h : Rel σ τ) (x1 : Int32) : ∃ (r : Int32) (σ' τ' : cb_St), cb_M l yX7_pack cX7_pack 2 (some .int) 2 shC A T D σ [.ref (A 0), .int x1] (some (.int r)) σ' ∧ cb_M l yX8_pack cX8_pack 2 (some .int) 2 shM B T D τ [.ref (B 0), .int x1] (some (.int r)) τ' ∧ Rel σ' τ' := by
  obtain ⟨N, Q, n, ml, pk, hd, u, z, hX, hP, hU, hS⟩ := id h
  obtain ⟨r, h1, h2⟩ := q_pack hX.1 hP x1
  exact ⟨r, σ, τ, c_X7_pack h1, c_X8_pack h2, h⟩
theorem al_person (h : Rel σ τ) (x1 x2 : Int32) : ∃ (r : Int32) (σ' τ' : cb_St), cb_M l yX7_person cX7_person 3 (some .int) 5 shC A T D σ [.ref (A 0), .int x1, .int x2] (some (.int r)) σ' ∧ cb_M l yX8_person cX8_person 3 (some .int) 5 shM B T D τ [.ref (B 0), .int x1, .int x2] (some (.int r)) τ' ∧ Rel σ' τ' := by
  obtain ⟨N, Q, n, ml, pk, hd, u, z, hX, hP, hU, hS⟩ := id h
  obtain ⟨r, h1, h2⟩ := q_person hX.1 hP x1 x2
  exact ⟨r, σ, τ, c_X7_person h1, c_X8_person h2, h⟩
theorem al_logged (h : Rel σ τ) (x1 x2 : Int32) : ∃ (r : Int32) (σ' τ' : cb_St), cb_M l yX7_logged cX7_logged 6 (some .int) 2 shC A T D σ [.ref (A 0), .int x1, .int x2] (some (.int r)) σ' ∧ cb_M l yX8_logged cX8_logged 5 (some .int) 2 shM B T D τ [.ref (B 0), .int x1, .int x2] (some (.int r)) τ' ∧ Rel σ' τ' := by
  obtain ⟨N, Q, n, ml, pk, hd, u, z, hX, hP, hU, hS⟩ := id h
  obtain ⟨r, h1, h2⟩ := q_logged hX.1 hP x1 x2
  exact ⟨r, σ, τ, c_X7_logged h1, c_X8_logged h2, h⟩
theorem al_drawOne (h : Rel σ τ) (x1 : Int32) : ∃ (r : Int32) (σ' τ' : cb_St), cb_M l yX7_drawOne cX7_drawOne 2 (some .int) 4 shC A T D σ [.ref (A 0), .int x1] (some (.int r)) σ' ∧ cb_M l yX8_drawOne cX8_drawOne 2 (some .int) 3 shM B T D τ [.ref (B 0), .int x1] (some (.int r)) τ' ∧ Rel σ' τ' := by
  obtain ⟨r, σ', τ', h1, h2, h3⟩ := q_drawOne h x1
  exact ⟨r, σ', τ', c_X7_drawOne h1, c_X8_drawOne h2, h3⟩
theorem al_getBack (h : Rel σ τ) (x1 : Int32) : ∃ (r : Int32) (σ' τ' : cb_St), cb_M l yX7_getBack cX7_getBack 2 (some .int) 5 shC A T D σ [.ref (A 0), .int x1] (some (.int r)) σ' ∧ cb_M l yX8_getBack cX8_getBack 3 (some .int) 3 shM B T D τ [.ref (B 0), .int x1] (some (.int r)) τ' ∧ Rel σ' τ' := by
  obtain ⟨r, σ', τ', h1, h2, h3⟩ := q_getBack h x1
  exact ⟨r, σ', τ', c_X7_getBack h1, c_X8_getBack h2, h3⟩
theorem al_meet (h : Rel σ τ) (x1 x2 : Int32) : ∃ (r : Int32) (σ' τ' : cb_St), cb_M l yX7_meet cX7_meet 3 (some .int) 5 shC A T D σ [.ref (A 0), .int x1, .int x2] (some (.int r)) σ' ∧ cb_M l yX8_meet cX8_meet 3 (some .int) 5 shM B T D τ [.ref (B 0), .int x1, .int x2] (some (.int r)) τ' ∧ Rel σ' τ' := by
  obtain ⟨r, σ', τ', h1, h2, h3⟩ := q_meet h x1 x2
  exact ⟨r, σ', τ', c_X7_meet h1, c_X8_meet h2, h3⟩
theorem al_force (h : Rel σ τ) (x1 : Int32) : ∃ (r : Int32) (σ' τ' : cb_St), cb_M l yX7_force cX7_force 3 (some .int) 3 shC A T D σ [.ref (A 0), .int x1] (some (.int r)) σ' ∧ cb_M l yX8_force cX8_force 4 (some .int) 3 shM B T D τ [.ref (B 0), .int x1] (some (.int r)) τ' ∧ Rel σ' τ' := by
  obtain ⟨r, σ', τ', h1, h2, h3⟩ := q_force h x1
  exact ⟨r, σ', τ', c_X7_force h1, c_X8_force h2, h3⟩
theorem al_shuffle (h : Rel σ τ) (x1 : Int32) : ∃ (r : Int32) (σ' τ' : cb_St), cb_M l yX7_shuffle cX7_shuffle 2 (some .int) 3 shC A T D σ [.ref (A 0), .int x1] (some (.int r)) σ' ∧ cb_M l yX8_shuffle cX8_shuffle 2 (some .int) 3 shM B T D τ [.ref (B 0), .int x1] (some (.int r)) τ' ∧ Rel σ' τ' := by
  obtain ⟨r, σ', τ', h1, h2, h3⟩ := q_shuffle h x1
  exact ⟨r, σ', τ', c_X7_shuffle h1, c_X8_shuffle h2, h3⟩
theorem al_drawer (h : Rel σ τ) (x1 : Int32) : ∃ (r : Int32) (σ' τ' : cb_St), cb_M l yX7_drawer cX7_drawer 2 (some .int) 5 shC A T D σ [.ref (A 0), .int x1] (some (.int r)) σ' ∧ cb_M l yX8_drawer cX8_drawer 3 (some .int) 3 shM B T D τ [.ref (B 0), .int x1] (some (.int r)) τ' ∧ Rel σ' τ' := by
  obtain ⟨r, σ', τ', h1, h2, h3⟩ := q_drawer h x1
  exact ⟨r, σ', τ', c_X7_drawer h1, c_X8_drawer h2, h3⟩
theorem al_out (h : Rel σ τ) (x1 : Int32) : ∃ (r : Int32) (σ' τ' : cb_St), cb_M l yX7_out cX7_out 2 (some .int) 3 shC A T D σ [.ref (A 0), .int x1] (some (.int r)) σ' ∧ cb_M l yX8_out cX8_out 2 (some .int) 3 shM B T D τ [.ref (B 0), .int x1] (some (.int r)) τ' ∧ Rel σ' τ' := by
  obtain ⟨r, σ', τ', h1, h2, h3⟩ := q_out h x1
  exact ⟨r, σ', τ', c_X7_out h1, c_X8_out h2, h3⟩
theorem al_drift (h : Rel σ τ) (x1 : Int32) : ∃ (r : Int32) (σ' τ' : cb_St), cb_M l yX7_drift cX7_drift 3 (some .int) 6 shC A T D σ [.ref (A 0), .int x1] (some (.int r)) σ' ∧ cb_M l yX8_drift cX8_drift 3 (some .int) 6 shM B T D τ [.ref (B 0), .int x1] (some (.int r)) τ' ∧ Rel σ' τ' := by
  obtain ⟨r, σ', τ', h1, h2, h3⟩ := q_drift h x1
  exact ⟨r, σ', τ', c_X7_drift h1, c_X8_drift h2, h3⟩
theorem al_undo (h : Rel σ τ) : ∃ (r : Int32) (σ' τ' : cb_St), cb_M l yX7_undo cX7_undo 1 (some .int) 3 shC A T D σ [.ref (A 0)] (some (.int r)) σ' ∧ cb_M l yX8_undo cX8_undo 2 (some .int) 1 shM B T D τ [.ref (B 0)] (some (.int r)) τ' ∧ Rel σ' τ' := by
  obtain ⟨r, σ', τ', h1, h2, h3⟩ := q_undo h 
  exact ⟨r, σ', τ', c_X7_undo h1, c_X8_undo h2, h3⟩
theorem al_beats (h : Rel σ τ) (x1 x2 : Int32) : ∃ (r : Int32) (σ' τ' : cb_St), cb_M l yX7_beats cX7_beats 4 (some .int) 3 shC A T D σ [.ref (A 0), .int x1, .int x2] (some (.int r)) σ' ∧ cb_M l yX8_beats cX8_beats 4 (some .int) 3 shM B T D τ [.ref (B 0), .int x1, .int x2] (some (.int r)) τ' ∧ Rel σ' τ' := by
  obtain ⟨N, Q, n, ml, pk, hd, u, z, hX, hP, hU, hS⟩ := id h
  obtain ⟨r, h1, h2⟩ := q_beats hX.1 x1 x2
  exact ⟨r, σ, τ, c_X7_beats h1, c_X8_beats h2, h⟩
theorem al_rings (h : Rel σ τ) (x1 : Int32) : ∃ (r : Int32) (σ' τ' : cb_St), cb_M l yX7_rings cX7_rings 6 (some .int) 5 shC A T D σ [.ref (A 0), .int x1] (some (.int r)) σ' ∧ cb_M l yX8_rings cX8_rings 7 (some .int) 6 shM B T D τ [.ref (B 0), .int x1] (some (.int r)) τ' ∧ Rel σ' τ' := by
  obtain ⟨N, Q, n, ml, pk, hd, u, z, hX, hP, hU, hS⟩ := id h
  obtain ⟨r, h1, h2⟩ := q_rings hX.1 hP x1
  exact ⟨r, σ, τ, c_X7_rings h1, c_X8_rings h2, h⟩
theorem al_order (h : Rel σ τ) (x1 : Int32) : ∃ (r : Int32) (σ' τ' : cb_St), cb_M l yX7_order cX7_order 4 (some .int) 14 shC A T D σ [.ref (A 0), .int x1] (some (.int r)) σ' ∧ cb_M l yX8_order cX8_order 6 (some .int) 5 shM B T D τ [.ref (B 0), .int x1] (some (.int r)) τ' ∧ Rel σ' τ' := by
  obtain ⟨r, σ', τ', h1, h2, h3⟩ := q_order h x1
  exact ⟨r, σ', τ', c_X7_order h1, c_X8_order h2, h3⟩
theorem al_row (h : Rel σ τ) (x1 x2 x3 : Int32) : ∃ (r : Int32) (σ' τ' : cb_St), cb_M l yX7_row cX7_row 6 (some .int) 4 shC A T D σ [.ref (A 0), .int x1, .int x2, .int x3] (some (.int r)) σ' ∧ cb_M l yX8_row cX8_row 7 (some .int) 3 shM B T D τ [.ref (B 0), .int x1, .int x2, .int x3] (some (.int r)) τ' ∧ Rel σ' τ' := by
  obtain ⟨r, σ', τ', h1, h2, h3⟩ := q_row h x1 x2 x3
  exact ⟨r, σ', τ', c_X7_row h1, c_X8_row h2, h3⟩
theorem al_tells (h : Rel σ τ) : ∃ (r : Int32) (σ' τ' : cb_St), cb_M l yX7_tells cX7_tells 7 (some .int) 6 shC A T D σ [.ref (A 0)] (some (.int r)) σ' ∧ cb_M l yX8_tells cX8_tells 7 (some .int) 4 shM B T D τ [.ref (B 0)] (some (.int r)) τ' ∧ Rel σ' τ' := by
  obtain ⟨r, τ', h1, h2, h3⟩ := q_tells h 
  exact ⟨r, σ, τ', c_X7_tells h1, c_X8_tells h2, h3⟩
theorem al_odds (h : Rel σ τ) (x1 x2 : Int32) : ∃ (r : Int32) (σ' τ' : cb_St), cb_M l yX7_odds cX7_odds 5 (some .int) 3 shC A T D σ [.ref (A 0), .int x1, .int x2] (some (.int r)) σ' ∧ cb_M l yX8_odds cX8_odds 6 (some .int) 4 shM B T D τ [.ref (B 0), .int x1, .int x2] (some (.int r)) τ' ∧ Rel σ' τ' := by
  obtain ⟨N, Q, n, ml, pk, hd, u, z, hX, hP, hU, hS⟩ := id h
  obtain ⟨r, h1, h2⟩ := q_odds hX.1 hP x1 x2
  exact ⟨r, σ, τ, c_X7_odds h1, c_X8_odds h2, h⟩
theorem al_back (h : Rel σ τ) (x1 : Int32) : ∃ (r : Int32) (σ' τ' : cb_St), cb_M l yX7_back cX7_back 4 (some .int) 5 shC A T D σ [.ref (A 0), .int x1] (some (.int r)) σ' ∧ cb_M l yX8_back cX8_back 4 (some .int) 5 shM B T D τ [.ref (B 0), .int x1] (some (.int r)) τ' ∧ Rel σ' τ' := by
  obtain ⟨N, Q, n, ml, pk, hd, u, z, hX, hP, hU, hS⟩ := id h
  obtain ⟨r, h1, h2⟩ := q_back hX.1 hP x1
  exact ⟨r, σ, τ, c_X7_back h1, c_X8_back h2, h⟩
theorem al_missing (h : Rel σ τ) (x1 : Int32) : ∃ (r : Int32) (σ' τ' : cb_St), cb_M l yX7_missing cX7_missing 4 (some .int) 2 shC A T D σ [.ref (A 0), .int x1] (some (.int r)) σ' ∧ cb_M l yX8_missing cX8_missing 4 (some .int) 2 shM B T D τ [.ref (B 0), .int x1] (some (.int r)) τ' ∧ Rel σ' τ' := by
  obtain ⟨N, Q, n, ml, pk, hd, u, z, hX, hP, hU, hS⟩ := id h
  obtain ⟨r, h1, h2⟩ := q_missing hX.1 x1
  exact ⟨r, σ, τ, c_X7_missing h1, c_X8_missing h2, h⟩
theorem al_wanted (h : Rel σ τ) (x1 : Int32) : ∃ (r : Int32) (σ' τ' : cb_St), cb_M l yX7_wanted cX7_wanted 6 (some .int) 5 shC A T D σ [.ref (A 0), .int x1] (some (.int r)) σ' ∧ cb_M l yX8_wanted cX8_wanted 6 (some .int) 5 shM B T D τ [.ref (B 0), .int x1] (some (.int r)) τ' ∧ Rel σ' τ' := by
  obtain ⟨N, Q, n, ml, pk, hd, u, z, hX, hP, hU, hS⟩ := id h
  obtain ⟨r, h1, h2⟩ := q_wanted hX.1 hP x1
  exact ⟨r, σ, τ, c_X7_wanted h1, c_X8_wanted h2, h⟩
theorem al_see (h : Rel σ τ) (x1 x2 x3 : Int32) : ∃ (r : Int32) (σ' τ' : cb_St), cb_M l yX7_see cX7_see 4 (some .int) 3 shC A T D σ [.ref (A 0), .int x1, .int x2, .int x3] (some (.int r)) σ' ∧ cb_M l yX8_see cX8_see 4 (some .int) 4 shM B T D τ [.ref (B 0), .int x1, .int x2, .int x3] (some (.int r)) τ' ∧ Rel σ' τ' := by
  obtain ⟨r, σ', τ', h1, h2, h3⟩ := q_see h x1 x2 x3
  exact ⟨r, σ', τ', c_X7_see h1, c_X8_see h2, h3⟩
theorem al_deals (h : Rel σ τ) (x1 x2 : Int32) : ∃ (r : Int32) (σ' τ' : cb_St), cb_M l yX7_deals cX7_deals 3 (some .int) 15 shC A T D σ [.ref (A 0), .int x1, .int x2] (some (.int r)) σ' ∧ cb_M l yX8_deals cX8_deals 8 (some .int) 4 shM B T D τ [.ref (B 0), .int x1, .int x2] (some (.int r)) τ' ∧ Rel σ' τ' := by
  obtain ⟨r, σ', τ', h1, h2, h3⟩ := q_deals h x1 x2
  exact ⟨r, σ', τ', c_X7_deals h1, c_X8_deals h2, h3⟩
theorem al_ask (h : Rel σ τ) (x1 : Int32) : ∃ (r : Int32) (σ' τ' : cb_St), cb_M l yX7_ask cX7_ask 2 (some .int) 15 shC A T D σ [.ref (A 0), .int x1] (some (.int r)) σ' ∧ cb_M l yX8_ask cX8_ask 8 (some .int) 5 shM B T D τ [.ref (B 0), .int x1] (some (.int r)) τ' ∧ Rel σ' τ' := by
  obtain ⟨r, σ', τ', h1, h2, h3⟩ := q_ask h x1
  exact ⟨r, σ', τ', c_X7_ask h1, c_X8_ask h2, h3⟩
theorem al_write (h : Rel σ τ) (x1 x2 : Int32) : ∃ (r : Int32) (σ' τ' : cb_St), cb_M l yX7_write cX7_write 3 (some .int) 2 shC A T D σ [.ref (A 0), .int x1, .int x2] (some (.int r)) σ' ∧ cb_M l yX8_write cX8_write 3 (some .int) 3 shM B T D τ [.ref (B 0), .int x1, .int x2] (some (.int r)) τ' ∧ Rel σ' τ' := by
  obtain ⟨r, σ', τ', h1, h2, h3⟩ := q_write h x1 x2
  exact ⟨r, σ', τ', c_X7_write h1, c_X8_write h2, h3⟩
theorem al_tear (h : Rel σ τ) : ∃ (r : Int32) (σ' τ' : cb_St), cb_M l yX7_tear cX7_tear 2 (some .int) 2 shC A T D σ [.ref (A 0)] (some (.int r)) σ' ∧ cb_M l yX8_tear cX8_tear 2 (some .int) 1 shM B T D τ [.ref (B 0)] (some (.int r)) τ' ∧ Rel σ' τ' := by
  obtain ⟨r, σ', τ', h1, h2, h3⟩ := q_tear h 
  exact ⟨r, σ', τ', c_X7_tear h1, c_X8_tear h2, h3⟩
theorem al_judge (h : Rel σ τ) : ∃ (r : Int32) (σ' τ' : cb_St), cb_M l yX7_judge cX7_judge 2 (some .int) 3 shC A T D σ [.ref (A 0)] (some (.int r)) σ' ∧ cb_M l yX8_judge cX8_judge 2 (some .int) 1 shM B T D τ [.ref (B 0)] (some (.int r)) τ' ∧ Rel σ' τ' := by
  obtain ⟨r, h1, h2⟩ := q_judge h 
  exact ⟨r, σ, τ, c_X7_judge h1, c_X8_judge h2, h⟩
theorem al_seed (h : Rel σ τ) (x1 : Int32) : ∃ (r : Int32) (σ' τ' : cb_St), cb_M l yX7_seed cX7_seed 3 (some .int) 1 shC A T D σ [.ref (A 0), .int x1] (some (.int r)) σ' ∧ cb_M l yX8_seed cX8_seed 3 (some .int) 1 shM B T D τ [.ref (B 0), .int x1] (some (.int r)) τ' ∧ Rel σ' τ' := by
  obtain ⟨r, σ', τ', h1, h2, h3⟩ := q_seed h x1
  exact ⟨r, σ', τ', c_X7_seed h1, c_X8_seed h2, h3⟩
theorem al_keep (h : Rel σ τ) (x1 : Int32) : ∃ (r : Int32) (σ' τ' : cb_St), cb_M l yX7_keep cX7_keep 2 (some .int) 2 shC A T D σ [.ref (A 0), .int x1] (some (.int r)) σ' ∧ cb_M l yX8_keep cX8_keep 3 (some .int) 2 shM B T D τ [.ref (B 0), .int x1] (some (.int r)) τ' ∧ Rel σ' τ' := by
  obtain ⟨r, σ', τ', h1, h2, h3⟩ := q_keep h x1
  exact ⟨r, σ', τ', c_X7_keep h1, c_X8_keep h2, h3⟩
theorem al_goBack (h : Rel σ τ) (x1 : Int32) : ∃ (r : Int32) (σ' τ' : cb_St), cb_M l yX7_goBack cX7_goBack 2 (some .int) 2 shC A T D σ [.ref (A 0), .int x1] (some (.int r)) σ' ∧ cb_M l yX8_goBack cX8_goBack 3 (some .int) 2 shM B T D τ [.ref (B 0), .int x1] (some (.int r)) τ' ∧ Rel σ' τ' := by
  obtain ⟨r, σ', τ', h1, h2, h3⟩ := q_goBack h x1
  exact ⟨r, σ', τ', c_X7_goBack h1, c_X8_goBack h2, h3⟩
end AL
