section
variable {p : Program} {l : Launch} {e : Env} {s : State} {m : MethodId} {args : Array Value} {below : List Frame} {meth : Method} {c : Code} {A : Nat → Nat} {T : Nat → ClassId} {D : va_G}
/-! ===== CardBecomeModel.has ===== -/
def f_X8_has (x0 : Int32) (x1 : Int32) (σ : cb_St)  : Option (Int32) := if ((x0 >>> (x1 &&& 31)) &&& 1) = 1 then (some 1) else (some 0)
set_option maxHeartbeats 4000000 in
set_option maxRecDepth 100000 in
theorem c_X8_has {x0 : Int32} {x1 : Int32} {σ : cb_St}   {o : Int32} (hf : f_X8_has x0 x1 σ = some o) : cb_M l yX8_has cX8_has 2 (some .boolean) 1 shM A T D σ [.int x0, .int x1] (some (.int o)) σ := by
  refine cb_met (by decide +kernel) (Nat.le_of_ble_eq_true rfl) ?_
  intro p e s m below meth c C hs ls hl
  have hl : lv_has ls 2 [(0, .int x0), (1, .int x1)] := hl
  obtain ⟨hx, hb, hml, hr, hown, hts, hK, hlk, hN⟩ := id C
  unfold f_X8_has at hf
  refine lv_iload_n hx hb dX8_has_0 rfl (lv_at hl 0 rfl) ?_
  refine lv_iload_n hx hb dX8_has_1 rfl (lv_at hl 1 rfl) ?_
  refine lv_ishr hx hb dX8_has_2 ?_
  refine lv_iconst (v := 1) hx hb dX8_has_3 (by decide) ?_
  refine lv_iand hx hb dX8_has_4 ?_
  refine lv_iconst (v := 1) hx hb dX8_has_5 (by decide) ?_
  refine lv_icmp_ne (tgt := 13) hx hb dX8_has_6 (by decide) (fun cn => ?_) (fun cn => ?_)
  · replace hf := cb_ifn cn hf
    refine lv_iconst (v := 0) hx hb dX8_has_13 (by decide) ?_
    have hf := Option.some.inj hf
    subst hf
    exact cb_retz C hs (Or.inl rfl) dX8_has_14
  · replace hf := cb_ifp cn hf
    refine lv_iconst (v := 1) hx hb dX8_has_9 (by decide) ?_
    refine lv_goto (tgt := 14) hx hb dX8_has_10 (by decide) ?_
    have hf := Option.some.inj hf
    subst hf
    exact cb_retz C hs (Or.inr rfl) dX8_has_14
/-! ===== CardBecomeModel.beatsBy ===== -/
def f_X8_beatsBy_176 (x1 : Int32) (x2 : Int32) (x3 : Int32) (x4 : Int32) (σ : cb_St) (s0 : Int32) (s1 : Int32) : Option (Int32) := if s1 = s0 then (some 0) else (some 1)
set_option maxHeartbeats 4000000 in
set_option maxRecDepth 100000 in
theorem w_X8_beatsBy_176 (C : cb_C p s m args meth c cX8_beatsBy 7 (some .int) RX8 D T) {x1 : Int32} {x2 : Int32} {x3 : Int32} {x4 : Int32} {σ : cb_St} {o : Int32}  {s0 : Int32} {s1 : Int32} (hf : f_X8_beatsBy_176 x1 x2 x3 x4 σ s0 s1 = some o) {H : Heap} {locs : List Loc} {ls : Array Slot} (hs : cb_H shM A T D σ s.heap H locs) (hl : lv_has ls 7 [(0, .ref (A 0)), (1, .int x1), (2, .int x2), (3, .int x3), (4, .int x4)]) : cb_W p l e 1 s m args below meth c shM A T D (some (.int o)) σ H locs (F0 m 176 ls [.int s0, .int s1]) := by
  obtain ⟨hx, hb, hml, hr, hown, hts, hK, hlk, hN⟩ := id C
  unfold f_X8_beatsBy_176 at hf
  refine lv_icmp_ne (tgt := 183) hx hb dX8_beatsBy_176 (by decide) (fun cn => ?_) (fun cn => ?_)
  · replace hf := cb_ifn cn hf
    refine lv_iconst (v := 1) hx hb dX8_beatsBy_183 (by decide) ?_
    have hf := Option.some.inj hf
    subst hf
    exact cb_reti C hs dX8_beatsBy_184
  · replace hf := cb_ifp cn hf
    refine lv_iconst (v := 0) hx hb dX8_beatsBy_179 (by decide) ?_
    refine lv_goto (tgt := 184) hx hb dX8_beatsBy_180 (by decide) ?_
    have hf := Option.some.inj hf
    subst hf
    exact cb_reti C hs dX8_beatsBy_184
def f_X8_beatsBy_166 (x1 : Int32) (x2 : Int32) (x3 : Int32) (x4 : Int32) (σ : cb_St) (s0 : Int32) : Option (Int32) := if x4 = 0 then (f_X8_beatsBy_176 x1 x2 x3 x4 σ 1 s0) else (f_X8_beatsBy_176 x1 x2 x3 x4 σ 0 s0)
set_option maxHeartbeats 4000000 in
set_option maxRecDepth 100000 in
theorem w_X8_beatsBy_166 (C : cb_C p s m args meth c cX8_beatsBy 7 (some .int) RX8 D T) {x1 : Int32} {x2 : Int32} {x3 : Int32} {x4 : Int32} {σ : cb_St} {o : Int32}  {s0 : Int32} (hf : f_X8_beatsBy_166 x1 x2 x3 x4 σ s0 = some o) {H : Heap} {locs : List Loc} {ls : Array Slot} (hs : cb_H shM A T D σ s.heap H locs) (hl : lv_has ls 7 [(0, .ref (A 0)), (1, .int x1), (2, .int x2), (3, .int x3), (4, .int x4)]) : cb_W p l e 1 s m args below meth c shM A T D (some (.int o)) σ H locs (F0 m 166 ls [.int s0]) := by
  obtain ⟨hx, hb, hml, hr, hown, hts, hK, hlk, hN⟩ := id C
  unfold f_X8_beatsBy_166 at hf
  refine lv_iload hx hb dX8_beatsBy_166 (lv_at hl 4 rfl) ?_
  refine lv_if_ne (tgt := 175) hx hb dX8_beatsBy_168 (by decide) (fun cn => ?_) (fun cn => ?_)
  · replace hf := cb_ifn cn hf
    refine lv_iconst (v := 0) hx hb dX8_beatsBy_175 (by decide) ?_
    exact w_X8_beatsBy_176 C  hf hs (lv_sub hl [0, 1, 2, 3, 4] rfl)
  · replace hf := cb_ifp cn hf
    refine lv_iconst (v := 1) hx hb dX8_beatsBy_171 (by decide) ?_
    refine lv_goto (tgt := 176) hx hb dX8_beatsBy_172 (by decide) ?_
    exact w_X8_beatsBy_176 C  hf hs (lv_sub hl [0, 1, 2, 3, 4] rfl)
def f_X8_beatsBy_129 (x1 : Int32) (x2 : Int32) (x3 : Int32) (x4 : Int32) (σ : cb_St)  : Option (Int32) := cb_ck (0 ≤ Int32.toInt x1 ∧ Int32.toInt x1 < 12) (cb_ck (0 ≤ Int32.toInt x2 ∧ Int32.toInt x2 < 12) (if (σ.1 1 (Int32.toNatClampNeg x1)) = (σ.1 1 (Int32.toNatClampNeg x2)) then (some 2) else (cb_ck (0 ≤ Int32.toInt x1 ∧ Int32.toInt x1 < 12) (cb_ck (0 ≤ Int32.toInt x2 ∧ Int32.toInt x2 < 12) (if (σ.1 1 (Int32.toNatClampNeg x1)) ≤ (σ.1 1 (Int32.toNatClampNeg x2)) then (f_X8_beatsBy_166 x1 x2 x3 x4 σ 0) else (f_X8_beatsBy_166 x1 x2 x3 x4 σ 1))))))
set_option maxHeartbeats 4000000 in
set_option maxRecDepth 100000 in
theorem w_X8_beatsBy_129 (C : cb_C p s m args meth c cX8_beatsBy 7 (some .int) RX8 D T) {x1 : Int32} {x2 : Int32} {x3 : Int32} {x4 : Int32} {σ : cb_St} {o : Int32}   (hf : f_X8_beatsBy_129 x1 x2 x3 x4 σ = some o) {H : Heap} {locs : List Loc} {ls : Array Slot} (hs : cb_H shM A T D σ s.heap H locs) (hl : lv_has ls 7 [(0, .ref (A 0)), (1, .int x1), (2, .int x2), (3, .int x3), (4, .int x4)]) : cb_W p l e 1 s m args below meth c shM A T D (some (.int o)) σ H locs (F0 m 129 ls []) := by
  obtain ⟨hx, hb, hml, hr, hown, hts, hK, hlk, hN⟩ := id C
  unfold f_X8_beatsBy_129 at hf
  refine lv_aload_n hx hb dX8_beatsBy_129 rfl (lv_at hl 0 rfl) ?_
  refine gf_X8_7 C hs rfl dX8_beatsBy_130 ?_
  refine lv_iload_n hx hb dX8_beatsBy_133 rfl (lv_at hl 1 rfl) ?_
  obtain ⟨hc, hf⟩ := cb_ck_inv hf
  refine cb_iald C hs rfl (vp_in_iff.mpr hc) dX8_beatsBy_134 ?_
  refine lv_aload_n hx hb dX8_beatsBy_135 rfl (lv_at hl 0 rfl) ?_
  refine gf_X8_7 C hs rfl dX8_beatsBy_136 ?_
  refine lv_iload_n hx hb dX8_beatsBy_139 rfl (lv_at hl 2 rfl) ?_
  obtain ⟨hc, hf⟩ := cb_ck_inv hf
  refine cb_iald C hs rfl (vp_in_iff.mpr hc) dX8_beatsBy_140 ?_
  refine lv_icmp_ne (tgt := 146) hx hb dX8_beatsBy_141 (by decide) (fun cn => ?_) (fun cn => ?_)
  · replace hf := cb_ifn cn hf
    refine lv_aload_n hx hb dX8_beatsBy_146 rfl (lv_at hl 0 rfl) ?_
    refine gf_X8_7 C hs rfl dX8_beatsBy_147 ?_
    refine lv_iload_n hx hb dX8_beatsBy_150 rfl (lv_at hl 1 rfl) ?_
    obtain ⟨hc, hf⟩ := cb_ck_inv hf
    refine cb_iald C hs rfl (vp_in_iff.mpr hc) dX8_beatsBy_151 ?_
    refine lv_aload_n hx hb dX8_beatsBy_152 rfl (lv_at hl 0 rfl) ?_
    refine gf_X8_7 C hs rfl dX8_beatsBy_153 ?_
    refine lv_iload_n hx hb dX8_beatsBy_156 rfl (lv_at hl 2 rfl) ?_
    obtain ⟨hc, hf⟩ := cb_ck_inv hf
    refine cb_iald C hs rfl (vp_in_iff.mpr hc) dX8_beatsBy_157 ?_
    refine lv_icmp_le (tgt := 165) hx hb dX8_beatsBy_158 (by decide) (fun cn => ?_) (fun cn => ?_)
    · replace hf := cb_ifp cn hf
      refine lv_iconst (v := 0) hx hb dX8_beatsBy_165 (by decide) ?_
      exact w_X8_beatsBy_166 C  hf hs (lv_sub hl [0, 1, 2, 3, 4] rfl)
    · replace hf := cb_ifn cn hf
      refine lv_iconst (v := 1) hx hb dX8_beatsBy_161 (by decide) ?_
      refine lv_goto (tgt := 166) hx hb dX8_beatsBy_162 (by decide) ?_
      exact w_X8_beatsBy_166 C  hf hs (lv_sub hl [0, 1, 2, 3, 4] rfl)
  · replace hf := cb_ifp cn hf
    refine lv_iconst (v := 2) hx hb dX8_beatsBy_144 (by decide) ?_
    have hf := Option.some.inj hf
    subst hf
    exact cb_reti C hs dX8_beatsBy_145
def f_X8_beatsBy_86 (x1 : Int32) (x2 : Int32) (x3 : Int32) (x4 : Int32) (σ : cb_St) (x5 : Int32) (s0 : Int32) : Option (Int32) := if (σ.1 0 3) = 1 then (cb_ck (0 ≤ Int32.toInt x1 ∧ Int32.toInt x1 < 12) (cb_ck (0 ≤ Int32.toInt x2 ∧ Int32.toInt x2 < 12) (if (σ.1 2 (Int32.toNatClampNeg x1)) = (σ.1 2 (Int32.toNatClampNeg x2)) then (if x5 = s0 then (f_X8_beatsBy_129 x1 x2 x3 x4 σ) else (if x5 = 0 then (some 1) else (some 0))) else (f_X8_beatsBy_129 x1 x2 x3 x4 σ)))) else (f_X8_beatsBy_129 x1 x2 x3 x4 σ)
set_option maxHeartbeats 4000000 in
set_option maxRecDepth 100000 in
theorem w_X8_beatsBy_86 (C : cb_C p s m args meth c cX8_beatsBy 7 (some .int) RX8 D T) {x1 : Int32} {x2 : Int32} {x3 : Int32} {x4 : Int32} {σ : cb_St} {o : Int32}  {x5 : Int32} {s0 : Int32} (hf : f_X8_beatsBy_86 x1 x2 x3 x4 σ x5 s0 = some o) {H : Heap} {locs : List Loc} {ls : Array Slot} (hs : cb_H shM A T D σ s.heap H locs) (hl : lv_has ls 7 [(0, .ref (A 0)), (1, .int x1), (2, .int x2), (3, .int x3), (4, .int x4), (5, .int x5)]) : cb_W p l e 1 s m args below meth c shM A T D (some (.int o)) σ H locs (F0 m 86 ls [.int s0]) := by
  obtain ⟨hx, hb, hml, hr, hown, hts, hK, hlk, hN⟩ := id C
  unfold f_X8_beatsBy_86 at hf
  refine lv_istore (lv' := [(6, .int s0), (0, .ref (A 0)), (1, .int x1), (2, .int x2), (3, .int x3), (4, .int x4), (5, .int x5)]) hx hb dX8_beatsBy_86 hl (by decide) rfl (fun ls hl => ?_)
  refine lv_aload_n hx hb dX8_beatsBy_88 rfl (lv_at hl 1 rfl) ?_
  refine gf_X8_152 C hs rfl dX8_beatsBy_89 ?_
  refine lv_iconst (v := 1) hx hb dX8_beatsBy_92 (by decide) ?_
  refine lv_icmp_ne (tgt := 129) hx hb dX8_beatsBy_93 (by decide) (fun cn => ?_) (fun cn => ?_)
  · replace hf := cb_ifn cn hf
    exact w_X8_beatsBy_129 C  hf hs (lv_sub hl [1, 2, 3, 4, 5] rfl)
  · replace hf := cb_ifp cn hf
    refine lv_aload_n hx hb dX8_beatsBy_96 rfl (lv_at hl 1 rfl) ?_
    refine gf_X8_13 C hs rfl dX8_beatsBy_97 ?_
    refine lv_iload_n hx hb dX8_beatsBy_100 rfl (lv_at hl 2 rfl) ?_
    obtain ⟨hc, hf⟩ := cb_ck_inv hf
    refine cb_iald C hs rfl (vp_in_iff.mpr hc) dX8_beatsBy_101 ?_
    refine lv_aload_n hx hb dX8_beatsBy_102 rfl (lv_at hl 1 rfl) ?_
    refine gf_X8_13 C hs rfl dX8_beatsBy_103 ?_
    refine lv_iload_n hx hb dX8_beatsBy_106 rfl (lv_at hl 3 rfl) ?_
    obtain ⟨hc, hf⟩ := cb_ck_inv hf
    refine cb_iald C hs rfl (vp_in_iff.mpr hc) dX8_beatsBy_107 ?_
    refine lv_icmp_ne (tgt := 129) hx hb dX8_beatsBy_108 (by decide) (fun cn => ?_) (fun cn => ?_)
    · replace hf := cb_ifn cn hf
      exact w_X8_beatsBy_129 C  hf hs (lv_sub hl [1, 2, 3, 4, 5] rfl)
    · replace hf := cb_ifp cn hf
      refine lv_iload hx hb dX8_beatsBy_111 (lv_at hl 6 rfl) ?_
      refine lv_iload hx hb dX8_beatsBy_113 (lv_at hl 0 rfl) ?_
      refine lv_icmp_eq (tgt := 129) hx hb dX8_beatsBy_115 (by decide) (fun cn => ?_) (fun cn => ?_)
      · replace hf := cb_ifp cn hf
        exact w_X8_beatsBy_129 C  hf hs (lv_sub hl [1, 2, 3, 4, 5] rfl)
      · replace hf := cb_ifn cn hf
        refine lv_iload hx hb dX8_beatsBy_118 (lv_at hl 6 rfl) ?_
        refine lv_if_eq (tgt := 127) hx hb dX8_beatsBy_120 (by decide) (fun cn => ?_) (fun cn => ?_)
        · replace hf := cb_ifp cn hf
          refine lv_iconst (v := 1) hx hb dX8_beatsBy_127 (by decide) ?_
          have hf := Option.some.inj hf
          subst hf
          exact cb_reti C hs dX8_beatsBy_128
        · replace hf := cb_ifn cn hf
          refine lv_iconst (v := 0) hx hb dX8_beatsBy_123 (by decide) ?_
          refine lv_goto (tgt := 128) hx hb dX8_beatsBy_124 (by decide) ?_
          have hf := Option.some.inj hf
          subst hf
          exact cb_reti C hs dX8_beatsBy_128
def f_X8_beatsBy_68 (x1 : Int32) (x2 : Int32) (x3 : Int32) (x4 : Int32) (σ : cb_St) (s0 : Int32) : Option (Int32) := cb_ck (0 ≤ Int32.toInt x2 ∧ Int32.toInt x2 < 12) (if (σ.1 1 (Int32.toNatClampNeg x2)) = 11 then (f_X8_beatsBy_86 x1 x2 x3 x4 σ s0 1) else (f_X8_beatsBy_86 x1 x2 x3 x4 σ s0 0))
set_option maxHeartbeats 4000000 in
set_option maxRecDepth 100000 in
theorem w_X8_beatsBy_68 (C : cb_C p s m args meth c cX8_beatsBy 7 (some .int) RX8 D T) {x1 : Int32} {x2 : Int32} {x3 : Int32} {x4 : Int32} {σ : cb_St} {o : Int32}  {s0 : Int32} (hf : f_X8_beatsBy_68 x1 x2 x3 x4 σ s0 = some o) {H : Heap} {locs : List Loc} {ls : Array Slot} (hs : cb_H shM A T D σ s.heap H locs) (hl : lv_has ls 7 [(0, .ref (A 0)), (1, .int x1), (2, .int x2), (3, .int x3), (4, .int x4)]) : cb_W p l e 1 s m args below meth c shM A T D (some (.int o)) σ H locs (F0 m 68 ls [.int s0]) := by
  obtain ⟨hx, hb, hml, hr, hown, hts, hK, hlk, hN⟩ := id C
  unfold f_X8_beatsBy_68 at hf
  refine lv_istore (lv' := [(5, .int s0), (0, .ref (A 0)), (1, .int x1), (2, .int x2), (3, .int x3), (4, .int x4)]) hx hb dX8_beatsBy_68 hl (by decide) rfl (fun ls hl => ?_)
  refine lv_aload_n hx hb dX8_beatsBy_70 rfl (lv_at hl 1 rfl) ?_
  refine gf_X8_7 C hs rfl dX8_beatsBy_71 ?_
  refine lv_iload_n hx hb dX8_beatsBy_74 rfl (lv_at hl 3 rfl) ?_
  obtain ⟨hc, hf⟩ := cb_ck_inv hf
  refine cb_iald C hs rfl (vp_in_iff.mpr hc) dX8_beatsBy_75 ?_
  refine lv_bipush (v := 11) hx hb dX8_beatsBy_76 (by decide) ?_
  refine lv_icmp_ne (tgt := 85) hx hb dX8_beatsBy_78 (by decide) (fun cn => ?_) (fun cn => ?_)
  · replace hf := cb_ifn cn hf
    refine lv_iconst (v := 0) hx hb dX8_beatsBy_85 (by decide) ?_
    exact w_X8_beatsBy_86 C  hf hs (lv_sub hl [1, 2, 3, 4, 5, 0] rfl)
  · replace hf := cb_ifp cn hf
    refine lv_iconst (v := 1) hx hb dX8_beatsBy_81 (by decide) ?_
    refine lv_goto (tgt := 86) hx hb dX8_beatsBy_82 (by decide) ?_
    exact w_X8_beatsBy_86 C  hf hs (lv_sub hl [1, 2, 3, 4, 5, 0] rfl)
def f_X8_beatsBy_32 (x1 : Int32) (x2 : Int32) (x3 : Int32) (x4 : Int32) (σ : cb_St) (x5 : Int32) (s0 : Int32) : Option (Int32) := if x5 = s0 then (cb_ck (0 ≤ Int32.toInt x1 ∧ Int32.toInt x1 < 12) (if (σ.1 1 (Int32.toNatClampNeg x1)) = 11 then (f_X8_beatsBy_68 x1 x2 x3 x4 σ 1) else (f_X8_beatsBy_68 x1 x2 x3 x4 σ 0))) else (if x5 = 0 then (some 1) else (some 0))
set_option maxHeartbeats 4000000 in
set_option maxRecDepth 100000 in
theorem w_X8_beatsBy_32 (C : cb_C p s m args meth c cX8_beatsBy 7 (some .int) RX8 D T) {x1 : Int32} {x2 : Int32} {x3 : Int32} {x4 : Int32} {σ : cb_St} {o : Int32}  {x5 : Int32} {s0 : Int32} (hf : f_X8_beatsBy_32 x1 x2 x3 x4 σ x5 s0 = some o) {H : Heap} {locs : List Loc} {ls : Array Slot} (hs : cb_H shM A T D σ s.heap H locs) (hl : lv_has ls 7 [(0, .ref (A 0)), (1, .int x1), (2, .int x2), (3, .int x3), (4, .int x4), (5, .int x5)]) : cb_W p l e 1 s m args below meth c shM A T D (some (.int o)) σ H locs (F0 m 32 ls [.int s0]) := by
  obtain ⟨hx, hb, hml, hr, hown, hts, hK, hlk, hN⟩ := id C
  unfold f_X8_beatsBy_32 at hf
  refine lv_istore (lv' := [(6, .int s0), (0, .ref (A 0)), (1, .int x1), (2, .int x2), (3, .int x3), (4, .int x4), (5, .int x5)]) hx hb dX8_beatsBy_32 hl (by decide) rfl (fun ls hl => ?_)
  refine lv_iload hx hb dX8_beatsBy_34 (lv_at hl 6 rfl) ?_
  refine lv_iload hx hb dX8_beatsBy_36 (lv_at hl 0 rfl) ?_
  refine lv_icmp_eq (tgt := 52) hx hb dX8_beatsBy_38 (by decide) (fun cn => ?_) (fun cn => ?_)
  · replace hf := cb_ifp cn hf
    refine lv_aload_n hx hb dX8_beatsBy_52 rfl (lv_at hl 1 rfl) ?_
    refine gf_X8_7 C hs rfl dX8_beatsBy_53 ?_
    refine lv_iload_n hx hb dX8_beatsBy_56 rfl (lv_at hl 2 rfl) ?_
    obtain ⟨hc, hf⟩ := cb_ck_inv hf
    refine cb_iald C hs rfl (vp_in_iff.mpr hc) dX8_beatsBy_57 ?_
    refine lv_bipush (v := 11) hx hb dX8_beatsBy_58 (by decide) ?_
    refine lv_icmp_ne (tgt := 67) hx hb dX8_beatsBy_60 (by decide) (fun cn => ?_) (fun cn => ?_)
    · replace hf := cb_ifn cn hf
      refine lv_iconst (v := 0) hx hb dX8_beatsBy_67 (by decide) ?_
      exact w_X8_beatsBy_68 C  hf hs (lv_sub hl [1, 2, 3, 4, 5] rfl)
    · replace hf := cb_ifp cn hf
      refine lv_iconst (v := 1) hx hb dX8_beatsBy_63 (by decide) ?_
      refine lv_goto (tgt := 68) hx hb dX8_beatsBy_64 (by decide) ?_
      exact w_X8_beatsBy_68 C  hf hs (lv_sub hl [1, 2, 3, 4, 5] rfl)
  · replace hf := cb_ifn cn hf
    refine lv_iload hx hb dX8_beatsBy_41 (lv_at hl 6 rfl) ?_
    refine lv_if_eq (tgt := 50) hx hb dX8_beatsBy_43 (by decide) (fun cn => ?_) (fun cn => ?_)
    · replace hf := cb_ifp cn hf
      refine lv_iconst (v := 1) hx hb dX8_beatsBy_50 (by decide) ?_
      have hf := Option.some.inj hf
      subst hf
      exact cb_reti C hs dX8_beatsBy_51
    · replace hf := cb_ifn cn hf
      refine lv_iconst (v := 0) hx hb dX8_beatsBy_46 (by decide) ?_
      refine lv_goto (tgt := 51) hx hb dX8_beatsBy_47 (by decide) ?_
      have hf := Option.some.inj hf
      subst hf
      exact cb_reti C hs dX8_beatsBy_51
def f_X8_beatsBy_15 (x1 : Int32) (x2 : Int32) (x3 : Int32) (x4 : Int32) (σ : cb_St) (s0 : Int32) : Option (Int32) := cb_ck (0 ≤ Int32.toInt x2 ∧ Int32.toInt x2 < 12) (if (σ.1 2 (Int32.toNatClampNeg x2)) = x3 then (f_X8_beatsBy_32 x1 x2 x3 x4 σ s0 1) else (f_X8_beatsBy_32 x1 x2 x3 x4 σ s0 0))
set_option maxHeartbeats 4000000 in
set_option maxRecDepth 100000 in
theorem w_X8_beatsBy_15 (C : cb_C p s m args meth c cX8_beatsBy 7 (some .int) RX8 D T) {x1 : Int32} {x2 : Int32} {x3 : Int32} {x4 : Int32} {σ : cb_St} {o : Int32}  {s0 : Int32} (hf : f_X8_beatsBy_15 x1 x2 x3 x4 σ s0 = some o) {H : Heap} {locs : List Loc} {ls : Array Slot} (hs : cb_H shM A T D σ s.heap H locs) (hl : lv_has ls 7 [(0, .ref (A 0)), (1, .int x1), (2, .int x2), (3, .int x3), (4, .int x4)]) : cb_W p l e 1 s m args below meth c shM A T D (some (.int o)) σ H locs (F0 m 15 ls [.int s0]) := by
  obtain ⟨hx, hb, hml, hr, hown, hts, hK, hlk, hN⟩ := id C
  unfold f_X8_beatsBy_15 at hf
  refine lv_istore (lv' := [(5, .int s0), (0, .ref (A 0)), (1, .int x1), (2, .int x2), (3, .int x3), (4, .int x4)]) hx hb dX8_beatsBy_15 hl (by decide) rfl (fun ls hl => ?_)
  refine lv_aload_n hx hb dX8_beatsBy_17 rfl (lv_at hl 1 rfl) ?_
  refine gf_X8_13 C hs rfl dX8_beatsBy_18 ?_
  refine lv_iload_n hx hb dX8_beatsBy_21 rfl (lv_at hl 3 rfl) ?_
  obtain ⟨hc, hf⟩ := cb_ck_inv hf
  refine cb_iald C hs rfl (vp_in_iff.mpr hc) dX8_beatsBy_22 ?_
  refine lv_iload_n hx hb dX8_beatsBy_23 rfl (lv_at hl 4 rfl) ?_
  refine lv_icmp_ne (tgt := 31) hx hb dX8_beatsBy_24 (by decide) (fun cn => ?_) (fun cn => ?_)
  · replace hf := cb_ifn cn hf
    refine lv_iconst (v := 0) hx hb dX8_beatsBy_31 (by decide) ?_
    exact w_X8_beatsBy_32 C  hf hs (lv_sub hl [1, 2, 3, 4, 5, 0] rfl)
  · replace hf := cb_ifp cn hf
    refine lv_iconst (v := 1) hx hb dX8_beatsBy_27 (by decide) ?_
    refine lv_goto (tgt := 32) hx hb dX8_beatsBy_28 (by decide) ?_
    exact w_X8_beatsBy_32 C  hf hs (lv_sub hl [1, 2, 3, 4, 5, 0] rfl)
def f_X8_beatsBy (x1 : Int32) (x2 : Int32) (x3 : Int32) (x4 : Int32) (σ : cb_St)  : Option (Int32) := cb_ck (0 ≤ Int32.toInt x1 ∧ Int32.toInt x1 < 12) (if (σ.1 2 (Int32.toNatClampNeg x1)) = x3 then (f_X8_beatsBy_15 x1 x2 x3 x4 σ 1) else (f_X8_beatsBy_15 x1 x2 x3 x4 σ 0))
set_option maxHeartbeats 4000000 in
set_option maxRecDepth 100000 in
theorem c_X8_beatsBy {x1 : Int32} {x2 : Int32} {x3 : Int32} {x4 : Int32} {σ : cb_St}   {o : Int32} (hf : f_X8_beatsBy x1 x2 x3 x4 σ = some o) : cb_M l yX8_beatsBy cX8_beatsBy 7 (some .int) 1 shM A T D σ [.ref (A 0), .int x1, .int x2, .int x3, .int x4] (some (.int o)) σ := by
  refine cb_met (by decide +kernel) (Nat.le_of_ble_eq_true rfl) ?_
  intro p e s m below meth c C hs ls hl
  have hl : lv_has ls 7 [(0, .ref (A 0)), (1, .int x1), (2, .int x2), (3, .int x3), (4, .int x4)] := hl
  obtain ⟨hx, hb, hml, hr, hown, hts, hK, hlk, hN⟩ := id C
  unfold f_X8_beatsBy at hf
  refine lv_aload_n hx hb dX8_beatsBy_0 rfl (lv_at hl 0 rfl) ?_
  refine gf_X8_13 C hs rfl dX8_beatsBy_1 ?_
  refine lv_iload_n hx hb dX8_beatsBy_4 rfl (lv_at hl 1 rfl) ?_
  obtain ⟨hc, hf⟩ := cb_ck_inv hf
  refine cb_iald C hs rfl (vp_in_iff.mpr hc) dX8_beatsBy_5 ?_
  refine lv_iload_n hx hb dX8_beatsBy_6 rfl (lv_at hl 3 rfl) ?_
  refine lv_icmp_ne (tgt := 14) hx hb dX8_beatsBy_7 (by decide) (fun cn => ?_) (fun cn => ?_)
  · replace hf := cb_ifn cn hf
    refine lv_iconst (v := 0) hx hb dX8_beatsBy_14 (by decide) ?_
    exact w_X8_beatsBy_15 C  hf hs (lv_sub hl [0, 1, 2, 3, 4] rfl)
  · replace hf := cb_ifp cn hf
    refine lv_iconst (v := 1) hx hb dX8_beatsBy_10 (by decide) ?_
    refine lv_goto (tgt := 15) hx hb dX8_beatsBy_11 (by decide) ?_
    exact w_X8_beatsBy_15 C  hf hs (lv_sub hl [0, 1, 2, 3, 4] rfl)
/-! ===== CardBecomeModel.cardsMeet ===== -/
def f_X8_cardsMeet (x1 : Int32) (x2 : Int32) (σ : cb_St)  : Option (Int32) := cb_bp (f_X8_beatsBy x1 x2 (σ.1 0 1) (σ.1 0 2) σ) (fun r_1 => some r_1)
set_option maxHeartbeats 4000000 in
set_option maxRecDepth 100000 in
theorem c_X8_cardsMeet {x1 : Int32} {x2 : Int32} {σ : cb_St}   {o : Int32} (hf : f_X8_cardsMeet x1 x2 σ = some o) : cb_M l yX8_cardsMeet cX8_cardsMeet 3 (some .int) 2 shM A T D σ [.ref (A 0), .int x1, .int x2] (some (.int o)) σ := by
  refine cb_met (by decide +kernel) (Nat.le_of_ble_eq_true rfl) ?_
  intro p e s m below meth c C hs ls hl
  have hl : lv_has ls 3 [(0, .ref (A 0)), (1, .int x1), (2, .int x2)] := hl
  obtain ⟨hx, hb, hml, hr, hown, hts, hK, hlk, hN⟩ := id C
  unfold f_X8_cardsMeet at hf
  refine lv_aload_n hx hb dX8_cardsMeet_0 rfl (lv_at hl 0 rfl) ?_
  refine lv_iload_n hx hb dX8_cardsMeet_1 rfl (lv_at hl 1 rfl) ?_
  refine lv_iload_n hx hb dX8_cardsMeet_2 rfl (lv_at hl 2 rfl) ?_
  refine lv_aload_n hx hb dX8_cardsMeet_3 rfl (lv_at hl 0 rfl) ?_
  refine gf_X8_146 C hs rfl dX8_cardsMeet_4 ?_
  refine lv_aload_n hx hb dX8_cardsMeet_7 rfl (lv_at hl 0 rfl) ?_
  refine gf_X8_149 C hs rfl dX8_cardsMeet_8 ?_
  obtain ⟨r_1, hc, hf⟩ := cb_bp_inv hf
  refine cb_callVi C (c_X8_beatsBy  hc) mw_X8_beatsBy ml_X8_170 rfl ⟨Nat.le_of_ble_eq_true rfl, Nat.le_of_ble_eq_true rfl⟩ rfl (Nat.le_of_ble_eq_true rfl) rfl hs hl rfl (Nat.le_of_ble_eq_true rfl) dX8_cardsMeet_11 (fun H locs hs => ?_)
  clear hc
  have hf := Option.some.inj hf
  subst hf
  exact cb_reti C hs dX8_cardsMeet_14
/-! ===== CardBecomeModel.meetBy ===== -/
def f_X8_meetBy_8 (x1 : Int32) (x2 : Int32) (σ : cb_St)  : Option (Int32) := if x1 < 0 then (if x2 < 0 then (some 2) else (some 1)) else (some 0)
set_option maxHeartbeats 4000000 in
set_option maxRecDepth 100000 in
theorem w_X8_meetBy_8 (C : cb_C p s m args meth c cX8_meetBy 3 (some .int) RX8 D T) {x1 : Int32} {x2 : Int32} {σ : cb_St} {o : Int32}   (hf : f_X8_meetBy_8 x1 x2 σ = some o) {H : Heap} {locs : List Loc} {ls : Array Slot} (hs : cb_H shM A T D σ s.heap H locs) (hl : lv_has ls 3 [(0, .ref (A 0)), (1, .int x1), (2, .int x2)]) : cb_W p l e 3 s m args below meth c shM A T D (some (.int o)) σ H locs (F0 m 8 ls []) := by
  obtain ⟨hx, hb, hml, hr, hown, hts, hK, hlk, hN⟩ := id C
  unfold f_X8_meetBy_8 at hf
  refine lv_iload_n hx hb dX8_meetBy_8 rfl (lv_at hl 1 rfl) ?_
  refine lv_if_lt (tgt := 16) hx hb dX8_meetBy_9 (by decide) (fun cn => ?_) (fun cn => ?_)
  · replace hf := cb_ifp cn hf
    refine lv_iload_n hx hb dX8_meetBy_16 rfl (lv_at hl 2 rfl) ?_
    refine lv_if_lt (tgt := 24) hx hb dX8_meetBy_17 (by decide) (fun cn => ?_) (fun cn => ?_)
    · replace hf := cb_ifp cn hf
      refine lv_iconst (v := 2) hx hb dX8_meetBy_24 (by decide) ?_
      have hf := Option.some.inj hf
      subst hf
      exact cb_reti C hs dX8_meetBy_25
    · replace hf := cb_ifn cn hf
      refine lv_iconst (v := 1) hx hb dX8_meetBy_20 (by decide) ?_
      refine lv_goto (tgt := 25) hx hb dX8_meetBy_21 (by decide) ?_
      have hf := Option.some.inj hf
      subst hf
      exact cb_reti C hs dX8_meetBy_25
  · replace hf := cb_ifn cn hf
    refine lv_iconst (v := 0) hx hb dX8_meetBy_12 (by decide) ?_
    refine lv_goto (tgt := 25) hx hb dX8_meetBy_13 (by decide) ?_
    have hf := Option.some.inj hf
    subst hf
    exact cb_reti C hs dX8_meetBy_25
def f_X8_meetBy (x1 : Int32) (x2 : Int32) (σ : cb_St)  : Option (Int32) := if x1 < 0 then (f_X8_meetBy_8 x1 x2 σ) else (if 0 ≤ x2 then (cb_bp (f_X8_cardsMeet x1 x2 σ) (fun r_1 => some r_1)) else (f_X8_meetBy_8 x1 x2 σ))
set_option maxHeartbeats 4000000 in
set_option maxRecDepth 100000 in
theorem c_X8_meetBy {x1 : Int32} {x2 : Int32} {σ : cb_St}   {o : Int32} (hf : f_X8_meetBy x1 x2 σ = some o) : cb_M l yX8_meetBy cX8_meetBy 3 (some .int) 3 shM A T D σ [.ref (A 0), .int x1, .int x2] (some (.int o)) σ := by
  refine cb_met (by decide +kernel) (Nat.le_of_ble_eq_true rfl) ?_
  intro p e s m below meth c C hs ls hl
  have hl : lv_has ls 3 [(0, .ref (A 0)), (1, .int x1), (2, .int x2)] := hl
  obtain ⟨hx, hb, hml, hr, hown, hts, hK, hlk, hN⟩ := id C
  unfold f_X8_meetBy at hf
  refine lv_iload_n hx hb dX8_meetBy_0 rfl (lv_at hl 1 rfl) ?_
  refine lv_if_lt (tgt := 8) hx hb dX8_meetBy_1 (by decide) (fun cn => ?_) (fun cn => ?_)
  · replace hf := cb_ifp cn hf
    exact w_X8_meetBy_8 C  hf hs (lv_sub hl [0, 1, 2] rfl)
  · replace hf := cb_ifn cn hf
    refine lv_iload_n hx hb dX8_meetBy_4 rfl (lv_at hl 2 rfl) ?_
    refine lv_if_ge (tgt := 26) hx hb dX8_meetBy_5 (by decide) (fun cn => ?_) (fun cn => ?_)
    · replace hf := cb_ifp cn hf
      refine lv_aload_n hx hb dX8_meetBy_26 rfl (lv_at hl 0 rfl) ?_
      refine lv_iload_n hx hb dX8_meetBy_27 rfl (lv_at hl 1 rfl) ?_
      refine lv_iload_n hx hb dX8_meetBy_28 rfl (lv_at hl 2 rfl) ?_
      obtain ⟨r_1, hc, hf⟩ := cb_bp_inv hf
      refine cb_callVi C (c_X8_cardsMeet  hc) mw_X8_cardsMeet ml_X8_174 rfl ⟨Nat.le_of_ble_eq_true rfl, Nat.le_of_ble_eq_true rfl⟩ rfl (Nat.le_of_ble_eq_true rfl) rfl hs hl rfl (Nat.le_of_ble_eq_true rfl) dX8_meetBy_29 (fun H locs hs => ?_)
      clear hc
      have hf := Option.some.inj hf
      subst hf
      exact cb_reti C hs dX8_meetBy_32
    · replace hf := cb_ifn cn hf
      exact w_X8_meetBy_8 C  hf hs (lv_sub hl [0, 1, 2] rfl)
/-! ===== CardBecomeModel.allBeat ===== -/
def f_X8_allBeat_77 (K4 : Int32 → Int32 → Option (Int32)) (x1 : Int32) (σ : cb_St) (x2 : Int32) (x3 : Int32) : Option (Int32) := cb_let (x3 + 1) (fun x3_0 => K4 x2 x3_0)
set_option maxHeartbeats 4000000 in
set_option maxRecDepth 100000 in
theorem w_X8_allBeat_77 (C : cb_C p s m args meth c cX8_allBeat 5 (some .boolean) RX8 D T) {K4 : Int32 → Int32 → Option (Int32)} {x1 : Int32} {σ : cb_St} {o : Int32} (hK4 : ∀ (x2 : Int32) (x3 : Int32), K4 x2 x3 = some o → ∀ (H : Heap) (locs : List Loc) (ls : Array Slot), cb_H shM A T D σ s.heap H locs → lv_has ls 5 [(0, .ref (A 0)), (1, .int x1), (2, .int x2), (3, .int x3)] → cb_W p l e 4 s m args below meth c shM A T D (some (.int o)) σ H locs (F0 m 4 ls [])) {x2 : Int32} {x3 : Int32} (hf : f_X8_allBeat_77 K4 x1 σ x2 x3 = some o) {H : Heap} {locs : List Loc} {ls : Array Slot} (hs : cb_H shM A T D σ s.heap H locs) (hl : lv_has ls 5 [(0, .ref (A 0)), (1, .int x1), (2, .int x2), (3, .int x3)]) : cb_W p l e 4 s m args below meth c shM A T D (some (.int o)) σ H locs (F0 m 77 ls []) := by
  obtain ⟨hx, hb, hml, hr, hown, hts, hK, hlk, hN⟩ := id C
  unfold f_X8_allBeat_77 at hf
  obtain ⟨x3_0, e9, hf⟩ := cb_let_inv hf
  refine lv_iinc (v := x3_0) (lv' := [(3, .int x3_0), (0, .ref (A 0)), (1, .int x1), (2, .int x2)]) hx hb dX8_allBeat_77 hl (k := 3) rfl (by rw [e9]; rfl) (by decide) rfl (fun ls hl => ?_)
  clear e9
  refine lv_goto (tgt := 4) hx hb dX8_allBeat_80 (by decide) ?_
  exact hK4 _ _ hf _ _ _ hs (lv_sub hl [1, 2, 3, 0] rfl)
def f_X8_allBeat_70 (K4 : Int32 → Int32 → Option (Int32)) (K15 : Int32 → Int32 → Int32 → Option (Int32)) (x1 : Int32) (σ : cb_St) (x3 : Int32) (x4 : Int32) (s0 : Int32) : Option (Int32) := cb_let (x4 + 1) (fun x4_0 => K15 s0 x3 x4_0)
set_option maxHeartbeats 4000000 in
set_option maxRecDepth 100000 in
theorem w_X8_allBeat_70 (C : cb_C p s m args meth c cX8_allBeat 5 (some .boolean) RX8 D T) {K4 : Int32 → Int32 → Option (Int32)} {K15 : Int32 → Int32 → Int32 → Option (Int32)} {x1 : Int32} {σ : cb_St} {o : Int32} (hK4 : ∀ (x2 : Int32) (x3 : Int32), K4 x2 x3 = some o → ∀ (H : Heap) (locs : List Loc) (ls : Array Slot), cb_H shM A T D σ s.heap H locs → lv_has ls 5 [(0, .ref (A 0)), (1, .int x1), (2, .int x2), (3, .int x3)] → cb_W p l e 4 s m args below meth c shM A T D (some (.int o)) σ H locs (F0 m 4 ls [])) (hK15 : ∀ (x2 : Int32) (x3 : Int32) (x4 : Int32), K15 x2 x3 x4 = some o → ∀ (H : Heap) (locs : List Loc) (ls : Array Slot), cb_H shM A T D σ s.heap H locs → lv_has ls 5 [(0, .ref (A 0)), (1, .int x1), (2, .int x2), (3, .int x3), (4, .int x4)] → cb_W p l e 4 s m args below meth c shM A T D (some (.int o)) σ H locs (F0 m 15 ls [])) {x3 : Int32} {x4 : Int32} {s0 : Int32} (hf : f_X8_allBeat_70 K4 K15 x1 σ x3 x4 s0 = some o) {H : Heap} {locs : List Loc} {ls : Array Slot} (hs : cb_H shM A T D σ s.heap H locs) (hl : lv_has ls 5 [(0, .ref (A 0)), (1, .int x1), (3, .int x3), (4, .int x4)]) : cb_W p l e 4 s m args below meth c shM A T D (some (.int o)) σ H locs (F0 m 70 ls [.int s0]) := by
  obtain ⟨hx, hb, hml, hr, hown, hts, hK, hlk, hN⟩ := id C
  unfold f_X8_allBeat_70 at hf
  refine lv_istore_n (lv' := [(2, .int s0), (0, .ref (A 0)), (1, .int x1), (3, .int x3), (4, .int x4)]) hx hb dX8_allBeat_70 rfl hl (by decide) rfl (fun ls hl => ?_)
  obtain ⟨x4_0, e9, hf⟩ := cb_let_inv hf
  refine lv_iinc (v := x4_0) (lv' := [(4, .int x4_0), (2, .int s0), (0, .ref (A 0)), (1, .int x1), (3, .int x3)]) hx hb dX8_allBeat_71 hl (k := 4) rfl (by rw [e9]; rfl) (by decide) rfl (fun ls hl => ?_)
  clear e9
  refine lv_goto (tgt := 15) hx hb dX8_allBeat_74 (by decide) ?_
  exact hK15 _ _ _ hf _ _ _ hs (lv_sub hl [2, 3, 1, 4, 0] rfl)
def f_X8_allBeat_65 (K4 : Int32 → Int32 → Option (Int32)) (K15 : Int32 → Int32 → Int32 → Option (Int32)) (x1 : Int32) (σ : cb_St) (x3 : Int32) (x4 : Int32) : Option (Int32) := f_X8_allBeat_70 K4 K15 x1 σ x3 x4 1
set_option maxHeartbeats 4000000 in
set_option maxRecDepth 100000 in
theorem w_X8_allBeat_65 (C : cb_C p s m args meth c cX8_allBeat 5 (some .boolean) RX8 D T) {K4 : Int32 → Int32 → Option (Int32)} {K15 : Int32 → Int32 → Int32 → Option (Int32)} {x1 : Int32} {σ : cb_St} {o : Int32} (hK4 : ∀ (x2 : Int32) (x3 : Int32), K4 x2 x3 = some o → ∀ (H : Heap) (locs : List Loc) (ls : Array Slot), cb_H shM A T D σ s.heap H locs → lv_has ls 5 [(0, .ref (A 0)), (1, .int x1), (2, .int x2), (3, .int x3)] → cb_W p l e 4 s m args below meth c shM A T D (some (.int o)) σ H locs (F0 m 4 ls [])) (hK15 : ∀ (x2 : Int32) (x3 : Int32) (x4 : Int32), K15 x2 x3 x4 = some o → ∀ (H : Heap) (locs : List Loc) (ls : Array Slot), cb_H shM A T D σ s.heap H locs → lv_has ls 5 [(0, .ref (A 0)), (1, .int x1), (2, .int x2), (3, .int x3), (4, .int x4)] → cb_W p l e 4 s m args below meth c shM A T D (some (.int o)) σ H locs (F0 m 15 ls [])) {x3 : Int32} {x4 : Int32} (hf : f_X8_allBeat_65 K4 K15 x1 σ x3 x4 = some o) {H : Heap} {locs : List Loc} {ls : Array Slot} (hs : cb_H shM A T D σ s.heap H locs) (hl : lv_has ls 5 [(0, .ref (A 0)), (1, .int x1), (3, .int x3), (4, .int x4)]) : cb_W p l e 4 s m args below meth c shM A T D (some (.int o)) σ H locs (F0 m 65 ls []) := by
  obtain ⟨hx, hb, hml, hr, hown, hts, hK, hlk, hN⟩ := id C
  unfold f_X8_allBeat_65 at hf
  refine lv_iconst (v := 1) hx hb dX8_allBeat_65 (by decide) ?_
  refine lv_goto (tgt := 70) hx hb dX8_allBeat_66 (by decide) ?_
  exact w_X8_allBeat_70 C hK4 hK15 hf hs (lv_sub hl [0, 1, 2, 3] rfl)
def f_X8_allBeat_15 (K4 : Int32 → Int32 → Option (Int32)) (x1 : Int32) (σ : cb_St) : Nat → Int32 → Int32 → Int32 → Option (Int32)
  | 0, _, _, _ => none
  | fu + 1, x2, x3, x4 => if (σ.1 0 7) ≤ x4 then (f_X8_allBeat_77 K4 x1 σ x2 x3) else (if x2 = 0 then (f_X8_allBeat_77 K4 x1 σ x2 x3) else (cb_bp (f_X8_has x1 x3 σ) (fun r_1 => if r_1 = 0 then (f_X8_allBeat_65 K4 (f_X8_allBeat_15 K4 x1 σ fu) x1 σ x3 x4) else (cb_bp (f_X8_has x1 x4 σ) (fun r_2 => if r_2 = 0 then (cb_ck (0 ≤ Int32.toInt x3 ∧ Int32.toInt x3 < 6) (cb_ck (0 ≤ Int32.toInt x4 ∧ Int32.toInt x4 < 6) (cb_bp (f_X8_meetBy (σ.1 10 (Int32.toNatClampNeg x3)) (σ.1 10 (Int32.toNatClampNeg x4)) σ) (fun r_3 => if r_3 = 0 then (f_X8_allBeat_65 K4 (f_X8_allBeat_15 K4 x1 σ fu) x1 σ x3 x4) else (f_X8_allBeat_70 K4 (f_X8_allBeat_15 K4 x1 σ fu) x1 σ x3 x4 0))))) else (f_X8_allBeat_65 K4 (f_X8_allBeat_15 K4 x1 σ fu) x1 σ x3 x4))))))
set_option maxHeartbeats 4000000 in
set_option maxRecDepth 100000 in
theorem w_X8_allBeat_15 (C : cb_C p s m args meth c cX8_allBeat 5 (some .boolean) RX8 D T) {K4 : Int32 → Int32 → Option (Int32)} {x1 : Int32} {σ : cb_St} {o : Int32} (hK4 : ∀ (x2 : Int32) (x3 : Int32), K4 x2 x3 = some o → ∀ (H : Heap) (locs : List Loc) (ls : Array Slot), cb_H shM A T D σ s.heap H locs → lv_has ls 5 [(0, .ref (A 0)), (1, .int x1), (2, .int x2), (3, .int x3)] → cb_W p l e 4 s m args below meth c shM A T D (some (.int o)) σ H locs (F0 m 4 ls [])) : ∀ (fu : Nat) (x2 : Int32) (x3 : Int32) (x4 : Int32), f_X8_allBeat_15 K4 x1 σ fu x2 x3 x4 = some o → ∀ (H : Heap) (locs : List Loc) (ls : Array Slot), cb_H shM A T D σ s.heap H locs → lv_has ls 5 [(0, .ref (A 0)), (1, .int x1), (2, .int x2), (3, .int x3), (4, .int x4)] → cb_W p l e 4 s m args below meth c shM A T D (some (.int o)) σ H locs (F0 m 15 ls []) := by
  obtain ⟨hx, hb, hml, hr, hown, hts, hK, hlk, hN⟩ := id C
  intro fu
  induction fu with
  | zero =>
    intro x2 x3 x4 hf
    rw [f_X8_allBeat_15] at hf
    cases hf
  | succ fu ih =>
    intro x2 x3 x4 hf H locs ls hs hl
    rw [f_X8_allBeat_15] at hf
    refine lv_iload hx hb dX8_allBeat_15 (lv_at hl 4 rfl) ?_
    refine lv_aload_n hx hb dX8_allBeat_17 rfl (lv_at hl 0 rfl) ?_
    refine gf_X8_75 C hs rfl dX8_allBeat_18 ?_
    refine lv_icmp_ge (tgt := 77) hx hb dX8_allBeat_21 (by decide) (fun cn => ?_) (fun cn => ?_)
    · replace hf := cb_ifp cn hf
      exact w_X8_allBeat_77 C hK4 hf hs (lv_sub hl [0, 1, 2, 3] rfl)
    · replace hf := cb_ifn cn hf
      refine lv_iload_n hx hb dX8_allBeat_24 rfl (lv_at hl 2 rfl) ?_
      refine lv_if_eq (tgt := 77) hx hb dX8_allBeat_25 (by decide) (fun cn => ?_) (fun cn => ?_)
      · replace hf := cb_ifp cn hf
        exact w_X8_allBeat_77 C hK4 hf hs (lv_sub hl [0, 1, 2, 3] rfl)
      · replace hf := cb_ifn cn hf
        refine lv_iload_n hx hb dX8_allBeat_28 rfl (lv_at hl 1 rfl) ?_
        refine lv_iload_n hx hb dX8_allBeat_29 rfl (lv_at hl 3 rfl) ?_
        obtain ⟨r_1, hc, hf⟩ := cb_bp_inv hf
        refine cb_callSi C (c_X8_has  hc) mw_X8_has ml_X8_256 rfl ⟨Nat.le_of_ble_eq_true rfl, Nat.le_of_ble_eq_true rfl⟩ hs hl rfl (Nat.le_of_ble_eq_true rfl) dX8_allBeat_30 (fun H locs hs => ?_)
        clear hc
        refine lv_if_eq (tgt := 65) hx hb dX8_allBeat_33 (by decide) (fun cn => ?_) (fun cn => ?_)
        · replace hf := cb_ifp cn hf
          exact w_X8_allBeat_65 C hK4 ih hf hs (lv_sub hl [0, 1, 3, 4] rfl)
        · replace hf := cb_ifn cn hf
          refine lv_iload_n hx hb dX8_allBeat_36 rfl (lv_at hl 1 rfl) ?_
          refine lv_iload hx hb dX8_allBeat_37 (lv_at hl 4 rfl) ?_
          obtain ⟨r_2, hc, hf⟩ := cb_bp_inv hf
          refine cb_callSi C (c_X8_has  hc) mw_X8_has ml_X8_256 rfl ⟨Nat.le_of_ble_eq_true rfl, Nat.le_of_ble_eq_true rfl⟩ hs hl rfl (Nat.le_of_ble_eq_true rfl) dX8_allBeat_39 (fun H locs hs => ?_)
          clear hc
          refine lv_if_ne (tgt := 65) hx hb dX8_allBeat_42 (by decide) (fun cn => ?_) (fun cn => ?_)
          · replace hf := cb_ifn cn hf
            exact w_X8_allBeat_65 C hK4 ih hf hs (lv_sub hl [0, 1, 3, 4] rfl)
          · replace hf := cb_ifp cn hf
            refine lv_aload_n hx hb dX8_allBeat_45 rfl (lv_at hl 0 rfl) ?_
            refine lv_aload_n hx hb dX8_allBeat_46 rfl (lv_at hl 0 rfl) ?_
            refine gf_X8_41 C hs rfl dX8_allBeat_47 ?_
            refine lv_iload_n hx hb dX8_allBeat_50 rfl (lv_at hl 3 rfl) ?_
            obtain ⟨hc, hf⟩ := cb_ck_inv hf
            refine cb_iald C hs rfl (vp_in_iff.mpr hc) dX8_allBeat_51 ?_
            refine lv_aload_n hx hb dX8_allBeat_52 rfl (lv_at hl 0 rfl) ?_
            refine gf_X8_41 C hs rfl dX8_allBeat_53 ?_
            refine lv_iload hx hb dX8_allBeat_56 (lv_at hl 4 rfl) ?_
            obtain ⟨hc, hf⟩ := cb_ck_inv hf
            refine cb_iald C hs rfl (vp_in_iff.mpr hc) dX8_allBeat_58 ?_
            obtain ⟨r_3, hc, hf⟩ := cb_bp_inv hf
            refine cb_callVi C (c_X8_meetBy  hc) mw_X8_meetBy ml_X8_177 rfl ⟨Nat.le_of_ble_eq_true rfl, Nat.le_of_ble_eq_true rfl⟩ rfl (Nat.le_of_ble_eq_true rfl) rfl hs hl rfl (Nat.le_of_ble_eq_true rfl) dX8_allBeat_59 (fun H locs hs => ?_)
            clear hc
            refine lv_if_ne (tgt := 69) hx hb dX8_allBeat_62 (by decide) (fun cn => ?_) (fun cn => ?_)
            · replace hf := cb_ifn cn hf
              refine lv_iconst (v := 0) hx hb dX8_allBeat_69 (by decide) ?_
              exact w_X8_allBeat_70 C hK4 ih hf hs (lv_sub hl [0, 1, 3, 4] rfl)
            · replace hf := cb_ifp cn hf
              exact w_X8_allBeat_65 C hK4 ih hf hs (lv_sub hl [0, 1, 3, 4] rfl)
def f_X8_allBeat_4 (x1 : Int32) (σ : cb_St) : Nat → Int32 → Int32 → Option (Int32)
  | 0, _, _ => none
  | fu + 1, x2, x3 => if (σ.1 0 7) ≤ x3 then (cb_ck (x2 = 0 ∨ x2 = 1) (some x2)) else (f_X8_allBeat_15 (f_X8_allBeat_4 x1 σ fu) x1 σ cb_fu x2 x3 0)
set_option maxHeartbeats 4000000 in
set_option maxRecDepth 100000 in
theorem w_X8_allBeat_4 (C : cb_C p s m args meth c cX8_allBeat 5 (some .boolean) RX8 D T) {x1 : Int32} {σ : cb_St} {o : Int32}  : ∀ (fu : Nat) (x2 : Int32) (x3 : Int32), f_X8_allBeat_4 x1 σ fu x2 x3 = some o → ∀ (H : Heap) (locs : List Loc) (ls : Array Slot), cb_H shM A T D σ s.heap H locs → lv_has ls 5 [(0, .ref (A 0)), (1, .int x1), (2, .int x2), (3, .int x3)] → cb_W p l e 4 s m args below meth c shM A T D (some (.int o)) σ H locs (F0 m 4 ls []) := by
  obtain ⟨hx, hb, hml, hr, hown, hts, hK, hlk, hN⟩ := id C
  intro fu
  induction fu with
  | zero =>
    intro x2 x3 hf
    rw [f_X8_allBeat_4] at hf
    cases hf
  | succ fu ih =>
    intro x2 x3 hf H locs ls hs hl
    rw [f_X8_allBeat_4] at hf
    refine lv_iload_n hx hb dX8_allBeat_4 rfl (lv_at hl 3 rfl) ?_
    refine lv_aload_n hx hb dX8_allBeat_5 rfl (lv_at hl 0 rfl) ?_
    refine gf_X8_75 C hs rfl dX8_allBeat_6 ?_
    refine lv_icmp_ge (tgt := 83) hx hb dX8_allBeat_9 (by decide) (fun cn => ?_) (fun cn => ?_)
    · replace hf := cb_ifp cn hf
      refine lv_iload_n hx hb dX8_allBeat_83 rfl (lv_at hl 2 rfl) ?_
      obtain ⟨hc, hf⟩ := cb_ck_inv hf
      have hf := Option.some.inj hf
      subst hf
      exact cb_retz C hs hc dX8_allBeat_84
    · replace hf := cb_ifn cn hf
      refine lv_iconst (v := 0) hx hb dX8_allBeat_12 (by decide) ?_
      refine lv_istore (lv' := [(4, .int 0), (0, .ref (A 0)), (1, .int x1), (2, .int x2), (3, .int x3)]) hx hb dX8_allBeat_13 hl (by decide) rfl (fun ls hl => ?_)
      exact w_X8_allBeat_15 C ih cb_fu _ _ _ hf _ _ _ hs (lv_sub hl [1, 2, 3, 4, 0] rfl)
def f_X8_allBeat (x1 : Int32) (σ : cb_St)  : Option (Int32) := f_X8_allBeat_4 x1 σ cb_fu 1 0
set_option maxHeartbeats 4000000 in
set_option maxRecDepth 100000 in
theorem c_X8_allBeat {x1 : Int32} {σ : cb_St}   {o : Int32} (hf : f_X8_allBeat x1 σ = some o) : cb_M l yX8_allBeat cX8_allBeat 5 (some .boolean) 4 shM A T D σ [.ref (A 0), .int x1] (some (.int o)) σ := by
  refine cb_met (by decide +kernel) (Nat.le_of_ble_eq_true rfl) ?_
  intro p e s m below meth c C hs ls hl
  have hl : lv_has ls 5 [(0, .ref (A 0)), (1, .int x1)] := hl
  obtain ⟨hx, hb, hml, hr, hown, hts, hK, hlk, hN⟩ := id C
  unfold f_X8_allBeat at hf
  refine lv_iconst (v := 1) hx hb dX8_allBeat_0 (by decide) ?_
  refine lv_istore_n (lv' := [(2, .int 1), (0, .ref (A 0)), (1, .int x1)]) hx hb dX8_allBeat_1 rfl hl (by decide) rfl (fun ls hl => ?_)
  refine lv_iconst (v := 0) hx hb dX8_allBeat_2 (by decide) ?_
  refine lv_istore_n (lv' := [(3, .int 0), (2, .int 1), (0, .ref (A 0)), (1, .int x1)]) hx hb dX8_allBeat_3 rfl hl (by decide) rfl (fun ls hl => ?_)
  exact w_X8_allBeat_4 C  cb_fu _ _ hf _ _ _ hs (lv_sub hl [2, 3, 1, 0] rfl)
/-! ===== CardBecomeModel.in ===== -/
def f_X8_in_17 (x0 : Int64) (x2 : Int64) (x4 : Int64) (σ : cb_St)  : Option (Int32) := some 0
set_option maxHeartbeats 4000000 in
set_option maxRecDepth 100000 in
theorem w_X8_in_17 (C : cb_C p s m args meth c cX8_in 6 (some .boolean) RX8 D T) {x0 : Int64} {x2 : Int64} {x4 : Int64} {σ : cb_St} {o : Int32}   (hf : f_X8_in_17 x0 x2 x4 σ = some o) {H : Heap} {locs : List Loc} {ls : Array Slot} (hs : cb_H shM A T D σ s.heap H locs) (hl : lv_has ls 6 [(0, .long x0), (2, .long x2), (4, .long x4)]) : cb_W p l e 1 s m args below meth c shM A T D (some (.int o)) σ H locs (F0 m 17 ls []) := by
  obtain ⟨hx, hb, hml, hr, hown, hts, hK, hlk, hN⟩ := id C
  unfold f_X8_in_17 at hf
  refine lv_iconst (v := 0) hx hb dX8_in_17 (by decide) ?_
  have hf := Option.some.inj hf
  subst hf
  exact cb_retz C hs (Or.inl rfl) dX8_in_18
def f_X8_in (x0 : Int64) (x2 : Int64) (x4 : Int64) (σ : cb_St)  : Option (Int32) := if (lg_cmp x0 x2) < 0 then (f_X8_in_17 x0 x2 x4 σ) else (if 0 < (lg_cmp x0 x4) then (f_X8_in_17 x0 x2 x4 σ) else (some 1))
set_option maxHeartbeats 4000000 in
set_option maxRecDepth 100000 in
theorem c_X8_in {x0 : Int64} {x2 : Int64} {x4 : Int64} {σ : cb_St}   {o : Int32} (hf : f_X8_in x0 x2 x4 σ = some o) : cb_M l yX8_in cX8_in 6 (some .boolean) 1 shM A T D σ [.long x0, .long x2, .long x4] (some (.int o)) σ := by
  refine cb_met (by decide +kernel) (Nat.le_of_ble_eq_true rfl) ?_
  intro p e s m below meth c C hs ls hl
  have hl : lv_has ls 6 [(0, .long x0), (2, .long x2), (4, .long x4)] := hl
  obtain ⟨hx, hb, hml, hr, hown, hts, hK, hlk, hN⟩ := id C
  unfold f_X8_in at hf
  refine lv_lload_n hx hb dX8_in_0 rfl (lv_at hl 0 rfl) ?_
  refine lv_lload_n hx hb dX8_in_1 rfl (lv_at hl 1 rfl) ?_
  refine W.lcmp hx hb dX8_in_2 ?_
  refine lv_if_lt (tgt := 17) hx hb dX8_in_3 (by decide) (fun cn => ?_) (fun cn => ?_)
  · replace hf := cb_ifp cn hf
    exact w_X8_in_17 C  hf hs (lv_sub hl [0, 1, 2] rfl)
  · replace hf := cb_ifn cn hf
    refine lv_lload_n hx hb dX8_in_6 rfl (lv_at hl 0 rfl) ?_
    refine lv_lload hx hb dX8_in_7 (lv_at hl 2 rfl) ?_
    refine W.lcmp hx hb dX8_in_9 ?_
    refine lv_if_gt (tgt := 17) hx hb dX8_in_10 (by decide) (fun cn => ?_) (fun cn => ?_)
    · replace hf := cb_ifp cn hf
      exact w_X8_in_17 C  hf hs (lv_sub hl [0, 1, 2] rfl)
    · replace hf := cb_ifn cn hf
      refine lv_iconst (v := 1) hx hb dX8_in_13 (by decide) ?_
      refine lv_goto (tgt := 18) hx hb dX8_in_14 (by decide) ?_
      have hf := Option.some.inj hf
      subst hf
      exact cb_retz C hs (Or.inr rfl) dX8_in_18
/-! ===== CardBecomeModel.isPerson ===== -/
def f_X8_isPerson (x1 : Int32) (σ : cb_St)  : Option (Int32) := cb_bp (f_X8_in (Int32.toInt64 x1) 0 (Int32.toInt64 ((σ.1 0 7) - 1)) σ) (fun r_1 => cb_ck (r_1 = 0 ∨ r_1 = 1) (some r_1))
set_option maxHeartbeats 4000000 in
set_option maxRecDepth 100000 in
theorem c_X8_isPerson {x1 : Int32} {σ : cb_St}   {o : Int32} (hf : f_X8_isPerson x1 σ = some o) : cb_M l yX8_isPerson cX8_isPerson 2 (some .boolean) 2 shM A T D σ [.ref (A 0), .int x1] (some (.int o)) σ := by
  refine cb_met (by decide +kernel) (Nat.le_of_ble_eq_true rfl) ?_
  intro p e s m below meth c C hs ls hl
  have hl : lv_has ls 2 [(0, .ref (A 0)), (1, .int x1)] := hl
  obtain ⟨hx, hb, hml, hr, hown, hts, hK, hlk, hN⟩ := id C
  unfold f_X8_isPerson at hf
  refine lv_iload_n hx hb dX8_isPerson_0 rfl (lv_at hl 1 rfl) ?_
  refine lv_i2l hx hb dX8_isPerson_1 rfl ?_
  refine lv_lconst (v := 0) hx hb dX8_isPerson_2 (by decide) ?_
  refine lv_aload_n hx hb dX8_isPerson_3 rfl (lv_at hl 0 rfl) ?_
  refine gf_X8_75 C hs rfl dX8_isPerson_4 ?_
  refine lv_iconst (v := 1) hx hb dX8_isPerson_7 (by decide) ?_
  refine lv_isub hx hb dX8_isPerson_8 ?_
  refine lv_i2l hx hb dX8_isPerson_9 rfl ?_
  obtain ⟨r_1, hc, hf⟩ := cb_bp_inv hf
  refine cb_callSi C (c_X8_in  hc) mw_X8_in ml_X8_78 rfl ⟨Nat.le_of_ble_eq_true rfl, Nat.le_of_ble_eq_true rfl⟩ hs hl rfl (Nat.le_of_ble_eq_true rfl) dX8_isPerson_10 (fun H locs hs => ?_)
  clear hc
  obtain ⟨hc, hf⟩ := cb_ck_inv hf
  have hf := Option.some.inj hf
  subst hf
  exact cb_retz C hs hc dX8_isPerson_13
/-! ===== CardBecomeModel.areTwo ===== -/
def f_X8_areTwo_25 (x1 : Int32) (x2 : Int32) (σ : cb_St)  : Option (Int32) := some 0
set_option maxHeartbeats 4000000 in
set_option maxRecDepth 100000 in
theorem w_X8_areTwo_25 (C : cb_C p s m args meth c cX8_areTwo 3 (some .boolean) RX8 D T) {x1 : Int32} {x2 : Int32} {σ : cb_St} {o : Int32}   (hf : f_X8_areTwo_25 x1 x2 σ = some o) {H : Heap} {locs : List Loc} {ls : Array Slot} (hs : cb_H shM A T D σ s.heap H locs) (hl : lv_has ls 3 [(0, .ref (A 0)), (1, .int x1), (2, .int x2)]) : cb_W p l e 3 s m args below meth c shM A T D (some (.int o)) σ H locs (F0 m 25 ls []) := by
  obtain ⟨hx, hb, hml, hr, hown, hts, hK, hlk, hN⟩ := id C
  unfold f_X8_areTwo_25 at hf
  refine lv_iconst (v := 0) hx hb dX8_areTwo_25 (by decide) ?_
  have hf := Option.some.inj hf
  subst hf
  exact cb_retz C hs (Or.inl rfl) dX8_areTwo_26
def f_X8_areTwo (x1 : Int32) (x2 : Int32) (σ : cb_St)  : Option (Int32) := cb_bp (f_X8_isPerson x1 σ) (fun r_1 => if r_1 = 0 then (f_X8_areTwo_25 x1 x2 σ) else (cb_bp (f_X8_isPerson x2 σ) (fun r_2 => if r_2 = 0 then (f_X8_areTwo_25 x1 x2 σ) else (if x1 = x2 then (f_X8_areTwo_25 x1 x2 σ) else (some 1)))))
set_option maxHeartbeats 4000000 in
set_option maxRecDepth 100000 in
theorem c_X8_areTwo {x1 : Int32} {x2 : Int32} {σ : cb_St}   {o : Int32} (hf : f_X8_areTwo x1 x2 σ = some o) : cb_M l yX8_areTwo cX8_areTwo 3 (some .boolean) 3 shM A T D σ [.ref (A 0), .int x1, .int x2] (some (.int o)) σ := by
  refine cb_met (by decide +kernel) (Nat.le_of_ble_eq_true rfl) ?_
  intro p e s m below meth c C hs ls hl
  have hl : lv_has ls 3 [(0, .ref (A 0)), (1, .int x1), (2, .int x2)] := hl
  obtain ⟨hx, hb, hml, hr, hown, hts, hK, hlk, hN⟩ := id C
  unfold f_X8_areTwo at hf
  refine lv_aload_n hx hb dX8_areTwo_0 rfl (lv_at hl 0 rfl) ?_
  refine lv_iload_n hx hb dX8_areTwo_1 rfl (lv_at hl 1 rfl) ?_
  obtain ⟨r_1, hc, hf⟩ := cb_bp_inv hf
  refine cb_callVi C (c_X8_isPerson  hc) mw_X8_isPerson ml_X8_82 rfl ⟨Nat.le_of_ble_eq_true rfl, Nat.le_of_ble_eq_true rfl⟩ rfl (Nat.le_of_ble_eq_true rfl) rfl hs hl rfl (Nat.le_of_ble_eq_true rfl) dX8_areTwo_2 (fun H locs hs => ?_)
  clear hc
  refine lv_if_eq (tgt := 25) hx hb dX8_areTwo_5 (by decide) (fun cn => ?_) (fun cn => ?_)
  · replace hf := cb_ifp cn hf
    exact w_X8_areTwo_25 C  hf hs (lv_sub hl [0, 1, 2] rfl)
  · replace hf := cb_ifn cn hf
    refine lv_aload_n hx hb dX8_areTwo_8 rfl (lv_at hl 0 rfl) ?_
    refine lv_iload_n hx hb dX8_areTwo_9 rfl (lv_at hl 2 rfl) ?_
    obtain ⟨r_2, hc, hf⟩ := cb_bp_inv hf
    refine cb_callVi C (c_X8_isPerson  hc) mw_X8_isPerson ml_X8_82 rfl ⟨Nat.le_of_ble_eq_true rfl, Nat.le_of_ble_eq_true rfl⟩ rfl (Nat.le_of_ble_eq_true rfl) rfl hs hl rfl (Nat.le_of_ble_eq_true rfl) dX8_areTwo_10 (fun H locs hs => ?_)
    clear hc
    refine lv_if_eq (tgt := 25) hx hb dX8_areTwo_13 (by decide) (fun cn => ?_) (fun cn => ?_)
    · replace hf := cb_ifp cn hf
      exact w_X8_areTwo_25 C  hf hs (lv_sub hl [0, 1, 2] rfl)
    · replace hf := cb_ifn cn hf
      refine lv_iload_n hx hb dX8_areTwo_16 rfl (lv_at hl 1 rfl) ?_
      refine lv_iload_n hx hb dX8_areTwo_17 rfl (lv_at hl 2 rfl) ?_
      refine lv_icmp_eq (tgt := 25) hx hb dX8_areTwo_18 (by decide) (fun cn => ?_) (fun cn => ?_)
      · replace hf := cb_ifp cn hf
        exact w_X8_areTwo_25 C  hf hs (lv_sub hl [0, 1, 2] rfl)
      · replace hf := cb_ifn cn hf
        refine lv_iconst (v := 1) hx hb dX8_areTwo_21 (by decide) ?_
        refine lv_goto (tgt := 26) hx hb dX8_areTwo_22 (by decide) ?_
        have hf := Option.some.inj hf
        subst hf
        exact cb_retz C hs (Or.inr rfl) dX8_areTwo_26
/-! ===== CardBecomeModel.beginDeals ===== -/
def f_X8_beginDeals_49 (x1 : Int32) (σ : cb_St) (s0 : Int32) : Option (cb_St) := cb_let (cb_sI σ 0 33 s0) (fun σ_1 => some σ_1)
set_option maxHeartbeats 4000000 in
set_option maxRecDepth 100000 in
theorem w_X8_beginDeals_49 (C : cb_C p s m args meth c cX8_beginDeals 2 none RX8 D T) {x1 : Int32} {o : cb_St}  {σ : cb_St} {s0 : Int32} (hf : f_X8_beginDeals_49 x1 σ s0 = some o) {H : Heap} {locs : List Loc} {ls : Array Slot} (hs : cb_H shM A T D σ s.heap H locs) (hl : lv_has ls 2 [(0, .ref (A 0)), (1, .int x1)]) : cb_W p l e 1 s m args below meth c shM A T D none o H locs (F0 m 49 ls [.int s0, .ref (A 0)]) := by
  obtain ⟨hx, hb, hml, hr, hown, hts, hK, hlk, hN⟩ := id C
  unfold f_X8_beginDeals_49 at hf
  refine pf_X8_306 C hs rfl dX8_beginDeals_49 (fun H locs hs => ?_)
  obtain ⟨σ_1, e9, hf⟩ := cb_let_inv hf
  replace hs := cb_Hc e9 hs
  clear e9
  have hf := Option.some.inj hf
  subst hf
  exact cb_retv C hs dX8_beginDeals_52
def f_X8_beginDeals_23 (x1 : Int32) (σ : cb_St) (s0 : Int32) : Option (cb_St) := cb_let (cb_sI σ 0 34 s0) (fun σ_1 => if (σ_1.1 0 7) ≤ (σ_1.1 0 34) then (f_X8_beginDeals_49 x1 σ_1 (σ_1.1 0 7)) else (f_X8_beginDeals_49 x1 σ_1 (σ_1.1 0 34)))
set_option maxHeartbeats 4000000 in
set_option maxRecDepth 100000 in
theorem w_X8_beginDeals_23 (C : cb_C p s m args meth c cX8_beginDeals 2 none RX8 D T) {x1 : Int32} {o : cb_St}  {σ : cb_St} {s0 : Int32} (hf : f_X8_beginDeals_23 x1 σ s0 = some o) {H : Heap} {locs : List Loc} {ls : Array Slot} (hs : cb_H shM A T D σ s.heap H locs) (hl : lv_has ls 2 [(0, .ref (A 0)), (1, .int x1)]) : cb_W p l e 1 s m args below meth c shM A T D none o H locs (F0 m 23 ls [.int s0, .ref (A 0)]) := by
  obtain ⟨hx, hb, hml, hr, hown, hts, hK, hlk, hN⟩ := id C
  unfold f_X8_beginDeals_23 at hf
  refine pf_X8_303 C hs rfl dX8_beginDeals_23 (fun H locs hs => ?_)
  obtain ⟨σ_1, e9, hf⟩ := cb_let_inv hf
  replace hs := cb_Hc e9 hs
  clear e9
  refine lv_aload_n hx hb dX8_beginDeals_26 rfl (lv_at hl 0 rfl) ?_
  refine lv_aload_n hx hb dX8_beginDeals_27 rfl (lv_at hl 0 rfl) ?_
  refine gf_X8_303 C hs rfl dX8_beginDeals_28 ?_
  refine lv_aload_n hx hb dX8_beginDeals_31 rfl (lv_at hl 0 rfl) ?_
  refine gf_X8_75 C hs rfl dX8_beginDeals_32 ?_
  refine lv_icmp_ge (tgt := 45) hx hb dX8_beginDeals_35 (by decide) (fun cn => ?_) (fun cn => ?_)
  · replace hf := cb_ifp cn hf
    refine lv_aload_n hx hb dX8_beginDeals_45 rfl (lv_at hl 0 rfl) ?_
    refine gf_X8_75 C hs rfl dX8_beginDeals_46 ?_
    exact w_X8_beginDeals_49 C  hf hs (lv_sub hl [0, 1] rfl)
  · replace hf := cb_ifn cn hf
    refine lv_aload_n hx hb dX8_beginDeals_38 rfl (lv_at hl 0 rfl) ?_
    refine gf_X8_303 C hs rfl dX8_beginDeals_39 ?_
    refine lv_goto (tgt := 49) hx hb dX8_beginDeals_42 (by decide) ?_
    exact w_X8_beginDeals_49 C  hf hs (lv_sub hl [0, 1] rfl)
def f_X8_beginDeals (x1 : Int32) (σ : cb_St) : Option (cb_St) := cb_ck (0 ≤ Int32.toInt 12 ∧ Int32.toInt 12 < 51) (if (σ.1 3 (Int32.toNatClampNeg 12)) ≤ x1 then (cb_ck (0 ≤ Int32.toInt 12 ∧ Int32.toInt 12 < 51) (f_X8_beginDeals_23 x1 σ (σ.1 3 (Int32.toNatClampNeg 12)))) else (f_X8_beginDeals_23 x1 σ x1))
set_option maxHeartbeats 4000000 in
set_option maxRecDepth 100000 in
theorem c_X8_beginDeals {x1 : Int32}  {σ : cb_St} {o : cb_St} (hf : f_X8_beginDeals x1 σ = some o) : cb_M l yX8_beginDeals cX8_beginDeals 2 none 1 shM A T D σ [.ref (A 0), .int x1] none o := by
  refine cb_met (by decide +kernel) (Nat.le_of_ble_eq_true rfl) ?_
  intro p e s m below meth c C hs ls hl
  have hl : lv_has ls 2 [(0, .ref (A 0)), (1, .int x1)] := hl
  obtain ⟨hx, hb, hml, hr, hown, hts, hK, hlk, hN⟩ := id C
  unfold f_X8_beginDeals at hf
  refine lv_aload_n hx hb dX8_beginDeals_0 rfl (lv_at hl 0 rfl) ?_
  refine lv_iload_n hx hb dX8_beginDeals_1 rfl (lv_at hl 1 rfl) ?_
  refine lv_aload_n hx hb dX8_beginDeals_2 rfl (lv_at hl 0 rfl) ?_
  refine gf_X8_16 C hs rfl dX8_beginDeals_3 ?_
  refine lv_bipush (v := 12) hx hb dX8_beginDeals_6 (by decide) ?_
  obtain ⟨hc, hf⟩ := cb_ck_inv hf
  refine cb_iald C hs rfl (vp_in_iff.mpr hc) dX8_beginDeals_8 ?_
  refine lv_icmp_ge (tgt := 16) hx hb dX8_beginDeals_9 (by decide) (fun cn => ?_) (fun cn => ?_)
  · replace hf := cb_ifp cn hf
    refine lv_aload_n hx hb dX8_beginDeals_16 rfl (lv_at hl 0 rfl) ?_
    refine gf_X8_16 C hs rfl dX8_beginDeals_17 ?_
    refine lv_bipush (v := 12) hx hb dX8_beginDeals_20 (by decide) ?_
    obtain ⟨hc, hf⟩ := cb_ck_inv hf
    refine cb_iald C hs rfl (vp_in_iff.mpr hc) dX8_beginDeals_22 ?_
    exact w_X8_beginDeals_23 C  hf hs (lv_sub hl [0, 1] rfl)
  · replace hf := cb_ifn cn hf
    refine lv_iload_n hx hb dX8_beginDeals_12 rfl (lv_at hl 1 rfl) ?_
    refine lv_goto (tgt := 23) hx hb dX8_beginDeals_13 (by decide) ?_
    exact w_X8_beginDeals_23 C  hf hs (lv_sub hl [0, 1] rfl)
/-! ===== CardBecomeModel.dealsBy ===== -/
def f_X8_dealsBy_188 (x1 : Int32) (σ : cb_St) (x4 : Int32) : Option (Int32 × cb_St) := cb_ck (x4 = 0 ∨ x4 = 1) (some (x4, σ))
set_option maxHeartbeats 4000000 in
set_option maxRecDepth 100000 in
theorem w_X8_dealsBy_188 (C : cb_C p s m args meth c cX8_dealsBy 8 (some .boolean) RX8 D T) {x1 : Int32} {o : Int32 × cb_St}  {σ : cb_St} {x4 : Int32} (hf : f_X8_dealsBy_188 x1 σ x4 = some o) {H : Heap} {locs : List Loc} {ls : Array Slot} (hs : cb_H shM A T D σ s.heap H locs) (hl : lv_has ls 8 [(0, .ref (A 0)), (1, .int x1), (4, .int x4)]) : cb_W p l e 3 s m args below meth c shM A T D (some (.int o.1)) o.2 H locs (F0 m 188 ls []) := by
  obtain ⟨hx, hb, hml, hr, hown, hts, hK, hlk, hN⟩ := id C
  unfold f_X8_dealsBy_188 at hf
  refine lv_iload hx hb dX8_dealsBy_188 (lv_at hl 2 rfl) ?_
  obtain ⟨hc, hf⟩ := cb_ck_inv hf
  have hf := Option.some.inj hf
  subst hf
  exact cb_retz C hs hc dX8_dealsBy_190
def f_X8_dealsBy_180 (K105 : cb_St → Int32 → Int32 → Option (Int32 × cb_St)) (x1 : Int32) (σ : cb_St) (x5 : Int32) (s0 : Int32) : Option (Int32 × cb_St) := cb_let (x5 + 1) (fun x5_0 => K105 σ s0 x5_0)
set_option maxHeartbeats 4000000 in
set_option maxRecDepth 100000 in
theorem w_X8_dealsBy_180 (C : cb_C p s m args meth c cX8_dealsBy 8 (some .boolean) RX8 D T) {K105 : cb_St → Int32 → Int32 → Option (Int32 × cb_St)} {x1 : Int32} {o : Int32 × cb_St} (hK105 : ∀ (σ : cb_St) (x4 : Int32) (x5 : Int32), K105 σ x4 x5 = some o → ∀ (H : Heap) (locs : List Loc) (ls : Array Slot), cb_H shM A T D σ s.heap H locs → lv_has ls 8 [(0, .ref (A 0)), (1, .int x1), (4, .int x4), (5, .int x5)] → cb_W p l e 3 s m args below meth c shM A T D (some (.int o.1)) o.2 H locs (F0 m 105 ls [])) {σ : cb_St} {x5 : Int32} {s0 : Int32} (hf : f_X8_dealsBy_180 K105 x1 σ x5 s0 = some o) {H : Heap} {locs : List Loc} {ls : Array Slot} (hs : cb_H shM A T D σ s.heap H locs) (hl : lv_has ls 8 [(0, .ref (A 0)), (1, .int x1), (5, .int x5)]) : cb_W p l e 3 s m args below meth c shM A T D (some (.int o.1)) o.2 H locs (F0 m 180 ls [.int s0]) := by
  obtain ⟨hx, hb, hml, hr, hown, hts, hK, hlk, hN⟩ := id C
  unfold f_X8_dealsBy_180 at hf
  refine lv_istore (lv' := [(4, .int s0), (0, .ref (A 0)), (1, .int x1), (5, .int x5)]) hx hb dX8_dealsBy_180 hl (by decide) rfl (fun ls hl => ?_)
  obtain ⟨x5_0, e9, hf⟩ := cb_let_inv hf
  refine lv_iinc (v := x5_0) (lv' := [(5, .int x5_0), (4, .int s0), (0, .ref (A 0)), (1, .int x1)]) hx hb dX8_dealsBy_182 hl (k := 3) rfl (by rw [e9]; rfl) (by decide) rfl (fun ls hl => ?_)
  clear e9
  refine lv_goto (tgt := 105) hx hb dX8_dealsBy_185 (by decide) ?_
  exact hK105 _ _ _ hf _ _ _ hs (lv_sub hl [2, 3, 1, 0] rfl)
def f_X8_dealsBy_179 (K105 : cb_St → Int32 → Int32 → Option (Int32 × cb_St)) (x1 : Int32) (σ : cb_St) (x5 : Int32) : Option (Int32 × cb_St) := f_X8_dealsBy_180 K105 x1 σ x5 0
set_option maxHeartbeats 4000000 in
set_option maxRecDepth 100000 in
theorem w_X8_dealsBy_179 (C : cb_C p s m args meth c cX8_dealsBy 8 (some .boolean) RX8 D T) {K105 : cb_St → Int32 → Int32 → Option (Int32 × cb_St)} {x1 : Int32} {o : Int32 × cb_St} (hK105 : ∀ (σ : cb_St) (x4 : Int32) (x5 : Int32), K105 σ x4 x5 = some o → ∀ (H : Heap) (locs : List Loc) (ls : Array Slot), cb_H shM A T D σ s.heap H locs → lv_has ls 8 [(0, .ref (A 0)), (1, .int x1), (4, .int x4), (5, .int x5)] → cb_W p l e 3 s m args below meth c shM A T D (some (.int o.1)) o.2 H locs (F0 m 105 ls [])) {σ : cb_St} {x5 : Int32} (hf : f_X8_dealsBy_179 K105 x1 σ x5 = some o) {H : Heap} {locs : List Loc} {ls : Array Slot} (hs : cb_H shM A T D σ s.heap H locs) (hl : lv_has ls 8 [(0, .ref (A 0)), (1, .int x1), (5, .int x5)]) : cb_W p l e 3 s m args below meth c shM A T D (some (.int o.1)) o.2 H locs (F0 m 179 ls []) := by
  obtain ⟨hx, hb, hml, hr, hown, hts, hK, hlk, hN⟩ := id C
  unfold f_X8_dealsBy_179 at hf
  refine lv_iconst (v := 0) hx hb dX8_dealsBy_179 (by decide) ?_
  exact w_X8_dealsBy_180 C hK105 hf hs (lv_sub hl [0, 1, 2] rfl)
def f_X8_dealsBy_105 (x1 : Int32) : Nat → cb_St → Int32 → Int32 → Option (Int32 × cb_St)
  | 0, _, _, _ => none
  | fu + 1, σ, x4, x5 => if (σ.1 0 28) ≤ x5 then (f_X8_dealsBy_188 x1 σ x4) else (if x4 = 0 then (f_X8_dealsBy_188 x1 σ x4) else (cb_ck (0 ≤ Int32.toInt x5 ∧ Int32.toInt x5 < 6) (cb_ck (0 ≤ Int32.toInt (σ.1 13 (Int32.toNatClampNeg x5)) ∧ Int32.toInt (σ.1 13 (Int32.toNatClampNeg x5)) < 6) (cb_let (σ.1 16 (Int32.toNatClampNeg (σ.1 13 (Int32.toNatClampNeg x5)))) (fun x6_0 => cb_ck (0 ≤ Int32.toInt x5 ∧ Int32.toInt x5 < 6) (cb_ck (0 ≤ Int32.toInt (σ.1 14 (Int32.toNatClampNeg x5)) ∧ Int32.toInt (σ.1 14 (Int32.toNatClampNeg x5)) < 6) (cb_let (σ.1 16 (Int32.toNatClampNeg (σ.1 14 (Int32.toNatClampNeg x5)))) (fun x7_1 => if x6_0 < 0 then (f_X8_dealsBy_179 (f_X8_dealsBy_105 x1 fu) x1 σ x5) else (if x7_1 < 0 then (f_X8_dealsBy_179 (f_X8_dealsBy_105 x1 fu) x1 σ x5) else (cb_bp (f_X8_cardsMeet x6_0 x7_1 σ) (fun r_3 => cb_ck (0 ≤ Int32.toInt x5 ∧ Int32.toInt x5 < 6) (if r_3 = (σ.1 15 (Int32.toNatClampNeg x5)) then (f_X8_dealsBy_180 (f_X8_dealsBy_105 x1 fu) x1 σ x5 1) else (f_X8_dealsBy_179 (f_X8_dealsBy_105 x1 fu) x1 σ x5)))))))))))))
set_option maxHeartbeats 4000000 in
set_option maxRecDepth 100000 in
theorem w_X8_dealsBy_105 (C : cb_C p s m args meth c cX8_dealsBy 8 (some .boolean) RX8 D T) {x1 : Int32} {o : Int32 × cb_St}  : ∀ (fu : Nat) (σ : cb_St) (x4 : Int32) (x5 : Int32), f_X8_dealsBy_105 x1 fu σ x4 x5 = some o → ∀ (H : Heap) (locs : List Loc) (ls : Array Slot), cb_H shM A T D σ s.heap H locs → lv_has ls 8 [(0, .ref (A 0)), (1, .int x1), (4, .int x4), (5, .int x5)] → cb_W p l e 3 s m args below meth c shM A T D (some (.int o.1)) o.2 H locs (F0 m 105 ls []) := by
  obtain ⟨hx, hb, hml, hr, hown, hts, hK, hlk, hN⟩ := id C
  intro fu
  induction fu with
  | zero =>
    intro σ x4 x5 hf
    rw [f_X8_dealsBy_105] at hf
    cases hf
  | succ fu ih =>
    intro σ x4 x5 hf H locs ls hs hl
    rw [f_X8_dealsBy_105] at hf
    refine lv_iload hx hb dX8_dealsBy_105 (lv_at hl 3 rfl) ?_
    refine lv_aload_n hx hb dX8_dealsBy_107 rfl (lv_at hl 0 rfl) ?_
    refine gf_X8_161 C hs rfl dX8_dealsBy_108 ?_
    refine lv_icmp_ge (tgt := 188) hx hb dX8_dealsBy_111 (by decide) (fun cn => ?_) (fun cn => ?_)
    · replace hf := cb_ifp cn hf
      exact w_X8_dealsBy_188 C  hf hs (lv_sub hl [0, 1, 2] rfl)
    · replace hf := cb_ifn cn hf
      refine lv_iload hx hb dX8_dealsBy_114 (lv_at hl 2 rfl) ?_
      refine lv_if_eq (tgt := 188) hx hb dX8_dealsBy_116 (by decide) (fun cn => ?_) (fun cn => ?_)
      · replace hf := cb_ifp cn hf
        exact w_X8_dealsBy_188 C  hf hs (lv_sub hl [0, 1, 2] rfl)
      · replace hf := cb_ifn cn hf
        refine lv_aload_n hx hb dX8_dealsBy_119 rfl (lv_at hl 0 rfl) ?_
        refine gf_X8_59 C hs rfl dX8_dealsBy_120 ?_
        refine lv_aload_n hx hb dX8_dealsBy_123 rfl (lv_at hl 0 rfl) ?_
        refine gf_X8_50 C hs rfl dX8_dealsBy_124 ?_
        refine lv_iload hx hb dX8_dealsBy_127 (lv_at hl 3 rfl) ?_
        obtain ⟨hc, hf⟩ := cb_ck_inv hf
        refine cb_iald C hs rfl (vp_in_iff.mpr hc) dX8_dealsBy_129 ?_
        obtain ⟨hc, hf⟩ := cb_ck_inv hf
        refine cb_iald C hs rfl (vp_in_iff.mpr hc) dX8_dealsBy_130 ?_
        obtain ⟨x6_0, e9, hf⟩ := cb_let_inv hf
        refine cb_topi e9 ?_
        clear e9
        refine lv_istore (lv' := [(6, .int x6_0), (0, .ref (A 0)), (1, .int x1), (4, .int x4), (5, .int x5)]) hx hb dX8_dealsBy_131 hl (by decide) rfl (fun ls hl => ?_)
        refine lv_aload_n hx hb dX8_dealsBy_133 rfl (lv_at hl 1 rfl) ?_
        refine gf_X8_59 C hs rfl dX8_dealsBy_134 ?_
        refine lv_aload_n hx hb dX8_dealsBy_137 rfl (lv_at hl 1 rfl) ?_
        refine gf_X8_53 C hs rfl dX8_dealsBy_138 ?_
        refine lv_iload hx hb dX8_dealsBy_141 (lv_at hl 4 rfl) ?_
        obtain ⟨hc, hf⟩ := cb_ck_inv hf
        refine cb_iald C hs rfl (vp_in_iff.mpr hc) dX8_dealsBy_143 ?_
        obtain ⟨hc, hf⟩ := cb_ck_inv hf
        refine cb_iald C hs rfl (vp_in_iff.mpr hc) dX8_dealsBy_144 ?_
        obtain ⟨x7_1, e9, hf⟩ := cb_let_inv hf
        refine cb_topi e9 ?_
        clear e9
        refine lv_istore (lv' := [(7, .int x7_1), (6, .int x6_0), (0, .ref (A 0)), (1, .int x1), (4, .int x4), (5, .int x5)]) hx hb dX8_dealsBy_145 hl (by decide) rfl (fun ls hl => ?_)
        refine lv_iload hx hb dX8_dealsBy_147 (lv_at hl 1 rfl) ?_
        refine lv_if_lt (tgt := 179) hx hb dX8_dealsBy_149 (by decide) (fun cn => ?_) (fun cn => ?_)
        · replace hf := cb_ifp cn hf
          exact w_X8_dealsBy_179 C ih hf hs (lv_sub hl [2, 3, 5] rfl)
        · replace hf := cb_ifn cn hf
          refine lv_iload hx hb dX8_dealsBy_152 (lv_at hl 0 rfl) ?_
          refine lv_if_lt (tgt := 179) hx hb dX8_dealsBy_154 (by decide) (fun cn => ?_) (fun cn => ?_)
          · replace hf := cb_ifp cn hf
            exact w_X8_dealsBy_179 C ih hf hs (lv_sub hl [2, 3, 5] rfl)
          · replace hf := cb_ifn cn hf
            refine lv_aload_n hx hb dX8_dealsBy_157 rfl (lv_at hl 2 rfl) ?_
            refine lv_iload hx hb dX8_dealsBy_158 (lv_at hl 1 rfl) ?_
            refine lv_iload hx hb dX8_dealsBy_160 (lv_at hl 0 rfl) ?_
            obtain ⟨r_3, hc, hf⟩ := cb_bp_inv hf
            refine cb_callVi C (c_X8_cardsMeet  hc) mw_X8_cardsMeet ml_X8_174 rfl ⟨Nat.le_of_ble_eq_true rfl, Nat.le_of_ble_eq_true rfl⟩ rfl (Nat.le_of_ble_eq_true rfl) rfl hs hl rfl (Nat.le_of_ble_eq_true rfl) dX8_dealsBy_162 (fun H locs hs => ?_)
            clear hc
            refine lv_aload_n hx hb dX8_dealsBy_165 rfl (lv_at hl 2 rfl) ?_
            refine gf_X8_56 C hs rfl dX8_dealsBy_166 ?_
            refine lv_iload hx hb dX8_dealsBy_169 (lv_at hl 5 rfl) ?_
            obtain ⟨hc, hf⟩ := cb_ck_inv hf
            refine cb_iald C hs rfl (vp_in_iff.mpr hc) dX8_dealsBy_171 ?_
            refine lv_icmp_ne (tgt := 179) hx hb dX8_dealsBy_172 (by decide) (fun cn => ?_) (fun cn => ?_)
            · replace hf := cb_ifn cn hf
              exact w_X8_dealsBy_179 C ih hf hs (lv_sub hl [2, 3, 5] rfl)
            · replace hf := cb_ifp cn hf
              refine lv_iconst (v := 1) hx hb dX8_dealsBy_175 (by decide) ?_
              refine lv_goto (tgt := 180) hx hb dX8_dealsBy_176 (by decide) ?_
              exact w_X8_dealsBy_180 C ih hf hs (lv_sub hl [2, 3, 5] rfl)
def f_X8_dealsBy_68 (x1 : Int32) (σ : cb_St) : Option (Int32 × cb_St) := some (0, σ)
set_option maxHeartbeats 4000000 in
set_option maxRecDepth 100000 in
theorem w_X8_dealsBy_68 (C : cb_C p s m args meth c cX8_dealsBy 8 (some .boolean) RX8 D T) {x1 : Int32} {o : Int32 × cb_St}  {σ : cb_St} (hf : f_X8_dealsBy_68 x1 σ = some o) {H : Heap} {locs : List Loc} {ls : Array Slot} (hs : cb_H shM A T D σ s.heap H locs) (hl : lv_has ls 8 [(0, .ref (A 0)), (1, .int x1)]) : cb_W p l e 3 s m args below meth c shM A T D (some (.int o.1)) o.2 H locs (F0 m 68 ls []) := by
  obtain ⟨hx, hb, hml, hr, hown, hts, hK, hlk, hN⟩ := id C
  unfold f_X8_dealsBy_68 at hf
  refine lv_iconst (v := 0) hx hb dX8_dealsBy_68 (by decide) ?_
  have hf := Option.some.inj hf
  subst hf
  exact cb_retz C hs (Or.inl rfl) dX8_dealsBy_69
def f_X8_dealsBy_36 (x1 : Int32) : Nat → cb_St → Int32 → Int32 → Int32 → Option (Int32 × cb_St)
  | 0, _, _, _, _ => none
  | fu + 1, σ, x2, x3, x4 => if x4 < 0 then (f_X8_dealsBy_105 x1 cb_fu σ 1 0) else (cb_let (x3 - x3 / 5 * 5) (fun x5_0 => cb_let (x3 / 5) (fun x3_1 => if (σ.1 0 34) ≤ x5_0 then (f_X8_dealsBy_68 x1 σ) else (cb_bp (f_X8_has x2 x5_0 σ) (fun r_3 => if r_3 = 0 then (cb_let (x2 ||| (1 <<< (x5_0 &&& 31))) (fun x2_3 => cb_ck (0 ≤ Int32.toInt (0 + x5_0) ∧ Int32.toInt (0 + x5_0) < 51) (cb_ck (0 ≤ Int32.toInt x4 ∧ Int32.toInt x4 < 6) (cb_let (cb_sI σ 16 (Int32.toNatClampNeg x4) (σ.1 3 (Int32.toNatClampNeg (0 + x5_0)))) (fun σ_5 => cb_let (x4 + (-1)) (fun x4_5 => f_X8_dealsBy_36 x1 fu σ_5 x2_3 x3_1 x4_5)))))) else (f_X8_dealsBy_68 x1 σ))))))
set_option maxHeartbeats 4000000 in
set_option maxRecDepth 100000 in
theorem w_X8_dealsBy_36 (C : cb_C p s m args meth c cX8_dealsBy 8 (some .boolean) RX8 D T) {x1 : Int32} {o : Int32 × cb_St}  : ∀ (fu : Nat) (σ : cb_St) (x2 : Int32) (x3 : Int32) (x4 : Int32), f_X8_dealsBy_36 x1 fu σ x2 x3 x4 = some o → ∀ (H : Heap) (locs : List Loc) (ls : Array Slot), cb_H shM A T D σ s.heap H locs → lv_has ls 8 [(0, .ref (A 0)), (1, .int x1), (2, .int x2), (3, .int x3), (4, .int x4)] → cb_W p l e 3 s m args below meth c shM A T D (some (.int o.1)) o.2 H locs (F0 m 36 ls []) := by
  obtain ⟨hx, hb, hml, hr, hown, hts, hK, hlk, hN⟩ := id C
  intro fu
  induction fu with
  | zero =>
    intro σ x2 x3 x4 hf
    rw [f_X8_dealsBy_36] at hf
    cases hf
  | succ fu ih =>
    intro σ x2 x3 x4 hf H locs ls hs hl
    rw [f_X8_dealsBy_36] at hf
    refine lv_iload hx hb dX8_dealsBy_36 (lv_at hl 4 rfl) ?_
    refine lv_if_lt (tgt := 99) hx hb dX8_dealsBy_38 (by decide) (fun cn => ?_) (fun cn => ?_)
    · replace hf := cb_ifp cn hf
      refine lv_iconst (v := 1) hx hb dX8_dealsBy_99 (by decide) ?_
      refine lv_istore (lv' := [(4, .int 1), (0, .ref (A 0)), (1, .int x1), (2, .int x2), (3, .int x3)]) hx hb dX8_dealsBy_100 hl (by decide) rfl (fun ls hl => ?_)
      refine lv_iconst (v := 0) hx hb dX8_dealsBy_102 (by decide) ?_
      refine lv_istore (lv' := [(5, .int 0), (4, .int 1), (0, .ref (A 0)), (1, .int x1), (2, .int x2), (3, .int x3)]) hx hb dX8_dealsBy_103 hl (by decide) rfl (fun ls hl => ?_)
      exact w_X8_dealsBy_105 C  cb_fu _ _ _ hf _ _ _ hs (lv_sub hl [2, 3, 1, 0] rfl)
    · replace hf := cb_ifn cn hf
      refine lv_iload_n hx hb dX8_dealsBy_41 rfl (lv_at hl 3 rfl) ?_
      refine lv_iconst (v := 5) hx hb dX8_dealsBy_42 (by decide) ?_
      refine lv_irem hx hb dX8_dealsBy_43 (by decide) ?_
      obtain ⟨x5_0, e9, hf⟩ := cb_let_inv hf
      refine cb_topi e9 ?_
      clear e9
      refine lv_istore (lv' := [(5, .int x5_0), (0, .ref (A 0)), (1, .int x1), (2, .int x2), (3, .int x3), (4, .int x4)]) hx hb dX8_dealsBy_44 hl (by decide) rfl (fun ls hl => ?_)
      refine lv_iload_n hx hb dX8_dealsBy_46 rfl (lv_at hl 4 rfl) ?_
      refine lv_iconst (v := 5) hx hb dX8_dealsBy_47 (by decide) ?_
      refine lv_idiv hx hb dX8_dealsBy_48 (by decide) ?_
      obtain ⟨x3_1, e9, hf⟩ := cb_let_inv hf
      refine cb_topi e9 ?_
      clear e9
      refine lv_istore_n (lv' := [(3, .int x3_1), (5, .int x5_0), (0, .ref (A 0)), (1, .int x1), (2, .int x2), (4, .int x4)]) hx hb dX8_dealsBy_49 rfl hl (by decide) rfl (fun ls hl => ?_)
      refine lv_iload hx hb dX8_dealsBy_50 (lv_at hl 1 rfl) ?_
      refine lv_aload_n hx hb dX8_dealsBy_52 rfl (lv_at hl 2 rfl) ?_
      refine gf_X8_303 C hs rfl dX8_dealsBy_53 ?_
      refine lv_icmp_ge (tgt := 68) hx hb dX8_dealsBy_56 (by decide) (fun cn => ?_) (fun cn => ?_)
      · replace hf := cb_ifp cn hf
        exact w_X8_dealsBy_68 C  hf hs (lv_sub hl [2, 3] rfl)
      · replace hf := cb_ifn cn hf
        refine lv_iload_n hx hb dX8_dealsBy_59 rfl (lv_at hl 4 rfl) ?_
        refine lv_iload hx hb dX8_dealsBy_60 (lv_at hl 1 rfl) ?_
        obtain ⟨r_3, hc, hf⟩ := cb_bp_inv hf
        refine cb_callSi C (c_X8_has  hc) mw_X8_has ml_X8_256 rfl ⟨Nat.le_of_ble_eq_true rfl, Nat.le_of_ble_eq_true rfl⟩ hs hl rfl (Nat.le_of_ble_eq_true rfl) dX8_dealsBy_62 (fun H locs hs => ?_)
        clear hc
        refine lv_if_eq (tgt := 70) hx hb dX8_dealsBy_65 (by decide) (fun cn => ?_) (fun cn => ?_)
        · replace hf := cb_ifp cn hf
          refine lv_iload_n hx hb dX8_dealsBy_70 rfl (lv_at hl 4 rfl) ?_
          refine lv_iconst (v := 1) hx hb dX8_dealsBy_71 (by decide) ?_
          refine lv_iload hx hb dX8_dealsBy_72 (lv_at hl 1 rfl) ?_
          refine lv_ishl hx hb dX8_dealsBy_74 ?_
          refine lv_ior hx hb dX8_dealsBy_75 ?_
          obtain ⟨x2_3, e9, hf⟩ := cb_let_inv hf
          refine cb_topi e9 ?_
          clear e9
          refine lv_istore_n (lv' := [(2, .int x2_3), (3, .int x3_1), (5, .int x5_0), (0, .ref (A 0)), (1, .int x1), (4, .int x4)]) hx hb dX8_dealsBy_76 rfl hl (by decide) rfl (fun ls hl => ?_)
          refine lv_aload_n hx hb dX8_dealsBy_77 rfl (lv_at hl 3 rfl) ?_
          refine gf_X8_59 C hs rfl dX8_dealsBy_78 ?_
          refine lv_iload hx hb dX8_dealsBy_81 (lv_at hl 5 rfl) ?_
          refine lv_aload_n hx hb dX8_dealsBy_83 rfl (lv_at hl 3 rfl) ?_
          refine gf_X8_16 C hs rfl dX8_dealsBy_84 ?_
          refine lv_iconst (v := 0) hx hb dX8_dealsBy_87 (by decide) ?_
          refine lv_iload hx hb dX8_dealsBy_88 (lv_at hl 2 rfl) ?_
          refine lv_iadd hx hb dX8_dealsBy_90 ?_
          obtain ⟨hc, hf⟩ := cb_ck_inv hf
          refine cb_iald C hs rfl (vp_in_iff.mpr hc) dX8_dealsBy_91 ?_
          obtain ⟨hc, hf⟩ := cb_ck_inv hf
          refine cb_iast C hs rfl (vp_in_iff.mpr hc) dX8_dealsBy_92 (fun H locs hs => ?_)
          obtain ⟨σ_5, e9, hf⟩ := cb_let_inv hf
          replace hs := cb_Hc e9 hs
          clear e9
          obtain ⟨x4_5, e9, hf⟩ := cb_let_inv hf
          refine lv_iinc (v := x4_5) (lv' := [(4, .int x4_5), (2, .int x2_3), (3, .int x3_1), (5, .int x5_0), (0, .ref (A 0)), (1, .int x1)]) hx hb dX8_dealsBy_93 hl (k := 5) rfl (by rw [e9]; rfl) (by decide) rfl (fun ls hl => ?_)
          clear e9
          refine lv_goto (tgt := 36) hx hb dX8_dealsBy_96 (by decide) ?_
          exact ih _ _ _ _ hf _ _ _ hs (lv_sub hl [4, 5, 1, 2, 0] rfl)
        · replace hf := cb_ifn cn hf
          exact w_X8_dealsBy_68 C  hf hs (lv_sub hl [2, 3] rfl)
def f_X8_dealsBy_7 (x1 : Int32) : Nat → cb_St → Int32 → Int32 → Int32 → Option (Int32 × cb_St)
  | 0, _, _, _, _ => none
  | fu + 1, σ, x2, x3, x4 => if 6 ≤ x4 then (cb_let ((σ.1 0 33) - 1) (fun x4_0 => f_X8_dealsBy_36 x1 cb_fu σ x2 x3 x4_0)) else (cb_ck (0 ≤ Int32.toInt x4 ∧ Int32.toInt x4 < 6) (cb_let (cb_sI σ 16 (Int32.toNatClampNeg x4) (-1)) (fun σ_2 => cb_let (x4 + 1) (fun x4_2 => f_X8_dealsBy_7 x1 fu σ_2 x2 x3 x4_2))))
set_option maxHeartbeats 4000000 in
set_option maxRecDepth 100000 in
theorem w_X8_dealsBy_7 (C : cb_C p s m args meth c cX8_dealsBy 8 (some .boolean) RX8 D T) {x1 : Int32} {o : Int32 × cb_St}  : ∀ (fu : Nat) (σ : cb_St) (x2 : Int32) (x3 : Int32) (x4 : Int32), f_X8_dealsBy_7 x1 fu σ x2 x3 x4 = some o → ∀ (H : Heap) (locs : List Loc) (ls : Array Slot), cb_H shM A T D σ s.heap H locs → lv_has ls 8 [(0, .ref (A 0)), (1, .int x1), (2, .int x2), (3, .int x3), (4, .int x4)] → cb_W p l e 3 s m args below meth c shM A T D (some (.int o.1)) o.2 H locs (F0 m 7 ls []) := by
  obtain ⟨hx, hb, hml, hr, hown, hts, hK, hlk, hN⟩ := id C
  intro fu
  induction fu with
  | zero =>
    intro σ x2 x3 x4 hf
    rw [f_X8_dealsBy_7] at hf
    cases hf
  | succ fu ih =>
    intro σ x2 x3 x4 hf H locs ls hs hl
    rw [f_X8_dealsBy_7] at hf
    refine lv_iload hx hb dX8_dealsBy_7 (lv_at hl 4 rfl) ?_
    refine lv_bipush (v := 6) hx hb dX8_dealsBy_9 (by decide) ?_
    refine lv_icmp_ge (tgt := 28) hx hb dX8_dealsBy_11 (by decide) (fun cn => ?_) (fun cn => ?_)
    · replace hf := cb_ifp cn hf
      refine lv_aload_n hx hb dX8_dealsBy_28 rfl (lv_at hl 0 rfl) ?_
      refine gf_X8_306 C hs rfl dX8_dealsBy_29 ?_
      refine lv_iconst (v := 1) hx hb dX8_dealsBy_32 (by decide) ?_
      refine lv_isub hx hb dX8_dealsBy_33 ?_
      obtain ⟨x4_0, e9, hf⟩ := cb_let_inv hf
      refine cb_topi e9 ?_
      clear e9
      refine lv_istore (lv' := [(4, .int x4_0), (0, .ref (A 0)), (1, .int x1), (2, .int x2), (3, .int x3)]) hx hb dX8_dealsBy_34 hl (by decide) rfl (fun ls hl => ?_)
      exact w_X8_dealsBy_36 C  cb_fu _ _ _ _ hf _ _ _ hs (lv_sub hl [1, 2, 3, 4, 0] rfl)
    · replace hf := cb_ifn cn hf
      refine lv_aload_n hx hb dX8_dealsBy_14 rfl (lv_at hl 0 rfl) ?_
      refine gf_X8_59 C hs rfl dX8_dealsBy_15 ?_
      refine lv_iload hx hb dX8_dealsBy_18 (lv_at hl 4 rfl) ?_
      refine lv_iconst (v := (-1)) hx hb dX8_dealsBy_20 (by decide) ?_
      obtain ⟨hc, hf⟩ := cb_ck_inv hf
      refine cb_iast C hs rfl (vp_in_iff.mpr hc) dX8_dealsBy_21 (fun H locs hs => ?_)
      obtain ⟨σ_2, e9, hf⟩ := cb_let_inv hf
      replace hs := cb_Hc e9 hs
      clear e9
      obtain ⟨x4_2, e9, hf⟩ := cb_let_inv hf
      refine lv_iinc (v := x4_2) (lv' := [(4, .int x4_2), (0, .ref (A 0)), (1, .int x1), (2, .int x2), (3, .int x3)]) hx hb dX8_dealsBy_22 hl (k := 4) rfl (by rw [e9]; rfl) (by decide) rfl (fun ls hl => ?_)
      clear e9
      refine lv_goto (tgt := 7) hx hb dX8_dealsBy_25 (by decide) ?_
      exact ih _ _ _ _ hf _ _ _ hs (lv_sub hl [1, 2, 3, 4, 0] rfl)
def f_X8_dealsBy (x1 : Int32) (σ : cb_St) : Option (Int32 × cb_St) := f_X8_dealsBy_7 x1 cb_fu σ 0 x1 0
set_option maxHeartbeats 4000000 in
set_option maxRecDepth 100000 in
theorem c_X8_dealsBy {x1 : Int32}  {σ : cb_St} {o : Int32 × cb_St} (hf : f_X8_dealsBy x1 σ = some o) : cb_M l yX8_dealsBy cX8_dealsBy 8 (some .boolean) 3 shM A T D σ [.ref (A 0), .int x1] (some (.int o.1)) o.2 := by
  refine cb_met (by decide +kernel) (Nat.le_of_ble_eq_true rfl) ?_
  intro p e s m below meth c C hs ls hl
  have hl : lv_has ls 8 [(0, .ref (A 0)), (1, .int x1)] := hl
  obtain ⟨hx, hb, hml, hr, hown, hts, hK, hlk, hN⟩ := id C
  unfold f_X8_dealsBy at hf
  refine lv_iconst (v := 0) hx hb dX8_dealsBy_0 (by decide) ?_
  refine lv_istore_n (lv' := [(2, .int 0), (0, .ref (A 0)), (1, .int x1)]) hx hb dX8_dealsBy_1 rfl hl (by decide) rfl (fun ls hl => ?_)
  refine lv_iload_n hx hb dX8_dealsBy_2 rfl (lv_at hl 2 rfl) ?_
  refine lv_istore_n (lv' := [(3, .int x1), (2, .int 0), (0, .ref (A 0)), (1, .int x1)]) hx hb dX8_dealsBy_3 rfl hl (by decide) rfl (fun ls hl => ?_)
  refine lv_iconst (v := 0) hx hb dX8_dealsBy_4 (by decide) ?_
  refine lv_istore (lv' := [(4, .int 0), (3, .int x1), (2, .int 0), (0, .ref (A 0)), (1, .int x1)]) hx hb dX8_dealsBy_5 hl (by decide) rfl (fun ls hl => ?_)
  exact w_X8_dealsBy_7 C  cb_fu _ _ _ _ hf _ _ _ hs (lv_sub hl [3, 4, 2, 1, 0] rfl)
/-! ===== CardBecomeModel.power ===== -/
def f_X8_power_4 (x0 : Int32) (x1 : Int32) (σ : cb_St) : Nat → Int32 → Int32 → Option (Int32)
  | 0, _, _ => none
  | fu + 1, x2, x3 => if x1 ≤ x3 then (some x2) else (cb_let (x2 * x0) (fun x2_0 => cb_let (x3 + 1) (fun x3_1 => f_X8_power_4 x0 x1 σ fu x2_0 x3_1)))
set_option maxHeartbeats 4000000 in
set_option maxRecDepth 100000 in
theorem w_X8_power_4 (C : cb_C p s m args meth c cX8_power 4 (some .int) RX8 D T) {x0 : Int32} {x1 : Int32} {σ : cb_St} {o : Int32}  : ∀ (fu : Nat) (x2 : Int32) (x3 : Int32), f_X8_power_4 x0 x1 σ fu x2 x3 = some o → ∀ (H : Heap) (locs : List Loc) (ls : Array Slot), cb_H shM A T D σ s.heap H locs → lv_has ls 4 [(0, .int x0), (1, .int x1), (2, .int x2), (3, .int x3)] → cb_W p l e 1 s m args below meth c shM A T D (some (.int o)) σ H locs (F0 m 4 ls []) := by
  obtain ⟨hx, hb, hml, hr, hown, hts, hK, hlk, hN⟩ := id C
  intro fu
  induction fu with
  | zero =>
    intro x2 x3 hf
    rw [f_X8_power_4] at hf
    cases hf
  | succ fu ih =>
    intro x2 x3 hf H locs ls hs hl
    rw [f_X8_power_4] at hf
    refine lv_iload_n hx hb dX8_power_4 rfl (lv_at hl 3 rfl) ?_
    refine lv_iload_n hx hb dX8_power_5 rfl (lv_at hl 1 rfl) ?_
    refine lv_icmp_ge (tgt := 19) hx hb dX8_power_6 (by decide) (fun cn => ?_) (fun cn => ?_)
    · replace hf := cb_ifp cn hf
      refine lv_iload_n hx hb dX8_power_19 rfl (lv_at hl 2 rfl) ?_
      have hf := Option.some.inj hf
      subst hf
      exact cb_reti C hs dX8_power_20
    · replace hf := cb_ifn cn hf
      refine lv_iload_n hx hb dX8_power_9 rfl (lv_at hl 2 rfl) ?_
      refine lv_iload_n hx hb dX8_power_10 rfl (lv_at hl 0 rfl) ?_
      refine lv_imul hx hb dX8_power_11 ?_
      obtain ⟨x2_0, e9, hf⟩ := cb_let_inv hf
      refine cb_topi e9 ?_
      clear e9
      refine lv_istore_n (lv' := [(2, .int x2_0), (0, .int x0), (1, .int x1), (3, .int x3)]) hx hb dX8_power_12 rfl hl (by decide) rfl (fun ls hl => ?_)
      obtain ⟨x3_1, e9, hf⟩ := cb_let_inv hf
      refine lv_iinc (v := x3_1) (lv' := [(3, .int x3_1), (2, .int x2_0), (0, .int x0), (1, .int x1)]) hx hb dX8_power_13 hl (k := 3) rfl (by rw [e9]; rfl) (by decide) rfl (fun ls hl => ?_)
      clear e9
      refine lv_goto (tgt := 4) hx hb dX8_power_16 (by decide) ?_
      exact ih _ _ hf _ _ _ hs (lv_sub hl [2, 3, 1, 0] rfl)
def f_X8_power (x0 : Int32) (x1 : Int32) (σ : cb_St)  : Option (Int32) := f_X8_power_4 x0 x1 σ cb_fu 1 0
set_option maxHeartbeats 4000000 in
set_option maxRecDepth 100000 in
theorem c_X8_power {x0 : Int32} {x1 : Int32} {σ : cb_St}   {o : Int32} (hf : f_X8_power x0 x1 σ = some o) : cb_M l yX8_power cX8_power 4 (some .int) 1 shM A T D σ [.int x0, .int x1] (some (.int o)) σ := by
  refine cb_met (by decide +kernel) (Nat.le_of_ble_eq_true rfl) ?_
  intro p e s m below meth c C hs ls hl
  have hl : lv_has ls 4 [(0, .int x0), (1, .int x1)] := hl
  obtain ⟨hx, hb, hml, hr, hown, hts, hK, hlk, hN⟩ := id C
  unfold f_X8_power at hf
  refine lv_iconst (v := 1) hx hb dX8_power_0 (by decide) ?_
  refine lv_istore_n (lv' := [(2, .int 1), (0, .int x0), (1, .int x1)]) hx hb dX8_power_1 rfl hl (by decide) rfl (fun ls hl => ?_)
  refine lv_iconst (v := 0) hx hb dX8_power_2 (by decide) ?_
  refine lv_istore_n (lv' := [(3, .int 0), (2, .int 1), (0, .int x0), (1, .int x1)]) hx hb dX8_power_3 rfl hl (by decide) rfl (fun ls hl => ?_)
  exact w_X8_power_4 C  cb_fu _ _ hf _ _ _ hs (lv_sub hl [2, 3, 1, 0] rfl)
/-! ===== CardBecomeModel.deals ===== -/
def f_X8_deals_116 (K47 : cb_St → Int32 → Int32 → Int32 → Int32 → Option (Int32 × cb_St)) (x1 : Int32) (x2 : Int32) (σ : cb_St) (x3 : Int32) (x4 : Int32) (x5 : Int32) (x6 : Int32) : Option (Int32 × cb_St) := cb_let (x6 + 1) (fun x6_0 => K47 σ x3 x4 x5 x6_0)
set_option maxHeartbeats 4000000 in
set_option maxRecDepth 100000 in
theorem w_X8_deals_116 (C : cb_C p s m args meth c cX8_deals 8 (some .int) RX8 D T) {K47 : cb_St → Int32 → Int32 → Int32 → Int32 → Option (Int32 × cb_St)} {x1 : Int32} {x2 : Int32} {o : Int32 × cb_St} (hK47 : ∀ (σ : cb_St) (x3 : Int32) (x4 : Int32) (x5 : Int32) (x6 : Int32), K47 σ x3 x4 x5 x6 = some o → ∀ (H : Heap) (locs : List Loc) (ls : Array Slot), cb_H shM A T D σ s.heap H locs → lv_has ls 8 [(0, .ref (A 0)), (1, .int x1), (2, .int x2), (3, .int x3), (4, .int x4), (5, .int x5), (6, .int x6)] → cb_W p l e 4 s m args below meth c shM A T D (some (.int o.1)) o.2 H locs (F0 m 47 ls [])) {σ : cb_St} {x3 : Int32} {x4 : Int32} {x5 : Int32} {x6 : Int32} (hf : f_X8_deals_116 K47 x1 x2 σ x3 x4 x5 x6 = some o) {H : Heap} {locs : List Loc} {ls : Array Slot} (hs : cb_H shM A T D σ s.heap H locs) (hl : lv_has ls 8 [(0, .ref (A 0)), (1, .int x1), (2, .int x2), (3, .int x3), (4, .int x4), (5, .int x5), (6, .int x6)]) : cb_W p l e 4 s m args below meth c shM A T D (some (.int o.1)) o.2 H locs (F0 m 116 ls []) := by
  obtain ⟨hx, hb, hml, hr, hown, hts, hK, hlk, hN⟩ := id C
  unfold f_X8_deals_116 at hf
  obtain ⟨x6_0, e9, hf⟩ := cb_let_inv hf
  refine lv_iinc (v := x6_0) (lv' := [(6, .int x6_0), (0, .ref (A 0)), (1, .int x1), (2, .int x2), (3, .int x3), (4, .int x4), (5, .int x5)]) hx hb dX8_deals_116 hl (k := 6) rfl (by rw [e9]; rfl) (by decide) rfl (fun ls hl => ?_)
  clear e9
  refine lv_goto (tgt := 47) hx hb dX8_deals_119 (by decide) ?_
  exact hK47 _ _ _ _ _ hf _ _ _ hs (lv_sub hl [1, 2, 3, 4, 5, 6, 0] rfl)
def f_X8_deals_107 (K47 : cb_St → Int32 → Int32 → Int32 → Int32 → Option (Int32 × cb_St)) (x1 : Int32) (x2 : Int32) (σ : cb_St) (x3 : Int32) (x6 : Int32) (x7 : Int32) (s0 : Int32) : Option (Int32 × cb_St) := cb_let (x3 + 1) (fun x3_0 => f_X8_deals_116 K47 x1 x2 σ x3_0 x7 s0 x6)
set_option maxHeartbeats 4000000 in
set_option maxRecDepth 100000 in
theorem w_X8_deals_107 (C : cb_C p s m args meth c cX8_deals 8 (some .int) RX8 D T) {K47 : cb_St → Int32 → Int32 → Int32 → Int32 → Option (Int32 × cb_St)} {x1 : Int32} {x2 : Int32} {o : Int32 × cb_St} (hK47 : ∀ (σ : cb_St) (x3 : Int32) (x4 : Int32) (x5 : Int32) (x6 : Int32), K47 σ x3 x4 x5 x6 = some o → ∀ (H : Heap) (locs : List Loc) (ls : Array Slot), cb_H shM A T D σ s.heap H locs → lv_has ls 8 [(0, .ref (A 0)), (1, .int x1), (2, .int x2), (3, .int x3), (4, .int x4), (5, .int x5), (6, .int x6)] → cb_W p l e 4 s m args below meth c shM A T D (some (.int o.1)) o.2 H locs (F0 m 47 ls [])) {σ : cb_St} {x3 : Int32} {x6 : Int32} {x7 : Int32} {s0 : Int32} (hf : f_X8_deals_107 K47 x1 x2 σ x3 x6 x7 s0 = some o) {H : Heap} {locs : List Loc} {ls : Array Slot} (hs : cb_H shM A T D σ s.heap H locs) (hl : lv_has ls 8 [(0, .ref (A 0)), (1, .int x1), (2, .int x2), (3, .int x3), (6, .int x6), (7, .int x7)]) : cb_W p l e 4 s m args below meth c shM A T D (some (.int o.1)) o.2 H locs (F0 m 107 ls [.int s0]) := by
  obtain ⟨hx, hb, hml, hr, hown, hts, hK, hlk, hN⟩ := id C
  unfold f_X8_deals_107 at hf
  refine lv_istore (lv' := [(5, .int s0), (0, .ref (A 0)), (1, .int x1), (2, .int x2), (3, .int x3), (6, .int x6), (7, .int x7)]) hx hb dX8_deals_107 hl (by decide) rfl (fun ls hl => ?_)
  refine lv_iload hx hb dX8_deals_109 (lv_at hl 6 rfl) ?_
  refine lv_istore (lv' := [(4, .int x7), (5, .int s0), (0, .ref (A 0)), (1, .int x1), (2, .int x2), (3, .int x3), (6, .int x6), (7, .int x7)]) hx hb dX8_deals_111 hl (by decide) rfl (fun ls hl => ?_)
  obtain ⟨x3_0, e9, hf⟩ := cb_let_inv hf
  refine lv_iinc (v := x3_0) (lv' := [(3, .int x3_0), (4, .int x7), (5, .int s0), (0, .ref (A 0)), (1, .int x1), (2, .int x2), (6, .int x6), (7, .int x7)]) hx hb dX8_deals_113 hl (k := 5) rfl (by rw [e9]; rfl) (by decide) rfl (fun ls hl => ?_)
  clear e9
  exact w_X8_deals_116 C hK47 hf hs (lv_sub hl [3, 4, 5, 0, 1, 2, 6] rfl)
def f_X8_deals_106 (K47 : cb_St → Int32 → Int32 → Int32 → Int32 → Option (Int32 × cb_St)) (x1 : Int32) (x2 : Int32) (σ : cb_St) (x3 : Int32) (x6 : Int32) (x7 : Int32) : Option (Int32 × cb_St) := f_X8_deals_107 K47 x1 x2 σ x3 x6 x7 0
set_option maxHeartbeats 4000000 in
set_option maxRecDepth 100000 in
theorem w_X8_deals_106 (C : cb_C p s m args meth c cX8_deals 8 (some .int) RX8 D T) {K47 : cb_St → Int32 → Int32 → Int32 → Int32 → Option (Int32 × cb_St)} {x1 : Int32} {x2 : Int32} {o : Int32 × cb_St} (hK47 : ∀ (σ : cb_St) (x3 : Int32) (x4 : Int32) (x5 : Int32) (x6 : Int32), K47 σ x3 x4 x5 x6 = some o → ∀ (H : Heap) (locs : List Loc) (ls : Array Slot), cb_H shM A T D σ s.heap H locs → lv_has ls 8 [(0, .ref (A 0)), (1, .int x1), (2, .int x2), (3, .int x3), (4, .int x4), (5, .int x5), (6, .int x6)] → cb_W p l e 4 s m args below meth c shM A T D (some (.int o.1)) o.2 H locs (F0 m 47 ls [])) {σ : cb_St} {x3 : Int32} {x6 : Int32} {x7 : Int32} (hf : f_X8_deals_106 K47 x1 x2 σ x3 x6 x7 = some o) {H : Heap} {locs : List Loc} {ls : Array Slot} (hs : cb_H shM A T D σ s.heap H locs) (hl : lv_has ls 8 [(0, .ref (A 0)), (1, .int x1), (2, .int x2), (3, .int x3), (6, .int x6), (7, .int x7)]) : cb_W p l e 4 s m args below meth c shM A T D (some (.int o.1)) o.2 H locs (F0 m 106 ls []) := by
  obtain ⟨hx, hb, hml, hr, hown, hts, hK, hlk, hN⟩ := id C
  unfold f_X8_deals_106 at hf
  refine lv_iconst (v := 0) hx hb dX8_deals_106 (by decide) ?_
  exact w_X8_deals_107 C hK47 hf hs (lv_sub hl [0, 1, 2, 3, 4, 5] rfl)
def f_X8_deals_102 (K47 : cb_St → Int32 → Int32 → Int32 → Int32 → Option (Int32 × cb_St)) (x1 : Int32) (x2 : Int32) (σ : cb_St) (x3 : Int32) (x6 : Int32) (x7 : Int32) : Option (Int32 × cb_St) := f_X8_deals_107 K47 x1 x2 σ x3 x6 x7 1
set_option maxHeartbeats 4000000 in
set_option maxRecDepth 100000 in
theorem w_X8_deals_102 (C : cb_C p s m args meth c cX8_deals 8 (some .int) RX8 D T) {K47 : cb_St → Int32 → Int32 → Int32 → Int32 → Option (Int32 × cb_St)} {x1 : Int32} {x2 : Int32} {o : Int32 × cb_St} (hK47 : ∀ (σ : cb_St) (x3 : Int32) (x4 : Int32) (x5 : Int32) (x6 : Int32), K47 σ x3 x4 x5 x6 = some o → ∀ (H : Heap) (locs : List Loc) (ls : Array Slot), cb_H shM A T D σ s.heap H locs → lv_has ls 8 [(0, .ref (A 0)), (1, .int x1), (2, .int x2), (3, .int x3), (4, .int x4), (5, .int x5), (6, .int x6)] → cb_W p l e 4 s m args below meth c shM A T D (some (.int o.1)) o.2 H locs (F0 m 47 ls [])) {σ : cb_St} {x3 : Int32} {x6 : Int32} {x7 : Int32} (hf : f_X8_deals_102 K47 x1 x2 σ x3 x6 x7 = some o) {H : Heap} {locs : List Loc} {ls : Array Slot} (hs : cb_H shM A T D σ s.heap H locs) (hl : lv_has ls 8 [(0, .ref (A 0)), (1, .int x1), (2, .int x2), (3, .int x3), (6, .int x6), (7, .int x7)]) : cb_W p l e 4 s m args below meth c shM A T D (some (.int o.1)) o.2 H locs (F0 m 102 ls []) := by
  obtain ⟨hx, hb, hml, hr, hown, hts, hK, hlk, hN⟩ := id C
  unfold f_X8_deals_102 at hf
  refine lv_iconst (v := 1) hx hb dX8_deals_102 (by decide) ?_
  refine lv_goto (tgt := 107) hx hb dX8_deals_103 (by decide) ?_
  exact w_X8_deals_107 C hK47 hf hs (lv_sub hl [0, 1, 2, 3, 4, 5] rfl)
def f_X8_deals_84 (K47 : cb_St → Int32 → Int32 → Int32 → Int32 → Option (Int32 × cb_St)) (x1 : Int32) (x2 : Int32) (σ : cb_St) (x3 : Int32) (x4 : Int32) (x5 : Int32) (x6 : Int32) (s0 : Int32) : Option (Int32 × cb_St) := if x5 = 0 then (f_X8_deals_106 K47 x1 x2 σ x3 x6 s0) else (if x3 = 0 then (f_X8_deals_102 K47 x1 x2 σ x3 x6 s0) else (if s0 = x4 then (f_X8_deals_102 K47 x1 x2 σ x3 x6 s0) else (f_X8_deals_106 K47 x1 x2 σ x3 x6 s0)))
set_option maxHeartbeats 4000000 in
set_option maxRecDepth 100000 in
theorem w_X8_deals_84 (C : cb_C p s m args meth c cX8_deals 8 (some .int) RX8 D T) {K47 : cb_St → Int32 → Int32 → Int32 → Int32 → Option (Int32 × cb_St)} {x1 : Int32} {x2 : Int32} {o : Int32 × cb_St} (hK47 : ∀ (σ : cb_St) (x3 : Int32) (x4 : Int32) (x5 : Int32) (x6 : Int32), K47 σ x3 x4 x5 x6 = some o → ∀ (H : Heap) (locs : List Loc) (ls : Array Slot), cb_H shM A T D σ s.heap H locs → lv_has ls 8 [(0, .ref (A 0)), (1, .int x1), (2, .int x2), (3, .int x3), (4, .int x4), (5, .int x5), (6, .int x6)] → cb_W p l e 4 s m args below meth c shM A T D (some (.int o.1)) o.2 H locs (F0 m 47 ls [])) {σ : cb_St} {x3 : Int32} {x4 : Int32} {x5 : Int32} {x6 : Int32} {s0 : Int32} (hf : f_X8_deals_84 K47 x1 x2 σ x3 x4 x5 x6 s0 = some o) {H : Heap} {locs : List Loc} {ls : Array Slot} (hs : cb_H shM A T D σ s.heap H locs) (hl : lv_has ls 8 [(0, .ref (A 0)), (1, .int x1), (2, .int x2), (3, .int x3), (4, .int x4), (5, .int x5), (6, .int x6)]) : cb_W p l e 4 s m args below meth c shM A T D (some (.int o.1)) o.2 H locs (F0 m 84 ls [.int s0]) := by
  obtain ⟨hx, hb, hml, hr, hown, hts, hK, hlk, hN⟩ := id C
  unfold f_X8_deals_84 at hf
  refine lv_istore (lv' := [(7, .int s0), (0, .ref (A 0)), (1, .int x1), (2, .int x2), (3, .int x3), (4, .int x4), (5, .int x5), (6, .int x6)]) hx hb dX8_deals_84 hl (by decide) rfl (fun ls hl => ?_)
  refine lv_iload hx hb dX8_deals_86 (lv_at hl 6 rfl) ?_
  refine lv_if_eq (tgt := 106) hx hb dX8_deals_88 (by decide) (fun cn => ?_) (fun cn => ?_)
  · replace hf := cb_ifp cn hf
    exact w_X8_deals_106 C hK47 hf hs (lv_sub hl [1, 2, 3, 4, 7, 0] rfl)
  · replace hf := cb_ifn cn hf
    refine lv_iload_n hx hb dX8_deals_91 rfl (lv_at hl 4 rfl) ?_
    refine lv_if_eq (tgt := 102) hx hb dX8_deals_92 (by decide) (fun cn => ?_) (fun cn => ?_)
    · replace hf := cb_ifp cn hf
      exact w_X8_deals_102 C hK47 hf hs (lv_sub hl [1, 2, 3, 4, 7, 0] rfl)
    · replace hf := cb_ifn cn hf
      refine lv_iload hx hb dX8_deals_95 (lv_at hl 0 rfl) ?_
      refine lv_iload hx hb dX8_deals_97 (lv_at hl 5 rfl) ?_
      refine lv_icmp_ne (tgt := 106) hx hb dX8_deals_99 (by decide) (fun cn => ?_) (fun cn => ?_)
      · replace hf := cb_ifn cn hf
        exact w_X8_deals_106 C hK47 hf hs (lv_sub hl [1, 2, 3, 4, 7, 0] rfl)
      · replace hf := cb_ifp cn hf
        exact w_X8_deals_102 C hK47 hf hs (lv_sub hl [1, 2, 3, 4, 7, 0] rfl)
def f_X8_deals_47 (x1 : Int32) (x2 : Int32) : Nat → cb_St → Int32 → Int32 → Int32 → Int32 → Option (Int32 × cb_St)
  | 0, _, _, _, _, _ => none
  | fu + 1, σ, x3, x4, x5, x6 => cb_bp (f_X8_power 5 (σ.1 0 33) σ) (fun r_1 => if r_1 ≤ x6 then (if x2 = (-1) then (some (x3, σ)) else (if x5 = 0 then (some ((-1), σ)) else (some (x4, σ)))) else (cb_bi (f_X8_dealsBy x6 σ) (fun r_2 σ_3 => if r_2 = 0 then (f_X8_deals_116 (f_X8_deals_47 x1 x2 fu) x1 x2 σ_3 x3 x4 x5 x6) else (if x2 = (-1) then (f_X8_deals_84 (f_X8_deals_47 x1 x2 fu) x1 x2 σ_3 x3 x4 x5 x6 (-1)) else (cb_ck (0 ≤ Int32.toInt x2 ∧ Int32.toInt x2 < 6) (f_X8_deals_84 (f_X8_deals_47 x1 x2 fu) x1 x2 σ_3 x3 x4 x5 x6 (σ_3.1 16 (Int32.toNatClampNeg x2))))))))
set_option maxHeartbeats 4000000 in
set_option maxRecDepth 100000 in
theorem w_X8_deals_47 (C : cb_C p s m args meth c cX8_deals 8 (some .int) RX8 D T) {x1 : Int32} {x2 : Int32} {o : Int32 × cb_St}  : ∀ (fu : Nat) (σ : cb_St) (x3 : Int32) (x4 : Int32) (x5 : Int32) (x6 : Int32), f_X8_deals_47 x1 x2 fu σ x3 x4 x5 x6 = some o → ∀ (H : Heap) (locs : List Loc) (ls : Array Slot), cb_H shM A T D σ s.heap H locs → lv_has ls 8 [(0, .ref (A 0)), (1, .int x1), (2, .int x2), (3, .int x3), (4, .int x4), (5, .int x5), (6, .int x6)] → cb_W p l e 4 s m args below meth c shM A T D (some (.int o.1)) o.2 H locs (F0 m 47 ls []) := by
  obtain ⟨hx, hb, hml, hr, hown, hts, hK, hlk, hN⟩ := id C
  intro fu
  induction fu with
  | zero =>
    intro σ x3 x4 x5 x6 hf
    rw [f_X8_deals_47] at hf
    cases hf
  | succ fu ih =>
    intro σ x3 x4 x5 x6 hf H locs ls hs hl
    rw [f_X8_deals_47] at hf
    refine lv_iload hx hb dX8_deals_47 (lv_at hl 6 rfl) ?_
    refine lv_iconst (v := 5) hx hb dX8_deals_49 (by decide) ?_
    refine lv_aload_n hx hb dX8_deals_50 rfl (lv_at hl 0 rfl) ?_
    refine gf_X8_306 C hs rfl dX8_deals_51 ?_
    obtain ⟨r_1, hc, hf⟩ := cb_bp_inv hf
    refine cb_callSi C (c_X8_power  hc) mw_X8_power ml_X8_281 rfl ⟨Nat.le_of_ble_eq_true rfl, Nat.le_of_ble_eq_true rfl⟩ hs hl rfl (Nat.le_of_ble_eq_true rfl) dX8_deals_54 (fun H locs hs => ?_)
    clear hc
    refine lv_icmp_ge (tgt := 122) hx hb dX8_deals_57 (by decide) (fun cn => ?_) (fun cn => ?_)
    · replace hf := cb_ifp cn hf
      refine lv_iload_n hx hb dX8_deals_122 rfl (lv_at hl 2 rfl) ?_
      refine lv_iconst (v := (-1)) hx hb dX8_deals_123 (by decide) ?_
      refine lv_icmp_ne (tgt := 131) hx hb dX8_deals_124 (by decide) (fun cn => ?_) (fun cn => ?_)
      · replace hf := cb_ifn cn hf
        refine lv_iload hx hb dX8_deals_131 (lv_at hl 5 rfl) ?_
        refine lv_if_eq (tgt := 141) hx hb dX8_deals_133 (by decide) (fun cn => ?_) (fun cn => ?_)
        · replace hf := cb_ifp cn hf
          refine lv_iconst (v := (-1)) hx hb dX8_deals_141 (by decide) ?_
          have hf := Option.some.inj hf
          subst hf
          exact cb_reti C hs dX8_deals_142
        · replace hf := cb_ifn cn hf
          refine lv_iload hx hb dX8_deals_136 (lv_at hl 4 rfl) ?_
          refine lv_goto (tgt := 142) hx hb dX8_deals_138 (by decide) ?_
          have hf := Option.some.inj hf
          subst hf
          exact cb_reti C hs dX8_deals_142
      · replace hf := cb_ifp cn hf
        refine lv_iload_n hx hb dX8_deals_127 rfl (lv_at hl 3 rfl) ?_
        refine lv_goto (tgt := 142) hx hb dX8_deals_128 (by decide) ?_
        have hf := Option.some.inj hf
        subst hf
        exact cb_reti C hs dX8_deals_142
    · replace hf := cb_ifn cn hf
      refine lv_aload_n hx hb dX8_deals_60 rfl (lv_at hl 0 rfl) ?_
      refine lv_iload hx hb dX8_deals_61 (lv_at hl 6 rfl) ?_
      obtain ⟨r_2, σ_3, hc, hf⟩ := cb_bi_inv hf
      refine cb_callVi C (c_X8_dealsBy  hc) mw_X8_dealsBy ml_X8_314 rfl ⟨Nat.le_of_ble_eq_true rfl, Nat.le_of_ble_eq_true rfl⟩ rfl (Nat.le_of_ble_eq_true rfl) rfl hs hl rfl (Nat.le_of_ble_eq_true rfl) dX8_deals_63 (fun H locs hs => ?_)
      clear hc
      refine lv_if_eq (tgt := 116) hx hb dX8_deals_66 (by decide) (fun cn => ?_) (fun cn => ?_)
      · replace hf := cb_ifp cn hf
        exact w_X8_deals_116 C ih hf hs (lv_sub hl [0, 1, 2, 3, 4, 5, 6] rfl)
      · replace hf := cb_ifn cn hf
        refine lv_iload_n hx hb dX8_deals_69 rfl (lv_at hl 2 rfl) ?_
        refine lv_iconst (v := (-1)) hx hb dX8_deals_70 (by decide) ?_
        refine lv_icmp_ne (tgt := 78) hx hb dX8_deals_71 (by decide) (fun cn => ?_) (fun cn => ?_)
        · replace hf := cb_ifn cn hf
          refine lv_aload_n hx hb dX8_deals_78 rfl (lv_at hl 0 rfl) ?_
          refine gf_X8_59 C hs rfl dX8_deals_79 ?_
          refine lv_iload_n hx hb dX8_deals_82 rfl (lv_at hl 2 rfl) ?_
          obtain ⟨hc, hf⟩ := cb_ck_inv hf
          refine cb_iald C hs rfl (vp_in_iff.mpr hc) dX8_deals_83 ?_
          exact w_X8_deals_84 C ih hf hs (lv_sub hl [0, 1, 2, 3, 4, 5, 6] rfl)
        · replace hf := cb_ifp cn hf
          refine lv_iconst (v := (-1)) hx hb dX8_deals_74 (by decide) ?_
          refine lv_goto (tgt := 84) hx hb dX8_deals_75 (by decide) ?_
          exact w_X8_deals_84 C ih hf hs (lv_sub hl [0, 1, 2, 3, 4, 5, 6] rfl)
def f_X8_deals_16 (x1 : Int32) (x2 : Int32) (σ : cb_St) : Option (Int32 × cb_St) := cb_bp (f_X8_in (Int32.toInt64 x1) 1 5 σ) (fun r_1 => if r_1 = 0 then (some ((-1000000002), σ)) else (cb_bv (f_X8_beginDeals x1 σ) (fun σ_2 => f_X8_deals_47 x1 x2 cb_fu σ_2 0 (-1) 1 0)))
set_option maxHeartbeats 4000000 in
set_option maxRecDepth 100000 in
theorem w_X8_deals_16 (C : cb_C p s m args meth c cX8_deals 8 (some .int) RX8 D T) {x1 : Int32} {x2 : Int32} {o : Int32 × cb_St}  {σ : cb_St} (hf : f_X8_deals_16 x1 x2 σ = some o) {H : Heap} {locs : List Loc} {ls : Array Slot} (hs : cb_H shM A T D σ s.heap H locs) (hl : lv_has ls 8 [(0, .ref (A 0)), (1, .int x1), (2, .int x2)]) : cb_W p l e 4 s m args below meth c shM A T D (some (.int o.1)) o.2 H locs (F0 m 16 ls []) := by
  obtain ⟨hx, hb, hml, hr, hown, hts, hK, hlk, hN⟩ := id C
  unfold f_X8_deals_16 at hf
  refine lv_iload_n hx hb dX8_deals_16 rfl (lv_at hl 1 rfl) ?_
  refine lv_i2l hx hb dX8_deals_17 rfl ?_
  refine lv_lconst (v := 1) hx hb dX8_deals_18 (by decide) ?_
  refine lv_ldc2 (v := 5) hx hb hown (hts _ kc_X8_309) dX8_deals_19 ?_
  obtain ⟨r_1, hc, hf⟩ := cb_bp_inv hf
  refine cb_callSi C (c_X8_in  hc) mw_X8_in ml_X8_78 rfl ⟨Nat.le_of_ble_eq_true rfl, Nat.le_of_ble_eq_true rfl⟩ hs hl rfl (Nat.le_of_ble_eq_true rfl) dX8_deals_22 (fun H locs hs => ?_)
  clear hc
  refine lv_if_ne (tgt := 31) hx hb dX8_deals_25 (by decide) (fun cn => ?_) (fun cn => ?_)
  · replace hf := cb_ifn cn hf
    refine lv_aload_n hx hb dX8_deals_31 rfl (lv_at hl 0 rfl) ?_
    refine lv_iload_n hx hb dX8_deals_32 rfl (lv_at hl 1 rfl) ?_
    obtain ⟨σ_2, hc, hf⟩ := cb_bv_inv hf
    refine cb_callVv C (c_X8_beginDeals  hc) mw_X8_beginDeals ml_X8_311 rfl ⟨Nat.le_of_ble_eq_true rfl, Nat.le_of_ble_eq_true rfl⟩ rfl (Nat.le_of_ble_eq_true rfl) rfl hs hl rfl (Nat.le_of_ble_eq_true rfl) dX8_deals_33 (fun H locs hs => ?_)
    clear hc
    refine lv_iconst (v := 0) hx hb dX8_deals_36 (by decide) ?_
    refine lv_istore_n (lv' := [(3, .int 0), (0, .ref (A 0)), (1, .int x1), (2, .int x2)]) hx hb dX8_deals_37 rfl hl (by decide) rfl (fun ls hl => ?_)
    refine lv_iconst (v := (-1)) hx hb dX8_deals_38 (by decide) ?_
    refine lv_istore (lv' := [(4, .int (-1)), (3, .int 0), (0, .ref (A 0)), (1, .int x1), (2, .int x2)]) hx hb dX8_deals_39 hl (by decide) rfl (fun ls hl => ?_)
    refine lv_iconst (v := 1) hx hb dX8_deals_41 (by decide) ?_
    refine lv_istore (lv' := [(5, .int 1), (4, .int (-1)), (3, .int 0), (0, .ref (A 0)), (1, .int x1), (2, .int x2)]) hx hb dX8_deals_42 hl (by decide) rfl (fun ls hl => ?_)
    refine lv_iconst (v := 0) hx hb dX8_deals_44 (by decide) ?_
    refine lv_istore (lv' := [(6, .int 0), (5, .int 1), (4, .int (-1)), (3, .int 0), (0, .ref (A 0)), (1, .int x1), (2, .int x2)]) hx hb dX8_deals_45 hl (by decide) rfl (fun ls hl => ?_)
    exact w_X8_deals_47 C  cb_fu _ _ _ _ _ hf _ _ _ hs (lv_sub hl [4, 5, 6, 3, 2, 1, 0] rfl)
  · replace hf := cb_ifp cn hf
    refine lv_ldc (v := (-1000000002)) hx hb hown (hts _ kc_X8_91) dX8_deals_28 ?_
    have hf := Option.some.inj hf
    subst hf
    exact cb_reti C hs dX8_deals_30
def f_X8_deals (x1 : Int32) (x2 : Int32) (σ : cb_St) : Option (Int32 × cb_St) := if x2 = (-1) then (f_X8_deals_16 x1 x2 σ) else (cb_bp (f_X8_isPerson x2 σ) (fun r_1 => if r_1 = 0 then (some ((-1000000001), σ)) else (f_X8_deals_16 x1 x2 σ)))
set_option maxHeartbeats 4000000 in
set_option maxRecDepth 100000 in
theorem c_X8_deals {x1 : Int32} {x2 : Int32}  {σ : cb_St} {o : Int32 × cb_St} (hf : f_X8_deals x1 x2 σ = some o) : cb_M l yX8_deals cX8_deals 8 (some .int) 4 shM A T D σ [.ref (A 0), .int x1, .int x2] (some (.int o.1)) o.2 := by
  refine cb_met (by decide +kernel) (Nat.le_of_ble_eq_true rfl) ?_
  intro p e s m below meth c C hs ls hl
  have hl : lv_has ls 8 [(0, .ref (A 0)), (1, .int x1), (2, .int x2)] := hl
  obtain ⟨hx, hb, hml, hr, hown, hts, hK, hlk, hN⟩ := id C
  unfold f_X8_deals at hf
  refine lv_iload_n hx hb dX8_deals_0 rfl (lv_at hl 2 rfl) ?_
  refine lv_iconst (v := (-1)) hx hb dX8_deals_1 (by decide) ?_
  refine lv_icmp_eq (tgt := 16) hx hb dX8_deals_2 (by decide) (fun cn => ?_) (fun cn => ?_)
  · replace hf := cb_ifp cn hf
    exact w_X8_deals_16 C  hf hs (lv_sub hl [0, 1, 2] rfl)
  · replace hf := cb_ifn cn hf
    refine lv_aload_n hx hb dX8_deals_5 rfl (lv_at hl 0 rfl) ?_
    refine lv_iload_n hx hb dX8_deals_6 rfl (lv_at hl 2 rfl) ?_
    obtain ⟨r_1, hc, hf⟩ := cb_bp_inv hf
    refine cb_callVi C (c_X8_isPerson  hc) mw_X8_isPerson ml_X8_82 rfl ⟨Nat.le_of_ble_eq_true rfl, Nat.le_of_ble_eq_true rfl⟩ rfl (Nat.le_of_ble_eq_true rfl) rfl hs hl rfl (Nat.le_of_ble_eq_true rfl) dX8_deals_7 (fun H locs hs => ?_)
    clear hc
    refine lv_if_ne (tgt := 16) hx hb dX8_deals_10 (by decide) (fun cn => ?_) (fun cn => ?_)
    · replace hf := cb_ifn cn hf
      exact w_X8_deals_16 C  hf hs (lv_sub hl [0, 1, 2] rfl)
    · replace hf := cb_ifp cn hf
      refine lv_ldc (v := (-1000000001)) hx hb hown (hts _ kc_X8_209) dX8_deals_13 ?_
      have hf := Option.some.inj hf
      subst hf
      exact cb_reti C hs dX8_deals_15
/-! ===== CardBecomeModel.greatestPart ===== -/
def f_X8_greatestPart_29 (K4 : Int32 → Int32 → Option (Int32)) (σ : cb_St) (x2 : Int32) (s0 : Int32) : Option (Int32) := cb_let (x2 + 1) (fun x2_0 => K4 s0 x2_0)
set_option maxHeartbeats 4000000 in
set_option maxRecDepth 100000 in
theorem w_X8_greatestPart_29 (C : cb_C p s m args meth c cX8_greatestPart 3 (some .int) RX8 D T) {K4 : Int32 → Int32 → Option (Int32)} {σ : cb_St} {o : Int32} (hK4 : ∀ (x1 : Int32) (x2 : Int32), K4 x1 x2 = some o → ∀ (H : Heap) (locs : List Loc) (ls : Array Slot), cb_H shM A T D σ s.heap H locs → lv_has ls 3 [(0, .ref (A 0)), (1, .int x1), (2, .int x2)] → cb_W p l e 1 s m args below meth c shM A T D (some (.int o)) σ H locs (F0 m 4 ls [])) {x2 : Int32} {s0 : Int32} (hf : f_X8_greatestPart_29 K4 σ x2 s0 = some o) {H : Heap} {locs : List Loc} {ls : Array Slot} (hs : cb_H shM A T D σ s.heap H locs) (hl : lv_has ls 3 [(0, .ref (A 0)), (2, .int x2)]) : cb_W p l e 1 s m args below meth c shM A T D (some (.int o)) σ H locs (F0 m 29 ls [.int s0]) := by
  obtain ⟨hx, hb, hml, hr, hown, hts, hK, hlk, hN⟩ := id C
  unfold f_X8_greatestPart_29 at hf
  refine lv_istore_n (lv' := [(1, .int s0), (0, .ref (A 0)), (2, .int x2)]) hx hb dX8_greatestPart_29 rfl hl (by decide) rfl (fun ls hl => ?_)
  obtain ⟨x2_0, e9, hf⟩ := cb_let_inv hf
  refine lv_iinc (v := x2_0) (lv' := [(2, .int x2_0), (1, .int s0), (0, .ref (A 0))]) hx hb dX8_greatestPart_30 hl (k := 2) rfl (by rw [e9]; rfl) (by decide) rfl (fun ls hl => ?_)
  clear e9
  refine lv_goto (tgt := 4) hx hb dX8_greatestPart_33 (by decide) ?_
  exact hK4 _ _ hf _ _ _ hs (lv_sub hl [2, 1, 0] rfl)
def f_X8_greatestPart_4 (σ : cb_St) : Nat → Int32 → Int32 → Option (Int32)
  | 0, _, _ => none
  | fu + 1, x1, x2 => if 3 ≤ x2 then (some x1) else (cb_ck (0 ≤ Int32.toInt x2 ∧ Int32.toInt x2 < 3) (if (σ.1 12 (Int32.toNatClampNeg x2)) ≤ x1 then (f_X8_greatestPart_29 (f_X8_greatestPart_4 σ fu) σ x2 x1) else (cb_ck (0 ≤ Int32.toInt x2 ∧ Int32.toInt x2 < 3) (f_X8_greatestPart_29 (f_X8_greatestPart_4 σ fu) σ x2 (σ.1 12 (Int32.toNatClampNeg x2))))))
set_option maxHeartbeats 4000000 in
set_option maxRecDepth 100000 in
theorem w_X8_greatestPart_4 (C : cb_C p s m args meth c cX8_greatestPart 3 (some .int) RX8 D T) {σ : cb_St} {o : Int32}  : ∀ (fu : Nat) (x1 : Int32) (x2 : Int32), f_X8_greatestPart_4 σ fu x1 x2 = some o → ∀ (H : Heap) (locs : List Loc) (ls : Array Slot), cb_H shM A T D σ s.heap H locs → lv_has ls 3 [(0, .ref (A 0)), (1, .int x1), (2, .int x2)] → cb_W p l e 1 s m args below meth c shM A T D (some (.int o)) σ H locs (F0 m 4 ls []) := by
  obtain ⟨hx, hb, hml, hr, hown, hts, hK, hlk, hN⟩ := id C
  intro fu
  induction fu with
  | zero =>
    intro x1 x2 hf
    rw [f_X8_greatestPart_4] at hf
    cases hf
  | succ fu ih =>
    intro x1 x2 hf H locs ls hs hl
    rw [f_X8_greatestPart_4] at hf
    refine lv_iload_n hx hb dX8_greatestPart_4 rfl (lv_at hl 2 rfl) ?_
    refine lv_iconst (v := 3) hx hb dX8_greatestPart_5 (by decide) ?_
    refine lv_icmp_ge (tgt := 36) hx hb dX8_greatestPart_6 (by decide) (fun cn => ?_) (fun cn => ?_)
    · replace hf := cb_ifp cn hf
      refine lv_iload_n hx hb dX8_greatestPart_36 rfl (lv_at hl 1 rfl) ?_
      have hf := Option.some.inj hf
      subst hf
      exact cb_reti C hs dX8_greatestPart_37
    · replace hf := cb_ifn cn hf
      refine lv_aload_n hx hb dX8_greatestPart_9 rfl (lv_at hl 0 rfl) ?_
      refine gf_X8_47 C hs rfl dX8_greatestPart_10 ?_
      refine lv_iload_n hx hb dX8_greatestPart_13 rfl (lv_at hl 2 rfl) ?_
      obtain ⟨hc, hf⟩ := cb_ck_inv hf
      refine cb_iald C hs rfl (vp_in_iff.mpr hc) dX8_greatestPart_14 ?_
      refine lv_iload_n hx hb dX8_greatestPart_15 rfl (lv_at hl 1 rfl) ?_
      refine lv_icmp_le (tgt := 28) hx hb dX8_greatestPart_16 (by decide) (fun cn => ?_) (fun cn => ?_)
      · replace hf := cb_ifp cn hf
        refine lv_iload_n hx hb dX8_greatestPart_28 rfl (lv_at hl 1 rfl) ?_
        exact w_X8_greatestPart_29 C ih hf hs (lv_sub hl [0, 2] rfl)
      · replace hf := cb_ifn cn hf
        refine lv_aload_n hx hb dX8_greatestPart_19 rfl (lv_at hl 0 rfl) ?_
        refine gf_X8_47 C hs rfl dX8_greatestPart_20 ?_
        refine lv_iload_n hx hb dX8_greatestPart_23 rfl (lv_at hl 2 rfl) ?_
        obtain ⟨hc, hf⟩ := cb_ck_inv hf
        refine cb_iald C hs rfl (vp_in_iff.mpr hc) dX8_greatestPart_24 ?_
        refine lv_goto (tgt := 29) hx hb dX8_greatestPart_25 (by decide) ?_
        exact w_X8_greatestPart_29 C ih hf hs (lv_sub hl [0, 2] rfl)
def f_X8_greatestPart (σ : cb_St)  : Option (Int32) := f_X8_greatestPart_4 σ cb_fu 0 0
set_option maxHeartbeats 4000000 in
set_option maxRecDepth 100000 in
theorem c_X8_greatestPart {σ : cb_St}   {o : Int32} (hf : f_X8_greatestPart σ = some o) : cb_M l yX8_greatestPart cX8_greatestPart 3 (some .int) 1 shM A T D σ [.ref (A 0)] (some (.int o)) σ := by
  refine cb_met (by decide +kernel) (Nat.le_of_ble_eq_true rfl) ?_
  intro p e s m below meth c C hs ls hl
  have hl : lv_has ls 3 [(0, .ref (A 0))] := hl
  obtain ⟨hx, hb, hml, hr, hown, hts, hK, hlk, hN⟩ := id C
  unfold f_X8_greatestPart at hf
  refine lv_iconst (v := 0) hx hb dX8_greatestPart_0 (by decide) ?_
  refine lv_istore_n (lv' := [(1, .int 0), (0, .ref (A 0))]) hx hb dX8_greatestPart_1 rfl hl (by decide) rfl (fun ls hl => ?_)
  refine lv_iconst (v := 0) hx hb dX8_greatestPart_2 (by decide) ?_
  refine lv_istore_n (lv' := [(2, .int 0), (1, .int 0), (0, .ref (A 0))]) hx hb dX8_greatestPart_3 rfl hl (by decide) rfl (fun ls hl => ?_)
  exact w_X8_greatestPart_4 C  cb_fu _ _ hf _ _ _ hs (lv_sub hl [2, 1, 0] rfl)
/-! ===== CardBecomeModel.ask ===== -/
def f_X8_ask_188 (K32 : cb_St → Int32 → Int32 → Int32 → Option (Int32 × cb_St)) (x1 : Int32) (σ : cb_St) (x2 : Int32) (x3 : Int32) (x4 : Int32) : Option (Int32 × cb_St) := cb_let (x4 + 1) (fun x4_0 => K32 σ x2 x3 x4_0)
set_option maxHeartbeats 4000000 in
set_option maxRecDepth 100000 in
theorem w_X8_ask_188 (C : cb_C p s m args meth c cX8_ask 8 (some .int) RX8 D T) {K32 : cb_St → Int32 → Int32 → Int32 → Option (Int32 × cb_St)} {x1 : Int32} {o : Int32 × cb_St} (hK32 : ∀ (σ : cb_St) (x2 : Int32) (x3 : Int32) (x4 : Int32), K32 σ x2 x3 x4 = some o → ∀ (H : Heap) (locs : List Loc) (ls : Array Slot), cb_H shM A T D σ s.heap H locs → lv_has ls 8 [(0, .ref (A 0)), (1, .int x1), (2, .int x2), (3, .int x3), (4, .int x4)] → cb_W p l e 5 s m args below meth c shM A T D (some (.int o.1)) o.2 H locs (F0 m 32 ls [])) {σ : cb_St} {x2 : Int32} {x3 : Int32} {x4 : Int32} (hf : f_X8_ask_188 K32 x1 σ x2 x3 x4 = some o) {H : Heap} {locs : List Loc} {ls : Array Slot} (hs : cb_H shM A T D σ s.heap H locs) (hl : lv_has ls 8 [(0, .ref (A 0)), (1, .int x1), (2, .int x2), (3, .int x3), (4, .int x4)]) : cb_W p l e 5 s m args below meth c shM A T D (some (.int o.1)) o.2 H locs (F0 m 188 ls []) := by
  obtain ⟨hx, hb, hml, hr, hown, hts, hK, hlk, hN⟩ := id C
  unfold f_X8_ask_188 at hf
  obtain ⟨x4_0, e9, hf⟩ := cb_let_inv hf
  refine lv_iinc (v := x4_0) (lv' := [(4, .int x4_0), (0, .ref (A 0)), (1, .int x1), (2, .int x2), (3, .int x3)]) hx hb dX8_ask_188 hl (k := 4) rfl (by rw [e9]; rfl) (by decide) rfl (fun ls hl => ?_)
  clear e9
  refine lv_goto (tgt := 32) hx hb dX8_ask_191 (by decide) ?_
  exact hK32 _ _ _ _ hf _ _ _ hs (lv_sub hl [1, 2, 3, 4, 0] rfl)
def f_X8_ask_187 (K32 : cb_St → Int32 → Int32 → Int32 → Option (Int32 × cb_St)) (x1 : Int32) (σ : cb_St) (x2 : Int32) (x4 : Int32) (s0 : Int32) : Option (Int32 × cb_St) := f_X8_ask_188 K32 x1 σ x2 s0 x4
set_option maxHeartbeats 4000000 in
set_option maxRecDepth 100000 in
theorem w_X8_ask_187 (C : cb_C p s m args meth c cX8_ask 8 (some .int) RX8 D T) {K32 : cb_St → Int32 → Int32 → Int32 → Option (Int32 × cb_St)} {x1 : Int32} {o : Int32 × cb_St} (hK32 : ∀ (σ : cb_St) (x2 : Int32) (x3 : Int32) (x4 : Int32), K32 σ x2 x3 x4 = some o → ∀ (H : Heap) (locs : List Loc) (ls : Array Slot), cb_H shM A T D σ s.heap H locs → lv_has ls 8 [(0, .ref (A 0)), (1, .int x1), (2, .int x2), (3, .int x3), (4, .int x4)] → cb_W p l e 5 s m args below meth c shM A T D (some (.int o.1)) o.2 H locs (F0 m 32 ls [])) {σ : cb_St} {x2 : Int32} {x4 : Int32} {s0 : Int32} (hf : f_X8_ask_187 K32 x1 σ x2 x4 s0 = some o) {H : Heap} {locs : List Loc} {ls : Array Slot} (hs : cb_H shM A T D σ s.heap H locs) (hl : lv_has ls 8 [(0, .ref (A 0)), (1, .int x1), (2, .int x2), (4, .int x4)]) : cb_W p l e 5 s m args below meth c shM A T D (some (.int o.1)) o.2 H locs (F0 m 187 ls [.int s0]) := by
  obtain ⟨hx, hb, hml, hr, hown, hts, hK, hlk, hN⟩ := id C
  unfold f_X8_ask_187 at hf
  refine lv_istore_n (lv' := [(3, .int s0), (0, .ref (A 0)), (1, .int x1), (2, .int x2), (4, .int x4)]) hx hb dX8_ask_187 rfl hl (by decide) rfl (fun ls hl => ?_)
  exact w_X8_ask_188 C hK32 hf hs (lv_sub hl [1, 2, 3, 0, 4] rfl)
def f_X8_ask_174 (K32 : cb_St → Int32 → Int32 → Int32 → Option (Int32 × cb_St)) (x1 : Int32) (σ : cb_St) (x3 : Int32) (x4 : Int32) (x7 : Int32) (s0 : Int32) : Option (Int32 × cb_St) := if x3 ≤ x7 then (f_X8_ask_187 K32 x1 σ s0 x4 x3) else (f_X8_ask_187 K32 x1 σ s0 x4 x7)
set_option maxHeartbeats 4000000 in
set_option maxRecDepth 100000 in
theorem w_X8_ask_174 (C : cb_C p s m args meth c cX8_ask 8 (some .int) RX8 D T) {K32 : cb_St → Int32 → Int32 → Int32 → Option (Int32 × cb_St)} {x1 : Int32} {o : Int32 × cb_St} (hK32 : ∀ (σ : cb_St) (x2 : Int32) (x3 : Int32) (x4 : Int32), K32 σ x2 x3 x4 = some o → ∀ (H : Heap) (locs : List Loc) (ls : Array Slot), cb_H shM A T D σ s.heap H locs → lv_has ls 8 [(0, .ref (A 0)), (1, .int x1), (2, .int x2), (3, .int x3), (4, .int x4)] → cb_W p l e 5 s m args below meth c shM A T D (some (.int o.1)) o.2 H locs (F0 m 32 ls [])) {σ : cb_St} {x3 : Int32} {x4 : Int32} {x7 : Int32} {s0 : Int32} (hf : f_X8_ask_174 K32 x1 σ x3 x4 x7 s0 = some o) {H : Heap} {locs : List Loc} {ls : Array Slot} (hs : cb_H shM A T D σ s.heap H locs) (hl : lv_has ls 8 [(0, .ref (A 0)), (1, .int x1), (3, .int x3), (4, .int x4), (7, .int x7)]) : cb_W p l e 5 s m args below meth c shM A T D (some (.int o.1)) o.2 H locs (F0 m 174 ls [.int s0]) := by
  obtain ⟨hx, hb, hml, hr, hown, hts, hK, hlk, hN⟩ := id C
  unfold f_X8_ask_174 at hf
  refine lv_istore_n (lv' := [(2, .int s0), (0, .ref (A 0)), (1, .int x1), (3, .int x3), (4, .int x4), (7, .int x7)]) hx hb dX8_ask_174 rfl hl (by decide) rfl (fun ls hl => ?_)
  refine lv_iload hx hb dX8_ask_175 (lv_at hl 5 rfl) ?_
  refine lv_iload_n hx hb dX8_ask_177 rfl (lv_at hl 3 rfl) ?_
  refine lv_icmp_ge (tgt := 186) hx hb dX8_ask_178 (by decide) (fun cn => ?_) (fun cn => ?_)
  · replace hf := cb_ifp cn hf
    refine lv_iload_n hx hb dX8_ask_186 rfl (lv_at hl 3 rfl) ?_
    exact w_X8_ask_187 C hK32 hf hs (lv_sub hl [1, 2, 0, 4] rfl)
  · replace hf := cb_ifn cn hf
    refine lv_iload hx hb dX8_ask_181 (lv_at hl 5 rfl) ?_
    refine lv_goto (tgt := 187) hx hb dX8_ask_183 (by decide) ?_
    exact w_X8_ask_187 C hK32 hf hs (lv_sub hl [1, 2, 0, 4] rfl)
def f_X8_ask_144 (K32 : cb_St → Int32 → Int32 → Int32 → Option (Int32 × cb_St)) (K95 : cb_St → Int32 → Int32 → Int32 → Int32 → Int32 → Int32 → Option (Int32 × cb_St)) (x1 : Int32) (σ : cb_St) (x2 : Int32) (x3 : Int32) (x4 : Int32) (x5 : Int32) (x6 : Int32) (x7 : Int32) : Option (Int32 × cb_St) := cb_let (x7 + 1) (fun x7_0 => K95 σ x2 x3 x4 x5 x6 x7_0)
set_option maxHeartbeats 4000000 in
set_option maxRecDepth 100000 in
theorem w_X8_ask_144 (C : cb_C p s m args meth c cX8_ask 8 (some .int) RX8 D T) {K32 : cb_St → Int32 → Int32 → Int32 → Option (Int32 × cb_St)} {K95 : cb_St → Int32 → Int32 → Int32 → Int32 → Int32 → Int32 → Option (Int32 × cb_St)} {x1 : Int32} {o : Int32 × cb_St} (hK32 : ∀ (σ : cb_St) (x2 : Int32) (x3 : Int32) (x4 : Int32), K32 σ x2 x3 x4 = some o → ∀ (H : Heap) (locs : List Loc) (ls : Array Slot), cb_H shM A T D σ s.heap H locs → lv_has ls 8 [(0, .ref (A 0)), (1, .int x1), (2, .int x2), (3, .int x3), (4, .int x4)] → cb_W p l e 5 s m args below meth c shM A T D (some (.int o.1)) o.2 H locs (F0 m 32 ls [])) (hK95 : ∀ (σ : cb_St) (x2 : Int32) (x3 : Int32) (x4 : Int32) (x5 : Int32) (x6 : Int32) (x7 : Int32), K95 σ x2 x3 x4 x5 x6 x7 = some o → ∀ (H : Heap) (locs : List Loc) (ls : Array Slot), cb_H shM A T D σ s.heap H locs → lv_has ls 8 [(0, .ref (A 0)), (1, .int x1), (2, .int x2), (3, .int x3), (4, .int x4), (5, .int x5), (6, .int x6), (7, .int x7)] → cb_W p l e 5 s m args below meth c shM A T D (some (.int o.1)) o.2 H locs (F0 m 95 ls [])) {σ : cb_St} {x2 : Int32} {x3 : Int32} {x4 : Int32} {x5 : Int32} {x6 : Int32} {x7 : Int32} (hf : f_X8_ask_144 K32 K95 x1 σ x2 x3 x4 x5 x6 x7 = some o) {H : Heap} {locs : List Loc} {ls : Array Slot} (hs : cb_H shM A T D σ s.heap H locs) (hl : lv_has ls 8 [(0, .ref (A 0)), (1, .int x1), (2, .int x2), (3, .int x3), (4, .int x4), (5, .int x5), (6, .int x6), (7, .int x7)]) : cb_W p l e 5 s m args below meth c shM A T D (some (.int o.1)) o.2 H locs (F0 m 144 ls []) := by
  obtain ⟨hx, hb, hml, hr, hown, hts, hK, hlk, hN⟩ := id C
  unfold f_X8_ask_144 at hf
  obtain ⟨x7_0, e9, hf⟩ := cb_let_inv hf
  refine lv_iinc (v := x7_0) (lv' := [(7, .int x7_0), (0, .ref (A 0)), (1, .int x1), (2, .int x2), (3, .int x3), (4, .int x4), (5, .int x5), (6, .int x6)]) hx hb dX8_ask_144 hl (k := 7) rfl (by rw [e9]; rfl) (by decide) rfl (fun ls hl => ?_)
  clear e9
  refine lv_goto (tgt := 95) hx hb dX8_ask_147 (by decide) ?_
  exact hK95 _ _ _ _ _ _ _ hf _ _ _ hs (lv_sub hl [1, 2, 3, 4, 5, 6, 7, 0] rfl)
def f_X8_ask_95 (K32 : cb_St → Int32 → Int32 → Int32 → Option (Int32 × cb_St)) (x1 : Int32) : Nat → cb_St → Int32 → Int32 → Int32 → Int32 → Int32 → Int32 → Option (Int32 × cb_St)
  | 0, _, _, _, _, _, _, _ => none
  | fu + 1, σ, x2, x3, x4, x5, x6, x7 => cb_bp (f_X8_power 5 (σ.1 0 33) σ) (fun r_1 => if r_1 ≤ x7 then (cb_bp (f_X8_greatestPart σ) (fun r_2 => if x3 ≤ r_2 then (f_X8_ask_174 K32 x1 σ x3 x4 r_2 x2) else (f_X8_ask_174 K32 x1 σ x3 x4 r_2 ((10 * x5) + x6)))) else (cb_bi (f_X8_dealsBy x7 σ) (fun r_3 σ_4 => if r_3 = 0 then (f_X8_ask_144 K32 (f_X8_ask_95 K32 x1 fu) x1 σ_4 x2 x3 x4 x5 x6 x7) else (cb_ck (0 ≤ Int32.toInt x5 ∧ Int32.toInt x5 < 6) (cb_ck (0 ≤ Int32.toInt x6 ∧ Int32.toInt x6 < 6) (cb_bp (f_X8_cardsMeet (σ_4.1 16 (Int32.toNatClampNeg x5)) (σ_4.1 16 (Int32.toNatClampNeg x6)) σ_4) (fun r_5 => cb_ck (0 ≤ Int32.toInt r_5 ∧ Int32.toInt r_5 < 3) (cb_ck (0 ≤ Int32.toInt r_5 ∧ Int32.toInt r_5 < 3) (cb_let (cb_sI σ_4 12 (Int32.toNatClampNeg r_5) ((σ_4.1 12 (Int32.toNatClampNeg r_5)) + 1)) (fun σ_6 => f_X8_ask_144 K32 (f_X8_ask_95 K32 x1 fu) x1 σ_6 x2 x3 x4 x5 x6 x7))))))))))
set_option maxHeartbeats 4000000 in
set_option maxRecDepth 100000 in
theorem w_X8_ask_95 (C : cb_C p s m args meth c cX8_ask 8 (some .int) RX8 D T) {K32 : cb_St → Int32 → Int32 → Int32 → Option (Int32 × cb_St)} {x1 : Int32} {o : Int32 × cb_St} (hK32 : ∀ (σ : cb_St) (x2 : Int32) (x3 : Int32) (x4 : Int32), K32 σ x2 x3 x4 = some o → ∀ (H : Heap) (locs : List Loc) (ls : Array Slot), cb_H shM A T D σ s.heap H locs → lv_has ls 8 [(0, .ref (A 0)), (1, .int x1), (2, .int x2), (3, .int x3), (4, .int x4)] → cb_W p l e 5 s m args below meth c shM A T D (some (.int o.1)) o.2 H locs (F0 m 32 ls [])) : ∀ (fu : Nat) (σ : cb_St) (x2 : Int32) (x3 : Int32) (x4 : Int32) (x5 : Int32) (x6 : Int32) (x7 : Int32), f_X8_ask_95 K32 x1 fu σ x2 x3 x4 x5 x6 x7 = some o → ∀ (H : Heap) (locs : List Loc) (ls : Array Slot), cb_H shM A T D σ s.heap H locs → lv_has ls 8 [(0, .ref (A 0)), (1, .int x1), (2, .int x2), (3, .int x3), (4, .int x4), (5, .int x5), (6, .int x6), (7, .int x7)] → cb_W p l e 5 s m args below meth c shM A T D (some (.int o.1)) o.2 H locs (F0 m 95 ls []) := by
  obtain ⟨hx, hb, hml, hr, hown, hts, hK, hlk, hN⟩ := id C
  intro fu
  induction fu with
  | zero =>
    intro σ x2 x3 x4 x5 x6 x7 hf
    rw [f_X8_ask_95] at hf
    cases hf
  | succ fu ih =>
    intro σ x2 x3 x4 x5 x6 x7 hf H locs ls hs hl
    rw [f_X8_ask_95] at hf
    refine lv_iload hx hb dX8_ask_95 (lv_at hl 7 rfl) ?_
    refine lv_iconst (v := 5) hx hb dX8_ask_97 (by decide) ?_
    refine lv_aload_n hx hb dX8_ask_98 rfl (lv_at hl 0 rfl) ?_
    refine gf_X8_306 C hs rfl dX8_ask_99 ?_
    obtain ⟨r_1, hc, hf⟩ := cb_bp_inv hf
    refine cb_callSi C (c_X8_power  hc) mw_X8_power ml_X8_281 rfl ⟨Nat.le_of_ble_eq_true rfl, Nat.le_of_ble_eq_true rfl⟩ hs hl rfl (Nat.le_of_ble_eq_true rfl) dX8_ask_102 (fun H locs hs => ?_)
    clear hc
    refine lv_icmp_ge (tgt := 150) hx hb dX8_ask_105 (by decide) (fun cn => ?_) (fun cn => ?_)
    · replace hf := cb_ifp cn hf
      refine lv_aload_n hx hb dX8_ask_150 rfl (lv_at hl 0 rfl) ?_
      obtain ⟨r_2, hc, hf⟩ := cb_bp_inv hf
      refine cb_callVi C (c_X8_greatestPart  hc) mw_X8_greatestPart ml_X8_296 rfl ⟨Nat.le_of_ble_eq_true rfl, Nat.le_of_ble_eq_true rfl⟩ rfl (Nat.le_of_ble_eq_true rfl) rfl hs hl rfl (Nat.le_of_ble_eq_true rfl) dX8_ask_151 (fun H locs hs => ?_)
      clear hc
      refine lv_istore (lv' := [(7, .int r_2), (0, .ref (A 0)), (1, .int x1), (2, .int x2), (3, .int x3), (4, .int x4), (5, .int x5), (6, .int x6)]) hx hb dX8_ask_154 hl (by decide) rfl (fun ls hl => ?_)
      refine lv_iload hx hb dX8_ask_156 (lv_at hl 0 rfl) ?_
      refine lv_iload_n hx hb dX8_ask_158 rfl (lv_at hl 4 rfl) ?_
      refine lv_icmp_ge (tgt := 173) hx hb dX8_ask_159 (by decide) (fun cn => ?_) (fun cn => ?_)
      · replace hf := cb_ifp cn hf
        refine lv_iload_n hx hb dX8_ask_173 rfl (lv_at hl 3 rfl) ?_
        exact w_X8_ask_174 C hK32 hf hs (lv_sub hl [1, 2, 4, 5, 0] rfl)
      · replace hf := cb_ifn cn hf
        refine lv_bipush (v := 10) hx hb dX8_ask_162 (by decide) ?_
        refine lv_iload hx hb dX8_ask_164 (lv_at hl 6 rfl) ?_
        refine lv_imul hx hb dX8_ask_166 ?_
        refine lv_iload hx hb dX8_ask_167 (lv_at hl 7 rfl) ?_
        refine lv_iadd hx hb dX8_ask_169 ?_
        refine lv_goto (tgt := 174) hx hb dX8_ask_170 (by decide) ?_
        exact w_X8_ask_174 C hK32 hf hs (lv_sub hl [1, 2, 4, 5, 0] rfl)
    · replace hf := cb_ifn cn hf
      refine lv_aload_n hx hb dX8_ask_108 rfl (lv_at hl 0 rfl) ?_
      refine lv_iload hx hb dX8_ask_109 (lv_at hl 7 rfl) ?_
      obtain ⟨r_3, σ_4, hc, hf⟩ := cb_bi_inv hf
      refine cb_callVi C (c_X8_dealsBy  hc) mw_X8_dealsBy ml_X8_314 rfl ⟨Nat.le_of_ble_eq_true rfl, Nat.le_of_ble_eq_true rfl⟩ rfl (Nat.le_of_ble_eq_true rfl) rfl hs hl rfl (Nat.le_of_ble_eq_true rfl) dX8_ask_111 (fun H locs hs => ?_)
      clear hc
      refine lv_if_eq (tgt := 144) hx hb dX8_ask_114 (by decide) (fun cn => ?_) (fun cn => ?_)
      · replace hf := cb_ifp cn hf
        exact w_X8_ask_144 C hK32 ih hf hs (lv_sub hl [0, 1, 2, 3, 4, 5, 6, 7] rfl)
      · replace hf := cb_ifn cn hf
        refine lv_aload_n hx hb dX8_ask_117 rfl (lv_at hl 0 rfl) ?_
        refine gf_X8_47 C hs rfl dX8_ask_118 ?_
        refine lv_aload_n hx hb dX8_ask_121 rfl (lv_at hl 0 rfl) ?_
        refine lv_aload_n hx hb dX8_ask_122 rfl (lv_at hl 0 rfl) ?_
        refine gf_X8_59 C hs rfl dX8_ask_123 ?_
        refine lv_iload hx hb dX8_ask_126 (lv_at hl 5 rfl) ?_
        obtain ⟨hc, hf⟩ := cb_ck_inv hf
        refine cb_iald C hs rfl (vp_in_iff.mpr hc) dX8_ask_128 ?_
        refine lv_aload_n hx hb dX8_ask_129 rfl (lv_at hl 0 rfl) ?_
        refine gf_X8_59 C hs rfl dX8_ask_130 ?_
        refine lv_iload hx hb dX8_ask_133 (lv_at hl 6 rfl) ?_
        obtain ⟨hc, hf⟩ := cb_ck_inv hf
        refine cb_iald C hs rfl (vp_in_iff.mpr hc) dX8_ask_135 ?_
        obtain ⟨r_5, hc, hf⟩ := cb_bp_inv hf
        refine cb_callVi C (c_X8_cardsMeet  hc) mw_X8_cardsMeet ml_X8_174 rfl ⟨Nat.le_of_ble_eq_true rfl, Nat.le_of_ble_eq_true rfl⟩ rfl (Nat.le_of_ble_eq_true rfl) rfl hs hl rfl (Nat.le_of_ble_eq_true rfl) dX8_ask_136 (fun H locs hs => ?_)
        clear hc
        refine lv_dup2_11 hx hb dX8_ask_139 rfl rfl ?_
        obtain ⟨hc, hf⟩ := cb_ck_inv hf
        refine cb_iald C hs rfl (vp_in_iff.mpr hc) dX8_ask_140 ?_
        refine lv_iconst (v := 1) hx hb dX8_ask_141 (by decide) ?_
        refine lv_iadd hx hb dX8_ask_142 ?_
        obtain ⟨hc, hf⟩ := cb_ck_inv hf
        refine cb_iast C hs rfl (vp_in_iff.mpr hc) dX8_ask_143 (fun H locs hs => ?_)
        obtain ⟨σ_6, e9, hf⟩ := cb_let_inv hf
        replace hs := cb_Hc e9 hs
        clear e9
        exact w_X8_ask_144 C hK32 ih hf hs (lv_sub hl [0, 1, 2, 3, 4, 5, 6, 7] rfl)
def f_X8_ask_72 (K32 : cb_St → Int32 → Int32 → Int32 → Option (Int32 × cb_St)) (x1 : Int32) : Nat → cb_St → Int32 → Int32 → Int32 → Int32 → Int32 → Int32 → Option (Int32 × cb_St)
  | 0, _, _, _, _, _, _, _ => none
  | fu + 1, σ, x2, x3, x4, x5, x6, x7 => if 3 ≤ x7 then (f_X8_ask_95 K32 x1 cb_fu σ x2 x3 x4 x5 x6 0) else (cb_ck (0 ≤ Int32.toInt x7 ∧ Int32.toInt x7 < 3) (cb_let (cb_sI σ 12 (Int32.toNatClampNeg x7) 0) (fun σ_1 => cb_let (x7 + 1) (fun x7_1 => f_X8_ask_72 K32 x1 fu σ_1 x2 x3 x4 x5 x6 x7_1))))
set_option maxHeartbeats 4000000 in
set_option maxRecDepth 100000 in
theorem w_X8_ask_72 (C : cb_C p s m args meth c cX8_ask 8 (some .int) RX8 D T) {K32 : cb_St → Int32 → Int32 → Int32 → Option (Int32 × cb_St)} {x1 : Int32} {o : Int32 × cb_St} (hK32 : ∀ (σ : cb_St) (x2 : Int32) (x3 : Int32) (x4 : Int32), K32 σ x2 x3 x4 = some o → ∀ (H : Heap) (locs : List Loc) (ls : Array Slot), cb_H shM A T D σ s.heap H locs → lv_has ls 8 [(0, .ref (A 0)), (1, .int x1), (2, .int x2), (3, .int x3), (4, .int x4)] → cb_W p l e 5 s m args below meth c shM A T D (some (.int o.1)) o.2 H locs (F0 m 32 ls [])) : ∀ (fu : Nat) (σ : cb_St) (x2 : Int32) (x3 : Int32) (x4 : Int32) (x5 : Int32) (x6 : Int32) (x7 : Int32), f_X8_ask_72 K32 x1 fu σ x2 x3 x4 x5 x6 x7 = some o → ∀ (H : Heap) (locs : List Loc) (ls : Array Slot), cb_H shM A T D σ s.heap H locs → lv_has ls 8 [(0, .ref (A 0)), (1, .int x1), (2, .int x2), (3, .int x3), (4, .int x4), (5, .int x5), (6, .int x6), (7, .int x7)] → cb_W p l e 5 s m args below meth c shM A T D (some (.int o.1)) o.2 H locs (F0 m 72 ls []) := by
  obtain ⟨hx, hb, hml, hr, hown, hts, hK, hlk, hN⟩ := id C
  intro fu
  induction fu with
  | zero =>
    intro σ x2 x3 x4 x5 x6 x7 hf
    rw [f_X8_ask_72] at hf
    cases hf
  | succ fu ih =>
    intro σ x2 x3 x4 x5 x6 x7 hf H locs ls hs hl
    rw [f_X8_ask_72] at hf
    refine lv_iload hx hb dX8_ask_72 (lv_at hl 7 rfl) ?_
    refine lv_iconst (v := 3) hx hb dX8_ask_74 (by decide) ?_
    refine lv_icmp_ge (tgt := 92) hx hb dX8_ask_75 (by decide) (fun cn => ?_) (fun cn => ?_)
    · replace hf := cb_ifp cn hf
      refine lv_iconst (v := 0) hx hb dX8_ask_92 (by decide) ?_
      refine lv_istore (lv' := [(7, .int 0), (0, .ref (A 0)), (1, .int x1), (2, .int x2), (3, .int x3), (4, .int x4), (5, .int x5), (6, .int x6)]) hx hb dX8_ask_93 hl (by decide) rfl (fun ls hl => ?_)
      exact w_X8_ask_95 C hK32 cb_fu _ _ _ _ _ _ _ hf _ _ _ hs (lv_sub hl [1, 2, 3, 4, 5, 6, 7, 0] rfl)
    · replace hf := cb_ifn cn hf
      refine lv_aload_n hx hb dX8_ask_78 rfl (lv_at hl 0 rfl) ?_
      refine gf_X8_47 C hs rfl dX8_ask_79 ?_
      refine lv_iload hx hb dX8_ask_82 (lv_at hl 7 rfl) ?_
      refine lv_iconst (v := 0) hx hb dX8_ask_84 (by decide) ?_
      obtain ⟨hc, hf⟩ := cb_ck_inv hf
      refine cb_iast C hs rfl (vp_in_iff.mpr hc) dX8_ask_85 (fun H locs hs => ?_)
      obtain ⟨σ_1, e9, hf⟩ := cb_let_inv hf
      replace hs := cb_Hc e9 hs
      clear e9
      obtain ⟨x7_1, e9, hf⟩ := cb_let_inv hf
      refine lv_iinc (v := x7_1) (lv' := [(7, .int x7_1), (0, .ref (A 0)), (1, .int x1), (2, .int x2), (3, .int x3), (4, .int x4), (5, .int x5), (6, .int x6)]) hx hb dX8_ask_86 hl (k := 7) rfl (by rw [e9]; rfl) (by decide) rfl (fun ls hl => ?_)
      clear e9
      refine lv_goto (tgt := 72) hx hb dX8_ask_89 (by decide) ?_
      exact ih _ _ _ _ _ _ _ hf _ _ _ hs (lv_sub hl [1, 2, 3, 4, 5, 6, 7, 0] rfl)
def f_X8_ask_32 (x1 : Int32) : Nat → cb_St → Int32 → Int32 → Int32 → Option (Int32 × cb_St)
  | 0, _, _, _, _ => none
  | fu + 1, σ, x2, x3, x4 => if 36 ≤ x4 then (some (x2, σ)) else (cb_let (x4 / 6) (fun x5_0 => cb_let (x4 - x4 / 6 * 6) (fun x6_1 => if x6_1 ≤ x5_0 then (f_X8_ask_188 (f_X8_ask_32 x1 fu) x1 σ x2 x3 x4) else (if (σ.1 0 33) ≤ x6_1 then (f_X8_ask_188 (f_X8_ask_32 x1 fu) x1 σ x2 x3 x4) else (f_X8_ask_72 (f_X8_ask_32 x1 fu) x1 cb_fu σ x2 x3 x4 x5_0 x6_1 0)))))
set_option maxHeartbeats 4000000 in
set_option maxRecDepth 100000 in
theorem w_X8_ask_32 (C : cb_C p s m args meth c cX8_ask 8 (some .int) RX8 D T) {x1 : Int32} {o : Int32 × cb_St}  : ∀ (fu : Nat) (σ : cb_St) (x2 : Int32) (x3 : Int32) (x4 : Int32), f_X8_ask_32 x1 fu σ x2 x3 x4 = some o → ∀ (H : Heap) (locs : List Loc) (ls : Array Slot), cb_H shM A T D σ s.heap H locs → lv_has ls 8 [(0, .ref (A 0)), (1, .int x1), (2, .int x2), (3, .int x3), (4, .int x4)] → cb_W p l e 5 s m args below meth c shM A T D (some (.int o.1)) o.2 H locs (F0 m 32 ls []) := by
  obtain ⟨hx, hb, hml, hr, hown, hts, hK, hlk, hN⟩ := id C
  intro fu
  induction fu with
  | zero =>
    intro σ x2 x3 x4 hf
    rw [f_X8_ask_32] at hf
    cases hf
  | succ fu ih =>
    intro σ x2 x3 x4 hf H locs ls hs hl
    rw [f_X8_ask_32] at hf
    refine lv_iload hx hb dX8_ask_32 (lv_at hl 4 rfl) ?_
    refine lv_bipush (v := 36) hx hb dX8_ask_34 (by decide) ?_
    refine lv_icmp_ge (tgt := 194) hx hb dX8_ask_36 (by decide) (fun cn => ?_) (fun cn => ?_)
    · replace hf := cb_ifp cn hf
      refine lv_iload_n hx hb dX8_ask_194 rfl (lv_at hl 2 rfl) ?_
      have hf := Option.some.inj hf
      subst hf
      exact cb_reti C hs dX8_ask_195
    · replace hf := cb_ifn cn hf
      refine lv_iload hx hb dX8_ask_39 (lv_at hl 4 rfl) ?_
      refine lv_bipush (v := 6) hx hb dX8_ask_41 (by decide) ?_
      refine lv_idiv hx hb dX8_ask_43 (by decide) ?_
      obtain ⟨x5_0, e9, hf⟩ := cb_let_inv hf
      refine cb_topi e9 ?_
      clear e9
      refine lv_istore (lv' := [(5, .int x5_0), (0, .ref (A 0)), (1, .int x1), (2, .int x2), (3, .int x3), (4, .int x4)]) hx hb dX8_ask_44 hl (by decide) rfl (fun ls hl => ?_)
      refine lv_iload hx hb dX8_ask_46 (lv_at hl 5 rfl) ?_
      refine lv_bipush (v := 6) hx hb dX8_ask_48 (by decide) ?_
      refine lv_irem hx hb dX8_ask_50 (by decide) ?_
      obtain ⟨x6_1, e9, hf⟩ := cb_let_inv hf
      refine cb_topi e9 ?_
      clear e9
      refine lv_istore (lv' := [(6, .int x6_1), (5, .int x5_0), (0, .ref (A 0)), (1, .int x1), (2, .int x2), (3, .int x3), (4, .int x4)]) hx hb dX8_ask_51 hl (by decide) rfl (fun ls hl => ?_)
      refine lv_iload hx hb dX8_ask_53 (lv_at hl 1 rfl) ?_
      refine lv_iload hx hb dX8_ask_55 (lv_at hl 0 rfl) ?_
      refine lv_icmp_ge (tgt := 188) hx hb dX8_ask_57 (by decide) (fun cn => ?_) (fun cn => ?_)
      · replace hf := cb_ifp cn hf
        exact w_X8_ask_188 C ih hf hs (lv_sub hl [2, 3, 4, 5, 6] rfl)
      · replace hf := cb_ifn cn hf
        refine lv_iload hx hb dX8_ask_60 (lv_at hl 0 rfl) ?_
        refine lv_aload_n hx hb dX8_ask_62 rfl (lv_at hl 2 rfl) ?_
        refine gf_X8_306 C hs rfl dX8_ask_63 ?_
        refine lv_icmp_ge (tgt := 188) hx hb dX8_ask_66 (by decide) (fun cn => ?_) (fun cn => ?_)
        · replace hf := cb_ifp cn hf
          exact w_X8_ask_188 C ih hf hs (lv_sub hl [2, 3, 4, 5, 6] rfl)
        · replace hf := cb_ifn cn hf
          refine lv_iconst (v := 0) hx hb dX8_ask_69 (by decide) ?_
          refine lv_istore (lv' := [(7, .int 0), (6, .int x6_1), (5, .int x5_0), (0, .ref (A 0)), (1, .int x1), (2, .int x2), (3, .int x3), (4, .int x4)]) hx hb dX8_ask_70 hl (by decide) rfl (fun ls hl => ?_)
          exact w_X8_ask_72 C ih cb_fu _ _ _ _ _ _ _ hf _ _ _ hs (lv_sub hl [3, 4, 5, 6, 7, 2, 1, 0] rfl)
def f_X8_ask (x1 : Int32) (σ : cb_St) : Option (Int32 × cb_St) := cb_bp (f_X8_in (Int32.toInt64 x1) 1 5 σ) (fun r_1 => if r_1 = 0 then (some ((-1000000002), σ)) else (cb_bv (f_X8_beginDeals x1 σ) (fun σ_2 => cb_bi (f_X8_deals x1 (-1) σ_2) (fun r_3 σ_4 => f_X8_ask_32 x1 cb_fu σ_4 (-1) r_3 0))))
set_option maxHeartbeats 4000000 in
set_option maxRecDepth 100000 in
theorem c_X8_ask {x1 : Int32}  {σ : cb_St} {o : Int32 × cb_St} (hf : f_X8_ask x1 σ = some o) : cb_M l yX8_ask cX8_ask 8 (some .int) 5 shM A T D σ [.ref (A 0), .int x1] (some (.int o.1)) o.2 := by
  refine cb_met (by decide +kernel) (Nat.le_of_ble_eq_true rfl) ?_
  intro p e s m below meth c C hs ls hl
  have hl : lv_has ls 8 [(0, .ref (A 0)), (1, .int x1)] := hl
  obtain ⟨hx, hb, hml, hr, hown, hts, hK, hlk, hN⟩ := id C
  unfold f_X8_ask at hf
  refine lv_iload_n hx hb dX8_ask_0 rfl (lv_at hl 1 rfl) ?_
  refine lv_i2l hx hb dX8_ask_1 rfl ?_
  refine lv_lconst (v := 1) hx hb dX8_ask_2 (by decide) ?_
  refine lv_ldc2 (v := 5) hx hb hown (hts _ kc_X8_309) dX8_ask_3 ?_
  obtain ⟨r_1, hc, hf⟩ := cb_bp_inv hf
  refine cb_callSi C (c_X8_in  hc) mw_X8_in ml_X8_78 rfl ⟨Nat.le_of_ble_eq_true rfl, Nat.le_of_ble_eq_true rfl⟩ hs hl rfl (Nat.le_of_ble_eq_true rfl) dX8_ask_6 (fun H locs hs => ?_)
  clear hc
  refine lv_if_ne (tgt := 15) hx hb dX8_ask_9 (by decide) (fun cn => ?_) (fun cn => ?_)
  · replace hf := cb_ifn cn hf
    refine lv_aload_n hx hb dX8_ask_15 rfl (lv_at hl 0 rfl) ?_
    refine lv_iload_n hx hb dX8_ask_16 rfl (lv_at hl 1 rfl) ?_
    obtain ⟨σ_2, hc, hf⟩ := cb_bv_inv hf
    refine cb_callVv C (c_X8_beginDeals  hc) mw_X8_beginDeals ml_X8_311 rfl ⟨Nat.le_of_ble_eq_true rfl, Nat.le_of_ble_eq_true rfl⟩ rfl (Nat.le_of_ble_eq_true rfl) rfl hs hl rfl (Nat.le_of_ble_eq_true rfl) dX8_ask_17 (fun H locs hs => ?_)
    clear hc
    refine lv_iconst (v := (-1)) hx hb dX8_ask_20 (by decide) ?_
    refine lv_istore_n (lv' := [(2, .int (-1)), (0, .ref (A 0)), (1, .int x1)]) hx hb dX8_ask_21 rfl hl (by decide) rfl (fun ls hl => ?_)
    refine lv_aload_n hx hb dX8_ask_22 rfl (lv_at hl 1 rfl) ?_
    refine lv_iload_n hx hb dX8_ask_23 rfl (lv_at hl 2 rfl) ?_
    refine lv_iconst (v := (-1)) hx hb dX8_ask_24 (by decide) ?_
    obtain ⟨r_3, σ_4, hc, hf⟩ := cb_bi_inv hf
    refine cb_callVi C (c_X8_deals  hc) mw_X8_deals ml_X8_317 rfl ⟨Nat.le_of_ble_eq_true rfl, Nat.le_of_ble_eq_true rfl⟩ rfl (Nat.le_of_ble_eq_true rfl) rfl hs hl rfl (Nat.le_of_ble_eq_true rfl) dX8_ask_25 (fun H locs hs => ?_)
    clear hc
    refine lv_istore_n (lv' := [(3, .int r_3), (2, .int (-1)), (0, .ref (A 0)), (1, .int x1)]) hx hb dX8_ask_28 rfl hl (by decide) rfl (fun ls hl => ?_)
    refine lv_iconst (v := 0) hx hb dX8_ask_29 (by decide) ?_
    refine lv_istore (lv' := [(4, .int 0), (3, .int r_3), (2, .int (-1)), (0, .ref (A 0)), (1, .int x1)]) hx hb dX8_ask_30 hl (by decide) rfl (fun ls hl => ?_)
    exact w_X8_ask_32 C  cb_fu _ _ _ _ hf _ _ _ hs (lv_sub hl [3, 4, 2, 1, 0] rfl)
  · replace hf := cb_ifp cn hf
    refine lv_ldc (v := (-1000000002)) hx hb hown (hts _ kc_X8_91) dX8_ask_12 ?_
    have hf := Option.some.inj hf
    subst hf
    exact cb_reti C hs dX8_ask_14
/-! ===== CardBecomeModel.beatenBy ===== -/
def f_X8_beatenBy_50 (K4 : Int32 → Int32 → Option (Int32)) (x1 : Int32) (σ : cb_St) (x3 : Int32) (s0 : Int32) (s1 : Int32) : Option (Int32) := cb_let (s1 ||| s0) (fun x2_0 => cb_let (x3 + 1) (fun x3_1 => K4 x2_0 x3_1))
set_option maxHeartbeats 4000000 in
set_option maxRecDepth 100000 in
theorem w_X8_beatenBy_50 (C : cb_C p s m args meth c cX8_beatenBy 4 (some .int) RX8 D T) {K4 : Int32 → Int32 → Option (Int32)} {x1 : Int32} {σ : cb_St} {o : Int32} (hK4 : ∀ (x2 : Int32) (x3 : Int32), K4 x2 x3 = some o → ∀ (H : Heap) (locs : List Loc) (ls : Array Slot), cb_H shM A T D σ s.heap H locs → lv_has ls 4 [(0, .ref (A 0)), (1, .int x1), (2, .int x2), (3, .int x3)] → cb_W p l e 4 s m args below meth c shM A T D (some (.int o)) σ H locs (F0 m 4 ls [])) {x3 : Int32} {s0 : Int32} {s1 : Int32} (hf : f_X8_beatenBy_50 K4 x1 σ x3 s0 s1 = some o) {H : Heap} {locs : List Loc} {ls : Array Slot} (hs : cb_H shM A T D σ s.heap H locs) (hl : lv_has ls 4 [(0, .ref (A 0)), (1, .int x1), (3, .int x3)]) : cb_W p l e 4 s m args below meth c shM A T D (some (.int o)) σ H locs (F0 m 50 ls [.int s0, .int s1]) := by
  obtain ⟨hx, hb, hml, hr, hown, hts, hK, hlk, hN⟩ := id C
  unfold f_X8_beatenBy_50 at hf
  refine lv_ior hx hb dX8_beatenBy_50 ?_
  obtain ⟨x2_0, e9, hf⟩ := cb_let_inv hf
  refine cb_topi e9 ?_
  clear e9
  refine lv_istore_n (lv' := [(2, .int x2_0), (0, .ref (A 0)), (1, .int x1), (3, .int x3)]) hx hb dX8_beatenBy_51 rfl hl (by decide) rfl (fun ls hl => ?_)
  obtain ⟨x3_1, e9, hf⟩ := cb_let_inv hf
  refine lv_iinc (v := x3_1) (lv' := [(3, .int x3_1), (2, .int x2_0), (0, .ref (A 0)), (1, .int x1)]) hx hb dX8_beatenBy_52 hl (k := 3) rfl (by rw [e9]; rfl) (by decide) rfl (fun ls hl => ?_)
  clear e9
  refine lv_goto (tgt := 4) hx hb dX8_beatenBy_55 (by decide) ?_
  exact hK4 _ _ hf _ _ _ hs (lv_sub hl [2, 3, 1, 0] rfl)
def f_X8_beatenBy_49 (K4 : Int32 → Int32 → Option (Int32)) (x1 : Int32) (σ : cb_St) (x3 : Int32) (s0 : Int32) : Option (Int32) := f_X8_beatenBy_50 K4 x1 σ x3 0 s0
set_option maxHeartbeats 4000000 in
set_option maxRecDepth 100000 in
theorem w_X8_beatenBy_49 (C : cb_C p s m args meth c cX8_beatenBy 4 (some .int) RX8 D T) {K4 : Int32 → Int32 → Option (Int32)} {x1 : Int32} {σ : cb_St} {o : Int32} (hK4 : ∀ (x2 : Int32) (x3 : Int32), K4 x2 x3 = some o → ∀ (H : Heap) (locs : List Loc) (ls : Array Slot), cb_H shM A T D σ s.heap H locs → lv_has ls 4 [(0, .ref (A 0)), (1, .int x1), (2, .int x2), (3, .int x3)] → cb_W p l e 4 s m args below meth c shM A T D (some (.int o)) σ H locs (F0 m 4 ls [])) {x3 : Int32} {s0 : Int32} (hf : f_X8_beatenBy_49 K4 x1 σ x3 s0 = some o) {H : Heap} {locs : List Loc} {ls : Array Slot} (hs : cb_H shM A T D σ s.heap H locs) (hl : lv_has ls 4 [(0, .ref (A 0)), (1, .int x1), (3, .int x3)]) : cb_W p l e 4 s m args below meth c shM A T D (some (.int o)) σ H locs (F0 m 49 ls [.int s0]) := by
  obtain ⟨hx, hb, hml, hr, hown, hts, hK, hlk, hN⟩ := id C
  unfold f_X8_beatenBy_49 at hf
  refine lv_iconst (v := 0) hx hb dX8_beatenBy_49 (by decide) ?_
  exact w_X8_beatenBy_50 C hK4 hf hs (lv_sub hl [0, 1, 2] rfl)
def f_X8_beatenBy_4 (x1 : Int32) (σ : cb_St) : Nat → Int32 → Int32 → Option (Int32)
  | 0, _, _ => none
  | fu + 1, x2, x3 => if (σ.1 0 7) ≤ x3 then (some x2) else (if x3 = x1 then (f_X8_beatenBy_49 (f_X8_beatenBy_4 x1 σ fu) x1 σ x3 x2) else (cb_ck (0 ≤ Int32.toInt (13 + x1) ∧ Int32.toInt (13 + x1) < 51) (cb_ck (0 ≤ Int32.toInt (13 + x3) ∧ Int32.toInt (13 + x3) < 51) (cb_bp (f_X8_meetBy (σ.1 3 (Int32.toNatClampNeg (13 + x1))) (σ.1 3 (Int32.toNatClampNeg (13 + x3))) σ) (fun r_1 => if r_1 = 0 then (f_X8_beatenBy_50 (f_X8_beatenBy_4 x1 σ fu) x1 σ x3 (1 <<< (x3 &&& 31)) x2) else (f_X8_beatenBy_49 (f_X8_beatenBy_4 x1 σ fu) x1 σ x3 x2))))))
set_option maxHeartbeats 4000000 in
set_option maxRecDepth 100000 in
theorem w_X8_beatenBy_4 (C : cb_C p s m args meth c cX8_beatenBy 4 (some .int) RX8 D T) {x1 : Int32} {σ : cb_St} {o : Int32}  : ∀ (fu : Nat) (x2 : Int32) (x3 : Int32), f_X8_beatenBy_4 x1 σ fu x2 x3 = some o → ∀ (H : Heap) (locs : List Loc) (ls : Array Slot), cb_H shM A T D σ s.heap H locs → lv_has ls 4 [(0, .ref (A 0)), (1, .int x1), (2, .int x2), (3, .int x3)] → cb_W p l e 4 s m args below meth c shM A T D (some (.int o)) σ H locs (F0 m 4 ls []) := by
  obtain ⟨hx, hb, hml, hr, hown, hts, hK, hlk, hN⟩ := id C
  intro fu
  induction fu with
  | zero =>
    intro x2 x3 hf
    rw [f_X8_beatenBy_4] at hf
    cases hf
  | succ fu ih =>
    intro x2 x3 hf H locs ls hs hl
    rw [f_X8_beatenBy_4] at hf
    refine lv_iload_n hx hb dX8_beatenBy_4 rfl (lv_at hl 3 rfl) ?_
    refine lv_aload_n hx hb dX8_beatenBy_5 rfl (lv_at hl 0 rfl) ?_
    refine gf_X8_75 C hs rfl dX8_beatenBy_6 ?_
    refine lv_icmp_ge (tgt := 58) hx hb dX8_beatenBy_9 (by decide) (fun cn => ?_) (fun cn => ?_)
    · replace hf := cb_ifp cn hf
      refine lv_iload_n hx hb dX8_beatenBy_58 rfl (lv_at hl 2 rfl) ?_
      have hf := Option.some.inj hf
      subst hf
      exact cb_reti C hs dX8_beatenBy_59
    · replace hf := cb_ifn cn hf
      refine lv_iload_n hx hb dX8_beatenBy_12 rfl (lv_at hl 2 rfl) ?_
      refine lv_iload_n hx hb dX8_beatenBy_13 rfl (lv_at hl 3 rfl) ?_
      refine lv_iload_n hx hb dX8_beatenBy_14 rfl (lv_at hl 1 rfl) ?_
      refine lv_icmp_eq (tgt := 49) hx hb dX8_beatenBy_15 (by decide) (fun cn => ?_) (fun cn => ?_)
      · replace hf := cb_ifp cn hf
        exact w_X8_beatenBy_49 C ih hf hs (lv_sub hl [0, 1, 3] rfl)
      · replace hf := cb_ifn cn hf
        refine lv_aload_n hx hb dX8_beatenBy_18 rfl (lv_at hl 0 rfl) ?_
        refine lv_aload_n hx hb dX8_beatenBy_19 rfl (lv_at hl 0 rfl) ?_
        refine gf_X8_16 C hs rfl dX8_beatenBy_20 ?_
        refine lv_bipush (v := 13) hx hb dX8_beatenBy_23 (by decide) ?_
        refine lv_iload_n hx hb dX8_beatenBy_25 rfl (lv_at hl 1 rfl) ?_
        refine lv_iadd hx hb dX8_beatenBy_26 ?_
        obtain ⟨hc, hf⟩ := cb_ck_inv hf
        refine cb_iald C hs rfl (vp_in_iff.mpr hc) dX8_beatenBy_27 ?_
        refine lv_aload_n hx hb dX8_beatenBy_28 rfl (lv_at hl 0 rfl) ?_
        refine gf_X8_16 C hs rfl dX8_beatenBy_29 ?_
        refine lv_bipush (v := 13) hx hb dX8_beatenBy_32 (by decide) ?_
        refine lv_iload_n hx hb dX8_beatenBy_34 rfl (lv_at hl 3 rfl) ?_
        refine lv_iadd hx hb dX8_beatenBy_35 ?_
        obtain ⟨hc, hf⟩ := cb_ck_inv hf
        refine cb_iald C hs rfl (vp_in_iff.mpr hc) dX8_beatenBy_36 ?_
        obtain ⟨r_1, hc, hf⟩ := cb_bp_inv hf
        refine cb_callVi C (c_X8_meetBy  hc) mw_X8_meetBy ml_X8_177 rfl ⟨Nat.le_of_ble_eq_true rfl, Nat.le_of_ble_eq_true rfl⟩ rfl (Nat.le_of_ble_eq_true rfl) rfl hs hl rfl (Nat.le_of_ble_eq_true rfl) dX8_beatenBy_37 (fun H locs hs => ?_)
        clear hc
        refine lv_if_ne (tgt := 49) hx hb dX8_beatenBy_40 (by decide) (fun cn => ?_) (fun cn => ?_)
        · replace hf := cb_ifn cn hf
          exact w_X8_beatenBy_49 C ih hf hs (lv_sub hl [0, 1, 3] rfl)
        · replace hf := cb_ifp cn hf
          refine lv_iconst (v := 1) hx hb dX8_beatenBy_43 (by decide) ?_
          refine lv_iload_n hx hb dX8_beatenBy_44 rfl (lv_at hl 3 rfl) ?_
          refine lv_ishl hx hb dX8_beatenBy_45 ?_
          refine lv_goto (tgt := 50) hx hb dX8_beatenBy_46 (by decide) ?_
          exact w_X8_beatenBy_50 C ih hf hs (lv_sub hl [0, 1, 3] rfl)
def f_X8_beatenBy (x1 : Int32) (σ : cb_St)  : Option (Int32) := f_X8_beatenBy_4 x1 σ cb_fu 0 0
set_option maxHeartbeats 4000000 in
set_option maxRecDepth 100000 in
theorem c_X8_beatenBy {x1 : Int32} {σ : cb_St}   {o : Int32} (hf : f_X8_beatenBy x1 σ = some o) : cb_M l yX8_beatenBy cX8_beatenBy 4 (some .int) 4 shM A T D σ [.ref (A 0), .int x1] (some (.int o)) σ := by
  refine cb_met (by decide +kernel) (Nat.le_of_ble_eq_true rfl) ?_
  intro p e s m below meth c C hs ls hl
  have hl : lv_has ls 4 [(0, .ref (A 0)), (1, .int x1)] := hl
  obtain ⟨hx, hb, hml, hr, hown, hts, hK, hlk, hN⟩ := id C
  unfold f_X8_beatenBy at hf
  refine lv_iconst (v := 0) hx hb dX8_beatenBy_0 (by decide) ?_
  refine lv_istore_n (lv' := [(2, .int 0), (0, .ref (A 0)), (1, .int x1)]) hx hb dX8_beatenBy_1 rfl hl (by decide) rfl (fun ls hl => ?_)
  refine lv_iconst (v := 0) hx hb dX8_beatenBy_2 (by decide) ?_
  refine lv_istore_n (lv' := [(3, .int 0), (2, .int 0), (0, .ref (A 0)), (1, .int x1)]) hx hb dX8_beatenBy_3 rfl hl (by decide) rfl (fun ls hl => ?_)
  exact w_X8_beatenBy_4 C  cb_fu _ _ hf _ _ _ hs (lv_sub hl [2, 3, 1, 0] rfl)
/-! ===== CardBecomeModel.bits ===== -/
def f_X8_bits_4 (x0 : Int32) (σ : cb_St) : Nat → Int32 → Int32 → Option (Int32)
  | 0, _, _ => none
  | fu + 1, x1, x2 => if 12 ≤ x2 then (some x1) else (cb_let (x1 + ((x0 >>> (x2 &&& 31)) &&& 1)) (fun x1_0 => cb_let (x2 + 1) (fun x2_1 => f_X8_bits_4 x0 σ fu x1_0 x2_1)))
set_option maxHeartbeats 4000000 in
set_option maxRecDepth 100000 in
theorem w_X8_bits_4 (C : cb_C p s m args meth c cX8_bits 3 (some .int) RX8 D T) {x0 : Int32} {σ : cb_St} {o : Int32}  : ∀ (fu : Nat) (x1 : Int32) (x2 : Int32), f_X8_bits_4 x0 σ fu x1 x2 = some o → ∀ (H : Heap) (locs : List Loc) (ls : Array Slot), cb_H shM A T D σ s.heap H locs → lv_has ls 3 [(0, .int x0), (1, .int x1), (2, .int x2)] → cb_W p l e 1 s m args below meth c shM A T D (some (.int o)) σ H locs (F0 m 4 ls []) := by
  obtain ⟨hx, hb, hml, hr, hown, hts, hK, hlk, hN⟩ := id C
  intro fu
  induction fu with
  | zero =>
    intro x1 x2 hf
    rw [f_X8_bits_4] at hf
    cases hf
  | succ fu ih =>
    intro x1 x2 hf H locs ls hs hl
    rw [f_X8_bits_4] at hf
    refine lv_iload_n hx hb dX8_bits_4 rfl (lv_at hl 2 rfl) ?_
    refine lv_bipush (v := 12) hx hb dX8_bits_5 (by decide) ?_
    refine lv_icmp_ge (tgt := 24) hx hb dX8_bits_7 (by decide) (fun cn => ?_) (fun cn => ?_)
    · replace hf := cb_ifp cn hf
      refine lv_iload_n hx hb dX8_bits_24 rfl (lv_at hl 1 rfl) ?_
      have hf := Option.some.inj hf
      subst hf
      exact cb_reti C hs dX8_bits_25
    · replace hf := cb_ifn cn hf
      refine lv_iload_n hx hb dX8_bits_10 rfl (lv_at hl 1 rfl) ?_
      refine lv_iload_n hx hb dX8_bits_11 rfl (lv_at hl 0 rfl) ?_
      refine lv_iload_n hx hb dX8_bits_12 rfl (lv_at hl 2 rfl) ?_
      refine lv_ishr hx hb dX8_bits_13 ?_
      refine lv_iconst (v := 1) hx hb dX8_bits_14 (by decide) ?_
      refine lv_iand hx hb dX8_bits_15 ?_
      refine lv_iadd hx hb dX8_bits_16 ?_
      obtain ⟨x1_0, e9, hf⟩ := cb_let_inv hf
      refine cb_topi e9 ?_
      clear e9
      refine lv_istore_n (lv' := [(1, .int x1_0), (0, .int x0), (2, .int x2)]) hx hb dX8_bits_17 rfl hl (by decide) rfl (fun ls hl => ?_)
      obtain ⟨x2_1, e9, hf⟩ := cb_let_inv hf
      refine lv_iinc (v := x2_1) (lv' := [(2, .int x2_1), (1, .int x1_0), (0, .int x0)]) hx hb dX8_bits_18 hl (k := 2) rfl (by rw [e9]; rfl) (by decide) rfl (fun ls hl => ?_)
      clear e9
      refine lv_goto (tgt := 4) hx hb dX8_bits_21 (by decide) ?_
      exact ih _ _ hf _ _ _ hs (lv_sub hl [2, 1, 0] rfl)
def f_X8_bits (x0 : Int32) (σ : cb_St)  : Option (Int32) := f_X8_bits_4 x0 σ cb_fu 0 0
set_option maxHeartbeats 4000000 in
set_option maxRecDepth 100000 in
theorem c_X8_bits {x0 : Int32} {σ : cb_St}   {o : Int32} (hf : f_X8_bits x0 σ = some o) : cb_M l yX8_bits cX8_bits 3 (some .int) 1 shM A T D σ [.int x0] (some (.int o)) σ := by
  refine cb_met (by decide +kernel) (Nat.le_of_ble_eq_true rfl) ?_
  intro p e s m below meth c C hs ls hl
  have hl : lv_has ls 3 [(0, .int x0)] := hl
  obtain ⟨hx, hb, hml, hr, hown, hts, hK, hlk, hN⟩ := id C
  unfold f_X8_bits at hf
  refine lv_iconst (v := 0) hx hb dX8_bits_0 (by decide) ?_
  refine lv_istore_n (lv' := [(1, .int 0), (0, .int x0)]) hx hb dX8_bits_1 rfl hl (by decide) rfl (fun ls hl => ?_)
  refine lv_iconst (v := 0) hx hb dX8_bits_2 (by decide) ?_
  refine lv_istore_n (lv' := [(2, .int 0), (1, .int 0), (0, .int x0)]) hx hb dX8_bits_3 rfl hl (by decide) rfl (fun ls hl => ?_)
  exact w_X8_bits_4 C  cb_fu _ _ hf _ _ _ hs (lv_sub hl [2, 1, 0] rfl)
/-! ===== CardBecomeModel.back ===== -/
def f_X8_back_61 (K30 : Int32 → Int32 → Option (Int32)) (x1 : Int32) (σ : cb_St) (x3 : Int32) (s0 : Int32) (s1 : Int32) : Option (Int32) := cb_let (s1 + s0) (fun x2_0 => cb_let (x3 + 1) (fun x3_1 => K30 x2_0 x3_1))
set_option maxHeartbeats 4000000 in
set_option maxRecDepth 100000 in
theorem w_X8_back_61 (C : cb_C p s m args meth c cX8_back 4 (some .int) RX8 D T) {K30 : Int32 → Int32 → Option (Int32)} {x1 : Int32} {σ : cb_St} {o : Int32} (hK30 : ∀ (x2 : Int32) (x3 : Int32), K30 x2 x3 = some o → ∀ (H : Heap) (locs : List Loc) (ls : Array Slot), cb_H shM A T D σ s.heap H locs → lv_has ls 4 [(0, .ref (A 0)), (1, .int x1), (2, .int x2), (3, .int x3)] → cb_W p l e 5 s m args below meth c shM A T D (some (.int o)) σ H locs (F0 m 30 ls [])) {x3 : Int32} {s0 : Int32} {s1 : Int32} (hf : f_X8_back_61 K30 x1 σ x3 s0 s1 = some o) {H : Heap} {locs : List Loc} {ls : Array Slot} (hs : cb_H shM A T D σ s.heap H locs) (hl : lv_has ls 4 [(0, .ref (A 0)), (1, .int x1), (3, .int x3)]) : cb_W p l e 5 s m args below meth c shM A T D (some (.int o)) σ H locs (F0 m 61 ls [.int s0, .int s1]) := by
  obtain ⟨hx, hb, hml, hr, hown, hts, hK, hlk, hN⟩ := id C
  unfold f_X8_back_61 at hf
  refine lv_iadd hx hb dX8_back_61 ?_
  obtain ⟨x2_0, e9, hf⟩ := cb_let_inv hf
  refine cb_topi e9 ?_
  clear e9
  refine lv_istore_n (lv' := [(2, .int x2_0), (0, .ref (A 0)), (1, .int x1), (3, .int x3)]) hx hb dX8_back_62 rfl hl (by decide) rfl (fun ls hl => ?_)
  obtain ⟨x3_1, e9, hf⟩ := cb_let_inv hf
  refine lv_iinc (v := x3_1) (lv' := [(3, .int x3_1), (2, .int x2_0), (0, .ref (A 0)), (1, .int x1)]) hx hb dX8_back_63 hl (k := 3) rfl (by rw [e9]; rfl) (by decide) rfl (fun ls hl => ?_)
  clear e9
  refine lv_goto (tgt := 30) hx hb dX8_back_66 (by decide) ?_
  exact hK30 _ _ hf _ _ _ hs (lv_sub hl [2, 3, 1, 0] rfl)
def f_X8_back_60 (K30 : Int32 → Int32 → Option (Int32)) (x1 : Int32) (σ : cb_St) (x3 : Int32) (s0 : Int32) : Option (Int32) := f_X8_back_61 K30 x1 σ x3 0 s0
set_option maxHeartbeats 4000000 in
set_option maxRecDepth 100000 in
theorem w_X8_back_60 (C : cb_C p s m args meth c cX8_back 4 (some .int) RX8 D T) {K30 : Int32 → Int32 → Option (Int32)} {x1 : Int32} {σ : cb_St} {o : Int32} (hK30 : ∀ (x2 : Int32) (x3 : Int32), K30 x2 x3 = some o → ∀ (H : Heap) (locs : List Loc) (ls : Array Slot), cb_H shM A T D σ s.heap H locs → lv_has ls 4 [(0, .ref (A 0)), (1, .int x1), (2, .int x2), (3, .int x3)] → cb_W p l e 5 s m args below meth c shM A T D (some (.int o)) σ H locs (F0 m 30 ls [])) {x3 : Int32} {s0 : Int32} (hf : f_X8_back_60 K30 x1 σ x3 s0 = some o) {H : Heap} {locs : List Loc} {ls : Array Slot} (hs : cb_H shM A T D σ s.heap H locs) (hl : lv_has ls 4 [(0, .ref (A 0)), (1, .int x1), (3, .int x3)]) : cb_W p l e 5 s m args below meth c shM A T D (some (.int o)) σ H locs (F0 m 60 ls [.int s0]) := by
  obtain ⟨hx, hb, hml, hr, hown, hts, hK, hlk, hN⟩ := id C
  unfold f_X8_back_60 at hf
  refine lv_iconst (v := 0) hx hb dX8_back_60 (by decide) ?_
  exact w_X8_back_61 C hK30 hf hs (lv_sub hl [0, 1, 2] rfl)
def f_X8_back_30 (x1 : Int32) (σ : cb_St) : Nat → Int32 → Int32 → Option (Int32)
  | 0, _, _ => none
  | fu + 1, x2, x3 => if (σ.1 0 7) ≤ x3 then (cb_bp (f_X8_beatenBy x1 σ) (fun r_1 => cb_bp (f_X8_bits r_1 σ) (fun r_2 => if x2 ≤ r_2 then (some 0) else (some 1)))) else (if x3 = x1 then (f_X8_back_60 (f_X8_back_30 x1 σ fu) x1 σ x3 x2) else (cb_bp (f_X8_beatenBy x3 σ) (fun r_3 => cb_bp (f_X8_has r_3 x1 σ) (fun r_4 => if r_4 = 0 then (f_X8_back_60 (f_X8_back_30 x1 σ fu) x1 σ x3 x2) else (f_X8_back_61 (f_X8_back_30 x1 σ fu) x1 σ x3 1 x2)))))
set_option maxHeartbeats 4000000 in
set_option maxRecDepth 100000 in
theorem w_X8_back_30 (C : cb_C p s m args meth c cX8_back 4 (some .int) RX8 D T) {x1 : Int32} {σ : cb_St} {o : Int32}  : ∀ (fu : Nat) (x2 : Int32) (x3 : Int32), f_X8_back_30 x1 σ fu x2 x3 = some o → ∀ (H : Heap) (locs : List Loc) (ls : Array Slot), cb_H shM A T D σ s.heap H locs → lv_has ls 4 [(0, .ref (A 0)), (1, .int x1), (2, .int x2), (3, .int x3)] → cb_W p l e 5 s m args below meth c shM A T D (some (.int o)) σ H locs (F0 m 30 ls []) := by
  obtain ⟨hx, hb, hml, hr, hown, hts, hK, hlk, hN⟩ := id C
  intro fu
  induction fu with
  | zero =>
    intro x2 x3 hf
    rw [f_X8_back_30] at hf
    cases hf
  | succ fu ih =>
    intro x2 x3 hf H locs ls hs hl
    rw [f_X8_back_30] at hf
    refine lv_iload_n hx hb dX8_back_30 rfl (lv_at hl 3 rfl) ?_
    refine lv_aload_n hx hb dX8_back_31 rfl (lv_at hl 0 rfl) ?_
    refine gf_X8_75 C hs rfl dX8_back_32 ?_
    refine lv_icmp_ge (tgt := 69) hx hb dX8_back_35 (by decide) (fun cn => ?_) (fun cn => ?_)
    · replace hf := cb_ifp cn hf
      refine lv_iload_n hx hb dX8_back_69 rfl (lv_at hl 2 rfl) ?_
      refine lv_aload_n hx hb dX8_back_70 rfl (lv_at hl 0 rfl) ?_
      refine lv_iload_n hx hb dX8_back_71 rfl (lv_at hl 1 rfl) ?_
      obtain ⟨r_1, hc, hf⟩ := cb_bp_inv hf
      refine cb_callVi C (c_X8_beatenBy  hc) mw_X8_beatenBy ml_X8_180 rfl ⟨Nat.le_of_ble_eq_true rfl, Nat.le_of_ble_eq_true rfl⟩ rfl (Nat.le_of_ble_eq_true rfl) rfl hs hl rfl (Nat.le_of_ble_eq_true rfl) dX8_back_72 (fun H locs hs => ?_)
      clear hc
      obtain ⟨r_2, hc, hf⟩ := cb_bp_inv hf
      refine cb_callSi C (c_X8_bits  hc) mw_X8_bits ml_X8_184 rfl ⟨Nat.le_of_ble_eq_true rfl, Nat.le_of_ble_eq_true rfl⟩ hs hl rfl (Nat.le_of_ble_eq_true rfl) dX8_back_75 (fun H locs hs => ?_)
      clear hc
      refine lv_icmp_le (tgt := 85) hx hb dX8_back_78 (by decide) (fun cn => ?_) (fun cn => ?_)
      · replace hf := cb_ifp cn hf
        refine lv_iconst (v := 0) hx hb dX8_back_85 (by decide) ?_
        have hf := Option.some.inj hf
        subst hf
        exact cb_reti C hs dX8_back_86
      · replace hf := cb_ifn cn hf
        refine lv_iconst (v := 1) hx hb dX8_back_81 (by decide) ?_
        refine lv_goto (tgt := 86) hx hb dX8_back_82 (by decide) ?_
        have hf := Option.some.inj hf
        subst hf
        exact cb_reti C hs dX8_back_86
    · replace hf := cb_ifn cn hf
      refine lv_iload_n hx hb dX8_back_38 rfl (lv_at hl 2 rfl) ?_
      refine lv_iload_n hx hb dX8_back_39 rfl (lv_at hl 3 rfl) ?_
      refine lv_iload_n hx hb dX8_back_40 rfl (lv_at hl 1 rfl) ?_
      refine lv_icmp_eq (tgt := 60) hx hb dX8_back_41 (by decide) (fun cn => ?_) (fun cn => ?_)
      · replace hf := cb_ifp cn hf
        exact w_X8_back_60 C ih hf hs (lv_sub hl [0, 1, 3] rfl)
      · replace hf := cb_ifn cn hf
        refine lv_aload_n hx hb dX8_back_44 rfl (lv_at hl 0 rfl) ?_
        refine lv_iload_n hx hb dX8_back_45 rfl (lv_at hl 3 rfl) ?_
        obtain ⟨r_3, hc, hf⟩ := cb_bp_inv hf
        refine cb_callVi C (c_X8_beatenBy  hc) mw_X8_beatenBy ml_X8_180 rfl ⟨Nat.le_of_ble_eq_true rfl, Nat.le_of_ble_eq_true rfl⟩ rfl (Nat.le_of_ble_eq_true rfl) rfl hs hl rfl (Nat.le_of_ble_eq_true rfl) dX8_back_46 (fun H locs hs => ?_)
        clear hc
        refine lv_iload_n hx hb dX8_back_49 rfl (lv_at hl 1 rfl) ?_
        obtain ⟨r_4, hc, hf⟩ := cb_bp_inv hf
        refine cb_callSi C (c_X8_has  hc) mw_X8_has ml_X8_256 rfl ⟨Nat.le_of_ble_eq_true rfl, Nat.le_of_ble_eq_true rfl⟩ hs hl rfl (Nat.le_of_ble_eq_true rfl) dX8_back_50 (fun H locs hs => ?_)
        clear hc
        refine lv_if_eq (tgt := 60) hx hb dX8_back_53 (by decide) (fun cn => ?_) (fun cn => ?_)
        · replace hf := cb_ifp cn hf
          exact w_X8_back_60 C ih hf hs (lv_sub hl [0, 1, 3] rfl)
        · replace hf := cb_ifn cn hf
          refine lv_iconst (v := 1) hx hb dX8_back_56 (by decide) ?_
          refine lv_goto (tgt := 61) hx hb dX8_back_57 (by decide) ?_
          exact w_X8_back_61 C ih hf hs (lv_sub hl [0, 1, 3] rfl)
def f_X8_back (x1 : Int32) (σ : cb_St)  : Option (Int32) := cb_bp (f_X8_isPerson x1 σ) (fun r_1 => if r_1 = 0 then (some (-1000000001)) else (cb_ck (0 ≤ Int32.toInt (13 + x1) ∧ Int32.toInt (13 + x1) < 51) (if 0 ≤ (σ.1 3 (Int32.toNatClampNeg (13 + x1))) then (f_X8_back_30 x1 σ cb_fu 0 0) else (some (-1000000003)))))
set_option maxHeartbeats 4000000 in
set_option maxRecDepth 100000 in
theorem c_X8_back {x1 : Int32} {σ : cb_St}   {o : Int32} (hf : f_X8_back x1 σ = some o) : cb_M l yX8_back cX8_back 4 (some .int) 5 shM A T D σ [.ref (A 0), .int x1] (some (.int o)) σ := by
  refine cb_met (by decide +kernel) (Nat.le_of_ble_eq_true rfl) ?_
  intro p e s m below meth c C hs ls hl
  have hl : lv_has ls 4 [(0, .ref (A 0)), (1, .int x1)] := hl
  obtain ⟨hx, hb, hml, hr, hown, hts, hK, hlk, hN⟩ := id C
  unfold f_X8_back at hf
  refine lv_aload_n hx hb dX8_back_0 rfl (lv_at hl 0 rfl) ?_
  refine lv_iload_n hx hb dX8_back_1 rfl (lv_at hl 1 rfl) ?_
  obtain ⟨r_1, hc, hf⟩ := cb_bp_inv hf
  refine cb_callVi C (c_X8_isPerson  hc) mw_X8_isPerson ml_X8_82 rfl ⟨Nat.le_of_ble_eq_true rfl, Nat.le_of_ble_eq_true rfl⟩ rfl (Nat.le_of_ble_eq_true rfl) rfl hs hl rfl (Nat.le_of_ble_eq_true rfl) dX8_back_2 (fun H locs hs => ?_)
  clear hc
  refine lv_if_ne (tgt := 11) hx hb dX8_back_5 (by decide) (fun cn => ?_) (fun cn => ?_)
  · replace hf := cb_ifn cn hf
    refine lv_aload_n hx hb dX8_back_11 rfl (lv_at hl 0 rfl) ?_
    refine gf_X8_16 C hs rfl dX8_back_12 ?_
    refine lv_bipush (v := 13) hx hb dX8_back_15 (by decide) ?_
    refine lv_iload_n hx hb dX8_back_17 rfl (lv_at hl 1 rfl) ?_
    refine lv_iadd hx hb dX8_back_18 ?_
    obtain ⟨hc, hf⟩ := cb_ck_inv hf
    refine cb_iald C hs rfl (vp_in_iff.mpr hc) dX8_back_19 ?_
    refine lv_if_ge (tgt := 26) hx hb dX8_back_20 (by decide) (fun cn => ?_) (fun cn => ?_)
    · replace hf := cb_ifp cn hf
      refine lv_iconst (v := 0) hx hb dX8_back_26 (by decide) ?_
      refine lv_istore_n (lv' := [(2, .int 0), (0, .ref (A 0)), (1, .int x1)]) hx hb dX8_back_27 rfl hl (by decide) rfl (fun ls hl => ?_)
      refine lv_iconst (v := 0) hx hb dX8_back_28 (by decide) ?_
      refine lv_istore_n (lv' := [(3, .int 0), (2, .int 0), (0, .ref (A 0)), (1, .int x1)]) hx hb dX8_back_29 rfl hl (by decide) rfl (fun ls hl => ?_)
      exact w_X8_back_30 C  cb_fu _ _ hf _ _ _ hs (lv_sub hl [2, 3, 1, 0] rfl)
    · replace hf := cb_ifn cn hf
      refine lv_ldc (v := (-1000000003)) hx hb hown (hts _ kc_X8_231) dX8_back_23 ?_
      have hf := Option.some.inj hf
      subst hf
      exact cb_reti C hs dX8_back_25
  · replace hf := cb_ifp cn hf
    refine lv_ldc (v := (-1000000001)) hx hb hown (hts _ kc_X8_209) dX8_back_8 ?_
    have hf := Option.some.inj hf
    subst hf
    exact cb_reti C hs dX8_back_10
/-! ===== CardBecomeModel.layBelow ===== -/
def f_X8_layBelow (x1 : Int32) (σ : cb_St) : Option (cb_St) := cb_ck (0 ≤ Int32.toInt 12 ∧ Int32.toInt 12 < 51) (cb_ck (0 ≤ Int32.toInt (0 + (σ.1 3 (Int32.toNatClampNeg 12))) ∧ Int32.toInt (0 + (σ.1 3 (Int32.toNatClampNeg 12))) < 51) (cb_let (cb_sI σ 3 (Int32.toNatClampNeg (0 + (σ.1 3 (Int32.toNatClampNeg 12)))) x1) (fun σ_1 => cb_ck (0 ≤ Int32.toInt 12 ∧ Int32.toInt 12 < 51) (cb_ck (0 ≤ Int32.toInt 12 ∧ Int32.toInt 12 < 51) (cb_let (cb_sI σ_1 3 (Int32.toNatClampNeg 12) ((σ_1.1 3 (Int32.toNatClampNeg 12)) + 1)) (fun σ_2 => some σ_2))))))
set_option maxHeartbeats 4000000 in
set_option maxRecDepth 100000 in
theorem c_X8_layBelow {x1 : Int32}  {σ : cb_St} {o : cb_St} (hf : f_X8_layBelow x1 σ = some o) : cb_M l yX8_layBelow cX8_layBelow 2 none 1 shM A T D σ [.ref (A 0), .int x1] none o := by
  refine cb_met (by decide +kernel) (Nat.le_of_ble_eq_true rfl) ?_
  intro p e s m below meth c C hs ls hl
  have hl : lv_has ls 2 [(0, .ref (A 0)), (1, .int x1)] := hl
  obtain ⟨hx, hb, hml, hr, hown, hts, hK, hlk, hN⟩ := id C
  unfold f_X8_layBelow at hf
  refine lv_aload_n hx hb dX8_layBelow_0 rfl (lv_at hl 0 rfl) ?_
  refine gf_X8_16 C hs rfl dX8_layBelow_1 ?_
  refine lv_iconst (v := 0) hx hb dX8_layBelow_4 (by decide) ?_
  refine lv_aload_n hx hb dX8_layBelow_5 rfl (lv_at hl 0 rfl) ?_
  refine gf_X8_16 C hs rfl dX8_layBelow_6 ?_
  refine lv_bipush (v := 12) hx hb dX8_layBelow_9 (by decide) ?_
  obtain ⟨hc, hf⟩ := cb_ck_inv hf
  refine cb_iald C hs rfl (vp_in_iff.mpr hc) dX8_layBelow_11 ?_
  refine lv_iadd hx hb dX8_layBelow_12 ?_
  refine lv_iload_n hx hb dX8_layBelow_13 rfl (lv_at hl 1 rfl) ?_
  obtain ⟨hc, hf⟩ := cb_ck_inv hf
  refine cb_iast C hs rfl (vp_in_iff.mpr hc) dX8_layBelow_14 (fun H locs hs => ?_)
  obtain ⟨σ_1, e9, hf⟩ := cb_let_inv hf
  replace hs := cb_Hc e9 hs
  clear e9
  refine lv_aload_n hx hb dX8_layBelow_15 rfl (lv_at hl 0 rfl) ?_
  refine gf_X8_16 C hs rfl dX8_layBelow_16 ?_
  refine lv_bipush (v := 12) hx hb dX8_layBelow_19 (by decide) ?_
  refine lv_dup2_11 hx hb dX8_layBelow_21 rfl rfl ?_
  obtain ⟨hc, hf⟩ := cb_ck_inv hf
  refine cb_iald C hs rfl (vp_in_iff.mpr hc) dX8_layBelow_22 ?_
  refine lv_iconst (v := 1) hx hb dX8_layBelow_23 (by decide) ?_
  refine lv_iadd hx hb dX8_layBelow_24 ?_
  obtain ⟨hc, hf⟩ := cb_ck_inv hf
  refine cb_iast C hs rfl (vp_in_iff.mpr hc) dX8_layBelow_25 (fun H locs hs => ?_)
  obtain ⟨σ_2, e9, hf⟩ := cb_let_inv hf
  replace hs := cb_Hc e9 hs
  clear e9
  have hf := Option.some.inj hf
  subst hf
  exact cb_retv C hs dX8_layBelow_26
/-! ===== CardBecomeModel.backNow ===== -/
def f_X8_backNow (x1 : Int32) (σ : cb_St) : Option (cb_St) := cb_ck (0 ≤ Int32.toInt (13 + x1) ∧ Int32.toInt (13 + x1) < 51) (cb_bv (f_X8_layBelow (σ.1 3 (Int32.toNatClampNeg (13 + x1))) σ) (fun σ_1 => cb_ck (0 ≤ Int32.toInt (13 + x1) ∧ Int32.toInt (13 + x1) < 51) (cb_let (cb_sI σ_1 3 (Int32.toNatClampNeg (13 + x1)) (-1)) (fun σ_2 => some σ_2))))
set_option maxHeartbeats 4000000 in
set_option maxRecDepth 100000 in
theorem c_X8_backNow {x1 : Int32}  {σ : cb_St} {o : cb_St} (hf : f_X8_backNow x1 σ = some o) : cb_M l yX8_backNow cX8_backNow 2 none 2 shM A T D σ [.ref (A 0), .int x1] none o := by
  refine cb_met (by decide +kernel) (Nat.le_of_ble_eq_true rfl) ?_
  intro p e s m below meth c C hs ls hl
  have hl : lv_has ls 2 [(0, .ref (A 0)), (1, .int x1)] := hl
  obtain ⟨hx, hb, hml, hr, hown, hts, hK, hlk, hN⟩ := id C
  unfold f_X8_backNow at hf
  refine lv_aload_n hx hb dX8_backNow_0 rfl (lv_at hl 0 rfl) ?_
  refine lv_aload_n hx hb dX8_backNow_1 rfl (lv_at hl 0 rfl) ?_
  refine gf_X8_16 C hs rfl dX8_backNow_2 ?_
  refine lv_bipush (v := 13) hx hb dX8_backNow_5 (by decide) ?_
  refine lv_iload_n hx hb dX8_backNow_7 rfl (lv_at hl 1 rfl) ?_
  refine lv_iadd hx hb dX8_backNow_8 ?_
  obtain ⟨hc, hf⟩ := cb_ck_inv hf
  refine cb_iald C hs rfl (vp_in_iff.mpr hc) dX8_backNow_9 ?_
  obtain ⟨σ_1, hc, hf⟩ := cb_bv_inv hf
  refine cb_callVv C (c_X8_layBelow  hc) mw_X8_layBelow ml_X8_224 rfl ⟨Nat.le_of_ble_eq_true rfl, Nat.le_of_ble_eq_true rfl⟩ rfl (Nat.le_of_ble_eq_true rfl) rfl hs hl rfl (Nat.le_of_ble_eq_true rfl) dX8_backNow_10 (fun H locs hs => ?_)
  clear hc
  refine lv_aload_n hx hb dX8_backNow_13 rfl (lv_at hl 0 rfl) ?_
  refine gf_X8_16 C hs rfl dX8_backNow_14 ?_
  refine lv_bipush (v := 13) hx hb dX8_backNow_17 (by decide) ?_
  refine lv_iload_n hx hb dX8_backNow_19 rfl (lv_at hl 1 rfl) ?_
  refine lv_iadd hx hb dX8_backNow_20 ?_
  refine lv_iconst (v := (-1)) hx hb dX8_backNow_21 (by decide) ?_
  obtain ⟨hc, hf⟩ := cb_ck_inv hf
  refine cb_iast C hs rfl (vp_in_iff.mpr hc) dX8_backNow_22 (fun H locs hs => ?_)
  obtain ⟨σ_2, e9, hf⟩ := cb_let_inv hf
  replace hs := cb_Hc e9 hs
  clear e9
  have hf := Option.some.inj hf
  subst hf
  exact cb_retv C hs dX8_backNow_23
/-! ===== CardBecomeModel.isCard ===== -/
def f_X8_isCard (x1 : Int32) (σ : cb_St)  : Option (Int32) := cb_bp (f_X8_in (Int32.toInt64 x1) 0 (Int32.toInt64 ((σ.1 0 4) - 1)) σ) (fun r_1 => cb_ck (r_1 = 0 ∨ r_1 = 1) (some r_1))
set_option maxHeartbeats 4000000 in
set_option maxRecDepth 100000 in
theorem c_X8_isCard {x1 : Int32} {σ : cb_St}   {o : Int32} (hf : f_X8_isCard x1 σ = some o) : cb_M l yX8_isCard cX8_isCard 2 (some .boolean) 2 shM A T D σ [.ref (A 0), .int x1] (some (.int o)) σ := by
  refine cb_met (by decide +kernel) (Nat.le_of_ble_eq_true rfl) ?_
  intro p e s m below meth c C hs ls hl
  have hl : lv_has ls 2 [(0, .ref (A 0)), (1, .int x1)] := hl
  obtain ⟨hx, hb, hml, hr, hown, hts, hK, hlk, hN⟩ := id C
  unfold f_X8_isCard at hf
  refine lv_iload_n hx hb dX8_isCard_0 rfl (lv_at hl 1 rfl) ?_
  refine lv_i2l hx hb dX8_isCard_1 rfl ?_
  refine lv_lconst (v := 0) hx hb dX8_isCard_2 (by decide) ?_
  refine lv_aload_n hx hb dX8_isCard_3 rfl (lv_at hl 0 rfl) ?_
  refine gf_X8_86 C hs rfl dX8_isCard_4 ?_
  refine lv_iconst (v := 1) hx hb dX8_isCard_7 (by decide) ?_
  refine lv_isub hx hb dX8_isCard_8 ?_
  refine lv_i2l hx hb dX8_isCard_9 rfl ?_
  obtain ⟨r_1, hc, hf⟩ := cb_bp_inv hf
  refine cb_callSi C (c_X8_in  hc) mw_X8_in ml_X8_78 rfl ⟨Nat.le_of_ble_eq_true rfl, Nat.le_of_ble_eq_true rfl⟩ hs hl rfl (Nat.le_of_ble_eq_true rfl) dX8_isCard_10 (fun H locs hs => ?_)
  clear hc
  obtain ⟨hc, hf⟩ := cb_ck_inv hf
  have hf := Option.some.inj hf
  subst hf
  exact cb_retz C hs hc dX8_isCard_13
/-! ===== CardBecomeModel.beats ===== -/
def f_X8_beats_21 (x1 : Int32) (x2 : Int32) (σ : cb_St)  : Option (Int32) := some (-1000000001)
set_option maxHeartbeats 4000000 in
set_option maxRecDepth 100000 in
theorem w_X8_beats_21 (C : cb_C p s m args meth c cX8_beats 4 (some .int) RX8 D T) {x1 : Int32} {x2 : Int32} {σ : cb_St} {o : Int32}   (hf : f_X8_beats_21 x1 x2 σ = some o) {H : Heap} {locs : List Loc} {ls : Array Slot} (hs : cb_H shM A T D σ s.heap H locs) (hl : lv_has ls 4 [(0, .ref (A 0)), (1, .int x1), (2, .int x2)]) : cb_W p l e 3 s m args below meth c shM A T D (some (.int o)) σ H locs (F0 m 21 ls []) := by
  obtain ⟨hx, hb, hml, hr, hown, hts, hK, hlk, hN⟩ := id C
  unfold f_X8_beats_21 at hf
  refine lv_ldc (v := (-1000000001)) hx hb hown (hts _ kc_X8_209) dX8_beats_21 ?_
  have hf := Option.some.inj hf
  subst hf
  exact cb_reti C hs dX8_beats_23
def f_X8_beats (x1 : Int32) (x2 : Int32) (σ : cb_St)  : Option (Int32) := cb_bp (f_X8_isCard x1 σ) (fun r_1 => if r_1 = 0 then (f_X8_beats_21 x1 x2 σ) else (cb_bp (f_X8_isCard x2 σ) (fun r_2 => if r_2 = 0 then (f_X8_beats_21 x1 x2 σ) else (if x1 = x2 then (f_X8_beats_21 x1 x2 σ) else (cb_bp (f_X8_cardsMeet x1 x2 σ) (fun r_3 => if r_3 = 0 then (some 1) else (if r_3 = 1 then (some 2) else (some 0))))))))
set_option maxHeartbeats 4000000 in
set_option maxRecDepth 100000 in
theorem c_X8_beats {x1 : Int32} {x2 : Int32} {σ : cb_St}   {o : Int32} (hf : f_X8_beats x1 x2 σ = some o) : cb_M l yX8_beats cX8_beats 4 (some .int) 3 shM A T D σ [.ref (A 0), .int x1, .int x2] (some (.int o)) σ := by
  refine cb_met (by decide +kernel) (Nat.le_of_ble_eq_true rfl) ?_
  intro p e s m below meth c C hs ls hl
  have hl : lv_has ls 4 [(0, .ref (A 0)), (1, .int x1), (2, .int x2)] := hl
  obtain ⟨hx, hb, hml, hr, hown, hts, hK, hlk, hN⟩ := id C
  unfold f_X8_beats at hf
  refine lv_aload_n hx hb dX8_beats_0 rfl (lv_at hl 0 rfl) ?_
  refine lv_iload_n hx hb dX8_beats_1 rfl (lv_at hl 1 rfl) ?_
  obtain ⟨r_1, hc, hf⟩ := cb_bp_inv hf
  refine cb_callVi C (c_X8_isCard  hc) mw_X8_isCard ml_X8_206 rfl ⟨Nat.le_of_ble_eq_true rfl, Nat.le_of_ble_eq_true rfl⟩ rfl (Nat.le_of_ble_eq_true rfl) rfl hs hl rfl (Nat.le_of_ble_eq_true rfl) dX8_beats_2 (fun H locs hs => ?_)
  clear hc
  refine lv_if_eq (tgt := 21) hx hb dX8_beats_5 (by decide) (fun cn => ?_) (fun cn => ?_)
  · replace hf := cb_ifp cn hf
    exact w_X8_beats_21 C  hf hs (lv_sub hl [0, 1, 2] rfl)
  · replace hf := cb_ifn cn hf
    refine lv_aload_n hx hb dX8_beats_8 rfl (lv_at hl 0 rfl) ?_
    refine lv_iload_n hx hb dX8_beats_9 rfl (lv_at hl 2 rfl) ?_
    obtain ⟨r_2, hc, hf⟩ := cb_bp_inv hf
    refine cb_callVi C (c_X8_isCard  hc) mw_X8_isCard ml_X8_206 rfl ⟨Nat.le_of_ble_eq_true rfl, Nat.le_of_ble_eq_true rfl⟩ rfl (Nat.le_of_ble_eq_true rfl) rfl hs hl rfl (Nat.le_of_ble_eq_true rfl) dX8_beats_10 (fun H locs hs => ?_)
    clear hc
    refine lv_if_eq (tgt := 21) hx hb dX8_beats_13 (by decide) (fun cn => ?_) (fun cn => ?_)
    · replace hf := cb_ifp cn hf
      exact w_X8_beats_21 C  hf hs (lv_sub hl [0, 1, 2] rfl)
    · replace hf := cb_ifn cn hf
      refine lv_iload_n hx hb dX8_beats_16 rfl (lv_at hl 1 rfl) ?_
      refine lv_iload_n hx hb dX8_beats_17 rfl (lv_at hl 2 rfl) ?_
      refine lv_icmp_ne (tgt := 24) hx hb dX8_beats_18 (by decide) (fun cn => ?_) (fun cn => ?_)
      · replace hf := cb_ifn cn hf
        refine lv_aload_n hx hb dX8_beats_24 rfl (lv_at hl 0 rfl) ?_
        refine lv_iload_n hx hb dX8_beats_25 rfl (lv_at hl 1 rfl) ?_
        refine lv_iload_n hx hb dX8_beats_26 rfl (lv_at hl 2 rfl) ?_
        obtain ⟨r_3, hc, hf⟩ := cb_bp_inv hf
        refine cb_callVi C (c_X8_cardsMeet  hc) mw_X8_cardsMeet ml_X8_174 rfl ⟨Nat.le_of_ble_eq_true rfl, Nat.le_of_ble_eq_true rfl⟩ rfl (Nat.le_of_ble_eq_true rfl) rfl hs hl rfl (Nat.le_of_ble_eq_true rfl) dX8_beats_27 (fun H locs hs => ?_)
        clear hc
        refine lv_istore_n (lv' := [(3, .int r_3), (0, .ref (A 0)), (1, .int x1), (2, .int x2)]) hx hb dX8_beats_30 rfl hl (by decide) rfl (fun ls hl => ?_)
        refine lv_iload_n hx hb dX8_beats_31 rfl (lv_at hl 0 rfl) ?_
        refine lv_if_ne (tgt := 39) hx hb dX8_beats_32 (by decide) (fun cn => ?_) (fun cn => ?_)
        · replace hf := cb_ifn cn hf
          refine lv_iload_n hx hb dX8_beats_39 rfl (lv_at hl 0 rfl) ?_
          refine lv_iconst (v := 1) hx hb dX8_beats_40 (by decide) ?_
          refine lv_icmp_ne (tgt := 48) hx hb dX8_beats_41 (by decide) (fun cn => ?_) (fun cn => ?_)
          · replace hf := cb_ifn cn hf
            refine lv_iconst (v := 0) hx hb dX8_beats_48 (by decide) ?_
            have hf := Option.some.inj hf
            subst hf
            exact cb_reti C hs dX8_beats_49
          · replace hf := cb_ifp cn hf
            refine lv_iconst (v := 2) hx hb dX8_beats_44 (by decide) ?_
            refine lv_goto (tgt := 49) hx hb dX8_beats_45 (by decide) ?_
            have hf := Option.some.inj hf
            subst hf
            exact cb_reti C hs dX8_beats_49
        · replace hf := cb_ifp cn hf
          refine lv_iconst (v := 1) hx hb dX8_beats_35 (by decide) ?_
          refine lv_goto (tgt := 49) hx hb dX8_beats_36 (by decide) ?_
          have hf := Option.some.inj hf
          subst hf
          exact cb_reti C hs dX8_beats_49
      · replace hf := cb_ifp cn hf
        exact w_X8_beats_21 C  hf hs (lv_sub hl [0, 1, 2] rfl)
end
