/-! ===== two new objects stand alike ===== -/
def hI (q : Nat) : Bool := q == 15 || (decide (20 ≤ q) && decide (q ≤ 99) && q % 5 == 2) || q == 115 || q == 121
def σI : cb_St := (fun q => if hI q = true then gm else if q = 3 then (fun i => if i = 2 then -1 else 0) else if q = 4 ∨ q = 9 then (fun i => if i = 1 then -1 else 0) else fun _ => 0, fun _ => 0)
def τI : cb_St := (fun q => if q = 0 then (fun i => if i = 12 then -1 else 0) else if q = 3 then nw 6 else fun _ => 0, fun _ => 0)
theorem sI_z {q : Nat} (h : hI q = false) (h3 : q ≠ 3) (h4 : ¬ (q = 4 ∨ q = 9)) : σI.1 q = fun _ => 0 := by
  show (if hI q = true then gm else if q = 3 then (fun i => if i = 2 then -1 else 0) else if q = 4 ∨ q = 9 then (fun i => if i = 1 then -1 else 0) else fun _ => 0) = _
  rw [if_neg (by rw [h]; decide), if_neg h3, if_neg h4]
theorem sI_h {q : Nat} (h : hI q = true) : σI.1 q = gm := if_pos h
theorem sI_tb {q : Nat} (h : hI q = false) (h3 : q ≠ 3) (h4 : q = 4 ∨ q = 9) : σI.1 q = fun i => if i = 1 then -1 else 0 := by
  show (if hI q = true then gm else if q = 3 then (fun i => if i = 2 then -1 else 0) else if q = 4 ∨ q = 9 then (fun i => if i = 1 then -1 else 0) else fun _ => 0) = _
  rw [if_neg (by rw [h]; decide), if_neg h3, if_pos h4]
theorem sI_rd : σI.1 3 = fun i => if i = 2 then -1 else 0 := by
  show (if hI 3 = true then gm else if 3 = 3 then (fun i => if i = 2 then -1 else 0) else if 3 = 4 ∨ 3 = 9 then (fun i => if i = 1 then -1 else 0) else fun _ => 0) = _
  rw [if_neg (by decide), if_pos rfl]
theorem tI_0 : τI.1 0 = fun i => if i = 12 then -1 else 0 := by
  show (if 0 = 0 then (fun i => if i = 12 then -1 else 0) else if 0 = 3 then nw 6 else fun _ => 0) = _
  rw [if_pos rfl]
theorem tI_3 : τI.1 3 = nw 6 := by
  show (if 3 = 0 then (fun i => if i = 12 then -1 else 0) else if 3 = 3 then nw 6 else fun _ => 0) = _
  rw [if_neg (by decide), if_pos rfl]
theorem tI_z {q : Nat} (h0 : q ≠ 0) (h3 : q ≠ 3) : τI.1 q = fun _ => 0 := by
  show (if q = 0 then (fun i => if i = 12 then -1 else 0) else if q = 3 then nw 6 else fun _ => 0) = _
  rw [if_neg h0, if_neg h3]
section ST
variable {l : Launch} {T : Nat → ClassId} {D : va_G}
theorem mk_pl (b : Nat) (hk : ∀ j, j < 5 → shC.getD (b + j) 0 = [4, 32, 26, 26, 44].getD j 0) (h0 : hI b = false) (h1 : hI (b + 1 + 0) = false) (h2 : hI (b + 1 + 1) = true) (h3 : hI (b + 1 + 2) = false) (h4 : hI (b + 1 + 3) = false) (hb : 9 < b) : ci_M l yX4_init cX4_init 1 3 5 100 shC T D σI pl0 b 5 :=
  m_X4 hk (sI_z h0 (by omega) (by omega)) rfl (sI_z h1 (by omega) (by omega)) (sI_h h2) (sI_z h3 (by omega) (by omega)) (sI_z h4 (by omega) (by omega))
theorem mk_tb (b : Nat) (hk : ∀ j, j < 4 → shC.getD (b + j) 0 = [6, 32, 32, 32].getD j 0) (hb : b = 4 ∨ b = 9) : ci_M l yX6_init cX6_init 1 3 4 100 shC T D σI (.inr (6, [.int 0, .int 0, .int 0, .int 0, .int 0, .int 0, .long 0, .null, .null, .null])) b 4 := by
  rcases hb with rfl | rfl
  · exact m_X6 hk (sI_tb (by decide) (by decide) (by decide)) rfl (sI_z (by decide) (by decide) (by decide)) (sI_z (by decide) (by decide) (by decide)) (sI_z (by decide) (by decide) (by decide))
  · exact m_X6 hk (sI_tb (by decide) (by decide) (by decide)) rfl (sI_z (by decide) (by decide) (by decide)) (sI_z (by decide) (by decide) (by decide)) (sI_z (by decide) (by decide) (by decide))
theorem hI_pls : ∀ i, i < 16 → hI (20 + 5 * i) = false ∧ hI (20 + 5 * i + 1 + 0) = false ∧ hI (20 + 5 * i + 1 + 1) = true ∧ hI (20 + 5 * i + 1 + 2) = false ∧ hI (20 + 5 * i + 1 + 3) = false := by decide
theorem mk_past : ci_M l yX3_init cX3_init 2 4 100 2000 shC T D σI (.inr (3, [.int 0, .int 0, .null])) 18 82 :=
  m_X3 (fun i hi => mk_pl (20 + 5 * i) (sl_pls i hi) (hI_pls i hi).1 (hI_pls i hi).2.1 (hI_pls i hi).2.2.1 (hI_pls i hi).2.2.2.1 (hI_pls i hi).2.2.2.2 (by omega)) (sI_z (by decide) (by decide) (by decide))
theorem hI_ims : ∀ i, i < 2 → hI (112 + 6 * i) = false ∧ hI (112 + 6 * i + 1 + 0) = false ∧ hI (112 + 6 * i + 1 + 0 + 1 + 0) = false ∧ hI (112 + 6 * i + 1 + 0 + 1 + 1) = true ∧ hI (112 + 6 * i + 1 + 0 + 1 + 2) = false ∧ hI (112 + 6 * i + 1 + 0 + 1 + 3) = false := by decide
theorem sl_imp : ∀ i, i < 2 → ∀ j, j < 5 → shC.getD (112 + 6 * i + 1 + 0 + j) 0 = [4, 32, 26, 26, 44].getD j 0 := by decide
theorem mk_im (i : Nat) (hi : i < 2) : ci_M l yX1_init cX1_init 1 4 12 200 shC T D σI im0 (112 + 6 * i) 6 := by
  obtain ⟨h0, h1, h2, h3, h4, h5⟩ := hI_ims i hi
  exact m_X1 (sl_ims i hi) (sI_z h0 (by omega) (by omega)) rfl (mk_pl (112 + 6 * i + 1 + 0) (sl_imp i hi) h1 h2 h3 h4 h5 (by omega))
theorem mk_reader : ci_M l yX5_init cX5_init 1 4 12 500 shC T D σI (.inr (5, [.null, .int 0, .int 0, .int 0, .null, .int 0])) 3 6 :=
  m_X5 (b := 3) (by decide) sI_rd rfl (mk_tb 4 (by decide) (Or.inl rfl)) (sI_z (by decide) (by decide) (by decide))
theorem mk_papers : ci_M l yX2_init cX2_init 1 3 6 200 shC T D σI (.inr (2, [.int 0, .int 0, .null, .null, .null, .null, .null])) 100 6 :=
  m_X2 (b := 100) (by decide) (sI_z (by decide) (by decide) (by decide)) rfl (sI_z (by decide) (by decide) (by decide)) (sI_z (by decide) (by decide) (by decide)) (sI_z (by decide) (by decide) (by decide)) (sI_z (by decide) (by decide) (by decide)) (sI_z (by decide) (by decide) (by decide))
theorem mk_deals : ci_M l yX0_init cX0_init 1 3 5 200 shC T D σI (.inr (0, [.int 0, .int 0, .int 0, .null, .null, .null, .null])) 106 5 :=
  m_X0 (b := 106) (by decide) (sI_z (by decide) (by decide) (by decide)) rfl (sI_z (by decide) (by decide) (by decide)) (sI_z (by decide) (by decide) (by decide)) (sI_z (by decide) (by decide) (by decide)) (sI_z (by decide) (by decide) (by decide))
theorem mk_card : ci_M l yX7_init cX7_init 2 5 1000 10000 shC T D σI (.inr (7, [.int 0, .null, .null, .null, .null, .null, .null, .null, .null, .null])) 0 124 :=
  m_X7 (sI_z (by decide) (by decide) (by decide)) (sI_z (by decide) (by decide) (by decide)) (sI_z (by decide) (by decide) (by decide)) mk_reader (mk_tb 9 (by decide) (Or.inr rfl)) (mk_pl 13 (by decide) (by decide) (by decide) (by decide) (by decide) (by decide) (by decide)) mk_past mk_papers mk_deals mk_im
theorem mk_model : ci_M l yX8_init cX8_init 2 3 100 2000 shM T D τI (.inr (8, [.int 0, .int 0, .int 0, .int 0, .int 0, .null, .null, .int 0, .null, .int 0, .null, .int 0, .int 0, .int 0, .int 0, .int 0, .int 0, .null, .int 0, .null, .null, .int 0, .int 0, .null, .null, .null, .null, .null, .int 0, .null, .null, .null, .null, .int 0, .int 0, .int 0, .null, .null, .null, .null])) 0 21 :=
  m_X8 tI_0 tI_3 (tI_z (by decide) (by decide)) (tI_z (by decide) (by decide)) (tI_z (by decide) (by decide)) (tI_z (by decide) (by decide)) (tI_z (by decide) (by decide)) (tI_z (by decide) (by decide)) (tI_z (by decide) (by decide)) (tI_z (by decide) (by decide)) (tI_z (by decide) (by decide)) (tI_z (by decide) (by decide)) (tI_z (by decide) (by decide)) (tI_z (by decide) (by decide)) (tI_z (by decide) (by decide)) (tI_z (by decide) (by decide)) (tI_z (by decide) (by decide)) (tI_z (by decide) (by decide)) (tI_z (by decide) (by decide)) (tI_z (by decide) (by decide)) (tI_z (by decide) (by decide))
end ST
theorem relI : Rel σI τI := by
  have z9 : σI.1 9 = fun i => if i = 1 then -1 else 0 := sI_tb (by decide) (by decide) (by decide)
  have c : ∀ q, hI q = false → q ≠ 3 → ¬ (q = 4 ∨ q = 9) → ∀ i, σI.1 q i = 0 := fun q a b d i => by rw [sI_z a b d]
  have t0 : ∀ i, i ≠ 12 → τI.1 0 i = 0 := fun i hi => by rw [tI_0]; exact if_neg hi
  have tz : ∀ q i, q ≠ 0 → q ≠ 3 → τI.1 q i = 0 := fun q i a b => by rw [tI_z a b]
  refine ⟨0, 0, 0, 0, fun _ => 0, fun _ => -1, 0, 0, ⟨?_, ?_, ?_, ?_⟩, ?_, ?_, ?_⟩
  · refine ⟨by omega, by omega, ?_, t0 4 (by decide), ?_, t0 7 (by decide), ?_, Or.inl (t0 0 (by decide)), ?_, ?_, ?_, ?_, fun i hi => absurd hi (by omega), fun i hi => absurd hi (by omega), fun c d hc => absurd hc (by omega), fun v hv => ?_⟩
    · rw [z9]; rfl
    · rw [z9]; rfl
    · rw [z9, t0 0 (by decide)]; rfl
    · intro q; rw [t0 0 (by decide)] at q; exact absurd q (by decide)
    · intro _; exact ⟨by rw [z9]; exact zI_m1, rfl, rfl⟩
    · rw [z9, t0 2 (by decide)]; rfl
    · rw [z9, t0 3 (by decide)]; rfl
    · rw [show σI.2 9 = 0 from rfl, bL_0]
      exact ⟨fun q => absurd q (by decide), fun ⟨i, _, _, q, _⟩ => absurd q (by omega)⟩
  · intro i hi
    have h1 : τI.1 20 i = 0 := tz 20 i (by decide) (by decide)
    refine ⟨?_, Or.inl h1, fun q => absurd (h1.symm.trans q) (by decide)⟩
    rw [h1]
    have : i = 0 ∨ i = 1 := by omega
    rcases this with rfl | rfl
    · exact c 112 (by decide) (by decide) (by decide) 0
    · exact c 118 (by decide) (by decide) (by decide) 0
  · exact ⟨0, 0, by omega, by omega, c 100 (by decide) (by decide) (by decide) 0, t0 28 (by decide), c 100 (by decide) (by decide) (by decide) 1, t0 35 (by decide), fun i hi => absurd hi (by omega), fun i hi => absurd hi (by omega)⟩
  · refine ⟨0, by omega, ?_, t0 11 (by decide), ?_, fun i hi => absurd hi (by omega)⟩
    · rw [sI_rd]; rfl
    · rw [sI_rd, tI_0]; rfl
  · have n3 : ∀ j, ¬ (13 ≤ j ∧ j < 19) → τI.1 3 j = 0 := fun j hj => by rw [tI_3]; exact if_neg hj
    refine ⟨by omega, by omega, c 13 (by decide) (by decide) (by decide) 0, n3 12 (by omega), c 13 (by decide) (by decide) (by decide) 2, n3 26 (by omega), ?_, fun i hi => absurd hi (by omega), fun p hp => ⟨?_, ?_, Int.le_refl _, show (-1 : Int) < 0 by decide⟩, fun p _ _ => rfl, fun p hp => ⟨?_, 0, n3 (19 + p) (by omega), by omega⟩, fun i hi => absurd hi (by omega), fun i j _ hj => absurd hj (by omega), fun p q _ _ h0 => absurd h0 (show ¬ (0 : Int) ≤ -1 by decide), fun i p hi => absurd hi (by omega), fun i hi => absurd hi (by omega), fun p _ h0 => absurd h0 (show ¬ (0 : Int) ≤ -1 by decide), fun j _ hj => ?_⟩
    · rw [n3 25 (by omega)]; exact c 13 (by decide) (by decide) (by decide) 1
    · show σI.1 15 p = zI (-1)
      rw [sI_h (by decide), ← zI_m1]; exact if_pos hp
    · show τI.1 3 (13 + p) = zI (-1)
      rw [tI_3, ← zI_m1]; exact if_pos (by omega)
    · show σI.1 16 p = _
      rw [n3 (19 + p) (by omega)]; exact c 16 (by decide) (by decide) (by decide) p
    · rw [n3 25 (by omega)]; exact b_0 _
  · exact ⟨by omega, by omega, c 18 (by decide) (by decide) (by decide) 0, t0 22 (by decide), c 18 (by decide) (by decide) (by decide) 1, fun j hj => absurd hj (by omega)⟩
  · refine ⟨?_, 0, t0 9 (by decide), by omega⟩
    rw [t0 9 (by decide)]; exact c 0 (by decide) (by decide) (by decide) 0
