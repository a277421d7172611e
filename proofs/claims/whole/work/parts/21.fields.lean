section CBF
variable {p : Program} {l : Launch} {e : Env} {s : State} {m : MethodId} {args : Array Value} {below : List Frame} {meth : Method} {c : Code} {sh : List Nat} {A : Nat → Nat} {T : Nat → ClassId} {D : va_G} {σ : cb_St} {H : Heap} {locs : List Loc} {R : Room} {Q : State → Prop} {cc : ByteArray} {nL : Nat} {ret : Option FieldType} {pc : Nat} {ls : Array Slot} {rest : List Value} {k : Nat}
theorem gf_X6_25 (C : cb_C p s m args meth c cc nL ret RX6 D T) (hs : cb_H sh A T D σ s.heap H locs) (hk : sh[k]? = some 6) (hdg : decode cc pc = .ok (.getfield 25, 3)) (kk : W p l e R s m args below meth c H locs 0 0 Q (F0 m (pc + 3) ls (.int (σ.1 k 0) :: rest))) : W p l e R s m args below meth c H locs 0 0 Q (F0 m pc ls (.ref (A k) :: rest)) := by
  obtain ⟨hx, hb, hml, hr, hown, hts, hK, hlk, hN⟩ := C
  exact va_get (D := D) (ci := 6) (C := RX6) (T := TX6) (N := 10) hx hb hts fw_X6 hown hK hs.1 k (cb_at hk) rfl 0 (by decide) (hts _ kf_X6_25) (fun _ h => h) rfl hdg kk
theorem pf_X6_25 {v : Int32} (C : cb_C p s m args meth c cc nL ret RX6 D T) (hs : cb_H sh A T D σ s.heap H locs) (hk : sh[k]? = some 6) (hz : v = 0 ∨ v = 1) (hdg : decode cc pc = .ok (.putfield 25, 3)) (kk : ∀ (H1 : Heap) (locs1 : List Loc), cb_H sh A T D (cb_sI σ k 0 v) s.heap H1 locs1 → W p l e R s m args below meth c H1 locs1 0 0 Q (F0 m (pc + 3) ls rest)) : W p l e R s m args below meth c H locs 0 0 Q (F0 m pc ls (.int v :: .ref (A k) :: rest)) := by
  obtain ⟨hx, hb, hml, hr, hown, hts, hK, hlk, hN⟩ := C
  refine va_put (D := D) (ci := 6) (v := .int v) (ty := .boolean) (C := RX6) (T := TX6) (N := 10) hx hb hts fw_X6 tyX6 tyX6_ok nmX6 hown hK hs.1 hs.2.1 hs.2.2 k (cb_at hk) rfl 0 (by decide) (hts _ kf_X6_25) (fun _ h => h) rfl (by decide +kernel) (by rcases hz with rfl | rfl <;> rfl) (by rcases hz with rfl | rfl <;> rfl) (Nat.le_of_ble_eq_true rfl) hdg (fun H1 locs1 h1 h2 h3 => kk H1 locs1 ⟨?_, cb_D hs.2.1, h3⟩)
  rw [cb_sI, ← cb_setA hk]
  exact h1
theorem gf_X5_44 (C : cb_C p s m args meth c cc nL ret RX5 D T) (hs : cb_H sh A T D σ s.heap H locs) (hk : sh[k]? = some 6) (hdg : decode cc pc = .ok (.getfield 44, 3)) (kk : W p l e R s m args below meth c H locs 0 0 Q (F0 m (pc + 3) ls (.int (σ.1 k 0) :: rest))) : W p l e R s m args below meth c H locs 0 0 Q (F0 m pc ls (.ref (A k) :: rest)) := by
  obtain ⟨hx, hb, hml, hr, hown, hts, hK, hlk, hN⟩ := C
  exact va_get (D := D) (ci := 6) (C := RX6) (T := TX6) (N := 10) hx hb hts fw_X6 hown hK hs.1 k (cb_at hk) rfl 0 (by decide) (hts _ kf_X5_44) (fun _ h => h) rfl hdg kk
theorem pf_X5_44 {v : Int32} (C : cb_C p s m args meth c cc nL ret RX5 D T) (hs : cb_H sh A T D σ s.heap H locs) (hk : sh[k]? = some 6) (hz : v = 0 ∨ v = 1) (hdg : decode cc pc = .ok (.putfield 44, 3)) (kk : ∀ (H1 : Heap) (locs1 : List Loc), cb_H sh A T D (cb_sI σ k 0 v) s.heap H1 locs1 → W p l e R s m args below meth c H1 locs1 0 0 Q (F0 m (pc + 3) ls rest)) : W p l e R s m args below meth c H locs 0 0 Q (F0 m pc ls (.int v :: .ref (A k) :: rest)) := by
  obtain ⟨hx, hb, hml, hr, hown, hts, hK, hlk, hN⟩ := C
  refine va_put (D := D) (ci := 6) (v := .int v) (ty := .boolean) (C := RX6) (T := TX6) (N := 10) hx hb hts fw_X6 tyX6 tyX6_ok nmX6 hown hK hs.1 hs.2.1 hs.2.2 k (cb_at hk) rfl 0 (by decide) (hts _ kf_X5_44) (fun _ h => h) rfl (by decide +kernel) (by rcases hz with rfl | rfl <;> rfl) (by rcases hz with rfl | rfl <;> rfl) (Nat.le_of_ble_eq_true rfl) hdg (fun H1 locs1 h1 h2 h3 => kk H1 locs1 ⟨?_, cb_D hs.2.1, h3⟩)
  rw [cb_sI, ← cb_setA hk]
  exact h1
theorem gf_X7_220 (C : cb_C p s m args meth c cc nL ret RX7 D T) (hs : cb_H sh A T D σ s.heap H locs) (hk : sh[k]? = some 6) (hdg : decode cc pc = .ok (.getfield 220, 3)) (kk : W p l e R s m args below meth c H locs 0 0 Q (F0 m (pc + 3) ls (.int (σ.1 k 0) :: rest))) : W p l e R s m args below meth c H locs 0 0 Q (F0 m pc ls (.ref (A k) :: rest)) := by
  obtain ⟨hx, hb, hml, hr, hown, hts, hK, hlk, hN⟩ := C
  exact va_get (D := D) (ci := 6) (C := RX6) (T := TX6) (N := 10) hx hb hts fw_X6 hown hK hs.1 k (cb_at hk) rfl 0 (by decide) (hts _ kf_X7_220) (fun _ h => h) rfl hdg kk
theorem pf_X7_220 {v : Int32} (C : cb_C p s m args meth c cc nL ret RX7 D T) (hs : cb_H sh A T D σ s.heap H locs) (hk : sh[k]? = some 6) (hz : v = 0 ∨ v = 1) (hdg : decode cc pc = .ok (.putfield 220, 3)) (kk : ∀ (H1 : Heap) (locs1 : List Loc), cb_H sh A T D (cb_sI σ k 0 v) s.heap H1 locs1 → W p l e R s m args below meth c H1 locs1 0 0 Q (F0 m (pc + 3) ls rest)) : W p l e R s m args below meth c H locs 0 0 Q (F0 m pc ls (.int v :: .ref (A k) :: rest)) := by
  obtain ⟨hx, hb, hml, hr, hown, hts, hK, hlk, hN⟩ := C
  refine va_put (D := D) (ci := 6) (v := .int v) (ty := .boolean) (C := RX6) (T := TX6) (N := 10) hx hb hts fw_X6 tyX6 tyX6_ok nmX6 hown hK hs.1 hs.2.1 hs.2.2 k (cb_at hk) rfl 0 (by decide) (hts _ kf_X7_220) (fun _ h => h) rfl (by decide +kernel) (by rcases hz with rfl | rfl <;> rfl) (by rcases hz with rfl | rfl <;> rfl) (Nat.le_of_ble_eq_true rfl) hdg (fun H1 locs1 h1 h2 h3 => kk H1 locs1 ⟨?_, cb_D hs.2.1, h3⟩)
  rw [cb_sI, ← cb_setA hk]
  exact h1
theorem gf_X6_9 (C : cb_C p s m args meth c cc nL ret RX6 D T) (hs : cb_H sh A T D σ s.heap H locs) (hk : sh[k]? = some 6) (hdg : decode cc pc = .ok (.getfield 9, 3)) (kk : W p l e R s m args below meth c H locs 0 0 Q (F0 m (pc + 3) ls (.int (σ.1 k 1) :: rest))) : W p l e R s m args below meth c H locs 0 0 Q (F0 m pc ls (.ref (A k) :: rest)) := by
  obtain ⟨hx, hb, hml, hr, hown, hts, hK, hlk, hN⟩ := C
  exact va_get (D := D) (ci := 6) (C := RX6) (T := TX6) (N := 10) hx hb hts fw_X6 hown hK hs.1 k (cb_at hk) rfl 1 (by decide) (hts _ kf_X6_9) (fun _ h => h) rfl hdg kk
theorem pf_X6_9 {v : Int32} (C : cb_C p s m args meth c cc nL ret RX6 D T) (hs : cb_H sh A T D σ s.heap H locs) (hk : sh[k]? = some 6) (hdg : decode cc pc = .ok (.putfield 9, 3)) (kk : ∀ (H1 : Heap) (locs1 : List Loc), cb_H sh A T D (cb_sI σ k 1 v) s.heap H1 locs1 → W p l e R s m args below meth c H1 locs1 0 0 Q (F0 m (pc + 3) ls rest)) : W p l e R s m args below meth c H locs 0 0 Q (F0 m pc ls (.int v :: .ref (A k) :: rest)) := by
  obtain ⟨hx, hb, hml, hr, hown, hts, hK, hlk, hN⟩ := C
  refine va_put (D := D) (ci := 6) (v := .int v) (ty := .int) (C := RX6) (T := TX6) (N := 10) hx hb hts fw_X6 tyX6 tyX6_ok nmX6 hown hK hs.1 hs.2.1 hs.2.2 k (cb_at hk) rfl 1 (by decide) (hts _ kf_X6_9) (fun _ h => h) rfl (by decide +kernel) rfl rfl (Nat.le_of_ble_eq_true rfl) hdg (fun H1 locs1 h1 h2 h3 => kk H1 locs1 ⟨?_, cb_D hs.2.1, h3⟩)
  rw [cb_sI, ← cb_setA hk]
  exact h1
theorem gf_X5_62 (C : cb_C p s m args meth c cc nL ret RX5 D T) (hs : cb_H sh A T D σ s.heap H locs) (hk : sh[k]? = some 6) (hdg : decode cc pc = .ok (.getfield 62, 3)) (kk : W p l e R s m args below meth c H locs 0 0 Q (F0 m (pc + 3) ls (.int (σ.1 k 1) :: rest))) : W p l e R s m args below meth c H locs 0 0 Q (F0 m pc ls (.ref (A k) :: rest)) := by
  obtain ⟨hx, hb, hml, hr, hown, hts, hK, hlk, hN⟩ := C
  exact va_get (D := D) (ci := 6) (C := RX6) (T := TX6) (N := 10) hx hb hts fw_X6 hown hK hs.1 k (cb_at hk) rfl 1 (by decide) (hts _ kf_X5_62) (fun _ h => h) rfl hdg kk
theorem pf_X5_62 {v : Int32} (C : cb_C p s m args meth c cc nL ret RX5 D T) (hs : cb_H sh A T D σ s.heap H locs) (hk : sh[k]? = some 6) (hdg : decode cc pc = .ok (.putfield 62, 3)) (kk : ∀ (H1 : Heap) (locs1 : List Loc), cb_H sh A T D (cb_sI σ k 1 v) s.heap H1 locs1 → W p l e R s m args below meth c H1 locs1 0 0 Q (F0 m (pc + 3) ls rest)) : W p l e R s m args below meth c H locs 0 0 Q (F0 m pc ls (.int v :: .ref (A k) :: rest)) := by
  obtain ⟨hx, hb, hml, hr, hown, hts, hK, hlk, hN⟩ := C
  refine va_put (D := D) (ci := 6) (v := .int v) (ty := .int) (C := RX6) (T := TX6) (N := 10) hx hb hts fw_X6 tyX6 tyX6_ok nmX6 hown hK hs.1 hs.2.1 hs.2.2 k (cb_at hk) rfl 1 (by decide) (hts _ kf_X5_62) (fun _ h => h) rfl (by decide +kernel) rfl rfl (Nat.le_of_ble_eq_true rfl) hdg (fun H1 locs1 h1 h2 h3 => kk H1 locs1 ⟨?_, cb_D hs.2.1, h3⟩)
  rw [cb_sI, ← cb_setA hk]
  exact h1
theorem gf_X7_111 (C : cb_C p s m args meth c cc nL ret RX7 D T) (hs : cb_H sh A T D σ s.heap H locs) (hk : sh[k]? = some 6) (hdg : decode cc pc = .ok (.getfield 111, 3)) (kk : W p l e R s m args below meth c H locs 0 0 Q (F0 m (pc + 3) ls (.int (σ.1 k 1) :: rest))) : W p l e R s m args below meth c H locs 0 0 Q (F0 m pc ls (.ref (A k) :: rest)) := by
  obtain ⟨hx, hb, hml, hr, hown, hts, hK, hlk, hN⟩ := C
  exact va_get (D := D) (ci := 6) (C := RX6) (T := TX6) (N := 10) hx hb hts fw_X6 hown hK hs.1 k (cb_at hk) rfl 1 (by decide) (hts _ kf_X7_111) (fun _ h => h) rfl hdg kk
theorem pf_X7_111 {v : Int32} (C : cb_C p s m args meth c cc nL ret RX7 D T) (hs : cb_H sh A T D σ s.heap H locs) (hk : sh[k]? = some 6) (hdg : decode cc pc = .ok (.putfield 111, 3)) (kk : ∀ (H1 : Heap) (locs1 : List Loc), cb_H sh A T D (cb_sI σ k 1 v) s.heap H1 locs1 → W p l e R s m args below meth c H1 locs1 0 0 Q (F0 m (pc + 3) ls rest)) : W p l e R s m args below meth c H locs 0 0 Q (F0 m pc ls (.int v :: .ref (A k) :: rest)) := by
  obtain ⟨hx, hb, hml, hr, hown, hts, hK, hlk, hN⟩ := C
  refine va_put (D := D) (ci := 6) (v := .int v) (ty := .int) (C := RX6) (T := TX6) (N := 10) hx hb hts fw_X6 tyX6 tyX6_ok nmX6 hown hK hs.1 hs.2.1 hs.2.2 k (cb_at hk) rfl 1 (by decide) (hts _ kf_X7_111) (fun _ h => h) rfl (by decide +kernel) rfl rfl (Nat.le_of_ble_eq_true rfl) hdg (fun H1 locs1 h1 h2 h3 => kk H1 locs1 ⟨?_, cb_D hs.2.1, h3⟩)
  rw [cb_sI, ← cb_setA hk]
  exact h1
theorem gf_X6_29 (C : cb_C p s m args meth c cc nL ret RX6 D T) (hs : cb_H sh A T D σ s.heap H locs) (hk : sh[k]? = some 6) (hdg : decode cc pc = .ok (.getfield 29, 3)) (kk : W p l e R s m args below meth c H locs 0 0 Q (F0 m (pc + 3) ls (.int (σ.1 k 2) :: rest))) : W p l e R s m args below meth c H locs 0 0 Q (F0 m pc ls (.ref (A k) :: rest)) := by
  obtain ⟨hx, hb, hml, hr, hown, hts, hK, hlk, hN⟩ := C
  exact va_get (D := D) (ci := 6) (C := RX6) (T := TX6) (N := 10) hx hb hts fw_X6 hown hK hs.1 k (cb_at hk) rfl 2 (by decide) (hts _ kf_X6_29) (fun _ h => h) rfl hdg kk
theorem pf_X6_29 {v : Int32} (C : cb_C p s m args meth c cc nL ret RX6 D T) (hs : cb_H sh A T D σ s.heap H locs) (hk : sh[k]? = some 6) (hdg : decode cc pc = .ok (.putfield 29, 3)) (kk : ∀ (H1 : Heap) (locs1 : List Loc), cb_H sh A T D (cb_sI σ k 2 v) s.heap H1 locs1 → W p l e R s m args below meth c H1 locs1 0 0 Q (F0 m (pc + 3) ls rest)) : W p l e R s m args below meth c H locs 0 0 Q (F0 m pc ls (.int v :: .ref (A k) :: rest)) := by
  obtain ⟨hx, hb, hml, hr, hown, hts, hK, hlk, hN⟩ := C
  refine va_put (D := D) (ci := 6) (v := .int v) (ty := .int) (C := RX6) (T := TX6) (N := 10) hx hb hts fw_X6 tyX6 tyX6_ok nmX6 hown hK hs.1 hs.2.1 hs.2.2 k (cb_at hk) rfl 2 (by decide) (hts _ kf_X6_29) (fun _ h => h) rfl (by decide +kernel) rfl rfl (Nat.le_of_ble_eq_true rfl) hdg (fun H1 locs1 h1 h2 h3 => kk H1 locs1 ⟨?_, cb_D hs.2.1, h3⟩)
  rw [cb_sI, ← cb_setA hk]
  exact h1
theorem gf_X5_65 (C : cb_C p s m args meth c cc nL ret RX5 D T) (hs : cb_H sh A T D σ s.heap H locs) (hk : sh[k]? = some 6) (hdg : decode cc pc = .ok (.getfield 65, 3)) (kk : W p l e R s m args below meth c H locs 0 0 Q (F0 m (pc + 3) ls (.int (σ.1 k 2) :: rest))) : W p l e R s m args below meth c H locs 0 0 Q (F0 m pc ls (.ref (A k) :: rest)) := by
  obtain ⟨hx, hb, hml, hr, hown, hts, hK, hlk, hN⟩ := C
  exact va_get (D := D) (ci := 6) (C := RX6) (T := TX6) (N := 10) hx hb hts fw_X6 hown hK hs.1 k (cb_at hk) rfl 2 (by decide) (hts _ kf_X5_65) (fun _ h => h) rfl hdg kk
theorem pf_X5_65 {v : Int32} (C : cb_C p s m args meth c cc nL ret RX5 D T) (hs : cb_H sh A T D σ s.heap H locs) (hk : sh[k]? = some 6) (hdg : decode cc pc = .ok (.putfield 65, 3)) (kk : ∀ (H1 : Heap) (locs1 : List Loc), cb_H sh A T D (cb_sI σ k 2 v) s.heap H1 locs1 → W p l e R s m args below meth c H1 locs1 0 0 Q (F0 m (pc + 3) ls rest)) : W p l e R s m args below meth c H locs 0 0 Q (F0 m pc ls (.int v :: .ref (A k) :: rest)) := by
  obtain ⟨hx, hb, hml, hr, hown, hts, hK, hlk, hN⟩ := C
  refine va_put (D := D) (ci := 6) (v := .int v) (ty := .int) (C := RX6) (T := TX6) (N := 10) hx hb hts fw_X6 tyX6 tyX6_ok nmX6 hown hK hs.1 hs.2.1 hs.2.2 k (cb_at hk) rfl 2 (by decide) (hts _ kf_X5_65) (fun _ h => h) rfl (by decide +kernel) rfl rfl (Nat.le_of_ble_eq_true rfl) hdg (fun H1 locs1 h1 h2 h3 => kk H1 locs1 ⟨?_, cb_D hs.2.1, h3⟩)
  rw [cb_sI, ← cb_setA hk]
  exact h1
theorem gf_X7_114 (C : cb_C p s m args meth c cc nL ret RX7 D T) (hs : cb_H sh A T D σ s.heap H locs) (hk : sh[k]? = some 6) (hdg : decode cc pc = .ok (.getfield 114, 3)) (kk : W p l e R s m args below meth c H locs 0 0 Q (F0 m (pc + 3) ls (.int (σ.1 k 2) :: rest))) : W p l e R s m args below meth c H locs 0 0 Q (F0 m pc ls (.ref (A k) :: rest)) := by
  obtain ⟨hx, hb, hml, hr, hown, hts, hK, hlk, hN⟩ := C
  exact va_get (D := D) (ci := 6) (C := RX6) (T := TX6) (N := 10) hx hb hts fw_X6 hown hK hs.1 k (cb_at hk) rfl 2 (by decide) (hts _ kf_X7_114) (fun _ h => h) rfl hdg kk
theorem pf_X7_114 {v : Int32} (C : cb_C p s m args meth c cc nL ret RX7 D T) (hs : cb_H sh A T D σ s.heap H locs) (hk : sh[k]? = some 6) (hdg : decode cc pc = .ok (.putfield 114, 3)) (kk : ∀ (H1 : Heap) (locs1 : List Loc), cb_H sh A T D (cb_sI σ k 2 v) s.heap H1 locs1 → W p l e R s m args below meth c H1 locs1 0 0 Q (F0 m (pc + 3) ls rest)) : W p l e R s m args below meth c H locs 0 0 Q (F0 m pc ls (.int v :: .ref (A k) :: rest)) := by
  obtain ⟨hx, hb, hml, hr, hown, hts, hK, hlk, hN⟩ := C
  refine va_put (D := D) (ci := 6) (v := .int v) (ty := .int) (C := RX6) (T := TX6) (N := 10) hx hb hts fw_X6 tyX6 tyX6_ok nmX6 hown hK hs.1 hs.2.1 hs.2.2 k (cb_at hk) rfl 2 (by decide) (hts _ kf_X7_114) (fun _ h => h) rfl (by decide +kernel) rfl rfl (Nat.le_of_ble_eq_true rfl) hdg (fun H1 locs1 h1 h2 h3 => kk H1 locs1 ⟨?_, cb_D hs.2.1, h3⟩)
  rw [cb_sI, ← cb_setA hk]
  exact h1
theorem gf_X6_32 (C : cb_C p s m args meth c cc nL ret RX6 D T) (hs : cb_H sh A T D σ s.heap H locs) (hk : sh[k]? = some 6) (hdg : decode cc pc = .ok (.getfield 32, 3)) (kk : W p l e R s m args below meth c H locs 0 0 Q (F0 m (pc + 3) ls (.int (σ.1 k 3) :: rest))) : W p l e R s m args below meth c H locs 0 0 Q (F0 m pc ls (.ref (A k) :: rest)) := by
  obtain ⟨hx, hb, hml, hr, hown, hts, hK, hlk, hN⟩ := C
  exact va_get (D := D) (ci := 6) (C := RX6) (T := TX6) (N := 10) hx hb hts fw_X6 hown hK hs.1 k (cb_at hk) rfl 3 (by decide) (hts _ kf_X6_32) (fun _ h => h) rfl hdg kk
theorem pf_X6_32 {v : Int32} (C : cb_C p s m args meth c cc nL ret RX6 D T) (hs : cb_H sh A T D σ s.heap H locs) (hk : sh[k]? = some 6) (hdg : decode cc pc = .ok (.putfield 32, 3)) (kk : ∀ (H1 : Heap) (locs1 : List Loc), cb_H sh A T D (cb_sI σ k 3 v) s.heap H1 locs1 → W p l e R s m args below meth c H1 locs1 0 0 Q (F0 m (pc + 3) ls rest)) : W p l e R s m args below meth c H locs 0 0 Q (F0 m pc ls (.int v :: .ref (A k) :: rest)) := by
  obtain ⟨hx, hb, hml, hr, hown, hts, hK, hlk, hN⟩ := C
  refine va_put (D := D) (ci := 6) (v := .int v) (ty := .int) (C := RX6) (T := TX6) (N := 10) hx hb hts fw_X6 tyX6 tyX6_ok nmX6 hown hK hs.1 hs.2.1 hs.2.2 k (cb_at hk) rfl 3 (by decide) (hts _ kf_X6_32) (fun _ h => h) rfl (by decide +kernel) rfl rfl (Nat.le_of_ble_eq_true rfl) hdg (fun H1 locs1 h1 h2 h3 => kk H1 locs1 ⟨?_, cb_D hs.2.1, h3⟩)
  rw [cb_sI, ← cb_setA hk]
  exact h1
theorem gf_X5_68 (C : cb_C p s m args meth c cc nL ret RX5 D T) (hs : cb_H sh A T D σ s.heap H locs) (hk : sh[k]? = some 6) (hdg : decode cc pc = .ok (.getfield 68, 3)) (kk : W p l e R s m args below meth c H locs 0 0 Q (F0 m (pc + 3) ls (.int (σ.1 k 3) :: rest))) : W p l e R s m args below meth c H locs 0 0 Q (F0 m pc ls (.ref (A k) :: rest)) := by
  obtain ⟨hx, hb, hml, hr, hown, hts, hK, hlk, hN⟩ := C
  exact va_get (D := D) (ci := 6) (C := RX6) (T := TX6) (N := 10) hx hb hts fw_X6 hown hK hs.1 k (cb_at hk) rfl 3 (by decide) (hts _ kf_X5_68) (fun _ h => h) rfl hdg kk
theorem pf_X5_68 {v : Int32} (C : cb_C p s m args meth c cc nL ret RX5 D T) (hs : cb_H sh A T D σ s.heap H locs) (hk : sh[k]? = some 6) (hdg : decode cc pc = .ok (.putfield 68, 3)) (kk : ∀ (H1 : Heap) (locs1 : List Loc), cb_H sh A T D (cb_sI σ k 3 v) s.heap H1 locs1 → W p l e R s m args below meth c H1 locs1 0 0 Q (F0 m (pc + 3) ls rest)) : W p l e R s m args below meth c H locs 0 0 Q (F0 m pc ls (.int v :: .ref (A k) :: rest)) := by
  obtain ⟨hx, hb, hml, hr, hown, hts, hK, hlk, hN⟩ := C
  refine va_put (D := D) (ci := 6) (v := .int v) (ty := .int) (C := RX6) (T := TX6) (N := 10) hx hb hts fw_X6 tyX6 tyX6_ok nmX6 hown hK hs.1 hs.2.1 hs.2.2 k (cb_at hk) rfl 3 (by decide) (hts _ kf_X5_68) (fun _ h => h) rfl (by decide +kernel) rfl rfl (Nat.le_of_ble_eq_true rfl) hdg (fun H1 locs1 h1 h2 h3 => kk H1 locs1 ⟨?_, cb_D hs.2.1, h3⟩)
  rw [cb_sI, ← cb_setA hk]
  exact h1
theorem gf_X7_117 (C : cb_C p s m args meth c cc nL ret RX7 D T) (hs : cb_H sh A T D σ s.heap H locs) (hk : sh[k]? = some 6) (hdg : decode cc pc = .ok (.getfield 117, 3)) (kk : W p l e R s m args below meth c H locs 0 0 Q (F0 m (pc + 3) ls (.int (σ.1 k 3) :: rest))) : W p l e R s m args below meth c H locs 0 0 Q (F0 m pc ls (.ref (A k) :: rest)) := by
  obtain ⟨hx, hb, hml, hr, hown, hts, hK, hlk, hN⟩ := C
  exact va_get (D := D) (ci := 6) (C := RX6) (T := TX6) (N := 10) hx hb hts fw_X6 hown hK hs.1 k (cb_at hk) rfl 3 (by decide) (hts _ kf_X7_117) (fun _ h => h) rfl hdg kk
theorem pf_X7_117 {v : Int32} (C : cb_C p s m args meth c cc nL ret RX7 D T) (hs : cb_H sh A T D σ s.heap H locs) (hk : sh[k]? = some 6) (hdg : decode cc pc = .ok (.putfield 117, 3)) (kk : ∀ (H1 : Heap) (locs1 : List Loc), cb_H sh A T D (cb_sI σ k 3 v) s.heap H1 locs1 → W p l e R s m args below meth c H1 locs1 0 0 Q (F0 m (pc + 3) ls rest)) : W p l e R s m args below meth c H locs 0 0 Q (F0 m pc ls (.int v :: .ref (A k) :: rest)) := by
  obtain ⟨hx, hb, hml, hr, hown, hts, hK, hlk, hN⟩ := C
  refine va_put (D := D) (ci := 6) (v := .int v) (ty := .int) (C := RX6) (T := TX6) (N := 10) hx hb hts fw_X6 tyX6 tyX6_ok nmX6 hown hK hs.1 hs.2.1 hs.2.2 k (cb_at hk) rfl 3 (by decide) (hts _ kf_X7_117) (fun _ h => h) rfl (by decide +kernel) rfl rfl (Nat.le_of_ble_eq_true rfl) hdg (fun H1 locs1 h1 h2 h3 => kk H1 locs1 ⟨?_, cb_D hs.2.1, h3⟩)
  rw [cb_sI, ← cb_setA hk]
  exact h1
theorem gf_X6_35 (C : cb_C p s m args meth c cc nL ret RX6 D T) (hs : cb_H sh A T D σ s.heap H locs) (hk : sh[k]? = some 6) (hdg : decode cc pc = .ok (.getfield 35, 3)) (kk : W p l e R s m args below meth c H locs 0 0 Q (F0 m (pc + 3) ls (.int (σ.1 k 4) :: rest))) : W p l e R s m args below meth c H locs 0 0 Q (F0 m pc ls (.ref (A k) :: rest)) := by
  obtain ⟨hx, hb, hml, hr, hown, hts, hK, hlk, hN⟩ := C
  exact va_get (D := D) (ci := 6) (C := RX6) (T := TX6) (N := 10) hx hb hts fw_X6 hown hK hs.1 k (cb_at hk) rfl 4 (by decide) (hts _ kf_X6_35) (fun _ h => h) rfl hdg kk
theorem pf_X6_35 {v : Int32} (C : cb_C p s m args meth c cc nL ret RX6 D T) (hs : cb_H sh A T D σ s.heap H locs) (hk : sh[k]? = some 6) (hdg : decode cc pc = .ok (.putfield 35, 3)) (kk : ∀ (H1 : Heap) (locs1 : List Loc), cb_H sh A T D (cb_sI σ k 4 v) s.heap H1 locs1 → W p l e R s m args below meth c H1 locs1 0 0 Q (F0 m (pc + 3) ls rest)) : W p l e R s m args below meth c H locs 0 0 Q (F0 m pc ls (.int v :: .ref (A k) :: rest)) := by
  obtain ⟨hx, hb, hml, hr, hown, hts, hK, hlk, hN⟩ := C
  refine va_put (D := D) (ci := 6) (v := .int v) (ty := .int) (C := RX6) (T := TX6) (N := 10) hx hb hts fw_X6 tyX6 tyX6_ok nmX6 hown hK hs.1 hs.2.1 hs.2.2 k (cb_at hk) rfl 4 (by decide) (hts _ kf_X6_35) (fun _ h => h) rfl (by decide +kernel) rfl rfl (Nat.le_of_ble_eq_true rfl) hdg (fun H1 locs1 h1 h2 h3 => kk H1 locs1 ⟨?_, cb_D hs.2.1, h3⟩)
  rw [cb_sI, ← cb_setA hk]
  exact h1
theorem gf_X7_88 (C : cb_C p s m args meth c cc nL ret RX7 D T) (hs : cb_H sh A T D σ s.heap H locs) (hk : sh[k]? = some 6) (hdg : decode cc pc = .ok (.getfield 88, 3)) (kk : W p l e R s m args below meth c H locs 0 0 Q (F0 m (pc + 3) ls (.int (σ.1 k 4) :: rest))) : W p l e R s m args below meth c H locs 0 0 Q (F0 m pc ls (.ref (A k) :: rest)) := by
  obtain ⟨hx, hb, hml, hr, hown, hts, hK, hlk, hN⟩ := C
  exact va_get (D := D) (ci := 6) (C := RX6) (T := TX6) (N := 10) hx hb hts fw_X6 hown hK hs.1 k (cb_at hk) rfl 4 (by decide) (hts _ kf_X7_88) (fun _ h => h) rfl hdg kk
theorem pf_X7_88 {v : Int32} (C : cb_C p s m args meth c cc nL ret RX7 D T) (hs : cb_H sh A T D σ s.heap H locs) (hk : sh[k]? = some 6) (hdg : decode cc pc = .ok (.putfield 88, 3)) (kk : ∀ (H1 : Heap) (locs1 : List Loc), cb_H sh A T D (cb_sI σ k 4 v) s.heap H1 locs1 → W p l e R s m args below meth c H1 locs1 0 0 Q (F0 m (pc + 3) ls rest)) : W p l e R s m args below meth c H locs 0 0 Q (F0 m pc ls (.int v :: .ref (A k) :: rest)) := by
  obtain ⟨hx, hb, hml, hr, hown, hts, hK, hlk, hN⟩ := C
  refine va_put (D := D) (ci := 6) (v := .int v) (ty := .int) (C := RX6) (T := TX6) (N := 10) hx hb hts fw_X6 tyX6 tyX6_ok nmX6 hown hK hs.1 hs.2.1 hs.2.2 k (cb_at hk) rfl 4 (by decide) (hts _ kf_X7_88) (fun _ h => h) rfl (by decide +kernel) rfl rfl (Nat.le_of_ble_eq_true rfl) hdg (fun H1 locs1 h1 h2 h3 => kk H1 locs1 ⟨?_, cb_D hs.2.1, h3⟩)
  rw [cb_sI, ← cb_setA hk]
  exact h1
theorem gf_X5_85 (C : cb_C p s m args meth c cc nL ret RX5 D T) (hs : cb_H sh A T D σ s.heap H locs) (hk : sh[k]? = some 6) (hdg : decode cc pc = .ok (.getfield 85, 3)) (kk : W p l e R s m args below meth c H locs 0 0 Q (F0 m (pc + 3) ls (.int (σ.1 k 4) :: rest))) : W p l e R s m args below meth c H locs 0 0 Q (F0 m pc ls (.ref (A k) :: rest)) := by
  obtain ⟨hx, hb, hml, hr, hown, hts, hK, hlk, hN⟩ := C
  exact va_get (D := D) (ci := 6) (C := RX6) (T := TX6) (N := 10) hx hb hts fw_X6 hown hK hs.1 k (cb_at hk) rfl 4 (by decide) (hts _ kf_X5_85) (fun _ h => h) rfl hdg kk
theorem pf_X5_85 {v : Int32} (C : cb_C p s m args meth c cc nL ret RX5 D T) (hs : cb_H sh A T D σ s.heap H locs) (hk : sh[k]? = some 6) (hdg : decode cc pc = .ok (.putfield 85, 3)) (kk : ∀ (H1 : Heap) (locs1 : List Loc), cb_H sh A T D (cb_sI σ k 4 v) s.heap H1 locs1 → W p l e R s m args below meth c H1 locs1 0 0 Q (F0 m (pc + 3) ls rest)) : W p l e R s m args below meth c H locs 0 0 Q (F0 m pc ls (.int v :: .ref (A k) :: rest)) := by
  obtain ⟨hx, hb, hml, hr, hown, hts, hK, hlk, hN⟩ := C
  refine va_put (D := D) (ci := 6) (v := .int v) (ty := .int) (C := RX6) (T := TX6) (N := 10) hx hb hts fw_X6 tyX6 tyX6_ok nmX6 hown hK hs.1 hs.2.1 hs.2.2 k (cb_at hk) rfl 4 (by decide) (hts _ kf_X5_85) (fun _ h => h) rfl (by decide +kernel) rfl rfl (Nat.le_of_ble_eq_true rfl) hdg (fun H1 locs1 h1 h2 h3 => kk H1 locs1 ⟨?_, cb_D hs.2.1, h3⟩)
  rw [cb_sI, ← cb_setA hk]
  exact h1
theorem gf_X0_39 (C : cb_C p s m args meth c cc nL ret RX0 D T) (hs : cb_H sh A T D σ s.heap H locs) (hk : sh[k]? = some 6) (hdg : decode cc pc = .ok (.getfield 39, 3)) (kk : W p l e R s m args below meth c H locs 0 0 Q (F0 m (pc + 3) ls (.int (σ.1 k 5) :: rest))) : W p l e R s m args below meth c H locs 0 0 Q (F0 m pc ls (.ref (A k) :: rest)) := by
  obtain ⟨hx, hb, hml, hr, hown, hts, hK, hlk, hN⟩ := C
  exact va_get (D := D) (ci := 6) (C := RX6) (T := TX6) (N := 10) hx hb hts fw_X6 hown hK hs.1 k (cb_at hk) rfl 5 (by decide) (hts _ kf_X0_39) (fun _ h => h) rfl hdg kk
theorem pf_X0_39 {v : Int32} (C : cb_C p s m args meth c cc nL ret RX0 D T) (hs : cb_H sh A T D σ s.heap H locs) (hk : sh[k]? = some 6) (hdg : decode cc pc = .ok (.putfield 39, 3)) (kk : ∀ (H1 : Heap) (locs1 : List Loc), cb_H sh A T D (cb_sI σ k 5 v) s.heap H1 locs1 → W p l e R s m args below meth c H1 locs1 0 0 Q (F0 m (pc + 3) ls rest)) : W p l e R s m args below meth c H locs 0 0 Q (F0 m pc ls (.int v :: .ref (A k) :: rest)) := by
  obtain ⟨hx, hb, hml, hr, hown, hts, hK, hlk, hN⟩ := C
  refine va_put (D := D) (ci := 6) (v := .int v) (ty := .int) (C := RX6) (T := TX6) (N := 10) hx hb hts fw_X6 tyX6 tyX6_ok nmX6 hown hK hs.1 hs.2.1 hs.2.2 k (cb_at hk) rfl 5 (by decide) (hts _ kf_X0_39) (fun _ h => h) rfl (by decide +kernel) rfl rfl (Nat.le_of_ble_eq_true rfl) hdg (fun H1 locs1 h1 h2 h3 => kk H1 locs1 ⟨?_, cb_D hs.2.1, h3⟩)
  rw [cb_sI, ← cb_setA hk]
  exact h1
theorem gf_X6_38 (C : cb_C p s m args meth c cc nL ret RX6 D T) (hs : cb_H sh A T D σ s.heap H locs) (hk : sh[k]? = some 6) (hdg : decode cc pc = .ok (.getfield 38, 3)) (kk : W p l e R s m args below meth c H locs 0 0 Q (F0 m (pc + 3) ls (.int (σ.1 k 5) :: rest))) : W p l e R s m args below meth c H locs 0 0 Q (F0 m pc ls (.ref (A k) :: rest)) := by
  obtain ⟨hx, hb, hml, hr, hown, hts, hK, hlk, hN⟩ := C
  exact va_get (D := D) (ci := 6) (C := RX6) (T := TX6) (N := 10) hx hb hts fw_X6 hown hK hs.1 k (cb_at hk) rfl 5 (by decide) (hts _ kf_X6_38) (fun _ h => h) rfl hdg kk
theorem pf_X6_38 {v : Int32} (C : cb_C p s m args meth c cc nL ret RX6 D T) (hs : cb_H sh A T D σ s.heap H locs) (hk : sh[k]? = some 6) (hdg : decode cc pc = .ok (.putfield 38, 3)) (kk : ∀ (H1 : Heap) (locs1 : List Loc), cb_H sh A T D (cb_sI σ k 5 v) s.heap H1 locs1 → W p l e R s m args below meth c H1 locs1 0 0 Q (F0 m (pc + 3) ls rest)) : W p l e R s m args below meth c H locs 0 0 Q (F0 m pc ls (.int v :: .ref (A k) :: rest)) := by
  obtain ⟨hx, hb, hml, hr, hown, hts, hK, hlk, hN⟩ := C
  refine va_put (D := D) (ci := 6) (v := .int v) (ty := .int) (C := RX6) (T := TX6) (N := 10) hx hb hts fw_X6 tyX6 tyX6_ok nmX6 hown hK hs.1 hs.2.1 hs.2.2 k (cb_at hk) rfl 5 (by decide) (hts _ kf_X6_38) (fun _ h => h) rfl (by decide +kernel) rfl rfl (Nat.le_of_ble_eq_true rfl) hdg (fun H1 locs1 h1 h2 h3 => kk H1 locs1 ⟨?_, cb_D hs.2.1, h3⟩)
  rw [cb_sI, ← cb_setA hk]
  exact h1
theorem gf_X7_105 (C : cb_C p s m args meth c cc nL ret RX7 D T) (hs : cb_H sh A T D σ s.heap H locs) (hk : sh[k]? = some 6) (hdg : decode cc pc = .ok (.getfield 105, 3)) (kk : W p l e R s m args below meth c H locs 0 0 Q (F0 m (pc + 3) ls (.int (σ.1 k 5) :: rest))) : W p l e R s m args below meth c H locs 0 0 Q (F0 m pc ls (.ref (A k) :: rest)) := by
  obtain ⟨hx, hb, hml, hr, hown, hts, hK, hlk, hN⟩ := C
  exact va_get (D := D) (ci := 6) (C := RX6) (T := TX6) (N := 10) hx hb hts fw_X6 hown hK hs.1 k (cb_at hk) rfl 5 (by decide) (hts _ kf_X7_105) (fun _ h => h) rfl hdg kk
theorem pf_X7_105 {v : Int32} (C : cb_C p s m args meth c cc nL ret RX7 D T) (hs : cb_H sh A T D σ s.heap H locs) (hk : sh[k]? = some 6) (hdg : decode cc pc = .ok (.putfield 105, 3)) (kk : ∀ (H1 : Heap) (locs1 : List Loc), cb_H sh A T D (cb_sI σ k 5 v) s.heap H1 locs1 → W p l e R s m args below meth c H1 locs1 0 0 Q (F0 m (pc + 3) ls rest)) : W p l e R s m args below meth c H locs 0 0 Q (F0 m pc ls (.int v :: .ref (A k) :: rest)) := by
  obtain ⟨hx, hb, hml, hr, hown, hts, hK, hlk, hN⟩ := C
  refine va_put (D := D) (ci := 6) (v := .int v) (ty := .int) (C := RX6) (T := TX6) (N := 10) hx hb hts fw_X6 tyX6 tyX6_ok nmX6 hown hK hs.1 hs.2.1 hs.2.2 k (cb_at hk) rfl 5 (by decide) (hts _ kf_X7_105) (fun _ h => h) rfl (by decide +kernel) rfl rfl (Nat.le_of_ble_eq_true rfl) hdg (fun H1 locs1 h1 h2 h3 => kk H1 locs1 ⟨?_, cb_D hs.2.1, h3⟩)
  rw [cb_sI, ← cb_setA hk]
  exact h1
theorem gf_X5_98 (C : cb_C p s m args meth c cc nL ret RX5 D T) (hs : cb_H sh A T D σ s.heap H locs) (hk : sh[k]? = some 6) (hdg : decode cc pc = .ok (.getfield 98, 3)) (kk : W p l e R s m args below meth c H locs 0 0 Q (F0 m (pc + 3) ls (.int (σ.1 k 5) :: rest))) : W p l e R s m args below meth c H locs 0 0 Q (F0 m pc ls (.ref (A k) :: rest)) := by
  obtain ⟨hx, hb, hml, hr, hown, hts, hK, hlk, hN⟩ := C
  exact va_get (D := D) (ci := 6) (C := RX6) (T := TX6) (N := 10) hx hb hts fw_X6 hown hK hs.1 k (cb_at hk) rfl 5 (by decide) (hts _ kf_X5_98) (fun _ h => h) rfl hdg kk
theorem pf_X5_98 {v : Int32} (C : cb_C p s m args meth c cc nL ret RX5 D T) (hs : cb_H sh A T D σ s.heap H locs) (hk : sh[k]? = some 6) (hdg : decode cc pc = .ok (.putfield 98, 3)) (kk : ∀ (H1 : Heap) (locs1 : List Loc), cb_H sh A T D (cb_sI σ k 5 v) s.heap H1 locs1 → W p l e R s m args below meth c H1 locs1 0 0 Q (F0 m (pc + 3) ls rest)) : W p l e R s m args below meth c H locs 0 0 Q (F0 m pc ls (.int v :: .ref (A k) :: rest)) := by
  obtain ⟨hx, hb, hml, hr, hown, hts, hK, hlk, hN⟩ := C
  refine va_put (D := D) (ci := 6) (v := .int v) (ty := .int) (C := RX6) (T := TX6) (N := 10) hx hb hts fw_X6 tyX6 tyX6_ok nmX6 hown hK hs.1 hs.2.1 hs.2.2 k (cb_at hk) rfl 5 (by decide) (hts _ kf_X5_98) (fun _ h => h) rfl (by decide +kernel) rfl rfl (Nat.le_of_ble_eq_true rfl) hdg (fun H1 locs1 h1 h2 h3 => kk H1 locs1 ⟨?_, cb_D hs.2.1, h3⟩)
  rw [cb_sI, ← cb_setA hk]
  exact h1
theorem gf_X6_41 (C : cb_C p s m args meth c cc nL ret RX6 D T) (hs : cb_H sh A T D σ s.heap H locs) (hk : sh[k]? = some 6) (hdg : decode cc pc = .ok (.getfield 41, 3)) (kk : W p l e R s m args below meth c H locs 0 0 Q (F0 m (pc + 3) ls (.long (σ.2 k) :: rest))) : W p l e R s m args below meth c H locs 0 0 Q (F0 m pc ls (.ref (A k) :: rest)) := by
  obtain ⟨hx, hb, hml, hr, hown, hts, hK, hlk, hN⟩ := C
  exact va_get (D := D) (ci := 6) (C := RX6) (T := TX6) (N := 10) hx hb hts fw_X6 hown hK hs.1 k (cb_at hk) rfl 6 (by decide) (hts _ kf_X6_41) (fun _ h => h) rfl hdg kk
theorem pf_X6_41 {v : Int64} (C : cb_C p s m args meth c cc nL ret RX6 D T) (hs : cb_H sh A T D σ s.heap H locs) (hk : sh[k]? = some 6) (hdg : decode cc pc = .ok (.putfield 41, 3)) (kk : ∀ (H1 : Heap) (locs1 : List Loc), cb_H sh A T D (cb_sL σ k v) s.heap H1 locs1 → W p l e R s m args below meth c H1 locs1 0 0 Q (F0 m (pc + 3) ls rest)) : W p l e R s m args below meth c H locs 0 0 Q (F0 m pc ls (.long v :: .ref (A k) :: rest)) := by
  obtain ⟨hx, hb, hml, hr, hown, hts, hK, hlk, hN⟩ := C
  refine va_put (D := D) (ci := 6) (v := .long v) (ty := .long) (C := RX6) (T := TX6) (N := 10) hx hb hts fw_X6 tyX6 tyX6_ok nmX6 hown hK hs.1 hs.2.1 hs.2.2 k (cb_at hk) rfl 6 (by decide) (hts _ kf_X6_41) (fun _ h => h) rfl (by decide +kernel) rfl rfl (Nat.le_of_ble_eq_true rfl) hdg (fun H1 locs1 h1 h2 h3 => kk H1 locs1 ⟨?_, cb_D hs.2.1, h3⟩)
  rw [← cb_setL hk]
  exact h1
theorem gf_X6_15 (C : cb_C p s m args meth c cc nL ret RX6 D T) (hs : cb_H sh A T D σ s.heap H locs) (hk : sh[k]? = some 6) (hdg : decode cc pc = .ok (.getfield 15, 3)) (kk : W p l e R s m args below meth c H locs 0 0 Q (F0 m (pc + 3) ls (.ref (A (k + 1)) :: rest))) : W p l e R s m args below meth c H locs 0 0 Q (F0 m pc ls (.ref (A k) :: rest)) := by
  obtain ⟨hx, hb, hml, hr, hown, hts, hK, hlk, hN⟩ := C
  exact va_get (D := D) (ci := 6) (C := RX6) (T := TX6) (N := 10) hx hb hts fw_X6 hown hK hs.1 k (cb_at hk) rfl 7 (by decide) (hts _ kf_X6_15) (fun _ h => h) rfl hdg kk
theorem gf_X6_19 (C : cb_C p s m args meth c cc nL ret RX6 D T) (hs : cb_H sh A T D σ s.heap H locs) (hk : sh[k]? = some 6) (hdg : decode cc pc = .ok (.getfield 19, 3)) (kk : W p l e R s m args below meth c H locs 0 0 Q (F0 m (pc + 3) ls (.ref (A (k + 2)) :: rest))) : W p l e R s m args below meth c H locs 0 0 Q (F0 m pc ls (.ref (A k) :: rest)) := by
  obtain ⟨hx, hb, hml, hr, hown, hts, hK, hlk, hN⟩ := C
  exact va_get (D := D) (ci := 6) (C := RX6) (T := TX6) (N := 10) hx hb hts fw_X6 hown hK hs.1 k (cb_at hk) rfl 8 (by decide) (hts _ kf_X6_19) (fun _ h => h) rfl hdg kk
theorem gf_X6_22 (C : cb_C p s m args meth c cc nL ret RX6 D T) (hs : cb_H sh A T D σ s.heap H locs) (hk : sh[k]? = some 6) (hdg : decode cc pc = .ok (.getfield 22, 3)) (kk : W p l e R s m args below meth c H locs 0 0 Q (F0 m (pc + 3) ls (.ref (A (k + 3)) :: rest))) : W p l e R s m args below meth c H locs 0 0 Q (F0 m pc ls (.ref (A k) :: rest)) := by
  obtain ⟨hx, hb, hml, hr, hown, hts, hK, hlk, hN⟩ := C
  exact va_get (D := D) (ci := 6) (C := RX6) (T := TX6) (N := 10) hx hb hts fw_X6 hown hK hs.1 k (cb_at hk) rfl 9 (by decide) (hts _ kf_X6_22) (fun _ h => h) rfl hdg kk
theorem gf_X5_12 (C : cb_C p s m args meth c cc nL ret RX5 D T) (hs : cb_H sh A T D σ s.heap H locs) (hk : sh[k]? = some 5) (hdg : decode cc pc = .ok (.getfield 12, 3)) (kk : W p l e R s m args below meth c H locs 0 0 Q (F0 m (pc + 3) ls (.ref (A (k + 1)) :: rest))) : W p l e R s m args below meth c H locs 0 0 Q (F0 m pc ls (.ref (A k) :: rest)) := by
  obtain ⟨hx, hb, hml, hr, hown, hts, hK, hlk, hN⟩ := C
  exact va_get (D := D) (ci := 5) (C := RX5) (T := TX5) (N := 6) hx hb hts fw_X5 hown hK hs.1 k (cb_at hk) rfl 0 (by decide) (hts _ kf_X5_12) (fun _ h => h) rfl hdg kk
theorem gf_X7_81 (C : cb_C p s m args meth c cc nL ret RX7 D T) (hs : cb_H sh A T D σ s.heap H locs) (hk : sh[k]? = some 5) (hdg : decode cc pc = .ok (.getfield 81, 3)) (kk : W p l e R s m args below meth c H locs 0 0 Q (F0 m (pc + 3) ls (.ref (A (k + 1)) :: rest))) : W p l e R s m args below meth c H locs 0 0 Q (F0 m pc ls (.ref (A k) :: rest)) := by
  obtain ⟨hx, hb, hml, hr, hown, hts, hK, hlk, hN⟩ := C
  exact va_get (D := D) (ci := 5) (C := RX5) (T := TX5) (N := 6) hx hb hts fw_X5 hown hK hs.1 k (cb_at hk) rfl 0 (by decide) (hts _ kf_X7_81) (fun _ h => h) rfl hdg kk
theorem gf_X5_32 (C : cb_C p s m args meth c cc nL ret RX5 D T) (hs : cb_H sh A T D σ s.heap H locs) (hk : sh[k]? = some 5) (hdg : decode cc pc = .ok (.getfield 32, 3)) (kk : W p l e R s m args below meth c H locs 0 0 Q (F0 m (pc + 3) ls (.int (σ.1 k 1) :: rest))) : W p l e R s m args below meth c H locs 0 0 Q (F0 m pc ls (.ref (A k) :: rest)) := by
  obtain ⟨hx, hb, hml, hr, hown, hts, hK, hlk, hN⟩ := C
  exact va_get (D := D) (ci := 5) (C := RX5) (T := TX5) (N := 6) hx hb hts fw_X5 hown hK hs.1 k (cb_at hk) rfl 1 (by decide) (hts _ kf_X5_32) (fun _ h => h) rfl hdg kk
theorem pf_X5_32 {v : Int32} (C : cb_C p s m args meth c cc nL ret RX5 D T) (hs : cb_H sh A T D σ s.heap H locs) (hk : sh[k]? = some 5) (hdg : decode cc pc = .ok (.putfield 32, 3)) (kk : ∀ (H1 : Heap) (locs1 : List Loc), cb_H sh A T D (cb_sI σ k 1 v) s.heap H1 locs1 → W p l e R s m args below meth c H1 locs1 0 0 Q (F0 m (pc + 3) ls rest)) : W p l e R s m args below meth c H locs 0 0 Q (F0 m pc ls (.int v :: .ref (A k) :: rest)) := by
  obtain ⟨hx, hb, hml, hr, hown, hts, hK, hlk, hN⟩ := C
  refine va_put (D := D) (ci := 5) (v := .int v) (ty := .int) (C := RX5) (T := TX5) (N := 6) hx hb hts fw_X5 tyX5 tyX5_ok nmX5 hown hK hs.1 hs.2.1 hs.2.2 k (cb_at hk) rfl 1 (by decide) (hts _ kf_X5_32) (fun _ h => h) rfl (by decide +kernel) rfl rfl (Nat.le_of_ble_eq_true rfl) hdg (fun H1 locs1 h1 h2 h3 => kk H1 locs1 ⟨?_, cb_D hs.2.1, h3⟩)
  rw [cb_sI, ← cb_setA hk]
  exact h1
theorem gf_X7_78 (C : cb_C p s m args meth c cc nL ret RX7 D T) (hs : cb_H sh A T D σ s.heap H locs) (hk : sh[k]? = some 5) (hdg : decode cc pc = .ok (.getfield 78, 3)) (kk : W p l e R s m args below meth c H locs 0 0 Q (F0 m (pc + 3) ls (.int (σ.1 k 1) :: rest))) : W p l e R s m args below meth c H locs 0 0 Q (F0 m pc ls (.ref (A k) :: rest)) := by
  obtain ⟨hx, hb, hml, hr, hown, hts, hK, hlk, hN⟩ := C
  exact va_get (D := D) (ci := 5) (C := RX5) (T := TX5) (N := 6) hx hb hts fw_X5 hown hK hs.1 k (cb_at hk) rfl 1 (by decide) (hts _ kf_X7_78) (fun _ h => h) rfl hdg kk
theorem pf_X7_78 {v : Int32} (C : cb_C p s m args meth c cc nL ret RX7 D T) (hs : cb_H sh A T D σ s.heap H locs) (hk : sh[k]? = some 5) (hdg : decode cc pc = .ok (.putfield 78, 3)) (kk : ∀ (H1 : Heap) (locs1 : List Loc), cb_H sh A T D (cb_sI σ k 1 v) s.heap H1 locs1 → W p l e R s m args below meth c H1 locs1 0 0 Q (F0 m (pc + 3) ls rest)) : W p l e R s m args below meth c H locs 0 0 Q (F0 m pc ls (.int v :: .ref (A k) :: rest)) := by
  obtain ⟨hx, hb, hml, hr, hown, hts, hK, hlk, hN⟩ := C
  refine va_put (D := D) (ci := 5) (v := .int v) (ty := .int) (C := RX5) (T := TX5) (N := 6) hx hb hts fw_X5 tyX5 tyX5_ok nmX5 hown hK hs.1 hs.2.1 hs.2.2 k (cb_at hk) rfl 1 (by decide) (hts _ kf_X7_78) (fun _ h => h) rfl (by decide +kernel) rfl rfl (Nat.le_of_ble_eq_true rfl) hdg (fun H1 locs1 h1 h2 h3 => kk H1 locs1 ⟨?_, cb_D hs.2.1, h3⟩)
  rw [cb_sI, ← cb_setA hk]
  exact h1
theorem gf_X5_18 (C : cb_C p s m args meth c cc nL ret RX5 D T) (hs : cb_H sh A T D σ s.heap H locs) (hk : sh[k]? = some 5) (hdg : decode cc pc = .ok (.getfield 18, 3)) (kk : W p l e R s m args below meth c H locs 0 0 Q (F0 m (pc + 3) ls (.int (σ.1 k 2) :: rest))) : W p l e R s m args below meth c H locs 0 0 Q (F0 m pc ls (.ref (A k) :: rest)) := by
  obtain ⟨hx, hb, hml, hr, hown, hts, hK, hlk, hN⟩ := C
  exact va_get (D := D) (ci := 5) (C := RX5) (T := TX5) (N := 6) hx hb hts fw_X5 hown hK hs.1 k (cb_at hk) rfl 2 (by decide) (hts _ kf_X5_18) (fun _ h => h) rfl hdg kk
theorem pf_X5_18 {v : Int32} (C : cb_C p s m args meth c cc nL ret RX5 D T) (hs : cb_H sh A T D σ s.heap H locs) (hk : sh[k]? = some 5) (hdg : decode cc pc = .ok (.putfield 18, 3)) (kk : ∀ (H1 : Heap) (locs1 : List Loc), cb_H sh A T D (cb_sI σ k 2 v) s.heap H1 locs1 → W p l e R s m args below meth c H1 locs1 0 0 Q (F0 m (pc + 3) ls rest)) : W p l e R s m args below meth c H locs 0 0 Q (F0 m pc ls (.int v :: .ref (A k) :: rest)) := by
  obtain ⟨hx, hb, hml, hr, hown, hts, hK, hlk, hN⟩ := C
  refine va_put (D := D) (ci := 5) (v := .int v) (ty := .int) (C := RX5) (T := TX5) (N := 6) hx hb hts fw_X5 tyX5 tyX5_ok nmX5 hown hK hs.1 hs.2.1 hs.2.2 k (cb_at hk) rfl 2 (by decide) (hts _ kf_X5_18) (fun _ h => h) rfl (by decide +kernel) rfl rfl (Nat.le_of_ble_eq_true rfl) hdg (fun H1 locs1 h1 h2 h3 => kk H1 locs1 ⟨?_, cb_D hs.2.1, h3⟩)
  rw [cb_sI, ← cb_setA hk]
  exact h1
theorem gf_X7_108 (C : cb_C p s m args meth c cc nL ret RX7 D T) (hs : cb_H sh A T D σ s.heap H locs) (hk : sh[k]? = some 5) (hdg : decode cc pc = .ok (.getfield 108, 3)) (kk : W p l e R s m args below meth c H locs 0 0 Q (F0 m (pc + 3) ls (.int (σ.1 k 2) :: rest))) : W p l e R s m args below meth c H locs 0 0 Q (F0 m pc ls (.ref (A k) :: rest)) := by
  obtain ⟨hx, hb, hml, hr, hown, hts, hK, hlk, hN⟩ := C
  exact va_get (D := D) (ci := 5) (C := RX5) (T := TX5) (N := 6) hx hb hts fw_X5 hown hK hs.1 k (cb_at hk) rfl 2 (by decide) (hts _ kf_X7_108) (fun _ h => h) rfl hdg kk
theorem pf_X7_108 {v : Int32} (C : cb_C p s m args meth c cc nL ret RX7 D T) (hs : cb_H sh A T D σ s.heap H locs) (hk : sh[k]? = some 5) (hdg : decode cc pc = .ok (.putfield 108, 3)) (kk : ∀ (H1 : Heap) (locs1 : List Loc), cb_H sh A T D (cb_sI σ k 2 v) s.heap H1 locs1 → W p l e R s m args below meth c H1 locs1 0 0 Q (F0 m (pc + 3) ls rest)) : W p l e R s m args below meth c H locs 0 0 Q (F0 m pc ls (.int v :: .ref (A k) :: rest)) := by
  obtain ⟨hx, hb, hml, hr, hown, hts, hK, hlk, hN⟩ := C
  refine va_put (D := D) (ci := 5) (v := .int v) (ty := .int) (C := RX5) (T := TX5) (N := 6) hx hb hts fw_X5 tyX5 tyX5_ok nmX5 hown hK hs.1 hs.2.1 hs.2.2 k (cb_at hk) rfl 2 (by decide) (hts _ kf_X7_108) (fun _ h => h) rfl (by decide +kernel) rfl rfl (Nat.le_of_ble_eq_true rfl) hdg (fun H1 locs1 h1 h2 h3 => kk H1 locs1 ⟨?_, cb_D hs.2.1, h3⟩)
  rw [cb_sI, ← cb_setA hk]
  exact h1
theorem gf_X5_26 (C : cb_C p s m args meth c cc nL ret RX5 D T) (hs : cb_H sh A T D σ s.heap H locs) (hk : sh[k]? = some 5) (hdg : decode cc pc = .ok (.getfield 26, 3)) (kk : W p l e R s m args below meth c H locs 0 0 Q (F0 m (pc + 3) ls (.int (σ.1 k 3) :: rest))) : W p l e R s m args below meth c H locs 0 0 Q (F0 m pc ls (.ref (A k) :: rest)) := by
  obtain ⟨hx, hb, hml, hr, hown, hts, hK, hlk, hN⟩ := C
  exact va_get (D := D) (ci := 5) (C := RX5) (T := TX5) (N := 6) hx hb hts fw_X5 hown hK hs.1 k (cb_at hk) rfl 3 (by decide) (hts _ kf_X5_26) (fun _ h => h) rfl hdg kk
theorem pf_X5_26 {v : Int32} (C : cb_C p s m args meth c cc nL ret RX5 D T) (hs : cb_H sh A T D σ s.heap H locs) (hk : sh[k]? = some 5) (hdg : decode cc pc = .ok (.putfield 26, 3)) (kk : ∀ (H1 : Heap) (locs1 : List Loc), cb_H sh A T D (cb_sI σ k 3 v) s.heap H1 locs1 → W p l e R s m args below meth c H1 locs1 0 0 Q (F0 m (pc + 3) ls rest)) : W p l e R s m args below meth c H locs 0 0 Q (F0 m pc ls (.int v :: .ref (A k) :: rest)) := by
  obtain ⟨hx, hb, hml, hr, hown, hts, hK, hlk, hN⟩ := C
  refine va_put (D := D) (ci := 5) (v := .int v) (ty := .int) (C := RX5) (T := TX5) (N := 6) hx hb hts fw_X5 tyX5 tyX5_ok nmX5 hown hK hs.1 hs.2.1 hs.2.2 k (cb_at hk) rfl 3 (by decide) (hts _ kf_X5_26) (fun _ h => h) rfl (by decide +kernel) rfl rfl (Nat.le_of_ble_eq_true rfl) hdg (fun H1 locs1 h1 h2 h3 => kk H1 locs1 ⟨?_, cb_D hs.2.1, h3⟩)
  rw [cb_sI, ← cb_setA hk]
  exact h1
theorem gf_X7_70 (C : cb_C p s m args meth c cc nL ret RX7 D T) (hs : cb_H sh A T D σ s.heap H locs) (hk : sh[k]? = some 5) (hdg : decode cc pc = .ok (.getfield 70, 3)) (kk : W p l e R s m args below meth c H locs 0 0 Q (F0 m (pc + 3) ls (.int (σ.1 k 3) :: rest))) : W p l e R s m args below meth c H locs 0 0 Q (F0 m pc ls (.ref (A k) :: rest)) := by
  obtain ⟨hx, hb, hml, hr, hown, hts, hK, hlk, hN⟩ := C
  exact va_get (D := D) (ci := 5) (C := RX5) (T := TX5) (N := 6) hx hb hts fw_X5 hown hK hs.1 k (cb_at hk) rfl 3 (by decide) (hts _ kf_X7_70) (fun _ h => h) rfl hdg kk
theorem pf_X7_70 {v : Int32} (C : cb_C p s m args meth c cc nL ret RX7 D T) (hs : cb_H sh A T D σ s.heap H locs) (hk : sh[k]? = some 5) (hdg : decode cc pc = .ok (.putfield 70, 3)) (kk : ∀ (H1 : Heap) (locs1 : List Loc), cb_H sh A T D (cb_sI σ k 3 v) s.heap H1 locs1 → W p l e R s m args below meth c H1 locs1 0 0 Q (F0 m (pc + 3) ls rest)) : W p l e R s m args below meth c H locs 0 0 Q (F0 m pc ls (.int v :: .ref (A k) :: rest)) := by
  obtain ⟨hx, hb, hml, hr, hown, hts, hK, hlk, hN⟩ := C
  refine va_put (D := D) (ci := 5) (v := .int v) (ty := .int) (C := RX5) (T := TX5) (N := 6) hx hb hts fw_X5 tyX5 tyX5_ok nmX5 hown hK hs.1 hs.2.1 hs.2.2 k (cb_at hk) rfl 3 (by decide) (hts _ kf_X7_70) (fun _ h => h) rfl (by decide +kernel) rfl rfl (Nat.le_of_ble_eq_true rfl) hdg (fun H1 locs1 h1 h2 h3 => kk H1 locs1 ⟨?_, cb_D hs.2.1, h3⟩)
  rw [cb_sI, ← cb_setA hk]
  exact h1
theorem gf_X5_22 (C : cb_C p s m args meth c cc nL ret RX5 D T) (hs : cb_H sh A T D σ s.heap H locs) (hk : sh[k]? = some 5) (hdg : decode cc pc = .ok (.getfield 22, 3)) (kk : W p l e R s m args below meth c H locs 0 0 Q (F0 m (pc + 3) ls (.ref (A (k + 5)) :: rest))) : W p l e R s m args below meth c H locs 0 0 Q (F0 m pc ls (.ref (A k) :: rest)) := by
  obtain ⟨hx, hb, hml, hr, hown, hts, hK, hlk, hN⟩ := C
  exact va_get (D := D) (ci := 5) (C := RX5) (T := TX5) (N := 6) hx hb hts fw_X5 hown hK hs.1 k (cb_at hk) rfl 4 (by decide) (hts _ kf_X5_22) (fun _ h => h) rfl hdg kk
theorem gf_X5_29 (C : cb_C p s m args meth c cc nL ret RX5 D T) (hs : cb_H sh A T D σ s.heap H locs) (hk : sh[k]? = some 5) (hdg : decode cc pc = .ok (.getfield 29, 3)) (kk : W p l e R s m args below meth c H locs 0 0 Q (F0 m (pc + 3) ls (.int (σ.1 k 5) :: rest))) : W p l e R s m args below meth c H locs 0 0 Q (F0 m pc ls (.ref (A k) :: rest)) := by
  obtain ⟨hx, hb, hml, hr, hown, hts, hK, hlk, hN⟩ := C
  exact va_get (D := D) (ci := 5) (C := RX5) (T := TX5) (N := 6) hx hb hts fw_X5 hown hK hs.1 k (cb_at hk) rfl 5 (by decide) (hts _ kf_X5_29) (fun _ h => h) rfl hdg kk
theorem pf_X5_29 {v : Int32} (C : cb_C p s m args meth c cc nL ret RX5 D T) (hs : cb_H sh A T D σ s.heap H locs) (hk : sh[k]? = some 5) (hdg : decode cc pc = .ok (.putfield 29, 3)) (kk : ∀ (H1 : Heap) (locs1 : List Loc), cb_H sh A T D (cb_sI σ k 5 v) s.heap H1 locs1 → W p l e R s m args below meth c H1 locs1 0 0 Q (F0 m (pc + 3) ls rest)) : W p l e R s m args below meth c H locs 0 0 Q (F0 m pc ls (.int v :: .ref (A k) :: rest)) := by
  obtain ⟨hx, hb, hml, hr, hown, hts, hK, hlk, hN⟩ := C
  refine va_put (D := D) (ci := 5) (v := .int v) (ty := .int) (C := RX5) (T := TX5) (N := 6) hx hb hts fw_X5 tyX5 tyX5_ok nmX5 hown hK hs.1 hs.2.1 hs.2.2 k (cb_at hk) rfl 5 (by decide) (hts _ kf_X5_29) (fun _ h => h) rfl (by decide +kernel) rfl rfl (Nat.le_of_ble_eq_true rfl) hdg (fun H1 locs1 h1 h2 h3 => kk H1 locs1 ⟨?_, cb_D hs.2.1, h3⟩)
  rw [cb_sI, ← cb_setA hk]
  exact h1
theorem gf_X0_24 (C : cb_C p s m args meth c cc nL ret RX0 D T) (hs : cb_H sh A T D σ s.heap H locs) (hk : sh[k]? = some 4) (hdg : decode cc pc = .ok (.getfield 24, 3)) (kk : W p l e R s m args below meth c H locs 0 0 Q (F0 m (pc + 3) ls (.int (σ.1 k 0) :: rest))) : W p l e R s m args below meth c H locs 0 0 Q (F0 m pc ls (.ref (A k) :: rest)) := by
  obtain ⟨hx, hb, hml, hr, hown, hts, hK, hlk, hN⟩ := C
  exact va_get (D := D) (ci := 4) (C := RX4) (T := TX4) (N := 7) hx hb hts fw_X4 hown hK hs.1 k (cb_at hk) rfl 0 (by decide) (hts _ kf_X0_24) (fun _ h => h) rfl hdg kk
theorem pf_X0_24 {v : Int32} (C : cb_C p s m args meth c cc nL ret RX0 D T) (hs : cb_H sh A T D σ s.heap H locs) (hk : sh[k]? = some 4) (hdg : decode cc pc = .ok (.putfield 24, 3)) (kk : ∀ (H1 : Heap) (locs1 : List Loc), cb_H sh A T D (cb_sI σ k 0 v) s.heap H1 locs1 → W p l e R s m args below meth c H1 locs1 0 0 Q (F0 m (pc + 3) ls rest)) : W p l e R s m args below meth c H locs 0 0 Q (F0 m pc ls (.int v :: .ref (A k) :: rest)) := by
  obtain ⟨hx, hb, hml, hr, hown, hts, hK, hlk, hN⟩ := C
  refine va_put (D := D) (ci := 4) (v := .int v) (ty := .int) (C := RX4) (T := TX4) (N := 7) hx hb hts fw_X4 tyX4 tyX4_ok nmX4 hown hK hs.1 hs.2.1 hs.2.2 k (cb_at hk) rfl 0 (by decide) (hts _ kf_X0_24) (fun _ h => h) rfl (by decide +kernel) rfl rfl (Nat.le_of_ble_eq_true rfl) hdg (fun H1 locs1 h1 h2 h3 => kk H1 locs1 ⟨?_, cb_D hs.2.1, h3⟩)
  rw [cb_sI, ← cb_setA hk]
  exact h1
theorem gf_X4_36 (C : cb_C p s m args meth c cc nL ret RX4 D T) (hs : cb_H sh A T D σ s.heap H locs) (hk : sh[k]? = some 4) (hdg : decode cc pc = .ok (.getfield 36, 3)) (kk : W p l e R s m args below meth c H locs 0 0 Q (F0 m (pc + 3) ls (.int (σ.1 k 0) :: rest))) : W p l e R s m args below meth c H locs 0 0 Q (F0 m pc ls (.ref (A k) :: rest)) := by
  obtain ⟨hx, hb, hml, hr, hown, hts, hK, hlk, hN⟩ := C
  exact va_get (D := D) (ci := 4) (C := RX4) (T := TX4) (N := 7) hx hb hts fw_X4 hown hK hs.1 k (cb_at hk) rfl 0 (by decide) (hts _ kf_X4_36) (fun _ h => h) rfl hdg kk
theorem pf_X4_36 {v : Int32} (C : cb_C p s m args meth c cc nL ret RX4 D T) (hs : cb_H sh A T D σ s.heap H locs) (hk : sh[k]? = some 4) (hdg : decode cc pc = .ok (.putfield 36, 3)) (kk : ∀ (H1 : Heap) (locs1 : List Loc), cb_H sh A T D (cb_sI σ k 0 v) s.heap H1 locs1 → W p l e R s m args below meth c H1 locs1 0 0 Q (F0 m (pc + 3) ls rest)) : W p l e R s m args below meth c H locs 0 0 Q (F0 m pc ls (.int v :: .ref (A k) :: rest)) := by
  obtain ⟨hx, hb, hml, hr, hown, hts, hK, hlk, hN⟩ := C
  refine va_put (D := D) (ci := 4) (v := .int v) (ty := .int) (C := RX4) (T := TX4) (N := 7) hx hb hts fw_X4 tyX4 tyX4_ok nmX4 hown hK hs.1 hs.2.1 hs.2.2 k (cb_at hk) rfl 0 (by decide) (hts _ kf_X4_36) (fun _ h => h) rfl (by decide +kernel) rfl rfl (Nat.le_of_ble_eq_true rfl) hdg (fun H1 locs1 h1 h2 h3 => kk H1 locs1 ⟨?_, cb_D hs.2.1, h3⟩)
  rw [cb_sI, ← cb_setA hk]
  exact h1
theorem gf_X7_120 (C : cb_C p s m args meth c cc nL ret RX7 D T) (hs : cb_H sh A T D σ s.heap H locs) (hk : sh[k]? = some 4) (hdg : decode cc pc = .ok (.getfield 120, 3)) (kk : W p l e R s m args below meth c H locs 0 0 Q (F0 m (pc + 3) ls (.int (σ.1 k 0) :: rest))) : W p l e R s m args below meth c H locs 0 0 Q (F0 m pc ls (.ref (A k) :: rest)) := by
  obtain ⟨hx, hb, hml, hr, hown, hts, hK, hlk, hN⟩ := C
  exact va_get (D := D) (ci := 4) (C := RX4) (T := TX4) (N := 7) hx hb hts fw_X4 hown hK hs.1 k (cb_at hk) rfl 0 (by decide) (hts _ kf_X7_120) (fun _ h => h) rfl hdg kk
theorem pf_X7_120 {v : Int32} (C : cb_C p s m args meth c cc nL ret RX7 D T) (hs : cb_H sh A T D σ s.heap H locs) (hk : sh[k]? = some 4) (hdg : decode cc pc = .ok (.putfield 120, 3)) (kk : ∀ (H1 : Heap) (locs1 : List Loc), cb_H sh A T D (cb_sI σ k 0 v) s.heap H1 locs1 → W p l e R s m args below meth c H1 locs1 0 0 Q (F0 m (pc + 3) ls rest)) : W p l e R s m args below meth c H locs 0 0 Q (F0 m pc ls (.int v :: .ref (A k) :: rest)) := by
  obtain ⟨hx, hb, hml, hr, hown, hts, hK, hlk, hN⟩ := C
  refine va_put (D := D) (ci := 4) (v := .int v) (ty := .int) (C := RX4) (T := TX4) (N := 7) hx hb hts fw_X4 tyX4 tyX4_ok nmX4 hown hK hs.1 hs.2.1 hs.2.2 k (cb_at hk) rfl 0 (by decide) (hts _ kf_X7_120) (fun _ h => h) rfl (by decide +kernel) rfl rfl (Nat.le_of_ble_eq_true rfl) hdg (fun H1 locs1 h1 h2 h3 => kk H1 locs1 ⟨?_, cb_D hs.2.1, h3⟩)
  rw [cb_sI, ← cb_setA hk]
  exact h1
theorem gf_X4_40 (C : cb_C p s m args meth c cc nL ret RX4 D T) (hs : cb_H sh A T D σ s.heap H locs) (hk : sh[k]? = some 4) (hdg : decode cc pc = .ok (.getfield 40, 3)) (kk : W p l e R s m args below meth c H locs 0 0 Q (F0 m (pc + 3) ls (.int (σ.1 k 1) :: rest))) : W p l e R s m args below meth c H locs 0 0 Q (F0 m pc ls (.ref (A k) :: rest)) := by
  obtain ⟨hx, hb, hml, hr, hown, hts, hK, hlk, hN⟩ := C
  exact va_get (D := D) (ci := 4) (C := RX4) (T := TX4) (N := 7) hx hb hts fw_X4 hown hK hs.1 k (cb_at hk) rfl 1 (by decide) (hts _ kf_X4_40) (fun _ h => h) rfl hdg kk
theorem pf_X4_40 {v : Int32} (C : cb_C p s m args meth c cc nL ret RX4 D T) (hs : cb_H sh A T D σ s.heap H locs) (hk : sh[k]? = some 4) (hdg : decode cc pc = .ok (.putfield 40, 3)) (kk : ∀ (H1 : Heap) (locs1 : List Loc), cb_H sh A T D (cb_sI σ k 1 v) s.heap H1 locs1 → W p l e R s m args below meth c H1 locs1 0 0 Q (F0 m (pc + 3) ls rest)) : W p l e R s m args below meth c H locs 0 0 Q (F0 m pc ls (.int v :: .ref (A k) :: rest)) := by
  obtain ⟨hx, hb, hml, hr, hown, hts, hK, hlk, hN⟩ := C
  refine va_put (D := D) (ci := 4) (v := .int v) (ty := .int) (C := RX4) (T := TX4) (N := 7) hx hb hts fw_X4 tyX4 tyX4_ok nmX4 hown hK hs.1 hs.2.1 hs.2.2 k (cb_at hk) rfl 1 (by decide) (hts _ kf_X4_40) (fun _ h => h) rfl (by decide +kernel) rfl rfl (Nat.le_of_ble_eq_true rfl) hdg (fun H1 locs1 h1 h2 h3 => kk H1 locs1 ⟨?_, cb_D hs.2.1, h3⟩)
  rw [cb_sI, ← cb_setA hk]
  exact h1
theorem gf_X7_123 (C : cb_C p s m args meth c cc nL ret RX7 D T) (hs : cb_H sh A T D σ s.heap H locs) (hk : sh[k]? = some 4) (hdg : decode cc pc = .ok (.getfield 123, 3)) (kk : W p l e R s m args below meth c H locs 0 0 Q (F0 m (pc + 3) ls (.int (σ.1 k 1) :: rest))) : W p l e R s m args below meth c H locs 0 0 Q (F0 m pc ls (.ref (A k) :: rest)) := by
  obtain ⟨hx, hb, hml, hr, hown, hts, hK, hlk, hN⟩ := C
  exact va_get (D := D) (ci := 4) (C := RX4) (T := TX4) (N := 7) hx hb hts fw_X4 hown hK hs.1 k (cb_at hk) rfl 1 (by decide) (hts _ kf_X7_123) (fun _ h => h) rfl hdg kk
theorem pf_X7_123 {v : Int32} (C : cb_C p s m args meth c cc nL ret RX7 D T) (hs : cb_H sh A T D σ s.heap H locs) (hk : sh[k]? = some 4) (hdg : decode cc pc = .ok (.putfield 123, 3)) (kk : ∀ (H1 : Heap) (locs1 : List Loc), cb_H sh A T D (cb_sI σ k 1 v) s.heap H1 locs1 → W p l e R s m args below meth c H1 locs1 0 0 Q (F0 m (pc + 3) ls rest)) : W p l e R s m args below meth c H locs 0 0 Q (F0 m pc ls (.int v :: .ref (A k) :: rest)) := by
  obtain ⟨hx, hb, hml, hr, hown, hts, hK, hlk, hN⟩ := C
  refine va_put (D := D) (ci := 4) (v := .int v) (ty := .int) (C := RX4) (T := TX4) (N := 7) hx hb hts fw_X4 tyX4 tyX4_ok nmX4 hown hK hs.1 hs.2.1 hs.2.2 k (cb_at hk) rfl 1 (by decide) (hts _ kf_X7_123) (fun _ h => h) rfl (by decide +kernel) rfl rfl (Nat.le_of_ble_eq_true rfl) hdg (fun H1 locs1 h1 h2 h3 => kk H1 locs1 ⟨?_, cb_D hs.2.1, h3⟩)
  rw [cb_sI, ← cb_setA hk]
  exact h1
theorem gf_X4_43 (C : cb_C p s m args meth c cc nL ret RX4 D T) (hs : cb_H sh A T D σ s.heap H locs) (hk : sh[k]? = some 4) (hdg : decode cc pc = .ok (.getfield 43, 3)) (kk : W p l e R s m args below meth c H locs 0 0 Q (F0 m (pc + 3) ls (.int (σ.1 k 2) :: rest))) : W p l e R s m args below meth c H locs 0 0 Q (F0 m pc ls (.ref (A k) :: rest)) := by
  obtain ⟨hx, hb, hml, hr, hown, hts, hK, hlk, hN⟩ := C
  exact va_get (D := D) (ci := 4) (C := RX4) (T := TX4) (N := 7) hx hb hts fw_X4 hown hK hs.1 k (cb_at hk) rfl 2 (by decide) (hts _ kf_X4_43) (fun _ h => h) rfl hdg kk
theorem pf_X4_43 {v : Int32} (C : cb_C p s m args meth c cc nL ret RX4 D T) (hs : cb_H sh A T D σ s.heap H locs) (hk : sh[k]? = some 4) (hdg : decode cc pc = .ok (.putfield 43, 3)) (kk : ∀ (H1 : Heap) (locs1 : List Loc), cb_H sh A T D (cb_sI σ k 2 v) s.heap H1 locs1 → W p l e R s m args below meth c H1 locs1 0 0 Q (F0 m (pc + 3) ls rest)) : W p l e R s m args below meth c H locs 0 0 Q (F0 m pc ls (.int v :: .ref (A k) :: rest)) := by
  obtain ⟨hx, hb, hml, hr, hown, hts, hK, hlk, hN⟩ := C
  refine va_put (D := D) (ci := 4) (v := .int v) (ty := .int) (C := RX4) (T := TX4) (N := 7) hx hb hts fw_X4 tyX4 tyX4_ok nmX4 hown hK hs.1 hs.2.1 hs.2.2 k (cb_at hk) rfl 2 (by decide) (hts _ kf_X4_43) (fun _ h => h) rfl (by decide +kernel) rfl rfl (Nat.le_of_ble_eq_true rfl) hdg (fun H1 locs1 h1 h2 h3 => kk H1 locs1 ⟨?_, cb_D hs.2.1, h3⟩)
  rw [cb_sI, ← cb_setA hk]
  exact h1
theorem gf_X7_133 (C : cb_C p s m args meth c cc nL ret RX7 D T) (hs : cb_H sh A T D σ s.heap H locs) (hk : sh[k]? = some 4) (hdg : decode cc pc = .ok (.getfield 133, 3)) (kk : W p l e R s m args below meth c H locs 0 0 Q (F0 m (pc + 3) ls (.int (σ.1 k 2) :: rest))) : W p l e R s m args below meth c H locs 0 0 Q (F0 m pc ls (.ref (A k) :: rest)) := by
  obtain ⟨hx, hb, hml, hr, hown, hts, hK, hlk, hN⟩ := C
  exact va_get (D := D) (ci := 4) (C := RX4) (T := TX4) (N := 7) hx hb hts fw_X4 hown hK hs.1 k (cb_at hk) rfl 2 (by decide) (hts _ kf_X7_133) (fun _ h => h) rfl hdg kk
theorem pf_X7_133 {v : Int32} (C : cb_C p s m args meth c cc nL ret RX7 D T) (hs : cb_H sh A T D σ s.heap H locs) (hk : sh[k]? = some 4) (hdg : decode cc pc = .ok (.putfield 133, 3)) (kk : ∀ (H1 : Heap) (locs1 : List Loc), cb_H sh A T D (cb_sI σ k 2 v) s.heap H1 locs1 → W p l e R s m args below meth c H1 locs1 0 0 Q (F0 m (pc + 3) ls rest)) : W p l e R s m args below meth c H locs 0 0 Q (F0 m pc ls (.int v :: .ref (A k) :: rest)) := by
  obtain ⟨hx, hb, hml, hr, hown, hts, hK, hlk, hN⟩ := C
  refine va_put (D := D) (ci := 4) (v := .int v) (ty := .int) (C := RX4) (T := TX4) (N := 7) hx hb hts fw_X4 tyX4 tyX4_ok nmX4 hown hK hs.1 hs.2.1 hs.2.2 k (cb_at hk) rfl 2 (by decide) (hts _ kf_X7_133) (fun _ h => h) rfl (by decide +kernel) rfl rfl (Nat.le_of_ble_eq_true rfl) hdg (fun H1 locs1 h1 h2 h3 => kk H1 locs1 ⟨?_, cb_D hs.2.1, h3⟩)
  rw [cb_sI, ← cb_setA hk]
  exact h1
theorem gf_X4_9 (C : cb_C p s m args meth c cc nL ret RX4 D T) (hs : cb_H sh A T D σ s.heap H locs) (hk : sh[k]? = some 4) (hdg : decode cc pc = .ok (.getfield 9, 3)) (kk : W p l e R s m args below meth c H locs 0 0 Q (F0 m (pc + 3) ls (.ref (A (k + 1)) :: rest))) : W p l e R s m args below meth c H locs 0 0 Q (F0 m pc ls (.ref (A k) :: rest)) := by
  obtain ⟨hx, hb, hml, hr, hown, hts, hK, hlk, hN⟩ := C
  exact va_get (D := D) (ci := 4) (C := RX4) (T := TX4) (N := 7) hx hb hts fw_X4 hown hK hs.1 k (cb_at hk) rfl 3 (by decide) (hts _ kf_X4_9) (fun _ h => h) rfl hdg kk
theorem gf_X4_15 (C : cb_C p s m args meth c cc nL ret RX4 D T) (hs : cb_H sh A T D σ s.heap H locs) (hk : sh[k]? = some 4) (hdg : decode cc pc = .ok (.getfield 15, 3)) (kk : W p l e R s m args below meth c H locs 0 0 Q (F0 m (pc + 3) ls (.ref (A (k + 2)) :: rest))) : W p l e R s m args below meth c H locs 0 0 Q (F0 m pc ls (.ref (A k) :: rest)) := by
  obtain ⟨hx, hb, hml, hr, hown, hts, hK, hlk, hN⟩ := C
  exact va_get (D := D) (ci := 4) (C := RX4) (T := TX4) (N := 7) hx hb hts fw_X4 hown hK hs.1 k (cb_at hk) rfl 4 (by decide) (hts _ kf_X4_15) (fun _ h => h) rfl hdg kk
theorem gf_X4_18 (C : cb_C p s m args meth c cc nL ret RX4 D T) (hs : cb_H sh A T D σ s.heap H locs) (hk : sh[k]? = some 4) (hdg : decode cc pc = .ok (.getfield 18, 3)) (kk : W p l e R s m args below meth c H locs 0 0 Q (F0 m (pc + 3) ls (.ref (A (k + 3)) :: rest))) : W p l e R s m args below meth c H locs 0 0 Q (F0 m pc ls (.ref (A k) :: rest)) := by
  obtain ⟨hx, hb, hml, hr, hown, hts, hK, hlk, hN⟩ := C
  exact va_get (D := D) (ci := 4) (C := RX4) (T := TX4) (N := 7) hx hb hts fw_X4 hown hK hs.1 k (cb_at hk) rfl 5 (by decide) (hts _ kf_X4_18) (fun _ h => h) rfl hdg kk
theorem gf_X4_21 (C : cb_C p s m args meth c cc nL ret RX4 D T) (hs : cb_H sh A T D σ s.heap H locs) (hk : sh[k]? = some 4) (hdg : decode cc pc = .ok (.getfield 21, 3)) (kk : W p l e R s m args below meth c H locs 0 0 Q (F0 m (pc + 3) ls (.ref (A (k + 4)) :: rest))) : W p l e R s m args below meth c H locs 0 0 Q (F0 m pc ls (.ref (A k) :: rest)) := by
  obtain ⟨hx, hb, hml, hr, hown, hts, hK, hlk, hN⟩ := C
  exact va_get (D := D) (ci := 4) (C := RX4) (T := TX4) (N := 7) hx hb hts fw_X4 hown hK hs.1 k (cb_at hk) rfl 6 (by decide) (hts _ kf_X4_21) (fun _ h => h) rfl hdg kk
theorem gf_X3_18 (C : cb_C p s m args meth c cc nL ret RX3 D T) (hs : cb_H sh A T D σ s.heap H locs) (hk : sh[k]? = some 3) (hdg : decode cc pc = .ok (.getfield 18, 3)) (kk : W p l e R s m args below meth c H locs 0 0 Q (F0 m (pc + 3) ls (.int (σ.1 k 0) :: rest))) : W p l e R s m args below meth c H locs 0 0 Q (F0 m pc ls (.ref (A k) :: rest)) := by
  obtain ⟨hx, hb, hml, hr, hown, hts, hK, hlk, hN⟩ := C
  exact va_get (D := D) (ci := 3) (C := RX3) (T := TX3) (N := 3) hx hb hts fw_X3 hown hK hs.1 k (cb_at hk) rfl 0 (by decide) (hts _ kf_X3_18) (fun _ h => h) rfl hdg kk
theorem pf_X3_18 {v : Int32} (C : cb_C p s m args meth c cc nL ret RX3 D T) (hs : cb_H sh A T D σ s.heap H locs) (hk : sh[k]? = some 3) (hdg : decode cc pc = .ok (.putfield 18, 3)) (kk : ∀ (H1 : Heap) (locs1 : List Loc), cb_H sh A T D (cb_sI σ k 0 v) s.heap H1 locs1 → W p l e R s m args below meth c H1 locs1 0 0 Q (F0 m (pc + 3) ls rest)) : W p l e R s m args below meth c H locs 0 0 Q (F0 m pc ls (.int v :: .ref (A k) :: rest)) := by
  obtain ⟨hx, hb, hml, hr, hown, hts, hK, hlk, hN⟩ := C
  refine va_put (D := D) (ci := 3) (v := .int v) (ty := .int) (C := RX3) (T := TX3) (N := 3) hx hb hts fw_X3 tyX3 tyX3_ok nmX3 hown hK hs.1 hs.2.1 hs.2.2 k (cb_at hk) rfl 0 (by decide) (hts _ kf_X3_18) (fun _ h => h) rfl (by decide +kernel) rfl rfl (Nat.le_of_ble_eq_true rfl) hdg (fun H1 locs1 h1 h2 h3 => kk H1 locs1 ⟨?_, cb_D hs.2.1, h3⟩)
  rw [cb_sI, ← cb_setA hk]
  exact h1
theorem gf_X7_145 (C : cb_C p s m args meth c cc nL ret RX7 D T) (hs : cb_H sh A T D σ s.heap H locs) (hk : sh[k]? = some 3) (hdg : decode cc pc = .ok (.getfield 145, 3)) (kk : W p l e R s m args below meth c H locs 0 0 Q (F0 m (pc + 3) ls (.int (σ.1 k 0) :: rest))) : W p l e R s m args below meth c H locs 0 0 Q (F0 m pc ls (.ref (A k) :: rest)) := by
  obtain ⟨hx, hb, hml, hr, hown, hts, hK, hlk, hN⟩ := C
  exact va_get (D := D) (ci := 3) (C := RX3) (T := TX3) (N := 3) hx hb hts fw_X3 hown hK hs.1 k (cb_at hk) rfl 0 (by decide) (hts _ kf_X7_145) (fun _ h => h) rfl hdg kk
theorem pf_X7_145 {v : Int32} (C : cb_C p s m args meth c cc nL ret RX7 D T) (hs : cb_H sh A T D σ s.heap H locs) (hk : sh[k]? = some 3) (hdg : decode cc pc = .ok (.putfield 145, 3)) (kk : ∀ (H1 : Heap) (locs1 : List Loc), cb_H sh A T D (cb_sI σ k 0 v) s.heap H1 locs1 → W p l e R s m args below meth c H1 locs1 0 0 Q (F0 m (pc + 3) ls rest)) : W p l e R s m args below meth c H locs 0 0 Q (F0 m pc ls (.int v :: .ref (A k) :: rest)) := by
  obtain ⟨hx, hb, hml, hr, hown, hts, hK, hlk, hN⟩ := C
  refine va_put (D := D) (ci := 3) (v := .int v) (ty := .int) (C := RX3) (T := TX3) (N := 3) hx hb hts fw_X3 tyX3 tyX3_ok nmX3 hown hK hs.1 hs.2.1 hs.2.2 k (cb_at hk) rfl 0 (by decide) (hts _ kf_X7_145) (fun _ h => h) rfl (by decide +kernel) rfl rfl (Nat.le_of_ble_eq_true rfl) hdg (fun H1 locs1 h1 h2 h3 => kk H1 locs1 ⟨?_, cb_D hs.2.1, h3⟩)
  rw [cb_sI, ← cb_setA hk]
  exact h1
theorem gf_X3_22 (C : cb_C p s m args meth c cc nL ret RX3 D T) (hs : cb_H sh A T D σ s.heap H locs) (hk : sh[k]? = some 3) (hdg : decode cc pc = .ok (.getfield 22, 3)) (kk : W p l e R s m args below meth c H locs 0 0 Q (F0 m (pc + 3) ls (.int (σ.1 k 1) :: rest))) : W p l e R s m args below meth c H locs 0 0 Q (F0 m pc ls (.ref (A k) :: rest)) := by
  obtain ⟨hx, hb, hml, hr, hown, hts, hK, hlk, hN⟩ := C
  exact va_get (D := D) (ci := 3) (C := RX3) (T := TX3) (N := 3) hx hb hts fw_X3 hown hK hs.1 k (cb_at hk) rfl 1 (by decide) (hts _ kf_X3_22) (fun _ h => h) rfl hdg kk
theorem pf_X3_22 {v : Int32} (C : cb_C p s m args meth c cc nL ret RX3 D T) (hs : cb_H sh A T D σ s.heap H locs) (hk : sh[k]? = some 3) (hdg : decode cc pc = .ok (.putfield 22, 3)) (kk : ∀ (H1 : Heap) (locs1 : List Loc), cb_H sh A T D (cb_sI σ k 1 v) s.heap H1 locs1 → W p l e R s m args below meth c H1 locs1 0 0 Q (F0 m (pc + 3) ls rest)) : W p l e R s m args below meth c H locs 0 0 Q (F0 m pc ls (.int v :: .ref (A k) :: rest)) := by
  obtain ⟨hx, hb, hml, hr, hown, hts, hK, hlk, hN⟩ := C
  refine va_put (D := D) (ci := 3) (v := .int v) (ty := .int) (C := RX3) (T := TX3) (N := 3) hx hb hts fw_X3 tyX3 tyX3_ok nmX3 hown hK hs.1 hs.2.1 hs.2.2 k (cb_at hk) rfl 1 (by decide) (hts _ kf_X3_22) (fun _ h => h) rfl (by decide +kernel) rfl rfl (Nat.le_of_ble_eq_true rfl) hdg (fun H1 locs1 h1 h2 h3 => kk H1 locs1 ⟨?_, cb_D hs.2.1, h3⟩)
  rw [cb_sI, ← cb_setA hk]
  exact h1
theorem gf_X3_11 (C : cb_C p s m args meth c cc nL ret RX3 D T) (hs : cb_H sh A T D σ s.heap H locs) (hk : sh[k]? = some 3) (hdg : decode cc pc = .ok (.getfield 11, 3)) (kk : W p l e R s m args below meth c H locs 0 0 Q (F0 m (pc + 3) ls (.ref (A (k + 1)) :: rest))) : W p l e R s m args below meth c H locs 0 0 Q (F0 m pc ls (.ref (A k) :: rest)) := by
  obtain ⟨hx, hb, hml, hr, hown, hts, hK, hlk, hN⟩ := C
  exact va_get (D := D) (ci := 3) (C := RX3) (T := TX3) (N := 3) hx hb hts fw_X3 hown hK hs.1 k (cb_at hk) rfl 2 (by decide) (hts _ kf_X3_11) (fun _ h => h) rfl hdg kk
theorem gf_X2_27 (C : cb_C p s m args meth c cc nL ret RX2 D T) (hs : cb_H sh A T D σ s.heap H locs) (hk : sh[k]? = some 2) (hdg : decode cc pc = .ok (.getfield 27, 3)) (kk : W p l e R s m args below meth c H locs 0 0 Q (F0 m (pc + 3) ls (.int (σ.1 k 0) :: rest))) : W p l e R s m args below meth c H locs 0 0 Q (F0 m pc ls (.ref (A k) :: rest)) := by
  obtain ⟨hx, hb, hml, hr, hown, hts, hK, hlk, hN⟩ := C
  exact va_get (D := D) (ci := 2) (C := RX2) (T := TX2) (N := 7) hx hb hts fw_X2 hown hK hs.1 k (cb_at hk) rfl 0 (by decide) (hts _ kf_X2_27) (fun _ h => h) rfl hdg kk
theorem pf_X2_27 {v : Int32} (C : cb_C p s m args meth c cc nL ret RX2 D T) (hs : cb_H sh A T D σ s.heap H locs) (hk : sh[k]? = some 2) (hdg : decode cc pc = .ok (.putfield 27, 3)) (kk : ∀ (H1 : Heap) (locs1 : List Loc), cb_H sh A T D (cb_sI σ k 0 v) s.heap H1 locs1 → W p l e R s m args below meth c H1 locs1 0 0 Q (F0 m (pc + 3) ls rest)) : W p l e R s m args below meth c H locs 0 0 Q (F0 m pc ls (.int v :: .ref (A k) :: rest)) := by
  obtain ⟨hx, hb, hml, hr, hown, hts, hK, hlk, hN⟩ := C
  refine va_put (D := D) (ci := 2) (v := .int v) (ty := .int) (C := RX2) (T := TX2) (N := 7) hx hb hts fw_X2 tyX2 tyX2_ok nmX2 hown hK hs.1 hs.2.1 hs.2.2 k (cb_at hk) rfl 0 (by decide) (hts _ kf_X2_27) (fun _ h => h) rfl (by decide +kernel) rfl rfl (Nat.le_of_ble_eq_true rfl) hdg (fun H1 locs1 h1 h2 h3 => kk H1 locs1 ⟨?_, cb_D hs.2.1, h3⟩)
  rw [cb_sI, ← cb_setA hk]
  exact h1
theorem gf_X7_139 (C : cb_C p s m args meth c cc nL ret RX7 D T) (hs : cb_H sh A T D σ s.heap H locs) (hk : sh[k]? = some 2) (hdg : decode cc pc = .ok (.getfield 139, 3)) (kk : W p l e R s m args below meth c H locs 0 0 Q (F0 m (pc + 3) ls (.int (σ.1 k 0) :: rest))) : W p l e R s m args below meth c H locs 0 0 Q (F0 m pc ls (.ref (A k) :: rest)) := by
  obtain ⟨hx, hb, hml, hr, hown, hts, hK, hlk, hN⟩ := C
  exact va_get (D := D) (ci := 2) (C := RX2) (T := TX2) (N := 7) hx hb hts fw_X2 hown hK hs.1 k (cb_at hk) rfl 0 (by decide) (hts _ kf_X7_139) (fun _ h => h) rfl hdg kk
theorem pf_X7_139 {v : Int32} (C : cb_C p s m args meth c cc nL ret RX7 D T) (hs : cb_H sh A T D σ s.heap H locs) (hk : sh[k]? = some 2) (hdg : decode cc pc = .ok (.putfield 139, 3)) (kk : ∀ (H1 : Heap) (locs1 : List Loc), cb_H sh A T D (cb_sI σ k 0 v) s.heap H1 locs1 → W p l e R s m args below meth c H1 locs1 0 0 Q (F0 m (pc + 3) ls rest)) : W p l e R s m args below meth c H locs 0 0 Q (F0 m pc ls (.int v :: .ref (A k) :: rest)) := by
  obtain ⟨hx, hb, hml, hr, hown, hts, hK, hlk, hN⟩ := C
  refine va_put (D := D) (ci := 2) (v := .int v) (ty := .int) (C := RX2) (T := TX2) (N := 7) hx hb hts fw_X2 tyX2 tyX2_ok nmX2 hown hK hs.1 hs.2.1 hs.2.2 k (cb_at hk) rfl 0 (by decide) (hts _ kf_X7_139) (fun _ h => h) rfl (by decide +kernel) rfl rfl (Nat.le_of_ble_eq_true rfl) hdg (fun H1 locs1 h1 h2 h3 => kk H1 locs1 ⟨?_, cb_D hs.2.1, h3⟩)
  rw [cb_sI, ← cb_setA hk]
  exact h1
theorem gf_X0_75 (C : cb_C p s m args meth c cc nL ret RX0 D T) (hs : cb_H sh A T D σ s.heap H locs) (hk : sh[k]? = some 2) (hdg : decode cc pc = .ok (.getfield 75, 3)) (kk : W p l e R s m args below meth c H locs 0 0 Q (F0 m (pc + 3) ls (.int (σ.1 k 0) :: rest))) : W p l e R s m args below meth c H locs 0 0 Q (F0 m pc ls (.ref (A k) :: rest)) := by
  obtain ⟨hx, hb, hml, hr, hown, hts, hK, hlk, hN⟩ := C
  exact va_get (D := D) (ci := 2) (C := RX2) (T := TX2) (N := 7) hx hb hts fw_X2 hown hK hs.1 k (cb_at hk) rfl 0 (by decide) (hts _ kf_X0_75) (fun _ h => h) rfl hdg kk
theorem pf_X0_75 {v : Int32} (C : cb_C p s m args meth c cc nL ret RX0 D T) (hs : cb_H sh A T D σ s.heap H locs) (hk : sh[k]? = some 2) (hdg : decode cc pc = .ok (.putfield 75, 3)) (kk : ∀ (H1 : Heap) (locs1 : List Loc), cb_H sh A T D (cb_sI σ k 0 v) s.heap H1 locs1 → W p l e R s m args below meth c H1 locs1 0 0 Q (F0 m (pc + 3) ls rest)) : W p l e R s m args below meth c H locs 0 0 Q (F0 m pc ls (.int v :: .ref (A k) :: rest)) := by
  obtain ⟨hx, hb, hml, hr, hown, hts, hK, hlk, hN⟩ := C
  refine va_put (D := D) (ci := 2) (v := .int v) (ty := .int) (C := RX2) (T := TX2) (N := 7) hx hb hts fw_X2 tyX2 tyX2_ok nmX2 hown hK hs.1 hs.2.1 hs.2.2 k (cb_at hk) rfl 0 (by decide) (hts _ kf_X0_75) (fun _ h => h) rfl (by decide +kernel) rfl rfl (Nat.le_of_ble_eq_true rfl) hdg (fun H1 locs1 h1 h2 h3 => kk H1 locs1 ⟨?_, cb_D hs.2.1, h3⟩)
  rw [cb_sI, ← cb_setA hk]
  exact h1
theorem gf_X2_31 (C : cb_C p s m args meth c cc nL ret RX2 D T) (hs : cb_H sh A T D σ s.heap H locs) (hk : sh[k]? = some 2) (hdg : decode cc pc = .ok (.getfield 31, 3)) (kk : W p l e R s m args below meth c H locs 0 0 Q (F0 m (pc + 3) ls (.int (σ.1 k 1) :: rest))) : W p l e R s m args below meth c H locs 0 0 Q (F0 m pc ls (.ref (A k) :: rest)) := by
  obtain ⟨hx, hb, hml, hr, hown, hts, hK, hlk, hN⟩ := C
  exact va_get (D := D) (ci := 2) (C := RX2) (T := TX2) (N := 7) hx hb hts fw_X2 hown hK hs.1 k (cb_at hk) rfl 1 (by decide) (hts _ kf_X2_31) (fun _ h => h) rfl hdg kk
theorem pf_X2_31 {v : Int32} (C : cb_C p s m args meth c cc nL ret RX2 D T) (hs : cb_H sh A T D σ s.heap H locs) (hk : sh[k]? = some 2) (hdg : decode cc pc = .ok (.putfield 31, 3)) (kk : ∀ (H1 : Heap) (locs1 : List Loc), cb_H sh A T D (cb_sI σ k 1 v) s.heap H1 locs1 → W p l e R s m args below meth c H1 locs1 0 0 Q (F0 m (pc + 3) ls rest)) : W p l e R s m args below meth c H locs 0 0 Q (F0 m pc ls (.int v :: .ref (A k) :: rest)) := by
  obtain ⟨hx, hb, hml, hr, hown, hts, hK, hlk, hN⟩ := C
  refine va_put (D := D) (ci := 2) (v := .int v) (ty := .int) (C := RX2) (T := TX2) (N := 7) hx hb hts fw_X2 tyX2 tyX2_ok nmX2 hown hK hs.1 hs.2.1 hs.2.2 k (cb_at hk) rfl 1 (by decide) (hts _ kf_X2_31) (fun _ h => h) rfl (by decide +kernel) rfl rfl (Nat.le_of_ble_eq_true rfl) hdg (fun H1 locs1 h1 h2 h3 => kk H1 locs1 ⟨?_, cb_D hs.2.1, h3⟩)
  rw [cb_sI, ← cb_setA hk]
  exact h1
theorem gf_X7_142 (C : cb_C p s m args meth c cc nL ret RX7 D T) (hs : cb_H sh A T D σ s.heap H locs) (hk : sh[k]? = some 2) (hdg : decode cc pc = .ok (.getfield 142, 3)) (kk : W p l e R s m args below meth c H locs 0 0 Q (F0 m (pc + 3) ls (.int (σ.1 k 1) :: rest))) : W p l e R s m args below meth c H locs 0 0 Q (F0 m pc ls (.ref (A k) :: rest)) := by
  obtain ⟨hx, hb, hml, hr, hown, hts, hK, hlk, hN⟩ := C
  exact va_get (D := D) (ci := 2) (C := RX2) (T := TX2) (N := 7) hx hb hts fw_X2 hown hK hs.1 k (cb_at hk) rfl 1 (by decide) (hts _ kf_X7_142) (fun _ h => h) rfl hdg kk
theorem pf_X7_142 {v : Int32} (C : cb_C p s m args meth c cc nL ret RX7 D T) (hs : cb_H sh A T D σ s.heap H locs) (hk : sh[k]? = some 2) (hdg : decode cc pc = .ok (.putfield 142, 3)) (kk : ∀ (H1 : Heap) (locs1 : List Loc), cb_H sh A T D (cb_sI σ k 1 v) s.heap H1 locs1 → W p l e R s m args below meth c H1 locs1 0 0 Q (F0 m (pc + 3) ls rest)) : W p l e R s m args below meth c H locs 0 0 Q (F0 m pc ls (.int v :: .ref (A k) :: rest)) := by
  obtain ⟨hx, hb, hml, hr, hown, hts, hK, hlk, hN⟩ := C
  refine va_put (D := D) (ci := 2) (v := .int v) (ty := .int) (C := RX2) (T := TX2) (N := 7) hx hb hts fw_X2 tyX2 tyX2_ok nmX2 hown hK hs.1 hs.2.1 hs.2.2 k (cb_at hk) rfl 1 (by decide) (hts _ kf_X7_142) (fun _ h => h) rfl (by decide +kernel) rfl rfl (Nat.le_of_ble_eq_true rfl) hdg (fun H1 locs1 h1 h2 h3 => kk H1 locs1 ⟨?_, cb_D hs.2.1, h3⟩)
  rw [cb_sI, ← cb_setA hk]
  exact h1
theorem gf_X2_9 (C : cb_C p s m args meth c cc nL ret RX2 D T) (hs : cb_H sh A T D σ s.heap H locs) (hk : sh[k]? = some 2) (hdg : decode cc pc = .ok (.getfield 9, 3)) (kk : W p l e R s m args below meth c H locs 0 0 Q (F0 m (pc + 3) ls (.ref (A (k + 1)) :: rest))) : W p l e R s m args below meth c H locs 0 0 Q (F0 m pc ls (.ref (A k) :: rest)) := by
  obtain ⟨hx, hb, hml, hr, hown, hts, hK, hlk, hN⟩ := C
  exact va_get (D := D) (ci := 2) (C := RX2) (T := TX2) (N := 7) hx hb hts fw_X2 hown hK hs.1 k (cb_at hk) rfl 2 (by decide) (hts _ kf_X2_9) (fun _ h => h) rfl hdg kk
theorem gf_X2_15 (C : cb_C p s m args meth c cc nL ret RX2 D T) (hs : cb_H sh A T D σ s.heap H locs) (hk : sh[k]? = some 2) (hdg : decode cc pc = .ok (.getfield 15, 3)) (kk : W p l e R s m args below meth c H locs 0 0 Q (F0 m (pc + 3) ls (.ref (A (k + 2)) :: rest))) : W p l e R s m args below meth c H locs 0 0 Q (F0 m pc ls (.ref (A k) :: rest)) := by
  obtain ⟨hx, hb, hml, hr, hown, hts, hK, hlk, hN⟩ := C
  exact va_get (D := D) (ci := 2) (C := RX2) (T := TX2) (N := 7) hx hb hts fw_X2 hown hK hs.1 k (cb_at hk) rfl 3 (by decide) (hts _ kf_X2_15) (fun _ h => h) rfl hdg kk
theorem gf_X2_18 (C : cb_C p s m args meth c cc nL ret RX2 D T) (hs : cb_H sh A T D σ s.heap H locs) (hk : sh[k]? = some 2) (hdg : decode cc pc = .ok (.getfield 18, 3)) (kk : W p l e R s m args below meth c H locs 0 0 Q (F0 m (pc + 3) ls (.ref (A (k + 3)) :: rest))) : W p l e R s m args below meth c H locs 0 0 Q (F0 m pc ls (.ref (A k) :: rest)) := by
  obtain ⟨hx, hb, hml, hr, hown, hts, hK, hlk, hN⟩ := C
  exact va_get (D := D) (ci := 2) (C := RX2) (T := TX2) (N := 7) hx hb hts fw_X2 hown hK hs.1 k (cb_at hk) rfl 4 (by decide) (hts _ kf_X2_18) (fun _ h => h) rfl hdg kk
theorem gf_X2_21 (C : cb_C p s m args meth c cc nL ret RX2 D T) (hs : cb_H sh A T D σ s.heap H locs) (hk : sh[k]? = some 2) (hdg : decode cc pc = .ok (.getfield 21, 3)) (kk : W p l e R s m args below meth c H locs 0 0 Q (F0 m (pc + 3) ls (.ref (A (k + 4)) :: rest))) : W p l e R s m args below meth c H locs 0 0 Q (F0 m pc ls (.ref (A k) :: rest)) := by
  obtain ⟨hx, hb, hml, hr, hown, hts, hK, hlk, hN⟩ := C
  exact va_get (D := D) (ci := 2) (C := RX2) (T := TX2) (N := 7) hx hb hts fw_X2 hown hK hs.1 k (cb_at hk) rfl 5 (by decide) (hts _ kf_X2_21) (fun _ h => h) rfl hdg kk
theorem gf_X2_24 (C : cb_C p s m args meth c cc nL ret RX2 D T) (hs : cb_H sh A T D σ s.heap H locs) (hk : sh[k]? = some 2) (hdg : decode cc pc = .ok (.getfield 24, 3)) (kk : W p l e R s m args below meth c H locs 0 0 Q (F0 m (pc + 3) ls (.ref (A (k + 5)) :: rest))) : W p l e R s m args below meth c H locs 0 0 Q (F0 m pc ls (.ref (A k) :: rest)) := by
  obtain ⟨hx, hb, hml, hr, hown, hts, hK, hlk, hN⟩ := C
  exact va_get (D := D) (ci := 2) (C := RX2) (T := TX2) (N := 7) hx hb hts fw_X2 hown hK hs.1 k (cb_at hk) rfl 6 (by decide) (hts _ kf_X2_24) (fun _ h => h) rfl hdg kk
theorem gf_X0_51 (C : cb_C p s m args meth c cc nL ret RX0 D T) (hs : cb_H sh A T D σ s.heap H locs) (hk : sh[k]? = some 0) (hdg : decode cc pc = .ok (.getfield 51, 3)) (kk : W p l e R s m args below meth c H locs 0 0 Q (F0 m (pc + 3) ls (.int (σ.1 k 0) :: rest))) : W p l e R s m args below meth c H locs 0 0 Q (F0 m pc ls (.ref (A k) :: rest)) := by
  obtain ⟨hx, hb, hml, hr, hown, hts, hK, hlk, hN⟩ := C
  exact va_get (D := D) (ci := 0) (C := RX0) (T := TX0) (N := 7) hx hb hts fw_X0 hown hK hs.1 k (cb_at hk) rfl 0 (by decide) (hts _ kf_X0_51) (fun _ h => h) rfl hdg kk
theorem pf_X0_51 {v : Int32} (C : cb_C p s m args meth c cc nL ret RX0 D T) (hs : cb_H sh A T D σ s.heap H locs) (hk : sh[k]? = some 0) (hdg : decode cc pc = .ok (.putfield 51, 3)) (kk : ∀ (H1 : Heap) (locs1 : List Loc), cb_H sh A T D (cb_sI σ k 0 v) s.heap H1 locs1 → W p l e R s m args below meth c H1 locs1 0 0 Q (F0 m (pc + 3) ls rest)) : W p l e R s m args below meth c H locs 0 0 Q (F0 m pc ls (.int v :: .ref (A k) :: rest)) := by
  obtain ⟨hx, hb, hml, hr, hown, hts, hK, hlk, hN⟩ := C
  refine va_put (D := D) (ci := 0) (v := .int v) (ty := .int) (C := RX0) (T := TX0) (N := 7) hx hb hts fw_X0 tyX0 tyX0_ok nmX0 hown hK hs.1 hs.2.1 hs.2.2 k (cb_at hk) rfl 0 (by decide) (hts _ kf_X0_51) (fun _ h => h) rfl (by decide +kernel) rfl rfl (Nat.le_of_ble_eq_true rfl) hdg (fun H1 locs1 h1 h2 h3 => kk H1 locs1 ⟨?_, cb_D hs.2.1, h3⟩)
  rw [cb_sI, ← cb_setA hk]
  exact h1
theorem gf_X7_286 (C : cb_C p s m args meth c cc nL ret RX7 D T) (hs : cb_H sh A T D σ s.heap H locs) (hk : sh[k]? = some 0) (hdg : decode cc pc = .ok (.getfield 286, 3)) (kk : W p l e R s m args below meth c H locs 0 0 Q (F0 m (pc + 3) ls (.int (σ.1 k 0) :: rest))) : W p l e R s m args below meth c H locs 0 0 Q (F0 m pc ls (.ref (A k) :: rest)) := by
  obtain ⟨hx, hb, hml, hr, hown, hts, hK, hlk, hN⟩ := C
  exact va_get (D := D) (ci := 0) (C := RX0) (T := TX0) (N := 7) hx hb hts fw_X0 hown hK hs.1 k (cb_at hk) rfl 0 (by decide) (hts _ kf_X7_286) (fun _ h => h) rfl hdg kk
theorem pf_X7_286 {v : Int32} (C : cb_C p s m args meth c cc nL ret RX7 D T) (hs : cb_H sh A T D σ s.heap H locs) (hk : sh[k]? = some 0) (hdg : decode cc pc = .ok (.putfield 286, 3)) (kk : ∀ (H1 : Heap) (locs1 : List Loc), cb_H sh A T D (cb_sI σ k 0 v) s.heap H1 locs1 → W p l e R s m args below meth c H1 locs1 0 0 Q (F0 m (pc + 3) ls rest)) : W p l e R s m args below meth c H locs 0 0 Q (F0 m pc ls (.int v :: .ref (A k) :: rest)) := by
  obtain ⟨hx, hb, hml, hr, hown, hts, hK, hlk, hN⟩ := C
  refine va_put (D := D) (ci := 0) (v := .int v) (ty := .int) (C := RX0) (T := TX0) (N := 7) hx hb hts fw_X0 tyX0 tyX0_ok nmX0 hown hK hs.1 hs.2.1 hs.2.2 k (cb_at hk) rfl 0 (by decide) (hts _ kf_X7_286) (fun _ h => h) rfl (by decide +kernel) rfl rfl (Nat.le_of_ble_eq_true rfl) hdg (fun H1 locs1 h1 h2 h3 => kk H1 locs1 ⟨?_, cb_D hs.2.1, h3⟩)
  rw [cb_sI, ← cb_setA hk]
  exact h1
theorem gf_X0_36 (C : cb_C p s m args meth c cc nL ret RX0 D T) (hs : cb_H sh A T D σ s.heap H locs) (hk : sh[k]? = some 0) (hdg : decode cc pc = .ok (.getfield 36, 3)) (kk : W p l e R s m args below meth c H locs 0 0 Q (F0 m (pc + 3) ls (.int (σ.1 k 1) :: rest))) : W p l e R s m args below meth c H locs 0 0 Q (F0 m pc ls (.ref (A k) :: rest)) := by
  obtain ⟨hx, hb, hml, hr, hown, hts, hK, hlk, hN⟩ := C
  exact va_get (D := D) (ci := 0) (C := RX0) (T := TX0) (N := 7) hx hb hts fw_X0 hown hK hs.1 k (cb_at hk) rfl 1 (by decide) (hts _ kf_X0_36) (fun _ h => h) rfl hdg kk
theorem pf_X0_36 {v : Int32} (C : cb_C p s m args meth c cc nL ret RX0 D T) (hs : cb_H sh A T D σ s.heap H locs) (hk : sh[k]? = some 0) (hdg : decode cc pc = .ok (.putfield 36, 3)) (kk : ∀ (H1 : Heap) (locs1 : List Loc), cb_H sh A T D (cb_sI σ k 1 v) s.heap H1 locs1 → W p l e R s m args below meth c H1 locs1 0 0 Q (F0 m (pc + 3) ls rest)) : W p l e R s m args below meth c H locs 0 0 Q (F0 m pc ls (.int v :: .ref (A k) :: rest)) := by
  obtain ⟨hx, hb, hml, hr, hown, hts, hK, hlk, hN⟩ := C
  refine va_put (D := D) (ci := 0) (v := .int v) (ty := .int) (C := RX0) (T := TX0) (N := 7) hx hb hts fw_X0 tyX0 tyX0_ok nmX0 hown hK hs.1 hs.2.1 hs.2.2 k (cb_at hk) rfl 1 (by decide) (hts _ kf_X0_36) (fun _ h => h) rfl (by decide +kernel) rfl rfl (Nat.le_of_ble_eq_true rfl) hdg (fun H1 locs1 h1 h2 h3 => kk H1 locs1 ⟨?_, cb_D hs.2.1, h3⟩)
  rw [cb_sI, ← cb_setA hk]
  exact h1
theorem gf_X0_44 (C : cb_C p s m args meth c cc nL ret RX0 D T) (hs : cb_H sh A T D σ s.heap H locs) (hk : sh[k]? = some 0) (hdg : decode cc pc = .ok (.getfield 44, 3)) (kk : W p l e R s m args below meth c H locs 0 0 Q (F0 m (pc + 3) ls (.int (σ.1 k 2) :: rest))) : W p l e R s m args below meth c H locs 0 0 Q (F0 m pc ls (.ref (A k) :: rest)) := by
  obtain ⟨hx, hb, hml, hr, hown, hts, hK, hlk, hN⟩ := C
  exact va_get (D := D) (ci := 0) (C := RX0) (T := TX0) (N := 7) hx hb hts fw_X0 hown hK hs.1 k (cb_at hk) rfl 2 (by decide) (hts _ kf_X0_44) (fun _ h => h) rfl hdg kk
theorem pf_X0_44 {v : Int32} (C : cb_C p s m args meth c cc nL ret RX0 D T) (hs : cb_H sh A T D σ s.heap H locs) (hk : sh[k]? = some 0) (hdg : decode cc pc = .ok (.putfield 44, 3)) (kk : ∀ (H1 : Heap) (locs1 : List Loc), cb_H sh A T D (cb_sI σ k 2 v) s.heap H1 locs1 → W p l e R s m args below meth c H1 locs1 0 0 Q (F0 m (pc + 3) ls rest)) : W p l e R s m args below meth c H locs 0 0 Q (F0 m pc ls (.int v :: .ref (A k) :: rest)) := by
  obtain ⟨hx, hb, hml, hr, hown, hts, hK, hlk, hN⟩ := C
  refine va_put (D := D) (ci := 0) (v := .int v) (ty := .int) (C := RX0) (T := TX0) (N := 7) hx hb hts fw_X0 tyX0 tyX0_ok nmX0 hown hK hs.1 hs.2.1 hs.2.2 k (cb_at hk) rfl 2 (by decide) (hts _ kf_X0_44) (fun _ h => h) rfl (by decide +kernel) rfl rfl (Nat.le_of_ble_eq_true rfl) hdg (fun H1 locs1 h1 h2 h3 => kk H1 locs1 ⟨?_, cb_D hs.2.1, h3⟩)
  rw [cb_sI, ← cb_setA hk]
  exact h1
theorem gf_X0_9 (C : cb_C p s m args meth c cc nL ret RX0 D T) (hs : cb_H sh A T D σ s.heap H locs) (hk : sh[k]? = some 0) (hdg : decode cc pc = .ok (.getfield 9, 3)) (kk : W p l e R s m args below meth c H locs 0 0 Q (F0 m (pc + 3) ls (.ref (A (k + 1)) :: rest))) : W p l e R s m args below meth c H locs 0 0 Q (F0 m pc ls (.ref (A k) :: rest)) := by
  obtain ⟨hx, hb, hml, hr, hown, hts, hK, hlk, hN⟩ := C
  exact va_get (D := D) (ci := 0) (C := RX0) (T := TX0) (N := 7) hx hb hts fw_X0 hown hK hs.1 k (cb_at hk) rfl 3 (by decide) (hts _ kf_X0_9) (fun _ h => h) rfl hdg kk
theorem gf_X0_15 (C : cb_C p s m args meth c cc nL ret RX0 D T) (hs : cb_H sh A T D σ s.heap H locs) (hk : sh[k]? = some 0) (hdg : decode cc pc = .ok (.getfield 15, 3)) (kk : W p l e R s m args below meth c H locs 0 0 Q (F0 m (pc + 3) ls (.ref (A (k + 2)) :: rest))) : W p l e R s m args below meth c H locs 0 0 Q (F0 m pc ls (.ref (A k) :: rest)) := by
  obtain ⟨hx, hb, hml, hr, hown, hts, hK, hlk, hN⟩ := C
  exact va_get (D := D) (ci := 0) (C := RX0) (T := TX0) (N := 7) hx hb hts fw_X0 hown hK hs.1 k (cb_at hk) rfl 4 (by decide) (hts _ kf_X0_15) (fun _ h => h) rfl hdg kk
theorem gf_X0_18 (C : cb_C p s m args meth c cc nL ret RX0 D T) (hs : cb_H sh A T D σ s.heap H locs) (hk : sh[k]? = some 0) (hdg : decode cc pc = .ok (.getfield 18, 3)) (kk : W p l e R s m args below meth c H locs 0 0 Q (F0 m (pc + 3) ls (.ref (A (k + 3)) :: rest))) : W p l e R s m args below meth c H locs 0 0 Q (F0 m pc ls (.ref (A k) :: rest)) := by
  obtain ⟨hx, hb, hml, hr, hown, hts, hK, hlk, hN⟩ := C
  exact va_get (D := D) (ci := 0) (C := RX0) (T := TX0) (N := 7) hx hb hts fw_X0 hown hK hs.1 k (cb_at hk) rfl 5 (by decide) (hts _ kf_X0_18) (fun _ h => h) rfl hdg kk
theorem gf_X0_21 (C : cb_C p s m args meth c cc nL ret RX0 D T) (hs : cb_H sh A T D σ s.heap H locs) (hk : sh[k]? = some 0) (hdg : decode cc pc = .ok (.getfield 21, 3)) (kk : W p l e R s m args below meth c H locs 0 0 Q (F0 m (pc + 3) ls (.ref (A (k + 4)) :: rest))) : W p l e R s m args below meth c H locs 0 0 Q (F0 m pc ls (.ref (A k) :: rest)) := by
  obtain ⟨hx, hb, hml, hr, hown, hts, hK, hlk, hN⟩ := C
  exact va_get (D := D) (ci := 0) (C := RX0) (T := TX0) (N := 7) hx hb hts fw_X0 hown hK hs.1 k (cb_at hk) rfl 6 (by decide) (hts _ kf_X0_21) (fun _ h => h) rfl hdg kk
theorem gf_X7_101 (C : cb_C p s m args meth c cc nL ret RX7 D T) (hs : cb_H sh A T D σ s.heap H locs) (hk : sh[k]? = some 1) (hdg : decode cc pc = .ok (.getfield 101, 3)) (kk : W p l e R s m args below meth c H locs 0 0 Q (F0 m (pc + 3) ls (.int (σ.1 k 0) :: rest))) : W p l e R s m args below meth c H locs 0 0 Q (F0 m pc ls (.ref (A k) :: rest)) := by
  obtain ⟨hx, hb, hml, hr, hown, hts, hK, hlk, hN⟩ := C
  exact va_get (D := D) (ci := 1) (C := RX1) (T := TX1) (N := 3) hx hb hts fw_X1 hown hK hs.1 k (cb_at hk) rfl 0 (by decide) (hts _ kf_X7_101) (fun _ h => h) rfl hdg kk
theorem pf_X7_101 {v : Int32} (C : cb_C p s m args meth c cc nL ret RX7 D T) (hs : cb_H sh A T D σ s.heap H locs) (hk : sh[k]? = some 1) (hz : v = 0 ∨ v = 1) (hdg : decode cc pc = .ok (.putfield 101, 3)) (kk : ∀ (H1 : Heap) (locs1 : List Loc), cb_H sh A T D (cb_sI σ k 0 v) s.heap H1 locs1 → W p l e R s m args below meth c H1 locs1 0 0 Q (F0 m (pc + 3) ls rest)) : W p l e R s m args below meth c H locs 0 0 Q (F0 m pc ls (.int v :: .ref (A k) :: rest)) := by
  obtain ⟨hx, hb, hml, hr, hown, hts, hK, hlk, hN⟩ := C
  refine va_put (D := D) (ci := 1) (v := .int v) (ty := .boolean) (C := RX1) (T := TX1) (N := 3) hx hb hts fw_X1 tyX1 tyX1_ok nmX1 hown hK hs.1 hs.2.1 hs.2.2 k (cb_at hk) rfl 0 (by decide) (hts _ kf_X7_101) (fun _ h => h) rfl (by decide +kernel) (by rcases hz with rfl | rfl <;> rfl) (by rcases hz with rfl | rfl <;> rfl) (Nat.le_of_ble_eq_true rfl) hdg (fun H1 locs1 h1 h2 h3 => kk H1 locs1 ⟨?_, cb_D hs.2.1, h3⟩)
  rw [cb_sI, ← cb_setA hk]
  exact h1
theorem gf_X7_312 (C : cb_C p s m args meth c cc nL ret RX7 D T) (hs : cb_H sh A T D σ s.heap H locs) (hk : sh[k]? = some 1) (hdg : decode cc pc = .ok (.getfield 312, 3)) (kk : W p l e R s m args below meth c H locs 0 0 Q (F0 m (pc + 3) ls (.int (σ.1 k 1) :: rest))) : W p l e R s m args below meth c H locs 0 0 Q (F0 m pc ls (.ref (A k) :: rest)) := by
  obtain ⟨hx, hb, hml, hr, hown, hts, hK, hlk, hN⟩ := C
  exact va_get (D := D) (ci := 1) (C := RX1) (T := TX1) (N := 3) hx hb hts fw_X1 hown hK hs.1 k (cb_at hk) rfl 1 (by decide) (hts _ kf_X7_312) (fun _ h => h) rfl hdg kk
theorem pf_X7_312 {v : Int32} (C : cb_C p s m args meth c cc nL ret RX7 D T) (hs : cb_H sh A T D σ s.heap H locs) (hk : sh[k]? = some 1) (hdg : decode cc pc = .ok (.putfield 312, 3)) (kk : ∀ (H1 : Heap) (locs1 : List Loc), cb_H sh A T D (cb_sI σ k 1 v) s.heap H1 locs1 → W p l e R s m args below meth c H1 locs1 0 0 Q (F0 m (pc + 3) ls rest)) : W p l e R s m args below meth c H locs 0 0 Q (F0 m pc ls (.int v :: .ref (A k) :: rest)) := by
  obtain ⟨hx, hb, hml, hr, hown, hts, hK, hlk, hN⟩ := C
  refine va_put (D := D) (ci := 1) (v := .int v) (ty := .int) (C := RX1) (T := TX1) (N := 3) hx hb hts fw_X1 tyX1 tyX1_ok nmX1 hown hK hs.1 hs.2.1 hs.2.2 k (cb_at hk) rfl 1 (by decide) (hts _ kf_X7_312) (fun _ h => h) rfl (by decide +kernel) rfl rfl (Nat.le_of_ble_eq_true rfl) hdg (fun H1 locs1 h1 h2 h3 => kk H1 locs1 ⟨?_, cb_D hs.2.1, h3⟩)
  rw [cb_sI, ← cb_setA hk]
  exact h1
theorem gf_X1_10 (C : cb_C p s m args meth c cc nL ret RX1 D T) (hs : cb_H sh A T D σ s.heap H locs) (hk : sh[k]? = some 1) (hdg : decode cc pc = .ok (.getfield 10, 3)) (kk : W p l e R s m args below meth c H locs 0 0 Q (F0 m (pc + 3) ls (.ref (A (k + 1)) :: rest))) : W p l e R s m args below meth c H locs 0 0 Q (F0 m pc ls (.ref (A k) :: rest)) := by
  obtain ⟨hx, hb, hml, hr, hown, hts, hK, hlk, hN⟩ := C
  exact va_get (D := D) (ci := 1) (C := RX1) (T := TX1) (N := 3) hx hb hts fw_X1 hown hK hs.1 k (cb_at hk) rfl 2 (by decide) (hts _ kf_X1_10) (fun _ h => h) rfl hdg kk
theorem gf_X7_307 (C : cb_C p s m args meth c cc nL ret RX7 D T) (hs : cb_H sh A T D σ s.heap H locs) (hk : sh[k]? = some 1) (hdg : decode cc pc = .ok (.getfield 307, 3)) (kk : W p l e R s m args below meth c H locs 0 0 Q (F0 m (pc + 3) ls (.ref (A (k + 1)) :: rest))) : W p l e R s m args below meth c H locs 0 0 Q (F0 m pc ls (.ref (A k) :: rest)) := by
  obtain ⟨hx, hb, hml, hr, hown, hts, hK, hlk, hN⟩ := C
  exact va_get (D := D) (ci := 1) (C := RX1) (T := TX1) (N := 3) hx hb hts fw_X1 hown hK hs.1 k (cb_at hk) rfl 2 (by decide) (hts _ kf_X7_307) (fun _ h => h) rfl hdg kk
theorem gf_X7_304 (C : cb_C p s m args meth c cc nL ret RX7 D T) (hs : cb_H sh A T D σ s.heap H locs) (hk : sh[k]? = some 7) (hdg : decode cc pc = .ok (.getfield 304, 3)) (kk : W p l e R s m args below meth c H locs 0 0 Q (F0 m (pc + 3) ls (.int (σ.1 k 0) :: rest))) : W p l e R s m args below meth c H locs 0 0 Q (F0 m pc ls (.ref (A k) :: rest)) := by
  obtain ⟨hx, hb, hml, hr, hown, hts, hK, hlk, hN⟩ := C
  exact va_get (D := D) (ci := 7) (C := RX7) (T := TX7) (N := 10) hx hb hts fw_X7 hown hK hs.1 k (cb_at hk) rfl 0 (by decide) (hts _ kf_X7_304) (fun _ h => h) rfl hdg kk
theorem pf_X7_304 {v : Int32} (C : cb_C p s m args meth c cc nL ret RX7 D T) (hs : cb_H sh A T D σ s.heap H locs) (hk : sh[k]? = some 7) (hdg : decode cc pc = .ok (.putfield 304, 3)) (kk : ∀ (H1 : Heap) (locs1 : List Loc), cb_H sh A T D (cb_sI σ k 0 v) s.heap H1 locs1 → W p l e R s m args below meth c H1 locs1 0 0 Q (F0 m (pc + 3) ls rest)) : W p l e R s m args below meth c H locs 0 0 Q (F0 m pc ls (.int v :: .ref (A k) :: rest)) := by
  obtain ⟨hx, hb, hml, hr, hown, hts, hK, hlk, hN⟩ := C
  refine va_put (D := D) (ci := 7) (v := .int v) (ty := .int) (C := RX7) (T := TX7) (N := 10) hx hb hts fw_X7 tyX7 tyX7_ok nmX7 hown hK hs.1 hs.2.1 hs.2.2 k (cb_at hk) rfl 0 (by decide) (hts _ kf_X7_304) (fun _ h => h) rfl (by decide +kernel) rfl rfl (Nat.le_of_ble_eq_true rfl) hdg (fun H1 locs1 h1 h2 h3 => kk H1 locs1 ⟨?_, cb_D hs.2.1, h3⟩)
  rw [cb_sI, ← cb_setA hk]
  exact h1
theorem gf_X7_19 (C : cb_C p s m args meth c cc nL ret RX7 D T) (hs : cb_H sh A T D σ s.heap H locs) (hk : sh[k]? = some 7) (hdg : decode cc pc = .ok (.getfield 19, 3)) (kk : W p l e R s m args below meth c H locs 0 0 Q (F0 m (pc + 3) ls (.ref (A (k + 3)) :: rest))) : W p l e R s m args below meth c H locs 0 0 Q (F0 m pc ls (.ref (A k) :: rest)) := by
  obtain ⟨hx, hb, hml, hr, hown, hts, hK, hlk, hN⟩ := C
  exact va_get (D := D) (ci := 7) (C := RX7) (T := TX7) (N := 10) hx hb hts fw_X7 hown hK hs.1 k (cb_at hk) rfl 1 (by decide) (hts _ kf_X7_19) (fun _ h => h) rfl hdg kk
theorem gf_X7_26 (C : cb_C p s m args meth c cc nL ret RX7 D T) (hs : cb_H sh A T D σ s.heap H locs) (hk : sh[k]? = some 7) (hdg : decode cc pc = .ok (.getfield 26, 3)) (kk : W p l e R s m args below meth c H locs 0 0 Q (F0 m (pc + 3) ls (.ref (A (k + 9)) :: rest))) : W p l e R s m args below meth c H locs 0 0 Q (F0 m pc ls (.ref (A k) :: rest)) := by
  obtain ⟨hx, hb, hml, hr, hown, hts, hK, hlk, hN⟩ := C
  exact va_get (D := D) (ci := 7) (C := RX7) (T := TX7) (N := 10) hx hb hts fw_X7 hown hK hs.1 k (cb_at hk) rfl 2 (by decide) (hts _ kf_X7_26) (fun _ h => h) rfl hdg kk
theorem gf_X7_33 (C : cb_C p s m args meth c cc nL ret RX7 D T) (hs : cb_H sh A T D σ s.heap H locs) (hk : sh[k]? = some 7) (hdg : decode cc pc = .ok (.getfield 33, 3)) (kk : W p l e R s m args below meth c H locs 0 0 Q (F0 m (pc + 3) ls (.ref (A (k + 13)) :: rest))) : W p l e R s m args below meth c H locs 0 0 Q (F0 m pc ls (.ref (A k) :: rest)) := by
  obtain ⟨hx, hb, hml, hr, hown, hts, hK, hlk, hN⟩ := C
  exact va_get (D := D) (ci := 7) (C := RX7) (T := TX7) (N := 10) hx hb hts fw_X7 hown hK hs.1 k (cb_at hk) rfl 3 (by decide) (hts _ kf_X7_33) (fun _ h => h) rfl hdg kk
theorem gf_X7_40 (C : cb_C p s m args meth c cc nL ret RX7 D T) (hs : cb_H sh A T D σ s.heap H locs) (hk : sh[k]? = some 7) (hdg : decode cc pc = .ok (.getfield 40, 3)) (kk : W p l e R s m args below meth c H locs 0 0 Q (F0 m (pc + 3) ls (.ref (A (k + 18)) :: rest))) : W p l e R s m args below meth c H locs 0 0 Q (F0 m pc ls (.ref (A k) :: rest)) := by
  obtain ⟨hx, hb, hml, hr, hown, hts, hK, hlk, hN⟩ := C
  exact va_get (D := D) (ci := 7) (C := RX7) (T := TX7) (N := 10) hx hb hts fw_X7 hown hK hs.1 k (cb_at hk) rfl 4 (by decide) (hts _ kf_X7_40) (fun _ h => h) rfl hdg kk
theorem gf_X7_47 (C : cb_C p s m args meth c cc nL ret RX7 D T) (hs : cb_H sh A T D σ s.heap H locs) (hk : sh[k]? = some 7) (hdg : decode cc pc = .ok (.getfield 47, 3)) (kk : W p l e R s m args below meth c H locs 0 0 Q (F0 m (pc + 3) ls (.ref (A (k + 100)) :: rest))) : W p l e R s m args below meth c H locs 0 0 Q (F0 m pc ls (.ref (A k) :: rest)) := by
  obtain ⟨hx, hb, hml, hr, hown, hts, hK, hlk, hN⟩ := C
  exact va_get (D := D) (ci := 7) (C := RX7) (T := TX7) (N := 10) hx hb hts fw_X7 hown hK hs.1 k (cb_at hk) rfl 5 (by decide) (hts _ kf_X7_47) (fun _ h => h) rfl hdg kk
theorem gf_X7_54 (C : cb_C p s m args meth c cc nL ret RX7 D T) (hs : cb_H sh A T D σ s.heap H locs) (hk : sh[k]? = some 7) (hdg : decode cc pc = .ok (.getfield 54, 3)) (kk : W p l e R s m args below meth c H locs 0 0 Q (F0 m (pc + 3) ls (.ref (A (k + 106)) :: rest))) : W p l e R s m args below meth c H locs 0 0 Q (F0 m pc ls (.ref (A k) :: rest)) := by
  obtain ⟨hx, hb, hml, hr, hown, hts, hK, hlk, hN⟩ := C
  exact va_get (D := D) (ci := 7) (C := RX7) (T := TX7) (N := 10) hx hb hts fw_X7 hown hK hs.1 k (cb_at hk) rfl 6 (by decide) (hts _ kf_X7_54) (fun _ h => h) rfl hdg kk
theorem gf_X7_60 (C : cb_C p s m args meth c cc nL ret RX7 D T) (hs : cb_H sh A T D σ s.heap H locs) (hk : sh[k]? = some 7) (hdg : decode cc pc = .ok (.getfield 60, 3)) (kk : W p l e R s m args below meth c H locs 0 0 Q (F0 m (pc + 3) ls (.ref (A (k + 111)) :: rest))) : W p l e R s m args below meth c H locs 0 0 Q (F0 m pc ls (.ref (A k) :: rest)) := by
  obtain ⟨hx, hb, hml, hr, hown, hts, hK, hlk, hN⟩ := C
  exact va_get (D := D) (ci := 7) (C := RX7) (T := TX7) (N := 10) hx hb hts fw_X7 hown hK hs.1 k (cb_at hk) rfl 7 (by decide) (hts _ kf_X7_60) (fun _ h => h) rfl hdg kk
theorem gf_X7_9 (C : cb_C p s m args meth c cc nL ret RX7 D T) (hs : cb_H sh A T D σ s.heap H locs) (hk : sh[k]? = some 7) (hdg : decode cc pc = .ok (.getfield 9, 3)) (kk : W p l e R s m args below meth c H locs 0 0 Q (F0 m (pc + 3) ls (.ref (A (k + 1)) :: rest))) : W p l e R s m args below meth c H locs 0 0 Q (F0 m pc ls (.ref (A k) :: rest)) := by
  obtain ⟨hx, hb, hml, hr, hown, hts, hK, hlk, hN⟩ := C
  exact va_get (D := D) (ci := 7) (C := RX7) (T := TX7) (N := 10) hx hb hts fw_X7 hown hK hs.1 k (cb_at hk) rfl 8 (by decide) (hts _ kf_X7_9) (fun _ h => h) rfl hdg kk
theorem gf_X7_13 (C : cb_C p s m args meth c cc nL ret RX7 D T) (hs : cb_H sh A T D σ s.heap H locs) (hk : sh[k]? = some 7) (hdg : decode cc pc = .ok (.getfield 13, 3)) (kk : W p l e R s m args below meth c H locs 0 0 Q (F0 m (pc + 3) ls (.ref (A (k + 2)) :: rest))) : W p l e R s m args below meth c H locs 0 0 Q (F0 m pc ls (.ref (A k) :: rest)) := by
  obtain ⟨hx, hb, hml, hr, hown, hts, hK, hlk, hN⟩ := C
  exact va_get (D := D) (ci := 7) (C := RX7) (T := TX7) (N := 10) hx hb hts fw_X7 hown hK hs.1 k (cb_at hk) rfl 9 (by decide) (hts _ kf_X7_13) (fun _ h => h) rfl hdg kk
theorem gf_X8_143 (C : cb_C p s m args meth c cc nL ret RX8 D T) (hs : cb_H sh A T D σ s.heap H locs) (hk : sh[k]? = some 8) (hdg : decode cc pc = .ok (.getfield 143, 3)) (kk : W p l e R s m args below meth c H locs 0 0 Q (F0 m (pc + 3) ls (.int (σ.1 k 0) :: rest))) : W p l e R s m args below meth c H locs 0 0 Q (F0 m pc ls (.ref (A k) :: rest)) := by
  obtain ⟨hx, hb, hml, hr, hown, hts, hK, hlk, hN⟩ := C
  exact va_get (D := D) (ci := 8) (C := RX8) (T := TX8) (N := 40) hx hb hts fw_X8 hown hK hs.1 k (cb_at hk) rfl 0 (by decide) (hts _ kf_X8_143) (fun _ h => h) rfl hdg kk
theorem pf_X8_143 {v : Int32} (C : cb_C p s m args meth c cc nL ret RX8 D T) (hs : cb_H sh A T D σ s.heap H locs) (hk : sh[k]? = some 8) (hz : v = 0 ∨ v = 1) (hdg : decode cc pc = .ok (.putfield 143, 3)) (kk : ∀ (H1 : Heap) (locs1 : List Loc), cb_H sh A T D (cb_sI σ k 0 v) s.heap H1 locs1 → W p l e R s m args below meth c H1 locs1 0 0 Q (F0 m (pc + 3) ls rest)) : W p l e R s m args below meth c H locs 0 0 Q (F0 m pc ls (.int v :: .ref (A k) :: rest)) := by
  obtain ⟨hx, hb, hml, hr, hown, hts, hK, hlk, hN⟩ := C
  refine va_put (D := D) (ci := 8) (v := .int v) (ty := .boolean) (C := RX8) (T := TX8) (N := 40) hx hb hts fw_X8 tyX8 tyX8_ok nmX8 hown hK hs.1 hs.2.1 hs.2.2 k (cb_at hk) rfl 0 (by decide) (hts _ kf_X8_143) (fun _ h => h) rfl (by decide +kernel) (by rcases hz with rfl | rfl <;> rfl) (by rcases hz with rfl | rfl <;> rfl) (Nat.le_of_ble_eq_true rfl) hdg (fun H1 locs1 h1 h2 h3 => kk H1 locs1 ⟨?_, cb_D hs.2.1, h3⟩)
  rw [cb_sI, ← cb_setA hk]
  exact h1
theorem gf_X8_146 (C : cb_C p s m args meth c cc nL ret RX8 D T) (hs : cb_H sh A T D σ s.heap H locs) (hk : sh[k]? = some 8) (hdg : decode cc pc = .ok (.getfield 146, 3)) (kk : W p l e R s m args below meth c H locs 0 0 Q (F0 m (pc + 3) ls (.int (σ.1 k 1) :: rest))) : W p l e R s m args below meth c H locs 0 0 Q (F0 m pc ls (.ref (A k) :: rest)) := by
  obtain ⟨hx, hb, hml, hr, hown, hts, hK, hlk, hN⟩ := C
  exact va_get (D := D) (ci := 8) (C := RX8) (T := TX8) (N := 40) hx hb hts fw_X8 hown hK hs.1 k (cb_at hk) rfl 1 (by decide) (hts _ kf_X8_146) (fun _ h => h) rfl hdg kk
theorem pf_X8_146 {v : Int32} (C : cb_C p s m args meth c cc nL ret RX8 D T) (hs : cb_H sh A T D σ s.heap H locs) (hk : sh[k]? = some 8) (hdg : decode cc pc = .ok (.putfield 146, 3)) (kk : ∀ (H1 : Heap) (locs1 : List Loc), cb_H sh A T D (cb_sI σ k 1 v) s.heap H1 locs1 → W p l e R s m args below meth c H1 locs1 0 0 Q (F0 m (pc + 3) ls rest)) : W p l e R s m args below meth c H locs 0 0 Q (F0 m pc ls (.int v :: .ref (A k) :: rest)) := by
  obtain ⟨hx, hb, hml, hr, hown, hts, hK, hlk, hN⟩ := C
  refine va_put (D := D) (ci := 8) (v := .int v) (ty := .int) (C := RX8) (T := TX8) (N := 40) hx hb hts fw_X8 tyX8 tyX8_ok nmX8 hown hK hs.1 hs.2.1 hs.2.2 k (cb_at hk) rfl 1 (by decide) (hts _ kf_X8_146) (fun _ h => h) rfl (by decide +kernel) rfl rfl (Nat.le_of_ble_eq_true rfl) hdg (fun H1 locs1 h1 h2 h3 => kk H1 locs1 ⟨?_, cb_D hs.2.1, h3⟩)
  rw [cb_sI, ← cb_setA hk]
  exact h1
theorem gf_X8_149 (C : cb_C p s m args meth c cc nL ret RX8 D T) (hs : cb_H sh A T D σ s.heap H locs) (hk : sh[k]? = some 8) (hdg : decode cc pc = .ok (.getfield 149, 3)) (kk : W p l e R s m args below meth c H locs 0 0 Q (F0 m (pc + 3) ls (.int (σ.1 k 2) :: rest))) : W p l e R s m args below meth c H locs 0 0 Q (F0 m pc ls (.ref (A k) :: rest)) := by
  obtain ⟨hx, hb, hml, hr, hown, hts, hK, hlk, hN⟩ := C
  exact va_get (D := D) (ci := 8) (C := RX8) (T := TX8) (N := 40) hx hb hts fw_X8 hown hK hs.1 k (cb_at hk) rfl 2 (by decide) (hts _ kf_X8_149) (fun _ h => h) rfl hdg kk
theorem pf_X8_149 {v : Int32} (C : cb_C p s m args meth c cc nL ret RX8 D T) (hs : cb_H sh A T D σ s.heap H locs) (hk : sh[k]? = some 8) (hdg : decode cc pc = .ok (.putfield 149, 3)) (kk : ∀ (H1 : Heap) (locs1 : List Loc), cb_H sh A T D (cb_sI σ k 2 v) s.heap H1 locs1 → W p l e R s m args below meth c H1 locs1 0 0 Q (F0 m (pc + 3) ls rest)) : W p l e R s m args below meth c H locs 0 0 Q (F0 m pc ls (.int v :: .ref (A k) :: rest)) := by
  obtain ⟨hx, hb, hml, hr, hown, hts, hK, hlk, hN⟩ := C
  refine va_put (D := D) (ci := 8) (v := .int v) (ty := .int) (C := RX8) (T := TX8) (N := 40) hx hb hts fw_X8 tyX8 tyX8_ok nmX8 hown hK hs.1 hs.2.1 hs.2.2 k (cb_at hk) rfl 2 (by decide) (hts _ kf_X8_149) (fun _ h => h) rfl (by decide +kernel) rfl rfl (Nat.le_of_ble_eq_true rfl) hdg (fun H1 locs1 h1 h2 h3 => kk H1 locs1 ⟨?_, cb_D hs.2.1, h3⟩)
  rw [cb_sI, ← cb_setA hk]
  exact h1
theorem gf_X8_152 (C : cb_C p s m args meth c cc nL ret RX8 D T) (hs : cb_H sh A T D σ s.heap H locs) (hk : sh[k]? = some 8) (hdg : decode cc pc = .ok (.getfield 152, 3)) (kk : W p l e R s m args below meth c H locs 0 0 Q (F0 m (pc + 3) ls (.int (σ.1 k 3) :: rest))) : W p l e R s m args below meth c H locs 0 0 Q (F0 m pc ls (.ref (A k) :: rest)) := by
  obtain ⟨hx, hb, hml, hr, hown, hts, hK, hlk, hN⟩ := C
  exact va_get (D := D) (ci := 8) (C := RX8) (T := TX8) (N := 40) hx hb hts fw_X8 hown hK hs.1 k (cb_at hk) rfl 3 (by decide) (hts _ kf_X8_152) (fun _ h => h) rfl hdg kk
theorem pf_X8_152 {v : Int32} (C : cb_C p s m args meth c cc nL ret RX8 D T) (hs : cb_H sh A T D σ s.heap H locs) (hk : sh[k]? = some 8) (hdg : decode cc pc = .ok (.putfield 152, 3)) (kk : ∀ (H1 : Heap) (locs1 : List Loc), cb_H sh A T D (cb_sI σ k 3 v) s.heap H1 locs1 → W p l e R s m args below meth c H1 locs1 0 0 Q (F0 m (pc + 3) ls rest)) : W p l e R s m args below meth c H locs 0 0 Q (F0 m pc ls (.int v :: .ref (A k) :: rest)) := by
  obtain ⟨hx, hb, hml, hr, hown, hts, hK, hlk, hN⟩ := C
  refine va_put (D := D) (ci := 8) (v := .int v) (ty := .int) (C := RX8) (T := TX8) (N := 40) hx hb hts fw_X8 tyX8 tyX8_ok nmX8 hown hK hs.1 hs.2.1 hs.2.2 k (cb_at hk) rfl 3 (by decide) (hts _ kf_X8_152) (fun _ h => h) rfl (by decide +kernel) rfl rfl (Nat.le_of_ble_eq_true rfl) hdg (fun H1 locs1 h1 h2 h3 => kk H1 locs1 ⟨?_, cb_D hs.2.1, h3⟩)
  rw [cb_sI, ← cb_setA hk]
  exact h1
theorem gf_X8_86 (C : cb_C p s m args meth c cc nL ret RX8 D T) (hs : cb_H sh A T D σ s.heap H locs) (hk : sh[k]? = some 8) (hdg : decode cc pc = .ok (.getfield 86, 3)) (kk : W p l e R s m args below meth c H locs 0 0 Q (F0 m (pc + 3) ls (.int (σ.1 k 4) :: rest))) : W p l e R s m args below meth c H locs 0 0 Q (F0 m pc ls (.ref (A k) :: rest)) := by
  obtain ⟨hx, hb, hml, hr, hown, hts, hK, hlk, hN⟩ := C
  exact va_get (D := D) (ci := 8) (C := RX8) (T := TX8) (N := 40) hx hb hts fw_X8 hown hK hs.1 k (cb_at hk) rfl 4 (by decide) (hts _ kf_X8_86) (fun _ h => h) rfl hdg kk
theorem pf_X8_86 {v : Int32} (C : cb_C p s m args meth c cc nL ret RX8 D T) (hs : cb_H sh A T D σ s.heap H locs) (hk : sh[k]? = some 8) (hdg : decode cc pc = .ok (.putfield 86, 3)) (kk : ∀ (H1 : Heap) (locs1 : List Loc), cb_H sh A T D (cb_sI σ k 4 v) s.heap H1 locs1 → W p l e R s m args below meth c H1 locs1 0 0 Q (F0 m (pc + 3) ls rest)) : W p l e R s m args below meth c H locs 0 0 Q (F0 m pc ls (.int v :: .ref (A k) :: rest)) := by
  obtain ⟨hx, hb, hml, hr, hown, hts, hK, hlk, hN⟩ := C
  refine va_put (D := D) (ci := 8) (v := .int v) (ty := .int) (C := RX8) (T := TX8) (N := 40) hx hb hts fw_X8 tyX8 tyX8_ok nmX8 hown hK hs.1 hs.2.1 hs.2.2 k (cb_at hk) rfl 4 (by decide) (hts _ kf_X8_86) (fun _ h => h) rfl (by decide +kernel) rfl rfl (Nat.le_of_ble_eq_true rfl) hdg (fun H1 locs1 h1 h2 h3 => kk H1 locs1 ⟨?_, cb_D hs.2.1, h3⟩)
  rw [cb_sI, ← cb_setA hk]
  exact h1
theorem gf_X8_7 (C : cb_C p s m args meth c cc nL ret RX8 D T) (hs : cb_H sh A T D σ s.heap H locs) (hk : sh[k]? = some 8) (hdg : decode cc pc = .ok (.getfield 7, 3)) (kk : W p l e R s m args below meth c H locs 0 0 Q (F0 m (pc + 3) ls (.ref (A (k + 1)) :: rest))) : W p l e R s m args below meth c H locs 0 0 Q (F0 m pc ls (.ref (A k) :: rest)) := by
  obtain ⟨hx, hb, hml, hr, hown, hts, hK, hlk, hN⟩ := C
  exact va_get (D := D) (ci := 8) (C := RX8) (T := TX8) (N := 40) hx hb hts fw_X8 hown hK hs.1 k (cb_at hk) rfl 5 (by decide) (hts _ kf_X8_7) (fun _ h => h) rfl hdg kk
theorem gf_X8_13 (C : cb_C p s m args meth c cc nL ret RX8 D T) (hs : cb_H sh A T D σ s.heap H locs) (hk : sh[k]? = some 8) (hdg : decode cc pc = .ok (.getfield 13, 3)) (kk : W p l e R s m args below meth c H locs 0 0 Q (F0 m (pc + 3) ls (.ref (A (k + 2)) :: rest))) : W p l e R s m args below meth c H locs 0 0 Q (F0 m pc ls (.ref (A k) :: rest)) := by
  obtain ⟨hx, hb, hml, hr, hown, hts, hK, hlk, hN⟩ := C
  exact va_get (D := D) (ci := 8) (C := RX8) (T := TX8) (N := 40) hx hb hts fw_X8 hown hK hs.1 k (cb_at hk) rfl 6 (by decide) (hts _ kf_X8_13) (fun _ h => h) rfl hdg kk
theorem gf_X8_75 (C : cb_C p s m args meth c cc nL ret RX8 D T) (hs : cb_H sh A T D σ s.heap H locs) (hk : sh[k]? = some 8) (hdg : decode cc pc = .ok (.getfield 75, 3)) (kk : W p l e R s m args below meth c H locs 0 0 Q (F0 m (pc + 3) ls (.int (σ.1 k 7) :: rest))) : W p l e R s m args below meth c H locs 0 0 Q (F0 m pc ls (.ref (A k) :: rest)) := by
  obtain ⟨hx, hb, hml, hr, hown, hts, hK, hlk, hN⟩ := C
  exact va_get (D := D) (ci := 8) (C := RX8) (T := TX8) (N := 40) hx hb hts fw_X8 hown hK hs.1 k (cb_at hk) rfl 7 (by decide) (hts _ kf_X8_75) (fun _ h => h) rfl hdg kk
theorem pf_X8_75 {v : Int32} (C : cb_C p s m args meth c cc nL ret RX8 D T) (hs : cb_H sh A T D σ s.heap H locs) (hk : sh[k]? = some 8) (hdg : decode cc pc = .ok (.putfield 75, 3)) (kk : ∀ (H1 : Heap) (locs1 : List Loc), cb_H sh A T D (cb_sI σ k 7 v) s.heap H1 locs1 → W p l e R s m args below meth c H1 locs1 0 0 Q (F0 m (pc + 3) ls rest)) : W p l e R s m args below meth c H locs 0 0 Q (F0 m pc ls (.int v :: .ref (A k) :: rest)) := by
  obtain ⟨hx, hb, hml, hr, hown, hts, hK, hlk, hN⟩ := C
  refine va_put (D := D) (ci := 8) (v := .int v) (ty := .int) (C := RX8) (T := TX8) (N := 40) hx hb hts fw_X8 tyX8 tyX8_ok nmX8 hown hK hs.1 hs.2.1 hs.2.2 k (cb_at hk) rfl 7 (by decide) (hts _ kf_X8_75) (fun _ h => h) rfl (by decide +kernel) rfl rfl (Nat.le_of_ble_eq_true rfl) hdg (fun H1 locs1 h1 h2 h3 => kk H1 locs1 ⟨?_, cb_D hs.2.1, h3⟩)
  rw [cb_sI, ← cb_setA hk]
  exact h1
theorem gf_X8_16 (C : cb_C p s m args meth c cc nL ret RX8 D T) (hs : cb_H sh A T D σ s.heap H locs) (hk : sh[k]? = some 8) (hdg : decode cc pc = .ok (.getfield 16, 3)) (kk : W p l e R s m args below meth c H locs 0 0 Q (F0 m (pc + 3) ls (.ref (A (k + 3)) :: rest))) : W p l e R s m args below meth c H locs 0 0 Q (F0 m pc ls (.ref (A k) :: rest)) := by
  obtain ⟨hx, hb, hml, hr, hown, hts, hK, hlk, hN⟩ := C
  exact va_get (D := D) (ci := 8) (C := RX8) (T := TX8) (N := 40) hx hb hts fw_X8 hown hK hs.1 k (cb_at hk) rfl 8 (by decide) (hts _ kf_X8_16) (fun _ h => h) rfl hdg kk
theorem gf_X8_259 (C : cb_C p s m args meth c cc nL ret RX8 D T) (hs : cb_H sh A T D σ s.heap H locs) (hk : sh[k]? = some 8) (hdg : decode cc pc = .ok (.getfield 259, 3)) (kk : W p l e R s m args below meth c H locs 0 0 Q (F0 m (pc + 3) ls (.int (σ.1 k 9) :: rest))) : W p l e R s m args below meth c H locs 0 0 Q (F0 m pc ls (.ref (A k) :: rest)) := by
  obtain ⟨hx, hb, hml, hr, hown, hts, hK, hlk, hN⟩ := C
  exact va_get (D := D) (ci := 8) (C := RX8) (T := TX8) (N := 40) hx hb hts fw_X8 hown hK hs.1 k (cb_at hk) rfl 9 (by decide) (hts _ kf_X8_259) (fun _ h => h) rfl hdg kk
theorem pf_X8_259 {v : Int32} (C : cb_C p s m args meth c cc nL ret RX8 D T) (hs : cb_H sh A T D σ s.heap H locs) (hk : sh[k]? = some 8) (hdg : decode cc pc = .ok (.putfield 259, 3)) (kk : ∀ (H1 : Heap) (locs1 : List Loc), cb_H sh A T D (cb_sI σ k 9 v) s.heap H1 locs1 → W p l e R s m args below meth c H1 locs1 0 0 Q (F0 m (pc + 3) ls rest)) : W p l e R s m args below meth c H locs 0 0 Q (F0 m pc ls (.int v :: .ref (A k) :: rest)) := by
  obtain ⟨hx, hb, hml, hr, hown, hts, hK, hlk, hN⟩ := C
  refine va_put (D := D) (ci := 8) (v := .int v) (ty := .int) (C := RX8) (T := TX8) (N := 40) hx hb hts fw_X8 tyX8 tyX8_ok nmX8 hown hK hs.1 hs.2.1 hs.2.2 k (cb_at hk) rfl 9 (by decide) (hts _ kf_X8_259) (fun _ h => h) rfl (by decide +kernel) rfl rfl (Nat.le_of_ble_eq_true rfl) hdg (fun H1 locs1 h1 h2 h3 => kk H1 locs1 ⟨?_, cb_D hs.2.1, h3⟩)
  rw [cb_sI, ← cb_setA hk]
  exact h1
theorem gf_X8_19 (C : cb_C p s m args meth c cc nL ret RX8 D T) (hs : cb_H sh A T D σ s.heap H locs) (hk : sh[k]? = some 8) (hdg : decode cc pc = .ok (.getfield 19, 3)) (kk : W p l e R s m args below meth c H locs 0 0 Q (F0 m (pc + 3) ls (.ref (A (k + 4)) :: rest))) : W p l e R s m args below meth c H locs 0 0 Q (F0 m pc ls (.ref (A k) :: rest)) := by
  obtain ⟨hx, hb, hml, hr, hown, hts, hK, hlk, hN⟩ := C
  exact va_get (D := D) (ci := 8) (C := RX8) (T := TX8) (N := 40) hx hb hts fw_X8 hown hK hs.1 k (cb_at hk) rfl 10 (by decide) (hts _ kf_X8_19) (fun _ h => h) rfl hdg kk
theorem gf_X8_92 (C : cb_C p s m args meth c cc nL ret RX8 D T) (hs : cb_H sh A T D σ s.heap H locs) (hk : sh[k]? = some 8) (hdg : decode cc pc = .ok (.getfield 92, 3)) (kk : W p l e R s m args below meth c H locs 0 0 Q (F0 m (pc + 3) ls (.int (σ.1 k 11) :: rest))) : W p l e R s m args below meth c H locs 0 0 Q (F0 m pc ls (.ref (A k) :: rest)) := by
  obtain ⟨hx, hb, hml, hr, hown, hts, hK, hlk, hN⟩ := C
  exact va_get (D := D) (ci := 8) (C := RX8) (T := TX8) (N := 40) hx hb hts fw_X8 hown hK hs.1 k (cb_at hk) rfl 11 (by decide) (hts _ kf_X8_92) (fun _ h => h) rfl hdg kk
theorem pf_X8_92 {v : Int32} (C : cb_C p s m args meth c cc nL ret RX8 D T) (hs : cb_H sh A T D σ s.heap H locs) (hk : sh[k]? = some 8) (hdg : decode cc pc = .ok (.putfield 92, 3)) (kk : ∀ (H1 : Heap) (locs1 : List Loc), cb_H sh A T D (cb_sI σ k 11 v) s.heap H1 locs1 → W p l e R s m args below meth c H1 locs1 0 0 Q (F0 m (pc + 3) ls rest)) : W p l e R s m args below meth c H locs 0 0 Q (F0 m pc ls (.int v :: .ref (A k) :: rest)) := by
  obtain ⟨hx, hb, hml, hr, hown, hts, hK, hlk, hN⟩ := C
  refine va_put (D := D) (ci := 8) (v := .int v) (ty := .int) (C := RX8) (T := TX8) (N := 40) hx hb hts fw_X8 tyX8 tyX8_ok nmX8 hown hK hs.1 hs.2.1 hs.2.2 k (cb_at hk) rfl 11 (by decide) (hts _ kf_X8_92) (fun _ h => h) rfl (by decide +kernel) rfl rfl (Nat.le_of_ble_eq_true rfl) hdg (fun H1 locs1 h1 h2 h3 => kk H1 locs1 ⟨?_, cb_D hs.2.1, h3⟩)
  rw [cb_sI, ← cb_setA hk]
  exact h1
theorem gf_X8_22 (C : cb_C p s m args meth c cc nL ret RX8 D T) (hs : cb_H sh A T D σ s.heap H locs) (hk : sh[k]? = some 8) (hdg : decode cc pc = .ok (.getfield 22, 3)) (kk : W p l e R s m args below meth c H locs 0 0 Q (F0 m (pc + 3) ls (.int (σ.1 k 12) :: rest))) : W p l e R s m args below meth c H locs 0 0 Q (F0 m pc ls (.ref (A k) :: rest)) := by
  obtain ⟨hx, hb, hml, hr, hown, hts, hK, hlk, hN⟩ := C
  exact va_get (D := D) (ci := 8) (C := RX8) (T := TX8) (N := 40) hx hb hts fw_X8 hown hK hs.1 k (cb_at hk) rfl 12 (by decide) (hts _ kf_X8_22) (fun _ h => h) rfl hdg kk
theorem pf_X8_22 {v : Int32} (C : cb_C p s m args meth c cc nL ret RX8 D T) (hs : cb_H sh A T D σ s.heap H locs) (hk : sh[k]? = some 8) (hdg : decode cc pc = .ok (.putfield 22, 3)) (kk : ∀ (H1 : Heap) (locs1 : List Loc), cb_H sh A T D (cb_sI σ k 12 v) s.heap H1 locs1 → W p l e R s m args below meth c H1 locs1 0 0 Q (F0 m (pc + 3) ls rest)) : W p l e R s m args below meth c H locs 0 0 Q (F0 m pc ls (.int v :: .ref (A k) :: rest)) := by
  obtain ⟨hx, hb, hml, hr, hown, hts, hK, hlk, hN⟩ := C
  refine va_put (D := D) (ci := 8) (v := .int v) (ty := .int) (C := RX8) (T := TX8) (N := 40) hx hb hts fw_X8 tyX8 tyX8_ok nmX8 hown hK hs.1 hs.2.1 hs.2.2 k (cb_at hk) rfl 12 (by decide) (hts _ kf_X8_22) (fun _ h => h) rfl (by decide +kernel) rfl rfl (Nat.le_of_ble_eq_true rfl) hdg (fun H1 locs1 h1 h2 h3 => kk H1 locs1 ⟨?_, cb_D hs.2.1, h3⟩)
  rw [cb_sI, ← cb_setA hk]
  exact h1
theorem gf_X8_96 (C : cb_C p s m args meth c cc nL ret RX8 D T) (hs : cb_H sh A T D σ s.heap H locs) (hk : sh[k]? = some 8) (hdg : decode cc pc = .ok (.getfield 96, 3)) (kk : W p l e R s m args below meth c H locs 0 0 Q (F0 m (pc + 3) ls (.int (σ.1 k 13) :: rest))) : W p l e R s m args below meth c H locs 0 0 Q (F0 m pc ls (.ref (A k) :: rest)) := by
  obtain ⟨hx, hb, hml, hr, hown, hts, hK, hlk, hN⟩ := C
  exact va_get (D := D) (ci := 8) (C := RX8) (T := TX8) (N := 40) hx hb hts fw_X8 hown hK hs.1 k (cb_at hk) rfl 13 (by decide) (hts _ kf_X8_96) (fun _ h => h) rfl hdg kk
theorem pf_X8_96 {v : Int32} (C : cb_C p s m args meth c cc nL ret RX8 D T) (hs : cb_H sh A T D σ s.heap H locs) (hk : sh[k]? = some 8) (hdg : decode cc pc = .ok (.putfield 96, 3)) (kk : ∀ (H1 : Heap) (locs1 : List Loc), cb_H sh A T D (cb_sI σ k 13 v) s.heap H1 locs1 → W p l e R s m args below meth c H1 locs1 0 0 Q (F0 m (pc + 3) ls rest)) : W p l e R s m args below meth c H locs 0 0 Q (F0 m pc ls (.int v :: .ref (A k) :: rest)) := by
  obtain ⟨hx, hb, hml, hr, hown, hts, hK, hlk, hN⟩ := C
  refine va_put (D := D) (ci := 8) (v := .int v) (ty := .int) (C := RX8) (T := TX8) (N := 40) hx hb hts fw_X8 tyX8 tyX8_ok nmX8 hown hK hs.1 hs.2.1 hs.2.2 k (cb_at hk) rfl 13 (by decide) (hts _ kf_X8_96) (fun _ h => h) rfl (by decide +kernel) rfl rfl (Nat.le_of_ble_eq_true rfl) hdg (fun H1 locs1 h1 h2 h3 => kk H1 locs1 ⟨?_, cb_D hs.2.1, h3⟩)
  rw [cb_sI, ← cb_setA hk]
  exact h1
theorem gf_X8_114 (C : cb_C p s m args meth c cc nL ret RX8 D T) (hs : cb_H sh A T D σ s.heap H locs) (hk : sh[k]? = some 8) (hdg : decode cc pc = .ok (.getfield 114, 3)) (kk : W p l e R s m args below meth c H locs 0 0 Q (F0 m (pc + 3) ls (.int (σ.1 k 14) :: rest))) : W p l e R s m args below meth c H locs 0 0 Q (F0 m pc ls (.ref (A k) :: rest)) := by
  obtain ⟨hx, hb, hml, hr, hown, hts, hK, hlk, hN⟩ := C
  exact va_get (D := D) (ci := 8) (C := RX8) (T := TX8) (N := 40) hx hb hts fw_X8 hown hK hs.1 k (cb_at hk) rfl 14 (by decide) (hts _ kf_X8_114) (fun _ h => h) rfl hdg kk
theorem pf_X8_114 {v : Int32} (C : cb_C p s m args meth c cc nL ret RX8 D T) (hs : cb_H sh A T D σ s.heap H locs) (hk : sh[k]? = some 8) (hdg : decode cc pc = .ok (.putfield 114, 3)) (kk : ∀ (H1 : Heap) (locs1 : List Loc), cb_H sh A T D (cb_sI σ k 14 v) s.heap H1 locs1 → W p l e R s m args below meth c H1 locs1 0 0 Q (F0 m (pc + 3) ls rest)) : W p l e R s m args below meth c H locs 0 0 Q (F0 m pc ls (.int v :: .ref (A k) :: rest)) := by
  obtain ⟨hx, hb, hml, hr, hown, hts, hK, hlk, hN⟩ := C
  refine va_put (D := D) (ci := 8) (v := .int v) (ty := .int) (C := RX8) (T := TX8) (N := 40) hx hb hts fw_X8 tyX8 tyX8_ok nmX8 hown hK hs.1 hs.2.1 hs.2.2 k (cb_at hk) rfl 14 (by decide) (hts _ kf_X8_114) (fun _ h => h) rfl (by decide +kernel) rfl rfl (Nat.le_of_ble_eq_true rfl) hdg (fun H1 locs1 h1 h2 h3 => kk H1 locs1 ⟨?_, cb_D hs.2.1, h3⟩)
  rw [cb_sI, ← cb_setA hk]
  exact h1
theorem gf_X8_111 (C : cb_C p s m args meth c cc nL ret RX8 D T) (hs : cb_H sh A T D σ s.heap H locs) (hk : sh[k]? = some 8) (hdg : decode cc pc = .ok (.getfield 111, 3)) (kk : W p l e R s m args below meth c H locs 0 0 Q (F0 m (pc + 3) ls (.int (σ.1 k 15) :: rest))) : W p l e R s m args below meth c H locs 0 0 Q (F0 m pc ls (.ref (A k) :: rest)) := by
  obtain ⟨hx, hb, hml, hr, hown, hts, hK, hlk, hN⟩ := C
  exact va_get (D := D) (ci := 8) (C := RX8) (T := TX8) (N := 40) hx hb hts fw_X8 hown hK hs.1 k (cb_at hk) rfl 15 (by decide) (hts _ kf_X8_111) (fun _ h => h) rfl hdg kk
theorem pf_X8_111 {v : Int32} (C : cb_C p s m args meth c cc nL ret RX8 D T) (hs : cb_H sh A T D σ s.heap H locs) (hk : sh[k]? = some 8) (hdg : decode cc pc = .ok (.putfield 111, 3)) (kk : ∀ (H1 : Heap) (locs1 : List Loc), cb_H sh A T D (cb_sI σ k 15 v) s.heap H1 locs1 → W p l e R s m args below meth c H1 locs1 0 0 Q (F0 m (pc + 3) ls rest)) : W p l e R s m args below meth c H locs 0 0 Q (F0 m pc ls (.int v :: .ref (A k) :: rest)) := by
  obtain ⟨hx, hb, hml, hr, hown, hts, hK, hlk, hN⟩ := C
  refine va_put (D := D) (ci := 8) (v := .int v) (ty := .int) (C := RX8) (T := TX8) (N := 40) hx hb hts fw_X8 tyX8 tyX8_ok nmX8 hown hK hs.1 hs.2.1 hs.2.2 k (cb_at hk) rfl 15 (by decide) (hts _ kf_X8_111) (fun _ h => h) rfl (by decide +kernel) rfl rfl (Nat.le_of_ble_eq_true rfl) hdg (fun H1 locs1 h1 h2 h3 => kk H1 locs1 ⟨?_, cb_D hs.2.1, h3⟩)
  rw [cb_sI, ← cb_setA hk]
  exact h1
theorem gf_X8_120 (C : cb_C p s m args meth c cc nL ret RX8 D T) (hs : cb_H sh A T D σ s.heap H locs) (hk : sh[k]? = some 8) (hdg : decode cc pc = .ok (.getfield 120, 3)) (kk : W p l e R s m args below meth c H locs 0 0 Q (F0 m (pc + 3) ls (.int (σ.1 k 16) :: rest))) : W p l e R s m args below meth c H locs 0 0 Q (F0 m pc ls (.ref (A k) :: rest)) := by
  obtain ⟨hx, hb, hml, hr, hown, hts, hK, hlk, hN⟩ := C
  exact va_get (D := D) (ci := 8) (C := RX8) (T := TX8) (N := 40) hx hb hts fw_X8 hown hK hs.1 k (cb_at hk) rfl 16 (by decide) (hts _ kf_X8_120) (fun _ h => h) rfl hdg kk
theorem pf_X8_120 {v : Int32} (C : cb_C p s m args meth c cc nL ret RX8 D T) (hs : cb_H sh A T D σ s.heap H locs) (hk : sh[k]? = some 8) (hz : v = 0 ∨ v = 1) (hdg : decode cc pc = .ok (.putfield 120, 3)) (kk : ∀ (H1 : Heap) (locs1 : List Loc), cb_H sh A T D (cb_sI σ k 16 v) s.heap H1 locs1 → W p l e R s m args below meth c H1 locs1 0 0 Q (F0 m (pc + 3) ls rest)) : W p l e R s m args below meth c H locs 0 0 Q (F0 m pc ls (.int v :: .ref (A k) :: rest)) := by
  obtain ⟨hx, hb, hml, hr, hown, hts, hK, hlk, hN⟩ := C
  refine va_put (D := D) (ci := 8) (v := .int v) (ty := .boolean) (C := RX8) (T := TX8) (N := 40) hx hb hts fw_X8 tyX8 tyX8_ok nmX8 hown hK hs.1 hs.2.1 hs.2.2 k (cb_at hk) rfl 16 (by decide) (hts _ kf_X8_120) (fun _ h => h) rfl (by decide +kernel) (by rcases hz with rfl | rfl <;> rfl) (by rcases hz with rfl | rfl <;> rfl) (Nat.le_of_ble_eq_true rfl) hdg (fun H1 locs1 h1 h2 h3 => kk H1 locs1 ⟨?_, cb_D hs.2.1, h3⟩)
  rw [cb_sI, ← cb_setA hk]
  exact h1
theorem gf_X8_26 (C : cb_C p s m args meth c cc nL ret RX8 D T) (hs : cb_H sh A T D σ s.heap H locs) (hk : sh[k]? = some 8) (hdg : decode cc pc = .ok (.getfield 26, 3)) (kk : W p l e R s m args below meth c H locs 0 0 Q (F0 m (pc + 3) ls (.ref (A (k + 5)) :: rest))) : W p l e R s m args below meth c H locs 0 0 Q (F0 m pc ls (.ref (A k) :: rest)) := by
  obtain ⟨hx, hb, hml, hr, hown, hts, hK, hlk, hN⟩ := C
  exact va_get (D := D) (ci := 8) (C := RX8) (T := TX8) (N := 40) hx hb hts fw_X8 hown hK hs.1 k (cb_at hk) rfl 17 (by decide) (hts _ kf_X8_26) (fun _ h => h) rfl hdg kk
theorem gf_X8_128 (C : cb_C p s m args meth c cc nL ret RX8 D T) (hs : cb_H sh A T D σ s.heap H locs) (hk : sh[k]? = some 8) (hdg : decode cc pc = .ok (.getfield 128, 3)) (kk : W p l e R s m args below meth c H locs 0 0 Q (F0 m (pc + 3) ls (.int (σ.1 k 18) :: rest))) : W p l e R s m args below meth c H locs 0 0 Q (F0 m pc ls (.ref (A k) :: rest)) := by
  obtain ⟨hx, hb, hml, hr, hown, hts, hK, hlk, hN⟩ := C
  exact va_get (D := D) (ci := 8) (C := RX8) (T := TX8) (N := 40) hx hb hts fw_X8 hown hK hs.1 k (cb_at hk) rfl 18 (by decide) (hts _ kf_X8_128) (fun _ h => h) rfl hdg kk
theorem pf_X8_128 {v : Int32} (C : cb_C p s m args meth c cc nL ret RX8 D T) (hs : cb_H sh A T D σ s.heap H locs) (hk : sh[k]? = some 8) (hdg : decode cc pc = .ok (.putfield 128, 3)) (kk : ∀ (H1 : Heap) (locs1 : List Loc), cb_H sh A T D (cb_sI σ k 18 v) s.heap H1 locs1 → W p l e R s m args below meth c H1 locs1 0 0 Q (F0 m (pc + 3) ls rest)) : W p l e R s m args below meth c H locs 0 0 Q (F0 m pc ls (.int v :: .ref (A k) :: rest)) := by
  obtain ⟨hx, hb, hml, hr, hown, hts, hK, hlk, hN⟩ := C
  refine va_put (D := D) (ci := 8) (v := .int v) (ty := .int) (C := RX8) (T := TX8) (N := 40) hx hb hts fw_X8 tyX8 tyX8_ok nmX8 hown hK hs.1 hs.2.1 hs.2.2 k (cb_at hk) rfl 18 (by decide) (hts _ kf_X8_128) (fun _ h => h) rfl (by decide +kernel) rfl rfl (Nat.le_of_ble_eq_true rfl) hdg (fun H1 locs1 h1 h2 h3 => kk H1 locs1 ⟨?_, cb_D hs.2.1, h3⟩)
  rw [cb_sI, ← cb_setA hk]
  exact h1
theorem gf_X8_29 (C : cb_C p s m args meth c cc nL ret RX8 D T) (hs : cb_H sh A T D σ s.heap H locs) (hk : sh[k]? = some 8) (hdg : decode cc pc = .ok (.getfield 29, 3)) (kk : W p l e R s m args below meth c H locs 0 0 Q (F0 m (pc + 3) ls (.ref (A (k + 6)) :: rest))) : W p l e R s m args below meth c H locs 0 0 Q (F0 m pc ls (.ref (A k) :: rest)) := by
  obtain ⟨hx, hb, hml, hr, hown, hts, hK, hlk, hN⟩ := C
  exact va_get (D := D) (ci := 8) (C := RX8) (T := TX8) (N := 40) hx hb hts fw_X8 hown hK hs.1 k (cb_at hk) rfl 19 (by decide) (hts _ kf_X8_29) (fun _ h => h) rfl hdg kk
theorem gf_X8_32 (C : cb_C p s m args meth c cc nL ret RX8 D T) (hs : cb_H sh A T D σ s.heap H locs) (hk : sh[k]? = some 8) (hdg : decode cc pc = .ok (.getfield 32, 3)) (kk : W p l e R s m args below meth c H locs 0 0 Q (F0 m (pc + 3) ls (.ref (A (k + 7)) :: rest))) : W p l e R s m args below meth c H locs 0 0 Q (F0 m pc ls (.ref (A k) :: rest)) := by
  obtain ⟨hx, hb, hml, hr, hown, hts, hK, hlk, hN⟩ := C
  exact va_get (D := D) (ci := 8) (C := RX8) (T := TX8) (N := 40) hx hb hts fw_X8 hown hK hs.1 k (cb_at hk) rfl 20 (by decide) (hts _ kf_X8_32) (fun _ h => h) rfl hdg kk
theorem gf_X8_131 (C : cb_C p s m args meth c cc nL ret RX8 D T) (hs : cb_H sh A T D σ s.heap H locs) (hk : sh[k]? = some 8) (hdg : decode cc pc = .ok (.getfield 131, 3)) (kk : W p l e R s m args below meth c H locs 0 0 Q (F0 m (pc + 3) ls (.int (σ.1 k 21) :: rest))) : W p l e R s m args below meth c H locs 0 0 Q (F0 m pc ls (.ref (A k) :: rest)) := by
  obtain ⟨hx, hb, hml, hr, hown, hts, hK, hlk, hN⟩ := C
  exact va_get (D := D) (ci := 8) (C := RX8) (T := TX8) (N := 40) hx hb hts fw_X8 hown hK hs.1 k (cb_at hk) rfl 21 (by decide) (hts _ kf_X8_131) (fun _ h => h) rfl hdg kk
theorem pf_X8_131 {v : Int32} (C : cb_C p s m args meth c cc nL ret RX8 D T) (hs : cb_H sh A T D σ s.heap H locs) (hk : sh[k]? = some 8) (hdg : decode cc pc = .ok (.putfield 131, 3)) (kk : ∀ (H1 : Heap) (locs1 : List Loc), cb_H sh A T D (cb_sI σ k 21 v) s.heap H1 locs1 → W p l e R s m args below meth c H1 locs1 0 0 Q (F0 m (pc + 3) ls rest)) : W p l e R s m args below meth c H locs 0 0 Q (F0 m pc ls (.int v :: .ref (A k) :: rest)) := by
  obtain ⟨hx, hb, hml, hr, hown, hts, hK, hlk, hN⟩ := C
  refine va_put (D := D) (ci := 8) (v := .int v) (ty := .int) (C := RX8) (T := TX8) (N := 40) hx hb hts fw_X8 tyX8 tyX8_ok nmX8 hown hK hs.1 hs.2.1 hs.2.2 k (cb_at hk) rfl 21 (by decide) (hts _ kf_X8_131) (fun _ h => h) rfl (by decide +kernel) rfl rfl (Nat.le_of_ble_eq_true rfl) hdg (fun H1 locs1 h1 h2 h3 => kk H1 locs1 ⟨?_, cb_D hs.2.1, h3⟩)
  rw [cb_sI, ← cb_setA hk]
  exact h1
theorem gf_X8_167 (C : cb_C p s m args meth c cc nL ret RX8 D T) (hs : cb_H sh A T D σ s.heap H locs) (hk : sh[k]? = some 8) (hdg : decode cc pc = .ok (.getfield 167, 3)) (kk : W p l e R s m args below meth c H locs 0 0 Q (F0 m (pc + 3) ls (.int (σ.1 k 22) :: rest))) : W p l e R s m args below meth c H locs 0 0 Q (F0 m pc ls (.ref (A k) :: rest)) := by
  obtain ⟨hx, hb, hml, hr, hown, hts, hK, hlk, hN⟩ := C
  exact va_get (D := D) (ci := 8) (C := RX8) (T := TX8) (N := 40) hx hb hts fw_X8 hown hK hs.1 k (cb_at hk) rfl 22 (by decide) (hts _ kf_X8_167) (fun _ h => h) rfl hdg kk
theorem pf_X8_167 {v : Int32} (C : cb_C p s m args meth c cc nL ret RX8 D T) (hs : cb_H sh A T D σ s.heap H locs) (hk : sh[k]? = some 8) (hdg : decode cc pc = .ok (.putfield 167, 3)) (kk : ∀ (H1 : Heap) (locs1 : List Loc), cb_H sh A T D (cb_sI σ k 22 v) s.heap H1 locs1 → W p l e R s m args below meth c H1 locs1 0 0 Q (F0 m (pc + 3) ls rest)) : W p l e R s m args below meth c H locs 0 0 Q (F0 m pc ls (.int v :: .ref (A k) :: rest)) := by
  obtain ⟨hx, hb, hml, hr, hown, hts, hK, hlk, hN⟩ := C
  refine va_put (D := D) (ci := 8) (v := .int v) (ty := .int) (C := RX8) (T := TX8) (N := 40) hx hb hts fw_X8 tyX8 tyX8_ok nmX8 hown hK hs.1 hs.2.1 hs.2.2 k (cb_at hk) rfl 22 (by decide) (hts _ kf_X8_167) (fun _ h => h) rfl (by decide +kernel) rfl rfl (Nat.le_of_ble_eq_true rfl) hdg (fun H1 locs1 h1 h2 h3 => kk H1 locs1 ⟨?_, cb_D hs.2.1, h3⟩)
  rw [cb_sI, ← cb_setA hk]
  exact h1
theorem gf_X8_35 (C : cb_C p s m args meth c cc nL ret RX8 D T) (hs : cb_H sh A T D σ s.heap H locs) (hk : sh[k]? = some 8) (hdg : decode cc pc = .ok (.getfield 35, 3)) (kk : W p l e R s m args below meth c H locs 0 0 Q (F0 m (pc + 3) ls (.ref (A (k + 8)) :: rest))) : W p l e R s m args below meth c H locs 0 0 Q (F0 m pc ls (.ref (A k) :: rest)) := by
  obtain ⟨hx, hb, hml, hr, hown, hts, hK, hlk, hN⟩ := C
  exact va_get (D := D) (ci := 8) (C := RX8) (T := TX8) (N := 40) hx hb hts fw_X8 hown hK hs.1 k (cb_at hk) rfl 23 (by decide) (hts _ kf_X8_35) (fun _ h => h) rfl hdg kk
theorem gf_X8_38 (C : cb_C p s m args meth c cc nL ret RX8 D T) (hs : cb_H sh A T D σ s.heap H locs) (hk : sh[k]? = some 8) (hdg : decode cc pc = .ok (.getfield 38, 3)) (kk : W p l e R s m args below meth c H locs 0 0 Q (F0 m (pc + 3) ls (.ref (A (k + 9)) :: rest))) : W p l e R s m args below meth c H locs 0 0 Q (F0 m pc ls (.ref (A k) :: rest)) := by
  obtain ⟨hx, hb, hml, hr, hown, hts, hK, hlk, hN⟩ := C
  exact va_get (D := D) (ci := 8) (C := RX8) (T := TX8) (N := 40) hx hb hts fw_X8 hown hK hs.1 k (cb_at hk) rfl 24 (by decide) (hts _ kf_X8_38) (fun _ h => h) rfl hdg kk
theorem gf_X8_41 (C : cb_C p s m args meth c cc nL ret RX8 D T) (hs : cb_H sh A T D σ s.heap H locs) (hk : sh[k]? = some 8) (hdg : decode cc pc = .ok (.getfield 41, 3)) (kk : W p l e R s m args below meth c H locs 0 0 Q (F0 m (pc + 3) ls (.ref (A (k + 10)) :: rest))) : W p l e R s m args below meth c H locs 0 0 Q (F0 m pc ls (.ref (A k) :: rest)) := by
  obtain ⟨hx, hb, hml, hr, hown, hts, hK, hlk, hN⟩ := C
  exact va_get (D := D) (ci := 8) (C := RX8) (T := TX8) (N := 40) hx hb hts fw_X8 hown hK hs.1 k (cb_at hk) rfl 25 (by decide) (hts _ kf_X8_41) (fun _ h => h) rfl hdg kk
theorem gf_X8_44 (C : cb_C p s m args meth c cc nL ret RX8 D T) (hs : cb_H sh A T D σ s.heap H locs) (hk : sh[k]? = some 8) (hdg : decode cc pc = .ok (.getfield 44, 3)) (kk : W p l e R s m args below meth c H locs 0 0 Q (F0 m (pc + 3) ls (.ref (A (k + 11)) :: rest))) : W p l e R s m args below meth c H locs 0 0 Q (F0 m pc ls (.ref (A k) :: rest)) := by
  obtain ⟨hx, hb, hml, hr, hown, hts, hK, hlk, hN⟩ := C
  exact va_get (D := D) (ci := 8) (C := RX8) (T := TX8) (N := 40) hx hb hts fw_X8 hown hK hs.1 k (cb_at hk) rfl 26 (by decide) (hts _ kf_X8_44) (fun _ h => h) rfl hdg kk
theorem gf_X8_47 (C : cb_C p s m args meth c cc nL ret RX8 D T) (hs : cb_H sh A T D σ s.heap H locs) (hk : sh[k]? = some 8) (hdg : decode cc pc = .ok (.getfield 47, 3)) (kk : W p l e R s m args below meth c H locs 0 0 Q (F0 m (pc + 3) ls (.ref (A (k + 12)) :: rest))) : W p l e R s m args below meth c H locs 0 0 Q (F0 m pc ls (.ref (A k) :: rest)) := by
  obtain ⟨hx, hb, hml, hr, hown, hts, hK, hlk, hN⟩ := C
  exact va_get (D := D) (ci := 8) (C := RX8) (T := TX8) (N := 40) hx hb hts fw_X8 hown hK hs.1 k (cb_at hk) rfl 27 (by decide) (hts _ kf_X8_47) (fun _ h => h) rfl hdg kk
theorem gf_X8_161 (C : cb_C p s m args meth c cc nL ret RX8 D T) (hs : cb_H sh A T D σ s.heap H locs) (hk : sh[k]? = some 8) (hdg : decode cc pc = .ok (.getfield 161, 3)) (kk : W p l e R s m args below meth c H locs 0 0 Q (F0 m (pc + 3) ls (.int (σ.1 k 28) :: rest))) : W p l e R s m args below meth c H locs 0 0 Q (F0 m pc ls (.ref (A k) :: rest)) := by
  obtain ⟨hx, hb, hml, hr, hown, hts, hK, hlk, hN⟩ := C
  exact va_get (D := D) (ci := 8) (C := RX8) (T := TX8) (N := 40) hx hb hts fw_X8 hown hK hs.1 k (cb_at hk) rfl 28 (by decide) (hts _ kf_X8_161) (fun _ h => h) rfl hdg kk
theorem pf_X8_161 {v : Int32} (C : cb_C p s m args meth c cc nL ret RX8 D T) (hs : cb_H sh A T D σ s.heap H locs) (hk : sh[k]? = some 8) (hdg : decode cc pc = .ok (.putfield 161, 3)) (kk : ∀ (H1 : Heap) (locs1 : List Loc), cb_H sh A T D (cb_sI σ k 28 v) s.heap H1 locs1 → W p l e R s m args below meth c H1 locs1 0 0 Q (F0 m (pc + 3) ls rest)) : W p l e R s m args below meth c H locs 0 0 Q (F0 m pc ls (.int v :: .ref (A k) :: rest)) := by
  obtain ⟨hx, hb, hml, hr, hown, hts, hK, hlk, hN⟩ := C
  refine va_put (D := D) (ci := 8) (v := .int v) (ty := .int) (C := RX8) (T := TX8) (N := 40) hx hb hts fw_X8 tyX8 tyX8_ok nmX8 hown hK hs.1 hs.2.1 hs.2.2 k (cb_at hk) rfl 28 (by decide) (hts _ kf_X8_161) (fun _ h => h) rfl (by decide +kernel) rfl rfl (Nat.le_of_ble_eq_true rfl) hdg (fun H1 locs1 h1 h2 h3 => kk H1 locs1 ⟨?_, cb_D hs.2.1, h3⟩)
  rw [cb_sI, ← cb_setA hk]
  exact h1
theorem gf_X8_50 (C : cb_C p s m args meth c cc nL ret RX8 D T) (hs : cb_H sh A T D σ s.heap H locs) (hk : sh[k]? = some 8) (hdg : decode cc pc = .ok (.getfield 50, 3)) (kk : W p l e R s m args below meth c H locs 0 0 Q (F0 m (pc + 3) ls (.ref (A (k + 13)) :: rest))) : W p l e R s m args below meth c H locs 0 0 Q (F0 m pc ls (.ref (A k) :: rest)) := by
  obtain ⟨hx, hb, hml, hr, hown, hts, hK, hlk, hN⟩ := C
  exact va_get (D := D) (ci := 8) (C := RX8) (T := TX8) (N := 40) hx hb hts fw_X8 hown hK hs.1 k (cb_at hk) rfl 29 (by decide) (hts _ kf_X8_50) (fun _ h => h) rfl hdg kk
theorem gf_X8_53 (C : cb_C p s m args meth c cc nL ret RX8 D T) (hs : cb_H sh A T D σ s.heap H locs) (hk : sh[k]? = some 8) (hdg : decode cc pc = .ok (.getfield 53, 3)) (kk : W p l e R s m args below meth c H locs 0 0 Q (F0 m (pc + 3) ls (.ref (A (k + 14)) :: rest))) : W p l e R s m args below meth c H locs 0 0 Q (F0 m pc ls (.ref (A k) :: rest)) := by
  obtain ⟨hx, hb, hml, hr, hown, hts, hK, hlk, hN⟩ := C
  exact va_get (D := D) (ci := 8) (C := RX8) (T := TX8) (N := 40) hx hb hts fw_X8 hown hK hs.1 k (cb_at hk) rfl 30 (by decide) (hts _ kf_X8_53) (fun _ h => h) rfl hdg kk
theorem gf_X8_56 (C : cb_C p s m args meth c cc nL ret RX8 D T) (hs : cb_H sh A T D σ s.heap H locs) (hk : sh[k]? = some 8) (hdg : decode cc pc = .ok (.getfield 56, 3)) (kk : W p l e R s m args below meth c H locs 0 0 Q (F0 m (pc + 3) ls (.ref (A (k + 15)) :: rest))) : W p l e R s m args below meth c H locs 0 0 Q (F0 m pc ls (.ref (A k) :: rest)) := by
  obtain ⟨hx, hb, hml, hr, hown, hts, hK, hlk, hN⟩ := C
  exact va_get (D := D) (ci := 8) (C := RX8) (T := TX8) (N := 40) hx hb hts fw_X8 hown hK hs.1 k (cb_at hk) rfl 31 (by decide) (hts _ kf_X8_56) (fun _ h => h) rfl hdg kk
theorem gf_X8_59 (C : cb_C p s m args meth c cc nL ret RX8 D T) (hs : cb_H sh A T D σ s.heap H locs) (hk : sh[k]? = some 8) (hdg : decode cc pc = .ok (.getfield 59, 3)) (kk : W p l e R s m args below meth c H locs 0 0 Q (F0 m (pc + 3) ls (.ref (A (k + 16)) :: rest))) : W p l e R s m args below meth c H locs 0 0 Q (F0 m pc ls (.ref (A k) :: rest)) := by
  obtain ⟨hx, hb, hml, hr, hown, hts, hK, hlk, hN⟩ := C
  exact va_get (D := D) (ci := 8) (C := RX8) (T := TX8) (N := 40) hx hb hts fw_X8 hown hK hs.1 k (cb_at hk) rfl 32 (by decide) (hts _ kf_X8_59) (fun _ h => h) rfl hdg kk
theorem gf_X8_306 (C : cb_C p s m args meth c cc nL ret RX8 D T) (hs : cb_H sh A T D σ s.heap H locs) (hk : sh[k]? = some 8) (hdg : decode cc pc = .ok (.getfield 306, 3)) (kk : W p l e R s m args below meth c H locs 0 0 Q (F0 m (pc + 3) ls (.int (σ.1 k 33) :: rest))) : W p l e R s m args below meth c H locs 0 0 Q (F0 m pc ls (.ref (A k) :: rest)) := by
  obtain ⟨hx, hb, hml, hr, hown, hts, hK, hlk, hN⟩ := C
  exact va_get (D := D) (ci := 8) (C := RX8) (T := TX8) (N := 40) hx hb hts fw_X8 hown hK hs.1 k (cb_at hk) rfl 33 (by decide) (hts _ kf_X8_306) (fun _ h => h) rfl hdg kk
theorem pf_X8_306 {v : Int32} (C : cb_C p s m args meth c cc nL ret RX8 D T) (hs : cb_H sh A T D σ s.heap H locs) (hk : sh[k]? = some 8) (hdg : decode cc pc = .ok (.putfield 306, 3)) (kk : ∀ (H1 : Heap) (locs1 : List Loc), cb_H sh A T D (cb_sI σ k 33 v) s.heap H1 locs1 → W p l e R s m args below meth c H1 locs1 0 0 Q (F0 m (pc + 3) ls rest)) : W p l e R s m args below meth c H locs 0 0 Q (F0 m pc ls (.int v :: .ref (A k) :: rest)) := by
  obtain ⟨hx, hb, hml, hr, hown, hts, hK, hlk, hN⟩ := C
  refine va_put (D := D) (ci := 8) (v := .int v) (ty := .int) (C := RX8) (T := TX8) (N := 40) hx hb hts fw_X8 tyX8 tyX8_ok nmX8 hown hK hs.1 hs.2.1 hs.2.2 k (cb_at hk) rfl 33 (by decide) (hts _ kf_X8_306) (fun _ h => h) rfl (by decide +kernel) rfl rfl (Nat.le_of_ble_eq_true rfl) hdg (fun H1 locs1 h1 h2 h3 => kk H1 locs1 ⟨?_, cb_D hs.2.1, h3⟩)
  rw [cb_sI, ← cb_setA hk]
  exact h1
theorem gf_X8_303 (C : cb_C p s m args meth c cc nL ret RX8 D T) (hs : cb_H sh A T D σ s.heap H locs) (hk : sh[k]? = some 8) (hdg : decode cc pc = .ok (.getfield 303, 3)) (kk : W p l e R s m args below meth c H locs 0 0 Q (F0 m (pc + 3) ls (.int (σ.1 k 34) :: rest))) : W p l e R s m args below meth c H locs 0 0 Q (F0 m pc ls (.ref (A k) :: rest)) := by
  obtain ⟨hx, hb, hml, hr, hown, hts, hK, hlk, hN⟩ := C
  exact va_get (D := D) (ci := 8) (C := RX8) (T := TX8) (N := 40) hx hb hts fw_X8 hown hK hs.1 k (cb_at hk) rfl 34 (by decide) (hts _ kf_X8_303) (fun _ h => h) rfl hdg kk
theorem pf_X8_303 {v : Int32} (C : cb_C p s m args meth c cc nL ret RX8 D T) (hs : cb_H sh A T D σ s.heap H locs) (hk : sh[k]? = some 8) (hdg : decode cc pc = .ok (.putfield 303, 3)) (kk : ∀ (H1 : Heap) (locs1 : List Loc), cb_H sh A T D (cb_sI σ k 34 v) s.heap H1 locs1 → W p l e R s m args below meth c H1 locs1 0 0 Q (F0 m (pc + 3) ls rest)) : W p l e R s m args below meth c H locs 0 0 Q (F0 m pc ls (.int v :: .ref (A k) :: rest)) := by
  obtain ⟨hx, hb, hml, hr, hown, hts, hK, hlk, hN⟩ := C
  refine va_put (D := D) (ci := 8) (v := .int v) (ty := .int) (C := RX8) (T := TX8) (N := 40) hx hb hts fw_X8 tyX8 tyX8_ok nmX8 hown hK hs.1 hs.2.1 hs.2.2 k (cb_at hk) rfl 34 (by decide) (hts _ kf_X8_303) (fun _ h => h) rfl (by decide +kernel) rfl rfl (Nat.le_of_ble_eq_true rfl) hdg (fun H1 locs1 h1 h2 h3 => kk H1 locs1 ⟨?_, cb_D hs.2.1, h3⟩)
  rw [cb_sI, ← cb_setA hk]
  exact h1
theorem gf_X8_164 (C : cb_C p s m args meth c cc nL ret RX8 D T) (hs : cb_H sh A T D σ s.heap H locs) (hk : sh[k]? = some 8) (hdg : decode cc pc = .ok (.getfield 164, 3)) (kk : W p l e R s m args below meth c H locs 0 0 Q (F0 m (pc + 3) ls (.int (σ.1 k 35) :: rest))) : W p l e R s m args below meth c H locs 0 0 Q (F0 m pc ls (.ref (A k) :: rest)) := by
  obtain ⟨hx, hb, hml, hr, hown, hts, hK, hlk, hN⟩ := C
  exact va_get (D := D) (ci := 8) (C := RX8) (T := TX8) (N := 40) hx hb hts fw_X8 hown hK hs.1 k (cb_at hk) rfl 35 (by decide) (hts _ kf_X8_164) (fun _ h => h) rfl hdg kk
theorem pf_X8_164 {v : Int32} (C : cb_C p s m args meth c cc nL ret RX8 D T) (hs : cb_H sh A T D σ s.heap H locs) (hk : sh[k]? = some 8) (hdg : decode cc pc = .ok (.putfield 164, 3)) (kk : ∀ (H1 : Heap) (locs1 : List Loc), cb_H sh A T D (cb_sI σ k 35 v) s.heap H1 locs1 → W p l e R s m args below meth c H1 locs1 0 0 Q (F0 m (pc + 3) ls rest)) : W p l e R s m args below meth c H locs 0 0 Q (F0 m pc ls (.int v :: .ref (A k) :: rest)) := by
  obtain ⟨hx, hb, hml, hr, hown, hts, hK, hlk, hN⟩ := C
  refine va_put (D := D) (ci := 8) (v := .int v) (ty := .int) (C := RX8) (T := TX8) (N := 40) hx hb hts fw_X8 tyX8 tyX8_ok nmX8 hown hK hs.1 hs.2.1 hs.2.2 k (cb_at hk) rfl 35 (by decide) (hts _ kf_X8_164) (fun _ h => h) rfl (by decide +kernel) rfl rfl (Nat.le_of_ble_eq_true rfl) hdg (fun H1 locs1 h1 h2 h3 => kk H1 locs1 ⟨?_, cb_D hs.2.1, h3⟩)
  rw [cb_sI, ← cb_setA hk]
  exact h1
theorem gf_X8_62 (C : cb_C p s m args meth c cc nL ret RX8 D T) (hs : cb_H sh A T D σ s.heap H locs) (hk : sh[k]? = some 8) (hdg : decode cc pc = .ok (.getfield 62, 3)) (kk : W p l e R s m args below meth c H locs 0 0 Q (F0 m (pc + 3) ls (.ref (A (k + 17)) :: rest))) : W p l e R s m args below meth c H locs 0 0 Q (F0 m pc ls (.ref (A k) :: rest)) := by
  obtain ⟨hx, hb, hml, hr, hown, hts, hK, hlk, hN⟩ := C
  exact va_get (D := D) (ci := 8) (C := RX8) (T := TX8) (N := 40) hx hb hts fw_X8 hown hK hs.1 k (cb_at hk) rfl 36 (by decide) (hts _ kf_X8_62) (fun _ h => h) rfl hdg kk
theorem gf_X8_65 (C : cb_C p s m args meth c cc nL ret RX8 D T) (hs : cb_H sh A T D σ s.heap H locs) (hk : sh[k]? = some 8) (hdg : decode cc pc = .ok (.getfield 65, 3)) (kk : W p l e R s m args below meth c H locs 0 0 Q (F0 m (pc + 3) ls (.ref (A (k + 18)) :: rest))) : W p l e R s m args below meth c H locs 0 0 Q (F0 m pc ls (.ref (A k) :: rest)) := by
  obtain ⟨hx, hb, hml, hr, hown, hts, hK, hlk, hN⟩ := C
  exact va_get (D := D) (ci := 8) (C := RX8) (T := TX8) (N := 40) hx hb hts fw_X8 hown hK hs.1 k (cb_at hk) rfl 37 (by decide) (hts _ kf_X8_65) (fun _ h => h) rfl hdg kk
theorem gf_X8_68 (C : cb_C p s m args meth c cc nL ret RX8 D T) (hs : cb_H sh A T D σ s.heap H locs) (hk : sh[k]? = some 8) (hdg : decode cc pc = .ok (.getfield 68, 3)) (kk : W p l e R s m args below meth c H locs 0 0 Q (F0 m (pc + 3) ls (.ref (A (k + 19)) :: rest))) : W p l e R s m args below meth c H locs 0 0 Q (F0 m pc ls (.ref (A k) :: rest)) := by
  obtain ⟨hx, hb, hml, hr, hown, hts, hK, hlk, hN⟩ := C
  exact va_get (D := D) (ci := 8) (C := RX8) (T := TX8) (N := 40) hx hb hts fw_X8 hown hK hs.1 k (cb_at hk) rfl 38 (by decide) (hts _ kf_X8_68) (fun _ h => h) rfl hdg kk
theorem gf_X8_71 (C : cb_C p s m args meth c cc nL ret RX8 D T) (hs : cb_H sh A T D σ s.heap H locs) (hk : sh[k]? = some 8) (hdg : decode cc pc = .ok (.getfield 71, 3)) (kk : W p l e R s m args below meth c H locs 0 0 Q (F0 m (pc + 3) ls (.ref (A (k + 20)) :: rest))) : W p l e R s m args below meth c H locs 0 0 Q (F0 m pc ls (.ref (A k) :: rest)) := by
  obtain ⟨hx, hb, hml, hr, hown, hts, hK, hlk, hN⟩ := C
  exact va_get (D := D) (ci := 8) (C := RX8) (T := TX8) (N := 40) hx hb hts fw_X8 hown hK hs.1 k (cb_at hk) rfl 39 (by decide) (hts _ kf_X8_71) (fun _ h => h) rfl hdg kk
end CBF
