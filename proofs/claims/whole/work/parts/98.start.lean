/-! The law from its entry: out of law_ok. -/
theorem ar_p {s : State} {args : Array Value} {ty : FieldType} (h : (Cond.arrayClass ty).before args s = true) (hRA : ∀ (U : State) (cA : ClassId), va_RA U cA ty = (U.vm.findClass ("[" ++ ty.toString) = some cA)) : ∃ cA : ClassId, ArrOfT s cA ty ∧ va_RA s cA ty := by
  obtain ⟨cA, kA, comp, h1, h2, h3⟩ := Cond.arrayClass_spec h
  exact ⟨cA, fun n z => ⟨fun k h => (by cases h), kA, h2, comp, h3⟩, by rw [hRA]; exact h1⟩
theorem ar_q {s : State} {C : String} (h : va_AO C s) : ∃ cA : ClassId, ArrOfT s cA (.object C) ∧ va_RA s cA (.object C) := by
  obtain ⟨comp, cA, kA, h1, h2, h3, h4, h5⟩ := Cond.arrayOver_spec h
  exact ⟨cA, fun n z => ⟨fun k h => (by cases h), kA, h3, comp, h4⟩, kA, comp, h3, h4, h1, h5⟩
set_option maxHeartbeats 4000000 in
set_option maxRecDepth 100000 in
theorem whole_start {p : Program} {e : Env} {s : State} {m : MethodId} {below : List Frame} {meth : Method} {c : Code} (l : Launch) {b L : Nat} {xs : Nat → Int32} (hL : L ≤ 2048) (C0 : lw_At p s m meth c b L xs) : W p l e room_1 s m #[Value.ref b] below meth c s.heap [] 0 0 (lw_Z below #[Value.ref b] s) (entryFrame m ([Value.ref b] : List Value).toArray 4) := by
  obtain ⟨hx, hb, hr, hml, hown, hts, hX, hbl, hlocks, hgv⟩ := id C0
  have htsG : ∀ w ∈ G, w.before #[Value.ref b] s = true := fun w hw => hts w (List.mem_filter.mp hw).1
  obtain ⟨c0, iS0, hKn0⟩ := u_known (C := RX0) (T := TX0) (N := 6) (n := 6) htsG inX0 (htsG (.instantiable RX0 6) (gm 67 (by decide +kernel) rfl))
  obtain ⟨c1, iS1, hKn1⟩ := u_known (C := RX1) (T := TX1) (N := 5) (n := 5) htsG inX1 (htsG (.instantiable RX1 5) (gm 142 (by decide +kernel) rfl))
  obtain ⟨c2, iS2, hKn2⟩ := u_known (C := RX2) (T := TX2) (N := 2) (n := 2) htsG inX2 (htsG (.instantiable RX2 2) (gm 235 (by decide +kernel) rfl))
  obtain ⟨c3, iS3, hKn3⟩ := u_known (C := RX3) (T := TX3) (N := 2) (n := 2) htsG inX3 (htsG (.instantiable RX3 2) (gm 106 (by decide +kernel) rfl))
  obtain ⟨c4, iS4, hKn4⟩ := u_known (C := RX4) (T := TX4) (N := 2) (n := 2) htsG inX4 (htsG (.instantiable RX4 2) (gm 29 (by decide +kernel) rfl))
  obtain ⟨c5, iS5, hKn5⟩ := u_known (C := RX5) (T := TX5) (N := 13) (n := 13) htsG inX5 (htsG (.instantiable RX5 13) (gm 61 (by decide +kernel) rfl))
  obtain ⟨c6, iS6, hKn6⟩ := u_known (C := RX6) (T := TX6) (N := 5) (n := 5) htsG inX6 (htsG (.instantiable RX6 5) (gm 99 (by decide +kernel) rfl))
  obtain ⟨c7, iS7, hKn7⟩ := u_known (C := RX7) (T := TX7) (N := 4) (n := 4) htsG inX7 (htsG (.instantiable RX7 4) (gm 23 (by decide +kernel) rfl))
  obtain ⟨c8, iS8, hKn8⟩ := u_known (C := RX8) (T := TX8) (N := 4) (n := 4) htsG inX8 (htsG (.instantiable RX8 4) (gm 14 (by decide +kernel) rfl))
  obtain ⟨c9, iS9, hKn9⟩ := u_known (C := RX9) (T := TX9) (N := 37) (n := 37) htsG inX9 (htsG (.instantiable RX9 37) (gm 550 (by decide +kernel) rfl))
  obtain ⟨dC, dI, hKc⟩ : ∃ (dC : Nat → ClassId) (dI : Nat → Nat → Nat), ∀ (k : Nat) (q : vw_C), vwCl[k]? = some q → u_Kn s q.1 q.2.1 q.2.2 (dC k) (dI k) := by
    refine ⟨fun k => if k = 0 then c0 else if k = 1 then c1 else if k = 2 then c2 else if k = 3 then c3 else if k = 4 then c4 else if k = 5 then c5 else if k = 6 then c6 else if k = 7 then c7 else if k = 8 then c8 else c9, fun k => if k = 0 then iS0 else if k = 1 then iS1 else if k = 2 then iS2 else if k = 3 then iS3 else if k = 4 then iS4 else if k = 5 then iS5 else if k = 6 then iS6 else if k = 7 then iS7 else if k = 8 then iS8 else iS9, ?_⟩
    intro k q hq
    match k, hq with
    | 0, hq => cases hq; exact hKn0
    | 1, hq => cases hq; exact hKn1
    | 2, hq => cases hq; exact hKn2
    | 3, hq => cases hq; exact hKn3
    | 4, hq => cases hq; exact hKn4
    | 5, hq => cases hq; exact hKn5
    | 6, hq => cases hq; exact hKn6
    | 7, hq => cases hq; exact hKn7
    | 8, hq => cases hq; exact hKn8
    | 9, hq => cases hq; exact hKn9
    | k + 10, hq => simp [vwCl] at hq
  obtain ⟨a0, hA0⟩ := ar_p (ty := .int) (htsG _ (gm 43 (by decide +kernel) rfl)) (fun _ _ => rfl)
  obtain ⟨a1, hA1⟩ := ar_p (ty := .boolean) (htsG _ (gm 668 (by decide +kernel) rfl)) (fun _ _ => rfl)
  have hO2 : va_AO "SpoolLink$Wire" s := va_AO.of (hts (.arrayOver (.object "SpoolLink$Wire")) (List.mem_append_right _ (List.mem_of_getElem? (i := 22) (by decide +kernel))))
  obtain ⟨a2, hA2⟩ := ar_q hO2
  have hO3 : va_AO "SpoolLink$Packet" s := va_AO.of (hts (.arrayOver (.object "SpoolLink$Packet")) (List.mem_append_right _ (List.mem_of_getElem? (i := 44) (by decide +kernel))))
  obtain ⟨a3, hA3⟩ := ar_q hO3
  have hO4 : va_AO "SpoolLink$Site" s := va_AO.of (hts (.arrayOver (.object "SpoolLink$Site")) (List.mem_append_right _ (List.mem_of_getElem? (i := 60) (by decide +kernel))))
  obtain ⟨a4, hA4⟩ := ar_q hO4
  have hO5 : va_AO "SpoolLink$Job" s := va_AO.of (hts (.arrayOver (.object "SpoolLink$Job")) (List.mem_append_right _ (List.mem_of_getElem? (i := 73) (by decide +kernel))))
  obtain ⟨a5, hA5⟩ := ar_q hO5
  have hO6 : va_AO "SpoolLink$Message" s := va_AO.of (hts (.arrayOver (.object "SpoolLink$Message")) (List.mem_append_right _ (List.mem_of_getElem? (i := 105) (by decide +kernel))))
  obtain ⟨a6, hA6⟩ := ar_q hO6
  obtain ⟨dA, h0, h1, h2, h3, h4, h5, h6⟩ : ∃ dA : Nat → ClassId, dA 0 = a0 ∧ dA 1 = a1 ∧ dA 2 = a2 ∧ dA 3 = a3 ∧ dA 4 = a4 ∧ dA 5 = a5 ∧ dA 6 = a6 := ⟨fun k => if k = 0 then a0 else if k = 1 then a1 else if k = 2 then a2 else if k = 3 then a3 else if k = 4 then a4 else if k = 5 then a5 else a6, rfl, rfl, rfl, rfl, rfl, rfl, rfl⟩
  have hK : va_K (dC, dI) vwCl (TY dA) s := by
    refine ⟨hKc, fun k q h => ?_⟩
    match k, h with
    | 0, h => cases h; rw [h0]; exact hA0
    | 1, h => cases h; rw [h1]; exact hA1
    | 2, h => cases h; rw [h2]; exact hA2
    | 3, h => cases h; rw [h3]; exact hA3
    | 4, h => cases h; rw [h4]; exact hA4
    | 5, h => cases h; rw [h5]; exact hA5
    | 6, h => cases h; rw [h6]; exact hA6
    | k + 7, h => simp [TY] at h
  have hN : NW s := ⟨va_Nw.of rfl (hts nw0 (List.mem_append_right _ (List.mem_of_getElem? (i := 68) (by decide +kernel)))), va_Nw.of rfl (hts nw1 (List.mem_append_right _ (List.mem_of_getElem? (i := 143) (by decide +kernel)))), va_Nw.of rfl (hts nw2 (List.mem_append_right _ (List.mem_of_getElem? (i := 107) (by decide +kernel)))), va_Nw.of rfl (hts nw3 (List.mem_append_right _ (List.mem_of_getElem? (i := 30) (by decide +kernel)))), va_Nw.of rfl (hts nw4 (List.mem_append_right _ (List.mem_of_getElem? (i := 149) (by decide +kernel))))⟩
  have hKK : KK (dC, dI) dA s := ⟨hK, fun C hC => by
    have hC : C = "SpoolLink$Wire" ∨ C = "SpoolLink$Packet" ∨ C = "SpoolLink$Site" ∨ C = "SpoolLink$Job" ∨ C = "SpoolLink$Message" := by simpa [aoL] using hC
    rcases hC with rfl | rfl | rfl | rfl | rfl
    · exact hO2
    · exact hO3
    · exact hO4
    · exact hO5
    · exact hO6, hN⟩
  have X : cx p s m #[Value.ref b] c cL_law RL 4 (dC, dI) dA := ⟨hx, hb, hown, hml, htsG, hKK⟩
  obtain ⟨z, hz, hc1, hc2⟩ := law_ok L xs hL s.heap.size
  have hh : hw (dC, dI) dA s.heap.size (hp0 s.heap.size) s.heap := ⟨rfl, Nat.le_refl _, fun a h => absurd rfl h, fun a => trivial⟩
  have hl := lk_entry [.inr (some b)] (n := 4) (Nat.le_of_ble_eq_true rfl)
  rw [lg_entry_eq]
  have hl : lk ((lg_sl ([Value.ref b] : List Value) ++ List.replicate (4 - (lg_sl ([Value.ref b] : List Value)).length) Slot.unset).toArray) 4 [(0, .inr (some b))] := hl
  generalize (lg_sl ([Value.ref b] : List Value) ++ List.replicate (4 - (lg_sl ([Value.ref b] : List Value)).length) Slot.unset).toArray = ls at hl ⊢
  refine W.cs (cells' := (hp0 s.heap.size).2.2.2.1 - s.heap.size) (slots' := (hp0 s.heap.size).2.2.2.2 - 0) (Nat.sub_self _).symm rfl ?_
  exact K_L_law_0 X hr hlocks (by decide) hX hbl ⟨hc1, hc2⟩ ⟨Nat.le_refl _, Nat.le_refl _⟩ hh va_S.rf hl hz
