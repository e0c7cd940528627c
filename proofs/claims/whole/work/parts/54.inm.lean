/-! The constructor of the reference; both at the start. -/
/-- an array more for the reference -/
def ms (σ : hp) (m : Nat) (q : Nat × Nat × Nat × Nat) : hp := sR (hp_new σ (.inr q.2.2) q.2.2.2) (up2 (hp_new σ (.inr q.2.2) q.2.2.2).2.2.1 m q.1 (some σ.2.2.2.1))
def mI (σ0 : hp) (m : Nat) (L : List (Nat × Nat × Nat × Nat)) (σ : hp) : Prop := ext σ0 σ (1 + L.length) (37 + (L.map (fun q => q.2.2.2)).sum) ∧ σ0.2.2.2.1 = m ∧ σ.1 m = some (.inl 9) ∧ (∀ q ∈ L, σ.2.2.1 m q.1 = some (m + q.2.1) ∧ σ.1 (m + q.2.1) = some (.inr q.2.2) ∧ q.2.1 ≤ L.length) ∧ ∀ a, m ≤ a → a < σ.2.2.2.1 → σ.2.1 a = fun _ => 0
theorem mI.go {σ0 σ : hp} {m : Nat} {L : List (Nat × Nat × Nat × Nat)} {q : Nat × Nat × Nat × Nat} (h : mI σ0 m L σ) (h1 : q.2.1 = L.length + 1) (h2 : ∀ p ∈ L, p.1 ≠ q.1) : mI σ0 m (L ++ [q]) (ms σ m q) := by
  obtain ⟨a1, a2, a3, a4, a5⟩ := h
  have hn : σ.2.2.2.1 = m + 1 + L.length := by rw [a1.1, a2]; omega
  have x := (a1.tr (ext.nw (x := .inr q.2.2) (n := q.2.2.2))).pR (a := m) (j := q.1) (x := some σ.2.2.2.1) (by omega)
  have e1 : (ms σ m q).1 = va_up σ.1 σ.2.2.2.1 (some (.inr q.2.2)) := rfl
  refine ⟨?_, a2, ?_, fun p hp => ?_, fun a h1 h2 => ?_⟩
  · rw [List.length_append, List.map_append, List.sum_append]
    simp only [List.length_singleton, List.map_cons, List.map_nil, List.sum_cons, List.sum_nil, Nat.add_zero]
    rw [show 1 + (L.length + 1) = 1 + L.length + 1 by omega, ← Nat.add_assoc 37]
    exact x
  · rw [e1, va_up_ne _ _ (by omega)]; exact a3
  · rw [List.length_append, List.length_singleton]
    have er : (ms σ m q).2.2.1 m p.1 = if p.1 = q.1 then some σ.2.2.2.1 else σ.2.2.1 m p.1 := by
      show up2 (va_up σ.2.2.1 σ.2.2.2.1 _) m q.1 _ m p.1 = _
      rw [up2_at, va_up_ne _ _ (by omega)]
    rcases List.mem_append.mp hp with hp | hp
    · obtain ⟨b1, b2, b3⟩ := a4 p hp
      refine ⟨by rw [er, if_neg (h2 p hp)]; exact b1, by rw [e1, va_up_ne _ _ (by omega)]; exact b2, by omega⟩
    · obtain rfl : p = q := List.mem_singleton.mp hp
      refine ⟨by rw [er, if_pos rfl, hn, h1]; congr 1; omega, ?_, by omega⟩
      rw [e1, show m + p.2.1 = σ.2.2.2.1 by omega]
      exact va_up_self _ _ _
  · have h2' : a < σ.2.2.2.1 + 1 := h2
    show va_up σ.2.1 σ.2.2.2.1 (fun _ => 0) a = _
    by_cases ha : a = σ.2.2.2.1
    · rw [ha]; exact va_up_self _ _ _
    · rw [va_up_ne _ _ ha]; exact a5 a h1 (by omega)
theorem mI.st {σ0 σ : hp} {m f t len d : Nat} {x : Int32} {L : List (Nat × Nat × Nat × Nat)} {K : hp → Option hp} (h : mI σ0 m L σ) (hx : x = nI len) (hl : len ≤ 100000) : ((o_na σ t x).bind fun q => (o_pR q.2 9 f (some m) q.1).bind K) = K (ms σ m (f, d, t, len)) := by
  obtain ⟨a1, a2, a3, a4, a5⟩ := h
  have hn : σ.2.2.2.1 = m + 1 + L.length := by rw [a1.1, a2]; omega
  rw [w_naN hx hl]
  have t1 : (hp_new σ (.inr (t, len)) len).1 m = some (.inl 9) := by
    show va_up σ.1 σ.2.2.2.1 _ m = _
    rw [va_up_ne _ _ (by omega)]; exact a3
  simp only [Option.bind_some, w_pR t1]
  rfl

theorem n_R (σ : hp) : ∃ σ', S_X9_init (hp_new σ (.inl 9) 37) σ.2.2.2.1 = some σ' ∧ mI σ σ.2.2.2.1 tblM σ' := by
  generalize hm : σ.2.2.2.1 = m
  have i0 : mI σ m [] (hp_new σ (.inl 9) 37) := ⟨ext.nw, hm, by rw [← hm]; exact nw_T, fun q hq => absurd hq List.not_mem_nil, fun a h1 h2 => by
    have h2' : a < σ.2.2.2.1 + 1 := h2
    obtain rfl : a = σ.2.2.2.1 := by omega
    exact nw_I⟩
  generalize hp_new σ (.inl 9) 37 = σ0 at i0 ⊢
  simp only [S_X9_init, S_X9_init_269, S_X9_init_261, S_X9_init_253, S_X9_init_246, S_X9_init_239, S_X9_init_230, S_X9_init_223, S_X9_init_216, S_X9_init_209, S_X9_init_202, S_X9_init_193, S_X9_init_186, S_X9_init_177, S_X9_init_169, S_X9_init_162, S_X9_init_155, S_X9_init_148, S_X9_init_141, S_X9_init_134, S_X9_init_127, S_X9_init_120, S_X9_init_112, S_X9_init_104, S_X9_init_95, S_X9_init_88, S_X9_init_80, S_X9_init_73, S_X9_init_65, S_X9_init_56, S_X9_init_47, S_X9_init_40, S_X9_init_32, S_X9_init_25, S_X9_init_16, S_X9_init_8]
  rw [i0.st (f := 0) (d := 1) (t := 0) (x := (2 : Int32)) (len := 2) rfl (by decide)]
  have i1 := i0.go (q := (0, 1, 0, 2)) (by decide) (by decide)
  generalize ms σ0 m (0, 1, 0, 2) = σ1 at i1 ⊢
  rw [i1.st (f := 1) (d := 2) (t := 0) (x := (60 : Int32)) (len := 60) rfl (by decide)]
  have i2 := i1.go (q := (1, 2, 0, 60)) (by decide) (by decide)
  generalize ms σ1 m (1, 2, 0, 60) = σ2 at i2 ⊢
  rw [i2.st (f := 2) (d := 3) (t := 0) (x := (6000 : Int32)) (len := 6000) rfl (by decide)]
  have i3 := i2.go (q := (2, 3, 0, 6000)) (by decide) (by decide)
  generalize ms σ2 m (2, 3, 0, 6000) = σ3 at i3 ⊢
  rw [i3.st (f := 3) (d := 4) (t := 0) (x := (2 : Int32)) (len := 2) rfl (by decide)]
  have i4 := i3.go (q := (3, 4, 0, 2)) (by decide) (by decide)
  generalize ms σ3 m (3, 4, 0, 2) = σ4 at i4 ⊢
  rw [i4.st (f := 4) (d := 5) (t := 0) (x := (60 : Int32)) (len := 60) rfl (by decide)]
  have i5 := i4.go (q := (4, 5, 0, 60)) (by decide) (by decide)
  generalize ms σ4 m (4, 5, 0, 60) = σ5 at i5 ⊢
  rw [i5.st (f := 5) (d := 6) (t := 0) (x := (2 : Int32)) (len := 2) rfl (by decide)]
  have i6 := i5.go (q := (5, 6, 0, 2)) (by decide) (by decide)
  generalize ms σ5 m (5, 6, 0, 2) = σ6 at i6 ⊢
  rw [i6.st (f := 6) (d := 7) (t := 0) (x := (512 : Int32)) (len := 512) rfl (by decide)]
  have i7 := i6.go (q := (6, 7, 0, 512)) (by decide) (by decide)
  generalize ms σ6 m (6, 7, 0, 512) = σ7 at i7 ⊢
  rw [i7.st (f := 7) (d := 8) (t := 0) (x := (512 : Int32)) (len := 512) rfl (by decide)]
  have i8 := i7.go (q := (7, 8, 0, 512)) (by decide) (by decide)
  generalize ms σ7 m (7, 8, 0, 512) = σ8 at i8 ⊢
  rw [i8.st (f := 8) (d := 9) (t := 0) (x := (51200 : Int32)) (len := 51200) rfl (by decide)]
  have i9 := i8.go (q := (8, 9, 0, 51200)) (by decide) (by decide)
  generalize ms σ8 m (8, 9, 0, 51200) = σ9 at i9 ⊢
  rw [i9.st (f := 9) (d := 10) (t := 0) (x := (2 : Int32)) (len := 2) rfl (by decide)]
  have i10 := i9.go (q := (9, 10, 0, 2)) (by decide) (by decide)
  generalize ms σ9 m (9, 10, 0, 2) = σ10 at i10 ⊢
  rw [i10.st (f := 10) (d := 11) (t := 0) (x := (100 : Int32)) (len := 100) rfl (by decide)]
  have i11 := i10.go (q := (10, 11, 0, 100)) (by decide) (by decide)
  generalize ms σ10 m (10, 11, 0, 100) = σ11 at i11 ⊢
  rw [i11.st (f := 12) (d := 12) (t := 0) (x := (2 : Int32)) (len := 2) rfl (by decide)]
  have i12 := i11.go (q := (12, 12, 0, 2)) (by decide) (by decide)
  generalize ms σ11 m (12, 12, 0, 2) = σ12 at i12 ⊢
  rw [i12.st (f := 13) (d := 13) (t := 0) (x := (912 : Int32)) (len := 912) rfl (by decide)]
  have i13 := i12.go (q := (13, 13, 0, 912)) (by decide) (by decide)
  generalize ms σ12 m (13, 13, 0, 912) = σ13 at i13 ⊢
  rw [i13.st (f := 14) (d := 14) (t := 0) (x := (24 : Int32)) (len := 24) rfl (by decide)]
  have i14 := i13.go (q := (14, 14, 0, 24)) (by decide) (by decide)
  generalize ms σ13 m (14, 14, 0, 24) = σ14 at i14 ⊢
  rw [i14.st (f := 15) (d := 15) (t := 0) (x := (38 : Int32)) (len := 38) rfl (by decide)]
  have i15 := i14.go (q := (15, 15, 0, 38)) (by decide) (by decide)
  generalize ms σ14 m (15, 15, 0, 38) = σ15 at i15 ⊢
  rw [i15.st (f := 17) (d := 16) (t := 0) (x := (2 : Int32)) (len := 2) rfl (by decide)]
  have i16 := i15.go (q := (17, 16, 0, 2)) (by decide) (by decide)
  generalize ms σ15 m (17, 16, 0, 2) = σ16 at i16 ⊢
  rw [i16.st (f := 18) (d := 17) (t := 1) (x := (2 : Int32)) (len := 2) rfl (by decide)]
  have i17 := i16.go (q := (18, 17, 1, 2)) (by decide) (by decide)
  generalize ms σ16 m (18, 17, 1, 2) = σ17 at i17 ⊢
  rw [i17.st (f := 19) (d := 18) (t := 0) (x := (2 : Int32)) (len := 2) rfl (by decide)]
  have i18 := i17.go (q := (19, 18, 0, 2)) (by decide) (by decide)
  generalize ms σ17 m (19, 18, 0, 2) = σ18 at i18 ⊢
  rw [i18.st (f := 20) (d := 19) (t := 1) (x := (2 : Int32)) (len := 2) rfl (by decide)]
  have i19 := i18.go (q := (20, 19, 1, 2)) (by decide) (by decide)
  generalize ms σ18 m (20, 19, 1, 2) = σ19 at i19 ⊢
  rw [i19.st (f := 21) (d := 20) (t := 0) (x := (2 : Int32)) (len := 2) rfl (by decide)]
  have i20 := i19.go (q := (21, 20, 0, 2)) (by decide) (by decide)
  generalize ms σ19 m (21, 20, 0, 2) = σ20 at i20 ⊢
  rw [i20.st (f := 22) (d := 21) (t := 0) (x := (2 : Int32)) (len := 2) rfl (by decide)]
  have i21 := i20.go (q := (22, 21, 0, 2)) (by decide) (by decide)
  generalize ms σ20 m (22, 21, 0, 2) = σ21 at i21 ⊢
  rw [i21.st (f := 23) (d := 22) (t := 0) (x := (2 : Int32)) (len := 2) rfl (by decide)]
  have i22 := i21.go (q := (23, 22, 0, 2)) (by decide) (by decide)
  generalize ms σ21 m (23, 22, 0, 2) = σ22 at i22 ⊢
  rw [i22.st (f := 24) (d := 23) (t := 0) (x := (6 : Int32)) (len := 6) rfl (by decide)]
  have i23 := i22.go (q := (24, 23, 0, 6)) (by decide) (by decide)
  generalize ms σ22 m (24, 23, 0, 6) = σ23 at i23 ⊢
  rw [i23.st (f := 25) (d := 24) (t := 0) (x := (192 : Int32)) (len := 192) rfl (by decide)]
  have i24 := i23.go (q := (25, 24, 0, 192)) (by decide) (by decide)
  generalize ms σ23 m (25, 24, 0, 192) = σ24 at i24 ⊢
  rw [i24.st (f := 26) (d := 25) (t := 0) (x := (2 : Int32)) (len := 2) rfl (by decide)]
  have i25 := i24.go (q := (26, 25, 0, 2)) (by decide) (by decide)
  generalize ms σ24 m (26, 25, 0, 2) = σ25 at i25 ⊢
  rw [i25.st (f := 27) (d := 26) (t := 0) (x := (1024 : Int32)) (len := 1024) rfl (by decide)]
  have i26 := i25.go (q := (27, 26, 0, 1024)) (by decide) (by decide)
  generalize ms σ25 m (27, 26, 0, 1024) = σ26 at i26 ⊢
  rw [i26.st (f := 28) (d := 27) (t := 1) (x := (2 : Int32)) (len := 2) rfl (by decide)]
  have i27 := i26.go (q := (28, 27, 1, 2)) (by decide) (by decide)
  generalize ms σ26 m (28, 27, 1, 2) = σ27 at i27 ⊢
  rw [i27.st (f := 29) (d := 28) (t := 0) (x := (2 : Int32)) (len := 2) rfl (by decide)]
  have i28 := i27.go (q := (29, 28, 0, 2)) (by decide) (by decide)
  generalize ms σ27 m (29, 28, 0, 2) = σ28 at i28 ⊢
  rw [i28.st (f := 30) (d := 29) (t := 0) (x := (2 : Int32)) (len := 2) rfl (by decide)]
  have i29 := i28.go (q := (30, 29, 0, 2)) (by decide) (by decide)
  generalize ms σ28 m (30, 29, 0, 2) = σ29 at i29 ⊢
  rw [i29.st (f := 31) (d := 30) (t := 0) (x := (2 : Int32)) (len := 2) rfl (by decide)]
  have i30 := i29.go (q := (31, 30, 0, 2)) (by decide) (by decide)
  generalize ms σ29 m (31, 30, 0, 2) = σ30 at i30 ⊢
  rw [i30.st (f := 32) (d := 31) (t := 0) (x := (200 : Int32)) (len := 200) rfl (by decide)]
  have i31 := i30.go (q := (32, 31, 0, 200)) (by decide) (by decide)
  generalize ms σ30 m (32, 31, 0, 200) = σ31 at i31 ⊢
  rw [i31.st (f := 33) (d := 32) (t := 0) (x := (2 : Int32)) (len := 2) rfl (by decide)]
  have i32 := i31.go (q := (33, 32, 0, 2)) (by decide) (by decide)
  generalize ms σ31 m (33, 32, 0, 2) = σ32 at i32 ⊢
  rw [i32.st (f := 34) (d := 33) (t := 0) (x := (2 : Int32)) (len := 2) rfl (by decide)]
  have i33 := i32.go (q := (34, 33, 0, 2)) (by decide) (by decide)
  generalize ms σ32 m (34, 33, 0, 2) = σ33 at i33 ⊢
  rw [i33.st (f := 35) (d := 34) (t := 0) (x := (32 : Int32)) (len := 32) rfl (by decide)]
  have i34 := i33.go (q := (35, 34, 0, 32)) (by decide) (by decide)
  generalize ms σ33 m (35, 34, 0, 32) = σ34 at i34 ⊢
  rw [i34.st (f := 36) (d := 35) (t := 0) (x := (32 : Int32)) (len := 32) rfl (by decide)]
  have i35 := i34.go (q := (36, 35, 0, 32)) (by decide) (by decide)
  generalize ms σ34 m (36, 35, 0, 32) = σ35 at i35 ⊢
  exact ⟨σ35, rfl, i35⟩
theorem A00_R {σ0 σ : hp} {m : Nat} (h : mI σ0 m tblM σ) : RepR σ m A00 := by
  obtain ⟨a1, a2, a3, a4, a5⟩ := h
  have hn : σ.2.2.2.1 = m + 36 := by rw [a1.1, a2]; rfl
  have row : ∀ d, d < 36 → σ.2.1 (m + d) = fun _ => 0 := fun d hd => a5 _ (by omega) (by omega)
  have row0 : σ.2.1 m = fun _ => 0 := row 0 (by decide)
  have tj : ∀ q ∈ tblJ, q.1 < 36 ∧ (q.2.2.1 + q.2.2.2 ≤ 5 ∨ 5 < q.2.2.1) := fun q hq => ⟨(tJ1 q hq).2.2.2.2.2.1, (tJ1 q hq).2.2.2.2.2.2.2.1⟩
  refine ⟨⟨a3, fun q hq => ⟨(a4 q hq).1, (a4 q hq).2.1⟩⟩, ⟨fun s hs => ⟨by rw [row 12 (by decide)]; rfl, by show 0 ≤ 12; decide, fun k p hk => by simp [A00] at hk⟩, fun s hs => ⟨by rw [row 22 (by decide)]; rfl, by show 0 ≤ 3; decide, by rw [row 25 (by decide)]; rfl, by show 0 ≤ 16; decide, ?_, ?_, fun k p hk => by simp [A00] at hk, fun k p hk => by simp [A00] at hk⟩, fun s hs => ?_⟩, fun s hs q hq k hk => ?_, fun s hs => ?_, fun s hs k hk hl => ?_, fun i hi => ?_, ?_⟩
  · unfold olN
    rw [A00_5 hs]
    decide
  · unfold olN
    rw [A00_5 hs, row 21 (by decide), show (1 : Int32).toNatClampNeg = 1 from rfl]
    show (0 : Int32) = nI ((1 + 0 + 7) % 8)
    decide
  · unfold olN
    rw [A00_5 hs]
    rfl
  · have := tj q hq
    rw [row q.1 this.1, A00_k (by omega)]
  · rw [row 16 (by decide), row 17 (by decide), A00_k (by decide), if_neg (by decide), if_neg (by decide)]
    exact ⟨rfl, rfl⟩
  · rw [A00_k (by decide)] at hl
    exact absurd hl (nI_pos (by omega))
  · rw [row 11 (by decide), A00_2]
  · rw [row0, A00_2]
def hp0 (n : Nat) : hp := (fun _ => none, fun _ _ => 0, fun _ _ => none, n, 0)
/-- both made: the class at o, the reference at o + 156 -/
theorem both {n : Nat} : ∃ σ1 σ2, S_X8_init (hp_new (hp0 n) (.inl 8) 4) n = some σ1 ∧ (hp_new (hp0 n) (.inl 8) 4).1 n = some (.inl 8) ∧ σ1.2.2.2.1 = n + 156 ∧ (hp_new σ1 (.inl 9) 37).1 (n + 156) = some (.inl 9) ∧ S_X9_init (hp_new σ1 (.inl 9) 37) (n + 156) = some σ2 ∧ RepC σ2 n A00 100000 ∧ RepR σ2 (n + 156) A00 := by
  obtain ⟨σ1, e1, x1, h1, h2, h3, h4⟩ := n_L (hp0 n)
  have n1 : σ1.2.2.2.1 = n + 156 := x1.1
  obtain ⟨σ2, e2, hI⟩ := n_R σ1
  rw [n1] at e2 hI
  have x2 := hI.1
  have ag : agr σ1 σ2 0 (n + 156) := x2.ag (by rw [n1]; exact Nat.le_refl _)
  refine ⟨σ1, σ2, e1, nw_T, n1, by rw [← n1]; exact nw_T, e2, A00_C ?_ ?_ ?_ ?_ (fun t ht => ⟨?_, ?_, ?_⟩) ?_ ?_, A00_R hI⟩
  · rw [x2.1, n1]; exact Nat.le_refl _
  · rw [x2.1, n1]; exact Nat.le_refl _
  · rw [x2.2.1, x1.2.1]
    show 0 + 3370 + _ ≤ 100000
    decide
  · obtain ⟨o1, o2, o3, o4, o5, o6, o7, o8⟩ := h1
    change σ1.1 n = _ at o1
    change σ1.2.2.1 n 0 = some (n + 1) at o2
    change σ1.2.2.1 n 1 = some (n + 58) at o3
    change σ1.2.2.1 n 2 = some (n + 155) at o4
    change σ1.1 (n + 1) = _ at o5
    change σ1.1 (n + 58) = _ at o6
    change σ1.1 (n + 155) = _ at o7
    exact ⟨by rw [(ag _ (by omega) (by omega)).1]; exact o1, by rw [(ag _ (by omega) (by omega)).2.2]; exact o2, by rw [(ag _ (by omega) (by omega)).2.2]; exact o3, by rw [(ag _ (by omega) (by omega)).2.2]; exact o4, by rw [(ag _ (by omega) (by omega)).1]; exact o5, by rw [(ag _ (by omega) (by omega)).1]; exact o6, by rw [(ag _ (by omega) (by omega)).1]; exact o7, fun t ht => by rw [(ag _ (by omega) (by omega)).2.2, (ag (n + 58) (by omega) (by omega)).2.2]; exact o8 t ht⟩
  · exact (h2 t ht).1.ag (fun a a1 a2 => ag a (by omega) (by change a < n + 2 + 28 * t + 28 at a2; omega))
  · exact (h2 t ht).2.1.cg (fun a a1 a2 => (ag a (by omega) (by change a < n + 2 + 28 * t + 28 at a2; omega)).2.1)
  · exact (h2 t ht).2.2.ag (fun a a1 a2 => ag a (by omega) (by change a < n + 59 + 48 * t + 48 at a2; omega))
  · rw [(ag (n + 155) (by omega) (by omega)).2.1]; exact h3
  · rw [(ag n (by omega) (by omega)).2.1]; exact h4
