/-! The constructors of the class. -/
def ext (σ σ' : hp) (k m : Nat) : Prop := σ'.2.2.2.1 = σ.2.2.2.1 + k ∧ σ'.2.2.2.2 = σ.2.2.2.2 + m ∧ ∀ a, a < σ.2.2.2.1 → σ'.1 a = σ.1 a ∧ σ'.2.1 a = σ.2.1 a ∧ σ'.2.2.1 a = σ.2.2.1 a
theorem ext.tr {σ σ1 σ2 : hp} {k m k' m' : Nat} (h : ext σ σ1 k m) (h' : ext σ1 σ2 k' m') : ext σ σ2 (k + k') (m + m') := by
  refine ⟨by rw [h'.1, h.1]; omega, by rw [h'.2.1, h.2.1]; omega, fun a ha => ?_⟩
  obtain ⟨x1, x2, x3⟩ := h.2.2 a ha
  obtain ⟨y1, y2, y3⟩ := h'.2.2 a (by rw [h.1]; omega)
  exact ⟨y1.trans x1, y2.trans x2, y3.trans x3⟩
theorem ext.nw {σ : hp} {x : Nat ⊕ Nat × Nat} {n : Nat} : ext σ (hp_new σ x n) 1 n := ⟨rfl, rfl, fun a ha => ⟨va_up_ne _ _ (by omega), va_up_ne _ _ (by omega), va_up_ne _ _ (by omega)⟩⟩
/-- a write to a cell that is new since σ -/
theorem ext.pI {σ σ1 : hp} {k m a : Nat} {g : Nat → Int32} (h : ext σ σ1 k m) (ha : σ.2.2.2.1 ≤ a) : ext σ (st1 σ1 a g) k m := ⟨h.1, h.2.1, fun b hb => ⟨(h.2.2 b hb).1, by rw [st1_ne (by omega)]; exact (h.2.2 b hb).2.1, (h.2.2 b hb).2.2⟩⟩
theorem ext.pR {σ σ1 : hp} {k m a j : Nat} {x : Option Nat} (h : ext σ σ1 k m) (ha : σ.2.2.2.1 ≤ a) : ext σ (sR σ1 (up2 σ1.2.2.1 a j x)) k m := ⟨h.1, h.2.1, fun b hb => ⟨(h.2.2 b hb).1, (h.2.2 b hb).2.1, by show up2 σ1.2.2.1 a j x b = _; rw [up2_ne (by omega)]; exact (h.2.2 b hb).2.2⟩⟩
theorem w_naN {σ : hp} {t n : Nat} {x : Int32} (hx : x = nI n) (h : n ≤ 100000) : o_na σ t x = some (some σ.2.2.2.1, hp_new σ (.inr (t, n)) n) := by rw [hx]; exact w_na h
theorem nw_T {σ : hp} {x : Nat ⊕ Nat × Nat} {n : Nat} : (hp_new σ x n).1 σ.2.2.2.1 = some x := va_up_self _ _ _
theorem nw_I {σ : hp} {x : Nat ⊕ Nat × Nat} {n : Nat} : (hp_new σ x n).2.1 σ.2.2.2.1 = fun _ => 0 := va_up_self _ _ _
theorem up2_s {α : Type} {f : Nat → Nat → α} {a k : Nat} {x : α} : up2 f a k x a k = x := by rw [up2_at, if_pos rfl]
/-- an object with an array behind it, for packets and messages -/
theorem n_two {σ : hp} {c t n : Nat} {g : Nat → Int32} (h : True) : ext σ (st1 (sR (hp_new (hp_new σ (.inl c) 2) (.inr (t, n)) n) (up2 (hp_new (hp_new σ (.inl c) 2) (.inr (t, n)) n).2.2.1 σ.2.2.2.1 0 (some (σ.2.2.2.1 + 1)))) σ.2.2.2.1 g) 2 (2 + n) ∧ (st1 (sR (hp_new (hp_new σ (.inl c) 2) (.inr (t, n)) n) (up2 (hp_new (hp_new σ (.inl c) 2) (.inr (t, n)) n).2.2.1 σ.2.2.2.1 0 (some (σ.2.2.2.1 + 1)))) σ.2.2.2.1 g).1 σ.2.2.2.1 = some (.inl c) ∧ (st1 (sR (hp_new (hp_new σ (.inl c) 2) (.inr (t, n)) n) (up2 (hp_new (hp_new σ (.inl c) 2) (.inr (t, n)) n).2.2.1 σ.2.2.2.1 0 (some (σ.2.2.2.1 + 1)))) σ.2.2.2.1 g).2.2.1 σ.2.2.2.1 0 = some (σ.2.2.2.1 + 1) ∧ (st1 (sR (hp_new (hp_new σ (.inl c) 2) (.inr (t, n)) n) (up2 (hp_new (hp_new σ (.inl c) 2) (.inr (t, n)) n).2.2.1 σ.2.2.2.1 0 (some (σ.2.2.2.1 + 1)))) σ.2.2.2.1 g).1 (σ.2.2.2.1 + 1) = some (.inr (t, n)) := by
  refine ⟨((ext.nw.tr ext.nw).pR (Nat.le_refl _)).pI (Nat.le_refl _), ?_, up2_s, va_up_self _ _ _⟩
  show va_up (va_up σ.1 σ.2.2.2.1 _) (σ.2.2.2.1 + 1) _ σ.2.2.2.1 = _
  rw [va_up_ne _ _ (by omega), va_up_self]
theorem n_P (σ : hp) : ∃ σ', S_X4_init (hp_new σ (.inl 4) 2) σ.2.2.2.1 = some σ' ∧ ext σ σ' 2 40 ∧ isP σ' σ.2.2.2.1 (σ.2.2.2.1 + 1) := by
  have t1 : (hp_new (hp_new σ (.inl 4) 2) (.inr (0, 38)) 38).1 σ.2.2.2.1 = some (.inl 4) := by
    show va_up (va_up σ.1 σ.2.2.2.1 _) (σ.2.2.2.1 + 1) _ σ.2.2.2.1 = _
    rw [va_up_ne _ _ (by omega), va_up_self]
  have t2 : (sR (hp_new (hp_new σ (.inl 4) 2) (.inr (0, 38)) 38) (up2 (hp_new (hp_new σ (.inl 4) 2) (.inr (0, 38)) 38).2.2.1 σ.2.2.2.1 0 (some (hp_new σ (.inl 4) 2).2.2.2.1))).1 σ.2.2.2.1 = some (.inl 4) := t1
  simp only [S_X4_init, S_X4_init_9, w_naN (n := 38) (show (38 : Int32) = nI 38 from rfl) (by decide), Option.bind_some, w_pR t1, w_pI t2]
  obtain ⟨a, b, c, d⟩ := n_two (σ := σ) (c := 4) (t := 0) (n := 38) (g := _) trivial
  exact ⟨_, rfl, a, b, c, d, by omega⟩
theorem n_M (σ : hp) : ∃ σ', S_X3_init (hp_new σ (.inl 3) 2) σ.2.2.2.1 = some σ' ∧ ext σ σ' 2 33 ∧ mkM σ' σ.2.2.2.1 := by
  have t1 : (hp_new (hp_new σ (.inl 3) 2) (.inr (0, 31)) 31).1 σ.2.2.2.1 = some (.inl 3) := by
    show va_up (va_up σ.1 σ.2.2.2.1 _) (σ.2.2.2.1 + 1) _ σ.2.2.2.1 = _
    rw [va_up_ne _ _ (by omega), va_up_self]
  have t2 : (sR (hp_new (hp_new σ (.inl 3) 2) (.inr (0, 31)) 31) (up2 (hp_new (hp_new σ (.inl 3) 2) (.inr (0, 31)) 31).2.2.1 σ.2.2.2.1 0 (some (hp_new σ (.inl 3) 2).2.2.2.1))).1 σ.2.2.2.1 = some (.inl 3) := t1
  simp only [S_X3_init, S_X3_init_9, w_naN (n := 31) (show (31 : Int32) = nI 31 from rfl) (by decide), Option.bind_some, w_pR t1, w_pI t2]
  obtain ⟨a, b, c, d⟩ := n_two (σ := σ) (c := 3) (t := 0) (n := 31) (g := _) trivial
  exact ⟨_, rfl, a, b, c, d⟩
theorem isP.x {σ σ' : hp} {k m p : Nat} (h : isP σ p (p + 1)) (x : ext σ σ' k m) (hp : p + 1 < σ.2.2.2.1) : isP σ' p (p + 1) := h.of2 (x.2.2 _ (by omega)).1 (x.2.2 _ (by omega)).1 (x.2.2 _ (by omega)).2.2
theorem mkM.x {σ σ' : hp} {k m p : Nat} (h : mkM σ p) (x : ext σ σ' k m) (hp : p + 1 < σ.2.2.2.1) : mkM σ' p := h.of2 (x.2.2 _ (by omega)).1 (x.2.2 _ (by omega)).1 (x.2.2 _ (by omega)).2.2
/-- a wire while it is built -/
def wB (σ0 σ : hp) (w i : Nat) : Prop := ext σ0 σ (4 + 2 * i) (56 + 40 * i) ∧ σ.1 w = some (.inl 7) ∧ σ.2.2.1 w 0 = some (w + 3) ∧ σ.2.2.1 w 1 = some (w + 1) ∧ σ.1 (w + 3) = some (.inr (3, 12)) ∧ isP σ (w + 1) (w + 1 + 1) ∧ σ.2.1 w 2 = 0 ∧ σ.2.1 w 3 = 0 ∧ ∀ j, j < i → σ.2.2.1 (w + 3) j = some (w + 4 + 2 * j) ∧ isP σ (w + 4 + 2 * j) (w + 4 + 2 * j + 1)
theorem n_WL {σ0 : hp} {w : Nat} (hw : σ0.2.2.2.1 = w) : ∀ (d i N : Nat) (σ : hp), i + d = 12 → d < N → wB σ0 σ w i → ∃ σ', S_X7_init_36 N σ w (nI i) = some σ' ∧ wB σ0 σ' w 12 := by
  intro d
  induction d with
  | zero =>
    intro i N σ hi hN h
    obtain ⟨N, rfl⟩ : ∃ z, N = z + 1 := ⟨N - 1, by omega⟩
    obtain rfl : i = 12 := by omega
    simp only [S_X7_init_36, S_X7_init_36_b]
    rw [if_pos (show (12 : Int32) ≤ nI 12 by decide)]
    exact ⟨σ, rfl, h⟩
  | succ d ih =>
    intro i N σ hi hN h
    obtain ⟨N, rfl⟩ : ∃ z, N = z + 1 := ⟨N - 1, by omega⟩
    obtain ⟨b1, b2, b3, b4, b5, b6, b7, b8, b9⟩ := h
    have hnx : σ.2.2.2.1 = w + 4 + 2 * i := by rw [b1.1, hw]; omega
    simp only [S_X7_init_36, S_X7_init_36_b]
    rw [if_neg (show ¬ (12 : Int32) ≤ nI i from nI_ge (b := 12) (by omega) (by decide))]
    obtain ⟨σ1, e1, x1, p1⟩ := n_P σ
    have t4 : (hp_new σ (.inl 4) 2).1 σ.2.2.2.1 = some (.inl 4) := nw_T
    have c5 : σ1.1 (w + 3) = some (.inr (3, 12)) := by rw [(x1.2.2 _ (by omega)).1]; exact b5
    simp only [w_gR b2, b3, Option.bind_some, o_nw, S_X7_init_50, w_rcv t4, e1, S_X7_init_54, w_stQ c5 (show i < 12 by omega) (by decide) p1.1, nI_1]
    refine ih (i + 1) N _ (by omega) (by omega) ?_
    rw [hnx] at p1 ⊢
    have xx := (b1.tr x1).pR (a := w + 3) (j := i) (x := some (w + 4 + 2 * i)) (by omega)
    have rne : ∀ a, a ≠ w + 3 → (sR σ1 (up2 σ1.2.2.1 (w + 3) i (some (w + 4 + 2 * i)))).2.2.1 a = σ1.2.2.1 a := fun a ha => up2_ne ha
    refine ⟨by rw [show 4 + 2 * (i + 1) = 4 + 2 * i + 2 by omega, show 56 + 40 * (i + 1) = 56 + 40 * i + 40 by omega]; exact xx, ?_, ?_, ?_, c5, ?_, ?_, ?_, fun j hj => ⟨?_, ?_⟩⟩
    · show σ1.1 w = _
      rw [(x1.2.2 _ (by omega)).1]; exact b2
    · rw [rne _ (by omega), (x1.2.2 _ (by omega)).2.2]; exact b3
    · rw [rne _ (by omega), (x1.2.2 _ (by omega)).2.2]; exact b4
    · exact (b6.x x1 (by omega)).of2 rfl rfl (rne _ (by omega))
    · show σ1.2.1 w 2 = 0
      rw [(x1.2.2 _ (by omega)).2.1]; exact b7
    · show σ1.2.1 w 3 = 0
      rw [(x1.2.2 _ (by omega)).2.1]; exact b8
    · show up2 σ1.2.2.1 (w + 3) i _ (w + 3) j = _
      rw [up2_at]
      by_cases hji : j = i
      · rw [if_pos hji, hji]
      · rw [if_neg hji, (x1.2.2 _ (by omega)).2.2]
        exact (b9 j (by omega)).1
    · by_cases hji : j = i
      · rw [hji]
        exact p1.of2 rfl rfl (rne _ (by omega))
      · exact ((b9 j (by omega)).2.x x1 (by omega)).of2 rfl rfl (rne _ (by omega))
theorem n_W (σ : hp) : ∃ σ', S_X7_init (hp_new σ (.inl 7) 4) σ.2.2.2.1 = some σ' ∧ ext σ σ' 28 536 ∧ wkW σ' σ.2.2.2.1 ∧ wireC σ' σ.2.2.2.1 [] := by
  generalize hw : σ.2.2.2.1 = w
  generalize hσa : hp_new σ (.inl 7) 4 = σa
  have xa : ext σ σa 1 4 := by rw [← hσa]; exact ext.nw
  have na : σa.2.2.2.1 = w + 1 := by rw [xa.1, hw]
  have ta : σa.1 w = some (.inl 7) := by rw [← hσa, ← hw]; exact nw_T
  obtain ⟨σb, eb, xb, pb⟩ := n_P σa
  have t4 : (hp_new σa (.inl 4) 2).1 σa.2.2.2.1 = some (.inl 4) := nw_T
  have tb : σb.1 w = some (.inl 7) := by rw [(xb.2.2 _ (by omega)).1]; exact ta
  rw [na] at pb eb t4
  have x1 := (xa.tr xb).pR (a := w) (j := 1) (x := some (w + 1)) (by omega)
  generalize hσc : sR σb (up2 σb.2.2.1 w 1 (some (w + 1))) = σc at x1
  have tc : σc.1 w = some (.inl 7) := by rw [← hσc]; exact tb
  have rc : σc.2.2.1 w 1 = some (w + 1) := by rw [← hσc]; exact up2_s
  have pc : isP σc (w + 1) (w + 1 + 1) := by rw [← hσc]; exact pb.of2 rfl rfl (up2_ne (by omega))
  have x2 := (x1.pI (a := w) (g := upd (upd (σc.2.1 w) 2 0) 3 0) (by omega)).tr (ext.nw (x := .inr (3, 12)) (n := 12))
  generalize hσd : st1 σc w (upd (upd (σc.2.1 w) 2 0) 3 0) = σd at x2
  have td : σd.1 w = some (.inl 7) := by rw [← hσd]; exact tc
  have nd : σd.2.2.2.1 = w + 3 := by rw [← hσd]; show σc.2.2.2.1 = _; rw [x1.1, hw]
  have x3 := x2.pR (a := w) (j := 0) (x := some (w + 3)) (by omega)
  generalize hσe : hp_new σd (.inr (3, 12)) 12 = σe at x2 x3
  have te : σe.1 w = some (.inl 7) := by rw [← hσe]; show va_up σd.1 σd.2.2.2.1 _ w = _; rw [va_up_ne _ _ (by omega)]; exact td
  have ws : ∀ g : Nat → Int32, (st1 σc w g).1 w = some (.inl 7) := fun g => tc
  simp only [S_X7_init, S_X7_init_8, S_X7_init_12, o_nw, na, Option.bind_some, w_rcv t4, eb, w_pR tb, hσc, w_pI tc, w_pI (ws _), st1_self, st1_st1, hσd, w_naN (n := 12) (show (12 : Int32) = nI 12 from rfl) (by decide), nd, hσe, S_X7_init_31, w_pR te]
  have hB0 : wB σ (sR σe (up2 σe.2.2.1 w 0 (some (w + 3)))) w 0 := by
    refine ⟨x3, te, up2_s, ?_, ?_, ?_, ?_, ?_, fun j hj => absurd hj (by omega)⟩
    · show up2 σe.2.2.1 w 0 _ w 1 = _
      rw [up2_at, if_neg (by decide), ← hσe]
      show va_up σd.2.2.1 σd.2.2.2.1 _ w 1 = _
      rw [va_up_ne _ _ (by omega), ← hσd]
      exact rc
    · show σe.1 (w + 3) = _
      rw [← hσe, ← nd]
      exact nw_T
    · refine isP.of2 (σ := σc) pc ?_ ?_ ?_
      · show σe.1 (w + 1) = _
        rw [← hσe]
        show va_up σd.1 σd.2.2.2.1 _ (w + 1) = _
        rw [va_up_ne _ _ (by omega), ← hσd]
        rfl
      · show σe.1 (w + 1 + 1) = _
        rw [← hσe]
        show va_up σd.1 σd.2.2.2.1 _ (w + 1 + 1) = _
        rw [va_up_ne _ _ (by omega), ← hσd]
        rfl
      · show up2 σe.2.2.1 w 0 _ (w + 1) = _
        rw [up2_ne (by omega), ← hσe]
        show va_up σd.2.2.1 σd.2.2.2.1 _ (w + 1) = _
        rw [va_up_ne _ _ (by omega), ← hσd]
        rfl
    · show σe.2.1 w 2 = 0
      rw [← hσe]
      show va_up σd.2.1 σd.2.2.2.1 _ w 2 = 0
      rw [va_up_ne _ _ (by omega), ← hσd, st1_self, u_n (by decide), u_s]
    · show σe.2.1 w 3 = 0
      rw [← hσe]
      show va_up σd.2.1 σd.2.2.2.1 _ w 3 = 0
      rw [va_up_ne _ _ (by omega), ← hσd, st1_self, u_s]
  obtain ⟨σ', e', hB⟩ := n_WL hw 12 0 FU (sR σe (up2 σe.2.2.1 w 0 (some (w + 3)))) (by decide) (by decide) hB0
  obtain ⟨b1, b2, b3, b4, b5, b6, b7, b8, b9⟩ := hB
  exact ⟨σ', e', b1, ⟨b2, b3, b4, b5, b6, b9⟩, 0, by decide, b7, b8, by decide, fun k pk hk => by simp at hk⟩
/-- a window while it is built -/
def zB (σ0 σ : hp) (z i : Nat) : Prop := ext σ0 σ (2 + 2 * i) (25 + 33 * i) ∧ σ.1 z = some (.inl 6) ∧ σ.2.2.1 z 0 = some (z + 1) ∧ σ.1 (z + 1) = some (.inr (6, 20)) ∧ σ.2.1 z 1 = 0 ∧ σ.2.1 z 2 = 1 ∧ σ.2.1 z 3 = 0 ∧ σ.2.1 z 4 = 0 ∧ ∀ j, j < i → σ.2.2.1 (z + 1) j = some (z + 2 + 2 * j) ∧ mkM σ (z + 2 + 2 * j)
theorem n_ZL {σ0 : hp} {z : Nat} (hz : σ0.2.2.2.1 = z) : ∀ (d i N : Nat) (σ : hp), i + d = 20 → d < N → zB σ0 σ z i → ∃ σ', S_X6_init_35 N σ z (nI i) = some σ' ∧ zB σ0 σ' z 20 := by
  intro d
  induction d with
  | zero =>
    intro i N σ hi hN h
    obtain ⟨N, rfl⟩ : ∃ q, N = q + 1 := ⟨N - 1, by omega⟩
    obtain rfl : i = 20 := by omega
    simp only [S_X6_init_35, S_X6_init_35_b]
    rw [if_pos (show (20 : Int32) ≤ nI 20 by decide)]
    exact ⟨σ, rfl, h⟩
  | succ d ih =>
    intro i N σ hi hN h
    obtain ⟨N, rfl⟩ : ∃ q, N = q + 1 := ⟨N - 1, by omega⟩
    obtain ⟨b1, b2, b3, b4, b5, b6, b7, b8, b9⟩ := h
    have hnx : σ.2.2.2.1 = z + 2 + 2 * i := by rw [b1.1, hz]; omega
    simp only [S_X6_init_35, S_X6_init_35_b]
    rw [if_neg (show ¬ (20 : Int32) ≤ nI i from nI_ge (b := 20) (by omega) (by decide))]
    obtain ⟨σ1, e1, x1, p1⟩ := n_M σ
    have t4 : (hp_new σ (.inl 3) 2).1 σ.2.2.2.1 = some (.inl 3) := nw_T
    have c5 : σ1.1 (z + 1) = some (.inr (6, 20)) := by rw [(x1.2.2 _ (by omega)).1]; exact b4
    simp only [w_gR b2, b3, Option.bind_some, o_nw, S_X6_init_49, w_rcv t4, e1, S_X6_init_53, w_stQ c5 (show i < 20 by omega) (by decide) p1.1, nI_1]
    refine ih (i + 1) N _ (by omega) (by omega) ?_
    rw [hnx] at p1 ⊢
    have xx := (b1.tr x1).pR (a := z + 1) (j := i) (x := some (z + 2 + 2 * i)) (by omega)
    have rne : ∀ a, a ≠ z + 1 → (sR σ1 (up2 σ1.2.2.1 (z + 1) i (some (z + 2 + 2 * i)))).2.2.1 a = σ1.2.2.1 a := fun a ha => up2_ne ha
    refine ⟨by rw [show 2 + 2 * (i + 1) = 2 + 2 * i + 2 by omega, show 25 + 33 * (i + 1) = 25 + 33 * i + 33 by omega]; exact xx, ?_, ?_, c5, ?_, ?_, ?_, ?_, fun j hj => ⟨?_, ?_⟩⟩
    · show σ1.1 z = _
      rw [(x1.2.2 _ (by omega)).1]; exact b2
    · rw [rne _ (by omega), (x1.2.2 _ (by omega)).2.2]; exact b3
    · show σ1.2.1 z 1 = 0
      rw [(x1.2.2 _ (by omega)).2.1]; exact b5
    · show σ1.2.1 z 2 = 1
      rw [(x1.2.2 _ (by omega)).2.1]; exact b6
    · show σ1.2.1 z 3 = 0
      rw [(x1.2.2 _ (by omega)).2.1]; exact b7
    · show σ1.2.1 z 4 = 0
      rw [(x1.2.2 _ (by omega)).2.1]; exact b8
    · show up2 σ1.2.2.1 (z + 1) i _ (z + 1) j = _
      rw [up2_at]
      by_cases hji : j = i
      · rw [if_pos hji, hji]
      · rw [if_neg hji, (x1.2.2 _ (by omega)).2.2]
        exact (b9 j (by omega)).1
    · by_cases hji : j = i
      · rw [hji]
        exact p1.of2 rfl rfl (rne _ (by omega))
      · exact ((b9 j (by omega)).2.x x1 (by omega)).of2 rfl rfl (rne _ (by omega))
theorem n_Z (σ : hp) : ∃ σ', S_X6_init (hp_new σ (.inl 6) 5) σ.2.2.2.1 = some σ' ∧ ext σ σ' 42 685 ∧ wkN σ' σ.2.2.2.1 ∧ winC σ' σ.2.2.2.1 1 [] [] := by
  generalize hz : σ.2.2.2.1 = z
  generalize hσa : hp_new σ (.inl 6) 5 = σa
  have xa : ext σ σa 1 5 := by rw [← hσa]; exact ext.nw
  have ta : σa.1 z = some (.inl 6) := by rw [← hσa, ← hz]; exact nw_T
  have x2 := (xa.pI (a := z) (g := upd (upd (upd (upd (σa.2.1 z) 1 0) 2 1) 3 0) 4 0) (by omega)).tr (ext.nw (x := .inr (6, 20)) (n := 20))
  generalize hσd : st1 σa z (upd (upd (upd (upd (σa.2.1 z) 1 0) 2 1) 3 0) 4 0) = σd at x2
  have nd : σd.2.2.2.1 = z + 1 := by rw [← hσd]; show σa.2.2.2.1 = _; rw [xa.1, hz]
  have td : σd.1 z = some (.inl 6) := by rw [← hσd]; exact ta
  have x3 := x2.pR (a := z) (j := 0) (x := some (z + 1)) (by omega)
  generalize hσe : hp_new σd (.inr (6, 20)) 20 = σe at x2 x3
  have te : σe.1 z = some (.inl 6) := by rw [← hσe]; show va_up σd.1 σd.2.2.2.1 _ z = _; rw [va_up_ne _ _ (by omega)]; exact td
  have ie : σe.2.1 z = upd (upd (upd (upd (σa.2.1 z) 1 0) 2 1) 3 0) 4 0 := by rw [← hσe]; show va_up σd.2.1 σd.2.2.2.1 _ z = _; rw [va_up_ne _ _ (by omega), ← hσd, st1_self]
  have ws : ∀ g : Nat → Int32, (st1 σa z g).1 z = some (.inl 6) := fun g => ta
  simp only [S_X6_init, Option.bind_some, w_pI ta, w_pI (ws _), st1_self, st1_st1, hσd, w_naN (n := 20) (show (20 : Int32) = nI 20 from rfl) (by decide), nd, hσe, S_X6_init_30, w_pR te]
  have hB0 : zB σ (sR σe (up2 σe.2.2.1 z 0 (some (z + 1)))) z 0 := by
    refine ⟨x3, te, up2_s, ?_, ?_, ?_, ?_, ?_, fun j hj => absurd hj (by omega)⟩
    · show σe.1 (z + 1) = _
      rw [← hσe, ← nd]
      exact nw_T
    · show σe.2.1 z 1 = 0
      rw [ie, u_n (by decide), u_n (by decide), u_n (by decide), u_s]
    · show σe.2.1 z 2 = 1
      rw [ie, u_n (by decide), u_n (by decide), u_s]
    · show σe.2.1 z 3 = 0
      rw [ie, u_n (by decide), u_s]
    · show σe.2.1 z 4 = 0
      rw [ie, u_s]
  obtain ⟨σ', e', hB⟩ := n_ZL hz 20 0 FU (sR σe (up2 σe.2.2.1 z 0 (some (z + 1)))) (by decide) (by decide) hB0
  obtain ⟨b1, b2, b3, b4, b5, b6, b7, b8, b9⟩ := hB
  exact ⟨σ', e', b1, ⟨b2, b3, b4, b9⟩, 0, by decide, b5, b6, b7, b8, by decide, by decide, fun k pk hk => by simp at hk⟩
