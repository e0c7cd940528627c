/-! The class: a site as the abstract one. Inside receive: RQ. -/
def wkS (σ : hp) (s w : Nat) : Prop := σ.1 s = some (.inl 5) ∧ σ.2.2.1 s 1 = some w ∧ σ.2.2.1 s 2 = some (s + 1) ∧ σ.2.2.1 s 3 = some (s + 4) ∧ σ.2.2.1 s 4 = some (s + 46) ∧ σ.1 (s + 1) = some (.inl 0) ∧ σ.2.2.1 (s + 1) 0 = some (s + 2) ∧ σ.2.2.1 (s + 1) 3 = some (s + 3) ∧ σ.1 (s + 2) = some (.inr (5, 30)) ∧ σ.1 (s + 3) = some (.inr (5, 256)) ∧ wkN σ (s + 4) ∧ σ.1 (s + 46) = some (.inl 1) ∧ σ.2.2.1 (s + 46) 0 = some (s + 47) ∧ σ.1 (s + 47) = some (.inr (0, 100))
def wkO (σ : hp) (o : Nat) : Prop := σ.1 o = some (.inl 8) ∧ σ.2.2.1 o 0 = some (o + 1) ∧ σ.2.2.1 o 1 = some (o + 58) ∧ σ.2.2.1 o 2 = some (o + 155) ∧ σ.1 (o + 1) = some (.inr (2, 2)) ∧ σ.1 (o + 58) = some (.inr (4, 2)) ∧ σ.1 (o + 155) = some (.inr (0, 100)) ∧ ∀ t, t < 2 → σ.2.2.1 (o + 1) t = some (o + 2 + 28 * t) ∧ σ.2.2.1 (o + 58) t = some (o + 59 + 48 * t)
def SkC (σ : hp) (o : Nat) : Prop := wkO σ o ∧ ∀ t, t < 2 → wkW σ (o + 2 + 28 * t) ∧ wkS σ (o + 59 + 48 * t) (o + 2 + 28 * t)
theorem SkC.of {σ σ' : hp} {o : Nat} (h : SkC σ o) (h1 : σ'.1 = σ.1) (h2 : σ'.2.2 = σ.2.2) : SkC σ' o := by
  unfold SkC wkO wkW wkS wkN mkM isP
  rw [h1, h2]
  exact h
def isOp (f : Nat → Int32) : Prop := f 0 = 2 ∨ f 0 = 3
def siteQ (σ : hp) (s : Nat) (f : Nat → Int32) (out : List Msg) (t : Nat) : Prop := σ.2.1 s 0 = nI t ∧ σ.2.1 s 5 = f 0 ∧ (f 0 = 1 → σ.2.1 s 6 = (f 1 - 1) &&& 7) ∧ (isOp f → σ.2.1 s 7 = f 2) ∧ σ.2.1 s 8 = f 4 ∧ σ.2.1 s 9 = f 3 ∧ (f 0 = 1 ∨ isOp f → σ.2.1 s 10 = f 6) ∧ σ.2.1 s 11 = f 7 ∧ σ.2.1 s 12 = 0 ∧ (isOp f → out = [] → f 6 = 0)
def intC (σ : hp) (s : Nat) (f : Nat → Int32) : Prop := σ.2.1 (s + 46) 1 = f 8 ∧ σ.2.1 (s + 46) 2 = f 9 ∧ σ.2.1 (s + 46) 3 = f 10 ∧ σ.2.1 (s + 46) 4 = f 11 ∧ ∀ i, i < 100 → σ.2.1 (s + 47) i = f (100 + i)
def jobC (σ : hp) (o a : Nat) (num : Int32) (l : Nat) (g : Nat → Int32) : Prop := o + 192 ≤ a ∧ a + 1 < σ.2.2.2.1 ∧ l ≤ 100 ∧ σ.1 a = some (.inl 2) ∧ σ.2.1 a 0 = num ∧ σ.2.2.1 a 1 = some (a + 1) ∧ σ.1 (a + 1) = some (.inr (0, l)) ∧ ∀ i, i < l → σ.2.1 (a + 1) i = g i
def diskC (σ : hp) (o s : Nat) (f : Nat → Int32) : Prop := σ.2.1 (s + 1) 1 = f 12 - f 13 ∧ σ.2.1 (s + 1) 2 = f 12 ∧ σ.2.1 (s + 1) 4 = f 14 ∧ σ.2.1 (s + 1) 5 = f 1 ∧ (∀ j, j < 30 → nI j < f 12 → ∃ a l, σ.2.2.1 (s + 2) j = some a ∧ f (200 + j) = nI l ∧ jobC σ o a (nI j) l (fun i => f (1000 + 100 * j + i))) ∧ ∀ j, j < 256 → nI j < f 14 → ∃ a l, σ.2.2.1 (s + 3) j = some a ∧ f (6000 + j) = nI l ∧ jobC σ o a (f (5000 + j)) l (fun i => f (10000 + 100 * j + i))
theorem siteQ.cg {σ σ' : hp} {s t : Nat} {f f' : Nat → Int32} {out out' : List Msg} (h : siteQ σ s f out t) (e : σ'.2.1 s = σ.2.1 s) (ef : ∀ k, k < 8 → k ≠ 5 → f' k = f k) (ho : isOp f → out' = [] → out = [] ∨ f 6 = 0) : siteQ σ' s f' out' t := by
  obtain ⟨h1, h2, h3, h4, h5, h6, h7, h8, h9, h10⟩ := h
  unfold siteQ isOp
  rw [e, ef 0 (by decide) (by decide), ef 1 (by decide) (by decide), ef 2 (by decide) (by decide), ef 3 (by decide) (by decide), ef 4 (by decide) (by decide), ef 6 (by decide) (by decide), ef 7 (by decide) (by decide)]
  exact ⟨h1, h2, h3, h4, h5, h6, h7, h8, h9, fun a b => (ho a b).elim (h10 a) id⟩
theorem intC.cg {σ σ' : hp} {s : Nat} {f f' : Nat → Int32} (h : intC σ s f) (e : σ'.2.1 (s + 46) = σ.2.1 (s + 46)) (e2 : σ'.2.1 (s + 47) = σ.2.1 (s + 47)) (ef : ∀ k, (8 ≤ k ∧ k ≤ 11) ∨ (100 ≤ k ∧ k < 200) → f' k = f k) : intC σ' s f' := by
  unfold intC
  rw [e, e2, ef 8 (by omega), ef 9 (by omega), ef 10 (by omega), ef 11 (by omega)]
  exact ⟨h.1, h.2.1, h.2.2.1, h.2.2.2.1, fun i hi => by rw [ef _ (by omega)]; exact h.2.2.2.2 i hi⟩
def keepJ (σ σ' : hp) (o : Nat) : Prop := σ.2.2.2.1 ≤ σ'.2.2.2.1 ∧ ∀ a, o + 192 ≤ a → a < σ.2.2.2.1 → σ'.1 a = σ.1 a ∧ σ'.2.1 a = σ.2.1 a ∧ σ'.2.2.1 a = σ.2.2.1 a
theorem jobC.cg {σ σ' : hp} {o a l : Nat} {num : Int32} {g g' : Nat → Int32} (h : jobC σ o a num l g) (k : keepJ σ σ' o) (eg : ∀ i, i < l → g' i = g i) : jobC σ' o a num l g' := by
  obtain ⟨h1, h2, h3, h4, h5, h6, h7, h8⟩ := h
  obtain ⟨k1, k2⟩ := k
  obtain ⟨a1, a2, a3⟩ := k2 a (by omega) (by omega)
  obtain ⟨b1, b2, b3⟩ := k2 (a + 1) (by omega) (by omega)
  exact ⟨h1, by omega, h3, by rw [a1]; exact h4, by rw [a2]; exact h5, by rw [a3]; exact h6, by rw [b1]; exact h7, fun i hi => by rw [b2, eg i hi]; exact h8 i hi⟩
theorem diskC.cg {σ σ' : hp} {o s : Nat} {f f' : Nat → Int32} (h : diskC σ o s f) (e : σ'.2.1 (s + 1) = σ.2.1 (s + 1)) (e2 : σ'.2.2.1 (s + 2) = σ.2.2.1 (s + 2)) (e3 : σ'.2.2.1 (s + 3) = σ.2.2.1 (s + 3)) (k : keepJ σ σ' o) (ef : ∀ k, k = 1 ∨ k = 12 ∨ k = 13 ∨ k = 14 ∨ 200 ≤ k → f' k = f k) : diskC σ' o s f' := by
  obtain ⟨h1, h2, h3, h4, h5, h6⟩ := h
  unfold diskC
  rw [e, e2, e3, ef 1 (by omega), ef 12 (by omega), ef 13 (by omega), ef 14 (by omega)]
  refine ⟨h1, h2, h3, h4, fun j hj hl => ?_, fun j hj hl => ?_⟩
  · obtain ⟨a, l, a1, a2, a3⟩ := h5 j hj hl
    exact ⟨a, l, a1, by rw [ef _ (by omega)]; exact a2, a3.cg k (fun i _ => ef _ (by omega))⟩
  · obtain ⟨a, l, a1, a2, a3⟩ := h6 j hj hl
    refine ⟨a, l, a1, by rw [ef _ (by omega)]; exact a2, ?_⟩
    rw [ef (5000 + j) (by omega)]
    exact a3.cg k (fun i _ => ef _ (by omega))
theorem keepI.j {σ σ' : hp} {o lo hi : Nat} (h : keepI σ σ' lo hi) (hh : hi ≤ o + 192) : keepJ σ σ' o := by
  refine ⟨by rw [h.2.1]; exact Nat.le_refl _, fun a a1 a2 => ⟨by rw [h.1], h.2.2 a (by omega), by rw [h.2.1]⟩⟩
def sitR (σ : hp) (o t : Nat) (f : Nat → Int32) (out wait : List Msg) (q : List Pkt) : Prop := wireC σ (o + 2 + 28 * t) q ∧ winC σ (o + 59 + 48 * t + 4) (f 5) out wait ∧ siteQ σ (o + 59 + 48 * t) f out t ∧ intC σ (o + 59 + 48 * t) f ∧ diskC σ o (o + 59 + 48 * t) f
def cN (f : Nat → Int32) : Nat := (f 14).toNatClampNeg + (f 12).toNatClampNeg
def roomC (σ : hp) (o : Nat) (f : Nat → Int32) (B C : Nat) : Prop := o + 192 ≤ σ.2.2.2.1 ∧ σ.2.2.2.1 ≤ B + 2 * cN f ∧ σ.2.2.2.2 ≤ C + 102 * cN f
def RQ (σ : hp) (o t : Nat) (A : aA) (B C : Nat) : Prop := SkC σ o ∧ roomC σ o (A.1 t) B C ∧ sitR σ o t (A.1 t) (A.2.1 t) (A.2.2.1 t) (A.2.2.2 t)
theorem roomC.cg {σ σ' : hp} {o B C : Nat} {f f' : Nat → Int32} (h : roomC σ o f B C) (e : σ'.2.2 = σ.2.2) (e1 : f' 14 = f 14) (e2 : f' 12 = f 12) : roomC σ' o f' B C := by
  unfold roomC cN
  rw [e, e1, e2]
  exact h
def keepF (σ σ' : hp) (o t : Nat) : Prop := σ.2.2.2.1 ≤ σ'.2.2.2.1 ∧ ∀ a, a < σ.2.2.2.1 → ¬ (o + 2 + 28 * t ≤ a ∧ a < o + 2 + 28 * t + 28) → ¬ (o + 59 + 48 * t ≤ a ∧ a < o + 59 + 48 * t + 48) → σ'.1 a = σ.1 a ∧ σ'.2.1 a = σ.2.1 a ∧ σ'.2.2.1 a = σ.2.2.1 a
theorem keepF.rf {σ : hp} {o t : Nat} : keepF σ σ o t := ⟨Nat.le_refl _, fun _ _ _ _ => ⟨rfl, rfl, rfl⟩⟩
theorem keepF.tr {σ σ1 σ2 : hp} {o t : Nat} (h : keepF σ σ1 o t) (k : keepF σ1 σ2 o t) : keepF σ σ2 o t := by
  refine ⟨Nat.le_trans h.1 k.1, fun a a1 a2 a3 => ?_⟩
  obtain ⟨x1, x2, x3⟩ := h.2 a a1 a2 a3
  obtain ⟨y1, y2, y3⟩ := k.2 a (Nat.lt_of_lt_of_le a1 h.1) a2 a3
  exact ⟨y1.trans x1, y2.trans x2, y3.trans x3⟩
theorem keepI.f {σ σ' : hp} {o t lo hi : Nat} (h : keepI σ σ' lo hi) (hh : (o + 2 + 28 * t ≤ lo ∧ hi ≤ o + 2 + 28 * t + 28) ∨ (o + 59 + 48 * t ≤ lo ∧ hi ≤ o + 59 + 48 * t + 48)) : keepF σ σ' o t := by
  refine ⟨by rw [h.2.1]; exact Nat.le_refl _, fun a a1 a2 a3 => ⟨by rw [h.1], h.2.2 a ?_, by rw [h.2.1]⟩⟩
  rcases hh with q | q <;> omega
/-- the wire changes -/
theorem RQ.wire {σ σ' : hp} {o t B C : Nat} {A A' : aA} {q : List Pkt} (h : RQ σ o t A B C) (ht : t < 2) (k : keepI σ σ' (o + 2 + 28 * t) (o + 2 + 28 * t + 28)) (hq : wireC σ' (o + 2 + 28 * t) q) (e1 : A'.1 t = A.1 t) (e2 : A'.2.1 t = A.2.1 t) (e3 : A'.2.2.1 t = A.2.2.1 t) (e4 : A'.2.2.2 t = q) : RQ σ' o t A' B C := by
  obtain ⟨h1, h2, h3, h4, h5, h6, h7⟩ := h
  unfold RQ
  rw [e1, e2, e3, e4]
  refine ⟨h1.of k.1 k.2.1, h2.cg k.2.1 rfl rfl, hq, h4.cg (fun c _ _ => k.2.2 c (by omega)), h5.cg (k.2.2 _ (by omega)) (fun _ _ _ => rfl) (fun _ q => Or.inl q), h6.cg (k.2.2 _ (by omega)) (k.2.2 _ (by omega)) (fun _ _ => rfl), h7.cg (k.2.2 _ (by omega)) (by rw [k.2.1]) (by rw [k.2.1]) (k.j (by omega)) (fun _ _ => rfl)⟩
/-- the window changes; with it the oldest number -/
theorem RQ.win {σ σ' : hp} {o t B C : Nat} {A A' : aA} {out wait : List Msg} (h : RQ σ o t A B C) (k : keepI σ σ' (o + 59 + 48 * t + 4) (o + 59 + 48 * t + 46)) (hq : winC σ' (o + 59 + 48 * t + 4) (A'.1 t 5) out wait) (ht : t < 2) (e1 : ∀ k, k ≠ 5 → A'.1 t k = A.1 t k) (e2 : A'.2.1 t = out) (e3 : A'.2.2.1 t = wait) (e4 : A'.2.2.2 t = A.2.2.2 t) (ho : isOp (A.1 t) → out = [] → A.2.1 t = [] ∨ A.1 t 6 = 0) : RQ σ' o t A' B C := by
  obtain ⟨h1, h2, h3, h4, h5, h6, h7⟩ := h
  unfold RQ
  rw [e2, e3, e4]
  exact ⟨h1.of k.1 k.2.1, h2.cg k.2.1 (e1 _ (by decide)) (e1 _ (by decide)), h3.cg (fun c _ _ => k.2.2 c (by omega)), hq, h5.cg (k.2.2 _ (by omega)) (fun k _ q => e1 k q) ho, h6.cg (k.2.2 _ (by omega)) (k.2.2 _ (by omega)) (fun k _ => e1 k (by omega)), h7.cg (k.2.2 _ (by omega)) (by rw [k.2.1]) (by rw [k.2.1]) (k.j (by omega)) (fun k _ => e1 k (by omega))⟩
/-- the site's own ints -/
theorem RQ.site {σ σ' : hp} {o t B C : Nat} {A A' : aA} (h : RQ σ o t A B C) (ht : t < 2) (k : keepI σ σ' (o + 59 + 48 * t) (o + 59 + 48 * t + 1)) (hq : siteQ σ' (o + 59 + 48 * t) (A'.1 t) (A.2.1 t) t) (e1 : ∀ k, k = 1 ∨ k = 5 ∨ 8 ≤ k → A'.1 t k = A.1 t k) (e2 : A'.2.1 t = A.2.1 t) (e3 : A'.2.2.1 t = A.2.2.1 t) (e4 : A'.2.2.2 t = A.2.2.2 t) : RQ σ' o t A' B C := by
  obtain ⟨h1, h2, h3, h4, h5, h6, h7⟩ := h
  unfold RQ
  rw [e2, e3, e4]
  refine ⟨h1.of k.1 k.2.1, h2.cg k.2.1 (e1 _ (by omega)) (e1 _ (by omega)), h3.cg (fun c _ _ => k.2.2 c (by omega)), ?_, hq, h6.cg (k.2.2 _ (by omega)) (k.2.2 _ (by omega)) (fun k _ => e1 k (by omega)), h7.cg (k.2.2 _ (by omega)) (by rw [k.2.1]) (by rw [k.2.1]) (k.j (by omega)) (fun k _ => e1 k (by omega))⟩
  rw [e1 5 (by omega)]
  exact h4.cg (fun c _ _ => k.2.2 c (by omega))
/-- what the intake holds -/
theorem RQ.int {σ σ' : hp} {o t B C : Nat} {A A' : aA} (h : RQ σ o t A B C) (ht : t < 2) (k : keepI σ σ' (o + 59 + 48 * t + 46) (o + 59 + 48 * t + 48)) (hq : intC σ' (o + 59 + 48 * t) (A'.1 t)) (e1 : ∀ k, k < 8 ∨ (12 ≤ k ∧ k < 100) ∨ 200 ≤ k → A'.1 t k = A.1 t k) (e2 : A'.2.1 t = A.2.1 t) (e3 : A'.2.2.1 t = A.2.2.1 t) (e4 : A'.2.2.2 t = A.2.2.2 t) : RQ σ' o t A' B C := by
  obtain ⟨h1, h2, h3, h4, h5, h6, h7⟩ := h
  unfold RQ
  rw [e2, e3, e4]
  refine ⟨h1.of k.1 k.2.1, h2.cg k.2.1 (e1 _ (by omega)) (e1 _ (by omega)), h3.cg (fun c _ _ => k.2.2 c (by omega)), ?_, h5.cg (k.2.2 _ (by omega)) (fun k _ _ => e1 k (by omega)) (fun _ q => Or.inl q), hq, h7.cg (k.2.2 _ (by omega)) (by rw [k.2.1]) (by rw [k.2.1]) (k.j (by omega)) (fun k _ => e1 k (by omega))⟩
  rw [e1 5 (by omega)]
  exact h4.cg (fun c _ _ => k.2.2 c (by omega))
/-- one packet more on the wire -/
theorem C_add {σ : hp} {o t B C : Nat} {A : aA} (h : RQ σ o t A B C) (ht : t < 2) : ∃ p σ1, S_X7_add σ (o + 2 + 28 * t) = some (some p, σ1) ∧ keepI σ σ1 (o + 2 + 28 * t) (o + 2 + 28 * t + 28) ∧ σ1.1 p = some (.inl 4) ∧ (∀ x y, ∃ σ2, S_X4_fillControl σ1 p x y = some σ2 ∧ RQ σ2 o t (actl A t x y) B C ∧ keepF σ σ2 o t ∧ keepI σ σ2 (o + 2 + 28 * t) (o + 2 + 28 * t + 28)) ∧ ∀ num acc a msg, mkM σ1 a → msgC σ1 a msg → o + 59 + 48 * t + 4 < a → a + 1 < o + 59 + 48 * t + 46 → ∃ σ2, S_X4_fillData σ1 p num acc (some a) = some σ2 ∧ RQ σ2 o t (alay A t (datP num acc msg)) B C ∧ keepF σ σ2 o t ∧ keepI σ σ2 (o + 2 + 28 * t) (o + 2 + 28 * t + 28) := by
  obtain ⟨p, σ1, e, k, hp, p1, p2, fin⟩ := c_wadd (h.1.2 t ht).1 h.2.2.1
  have lay : ∀ σ2 pk, keepI σ1 σ2 p (p + 2) → pkC σ2 p pk → RQ σ2 o t (alay A t pk) B C ∧ keepF σ σ2 o t ∧ keepI σ σ2 (o + 2 + 28 * t) (o + 2 + 28 * t + 28) := fun σ2 pk k2 hpk => by
    have k3 : keepI σ σ2 (o + 2 + 28 * t) (o + 2 + 28 * t + 28) := k.tr ⟨k2.1, k2.2.1, fun c hc => k2.2.2 c (by omega)⟩
    refine ⟨h.wire ht k3 (fin σ2 pk k2 hpk) ?_ ?_ ?_ ?_, k3.f (Or.inl ⟨Nat.le_refl _, Nat.le_refl _⟩), k3⟩ <;> rw [alay_eq]
    exact va_up_self _ _ _
  refine ⟨p, σ1, e, k, hp.1, fun x y => ?_, fun num acc a msg hM hm a1 a2 => ?_⟩
  · obtain ⟨σ2, e2, k2, hpk⟩ := c_fillC hp x y
    exact ⟨σ2, e2, lay σ2 _ k2 hpk⟩
  · obtain ⟨σ2, e2, k2, hpk⟩ := c_fillD hp hM (by omega) hm num acc
    exact ⟨σ2, e2, lay σ2 _ k2 hpk⟩
/-- sends what is out, from place k on -/
theorem C_sendL {o t B C : Nat} (ht : t < 2) : ∀ (d k N : Nat) (σ : hp) (A : aA), RQ σ o t A B C → k + d = (A.2.1 t).length → d < N → ∃ σ', S_X5_sendOutFrom_2 N σ (o + 59 + 48 * t) (nI k) = some σ' ∧ RQ σ' o t (agR t d k A) B C ∧ keepF σ σ' o t := by
  intro d
  induction d with
  | zero =>
    intro k N σ A h hk hN
    obtain ⟨N, rfl⟩ : ∃ q, N = q + 1 := ⟨N - 1, by omega⟩
    obtain ⟨s1, s2, s3, s4, s5, s6, s7, s8, s9, s10, s11, s12⟩ := (h.1.2 t ht).2
    obtain ⟨f, f1, f2, f3, f4, f5, f6, f7, f8⟩ := h.2.2.2.1
    refine ⟨σ, ?_, h, keepF.rf⟩
    simp only [S_X5_sendOutFrom_2, S_X5_sendOutFrom_2_b, w_gR s1, s4, Option.bind_some, w_gI s11.1, f4]
    rw [if_pos (nI_le (by omega) (by omega))]
  | succ d ih =>
    intro k N σ A h hk hN
    obtain ⟨N, rfl⟩ : ∃ q, N = q + 1 := ⟨N - 1, by omega⟩
    obtain ⟨s1, s2, s3, s4, s5, s6, s7, s8, s9, s10, s11, s12⟩ := (h.1.2 t ht).2
    have hwin := h.2.2.2.1
    obtain ⟨f, f1, f2, f3, f4, f5, f6, f7, f8⟩ := id hwin
    simp only [S_X5_sendOutFrom_2, S_X5_sendOutFrom_2_b, w_gR s1, s4, Option.bind_some, w_gI s11.1, f4]
    rw [if_neg (nI_ge (by omega) (by omega))]
    obtain ⟨p, σ1, e1, k1, hp1, -, fD⟩ := C_add h ht
    have s1' : σ1.1 (o + 59 + 48 * t) = some (.inl 5) := by rw [k1.1]; exact s1
    have s11' : wkN σ1 (o + 59 + 48 * t + 4) := s11.of k1.1 k1.2.1
    have eR : σ1.2.2.1 = σ.2.2.1 := by rw [k1.2.1]
    have hwin1 : winC σ1 (o + 59 + 48 * t + 4) (A.1 t 5) (A.2.1 t) (A.2.2.1 t) := hwin.cg (fun c _ _ => k1.2.2 c (by omega))
    have es : σ1.2.1 (o + 59 + 48 * t) 8 = A.1 t 4 := by rw [k1.2.2 _ (by omega)]; exact h.2.2.2.2.1.2.2.2.2.1
    obtain ⟨a, e2, hM, hm, a1, a2⟩ := c_message s11' hwin1 (show k < (A.2.1 t).length by omega)
    obtain ⟨σ2, e3, hR2, k2, -⟩ := fD ((A.1 t 5 + nI k) &&& 7) (A.1 t 4) a _ hM hm a1 (by omega)
    have w7 : o_rcv σ 7 (some (o + 2 + 28 * t)) = some (o + 2 + 28 * t) := w_rcv (h.1.2 t ht).1.1
    simp only [s2, w7, Option.bind_some, e1, w_gR s1', eR, s4, w_rcv s11'.1, c_number s11' hwin1, w_gI s1', es, e2, w_rcv hp1, e3, nI_1]
    obtain ⟨σ3, e4, hR3, k3⟩ := ih (k + 1) N σ2 (adat A t k) hR2 (by rw [adat_eq]; show _ = (A.2.1 t).length; omega) (by omega)
    exact ⟨σ3, e4, hR3, k2.tr k3⟩
theorem C_send {σ : hp} {o t k B C : Nat} {A : aA} (h : RQ σ o t A B C) (ht : t < 2) (hk : k ≤ (A.2.1 t).length) : ∃ σ', S_X5_sendOutFrom σ (o + 59 + 48 * t) (nI k) = some σ' ∧ RQ σ' o t (agR t ((A.2.1 t).length - k) k A) B C ∧ keepF σ σ' o t := by
  have hl := h.2.2.2.1
  obtain ⟨f, f1, f2, f3, f4, f5, f6, f7, f8⟩ := hl
  exact C_sendL ht _ k FU σ A h (by omega) (by show _ < 1000; omega)
theorem C_flow {σ : hp} {o t B C : Nat} {A : aA} (h : RQ σ o t A B C) (ht : t < 2) : ∃ σ1 σ2, S_X6_letOut σ (o + 59 + 48 * t + 4) = some (nI (A.2.1 t).length, σ1) ∧ σ1.1 = σ.1 ∧ S_X5_sendOutFrom σ1 (o + 59 + 48 * t) (nI (A.2.1 t).length) = some σ2 ∧ RQ σ2 o t (aflow A t) B C ∧ keepF σ σ2 o t := by
  obtain ⟨σ1, e1, k1, hw⟩ := c_letOut (h.1.2 t ht).2.2.2.2.2.2.2.2.2.2.2.1 h.2.2.2.1
  have k1' : keepI σ σ1 (o + 59 + 48 * t + 4) (o + 59 + 48 * t + 46) := ⟨k1.1, k1.2.1, fun c hc => k1.2.2 c (by omega)⟩
  have hR1 : RQ σ1 o t (aW (aO A t (A.2.1 t ++ (A.2.2.1 t).take (letN (A.2.1 t) (A.2.2.1 t)))) t ((A.2.2.1 t).drop (letN (A.2.1 t) (A.2.2.1 t)))) B C := h.win k1' hw ht (fun _ _ => rfl) (va_up_self _ _ _) (va_up_self _ _ _) rfl (fun _ q => Or.inl (by
    rw [List.append_eq_nil_iff] at q
    exact q.1))
  have hlen : ((aW (aO A t (A.2.1 t ++ (A.2.2.1 t).take (letN (A.2.1 t) (A.2.2.1 t)))) t ((A.2.2.1 t).drop (letN (A.2.1 t) (A.2.2.1 t)))).2.1 t).length = (A.2.1 t).length + letN (A.2.1 t) (A.2.2.1 t) := by
    show (va_up A.2.1 t _ t).length = _
    rw [va_up_self, List.length_append, List.length_take, Nat.min_eq_left (by unfold letN; split <;> omega)]
  obtain ⟨σ2, e2, hR2, k2⟩ := C_send (k := (A.2.1 t).length) hR1 ht (by rw [hlen]; omega)
  rw [hlen, Nat.add_sub_cancel_left, ← flow_eq] at hR2
  exact ⟨σ1, σ2, e1, k1.1, e2, hR2, (k1'.f (Or.inr (by omega))).tr k2⟩
theorem C_ack {σ : hp} {o t y B C : Nat} {A : aA} (h : RQ σ o t A B C) (ht : t < 2) (hy : y < 8) (h5 : kNum (A.1 t) 5 8) : ∃ σ', S_X5_takeAcknowledgement σ (o + 59 + 48 * t) (nI y) = some σ' ∧ RQ σ' o t (aack A t (nI y)) B C ∧ keepF σ σ' o t := by
  obtain ⟨s1, s2, s3, s4, s5, s6, s7, s8, s9, s10, s11, s12⟩ := (h.1.2 t ht).2
  obtain ⟨a, ha, haa⟩ := h5
  have hw := h.2.2.2.1
  rw [haa] at hw
  simp only [S_X5_takeAcknowledgement, S_X5_takeAcknowledgement_21, w_gR s1, s4, Option.bind_some, w_rcv s11.1]
  unfold aack
  dsimp only
  rw [haa, y_sub ha hy, nI_clamp (by unfold ixY; omega)]
  rcases c_ackW s11 hw ha hy with ⟨hn, σ1, e1, k1, hw1⟩ | ⟨hn, e1⟩
  · rw [if_pos hn, e1]
    simp only [Option.bind_some]
    rw [if_neg (show ¬ (1 : Int32) = 0 by decide)]
    have k1' : keepI σ σ1 (o + 59 + 48 * t + 4) (o + 59 + 48 * t + 46) := ⟨k1.1, k1.2.1, fun c hc => k1.2.2 c (by omega)⟩
    have s1' : σ1.1 (o + 59 + 48 * t) = some (.inl 5) := by rw [k1.1]; exact s1
    generalize hσ2 : st1 σ1 (o + 59 + 48 * t) (upd (upd (σ1.2.1 (o + 59 + 48 * t)) 10 0) 11 0) = σ2
    have e2 : (o_pI σ1 5 10 (some (o + 59 + 48 * t)) 0).bind (fun s13 => (o_pI s13 5 11 (some (o + 59 + 48 * t)) 0).bind fun s18 => some s18) = some σ2 := by
      have g1 : (st1 σ1 (o + 59 + 48 * t) (upd (σ1.2.1 (o + 59 + 48 * t)) 10 0)).1 (o + 59 + 48 * t) = some (.inl 5) := s1'
      simp only [w_pI s1', Option.bind_some, w_pI g1, st1_self, st1_st1, hσ2]
    rw [e2]
    have k2 : keepI σ1 σ2 (o + 59 + 48 * t) (o + 59 + 48 * t + 1) := by rw [← hσ2]; exact keepI.st (by omega)
    refine ⟨σ2, rfl, ?_, (k1'.f (Or.inr (by omega))).tr (k2.f (Or.inr (by omega)))⟩
    obtain ⟨h1, h2, h3, h4, h5, h6, h7⟩ := h
    have EJ : ∀ k, k ≠ 5 → k ≠ 6 → k ≠ 7 → (aJ (aJ (aJ (aO A t ((A.2.1 t).drop (ixY a y + 1))) t 5 ((nI a + nI (ixY a y + 1)) &&& 7)) t 6 0) t 7 0).1 t k = A.1 t k := fun k b1 b2 b3 => by rw [aJ_nk b3, aJ_nk b2, aJ_nk b1]; rfl
    have E5 : (aJ (aJ (aJ (aO A t ((A.2.1 t).drop (ixY a y + 1))) t 5 ((nI a + nI (ixY a y + 1)) &&& 7)) t 6 0) t 7 0).1 t 5 = (nI a + nI (ixY a y + 1)) &&& 7 := by rw [aJ_nk (by decide), aJ_nk (by decide), aJ_at]
    have E6 : (aJ (aJ (aJ (aO A t ((A.2.1 t).drop (ixY a y + 1))) t 5 ((nI a + nI (ixY a y + 1)) &&& 7)) t 6 0) t 7 0).1 t 6 = 0 := by rw [aJ_nk (by decide), aJ_at]
    have E7 : (aJ (aJ (aJ (aO A t ((A.2.1 t).drop (ixY a y + 1))) t 5 ((nI a + nI (ixY a y + 1)) &&& 7)) t 6 0) t 7 0).1 t 7 = 0 := aJ_at
    have EO : (aJ (aJ (aJ (aO A t ((A.2.1 t).drop (ixY a y + 1))) t 5 ((nI a + nI (ixY a y + 1)) &&& 7)) t 6 0) t 7 0).2.1 t = (A.2.1 t).drop (ixY a y + 1) := va_up_self _ _ _
    generalize hB : aJ (aJ (aJ (aO A t ((A.2.1 t).drop (ixY a y + 1))) t 5 ((nI a + nI (ixY a y + 1)) &&& 7)) t 6 0) t 7 0 = D at EJ E5 E6 E7 EO ⊢
    have EW : D.2.2 = A.2.2 := by rw [← hB]; rfl
    have kk : ∀ c, (c < o + 59 + 48 * t ∨ (o + 59 + 48 * t + 46 ≤ c) ∨ (o + 59 + 48 * t < c ∧ c < o + 59 + 48 * t + 4)) → σ2.2.1 c = σ.2.1 c := fun c hc => by rw [k2.2.2 c (by omega), k1'.2.2 c (by omega)]
    have kR : σ2.2.2 = σ.2.2 := k2.2.1.trans k1.2.1
    have kT : σ2.1 = σ.1 := k2.1.trans k1.1
    refine ⟨h1.of kT kR, h2.cg kR (EJ _ (by decide) (by decide) (by decide)) (EJ _ (by decide) (by decide) (by decide)), ?_, ?_, ?_, ?_, ?_⟩
    · rw [EW]; exact h3.cg (fun c _ _ => kk c (by omega))
    · rw [E5, EO, EW]
      exact hw1.cg (fun c _ _ => k2.2.2 c (by omega))
    · rw [EO]
      obtain ⟨q1, q2, q3, q4, q5, q6, q7, q8, q9, q10⟩ := h5
      have r : ∀ i, i ≠ 10 → i ≠ 11 → σ2.2.1 (o + 59 + 48 * t) i = σ.2.1 (o + 59 + 48 * t) i := fun i b1 b2 => by rw [← hσ2, st1_self, u_n b2, u_n b1, k1.2.2 _ (by omega)]
      unfold siteQ isOp
      rw [EJ 0 (by decide) (by decide) (by decide), EJ 1 (by decide) (by decide) (by decide), EJ 2 (by decide) (by decide) (by decide), EJ 3 (by decide) (by decide) (by decide), EJ 4 (by decide) (by decide) (by decide), E6, E7, r 0 (by decide) (by decide), r 5 (by decide) (by decide), r 6 (by decide) (by decide), r 7 (by decide) (by decide), r 8 (by decide) (by decide), r 9 (by decide) (by decide), r 12 (by decide) (by decide)]
      refine ⟨q1, q2, q3, q4, q5, q6, fun _ => ?_, ?_, q9, fun _ _ => rfl⟩
      · rw [← hσ2, st1_self, u_n (by decide), u_s]
      · rw [← hσ2, st1_self, u_s]
    · exact h6.cg (kk _ (by omega)) (kk _ (by omega)) (fun k _ => EJ k (by omega) (by omega) (by omega))
    · refine h7.cg (kk _ (by omega)) (by rw [kR]) (by rw [kR]) ⟨by rw [kR]; exact Nat.le_refl _, fun c c1 c2 => ⟨by rw [kT], kk c (by omega), by rw [kR]⟩⟩ (fun k _ => EJ k (by omega) (by omega) (by omega))
  · rw [if_neg hn, e1]
    simp only [Option.bind_some]
    rw [if_pos trivial]
    exact ⟨σ, rfl, h, keepF.rf⟩
