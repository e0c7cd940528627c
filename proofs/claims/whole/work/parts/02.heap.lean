/-! The heap as functions: what each address holds (T), its ints (I), its references (R), the next address, slots made. Operations are partial: none where the machine would throw. -/
abbrev hT : Type := Option (Nat ⊕ Nat × Nat)
abbrev hp : Type := (Nat → hT) × (Nat → Nat → Int32) × (Nat → Nat → Option Nat) × Nat × Nat
def up2 {α : Type} (f : Nat → Nat → α) (a k : Nat) (x : α) : Nat → Nat → α := fun b j => if b = a ∧ j = k then x else f b j
def sI (σ : hp) (I : Nat → Nat → Int32) : hp := (σ.1, I, σ.2.2)
def sR (σ : hp) (R : Nat → Nat → Option Nat) : hp := (σ.1, σ.2.1, R, σ.2.2.2)
def hp_new (σ : hp) (x : Nat ⊕ Nat × Nat) (n : Nat) : hp := (va_up σ.1 σ.2.2.2.1 (some x), va_up σ.2.1 σ.2.2.2.1 (fun _ => 0), va_up σ.2.2.1 σ.2.2.2.1 (fun _ => none), σ.2.2.2.1 + 1, σ.2.2.2.2 + n)
/-- what the heap holds: class table D, array classes dA, which slots of a class are references (rk); arrays of type 0 and 1 hold ints, others references -/
def hp_v (rk : Nat → Nat → Bool) (c : Nat) (σ : hp) (a k : Nat) : Value := if rk c k = true then va_rf (σ.2.2.1 a k) else .int (σ.2.1 a k)
def hp_c (dA : Nat → ClassId) (σ : hp) (a t n : Nat) : Cell := if t < 2 then vp_cell (dA t) (n, .inl (σ.2.1 a)) else vp_cell (dA t) (n, .inr (.inr (.inr (.inr (σ.2.2.1 a)))))
def hp_at (D : va_G) (dA : Nat → ClassId) (cl : List vw_C) (rk : Nat → Nat → Bool) (σ : hp) (a : Nat) (H : Heap) : Prop := match σ.1 a with
  | none => True
  | some (.inl c) => ∃ r : vw_C, cl[c]? = some r ∧ t_OB a (D.1 c) r.2.2 (D.2 c) H (hp_v rk c σ a)
  | some (.inr q) => H[a]? = some (hp_c dA σ a q.1 q.2)
def hp_w (D : va_G) (dA : Nat → ClassId) (cl : List vw_C) (rk : Nat → Nat → Bool) (base : Nat) (σ : hp) (H : Heap) : Prop :=
  H.size = σ.2.2.2.1 ∧ base ≤ σ.2.2.2.1 ∧ (∀ a, σ.1 a ≠ none → base ≤ a) ∧ ∀ a, hp_at D dA cl rk σ a H
-- operations
def o_gI (σ : hp) (c k : Nat) (r : Option Nat) : Option Int32 := match r with
  | none => none
  | some a => if σ.1 a = some (.inl c) then some (σ.2.1 a k) else none
def o_gR (σ : hp) (c k : Nat) (r : Option Nat) : Option (Option Nat) := match r with
  | none => none
  | some a => if σ.1 a = some (.inl c) then some (σ.2.2.1 a k) else none
def o_pI (σ : hp) (c k : Nat) (r : Option Nat) (x : Int32) : Option hp := match r with
  | none => none
  | some a => if σ.1 a = some (.inl c) then some (sI σ (up2 σ.2.1 a k x)) else none
def o_pR (σ : hp) (c k : Nat) (r : Option Nat) (x : Option Nat) : Option hp := match r with
  | none => none
  | some a => if σ.1 a = some (.inl c) then some (sR σ (up2 σ.2.2.1 a k x)) else none
/-- a boolean -/
def o_z (x : Int32) : Option Int32 := if x = 0 ∨ x = 1 then some x else none
/-- an array of type t: its length -/
def o_a (σ : hp) (t : Nat) (r : Option Nat) : Option (Nat × Nat) := match r with
  | none => none
  | some a => match σ.1 a with
    | some (.inr q) => if q.1 = t then some (a, q.2) else none
    | _ => none
def o_ix (n : Nat) (i : Int32) : Option Nat := if i < 0 ∨ n ≤ i.toNatClampNeg then none else some i.toNatClampNeg
def o_len (σ : hp) (t : Nat) (r : Option Nat) : Option Int32 := (o_a σ t r).bind fun q => some (Int32.ofNat q.2)
def o_ldI (σ : hp) (t : Nat) (r : Option Nat) (i : Int32) : Option Int32 := (o_a σ t r).bind fun q => (o_ix q.2 i).bind fun k => some (σ.2.1 q.1 k)
def o_stI (σ : hp) (t : Nat) (r : Option Nat) (i x : Int32) : Option hp := (o_a σ t r).bind fun q => (o_ix q.2 i).bind fun k => some (sI σ (up2 σ.2.1 q.1 k x))
def o_ldQ (σ : hp) (t : Nat) (r : Option Nat) (i : Int32) : Option (Option Nat) := (o_a σ t r).bind fun q => (o_ix q.2 i).bind fun k => some (σ.2.2.1 q.1 k)
def o_is (σ : hp) (c : Nat) (x : Option Nat) : Option Unit := match x with
  | none => none
  | some v => if σ.1 v = some (.inl c) then some () else none
def o_stQ (σ : hp) (t c : Nat) (r : Option Nat) (i : Int32) (x : Option Nat) : Option hp := (o_a σ t r).bind fun q => (o_ix q.2 i).bind fun k => (o_is σ c x).bind fun _ => some (sR σ (up2 σ.2.2.1 q.1 k x))
def o_na (σ : hp) (t : Nat) (n : Int32) : Option (Option Nat × hp) :=
  if n < 0 ∨ 100000 < n.toNatClampNeg then none else some (some σ.2.2.2.1, hp_new σ (.inr (t, n.toNatClampNeg)) n.toNatClampNeg)
def o_new (σ : hp) (c n : Nat) : Option (Option Nat × hp) := some (some σ.2.2.2.1, hp_new σ (.inl c) n)
def o_nz (x : Int32) : Option Unit := if x = 0 then none else some ()
def o_cpy (σ : hp) (t : Nat) (r : Option Nat) (sp : Int32) (r1 : Option Nat) (dp n : Int32) : Option hp :=
  (o_a σ t r).bind fun q => (o_a σ t r1).bind fun q1 => if ¬ sp < 0 ∧ ¬ dp < 0 ∧ ¬ n < 0 ∧ sp.toNatClampNeg + n.toNatClampNeg ≤ q.2 ∧ dp.toNatClampNeg + n.toNatClampNeg ≤ q1.2 then
    some (sI σ (va_up σ.2.1 q1.1 (va_cpy (σ.2.1 q.1) (σ.2.1 q1.1) sp.toNatClampNeg dp.toNatClampNeg n.toNatClampNeg))) else none
-- what an operation that went well says
theorem o_b {α β : Type} {o : Option α} {f : α → Option β} {z : β} (h : o.bind f = some z) : ∃ x, o = some x ∧ f x = some z := Option.bind_eq_some_iff.mp h
theorem o_gI_s {σ : hp} {c k : Nat} {r : Option Nat} {x : Int32} (h : o_gI σ c k r = some x) : ∃ a, r = some a ∧ σ.1 a = some (.inl c) ∧ σ.2.1 a k = x := by
  cases r with
  | none => cases h
  | some a =>
    unfold o_gI at h
    dsimp only at h
    split at h
    · exact ⟨a, rfl, by assumption, Option.some.inj h⟩
    · cases h
theorem o_gR_s {σ : hp} {c k : Nat} {r x : Option Nat} (h : o_gR σ c k r = some x) : ∃ a, r = some a ∧ σ.1 a = some (.inl c) ∧ σ.2.2.1 a k = x := by
  cases r with
  | none => cases h
  | some a =>
    unfold o_gR at h
    dsimp only at h
    split at h
    · exact ⟨a, rfl, by assumption, Option.some.inj h⟩
    · cases h
theorem o_pI_s {σ σ1 : hp} {c k : Nat} {r : Option Nat} {x : Int32} (h : o_pI σ c k r x = some σ1) : ∃ a, r = some a ∧ σ.1 a = some (.inl c) ∧ σ1 = sI σ (up2 σ.2.1 a k x) := by
  cases r with
  | none => cases h
  | some a =>
    unfold o_pI at h
    dsimp only at h
    split at h
    · exact ⟨a, rfl, by assumption, (Option.some.inj h).symm⟩
    · cases h
theorem o_pR_s {σ σ1 : hp} {c k : Nat} {r x : Option Nat} (h : o_pR σ c k r x = some σ1) : ∃ a, r = some a ∧ σ.1 a = some (.inl c) ∧ σ1 = sR σ (up2 σ.2.2.1 a k x) := by
  cases r with
  | none => cases h
  | some a =>
    unfold o_pR at h
    dsimp only at h
    split at h
    · exact ⟨a, rfl, by assumption, (Option.some.inj h).symm⟩
    · cases h
theorem o_a_s {σ : hp} {t : Nat} {r : Option Nat} {q : Nat × Nat} (h : o_a σ t r = some q) : r = some q.1 ∧ σ.1 q.1 = some (.inr (t, q.2)) := by
  cases r with
  | none => cases h
  | some a =>
    unfold o_a at h
    dsimp only at h
    split at h
    · rename_i q0 hq
      split at h
      · rename_i ht
        cases h
        exact ⟨rfl, by rw [hq, ← ht]⟩
      · cases h
    · cases h
theorem o_ix_s {n : Nat} {i : Int32} {k : Nat} (h : o_ix n i = some k) : vp_in i n ∧ k = i.toNatClampNeg := by
  unfold o_ix at h
  split at h
  · cases h
  · rename_i hc
    exact ⟨hc, (Option.some.inj h).symm⟩
theorem o_z_s {x y : Int32} (h : o_z x = some y) : y = x ∧ (x = 0 ∨ x = 1) := by
  unfold o_z at h
  split at h
  · rename_i hc
    cases h
    exact ⟨rfl, hc⟩
  · cases h
theorem o_is_s {σ : hp} {c : Nat} {x : Option Nat} {z : Unit} (h : o_is σ c x = some z) : ∃ v, x = some v ∧ σ.1 v = some (.inl c) := by
  cases x with
  | none => cases h
  | some a =>
    unfold o_is at h
    dsimp only at h
    split at h
    · exact ⟨a, rfl, by assumption⟩
    · cases h
theorem o_na_s {σ : hp} {t : Nat} {n : Int32} {z : Option Nat × hp} (h : o_na σ t n = some z) : ¬ n < 0 ∧ n.toNatClampNeg ≤ 100000 ∧ z = (some σ.2.2.2.1, hp_new σ (.inr (t, n.toNatClampNeg)) n.toNatClampNeg) := by
  unfold o_na at h
  split at h
  · cases h
  · rename_i hc
    exact ⟨fun q => hc (Or.inl q), Nat.not_lt.mp fun q => hc (Or.inr q), (Option.some.inj h).symm⟩
theorem o_nz_s {x : Int32} {z : Unit} (h : o_nz x = some z) : ¬ x = 0 := by
  unfold o_nz at h
  split at h
  · cases h
  · assumption
section HPW
variable {D : va_G} {dA : Nat → ClassId} {cl : List vw_C} {rk : Nat → Nat → Bool} {base : Nat} {σ σ1 : hp} {H H1 : Heap} {a : Nat}
theorem hp_at.obj (h : hp_at D dA cl rk σ a H) {c : Nat} (hx : σ.1 a = some (.inl c)) : ∃ r : vw_C, cl[c]? = some r ∧ t_OB a (D.1 c) r.2.2 (D.2 c) H (hp_v rk c σ a) := by
  unfold hp_at at h
  rw [hx] at h
  exact h
theorem hp_at.arr (h : hp_at D dA cl rk σ a H) {t n : Nat} (hx : σ.1 a = some (.inr (t, n))) : H[a]? = some (hp_c dA σ a t n) := by
  unfold hp_at at h
  rw [hx] at h
  exact h
theorem hp_at.lt (h : hp_at D dA cl rk σ a H) (hx : σ.1 a ≠ none) : a < H.size := by
  unfold hp_at at h
  split at h
  · rename_i q
    exact absurd q hx
  · obtain ⟨r, -, cell, h2, -⟩ := h
    exact (Array.getElem?_eq_some_iff.mp h2).1
  · exact (Array.getElem?_eq_some_iff.mp h).1
theorem hp_at.kept (h : hp_at D dA cl rk σ a H) (hq : σ.1 a ≠ none → H1[a]? = H[a]?) (h1 : σ1.1 a = σ.1 a) (h2 : σ1.2.1 a = σ.2.1 a) (h3 : σ1.2.2.1 a = σ.2.2.1 a) : hp_at D dA cl rk σ1 a H1 := by
  unfold hp_at at h ⊢
  rw [h1]
  split
  · trivial
  · rename_i c hc
    rw [hc] at h hq
    obtain ⟨r, g1, g2⟩ := h
    exact ⟨r, g1, (g2.kept (hq (by simp))).to (fun k _ => by unfold hp_v; rw [h2, h3])⟩
  · rename_i q hc
    rw [hc] at h hq
    rw [hq (by simp)]
    refine Eq.trans h ?_
    unfold hp_c
    rw [h2, h3]
/-- one cell changes -/
theorem hp_w.chg (h : hp_w D dA cl rk base σ H) (hz : H1.size = H.size) (oq : ∀ q : Nat, q ≠ a → H1[q]? = H[q]?) (h1 : σ1.1 = σ.1) (h2 : ∀ b, b ≠ a → σ1.2.1 b = σ.2.1 b) (h3 : ∀ b, b ≠ a → σ1.2.2.1 b = σ.2.2.1 b) (h4 : σ1.2.2.2 = σ.2.2.2) (ha : hp_at D dA cl rk σ1 a H1) : hp_w D dA cl rk base σ1 H1 := by
  refine ⟨by rw [hz, h4]; exact h.1, by rw [h4]; exact h.2.1, fun b hb => h.2.2.1 b (by rw [← h1]; exact hb), fun b => ?_⟩
  by_cases hba : b = a
  · subst hba
    exact ha
  · exact (h.2.2.2 b).kept (fun _ => oq b hba) (by rw [h1]) (h2 b hba) (h3 b hba)
/-- one cell more -/
theorem hp_w.new (h : hp_w D dA cl rk base σ H) {x : Nat ⊕ Nat × Nat} {n : Nat} (hz : H1.size = H.size + 1) (oq : ∀ q : Nat, q < H.size → H1[q]? = H[q]?) (ha : hp_at D dA cl rk (hp_new σ x n) H.size H1) : hp_w D dA cl rk base (hp_new σ x n) H1 := by
  have h1 := h.1
  refine ⟨by rw [hz, h1]; rfl, Nat.le_succ_of_le h.2.1, fun b hb => ?_, fun b => ?_⟩
  · by_cases hba : b = σ.2.2.2.1
    · rw [hba]; exact h.2.1
    · exact h.2.2.1 b (fun q => hb ((va_up_ne _ _ hba).trans q))
  · by_cases hba : b = σ.2.2.2.1
    · rw [hba, ← h1]; exact ha
    · exact (h.2.2.2 b).kept (fun q => oq b ((h.2.2.2 b).lt q)) (va_up_ne _ _ hba) (va_up_ne _ _ hba) (va_up_ne _ _ hba)
theorem up2_ne {α : Type} {f : Nat → Nat → α} {a k b : Nat} {x : α} (h : b ≠ a) : up2 f a k x b = f b := by
  funext j
  simp [up2, h]
theorem up2_at {α : Type} {f : Nat → Nat → α} {a k j : Nat} {x : α} : up2 f a k x a j = if j = k then x else f a j := by
  simp [up2]
end HPW
