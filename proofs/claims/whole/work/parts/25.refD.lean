/-! The reference against the abstract link: RepR; flow, control, data, sendAgain. -/
def olN (A : aA) (s : Nat) : Nat := (A.1 s 5).toNatClampNeg
def repT (σ : hp) (m : Nat) (A : aA) : Prop := wiresR σ m A.2.2.2 ∧ winsR σ m (olN A) A.2.1 A.2.2.1 ∧ ∀ s, s < 2 → A.1 s 5 = nI (olN A s)
/-- row, stride, number, how many -/
def tblJ : List (Nat × Nat × Nat × Nat) := [(10, 1, 1, 1), (18, 1, 2, 1), (19, 1, 3, 1), (20, 1, 4, 1), (32, 1, 6, 1), (33, 1, 7, 1), (27, 1, 8, 1), (28, 1, 9, 1), (29, 1, 10, 1), (30, 1, 11, 1), (1, 1, 12, 1), (4, 1, 13, 1), (6, 1, 14, 1), (31, 100, 100, 100), (2, 30, 200, 30), (3, 3000, 1000, 3000), (7, 256, 5000, 256), (8, 256, 6000, 256), (9, 25600, 10000, 25600)]
def intsR (σ : hp) (m : Nat) (A : aA) : Prop := ∀ s, s < 2 → ∀ q ∈ tblJ, ∀ k, k < q.2.2.2 → σ.2.1 (m + q.1) (q.2.1 * s + k) = A.1 s (q.2.2.1 + k)
def stR (σ : hp) (m : Nat) (A : aA) : Prop := ∀ s, s < 2 → σ.2.1 (m + 16) s = (if A.1 s 0 = 3 then 2 else A.1 s 0) ∧ σ.2.1 (m + 17) s = (if A.1 s 0 = 2 then 1 else 0)
def quR (σ : hp) (m : Nat) (A : aA) : Prop := ∀ s, s < 2 → ∀ k, k < 30 → nI k < A.1 s 13 → σ.2.1 (m + 5) (30 * s + k) = A.1 s 12 - A.1 s 13 + nI k
def nxR (σ : hp) (m : Nat) (A : aA) : Prop := (∀ i, i < 100 → σ.2.1 (m + 11) i = A.1 2 i) ∧ σ.2.1 m 11 = A.1 2 100
def RepR (σ : hp) (m : Nat) (A : aA) : Prop := SkM σ m ∧ repT σ m A ∧ intsR σ m A ∧ stR σ m A ∧ quR σ m A ∧ nxR σ m A
def keepM (σ σ' : hp) (m : Nat) : Prop := σ'.1 = σ.1 ∧ σ'.2.2 = σ.2.2 ∧ ∀ b, b < m ∨ m + 36 ≤ b → σ'.2.1 b = σ.2.1 b
theorem keepM.rf {σ : hp} {m : Nat} : keepM σ σ m := ⟨rfl, rfl, fun _ _ => rfl⟩
theorem keepM.tr {σ σ1 σ2 : hp} {m : Nat} (h : keepM σ σ1 m) (k : keepM σ1 σ2 m) : keepM σ σ2 m := ⟨k.1.trans h.1, k.2.1.trans h.2.1, fun b a1 => (k.2.2 b a1).trans (h.2.2 b a1)⟩
theorem keepM.sk {σ σ' : hp} {m : Nat} (k : keepM σ σ' m) (h : SkM σ m) : SkM σ' m := h.of k.1 k.2.1
theorem keepM.st {σ : hp} {m d : Nat} {g : Nat → Int32} (h : d < 36) : keepM σ (st1 σ (m + d) g) m := ⟨rfl, rfl, fun b hb => st1_ne (by omega)⟩
theorem keepW.m {σ σ' : hp} {m : Nat} (h : keepW σ σ' m) : keepM σ σ' m := ⟨h.1, h.2.1, h.2.2.1⟩
theorem RepR.w {σ σ' : hp} {m : Nat} {A A' : aA} (h : RepR σ m A) (k : keepW σ σ' m) (hA : A'.1 = A.1) (hT : repT σ' m A') : RepR σ' m A' := by
  obtain ⟨h1, h2, h3, h4, h5, h6⟩ := h
  have tr : ∀ q ∈ tblJ, trR q.1 = false := by decide
  refine ⟨k.sk h1, hT, fun s hs q hq j hj => ?_, fun s hs => ?_, fun s hs j hj hl => ?_, fun i hi => ?_, ?_⟩
  · rw [k.2.2.2.1 q.1 (tr q hq), hA]
    exact h3 s hs q hq j hj
  · rw [k.2.2.2.1 16 (by decide), k.2.2.2.1 17 (by decide), hA]
    exact h4 s hs
  · rw [k.2.2.2.1 5 (by decide), hA]
    rw [hA] at hl
    exact h5 s hs j hj hl
  · rw [k.2.2.2.1 11 (by decide), hA]
    exact h6.1 i hi
  · rw [k.2.2.2.2, hA]
    exact h6.2
theorem alay_eq {A : aA} {s : Nat} {p : Pkt} : alay A s p = (A.1, A.2.1, A.2.2.1, va_up A.2.2.2 s (layL (A.2.2.2 s) p)) := by
  unfold alay layL
  split
  · rfl
  · have : va_up A.2.2.2 s (A.2.2.2 s) = A.2.2.2 := by
      funext t
      by_cases h : t = s
      · subst h; exact va_up_self _ _ _
      · exact va_up_ne _ _ h
    rw [this]
theorem and7 {a : Nat} (h : a < 2 ^ 31) : nI a &&& 7 = nI (a % 8) := pk_andN (by omega) 3 rfl
theorem aNum_eq {A : aA} {s k : Nat} (h : A.1 s 5 = nI (olN A s)) (hl : olN A s < 8) (hk : k < 100) : aNum A s k = nI ((olN A s + k) % 8) := by
  unfold aNum
  rw [h, nI_add, and7 (by omega)]
theorem j_acc {σ : hp} {m s : Nat} {A : aA} (h : intsR σ m A) (hs : s < 2) : σ.2.1 (m + 20) s = A.1 s 4 := by
  have := h s hs (20, 1, 4, 1) (by decide) 0 (by decide)
  simpa using this
theorem j_ticks {σ : hp} {m s : Nat} {A : aA} (h : intsR σ m A) (hs : s < 2) : σ.2.1 (m + 32) s = A.1 s 6 := by
  have := h s hs (32, 1, 6, 1) (by decide) 0 (by decide)
  simpa using this
theorem R_control {σ : hp} {m s : Nat} {A : aA} (h : RepR σ m A) (hs : s < 2) (x y : Int32) : ∃ σ', S_X9_control σ m (nI s) x y = some σ' ∧ RepR σ' m (actl A s x y) ∧ keepW σ σ' m := by
  obtain ⟨σ', e, hQ, k⟩ := r_control h.1 hs h.2.1.1 x y
  refine ⟨σ', e, h.w k.w (by unfold actl; rw [alay_eq]) ?_, k.w⟩
  unfold actl
  rw [alay_eq]
  exact ⟨hQ, k.win h.2.1.2.1, h.2.1.2.2⟩
def aflN : Nat → aA → Nat → aA
  | 0, A, _ => A
  | k + 1, A, s => aflN k (aflow1 A s) s
theorem aflow_N {A : aA} {s : Nat} : aflow A s = aflN 3 A s := rfl
theorem aflow1_s {A : aA} {s : Nat} (h : A.2.2.1 s = [] ∨ 3 ≤ (A.2.1 s).length) : aflow1 A s = A := by
  unfold aflow1
  split
  · rfl
  · rename_i m ws hw
    rcases h with h | h
    · rw [h] at hw; cases hw
    · rw [if_neg (by omega)]
theorem aflN_s {A : aA} {s : Nat} (h : A.2.2.1 s = [] ∨ 3 ≤ (A.2.1 s).length) : ∀ k, aflN k A s = A := by
  intro k
  induction k with
  | zero => rfl
  | succ k ih => rw [aflN, aflow1_s h]; exact ih
theorem aflow1_m {A : aA} {s : Nat} {msg : Msg} {ws : List Msg} (h : A.2.2.1 s = msg :: ws) (h2 : (A.2.1 s).length < 3) : aflow1 A s = (A.1, va_up A.2.1 s (A.2.1 s ++ [msg]), va_up A.2.2.1 s ws, va_up A.2.2.2 s (layL (A.2.2.2 s) (datP (aNum A s (A.2.1 s).length) (A.1 s 4) msg))) := by
  unfold aflow1
  rw [h]
  dsimp only
  rw [if_pos h2]
  unfold adat
  rw [alay_eq]
  unfold aW aO aNum
  dsimp only
  rw [va_up_self, show (A.2.1 s ++ [msg]).getD (A.2.1 s).length (fun _ => 0) = msg by simp [List.getD]]
theorem R_flowN {m s : Nat} (hs : s < 2) : ∀ (k n : Nat) (σ : hp) (A : aA), RepR σ m A → 3 - (A.2.1 s).length ≤ k → k < n → (A.2.1 s = [] → A.2.2.1 s ≠ [] → A.1 s 6 = 0) → ∃ σ', S_X9_flow_h0 n σ m (nI s) = some σ' ∧ RepR σ' m (aflN k A s) ∧ keepW σ σ' m := by
  have stuck : ∀ (k n : Nat) (σ : hp) (A : aA), RepR σ m A → k < n → (A.2.2.1 s = [] ∨ 3 ≤ (A.2.1 s).length) → ∃ σ', S_X9_flow_h0 n σ m (nI s) = some σ' ∧ RepR σ' m (aflN k A s) ∧ keepW σ σ' m := by
    intro k n σ A hR hk hst
    obtain ⟨n, rfl⟩ : ∃ q, n = q + 1 := ⟨n - 1, by omega⟩
    have h := hR.1
    obtain ⟨a1, a2, a3, a4, -⟩ := hR.2.1.2.1 s hs
    rw [aflN_s hst]
    refine ⟨σ, ?_, hR, keepW.rf⟩
    simp only [S_X9_flow_h0, S_X9_flow_h0_b, S_X9_flow_204, gM26 h, gM23 h, gM33 h, o_ldI, aM26 h, aM23 h, w_ix hs (by decide), Option.bind_some, a1, a3]
    rcases hst with hst | hst
    · rw [if_pos (by rw [hst]; decide)]
    · by_cases hw : nI (A.2.2.1 s).length ≤ 0
      · rw [if_pos hw]
      · rw [if_neg hw, if_pos (show (3 : Int32) ≤ nI (A.2.1 s).length from nI_le (a := 3) hst (by omega))]
  intro k
  induction k with
  | zero =>
    intro n σ A hR h3 hk ht
    exact stuck 0 n σ A hR hk (Or.inr (by omega))
  | succ k ih =>
    intro n σ A hR h3 hk ht
    by_cases hst : A.2.2.1 s = [] ∨ 3 ≤ (A.2.1 s).length
    · exact stuck (k + 1) n σ A hR hk hst
    · obtain ⟨msg, ws, hW⟩ : ∃ msg ws, A.2.2.1 s = msg :: ws := by
        cases hq : A.2.2.1 s with
        | nil => exact absurd (Or.inl hq) hst
        | cons a b => exact ⟨a, b, rfl⟩
      have hlt : (A.2.1 s).length < 3 := Nat.not_le.mp fun q => hst (Or.inr q)
      obtain ⟨n, rfl⟩ : ∃ q, n = q + 1 := ⟨n - 1, by omega⟩
      have hol := (hR.2.1.2.1 s hs).2.2.2.2.1
      obtain ⟨σ1, e1, hQ1, hW1, k1⟩ := r_flow1 hR.1 hs hR.2.1.1 hR.2.1.2.1 hW hlt (fun ho => by rw [j_ticks hR.2.2.1 hs]; exact ht ho (by rw [hW]; simp)) n
      have hR1 : RepR σ1 m (aflow1 A s) := by
        refine hR.w k1 (by rw [aflow1_m hW hlt]) ?_
        rw [aflow1_m hW hlt]
        refine ⟨?_, hW1, hR.2.1.2.2⟩
        rw [aNum_eq (hR.2.1.2.2 s hs) hol (by omega), ← j_acc hR.2.2.1 hs]
        exact hQ1
      obtain ⟨σ2, e2, hR2, k2⟩ := ih n σ1 (aflow1 A s) hR1 (by rw [aflow1_m hW hlt]; dsimp only; rw [va_up_self, List.length_append, List.length_singleton]; omega) (by omega) (fun ho => by rw [aflow1_m hW hlt] at ho; dsimp only at ho; rw [va_up_self] at ho; simp at ho)
      exact ⟨σ2, by rw [e1, e2], hR2, k1.tr k2⟩
theorem R_flow {σ : hp} {m s : Nat} {A : aA} (h : RepR σ m A) (hs : s < 2) (ht : A.2.1 s = [] → A.2.2.1 s ≠ [] → A.1 s 6 = 0) : ∃ σ', S_X9_flow σ m (nI s) = some σ' ∧ RepR σ' m (aflow A s) ∧ keepW σ σ' m := R_flowN hs 3 FU σ A h (by omega) (by decide) ht
