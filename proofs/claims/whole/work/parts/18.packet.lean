/-! Pure: packets of the class. -/
/-- a packet's cells: p the object, q its bytes -/
def isP (σ : hp) (p q : Nat) : Prop := σ.1 p = some (.inl 4) ∧ σ.2.2.1 p 0 = some q ∧ σ.1 q = some (.inr (0, 38)) ∧ p ≠ q
theorem p_x {σ : hp} {p q : Nat} (h : isP σ p q) : S_X4_x σ p = some ((σ.2.1 q 4 >>> ((3 : Int32) &&& 31)) &&& 7) := by
  obtain ⟨h1, h2, h3, h4⟩ := h
  simp [S_X4_x, w_gR h1, h2, show (4 : Int32) = nI 4 from rfl, w_ldI h3]
theorem p_y {σ : hp} {p q : Nat} (h : isP σ p q) : S_X4_y σ p = some (σ.2.1 q 4 &&& 7) := by
  obtain ⟨h1, h2, h3, h4⟩ := h
  simp [S_X4_y, w_gR h1, h2, show (4 : Int32) = nI 4 from rfl, w_ldI h3]
theorem p_isData {σ : hp} {p q : Nat} (h : isP σ p q) : S_X4_isData σ p = some (if σ.2.1 p 1 ≤ 6 then 0 else 1) := by
  obtain ⟨h1, h2, h3, h4⟩ := h
  simp only [S_X4_isData, S_X4_isData_14, w_gI h1, Option.bind_some]
  split <;> rfl
theorem p_mlen {σ : hp} {p q : Nat} (h : isP σ p q) : S_X4_messageLength σ p = some (σ.2.1 q 6) := by
  obtain ⟨h1, h2, h3, h4⟩ := h
  simp [S_X4_messageLength, w_gR h1, h2, show (6 : Int32) = nI 6 from rfl, w_ldI h3]
theorem p_mbyte {σ : hp} {p q k : Nat} (h : isP σ p q) (hk : k < 31) : S_X4_messageByte σ p (nI k) = some (σ.2.1 q (7 + k)) := by
  obtain ⟨h1, h2, h3, h4⟩ := h
  simp only [S_X4_messageByte, S_X4_messageByte_23, w_gR h1, h2, Option.bind_some]
  rw [if_neg (nI_pos (by omega)), if_neg (show ¬ (31 : Int32) ≤ nI k from nI_ge (b := 31) hk (by decide)), show (7 : Int32) + nI k = nI (7 + k) from nI_add 7 k, w_ldI h3 (by omega) (by decide)]
  rfl
theorem p_fillHead {σ : hp} {p q : Nat} (h : isP σ p q) (kind c check : Int32) : S_X4_fillHead σ p kind c check = some (st1 σ q (hdF (σ.2.1 q) kind c check)) := by
  obtain ⟨h1, h2, h3, h4⟩ := h
  simp [S_X4_fillHead, o_gR, a_stI, o_a, wx0, wx1, wx2, wx3, wx4, wx5, h1, h2, h3, st1_T, st1_R, st1_st1, st1_self]
  rfl
