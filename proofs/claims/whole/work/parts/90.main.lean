/-! What is left: the law as a function, on every script. -/
theorem law_ok (L : Nat) (xs : Nat → Int32) (hL : L ≤ 2048) (n : Nat) : ∃ z, S_L_law L xs (hp0 n) = some z ∧ z.2.2.2.1 ≤ n + room_1.cells ∧ z.2.2.2.2 ≤ 0 + room_1.slots := by
  sorry
