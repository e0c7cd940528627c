/-! The reference: sums, heads, packets laid on a wire. -/
/-- places off + a .. off + b - 1 are written by g -/
def bw (f : Nat → Int32) (off a b : Nat) (g : Nat → Int32) : Nat → Int32 := fun j => if off + a ≤ j ∧ j < off + b then g (j - off) else f j
theorem bw_0 {f : Nat → Int32} {off a : Nat} {g : Nat → Int32} : bw f off a a g = f := by
  funext j
  unfold bw
  rw [if_neg (by omega)]
theorem bw_s {f : Nat → Int32} {off k b : Nat} {g : Nat → Int32} (h : k < b) : bw (upd f (off + k) (g k)) off (k + 1) b g = bw f off k b g := by
  funext j
  unfold bw upd
  by_cases h1 : j = off + k
  · subst h1
    rw [if_neg (by omega), if_pos rfl, if_pos (by omega), Nat.add_sub_cancel_left]
  · rw [if_neg h1]
    by_cases h2 : off + (k + 1) ≤ j ∧ j < off + b
    · rw [if_pos h2, if_pos (by omega)]
    · rw [if_neg h2, if_neg (by omega)]
theorem bw_in {f : Nat → Int32} {off a b i : Nat} {g : Nat → Int32} (h : a ≤ i) (h2 : i < b) : bw f off a b g (off + i) = g i := by
  unfold bw
  rw [if_pos (by omega), Nat.add_sub_cancel_left]
theorem bw_out {f : Nat → Int32} {off a b j : Nat} {g : Nat → Int32} (h : j < off + a ∨ off + b ≤ j) : bw f off a b g j = f j := by
  unfold bw
  rw [if_neg (by omega)]
theorem st1_of {σ σ0 : hp} {a : Nat} {g : Nat → Int32} (h : σ = st1 σ0 a (σ.2.1 a)) : st1 σ a g = st1 σ0 a g := by
  have h2 : st1 (st1 σ0 a (σ.2.1 a)) a g = st1 σ0 a g := st1_st1
  rw [← h] at h2
  exact h2
theorem nIlt {a b : Nat} (ha : a < 2 ^ 31) (hb : b < 2 ^ 31) : (nI a < nI b) = (a < b) := propext (nI_ltI ha hb)
theorem nIle {a b : Nat} (ha : a < 2 ^ 31) (hb : b < 2 ^ 31) : (nI a ≤ nI b) = (a ≤ b) := propext (nI_leI ha hb)
theorem nIeq {a b : Nat} (ha : a < 2 ^ 31) (hb : b < 2 ^ 31) : (nI a = nI b) = (a = b) := propext (nI_eq ha hb)
theorem r_sumL {σ : hp} {m : Nat} (h : SkM σ m) (f : Nat → Int32) (hf : ∀ i, i < 32 → σ.2.1 (m + 15) (6 + i) = f i) : ∀ (d k n : Nat), k + d = 32 → d < n → S_X9_sum_8 n σ m 6 (smN f k).1 (smN f k).2 (nI k) = some (sumF f) := by
  intro d
  induction d with
  | zero =>
    intro k n hk hn
    obtain ⟨n, rfl⟩ : ∃ q, n = q + 1 := ⟨n - 1, by omega⟩
    obtain rfl : k = 32 := by omega
    simp only [S_X9_sum_8, S_X9_sum_8_b]
    rw [if_pos (show (32 : Int32) ≤ nI 32 by decide)]
    rfl
  | succ d ih =>
    intro k n hk hn
    obtain ⟨n, rfl⟩ : ∃ q, n = q + 1 := ⟨n - 1, by omega⟩
    simp only [S_X9_sum_8, S_X9_sum_8_b, S_X9_left, gM15 h, Option.bind_some]
    rw [if_neg (show ¬ (32 : Int32) ≤ nI k from nI_ge (b := 32) (by omega) (by decide)), show (6 : Int32) + nI k = nI (6 + k) from nI_add 6 k]
    simp only [o_ldI, aM15 h, Option.bind_some, w_ix (show 6 + k < 38 by omega) (by decide), hf k (by omega), S_X9_sum_62, nI_1, show (32 : Int32) - nI k = nI (32 - k) from pk_sub (a := 32) (by omega)]
    have key := ih (k + 1) n (by omega) (by omega)
    by_cases c : (smN f k).1 < (sm1 (smN f k).1 (smN f k).2 (f k) (nI (32 - k))).1 ∨ True
    · unfold smN sm1 at key
      dsimp only at key
      split
      · rename_i hc
        rw [if_neg (Int32.not_lt.mpr hc)] at key
        exact key
      · rename_i hc
        rw [if_pos (Int32.not_le.mp hc)] at key
        exact key
    · exact absurd (Or.inr trivial) c
theorem r_sum {σ : hp} {m : Nat} (h : SkM σ m) (f : Nat → Int32) (hf : ∀ i, i < 32 → σ.2.1 (m + 15) (6 + i) = f i) : S_X9_sum σ m 6 = some (sumF f) := r_sumL h f hf 32 0 FU rfl (by decide)
theorem r_head30 {σ : hp} {m : Nat} (h : SkM σ m) (k c w : Int32) : S_X9_head_30 σ m k c (w &&& 65535) = some (st1 (st1 σ (m + 15) (hdF (σ.2.1 (m + 15)) k c w)) m (upd (σ.2.1 m) 16 (if k = 9 then 6 else 38))) := by
  have t9 := h.1
  obtain ⟨r15, a15⟩ := h.2 (15, 15, 0, 38) (by decide)
  dsimp only at r15 a15
  by_cases hk : k = 9
  · simp [S_X9_head_30, S_X9_head_111, hk, o_gR, a_pI, o_a, a_stI, o_ldI, wx0, wx1, wx2, wx3, wx4, wx5, t9, r15, a15, st1_T, st1_R, st1_st1, st1_self, st1_ne, u_s, u_n, m255, m8]
    rfl
  · simp [S_X9_head_30, S_X9_head_111, hk, o_gR, a_pI, o_a, a_stI, o_ldI, wx0, wx1, wx2, wx3, wx4, wx5, t9, r15, a15, st1_T, st1_R, st1_st1, st1_self, st1_ne, u_s, u_n, m255, m8]
    rfl
theorem r_head9 {σ : hp} {m : Nat} (h : SkM σ m) (c : Int32) : S_X9_head σ m 9 c = some (st1 (st1 σ (m + 15) (hdF (σ.2.1 (m + 15)) 9 c (43690 - c))) m (upd (σ.2.1 m) 16 6)) := by
  simp only [S_X9_head]
  rw [if_pos trivial, r_head30 h]
  rfl
theorem r_head1 {σ : hp} {m : Nat} (h : SkM σ m) (f : Nat → Int32) (hf : ∀ i, i < 32 → σ.2.1 (m + 15) (6 + i) = f i) (c : Int32) : S_X9_head σ m 1 c = some (st1 (st1 σ (m + 15) (hdF (σ.2.1 (m + 15)) 1 c (43690 - (sumF f ^^^ c)))) m (upd (σ.2.1 m) 16 38)) := by
  simp only [S_X9_head]
  rw [if_neg (by decide)]
  simp only [gMr h, r_sum h f hf, Option.bind_some]
  rw [r_head30 h]
  rfl
theorem r_layL {σ0 : hp} {m at_ s z : Nat} (h0 : SkM σ0 m) (hat : at_ < 24) (hs : s < 2) (hz : σ0.2.1 m 16 = nI z) (hz2 : z < 100) : ∀ (d k n : Nat) (σ : hp), k + d = 38 → d < n → σ = st1 σ0 (m + 13) (σ.2.1 (m + 13)) → S_X9_lay_36 n σ m (nI s) (nI at_) (nI k) = some (st1 (st1 σ (m + 13) (bw (σ.2.1 (m + 13)) (38 * at_) k 38 (fun i => if i < z then σ0.2.1 (m + 15) i else 0))) (m + 12) (upd (σ0.2.1 (m + 12)) s (σ0.2.1 (m + 12) s + 1))) := by
  intro d
  induction d with
  | zero =>
    intro k n σ hk hn hσ
    obtain ⟨n, rfl⟩ : ∃ q, n = q + 1 := ⟨n - 1, by omega⟩
    obtain rfl : k = 38 := by omega
    have h : SkM σ m := by rw [hσ]; exact h0
    have e12 : σ.2.1 (m + 12) = σ0.2.1 (m + 12) := by rw [hσ, st1_ne (by omega)]
    simp only [S_X9_lay_36, S_X9_lay_36_b]
    rw [if_pos (show (38 : Int32) ≤ nI 38 by decide)]
    simp only [gM12 h, o_ldI, aM12 h, w_ix hs (by decide), a_stI, Option.bind_some, e12, bw_0, st1_id]
  | succ d ih =>
    intro k n σ hk hn hσ
    obtain ⟨n, rfl⟩ : ∃ q, n = q + 1 := ⟨n - 1, by omega⟩
    have h : SkM σ m := by rw [hσ]; exact h0
    have e15 : σ.2.1 (m + 15) = σ0.2.1 (m + 15) := by rw [hσ, st1_ne (by omega)]
    have em : σ.2.1 m = σ0.2.1 m := by rw [hσ, st1_ne (by omega)]
    simp only [S_X9_lay_36, S_X9_lay_36_b]
    rw [if_neg (show ¬ (38 : Int32) ≤ nI k from nI_ge (b := 38) (by omega) (by decide))]
    have hix : (38 : Int32) * nI at_ + nI k = nI (38 * at_ + k) := by
      rw [show (38 : Int32) = nI 38 from rfl, pk_mul, nI_add]
    have step : ∀ x : Int32, x = (if k < z then σ0.2.1 (m + 15) k else 0) → S_X9_lay_70 (S_X9_lay_36 n) σ m (nI s) (nI at_) (nI k) (some (m + 13)) ((38 : Int32) * nI at_ + nI k) x = some (st1 (st1 σ (m + 13) (bw (σ.2.1 (m + 13)) (38 * at_) k 38 (fun i => if i < z then σ0.2.1 (m + 15) i else 0))) (m + 12) (upd (σ0.2.1 (m + 12)) s (σ0.2.1 (m + 12) s + 1))) := by
      intro x hx
      simp only [S_X9_lay_70, a_stI, aM13 h, hix, w_ix (show 38 * at_ + k < 912 by omega) (by decide), Option.bind_some, nI_1]
      rw [ih (k + 1) n _ (by omega) (by omega) (by rw [st1_self, st1_of hσ])]
      rw [st1_self, st1_st1, hx, bw_s (g := fun i => if i < z then σ0.2.1 (m + 15) i else 0) (by omega)]
    simp only [gM13 h, gMi h, gM15 h, Option.bind_some, em, hz]
    by_cases hkz : k < z
    · rw [if_neg (show ¬ nI z ≤ nI k from nI_ge hkz (by omega))]
      simp only [o_ldI, aM15 h, w_ix (show k < 38 by omega) (by decide), Option.bind_some]
      exact step _ (by rw [if_pos hkz, e15])
    · rw [if_pos (show nI z ≤ nI k from nI_le (by omega) (by omega))]
      exact step _ (by rw [if_neg hkz])
