/-! Pure: the operations on a heap whose shape is known. st1: a row of ints is written anew. -/
def st1 (σ : hp) (a : Nat) (g : Nat → Int32) : hp := (σ.1, va_up σ.2.1 a g, σ.2.2)
theorem st1_T {σ : hp} {a : Nat} {g : Nat → Int32} : (st1 σ a g).1 = σ.1 := rfl
theorem st1_R {σ : hp} {a : Nat} {g : Nat → Int32} : (st1 σ a g).2.2 = σ.2.2 := rfl
theorem st1_self {σ : hp} {a : Nat} {g : Nat → Int32} : (st1 σ a g).2.1 a = g := va_up_self _ _ _
theorem st1_ne {σ : hp} {a b : Nat} {g : Nat → Int32} (h : b ≠ a) : (st1 σ a g).2.1 b = σ.2.1 b := va_up_ne _ _ h
theorem st1_st1 {σ : hp} {a : Nat} {g k : Nat → Int32} : st1 (st1 σ a g) a k = st1 σ a k := by
  unfold st1
  rw [bx_uu]
theorem st1_id {σ : hp} {a : Nat} : st1 σ a (σ.2.1 a) = σ := by
  unfold st1
  have : va_up σ.2.1 a (σ.2.1 a) = σ.2.1 := by
    funext b
    by_cases h : b = a
    · subst h; exact va_up_self _ _ _
    · exact va_up_ne _ _ h
  rw [this]
theorem st1_cm {σ : hp} {a b : Nat} {g k : Nat → Int32} (h : a ≠ b) : st1 (st1 σ a g) b k = st1 (st1 σ b k) a g := by
  unfold st1
  have : va_up (va_up σ.2.1 a g) b k = va_up (va_up σ.2.1 b k) a g := by
    funext c
    by_cases h1 : c = a
    · subst h1; rw [va_up_ne _ _ h, va_up_self, va_up_self]
    · by_cases h2 : c = b
      · subst h2; rw [va_up_self, va_up_ne _ _ h1, va_up_self]
      · rw [va_up_ne _ _ h2, va_up_ne _ _ h1, va_up_ne _ _ h1, va_up_ne _ _ h2]
  dsimp only
  rw [this]
theorem up2_row {f : Nat → Nat → Int32} {a k : Nat} {x : Int32} : up2 f a k x = va_up f a (upd (f a) k x) := by
  funext b j
  by_cases h : b = a
  · subst h; rw [va_up_self]; simp [up2, upd]
  · rw [va_up_ne _ _ h]; simp [up2, h]
theorem w_gI {σ : hp} {c k a : Nat} (h : σ.1 a = some (.inl c)) : o_gI σ c k (some a) = some (σ.2.1 a k) := by simp [o_gI, h]
theorem w_gR {σ : hp} {c k a : Nat} (h : σ.1 a = some (.inl c)) : o_gR σ c k (some a) = some (σ.2.2.1 a k) := by simp [o_gR, h]
theorem w_pI {σ : hp} {c k a : Nat} {x : Int32} (h : σ.1 a = some (.inl c)) : o_pI σ c k (some a) x = some (st1 σ a (upd (σ.2.1 a) k x)) := by simp [o_pI, h, sI, st1, up2_row]
theorem w_rcv {σ : hp} {c a : Nat} (h : σ.1 a = some (.inl c)) : o_rcv σ c (some a) = some a := by simp [o_rcv, h]
theorem w_a {σ : hp} {t n a : Nat} (h : σ.1 a = some (.inr (t, n))) : o_a σ t (some a) = some (a, n) := by simp [o_a, h]
theorem w_ix {n k : Nat} (h : k < n) (hn : n < 2 ^ 31) : o_ix n (nI k) = some k := by
  have hc : (nI k).toNatClampNeg = k := nI_clamp (by omega)
  unfold o_ix
  rw [hc, if_neg]
  intro q
  rcases q with q | q
  · exact absurd q (nI_pos (by omega))
  · omega
theorem w_len {σ : hp} {t n a : Nat} (h : σ.1 a = some (.inr (t, n))) : o_len σ t (some a) = some (nI n) := by simp [o_len, w_a h, nI]
theorem w_ldI {σ : hp} {t n a k : Nat} (h : σ.1 a = some (.inr (t, n))) (hk : k < n) (hn : n < 2 ^ 31) : o_ldI σ t (some a) (nI k) = some (σ.2.1 a k) := by simp [o_ldI, w_a h, w_ix hk hn]
theorem w_ldQ {σ : hp} {t n a k : Nat} (h : σ.1 a = some (.inr (t, n))) (hk : k < n) (hn : n < 2 ^ 31) : o_ldQ σ t (some a) (nI k) = some (σ.2.2.1 a k) := by simp [o_ldQ, w_a h, w_ix hk hn]
theorem w_stI {σ : hp} {t n a k : Nat} {x : Int32} (h : σ.1 a = some (.inr (t, n))) (hk : k < n) (hn : n < 2 ^ 31) : o_stI σ t (some a) (nI k) x = some (st1 σ a (upd (σ.2.1 a) k x)) := by simp [o_stI, w_a h, w_ix hk hn, sI, st1, up2_row]
theorem w_z0 : o_z 0 = some 0 := rfl
theorem w_z1 : o_z 1 = some 1 := rfl
theorem u_s {f : Nat → Int32} {k : Nat} {x : Int32} : upd f k x k = x := by simp [upd]
theorem u_n {f : Nat → Int32} {k j : Nat} {x : Int32} (h : j ≠ k) : upd f k x j = f j := by simp [upd, h]
theorem wx0 {n : Nat} (h : 0 < n) : o_ix n (0 : Int32) = some 0 := by
  unfold o_ix
  rw [show (0 : Int32).toNatClampNeg = 0 from rfl, if_neg]
  intro q
  rcases q with q | q
  · exact absurd q (by decide)
  · omega
theorem wx1 {n : Nat} (h : 1 < n) : o_ix n (1 : Int32) = some 1 := by
  unfold o_ix
  rw [show (1 : Int32).toNatClampNeg = 1 from rfl, if_neg]
  intro q
  rcases q with q | q
  · exact absurd q (by decide)
  · omega
theorem wx2 {n : Nat} (h : 2 < n) : o_ix n (2 : Int32) = some 2 := by
  unfold o_ix
  rw [show (2 : Int32).toNatClampNeg = 2 from rfl, if_neg]
  intro q
  rcases q with q | q
  · exact absurd q (by decide)
  · omega
theorem wx3 {n : Nat} (h : 3 < n) : o_ix n (3 : Int32) = some 3 := by
  unfold o_ix
  rw [show (3 : Int32).toNatClampNeg = 3 from rfl, if_neg]
  intro q
  rcases q with q | q
  · exact absurd q (by decide)
  · omega
theorem wx4 {n : Nat} (h : 4 < n) : o_ix n (4 : Int32) = some 4 := by
  unfold o_ix
  rw [show (4 : Int32).toNatClampNeg = 4 from rfl, if_neg]
  intro q
  rcases q with q | q
  · exact absurd q (by decide)
  · omega
theorem wx5 {n : Nat} (h : 5 < n) : o_ix n (5 : Int32) = some 5 := by
  unfold o_ix
  rw [show (5 : Int32).toNatClampNeg = 5 from rfl, if_neg]
  intro q
  rcases q with q | q
  · exact absurd q (by decide)
  · omega
theorem wx6 {n : Nat} (h : 6 < n) : o_ix n (6 : Int32) = some 6 := by
  unfold o_ix
  rw [show (6 : Int32).toNatClampNeg = 6 from rfl, if_neg]
  intro q
  rcases q with q | q
  · exact absurd q (by decide)
  · omega
theorem wx7 {n : Nat} (h : 7 < n) : o_ix n (7 : Int32) = some 7 := by
  unfold o_ix
  rw [show (7 : Int32).toNatClampNeg = 7 from rfl, if_neg]
  intro q
  rcases q with q | q
  · exact absurd q (by decide)
  · omega
theorem wx8 {n : Nat} (h : 8 < n) : o_ix n (8 : Int32) = some 8 := by
  unfold o_ix
  rw [show (8 : Int32).toNatClampNeg = 8 from rfl, if_neg]
  intro q
  rcases q with q | q
  · exact absurd q (by decide)
  · omega
theorem wx9 {n : Nat} (h : 9 < n) : o_ix n (9 : Int32) = some 9 := by
  unfold o_ix
  rw [show (9 : Int32).toNatClampNeg = 9 from rfl, if_neg]
  intro q
  rcases q with q | q
  · exact absurd q (by decide)
  · omega
theorem wx10 {n : Nat} (h : 10 < n) : o_ix n (10 : Int32) = some 10 := by
  unfold o_ix
  rw [show (10 : Int32).toNatClampNeg = 10 from rfl, if_neg]
  intro q
  rcases q with q | q
  · exact absurd q (by decide)
  · omega
theorem wx11 {n : Nat} (h : 11 < n) : o_ix n (11 : Int32) = some 11 := by
  unfold o_ix
  rw [show (11 : Int32).toNatClampNeg = 11 from rfl, if_neg]
  intro q
  rcases q with q | q
  · exact absurd q (by decide)
  · omega
theorem wx12 {n : Nat} (h : 12 < n) : o_ix n (12 : Int32) = some 12 := by
  unfold o_ix
  rw [show (12 : Int32).toNatClampNeg = 12 from rfl, if_neg]
  intro q
  rcases q with q | q
  · exact absurd q (by decide)
  · omega
theorem wx13 {n : Nat} (h : 13 < n) : o_ix n (13 : Int32) = some 13 := by
  unfold o_ix
  rw [show (13 : Int32).toNatClampNeg = 13 from rfl, if_neg]
  intro q
  rcases q with q | q
  · exact absurd q (by decide)
  · omega
theorem wx14 {n : Nat} (h : 14 < n) : o_ix n (14 : Int32) = some 14 := by
  unfold o_ix
  rw [show (14 : Int32).toNatClampNeg = 14 from rfl, if_neg]
  intro q
  rcases q with q | q
  · exact absurd q (by decide)
  · omega
theorem wx15 {n : Nat} (h : 15 < n) : o_ix n (15 : Int32) = some 15 := by
  unfold o_ix
  rw [show (15 : Int32).toNatClampNeg = 15 from rfl, if_neg]
  intro q
  rcases q with q | q
  · exact absurd q (by decide)
  · omega
theorem wx16 {n : Nat} (h : 16 < n) : o_ix n (16 : Int32) = some 16 := by
  unfold o_ix
  rw [show (16 : Int32).toNatClampNeg = 16 from rfl, if_neg]
  intro q
  rcases q with q | q
  · exact absurd q (by decide)
  · omega
theorem wx17 {n : Nat} (h : 17 < n) : o_ix n (17 : Int32) = some 17 := by
  unfold o_ix
  rw [show (17 : Int32).toNatClampNeg = 17 from rfl, if_neg]
  intro q
  rcases q with q | q
  · exact absurd q (by decide)
  · omega
theorem wx18 {n : Nat} (h : 18 < n) : o_ix n (18 : Int32) = some 18 := by
  unfold o_ix
  rw [show (18 : Int32).toNatClampNeg = 18 from rfl, if_neg]
  intro q
  rcases q with q | q
  · exact absurd q (by decide)
  · omega
theorem wx19 {n : Nat} (h : 19 < n) : o_ix n (19 : Int32) = some 19 := by
  unfold o_ix
  rw [show (19 : Int32).toNatClampNeg = 19 from rfl, if_neg]
  intro q
  rcases q with q | q
  · exact absurd q (by decide)
  · omega
theorem wx20 {n : Nat} (h : 20 < n) : o_ix n (20 : Int32) = some 20 := by
  unfold o_ix
  rw [show (20 : Int32).toNatClampNeg = 20 from rfl, if_neg]
  intro q
  rcases q with q | q
  · exact absurd q (by decide)
  · omega
theorem wx21 {n : Nat} (h : 21 < n) : o_ix n (21 : Int32) = some 21 := by
  unfold o_ix
  rw [show (21 : Int32).toNatClampNeg = 21 from rfl, if_neg]
  intro q
  rcases q with q | q
  · exact absurd q (by decide)
  · omega
theorem wx22 {n : Nat} (h : 22 < n) : o_ix n (22 : Int32) = some 22 := by
  unfold o_ix
  rw [show (22 : Int32).toNatClampNeg = 22 from rfl, if_neg]
  intro q
  rcases q with q | q
  · exact absurd q (by decide)
  · omega
theorem wx23 {n : Nat} (h : 23 < n) : o_ix n (23 : Int32) = some 23 := by
  unfold o_ix
  rw [show (23 : Int32).toNatClampNeg = 23 from rfl, if_neg]
  intro q
  rcases q with q | q
  · exact absurd q (by decide)
  · omega
theorem wx24 {n : Nat} (h : 24 < n) : o_ix n (24 : Int32) = some 24 := by
  unfold o_ix
  rw [show (24 : Int32).toNatClampNeg = 24 from rfl, if_neg]
  intro q
  rcases q with q | q
  · exact absurd q (by decide)
  · omega
theorem wx25 {n : Nat} (h : 25 < n) : o_ix n (25 : Int32) = some 25 := by
  unfold o_ix
  rw [show (25 : Int32).toNatClampNeg = 25 from rfl, if_neg]
  intro q
  rcases q with q | q
  · exact absurd q (by decide)
  · omega
theorem wx26 {n : Nat} (h : 26 < n) : o_ix n (26 : Int32) = some 26 := by
  unfold o_ix
  rw [show (26 : Int32).toNatClampNeg = 26 from rfl, if_neg]
  intro q
  rcases q with q | q
  · exact absurd q (by decide)
  · omega
theorem wx27 {n : Nat} (h : 27 < n) : o_ix n (27 : Int32) = some 27 := by
  unfold o_ix
  rw [show (27 : Int32).toNatClampNeg = 27 from rfl, if_neg]
  intro q
  rcases q with q | q
  · exact absurd q (by decide)
  · omega
theorem wx28 {n : Nat} (h : 28 < n) : o_ix n (28 : Int32) = some 28 := by
  unfold o_ix
  rw [show (28 : Int32).toNatClampNeg = 28 from rfl, if_neg]
  intro q
  rcases q with q | q
  · exact absurd q (by decide)
  · omega
theorem wx29 {n : Nat} (h : 29 < n) : o_ix n (29 : Int32) = some 29 := by
  unfold o_ix
  rw [show (29 : Int32).toNatClampNeg = 29 from rfl, if_neg]
  intro q
  rcases q with q | q
  · exact absurd q (by decide)
  · omega
theorem wx30 {n : Nat} (h : 30 < n) : o_ix n (30 : Int32) = some 30 := by
  unfold o_ix
  rw [show (30 : Int32).toNatClampNeg = 30 from rfl, if_neg]
  intro q
  rcases q with q | q
  · exact absurd q (by decide)
  · omega
theorem wx31 {n : Nat} (h : 31 < n) : o_ix n (31 : Int32) = some 31 := by
  unfold o_ix
  rw [show (31 : Int32).toNatClampNeg = 31 from rfl, if_neg]
  intro q
  rcases q with q | q
  · exact absurd q (by decide)
  · omega
theorem wx32 {n : Nat} (h : 32 < n) : o_ix n (32 : Int32) = some 32 := by
  unfold o_ix
  rw [show (32 : Int32).toNatClampNeg = 32 from rfl, if_neg]
  intro q
  rcases q with q | q
  · exact absurd q (by decide)
  · omega
theorem wx33 {n : Nat} (h : 33 < n) : o_ix n (33 : Int32) = some 33 := by
  unfold o_ix
  rw [show (33 : Int32).toNatClampNeg = 33 from rfl, if_neg]
  intro q
  rcases q with q | q
  · exact absurd q (by decide)
  · omega
theorem wx34 {n : Nat} (h : 34 < n) : o_ix n (34 : Int32) = some 34 := by
  unfold o_ix
  rw [show (34 : Int32).toNatClampNeg = 34 from rfl, if_neg]
  intro q
  rcases q with q | q
  · exact absurd q (by decide)
  · omega
theorem wx35 {n : Nat} (h : 35 < n) : o_ix n (35 : Int32) = some 35 := by
  unfold o_ix
  rw [show (35 : Int32).toNatClampNeg = 35 from rfl, if_neg]
  intro q
  rcases q with q | q
  · exact absurd q (by decide)
  · omega
theorem wx36 {n : Nat} (h : 36 < n) : o_ix n (36 : Int32) = some 36 := by
  unfold o_ix
  rw [show (36 : Int32).toNatClampNeg = 36 from rfl, if_neg]
  intro q
  rcases q with q | q
  · exact absurd q (by decide)
  · omega
theorem wx37 {n : Nat} (h : 37 < n) : o_ix n (37 : Int32) = some 37 := by
  unfold o_ix
  rw [show (37 : Int32).toNatClampNeg = 37 from rfl, if_neg]
  intro q
  rcases q with q | q
  · exact absurd q (by decide)
  · omega
theorem wx38 {n : Nat} (h : 38 < n) : o_ix n (38 : Int32) = some 38 := by
  unfold o_ix
  rw [show (38 : Int32).toNatClampNeg = 38 from rfl, if_neg]
  intro q
  rcases q with q | q
  · exact absurd q (by decide)
  · omega
theorem wx39 {n : Nat} (h : 39 < n) : o_ix n (39 : Int32) = some 39 := by
  unfold o_ix
  rw [show (39 : Int32).toNatClampNeg = 39 from rfl, if_neg]
  intro q
  rcases q with q | q
  · exact absurd q (by decide)
  · omega
theorem wx40 {n : Nat} (h : 40 < n) : o_ix n (40 : Int32) = some 40 := by
  unfold o_ix
  rw [show (40 : Int32).toNatClampNeg = 40 from rfl, if_neg]
  intro q
  rcases q with q | q
  · exact absurd q (by decide)
  · omega
theorem a_stI {σ : hp} {t : Nat} {r : Option Nat} {i x : Int32} : o_stI σ t r i x = (o_a σ t r).bind fun q => (o_ix q.2 i).bind fun k => some (st1 σ q.1 (upd (σ.2.1 q.1) k x)) := by
  unfold o_stI
  simp only [up2_row]
  rfl
theorem a_pI {σ : hp} {c k a : Nat} {x : Int32} : o_pI σ c k (some a) x = if σ.1 a = some (.inl c) then some (st1 σ a (upd (σ.2.1 a) k x)) else none := by
  unfold o_pI
  simp only [up2_row]
  rfl
