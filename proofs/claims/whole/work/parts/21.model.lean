/-! The reference: its shape. field, offset, array type, length -/
def tblM : List (Nat × Nat × Nat × Nat) := [(0, 1, 0, 2), (1, 2, 0, 60), (2, 3, 0, 6000), (3, 4, 0, 2), (4, 5, 0, 60), (5, 6, 0, 2), (6, 7, 0, 512), (7, 8, 0, 512), (8, 9, 0, 51200), (9, 10, 0, 2), (10, 11, 0, 100), (12, 12, 0, 2), (13, 13, 0, 912), (14, 14, 0, 24), (15, 15, 0, 38), (17, 16, 0, 2), (18, 17, 1, 2), (19, 18, 0, 2), (20, 19, 1, 2), (21, 20, 0, 2), (22, 21, 0, 2), (23, 22, 0, 2), (24, 23, 0, 6), (25, 24, 0, 192), (26, 25, 0, 2), (27, 26, 0, 1024), (28, 27, 1, 2), (29, 28, 0, 2), (30, 29, 0, 2), (31, 30, 0, 2), (32, 31, 0, 200), (33, 32, 0, 2), (34, 33, 0, 2), (35, 34, 0, 32), (36, 35, 0, 32)]
def SkM (σ : hp) (m : Nat) : Prop := σ.1 m = some (.inl 9) ∧ ∀ q ∈ tblM, σ.2.2.1 m q.1 = some (m + q.2.1) ∧ σ.1 (m + q.2.1) = some (.inr q.2.2)
theorem SkM_st1 {σ : hp} {m a : Nat} {g : Nat → Int32} : SkM (st1 σ a g) m = SkM σ m := rfl
theorem gMr {σ : hp} {m : Nat} (h : SkM σ m) : o_rcv σ 9 (some m) = some m := w_rcv h.1
theorem gMi {σ : hp} {m k : Nat} (h : SkM σ m) : o_gI σ 9 k (some m) = some (σ.2.1 m k) := w_gI h.1
theorem gMp {σ : hp} {m k : Nat} {x : Int32} (h : SkM σ m) : o_pI σ 9 k (some m) x = some (st1 σ m (upd (σ.2.1 m) k x)) := w_pI h.1
theorem gM0 {σ : hp} {m : Nat} (h : SkM σ m) : o_gR σ 9 0 (some m) = some (some (m + 1)) := by rw [w_gR h.1, (h.2 (0, 1, 0, 2) (by decide)).1]
theorem aM0 {σ : hp} {m : Nat} (h : SkM σ m) : o_a σ 0 (some (m + 1)) = some (m + 1, 2) := w_a (h.2 (0, 1, 0, 2) (by decide)).2
theorem gM1 {σ : hp} {m : Nat} (h : SkM σ m) : o_gR σ 9 1 (some m) = some (some (m + 2)) := by rw [w_gR h.1, (h.2 (1, 2, 0, 60) (by decide)).1]
theorem aM1 {σ : hp} {m : Nat} (h : SkM σ m) : o_a σ 0 (some (m + 2)) = some (m + 2, 60) := w_a (h.2 (1, 2, 0, 60) (by decide)).2
theorem gM2 {σ : hp} {m : Nat} (h : SkM σ m) : o_gR σ 9 2 (some m) = some (some (m + 3)) := by rw [w_gR h.1, (h.2 (2, 3, 0, 6000) (by decide)).1]
theorem aM2 {σ : hp} {m : Nat} (h : SkM σ m) : o_a σ 0 (some (m + 3)) = some (m + 3, 6000) := w_a (h.2 (2, 3, 0, 6000) (by decide)).2
theorem gM3 {σ : hp} {m : Nat} (h : SkM σ m) : o_gR σ 9 3 (some m) = some (some (m + 4)) := by rw [w_gR h.1, (h.2 (3, 4, 0, 2) (by decide)).1]
theorem aM3 {σ : hp} {m : Nat} (h : SkM σ m) : o_a σ 0 (some (m + 4)) = some (m + 4, 2) := w_a (h.2 (3, 4, 0, 2) (by decide)).2
theorem gM4 {σ : hp} {m : Nat} (h : SkM σ m) : o_gR σ 9 4 (some m) = some (some (m + 5)) := by rw [w_gR h.1, (h.2 (4, 5, 0, 60) (by decide)).1]
theorem aM4 {σ : hp} {m : Nat} (h : SkM σ m) : o_a σ 0 (some (m + 5)) = some (m + 5, 60) := w_a (h.2 (4, 5, 0, 60) (by decide)).2
theorem gM5 {σ : hp} {m : Nat} (h : SkM σ m) : o_gR σ 9 5 (some m) = some (some (m + 6)) := by rw [w_gR h.1, (h.2 (5, 6, 0, 2) (by decide)).1]
theorem aM5 {σ : hp} {m : Nat} (h : SkM σ m) : o_a σ 0 (some (m + 6)) = some (m + 6, 2) := w_a (h.2 (5, 6, 0, 2) (by decide)).2
theorem gM6 {σ : hp} {m : Nat} (h : SkM σ m) : o_gR σ 9 6 (some m) = some (some (m + 7)) := by rw [w_gR h.1, (h.2 (6, 7, 0, 512) (by decide)).1]
theorem aM6 {σ : hp} {m : Nat} (h : SkM σ m) : o_a σ 0 (some (m + 7)) = some (m + 7, 512) := w_a (h.2 (6, 7, 0, 512) (by decide)).2
theorem gM7 {σ : hp} {m : Nat} (h : SkM σ m) : o_gR σ 9 7 (some m) = some (some (m + 8)) := by rw [w_gR h.1, (h.2 (7, 8, 0, 512) (by decide)).1]
theorem aM7 {σ : hp} {m : Nat} (h : SkM σ m) : o_a σ 0 (some (m + 8)) = some (m + 8, 512) := w_a (h.2 (7, 8, 0, 512) (by decide)).2
theorem gM8 {σ : hp} {m : Nat} (h : SkM σ m) : o_gR σ 9 8 (some m) = some (some (m + 9)) := by rw [w_gR h.1, (h.2 (8, 9, 0, 51200) (by decide)).1]
theorem aM8 {σ : hp} {m : Nat} (h : SkM σ m) : o_a σ 0 (some (m + 9)) = some (m + 9, 51200) := w_a (h.2 (8, 9, 0, 51200) (by decide)).2
theorem gM9 {σ : hp} {m : Nat} (h : SkM σ m) : o_gR σ 9 9 (some m) = some (some (m + 10)) := by rw [w_gR h.1, (h.2 (9, 10, 0, 2) (by decide)).1]
theorem aM9 {σ : hp} {m : Nat} (h : SkM σ m) : o_a σ 0 (some (m + 10)) = some (m + 10, 2) := w_a (h.2 (9, 10, 0, 2) (by decide)).2
theorem gM10 {σ : hp} {m : Nat} (h : SkM σ m) : o_gR σ 9 10 (some m) = some (some (m + 11)) := by rw [w_gR h.1, (h.2 (10, 11, 0, 100) (by decide)).1]
theorem aM10 {σ : hp} {m : Nat} (h : SkM σ m) : o_a σ 0 (some (m + 11)) = some (m + 11, 100) := w_a (h.2 (10, 11, 0, 100) (by decide)).2
theorem gM12 {σ : hp} {m : Nat} (h : SkM σ m) : o_gR σ 9 12 (some m) = some (some (m + 12)) := by rw [w_gR h.1, (h.2 (12, 12, 0, 2) (by decide)).1]
theorem aM12 {σ : hp} {m : Nat} (h : SkM σ m) : o_a σ 0 (some (m + 12)) = some (m + 12, 2) := w_a (h.2 (12, 12, 0, 2) (by decide)).2
theorem gM13 {σ : hp} {m : Nat} (h : SkM σ m) : o_gR σ 9 13 (some m) = some (some (m + 13)) := by rw [w_gR h.1, (h.2 (13, 13, 0, 912) (by decide)).1]
theorem aM13 {σ : hp} {m : Nat} (h : SkM σ m) : o_a σ 0 (some (m + 13)) = some (m + 13, 912) := w_a (h.2 (13, 13, 0, 912) (by decide)).2
theorem gM14 {σ : hp} {m : Nat} (h : SkM σ m) : o_gR σ 9 14 (some m) = some (some (m + 14)) := by rw [w_gR h.1, (h.2 (14, 14, 0, 24) (by decide)).1]
theorem aM14 {σ : hp} {m : Nat} (h : SkM σ m) : o_a σ 0 (some (m + 14)) = some (m + 14, 24) := w_a (h.2 (14, 14, 0, 24) (by decide)).2
theorem gM15 {σ : hp} {m : Nat} (h : SkM σ m) : o_gR σ 9 15 (some m) = some (some (m + 15)) := by rw [w_gR h.1, (h.2 (15, 15, 0, 38) (by decide)).1]
theorem aM15 {σ : hp} {m : Nat} (h : SkM σ m) : o_a σ 0 (some (m + 15)) = some (m + 15, 38) := w_a (h.2 (15, 15, 0, 38) (by decide)).2
theorem gM17 {σ : hp} {m : Nat} (h : SkM σ m) : o_gR σ 9 17 (some m) = some (some (m + 16)) := by rw [w_gR h.1, (h.2 (17, 16, 0, 2) (by decide)).1]
theorem aM17 {σ : hp} {m : Nat} (h : SkM σ m) : o_a σ 0 (some (m + 16)) = some (m + 16, 2) := w_a (h.2 (17, 16, 0, 2) (by decide)).2
theorem gM18 {σ : hp} {m : Nat} (h : SkM σ m) : o_gR σ 9 18 (some m) = some (some (m + 17)) := by rw [w_gR h.1, (h.2 (18, 17, 1, 2) (by decide)).1]
theorem aM18 {σ : hp} {m : Nat} (h : SkM σ m) : o_a σ 1 (some (m + 17)) = some (m + 17, 2) := w_a (h.2 (18, 17, 1, 2) (by decide)).2
theorem gM19 {σ : hp} {m : Nat} (h : SkM σ m) : o_gR σ 9 19 (some m) = some (some (m + 18)) := by rw [w_gR h.1, (h.2 (19, 18, 0, 2) (by decide)).1]
theorem aM19 {σ : hp} {m : Nat} (h : SkM σ m) : o_a σ 0 (some (m + 18)) = some (m + 18, 2) := w_a (h.2 (19, 18, 0, 2) (by decide)).2
theorem gM20 {σ : hp} {m : Nat} (h : SkM σ m) : o_gR σ 9 20 (some m) = some (some (m + 19)) := by rw [w_gR h.1, (h.2 (20, 19, 1, 2) (by decide)).1]
theorem aM20 {σ : hp} {m : Nat} (h : SkM σ m) : o_a σ 1 (some (m + 19)) = some (m + 19, 2) := w_a (h.2 (20, 19, 1, 2) (by decide)).2
theorem gM21 {σ : hp} {m : Nat} (h : SkM σ m) : o_gR σ 9 21 (some m) = some (some (m + 20)) := by rw [w_gR h.1, (h.2 (21, 20, 0, 2) (by decide)).1]
theorem aM21 {σ : hp} {m : Nat} (h : SkM σ m) : o_a σ 0 (some (m + 20)) = some (m + 20, 2) := w_a (h.2 (21, 20, 0, 2) (by decide)).2
theorem gM22 {σ : hp} {m : Nat} (h : SkM σ m) : o_gR σ 9 22 (some m) = some (some (m + 21)) := by rw [w_gR h.1, (h.2 (22, 21, 0, 2) (by decide)).1]
theorem aM22 {σ : hp} {m : Nat} (h : SkM σ m) : o_a σ 0 (some (m + 21)) = some (m + 21, 2) := w_a (h.2 (22, 21, 0, 2) (by decide)).2
theorem gM23 {σ : hp} {m : Nat} (h : SkM σ m) : o_gR σ 9 23 (some m) = some (some (m + 22)) := by rw [w_gR h.1, (h.2 (23, 22, 0, 2) (by decide)).1]
theorem aM23 {σ : hp} {m : Nat} (h : SkM σ m) : o_a σ 0 (some (m + 22)) = some (m + 22, 2) := w_a (h.2 (23, 22, 0, 2) (by decide)).2
theorem gM24 {σ : hp} {m : Nat} (h : SkM σ m) : o_gR σ 9 24 (some m) = some (some (m + 23)) := by rw [w_gR h.1, (h.2 (24, 23, 0, 6) (by decide)).1]
theorem aM24 {σ : hp} {m : Nat} (h : SkM σ m) : o_a σ 0 (some (m + 23)) = some (m + 23, 6) := w_a (h.2 (24, 23, 0, 6) (by decide)).2
theorem gM25 {σ : hp} {m : Nat} (h : SkM σ m) : o_gR σ 9 25 (some m) = some (some (m + 24)) := by rw [w_gR h.1, (h.2 (25, 24, 0, 192) (by decide)).1]
theorem aM25 {σ : hp} {m : Nat} (h : SkM σ m) : o_a σ 0 (some (m + 24)) = some (m + 24, 192) := w_a (h.2 (25, 24, 0, 192) (by decide)).2
theorem gM26 {σ : hp} {m : Nat} (h : SkM σ m) : o_gR σ 9 26 (some m) = some (some (m + 25)) := by rw [w_gR h.1, (h.2 (26, 25, 0, 2) (by decide)).1]
theorem aM26 {σ : hp} {m : Nat} (h : SkM σ m) : o_a σ 0 (some (m + 25)) = some (m + 25, 2) := w_a (h.2 (26, 25, 0, 2) (by decide)).2
theorem gM27 {σ : hp} {m : Nat} (h : SkM σ m) : o_gR σ 9 27 (some m) = some (some (m + 26)) := by rw [w_gR h.1, (h.2 (27, 26, 0, 1024) (by decide)).1]
theorem aM27 {σ : hp} {m : Nat} (h : SkM σ m) : o_a σ 0 (some (m + 26)) = some (m + 26, 1024) := w_a (h.2 (27, 26, 0, 1024) (by decide)).2
theorem gM28 {σ : hp} {m : Nat} (h : SkM σ m) : o_gR σ 9 28 (some m) = some (some (m + 27)) := by rw [w_gR h.1, (h.2 (28, 27, 1, 2) (by decide)).1]
theorem aM28 {σ : hp} {m : Nat} (h : SkM σ m) : o_a σ 1 (some (m + 27)) = some (m + 27, 2) := w_a (h.2 (28, 27, 1, 2) (by decide)).2
theorem gM29 {σ : hp} {m : Nat} (h : SkM σ m) : o_gR σ 9 29 (some m) = some (some (m + 28)) := by rw [w_gR h.1, (h.2 (29, 28, 0, 2) (by decide)).1]
theorem aM29 {σ : hp} {m : Nat} (h : SkM σ m) : o_a σ 0 (some (m + 28)) = some (m + 28, 2) := w_a (h.2 (29, 28, 0, 2) (by decide)).2
theorem gM30 {σ : hp} {m : Nat} (h : SkM σ m) : o_gR σ 9 30 (some m) = some (some (m + 29)) := by rw [w_gR h.1, (h.2 (30, 29, 0, 2) (by decide)).1]
theorem aM30 {σ : hp} {m : Nat} (h : SkM σ m) : o_a σ 0 (some (m + 29)) = some (m + 29, 2) := w_a (h.2 (30, 29, 0, 2) (by decide)).2
theorem gM31 {σ : hp} {m : Nat} (h : SkM σ m) : o_gR σ 9 31 (some m) = some (some (m + 30)) := by rw [w_gR h.1, (h.2 (31, 30, 0, 2) (by decide)).1]
theorem aM31 {σ : hp} {m : Nat} (h : SkM σ m) : o_a σ 0 (some (m + 30)) = some (m + 30, 2) := w_a (h.2 (31, 30, 0, 2) (by decide)).2
theorem gM32 {σ : hp} {m : Nat} (h : SkM σ m) : o_gR σ 9 32 (some m) = some (some (m + 31)) := by rw [w_gR h.1, (h.2 (32, 31, 0, 200) (by decide)).1]
theorem aM32 {σ : hp} {m : Nat} (h : SkM σ m) : o_a σ 0 (some (m + 31)) = some (m + 31, 200) := w_a (h.2 (32, 31, 0, 200) (by decide)).2
theorem gM33 {σ : hp} {m : Nat} (h : SkM σ m) : o_gR σ 9 33 (some m) = some (some (m + 32)) := by rw [w_gR h.1, (h.2 (33, 32, 0, 2) (by decide)).1]
theorem aM33 {σ : hp} {m : Nat} (h : SkM σ m) : o_a σ 0 (some (m + 32)) = some (m + 32, 2) := w_a (h.2 (33, 32, 0, 2) (by decide)).2
theorem gM34 {σ : hp} {m : Nat} (h : SkM σ m) : o_gR σ 9 34 (some m) = some (some (m + 33)) := by rw [w_gR h.1, (h.2 (34, 33, 0, 2) (by decide)).1]
theorem aM34 {σ : hp} {m : Nat} (h : SkM σ m) : o_a σ 0 (some (m + 33)) = some (m + 33, 2) := w_a (h.2 (34, 33, 0, 2) (by decide)).2
theorem gM35 {σ : hp} {m : Nat} (h : SkM σ m) : o_gR σ 9 35 (some m) = some (some (m + 34)) := by rw [w_gR h.1, (h.2 (35, 34, 0, 32) (by decide)).1]
theorem aM35 {σ : hp} {m : Nat} (h : SkM σ m) : o_a σ 0 (some (m + 34)) = some (m + 34, 32) := w_a (h.2 (35, 34, 0, 32) (by decide)).2
theorem gM36 {σ : hp} {m : Nat} (h : SkM σ m) : o_gR σ 9 36 (some m) = some (some (m + 35)) := by rw [w_gR h.1, (h.2 (36, 35, 0, 32) (by decide)).1]
theorem aM36 {σ : hp} {m : Nat} (h : SkM σ m) : o_a σ 0 (some (m + 35)) = some (m + 35, 32) := w_a (h.2 (36, 35, 0, 32) (by decide)).2
