/-! The reference: ints written; forget. -/
theorem tJ1 : ∀ q ∈ tblJ, q.1 ≠ 5 ∧ q.1 ≠ 11 ∧ q.1 ≠ 16 ∧ q.1 ≠ 17 ∧ trR q.1 = false ∧ q.1 < 36 ∧ 5 < q.2.2.1 + 5 ∧ (q.2.2.1 + q.2.2.2 ≤ 5 ∨ 5 < q.2.2.1) ∧ 0 < q.2.2.1 ∧ q.2.2.2 ≤ q.2.1 ∧ 0 < q.1 := by decide
theorem tJ2 : ∀ q ∈ tblJ, ∀ q' ∈ tblJ, q = q' ∨ (q.1 ≠ q'.1 ∧ (q.2.2.1 + q.2.2.2 ≤ q'.2.2.1 ∨ q'.2.2.1 + q'.2.2.2 ≤ q.2.2.1)) := by decide
def tblS : List (Nat × Nat × Nat × Nat) := [(10, 1, 1, 1), (18, 1, 2, 1), (19, 1, 3, 1), (20, 1, 4, 1), (32, 1, 6, 1), (33, 1, 7, 1), (27, 1, 8, 1), (28, 1, 9, 1), (29, 1, 10, 1), (30, 1, 11, 1), (1, 1, 12, 1), (4, 1, 13, 1), (6, 1, 14, 1)]
def tblB : List (Nat × Nat × Nat × Nat) := [(31, 100, 100, 100), (2, 30, 200, 30), (3, 3000, 1000, 3000), (7, 256, 5000, 256), (8, 256, 6000, 256), (9, 25600, 10000, 25600)]
theorem tJ3 : ∀ q ∈ tblJ, q ∈ tblS ∨ q ∈ tblB := by decide
theorem aJ_at {A : aA} {s k : Nat} {x : Int32} : (aJ A s k x).1 s k = x := by unfold aJ; dsimp only; rw [va_up_self, u_s]
theorem aJ_ns {A : aA} {s k t j : Nat} {x : Int32} (h : t ≠ s) : (aJ A s k x).1 t j = A.1 t j := by unfold aJ; dsimp only; rw [va_up_ne _ _ h]
theorem aJ_nk {A : aA} {s k t j : Nat} {x : Int32} (h : j ≠ k) : (aJ A s k x).1 t j = A.1 t j := by
  unfold aJ
  dsimp only
  by_cases ht : t = s
  · subst ht; rw [va_up_self, u_n h]
  · rw [va_up_ne _ _ ht]
theorem ix_ne {d s t k k' n : Nat} (hs : s < 2) (ht : t < 2) (hn : n ≤ d) (hk : k < n) (hk' : k' < n) (h : d * t + k' = d * s + k) : t = s ∧ k' = k := by
  rcases (show s = 0 ∨ s = 1 by omega) with rfl | rfl <;> rcases (show t = 0 ∨ t = 1 by omega) with rfl | rfl <;> omega
theorem intsR.put {σ : hp} {m s k : Nat} {A : aA} {q : Nat × Nat × Nat × Nat} {x : Int32} (h : intsR σ m A) (hs : s < 2) (hq : q ∈ tblJ) (hk : k < q.2.2.2) : intsR (st1 σ (m + q.1) (upd (σ.2.1 (m + q.1)) (q.2.1 * s + k) x)) m (aJ A s (q.2.2.1 + k) x) := by
  intro t ht q' hq' k' hk'
  rcases tJ2 q' hq' q hq with e | ⟨e1, e2⟩
  · subst e
    rw [st1_self]
    by_cases hi : q'.2.1 * t + k' = q'.2.1 * s + k
    · obtain ⟨rfl, rfl⟩ := ix_ne hs ht (tJ1 q' hq').2.2.2.2.2.2.2.2.2.1 hk hk' hi
      rw [u_s, aJ_at]
    · rw [u_n hi, h t ht q' hq' k' hk']
      by_cases hts : t = s
      · subst hts
        rw [aJ_nk]
        intro e
        exact hi (by have : k' = k := by omega
                     rw [this])
      · rw [aJ_ns hts]
  · rw [st1_ne (by omega), h t ht q' hq' k' hk', aJ_nk (by omega)]
theorem RepR.put {σ : hp} {m s k : Nat} {A : aA} {q : Nat × Nat × Nat × Nat} {x : Int32} (h : RepR σ m A) (hs : s < 2) (hq : q ∈ tblJ) (hk : k < q.2.2.2) (hn : q.2.2.1 + k ≠ 12 ∧ q.2.2.1 + k ≠ 13) : RepR (st1 σ (m + q.1) (upd (σ.2.1 (m + q.1)) (q.2.1 * s + k) x)) m (aJ A s (q.2.2.1 + k) x) := by
  obtain ⟨h1, h2, h3, h4, h5, h6⟩ := h
  obtain ⟨t1, t2, t3, t4, t5, t6, -, t7, t8, t9, t10⟩ := tJ1 q hq
  have tt := of_decide_eq_false (show decide _ = false from t5)
  have e5 : ∀ t, (aJ A s (q.2.2.1 + k) x).1 t 5 = A.1 t 5 := fun t => aJ_nk (by omega)
  refine ⟨h1, ⟨h2.1.kept (st1_ne (by omega)) (st1_ne (by omega)) (st1_ne (by omega)), ?_, fun t ht => ?_⟩, h3.put hs hq hk, fun t ht => ?_, fun t ht j hj hl => ?_, fun i hi => ?_, ?_⟩
  · have : olN (aJ A s (q.2.2.1 + k) x) = olN A := by funext t; unfold olN; rw [e5]
    rw [this]
    exact h2.2.1.kept (st1_ne (by omega)) (st1_ne (by omega)) (st1_ne (by omega)) (st1_ne (by omega)) (st1_ne (by omega)) (st1_ne (by omega))
  · unfold olN
    rw [e5]
    exact h2.2.2 t ht
  · rw [st1_ne (by omega), st1_ne (by omega), aJ_nk (by omega)]
    exact h4 t ht
  · rw [aJ_nk (by omega)] at hl
    rw [st1_ne (by omega), aJ_nk (by omega), aJ_nk (by omega)]
    exact h5 t ht j hj hl
  · rw [st1_ne (by omega), aJ_ns (by omega)]
    exact h6.1 i hi
  · rw [st1_ne (by omega), aJ_ns (by omega)]
    exact h6.2
/-- a plain int of a site -/
theorem RepR.put1 {σ : hp} {m s r n : Nat} {A : aA} {x : Int32} (h : RepR σ m A) (hs : s < 2) (hq : (r, 1, n, 1) ∈ tblJ) (hn : n ≠ 12 ∧ n ≠ 13) : RepR (st1 σ (m + r) (upd (σ.2.1 (m + r)) s x)) m (aJ A s n x) := by
  have := h.put (k := 0) (x := x) hs hq (show 0 < 1 by decide) (by simpa using hn)
  simpa using this
theorem RepR.get1 {σ : hp} {m s r n : Nat} {A : aA} (h : RepR σ m A) (hs : s < 2) (hq : (r, 1, n, 1) ∈ tblJ) : σ.2.1 (m + r) s = A.1 s n := by
  have := h.2.2.1 s hs _ hq 0 (show 0 < 1 by decide)
  simpa using this
set_option maxHeartbeats 2000000 in
theorem R_forget {σ : hp} {m s : Nat} {A : aA} (h : RepR σ m A) (hs : s < 2) (now st : Int32) (hn : now = if st = 3 then 2 else st) (h2 : ¬ st = 2) : ∃ σ', S_X9_forget σ m (nI s) now = some σ' ∧ RepR σ' m (aforget A s st) ∧ keepM σ σ' m := by
  obtain ⟨h1, hT, hI, hS, hU, hX⟩ := h
  have hix : o_ix 2 (nI s) = some s := w_ix hs (by decide)
  have t9 := h1.1
  obtain ⟨r17, a17⟩ := h1.2 (17, 16, 0, 2) (by decide)
  obtain ⟨r18, a18⟩ := h1.2 (18, 17, 1, 2) (by decide)
  obtain ⟨r20, a20⟩ := h1.2 (20, 19, 1, 2) (by decide)
  obtain ⟨r21, a21⟩ := h1.2 (21, 20, 0, 2) (by decide)
  obtain ⟨r22, a22⟩ := h1.2 (22, 21, 0, 2) (by decide)
  obtain ⟨r23, a23⟩ := h1.2 (23, 22, 0, 2) (by decide)
  obtain ⟨r26, a26⟩ := h1.2 (26, 25, 0, 2) (by decide)
  obtain ⟨r28, a28⟩ := h1.2 (28, 27, 1, 2) (by decide)
  obtain ⟨r33, a33⟩ := h1.2 (33, 32, 0, 2) (by decide)
  obtain ⟨r34, a34⟩ := h1.2 (34, 33, 0, 2) (by decide)
  dsimp only at r17 a17 r18 a18 r20 a20 r21 a21 r22 a22 r23 a23 r26 a26 r28 a28 r33 a33 r34 a34
  simp only [S_X9_forget, o_gR, o_a, a_stI, w_z0, hix, t9, r17, a17, r18, a18, r20, a20, r21, a21, r22, a22, r23, a23, r26, a26, r28, a28, r33, a33, r34, a34, st1_T, st1_R, if_true, Option.bind_some]
  refine ⟨_, rfl, ?_, ?_⟩
  · have hT2 := hT.2.1
    refine ⟨h1, ⟨hT.1.kept (by simp [st1_ne]) (by simp [st1_ne]) (by simp [st1_ne]), fun t ht => ?_, fun t ht => ?_⟩, fun t ht q hq k hk => ?_, fun t ht => ?_, fun t ht j hj hl => ?_, fun i hi => ?_, ?_⟩
    · by_cases hts : t = s
      · subst hts
        have e1 : olN (aforget A t st) t = 1 := by unfold olN aforget; dsimp only; rw [va_up_self]; rfl
        rw [e1, show (aforget A t st).2.1 t = [] from va_up_self _ _ _, show (aforget A t st).2.2.1 t = [] from va_up_self _ _ _]
        refine ⟨by simp [st1_ne, st1_self, u_s, nI_0], by simp, by simp [st1_ne, st1_self, u_s, nI_0], by simp, by decide, by simp [st1_ne, st1_self, u_s, nI_0], fun k msg hk => by simp at hk, fun k msg hk => by simp at hk⟩
      · have e1 : olN (aforget A s st) t = olN A t := by unfold olN aforget; dsimp only; rw [va_up_ne _ _ hts]
        rw [e1, show (aforget A s st).2.1 t = A.2.1 t from va_up_ne _ _ hts, show (aforget A s st).2.2.1 t = A.2.2.1 t from va_up_ne _ _ hts]
        have hw := hT2 t ht
        unfold winR at hw ⊢
        simpa [st1_ne, st1_self, u_n hts] using hw
    · by_cases hts : t = s
      · subst hts
        unfold olN aforget
        dsimp only
        rw [va_up_self]
        rfl
      · have := hT.2.2 t ht
        unfold olN aforget
        unfold olN at this
        dsimp only
        rw [va_up_ne _ _ hts]
        exact this
    · have hI2 := hI t ht q hq k hk
      rcases tJ3 q hq with hq | hq
      · simp only [tblS, List.mem_cons, List.not_mem_nil, or_false] at hq
        have hk0 : k = 0 := by
          have : ∀ q ∈ tblS, q.2.2.2 = 1 := by decide
          have := this q (by simp only [tblS, List.mem_cons, List.not_mem_nil, or_false]; exact hq)
          omega
        subst hk0
        by_cases hts : t = s
        · subst hts
          unfold aforget
          dsimp only
          rw [va_up_self]
          rcases hq with rfl | rfl | rfl | rfl | rfl | rfl | rfl | rfl | rfl | rfl | rfl | rfl | rfl <;> simp [st1_ne, st1_self, u_s] at hI2 ⊢ <;> exact hI2
        · unfold aforget
          dsimp only
          rw [va_up_ne _ _ hts, ← hI2]
          rcases hq with rfl | rfl | rfl | rfl | rfl | rfl | rfl | rfl | rfl | rfl | rfl | rfl | rfl <;> simp [st1_ne, st1_self, u_n hts]
      · have e1 : (aforget A s st).1 t (q.2.2.1 + k) = A.1 t (q.2.2.1 + k) := by
          have : ∀ q ∈ tblB, 100 ≤ q.2.2.1 := by decide
          have := this q hq
          unfold aforget
          dsimp only
          by_cases hts : t = s
          · subst hts
            rw [va_up_self, if_neg (by omega), if_neg (by omega), if_neg (by omega)]
          · rw [va_up_ne _ _ hts]
        rw [e1, ← hI2]
        simp only [tblB, List.mem_cons, List.not_mem_nil, or_false] at hq
        rcases hq with rfl | rfl | rfl | rfl | rfl | rfl <;> simp [st1_ne]
    · by_cases hts : t = s
      · subst hts
        have e0 : (aforget A t st).1 t 0 = st := by unfold aforget; dsimp only; rw [va_up_self]; rfl
        simp only [e0]
        simp [st1_ne, st1_self, u_s, h2, hn]
      · have e0 : (aforget A s st).1 t 0 = A.1 t 0 := by unfold aforget; dsimp only; rw [va_up_ne _ _ hts]
        simp only [e0]
        have := hS t ht
        simpa [st1_ne, st1_self, u_n hts] using this
    · have e1 : (aforget A s st).1 t 13 = A.1 t 13 ∧ (aforget A s st).1 t 12 = A.1 t 12 := by
        unfold aforget
        dsimp only
        by_cases hts : t = s
        · subst hts; rw [va_up_self]; exact ⟨rfl, rfl⟩
        · rw [va_up_ne _ _ hts]; exact ⟨rfl, rfl⟩
      rw [e1.1] at hl
      rw [e1.1, e1.2, ← hU t ht j hj hl]
      simp [st1_ne]
    · have e1 : (aforget A s st).1 2 = A.1 2 := by unfold aforget; exact va_up_ne _ _ (by omega)
      rw [e1, ← hX.1 i hi]
      simp [st1_ne]
    · have e1 : (aforget A s st).1 2 = A.1 2 := by unfold aforget; exact va_up_ne _ _ (by omega)
      rw [e1, ← hX.2]
      simp [st1_ne]
  · exact ⟨rfl, rfl, fun b hb => by simp [st1_ne, show b ≠ m + 16 by omega, show b ≠ m + 17 by omega, show b ≠ m + 19 by omega, show b ≠ m + 20 by omega, show b ≠ m + 21 by omega, show b ≠ m + 22 by omega, show b ≠ m + 25 by omega, show b ≠ m + 27 by omega, show b ≠ m + 32 by omega, show b ≠ m + 33 by omega]⟩
