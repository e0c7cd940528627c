/-! The reference: isExecuted, execute, offered. -/
def hasN (f : Nat → Bool) : Nat → Bool
  | 0 => false
  | n + 1 => hasN f n || f n
theorem hasN_any (f : Nat → Bool) : ∀ n, (List.range n).any f = hasN f n := by
  intro n
  induction n with
  | zero => rfl
  | succ n ih => rw [List.range_succ, List.any_append, ih]; simp [hasN]
theorem aHas_N {A : aA} {s e : Nat} {x : Int32} (h : A.1 s 14 = nI e) (he : e ≤ 256) : aHas A s x = hasN (fun k => decide (A.1 s (5000 + k) = x)) e := by
  unfold aHas
  rw [hasN_any, h, nI_clamp (by omega)]
theorem R_exd {σ : hp} {m s k : Nat} {A : aA} (h : RepR σ m A) (hs : s < 2) (hk : k < 256) : σ.2.1 (m + 7) (256 * s + k) = A.1 s (5000 + k) := h.2.2.1 s hs (7, 256, 5000, 256) (by decide) k hk
theorem ix256 (s k : Nat) : (256 : Int32) * nI s + nI k = nI (256 * s + k) := by rw [show (256 : Int32) = nI 256 from rfl, pk_mul, nI_add]
theorem R_isExL {σ : hp} {m s e : Nat} {A : aA} (h : RepR σ m A) (hs : s < 2) (he : A.1 s 14 = nI e) (he2 : e ≤ 256) (x : Int32) : ∀ (d k n : Nat), k + d = e → d < n → S_X9_isExecuted_5 n σ m (nI s) x (bI (hasN (fun k => decide (A.1 s (5000 + k) = x)) k)) (nI k) = some (bI (aHas A s x)) := by
  have h1 := h.1
  have hc : σ.2.1 (m + 6) s = nI e := by rw [h.get1 hs (show (6, 1, 14, 1) ∈ tblJ by decide)]; exact he
  intro d
  induction d with
  | zero =>
    intro k n hk hn
    obtain ⟨n, rfl⟩ : ∃ q, n = q + 1 := ⟨n - 1, by omega⟩
    obtain rfl : k = e := by omega
    simp only [S_X9_isExecuted_5, S_X9_isExecuted_5_b, gM5 h1, o_ldI, aM5 h1, w_ix hs (by decide), Option.bind_some, hc]
    rw [if_pos (nI_le (Nat.le_refl _) (by omega)), aHas_N he he2]
    unfold bI
    split <;> rfl
  | succ d ih =>
    intro k n hk hn
    obtain ⟨n, rfl⟩ : ∃ q, n = q + 1 := ⟨n - 1, by omega⟩
    have key := ih (k + 1) n (by omega) (by omega)
    simp only [S_X9_isExecuted_5, S_X9_isExecuted_5_b, gM5 h1, gM6 h1, o_ldI, aM5 h1, aM6 h1, w_ix hs (by decide), Option.bind_some, hc, ix256, w_ix (show 256 * s + k < 512 by omega) (by decide), R_exd h hs (show k < 256 by omega), S_X9_isExecuted_37, S_X9_isExecuted_42, nI_1]
    rw [if_neg (nI_ge (by omega) (by omega))]
    cases hb : hasN (fun k => decide (A.1 s (5000 + k) = x)) k with
    | true =>
      rw [hasN, hb] at key
      rw [if_neg (by decide)]
      exact key
    | false =>
      rw [hasN, hb] at key
      rw [if_pos (by rfl)]
      by_cases hx : A.1 s (5000 + k) = x
      · rw [if_pos hx]
        simpa [hx, bI] using key
      · rw [if_neg hx]
        simpa [hx, bI] using key
theorem R_isEx {σ : hp} {m s e : Nat} {A : aA} (h : RepR σ m A) (hs : s < 2) (he : A.1 s 14 = nI e) (he2 : e ≤ 256) (x : Int32) : S_X9_isExecuted σ m (nI s) x = some (bI (aHas A s x)) := R_isExL h hs he he2 x e 0 FU (by omega) (by show e < 1000; omega)
/-- a stretch of a site's ints is written -/
def aB (A : aA) (s base c : Nat) (g : Nat → Int32) : aA := (va_up A.1 s (bw (A.1 s) base 0 c g), A.2)
theorem aB_s {A : aA} {s base c : Nat} {g : Nat → Int32} : (aB A s base c g).1 s = bw (A.1 s) base 0 c g := va_up_self _ _ _
theorem aB_n {A : aA} {s t base c : Nat} {g : Nat → Int32} (h : t ≠ s) : (aB A s base c g).1 t = A.1 t := va_up_ne _ _ h
theorem aB_o {A : aA} {s t base c k : Nat} {g : Nat → Int32} (h : k < base ∨ base + c ≤ k) : (aB A s base c g).1 t k = A.1 t k := by
  by_cases ht : t = s
  · subst ht; rw [aB_s, bw_out (by omega)]
  · rw [aB_n ht]
theorem RepR.putB {σ : hp} {m s off c : Nat} {A : aA} {q : Nat × Nat × Nat × Nat} {g : Nat → Int32} (h : RepR σ m A) (hs : s < 2) (hq : q ∈ tblJ) (hk : off + c ≤ q.2.2.2) (hn : 100 ≤ q.2.2.1) : RepR (st1 σ (m + q.1) (bw (σ.2.1 (m + q.1)) (q.2.1 * s + off) 0 c g)) m (aB A s (q.2.2.1 + off) c g) := by
  obtain ⟨h1, h2, h3, h4, h5, h6⟩ := h
  obtain ⟨t1, t2, t3, t4, t5, t6, -, t7, t8, t9, t10⟩ := tJ1 q hq
  have tt := of_decide_eq_false (show decide _ = false from t5)
  have e5 : ∀ t, (aB A s (q.2.2.1 + off) c g).1 t 5 = A.1 t 5 := fun t => aB_o (by omega)
  refine ⟨h1, ⟨h2.1.kept (st1_ne (by omega)) (st1_ne (by omega)) (st1_ne (by omega)), ?_, fun t ht => ?_⟩, fun t ht q' hq' k' hk' => ?_, fun t ht => ?_, fun t ht j hj hl => ?_, fun i hi => ?_, ?_⟩
  · have : olN (aB A s (q.2.2.1 + off) c g) = olN A := by funext t; unfold olN; rw [e5]
    rw [this]
    exact h2.2.1.kept (st1_ne (by omega)) (st1_ne (by omega)) (st1_ne (by omega)) (st1_ne (by omega)) (st1_ne (by omega)) (st1_ne (by omega))
  · unfold olN
    rw [e5]
    exact h2.2.2 t ht
  · rcases tJ2 q' hq' q hq with e | ⟨e1, e2⟩
    · subst e
      rw [st1_self]
      by_cases hts : t = s
      · subst hts
        rw [aB_s]
        by_cases hi : off ≤ k' ∧ k' < off + c
        · rw [show q'.2.1 * t + k' = q'.2.1 * t + off + (k' - off) by omega, bw_in (by omega) (by omega), show q'.2.2.1 + k' = q'.2.2.1 + off + (k' - off) by omega, bw_in (by omega) (by omega)]
        · rw [bw_out (by omega), bw_out (by omega)]
          exact h3 t ht q' hq' k' hk'
      · rw [aB_n hts, bw_out]
        · exact h3 t ht q' hq' k' hk'
        · rcases (show s = 0 ∨ s = 1 by omega) with rfl | rfl <;> rcases (show t = 0 ∨ t = 1 by omega) with rfl | rfl <;> omega
    · rw [st1_ne (by omega), h3 t ht q' hq' k' hk', aB_o (by omega)]
  · rw [st1_ne (by omega), st1_ne (by omega), aB_o (by omega)]
    exact h4 t ht
  · rw [aB_o (by omega)] at hl
    rw [st1_ne (by omega), aB_o (by omega), aB_o (by omega)]
    exact h5 t ht j hj hl
  · rw [st1_ne (by omega), aB_n (by omega)]
    exact h6.1 i hi
  · rw [st1_ne (by omega), aB_n (by omega)]
    exact h6.2
theorem r_execL {σ0 : hp} {m s a w : Nat} (h0 : SkM σ0 m) (hs : s < 2) (ha : a < 512) (hw : w ≤ 100) (hww : σ0.2.1 (m + 29) s = nI w) : ∀ (d k n : Nat) (σ : hp), k + d = w → d < n → σ = st1 σ0 (m + 9) (σ.2.1 (m + 9)) → S_X9_execute_39 n σ m (nI s) (nI a) (nI k) = S_X9_execute_39 (n - d) (st1 σ (m + 9) (bw (σ.2.1 (m + 9)) (100 * a) k w (fun i => σ0.2.1 (m + 31) (100 * s + i)))) m (nI s) (nI a) (nI w) := by
  intro d
  induction d with
  | zero =>
    intro k n σ hk hn hσ
    obtain rfl : k = w := by omega
    rw [bw_0, st1_id]
    rfl
  | succ d ih =>
    intro k n σ hk hn hσ
    obtain ⟨n, rfl⟩ : ∃ q, n = q + 1 := ⟨n - 1, by omega⟩
    have h : SkM σ m := by rw [hσ]; exact h0
    have e29 : σ.2.1 (m + 29) = σ0.2.1 (m + 29) := by rw [hσ, st1_ne (by omega)]
    have e31 : σ.2.1 (m + 31) = σ0.2.1 (m + 31) := by rw [hσ, st1_ne (by omega)]
    conv => lhs; simp only [S_X9_execute_39, S_X9_execute_39_b]
    simp only [gM30 h, o_ldI, aM30 h, w_ix hs (by decide), Option.bind_some, e29, hww]
    rw [if_neg (nI_ge (by omega) (by omega))]
    simp only [gM8 h, gM32 h, aM32 h, show (100 : Int32) * nI s + nI k = nI (100 * s + k) by rw [show (100 : Int32) = nI 100 from rfl, pk_mul, nI_add], w_ix (show 100 * s + k < 200 by omega) (by decide), Option.bind_some, e31, a_stI, aM8 h, show (100 : Int32) * nI a + nI k = nI (100 * a + k) by rw [show (100 : Int32) = nI 100 from rfl, pk_mul, nI_add], w_ix (show 100 * a + k < 51200 by omega) (by decide), nI_1]
    rw [ih (k + 1) n _ (by omega) (by omega) (by rw [st1_self, st1_of hσ]), st1_self, st1_st1, bw_s (g := fun i => σ0.2.1 (m + 31) (100 * s + i)) (by omega), show n + 1 - (d + 1) = n - d by omega]
theorem R_taken {σ : hp} {m s k : Nat} {A : aA} (h : RepR σ m A) (hs : s < 2) (hk : k < 100) : σ.2.1 (m + 31) (100 * s + k) = A.1 s (100 + k) := h.2.2.1 s hs (31, 100, 100, 100) (by decide) k hk
theorem R_execute {σ : hp} {m s e w : Nat} {A : aA} (h : RepR σ m A) (hs : s < 2) (he : A.1 s 14 = nI e) (he2 : e < 256) (hw : A.1 s 10 = nI w) (hw2 : w ≤ 100) (hF : okF A s) (hK : okK A s) : ∃ σ', S_X9_execute σ m (nI s) = some σ' ∧ RepR σ' m (aexec asend A s) ∧ keepM σ σ' m := by
  have h1 := h.1
  have c6 : σ.2.1 (m + 6) s = nI e := by rw [h.get1 hs (show (6, 1, 14, 1) ∈ tblJ by decide)]; exact he
  have c28 : σ.2.1 (m + 28) s = A.1 s 9 := h.get1 hs (show (28, 1, 9, 1) ∈ tblJ by decide)
  have c29 : σ.2.1 (m + 29) s = nI w := by rw [h.get1 hs (show (29, 1, 10, 1) ∈ tblJ by decide)]; exact hw
  simp only [S_X9_execute, gM5 h1, o_ldI, aM5 h1, w_ix hs (by decide), Option.bind_some, c6, gM6 h1, gM29 h1, aM29 h1, c28, ix256, a_stI, aM6 h1, w_ix (show 256 * s + e < 512 by omega) (by decide)]
  have hR1 := h.put (q := (7, 256, 5000, 256)) (k := e) (x := A.1 s 9) hs (by decide) he2 (by constructor <;> (dsimp only; omega))
  dsimp only at hR1
  generalize hσ1 : st1 σ (m + 7) (upd (σ.2.1 (m + 7)) (256 * s + e) (A.1 s 9)) = σ1 at hR1 ⊢
  have h2 := hR1.1
  have c29b : σ1.2.1 (m + 29) s = nI w := by rw [← hσ1, st1_ne (by omega)]; exact c29
  simp only [gM7 h2, gM30 h2, aM30 h2, w_ix hs (by decide), Option.bind_some, c29b, aM7 h2, w_ix (show 256 * s + e < 512 by omega) (by decide)]
  have hR2 := hR1.put (q := (8, 256, 6000, 256)) (k := e) (x := nI w) hs (by decide) he2 (by constructor <;> (dsimp only; omega))
  dsimp only at hR2
  generalize hσ2 : st1 σ1 (m + 8) (upd (σ1.2.1 (m + 8)) (256 * s + e) (nI w)) = σ2 at hR2 ⊢
  have h3 := hR2.1
  have c29c : σ2.2.1 (m + 29) s = nI w := by rw [← hσ2, st1_ne (by omega)]; exact c29b
  have eL := r_execL h3 hs (show 256 * s + e < 512 by omega) hw2 c29c w 0 FU σ2 (by omega) (by show w < 1000; omega) (by rw [st1_id])
  rw [show nI 0 = (0 : Int32) from rfl] at eL
  rw [eL]
  have hR3 := hR2.putB (q := (9, 25600, 10000, 25600)) (off := 100 * e) (c := w) (g := fun i => A.1 s (100 + i)) hs (by decide) (by dsimp only; omega) (by decide)
  dsimp only at hR3
  have ebw : bw (σ2.2.1 (m + 9)) (100 * (256 * s + e)) 0 w (fun i => σ2.2.1 (m + 31) (100 * s + i)) = bw (σ2.2.1 (m + 9)) (25600 * s + 100 * e) 0 w (fun i => A.1 s (100 + i)) := by
    rw [show 100 * (256 * s + e) = 25600 * s + 100 * e by omega]
    funext j
    unfold bw
    split
    · rename_i hj
      have := R_taken hR2 hs (show j - (25600 * s + 100 * e) < 100 by omega)
      dsimp only
      rw [this, aJ_nk (by omega), aJ_nk (by omega)]
    · rfl
  rw [ebw]
  generalize hσ3 : st1 σ2 (m + 9) (bw (σ2.2.1 (m + 9)) (25600 * s + 100 * e) 0 w (fun i => A.1 s (100 + i))) = σ3 at hR3 ⊢
  have h4 := hR3.1
  obtain ⟨N, hN⟩ : ∃ N, FU - w = N + 1 := ⟨999 - w, by show 1000 - w = _; omega⟩
  rw [hN]
  have c29d : σ3.2.1 (m + 29) s = nI w := by rw [← hσ3, st1_ne (by omega)]; exact c29c
  have c6d : σ3.2.1 (m + 6) s = nI e := by rw [← hσ3, st1_ne (by omega), ← hσ2, st1_ne (by omega), ← hσ1, st1_ne (by omega)]; exact c6
  simp only [S_X9_execute_39, S_X9_execute_39_b, gM30 h4, o_ldI, aM30 h4, w_ix hs (by decide), Option.bind_some, c29d]
  rw [if_pos (nI_le (Nat.le_refl _) (by omega))]
  simp only [gM5 h4, aM5 h4, w_ix hs (by decide), Option.bind_some, c6d, a_stI, nI_1, w_z0]
  have hR4 := hR3.put1 (r := 6) (n := 14) (x := nI (e + 1)) hs (by decide) (by decide)
  generalize hσ4 : st1 σ3 (m + 6) (upd (σ3.2.1 (m + 6)) s (nI (e + 1))) = σ4 at hR4 ⊢
  have h5 := hR4.1
  simp only [gM28 h5, aM28 h5, w_ix hs (by decide), Option.bind_some]
  have hR5 := hR4.put1 (r := 27) (n := 8) (x := 0) hs (by decide) (by decide)
  generalize hσ5 : st1 σ4 (m + 27) (upd (σ4.2.1 (m + 27)) s 0) = σ5 at hR5 ⊢
  obtain ⟨σ6, e6, hR6, k6⟩ := R_say hR5 hs 67 hF (fun q => by
    rw [aJ_nk (by decide), aJ_nk (by decide), aB_o (by omega), aJ_nk (by omega), aJ_nk (by omega)]
    exact hK q)
  simp only [gMr hR5.1, e6, Option.bind_some]
  refine ⟨σ6, rfl, ?_, ?_⟩
  · have eA : aexec asend A s = asend (aJ (aJ (aB (aJ (aJ A s (5000 + e) (A.1 s 9)) s (6000 + e) (nI w)) s (10000 + 100 * e) w (fun i => A.1 s (100 + i))) s 14 (nI (e + 1))) s 8 0) s (mk1 67) := by
      unfold aexec
      dsimp only
      rw [he, hw, nI_clamp (by omega), nI_clamp (by omega), nI_1]
      congr 1
      unfold aJ aB
      dsimp only
      congr 1
      funext t
      by_cases ht : t = s
      · subst ht
        simp only [va_up_self]
        funext k
        unfold upd bw
        dsimp only
        by_cases k1 : k = 8
        · subst k1
          simp [show ¬ 8 = 5000 + e by omega, show ¬ 8 = 6000 + e by omega]
        · by_cases k2 : k = 14
          · subst k2
            simp [show ¬ 14 = 5000 + e by omega, show ¬ 14 = 6000 + e by omega]
          · by_cases k3 : k = 5000 + e
            · subst k3
              rw [if_pos rfl, if_neg k1, if_neg k2, if_neg (by omega), if_neg (by omega), if_pos rfl]
            · by_cases k4 : k = 6000 + e
              · subst k4
                rw [if_neg k3, if_pos rfl, if_neg k1, if_neg k2, if_neg (by omega), if_pos rfl]
              · simp only [k1, k2, k3, k4, if_false, Nat.add_zero]
      · simp only [va_up_ne _ _ ht]
    rw [eA]
    exact hR6
  · refine keepM.tr ?_ k6
    rw [← hσ5, ← hσ4, ← hσ3, ← hσ2, ← hσ1]
    exact ((((keepM.st (by decide)).tr (keepM.st (by decide))).tr (keepM.st (by decide))).tr (keepM.st (by decide))).tr (keepM.st (by decide))
theorem R_offered {σ : hp} {m s e : Nat} {A : aA} (h : RepR σ m A) (hs : s < 2) (he : A.1 s 14 = nI e) (he2 : e ≤ 256) (number : Int32) (len : Nat) (hlen : len ≤ 100) (hroom : aHas A s number = false → e < 256) (hF : okF A s) (hK : okK A s) : ∃ σ', S_X9_offered σ m (nI s) number (nI len) = some σ' ∧ RepR σ' m (aoffer asend A s number (nI len)) ∧ keepM σ σ' m := by
  simp only [S_X9_offered, gMr h.1, R_isEx h hs he he2 number, Option.bind_some]
  unfold aoffer
  cases hb : aHas A s number with
  | true =>
    rw [if_neg (show ¬ bI true = 0 by decide), if_pos rfl]
    obtain ⟨σ1, e1, hR1, k1⟩ := R_say h hs 78 hF hK
    simp only [e1, Option.bind_some]
    exact ⟨σ1, rfl, hR1, k1⟩
  | false =>
    rw [if_pos (show bI false = 0 from rfl), if_neg (by decide)]
    obtain ⟨σ1, e1, hR1, k1⟩ := R_say h hs 89 hF hK
    simp only [e1, Option.bind_some, gM28 hR1.1, aM28 hR1.1, a_stI, w_ix hs (by decide), w_z1]
    have hR2 := hR1.put1 (r := 27) (n := 8) (x := 1) hs (by decide) (by decide)
    generalize hσ2 : st1 σ1 (m + 27) (upd (σ1.2.1 (m + 27)) s 1) = σ2 at hR2 ⊢
    simp only [gM29 hR2.1, aM29 hR2.1, w_ix hs (by decide), Option.bind_some]
    have hR3 := hR2.put1 (r := 28) (n := 9) (x := number) hs (by decide) (by decide)
    generalize hσ3 : st1 σ2 (m + 28) (upd (σ2.2.1 (m + 28)) s number) = σ3 at hR3 ⊢
    simp only [gM30 hR3.1, aM30 hR3.1, w_ix hs (by decide), Option.bind_some]
    have hR4 := hR3.put1 (r := 29) (n := 10) (x := nI len) hs (by decide) (by decide)
    generalize hσ4 : st1 σ3 (m + 29) (upd (σ3.2.1 (m + 29)) s (nI len)) = σ4 at hR4 ⊢
    simp only [gM31 hR4.1, aM31 hR4.1, w_ix hs (by decide), Option.bind_some]
    have hR5 := hR4.put1 (r := 30) (n := 11) (x := 0) hs (by decide) (by decide)
    generalize hσ5 : st1 σ4 (m + 30) (upd (σ4.2.1 (m + 30)) s 0) = σ5 at hR5 ⊢
    have k5 : keepM σ σ5 m := by
      refine k1.tr ?_
      rw [← hσ5, ← hσ4, ← hσ3, ← hσ2]
      exact (((keepM.st (by decide)).tr (keepM.st (by decide))).tr (keepM.st (by decide))).tr (keepM.st (by decide))
    by_cases hl : nI len = 0
    · rw [if_pos hl, if_pos hl]
      obtain ⟨σ6, e6, hR6, k6⟩ := R_execute (e := e) (w := len) hR5 hs (by rw [aJ_nk (by decide), aJ_nk (by decide), aJ_nk (by decide), aJ_nk (by decide), asend_J]; exact he) (hroom hb) (by rw [aJ_nk (by decide), aJ_at]) hlen asend_F (fun q => by
        rw [aJ_nk (by decide), aJ_nk (by decide), aJ_nk (by decide), aJ_nk (by decide)]
        exact asend_K hK q)
      simp only [gMr hR5.1, e6, Option.bind_some, S_X9_offered_61]
      exact ⟨σ6, rfl, hR6, k5.tr k6⟩
    · rw [if_neg hl, if_neg hl]
      exact ⟨σ5, rfl, hR5, k5⟩
