/-! The reference: put, queue, and the calls that look. -/
theorem R_put {n : Nat} {σ : hp} {m : Nat} {b : Int32} {A : aA} (hR : RepR σ m A) (hA : okA n A) : ∃ σ', S_X9_put σ m b = some ((c_put A b).1, σ') ∧ RepR σ' m (c_put A b).2 ∧ keepM σ σ' m := by
  have h1 := hR.1
  obtain ⟨l, l1, l2, l3⟩ := hA.2
  have e11 : σ.2.1 m 11 = nI l := by rw [hR.2.2.2.2.2.2]; exact l2
  unfold c_put
  simp only [S_X9_put, S_X9_put_20, gMi h1, Option.bind_some, e11, l2]
  by_cases q1 : l = 100
  · rw [if_pos (show nI l = 100 by rw [q1]; rfl), if_pos (show b < 0 ∨ 255 < b ∨ 100 ≤ nI l from Or.inr (Or.inr (by rw [q1]; decide)))]
    exact ⟨σ, rfl, hR, keepM.rf⟩
  · rw [if_neg (show ¬ nI l = 100 by rw [show (100 : Int32) = nI 100 from rfl, nIeq (by omega) (by decide)]; exact q1)]
    have q2 : ¬ (100 : Int32) ≤ nI l := nI_ge (b := 100) (by omega) (by decide)
    by_cases b1 : b < 0
    · rw [if_pos b1, if_pos (Or.inl b1)]
      exact ⟨σ, rfl, hR, keepM.rf⟩
    · rw [if_neg b1]
      by_cases b2 : b ≤ 255
      · rw [if_pos b2, if_neg (show ¬ (b < 0 ∨ 255 < b ∨ 100 ≤ nI l) from fun q => q.elim b1 (fun q => q.elim (fun z => absurd z (Int32.not_lt.mpr b2)) q2)), nI_clamp (by omega), nI_1]
        have h2 : SkM (st1 σ (m + 11) (upd (σ.2.1 (m + 11)) l b)) m := h1
        have em : (st1 σ (m + 11) (upd (σ.2.1 (m + 11)) l b)).2.1 m = σ.2.1 m := st1_ne (by omega)
        have h3 : SkM (st1 (st1 σ (m + 11) (upd (σ.2.1 (m + 11)) l b)) m (upd (σ.2.1 m) 11 (nI (l + 1)))) m := h1
        simp only [gM10 h1, a_stI, aM10 h1, w_ix (show l < 100 by omega) (by decide), Option.bind_some, gMi h2, em, e11, nI_1, gMp h2, gMi h3, st1_self, u_s]
        refine ⟨_, rfl, ?_, (keepM.st (by decide)).tr (keepM.st (d := 0) (by decide))⟩
        obtain ⟨-, g2, g3, g4, g5, g6⟩ := hR
        have eJ : ∀ t, t < 2 → (aJ (aJ A 2 l b) 2 100 (nI (l + 1))).1 t = A.1 t := fun t ht => by
          unfold aJ
          dsimp only
          rw [va_up_ne _ _ (by omega), va_up_ne _ _ (by omega)]
        have rw_ : ∀ d, d ≠ 11 → 0 < d → (st1 (st1 σ (m + 11) (upd (σ.2.1 (m + 11)) l b)) m (upd (σ.2.1 m) 11 (nI (l + 1)))).2.1 (m + d) = σ.2.1 (m + d) := fun d d1 d2 => by rw [st1_ne (by omega), st1_ne (by omega)]
        refine ⟨h1, ⟨g2.1.kept (rw_ 12 (by decide) (by decide)) (rw_ 13 (by decide) (by decide)) (rw_ 14 (by decide) (by decide)), fun s hs => ?_, fun s hs => ?_⟩, fun s hs q hq k hk => ?_, fun s hs => ?_, fun s hs j hj hl => ?_, fun i hi => ?_, ?_⟩
        · have eo : olN (aJ (aJ A 2 l b) 2 100 (nI (l + 1))) s = olN A s := by unfold olN; rw [eJ s hs]
          rw [eo]
          exact g2.2.1.kept (σ' := (st1 (st1 σ (m + 11) (upd (σ.2.1 (m + 11)) l b)) m (upd (σ.2.1 m) 11 (nI (l + 1))))) (rw_ 21 (by decide) (by decide)) (rw_ 22 (by decide) (by decide)) (rw_ 23 (by decide) (by decide)) (rw_ 24 (by decide) (by decide)) (rw_ 25 (by decide) (by decide)) (rw_ 26 (by decide) (by decide)) s hs
        · unfold olN
          rw [eJ s hs]
          exact g2.2.2 s hs
        · obtain ⟨t1, t2, t3, t4, t5, t6, -, t7, t8, t9, t10⟩ := tJ1 q hq
          rw [rw_ q.1 t2 t10, eJ s hs]
          exact g3 s hs q hq k hk
        · rw [rw_ 16 (by decide) (by decide), rw_ 17 (by decide) (by decide), eJ s hs]
          exact g4 s hs
        · rw [eJ s hs] at hl
          rw [rw_ 5 (by decide) (by decide), eJ s hs]
          exact g5 s hs j hj hl
        · rw [st1_ne (by omega), st1_self, aJ_nk (by omega)]
          by_cases e : i = l
          · subst e; rw [u_s, aJ_at]
          · rw [u_n e, aJ_nk e]; exact g6.1 i hi
        · rw [st1_self, u_s, aJ_at]
      · rw [if_neg b2, if_pos (Or.inr (Or.inl (Int32.not_le.mp b2)))]
        exact ⟨σ, rfl, hR, keepM.rf⟩
theorem RepR.que {σ : hp} {m t u v : Nat} {A : aA} (h : RepR σ m A) (ht : t < 2) (hu : A.1 t 12 = nI u) (hv : A.1 t 13 = nI v) (hvu : v ≤ u) (hu2 : u < 30) : RepR (st1 (st1 (st1 (st1 σ m (upd (σ.2.1 m) 11 0)) (m + 5) (upd (σ.2.1 (m + 5)) (30 * t + v) (nI u))) (m + 4) (upd (σ.2.1 (m + 4)) t (nI (v + 1)))) (m + 1) (upd (σ.2.1 (m + 1)) t (nI (u + 1)))) m (aJ (aJ (aJ A t 13 (nI (v + 1))) t 12 (nI (u + 1))) 2 100 0) := by
  obtain ⟨h1, h2, h3, h4, h5, h6⟩ := h
  have p0 : intsR (st1 (st1 σ m (upd (σ.2.1 m) 11 0)) (m + 5) (upd (σ.2.1 (m + 5)) (30 * t + v) (nI u))) m A := fun s hs q hq k hk => by
    obtain ⟨t1, t2, t3, t4, t5, t6, -, t7, t8, t9, t10⟩ := tJ1 q hq
    rw [st1_ne (by omega), st1_ne (by omega)]
    exact h3 s hs q hq k hk
  have p1 := p0.put (s := t) (k := 0) (q := (4, 1, 13, 1)) (x := nI (v + 1)) ht (by decide) (show 0 < 1 by decide)
  have p2 := p1.put (s := t) (k := 0) (q := (1, 1, 12, 1)) (x := nI (u + 1)) ht (by decide) (show 0 < 1 by decide)
  simp only [Nat.one_mul, Nat.add_zero] at p2
  rw [st1_ne (show m + 4 ≠ m + 5 by omega), st1_ne (show m + 4 ≠ m by omega), st1_ne (show m + 1 ≠ m + 4 by omega), st1_ne (show m + 1 ≠ m + 5 by omega), st1_ne (show m + 1 ≠ m by omega)] at p2
  generalize hσ : st1 (st1 (st1 (st1 σ m (upd (σ.2.1 m) 11 0)) (m + 5) (upd (σ.2.1 (m + 5)) (30 * t + v) (nI u))) (m + 4) (upd (σ.2.1 (m + 4)) t (nI (v + 1)))) (m + 1) (upd (σ.2.1 (m + 1)) t (nI (u + 1))) = σ' at p2 ⊢
  have r : ∀ d, d ≠ 0 → d ≠ 1 → d ≠ 4 → d ≠ 5 → σ'.2.1 (m + d) = σ.2.1 (m + d) := fun d a b c e => by rw [← hσ, st1_ne (by omega), st1_ne (by omega), st1_ne (by omega), st1_ne (by omega)]
  have r5 : σ'.2.1 (m + 5) = upd (σ.2.1 (m + 5)) (30 * t + v) (nI u) := by rw [← hσ, st1_ne (by omega), st1_ne (by omega), st1_self]
  have rm : σ'.2.1 m = upd (σ.2.1 m) 11 0 := by rw [← hσ, st1_ne (by omega), st1_ne (by omega), st1_ne (by omega), st1_self]
  have sk : SkM σ' m := by rw [← hσ]; exact h1
  have J : ∀ s k, s < 2 → k ≠ 12 → k ≠ 13 → (aJ (aJ (aJ A t 13 (nI (v + 1))) t 12 (nI (u + 1))) 2 100 0).1 s k = A.1 s k := fun s k a b c => by rw [aJ_ns (by omega), aJ_nk b, aJ_nk c]
  refine ⟨sk, ⟨h2.1.kept (r 12 (by decide) (by decide) (by decide) (by decide)) (r 13 (by decide) (by decide) (by decide) (by decide)) (r 14 (by decide) (by decide) (by decide) (by decide)), fun s hs => ?_, fun s hs => ?_⟩, fun s hs q hq k hk => ?_, fun s hs => ?_, fun s hs j hj hl => ?_, fun i hi => ?_, ?_⟩
  · have eo : olN (aJ (aJ (aJ A t 13 (nI (v + 1))) t 12 (nI (u + 1))) 2 100 0) s = olN A s := by unfold olN; rw [J s 5 hs (by decide) (by decide)]
    rw [eo]
    exact h2.2.1.kept (σ' := σ') (r 21 (by decide) (by decide) (by decide) (by decide)) (r 22 (by decide) (by decide) (by decide) (by decide)) (r 23 (by decide) (by decide) (by decide) (by decide)) (r 24 (by decide) (by decide) (by decide) (by decide)) (r 25 (by decide) (by decide) (by decide) (by decide)) (r 26 (by decide) (by decide) (by decide) (by decide)) s hs
  · unfold olN
    rw [J s 5 hs (by decide) (by decide)]
    exact h2.2.2 s hs
  · rw [aJ_ns (by omega)]
    exact p2 s hs q hq k hk
  · rw [r 16 (by decide) (by decide) (by decide) (by decide), r 17 (by decide) (by decide) (by decide) (by decide), J s 0 hs (by decide) (by decide)]
    exact h4 s hs
  · rw [r5]
    have J2 : ∀ k, (aJ (aJ (aJ A t 13 (nI (v + 1))) t 12 (nI (u + 1))) 2 100 0).1 s k = (aJ (aJ A t 13 (nI (v + 1))) t 12 (nI (u + 1))).1 s k := fun k => aJ_ns (by omega)
    rw [J2] at hl
    rw [J2, J2]
    by_cases hst : s = t
    · subst hst
      rw [aJ_nk (by decide), aJ_at] at hl
      rw [aJ_at, aJ_nk (by decide), aJ_at, pk_sub (by omega), nI_add]
      rw [nIlt (by omega) (by omega)] at hl
      by_cases hjv : j = v
      · subst hjv
        rw [u_s]
        congr 1
        omega
      · rw [u_n (by omega), h5 s hs j hj (by rw [hv]; exact nI_lt (by omega) (by omega)), hu, hv, pk_sub hvu, nI_add]
        congr 1
        omega
    · rw [aJ_ns hst, aJ_ns hst] at hl
      rw [aJ_ns hst, aJ_ns hst, aJ_ns hst, aJ_ns hst, u_n (by omega)]
      exact h5 s hs j hj hl
  · rw [r 11 (by decide) (by decide) (by decide) (by decide), aJ_nk (by omega), aJ_ns (by omega), aJ_ns (by omega)]
    exact h6.1 i hi
  · rw [rm, u_s, aJ_at]
theorem r_queueL {σ0 : hp} {m t u l : Nat} (h0 : SkM σ0 m) (ht : t < 2) (hu : u < 30) (hl : l ≤ 100) (h11 : σ0.2.1 m 11 = nI l) : ∀ (d k n : Nat) (σ : hp), k + d = l → d < n → σ = st1 σ0 (m + 3) (σ.2.1 (m + 3)) → S_X9_queue_44 n σ m (nI t) (nI u) (nI k) = S_X9_queue_44 (n - d) (st1 σ (m + 3) (bw (σ.2.1 (m + 3)) (3000 * t + 100 * u) k l (fun i => σ0.2.1 (m + 11) i))) m (nI t) (nI u) (nI l) := by
  intro d
  induction d with
  | zero =>
    intro k n σ hk hn hσ
    obtain rfl : k = l := by omega
    rw [bw_0, st1_id]
    rfl
  | succ d ih =>
    intro k n σ hk hn hσ
    obtain ⟨n, rfl⟩ : ∃ q, n = q + 1 := ⟨n - 1, by omega⟩
    have h : SkM σ m := by rw [hσ]; exact h0
    have em : σ.2.1 m 11 = nI l := by rw [hσ, st1_ne (by omega)]; exact h11
    have e11 : σ.2.1 (m + 11) = σ0.2.1 (m + 11) := by rw [hσ, st1_ne (by omega)]
    conv => lhs; simp only [S_X9_queue_44, S_X9_queue_44_b]
    have hix : (3000 : Int32) * nI t + (100 : Int32) * nI u + nI k = nI (3000 * t + 100 * u + k) := by
      rw [show (3000 : Int32) = nI 3000 from rfl, show (100 : Int32) = nI 100 from rfl, pk_mul, pk_mul, nI_add, nI_add]
    simp only [gMi h, em, Option.bind_some]
    rw [if_neg (nI_ge (by omega) (by omega))]
    simp only [gM2 h, gM10 h, o_ldI, aM10 h, w_ix (show k < 100 by omega) (by decide), hix, a_stI, aM2 h, w_ix (show 3000 * t + 100 * u + k < 6000 by omega) (by decide), Option.bind_some, nI_1, e11]
    rw [ih (k + 1) n _ (by omega) (by omega) (by rw [st1_self, st1_of hσ]), st1_self, st1_st1, bw_s (g := fun i => σ0.2.1 (m + 11) i) (by omega), show n + 1 - (d + 1) = n - d by omega]
theorem R_queue {n : Nat} {σ : hp} {m : Nat} {f : Int32} {A : aA} (hR : RepR σ m A) (hA : okA n A) : ∃ σ', S_X9_queue σ m f = some ((c_queue A f).1, σ') ∧ RepR σ' m (c_queue A f).2 ∧ keepM σ σ' m := by
  unfold c_queue
  by_cases h : f = 0 ∨ f = 1
  · obtain ⟨c1, c2⟩ := clamp_s h
    rw [if_pos h]
    dsimp only
    generalize f.toNatClampNeg = t at c1 c2 ⊢
    subst c2
    have h1 := hR.1
    obtain ⟨l, l1, l2, l3⟩ := hA.2
    obtain ⟨u, v, d1, d2, d3, d4, d5⟩ := (hA.1 t c1).1.1.2.2.2.2.2.2.1
    have e11 : σ.2.1 m 11 = nI l := by rw [hR.2.2.2.2.2.2]; exact l2
    have e1 : σ.2.1 (m + 1) t = nI u := by rw [hR.get1 c1 (show (1, 1, 12, 1) ∈ tblJ by decide)]; exact d1
    have e4 : σ.2.1 (m + 4) t = nI v := by rw [hR.get1 c1 (show (4, 1, 13, 1) ∈ tblJ by decide)]; exact d2
    simp only [S_X9_queue, S_X9_queue_18, r_isSite, if_pos h, Option.bind_some, if_neg (show ¬ (1 : Int32) = 0 by decide), gM0 h1, o_ldI, aM0 h1, w_ix c1 (by decide), e1]
    rw [d1]
    by_cases q : u = 30
    · rw [if_pos (show nI u = 30 by rw [q]; rfl), if_pos (show (30 : Int32) ≤ nI u by rw [q]; decide)]
      exact ⟨σ, rfl, hR, keepM.rf⟩
    · rw [if_neg (show ¬ nI u = 30 by rw [show (30 : Int32) = nI 30 from rfl, nIeq (by omega) (by decide)]; exact q), if_neg (show ¬ (30 : Int32) ≤ nI u from nI_ge (b := 30) (by omega) (by decide))]
      have hu : u < 30 := by omega
      simp only [gM1 h1, gMi h1, Option.bind_some, e11, ix30, a_stI, aM1 h1, w_ix (show 30 * t + u < 60 by omega) (by decide)]
      have hR1 := hR.put (q := (2, 30, 200, 30)) (k := u) (x := nI l) c1 (by decide) hu (by dsimp only; omega)
      dsimp only at hR1
      generalize hσ1 : st1 σ (m + 2) (upd (σ.2.1 (m + 2)) (30 * t + u) (nI l)) = σ1 at hR1 ⊢
      have k1 : keepM σ σ1 m := by rw [← hσ1]; exact keepM.st (by decide)
      have e11b : σ1.2.1 m 11 = nI l := by rw [← hσ1, st1_ne (by omega)]; exact e11
      have E := r_queueL hR1.1 c1 hu l1 e11b l 0 FU σ1 (by omega) (by show _ < 1000; omega) (by rw [st1_id])
      rw [show nI 0 = (0 : Int32) from rfl] at E
      rw [E]
      have hR2 := hR1.putB (q := (3, 3000, 1000, 3000)) (off := 100 * u) (c := l) (g := fun i => σ1.2.1 (m + 11) i) c1 (by decide) (by dsimp only; omega) (by decide)
      dsimp only at hR2
      generalize hσ2 : st1 σ1 (m + 3) (bw (σ1.2.1 (m + 3)) (3000 * t + 100 * u) 0 l (fun i => σ1.2.1 (m + 11) i)) = σ2 at hR2 ⊢
      have k2 : keepM σ1 σ2 m := by rw [← hσ2]; exact keepM.st (by decide)
      obtain ⟨N, hN⟩ : ∃ N, FU - l = N + 1 := ⟨999 - l, by show 1000 - l = _; omega⟩
      rw [hN]
      have em2 : σ2.2.1 m = σ.2.1 m := by rw [← hσ2, st1_ne (by omega), ← hσ1, st1_ne (by omega)]
      have r2 : ∀ d, 0 < d → d ≠ 2 → d ≠ 3 → σ2.2.1 (m + d) = σ.2.1 (m + d) := fun d a b c => by rw [← hσ2, st1_ne (by omega), ← hσ1, st1_ne (by omega)]
      have hb : ∀ j, (aB (aJ A t (200 + u) (nI l)) t (1000 + 100 * u) l (fun i => σ1.2.1 (m + 11) i)).1 t j = (if j = 200 + u then nI l else if 1000 + 100 * u ≤ j ∧ j < 1000 + 100 * u + l then A.1 2 (j - (1000 + 100 * u)) else A.1 t j) := fun j => by
        rw [aB_s]
        unfold bw
        by_cases j1 : j = 200 + u
        · subst j1
          rw [if_neg (by omega), if_pos rfl, aJ_at]
        · rw [if_neg j1]
          by_cases j2 : 1000 + 100 * u ≤ j ∧ j < 1000 + 100 * u + l
          · rw [if_pos (by omega), if_pos j2, ← hσ1, st1_ne (by omega)]; exact hR.2.2.2.2.2.1 _ (by omega)
          · rw [if_neg (by omega), if_neg j2, aJ_nk j1]
      have hR3 := hR2.que (u := u) (v := v) c1 (by rw [hb, if_neg (by omega), if_neg (by omega)]; exact d1) (by rw [hb, if_neg (by omega), if_neg (by omega)]; exact d2) d3 hu
      simp only [S_X9_queue_44, S_X9_queue_44_b, gMi hR2.1, em2, e11, Option.bind_some]
      rw [if_pos (nI_le (Nat.le_refl l) (by omega))]
      rw [em2, r2 5 (by decide) (by decide) (by decide), r2 4 (by decide) (by decide) (by decide), r2 1 (by decide) (by decide) (by decide)] at hR3
      have s1 : SkM (st1 σ2 m (upd (σ.2.1 m) 11 0)) m := hR2.1
      have f4 : (st1 σ2 m (upd (σ.2.1 m) 11 0)).2.1 (m + 4) t = nI v := by rw [st1_ne (by omega), r2 4 (by decide) (by decide) (by decide)]; exact e4
      have f5 : (st1 σ2 m (upd (σ.2.1 m) 11 0)).2.1 (m + 5) = σ.2.1 (m + 5) := by rw [st1_ne (by omega), r2 5 (by decide) (by decide) (by decide)]
      simp only [o_ldI, a_stI, gMp hR2.1, em2, Option.bind_some, gM4 s1, gM3 s1, aM3 s1, w_ix c1 (by decide), f4, ix30, aM4 s1, w_ix (show 30 * t + v < 60 by omega) (by decide), f5]
      generalize hσ3 : st1 (st1 σ2 m (upd (σ.2.1 m) 11 0)) (m + 5) (upd (σ.2.1 (m + 5)) (30 * t + v) (nI u)) = σ3 at hR3 ⊢
      have s3 : SkM σ3 m := by rw [← hσ3]; exact hR2.1
      have g4 : σ3.2.1 (m + 4) = σ.2.1 (m + 4) := by rw [← hσ3, st1_ne (by omega), st1_ne (by omega), r2 4 (by decide) (by decide) (by decide)]
      simp only [gM3 s3, aM3 s3, w_ix c1 (by decide), Option.bind_some, g4, e4, nI_1]
      generalize hσ4 : st1 σ3 (m + 4) (upd (σ.2.1 (m + 4)) t (nI (v + 1))) = σ4 at hR3 ⊢
      have s4 : SkM σ4 m := by rw [← hσ4]; exact s3
      have g1 : σ4.2.1 (m + 1) = σ.2.1 (m + 1) := by rw [← hσ4, st1_ne (by omega), ← hσ3, st1_ne (by omega), st1_ne (by omega), r2 1 (by decide) (by decide) (by decide)]
      simp only [gM0 s4, aM0 s4, w_ix c1 (by decide), Option.bind_some, g1, e1, nI_1]
      refine ⟨_, rfl, ?_, ?_⟩
      · have eA : (aJ (va_up A.1 t (fun k => if k = 200 + u then A.1 2 100 else if k = 12 then nI (u + 1) else if k = 13 then nI (v + 1) else if 1000 + 100 * u ≤ k ∧ k < 1000 + 100 * u + (A.1 2 100).toNatClampNeg then A.1 2 (k - (1000 + 100 * u)) else A.1 t k), A.2) 2 100 0) = (aJ (aJ (aJ (aB (aJ A t (200 + u) (nI l)) t (1000 + 100 * u) l (fun i => σ1.2.1 (m + 11) i)) t 13 (nI (v + 1))) t 12 (nI (u + 1))) 2 100 0) := by
          have ef : (fun k => if k = 200 + u then A.1 2 100 else if k = 12 then nI (u + 1) else if k = 13 then nI (v + 1) else if 1000 + 100 * u ≤ k ∧ k < 1000 + 100 * u + (A.1 2 100).toNatClampNeg then A.1 2 (k - (1000 + 100 * u)) else A.1 t k) = (aJ (aJ (aB (aJ A t (200 + u) (nI l)) t (1000 + 100 * u) l (fun i => σ1.2.1 (m + 11) i)) t 13 (nI (v + 1))) t 12 (nI (u + 1))).1 t := by
            funext k
            rw [l2, nI_clamp (by omega)]
            by_cases k12 : k = 12
            · subst k12
              rw [aJ_at, if_neg (by omega), if_pos rfl]
            · rw [aJ_nk k12]
              by_cases k13 : k = 13
              · subst k13
                rw [aJ_at, if_neg (by omega), if_neg (by decide), if_pos rfl]
              · rw [aJ_nk k13, hb, if_neg k12, if_neg k13]
          rw [ef]
          congr 1
          show (va_up A.1 t _, A.2) = ((aJ (aJ (aB (aJ A t (200 + u) (nI l)) t (1000 + 100 * u) l (fun i => σ1.2.1 (m + 11) i)) t 13 (nI (v + 1))) t 12 (nI (u + 1))).1, A.2)
          congr 1
          funext s
          by_cases hs : s = t
          · subst hs; exact va_up_self _ _ _
          · rw [va_up_ne _ _ hs]
            funext k
            rw [aJ_ns hs, aJ_ns hs, aB_n hs, aJ_ns hs]
        rw [d2, nI_1, nI_clamp (show u < 2 ^ 31 by omega), eA]
        exact hR3
      · have k3 : keepM σ2 σ3 m := by rw [← hσ3]; exact (keepM.st (d := 0) (by decide)).tr (keepM.st (by decide))
        have k4 : keepM σ3 σ4 m := by rw [← hσ4]; exact keepM.st (by decide)
        exact (((k1.tr k2).tr k3).tr k4).tr (keepM.st (by decide))
  · rw [if_neg h]
    refine ⟨σ, ?_, hR, keepM.rf⟩
    simp only [S_X9_queue, r_isSite, if_neg h, Option.bind_some, if_true, S_X9_queue_18]
theorem R_waiting {σ : hp} {m : Nat} {f : Int32} {A : aA} (hR : RepR σ m A) : S_X9_waiting σ m f = some (c_waiting A f) := by
  unfold c_waiting
  by_cases h : f = 0 ∨ f = 1
  · obtain ⟨c1, c2⟩ := clamp_s h
    rw [if_pos h]
    generalize f.toNatClampNeg = t at c1 c2 ⊢
    subst c2
    simp only [S_X9_waiting, S_X9_waiting_17, r_isSite, if_pos h, Option.bind_some, if_neg (show ¬ (1 : Int32) = 0 by decide), gM12 hR.1, o_ldI, aM12 hR.1, w_ix c1 (by decide), (R_count hR c1).1]
  · rw [if_neg h]
    simp only [S_X9_waiting, S_X9_waiting_17, r_isSite, if_neg h, Option.bind_some, if_true]
theorem R_look {σ : hp} {m : Nat} {f k i : Int32} {A : aA} (hR : RepR σ m A) : S_X9_look σ m f k i = some (c_look A f k i) := by
  unfold c_look
  by_cases h : f = 0 ∨ f = 1
  · obtain ⟨c1, c2⟩ := clamp_s h
    rw [if_pos h]
    generalize f.toNatClampNeg = t at c1 c2 ⊢
    subst c2
    have h1 := hR.1
    obtain ⟨w1, w2, w3⟩ := hR.2.1.1 t c1
    simp only [S_X9_look, S_X9_look_40, S_X9_look_61, r_isSite, if_pos h, Option.bind_some, if_neg (show ¬ (1 : Int32) = 0 by decide), gM12 h1, o_ldI, aM12 h1, w_ix c1 (by decide), w1]
    by_cases k0 : k < 0
    · rw [if_pos k0, if_pos k0]
    · rw [if_neg k0, if_neg k0]
      obtain ⟨j, hj, rfl⟩ := nI_of k0
      rw [nI_clamp hj]
      by_cases hl : (A.2.2.2 t).length ≤ j
      · rw [if_pos (nI_le hl hj), List.getElem?_eq_none hl]
      · have hl2 : j < (A.2.2.2 t).length := by omega
        rw [if_neg (nI_ge hl2 (by omega))]
        obtain ⟨p, hp⟩ : ∃ p, (A.2.2.2 t)[j]? = some p := ⟨_, List.getElem?_eq_getElem hl2⟩
        rw [hp]
        obtain ⟨p1, p2, p3⟩ := w3 j p hp
        dsimp only
        simp only [gM14 h1, aM14 h1, show (12 : Int32) * nI t + nI j = nI (12 * t + j) by rw [show (12 : Int32) = nI 12 from rfl, pk_mul, nI_add], w_ix (show 12 * t + j < 24 by omega) (by decide), Option.bind_some, p1]
        by_cases i0 : i < 0
        · rw [if_pos i0, if_pos (Or.inl i0)]
        · rw [if_neg i0]
          obtain ⟨z, hz, rfl⟩ := nI_of i0
          rw [nI_clamp hz]
          by_cases hzl : z < p.1
          · rw [if_pos (nI_lt hzl (by omega)), if_neg (show ¬ (nI z < 0 ∨ nI p.1 ≤ nI z) from fun q => q.elim i0 (nI_ge hzl (by omega)))]
            simp only [gM13 h1, aM13 h1, show (456 : Int32) * nI t + (38 : Int32) * nI j + nI z = nI (456 * t + 38 * j + z) by rw [show (456 : Int32) = nI 456 from rfl, show (38 : Int32) = nI 38 from rfl, pk_mul, pk_mul, nI_add, nI_add], w_ix (show 456 * t + 38 * j + z < 912 by omega) (by decide), Option.bind_some, p3 z hzl]
          · rw [if_neg (nI_nlt (by omega) hz), if_pos (Or.inr (nI_le (by omega) hz))]
  · rw [if_neg h]
    simp only [S_X9_look, S_X9_look_40, S_X9_look_61, r_isSite, if_neg h, Option.bind_some, if_true]
theorem R_told {n : Nat} {σ : hp} {m : Nat} {f k : Int32} {A : aA} (hR : RepR σ m A) (hA : okA n A) : S_X9_told σ m f k = some (c_told A f k) := by
  unfold c_told
  by_cases h : f = 0 ∨ f = 1
  · obtain ⟨c1, c2⟩ := clamp_s h
    rw [if_pos h]
    dsimp only
    generalize f.toNatClampNeg = t at c1 c2 ⊢
    subst c2
    have h1 := hR.1
    obtain ⟨fI, fC, f0⟩ := R_fIs hR c1 hA
    have w25 := (hR.2.1.2.1 t c1).2.2.1
    simp only [S_X9_told, S_X9_told_85, S_X9_told_91, r_isSite, if_pos h, Option.bind_some, if_neg (show ¬ (1 : Int32) = 0 by decide), gM3 h1, gM5 h1, gM17 h1, gM18 h1, gM23 h1, gM26 h1, gM9 h1, o_ldI, aM3 h1, aM5 h1, aM17 h1, aM18 h1, aM23 h1, aM26 h1, aM9 h1, w_ix c1 (by decide), hR.get1 c1 (show (4, 1, 13, 1) ∈ tblJ by decide), hR.get1 c1 (show (6, 1, 14, 1) ∈ tblJ by decide), hR.get1 c1 (show (10, 1, 1, 1) ∈ tblJ by decide), (R_out hR c1).1, w25, R_st hR c1, R_mast hR c1]
    by_cases k0 : k = 0
    · rw [if_pos k0, if_pos k0]
    · rw [if_neg k0, if_neg k0]
      by_cases k1 : k = 1
      · rw [if_pos k1, if_pos k1]
      · rw [if_neg k1, if_neg k1]
        by_cases k2 : k = 2
        · rw [if_pos k2, if_pos k2]
          rcases (hA.1 t c1).1.1.1 with q | q | q | q <;> rw [q] <;> decide
        · rw [if_neg k2, if_neg k2]
          by_cases k3 : k = 3
          · rw [if_pos k3, if_pos k3]
          · rw [if_neg k3, if_neg k3]
            by_cases k4 : k = 4
            · rw [if_pos k4, if_pos k4]
            · rw [if_neg k4, if_neg k4]
              by_cases k5 : k = 5
              · rw [if_pos k5, if_pos k5]
              · rw [if_neg k5, if_neg k5]
  · rw [if_neg h]
    simp only [S_X9_told, r_isSite, if_neg h, Option.bind_some, if_true]
theorem R_queued {n : Nat} {σ : hp} {m : Nat} {f k : Int32} {A : aA} (hR : RepR σ m A) (hA : okA n A) : S_X9_queued σ m f k = some (c_queued A f k) := by
  unfold c_queued
  by_cases h : f = 0 ∨ f = 1
  · obtain ⟨c1, c2⟩ := clamp_s h
    rw [if_pos h]
    generalize f.toNatClampNeg = t at c1 c2 ⊢
    subst c2
    have h1 := hR.1
    obtain ⟨u, v, d1, d2, d3, d4, d5⟩ := (hA.1 t c1).1.1.2.2.2.2.2.2.1
    simp only [S_X9_queued, S_X9_queued_21, S_X9_queued_36, r_isSite, if_pos h, Option.bind_some, if_neg (show ¬ (1 : Int32) = 0 by decide), gM3 h1, o_ldI, aM3 h1, w_ix c1 (by decide), hR.get1 c1 (show (4, 1, 13, 1) ∈ tblJ by decide)]
    by_cases k0 : k < 0
    · rw [if_pos k0, if_pos (Or.inl k0)]
    · rw [if_neg k0]
      obtain ⟨j, hj, rfl⟩ := nI_of k0
      by_cases hl : nI j < A.1 t 13
      · rw [if_pos hl, if_neg (show ¬ (nI j < 0 ∨ A.1 t 13 ≤ nI j) from fun q => q.elim k0 (fun z => absurd hl (Int32.not_lt.mpr z)))]
        have hjv : j < v := by rw [d2, nIlt hj (by omega)] at hl; exact hl
        simp only [gM4 h1, aM4 h1, ix30, w_ix (show 30 * t + j < 60 by omega) (by decide), Option.bind_some, hR.2.2.2.2.1 t c1 j (by omega) hl]
      · rw [if_neg hl, if_pos (Or.inr (Int32.not_lt.mp hl))]
  · rw [if_neg h]
    simp only [S_X9_queued, S_X9_queued_21, S_X9_queued_36, r_isSite, if_neg h, Option.bind_some, if_true]
theorem R_executed {n : Nat} {σ : hp} {m : Nat} {f k : Int32} {A : aA} (hR : RepR σ m A) (hA : okA n A) : S_X9_executed σ m f k = some (c_executed A f k) := by
  unfold c_executed
  by_cases h : f = 0 ∨ f = 1
  · obtain ⟨c1, c2⟩ := clamp_s h
    rw [if_pos h]
    generalize f.toNatClampNeg = t at c1 c2 ⊢
    subst c2
    have h1 := hR.1
    obtain ⟨e, e1, e2, -⟩ := (hA.1 t c1).1.1.2.2.2.2.2.2.2
    simp only [S_X9_executed, S_X9_executed_21, S_X9_executed_37, r_isSite, if_pos h, Option.bind_some, if_neg (show ¬ (1 : Int32) = 0 by decide), gM5 h1, o_ldI, aM5 h1, w_ix c1 (by decide), hR.get1 c1 (show (6, 1, 14, 1) ∈ tblJ by decide)]
    by_cases k0 : k < 0
    · rw [if_pos k0, if_pos (Or.inl k0)]
    · rw [if_neg k0]
      obtain ⟨j, hj, rfl⟩ := nI_of k0
      by_cases hl : nI j < A.1 t 14
      · rw [if_pos hl, if_neg (show ¬ (nI j < 0 ∨ A.1 t 14 ≤ nI j) from fun q => q.elim k0 (fun z => absurd hl (Int32.not_lt.mpr z))), nI_clamp hj]
        have hjv : j < e := by rw [e2, nIlt hj (by omega)] at hl; exact hl
        simp only [gM6 h1, aM6 h1, ix256, w_ix (show 256 * t + j < 512 by omega) (by decide), Option.bind_some, R_exd hR c1 (show j < 256 by omega)]
      · rw [if_neg hl, if_pos (Or.inr (Int32.not_lt.mp hl))]
  · rw [if_neg h]
    simp only [S_X9_executed, S_X9_executed_21, S_X9_executed_37, r_isSite, if_neg h, Option.bind_some, if_true]
theorem R_file {n : Nat} {σ : hp} {m : Nat} {f k i : Int32} {A : aA} (hR : RepR σ m A) (hA : okA n A) : S_X9_file σ m f k i = some (c_file A f k i) := by
  have h1 := hR.1
  simp only [S_X9_file, S_X9_file_30, S_X9_file_51, gMr h1, R_executed hR hA, Option.bind_some]
  unfold c_executed c_file
  by_cases h : f = 0 ∨ f = 1
  · obtain ⟨c1, c2⟩ := clamp_s h
    rw [if_pos h, if_pos h]
    generalize f.toNatClampNeg = t at c1 c2 ⊢
    subst c2
    obtain ⟨e, e1, e2, e3, -⟩ := (hA.1 t c1).1.1.2.2.2.2.2.2.2
    by_cases q : k < 0 ∨ A.1 t 14 ≤ k
    · rw [if_pos q, if_pos q, if_pos rfl]
    · rw [if_neg q, if_neg q]
      obtain ⟨j, hj, rfl⟩ := nI_of (fun z => q (Or.inl z))
      rw [nI_clamp hj]
      have hje : j < e := by
        rcases Nat.lt_or_ge j e with z | z
        · exact z
        · exact absurd (Or.inr (by rw [e2]; exact nI_le z hj)) q
      obtain ⟨⟨x, x1, x2⟩, l, l1, l2⟩ := e3 j hje
      have hne : ¬ A.1 t (5000 + j) = -1 := by
        rw [x2]
        intro z
        exact absurd (show nI x < 0 by rw [z]; decide) (nI_pos (by omega))
      rw [if_neg hne]
      have e8 : σ.2.1 (m + 8) (256 * t + j) = nI l := by
        rw [hR.2.2.1 t c1 (8, 256, 6000, 256) (by decide) j (by dsimp only; omega)]
        exact l2
      simp only [gM7 h1, o_ldI, aM7 h1, ix256, w_ix (show 256 * t + j < 512 by omega) (by decide), Option.bind_some, e8, l2]
      by_cases i0 : i < 0
      · rw [if_pos i0, if_pos (Or.inl i0)]
      · rw [if_neg i0]
        obtain ⟨z, hz, rfl⟩ := nI_of i0
        rw [nI_clamp hz]
        by_cases hzl : z < l
        · rw [if_pos (nI_lt hzl (by omega)), if_neg (show ¬ (nI z < 0 ∨ nI l ≤ nI z) from fun q => q.elim i0 (nI_ge hzl (by omega)))]
          have e9 : σ.2.1 (m + 9) (100 * (256 * t + j) + z) = A.1 t (10000 + 100 * j + z) := by
            have := hR.2.2.1 t c1 (9, 25600, 10000, 25600) (by decide) (100 * j + z) (by dsimp only; omega)
            dsimp only at this
            rw [show 100 * (256 * t + j) + z = 25600 * t + (100 * j + z) by omega, this, Nat.add_assoc]
          simp only [gM8 h1, aM8 h1, show (100 : Int32) * nI (256 * t + j) + nI z = nI (100 * (256 * t + j) + z) by rw [show (100 : Int32) = nI 100 from rfl, pk_mul, nI_add], w_ix (show 100 * (256 * t + j) + z < 51200 by omega) (by decide), Option.bind_some, e9]
        · rw [if_neg (nI_nlt (by omega) hz), if_pos (Or.inr (nI_le (by omega) hz))]
  · rw [if_neg h, if_neg h, if_pos rfl]
theorem R_timesL {n : Nat} {σ : hp} {m s e : Nat} {x : Int32} {A : aA} (hR : RepR σ m A) (hs : s < 2) (he2 : e ≤ 256) (he : A.1 (1 - s) 14 = nI e) (hd : ∀ i j, i < j → j < e → A.1 (1 - s) (5000 + i) ≠ A.1 (1 - s) (5000 + j)) : ∀ (d k N : Nat), k + d = e → d < N → S_X9_times_28 N σ m (nI s) x (bI (hasN (fun k => decide (A.1 (1 - s) (5000 + k) = x)) k)) (nI k) = some (bI (hasN (fun k => decide (A.1 (1 - s) (5000 + k) = x)) e)) := by
  have h1 := hR.1
  have hs' : 1 - s < 2 := by omega
  have e6 : σ.2.1 (m + 6) (1 - s) = nI e := by rw [hR.get1 hs' (show (6, 1, 14, 1) ∈ tblJ by decide)]; exact he
  have e1s : (1 : Int32) - nI s = nI (1 - s) := pk_sub (a := 1) (by omega)
  intro d
  induction d with
  | zero =>
    intro k N hk hN
    obtain ⟨N, rfl⟩ : ∃ q, N = q + 1 := ⟨N - 1, by omega⟩
    obtain rfl : k = e := by omega
    simp only [S_X9_times_28, S_X9_times_28_b, gM5 h1, e1s, o_ldI, aM5 h1, w_ix hs' (by decide), Option.bind_some, e6]
    rw [if_pos (nI_le (Nat.le_refl _) (by omega))]
  | succ d ih =>
    intro k N hk hN
    obtain ⟨N, rfl⟩ : ∃ q, N = q + 1 := ⟨N - 1, by omega⟩
    simp only [S_X9_times_28, S_X9_times_28_b, S_X9_times_66, gM5 h1, e1s, o_ldI, aM5 h1, w_ix hs' (by decide), Option.bind_some, e6]
    rw [if_neg (nI_ge (show k < e by omega) (by omega))]
    simp only [gM6 h1, aM6 h1, ix256, w_ix (show 256 * (1 - s) + k < 512 by omega) (by decide), Option.bind_some, R_exd hR hs' (show k < 256 by omega), nI_1]
    have key := ih (k + 1) N (by omega) (by omega)
    by_cases hx : A.1 (1 - s) (5000 + k) = x
    · rw [if_pos hx]
      have hf : hasN (fun k => decide (A.1 (1 - s) (5000 + k) = x)) k = false := by
        rw [← hasN_any, List.any_eq_false]
        intro i hi
        rw [List.mem_range] at hi
        simp only [decide_eq_true_eq]
        rw [← hx]
        exact hd i k hi (by omega)
      rw [hf]
      have ht : hasN (fun k => decide (A.1 (1 - s) (5000 + k) = x)) (k + 1) = true := by
        rw [← hasN_any, List.any_eq_true]
        exact ⟨k, List.mem_range.mpr (by omega), decide_eq_true hx⟩
      rw [ht] at key
      exact key
    · rw [if_neg hx]
      have : hasN (fun k => decide (A.1 (1 - s) (5000 + k) = x)) (k + 1) = hasN (fun k => decide (A.1 (1 - s) (5000 + k) = x)) k := by
        rw [← hasN_any, ← hasN_any, Bool.eq_iff_iff, List.any_eq_true, List.any_eq_true]
        constructor
        · rintro ⟨i, hi, q⟩
          rw [List.mem_range] at hi
          refine ⟨i, List.mem_range.mpr ?_, q⟩
          have : i ≠ k := fun z => hx (by rw [z] at q; exact of_decide_eq_true q)
          omega
        · rintro ⟨i, hi, q⟩
          rw [List.mem_range] at hi
          exact ⟨i, List.mem_range.mpr (by omega), q⟩
      rw [this] at key
      rw [show bI (hasN (fun k => decide (A.1 (1 - s) (5000 + k) = x)) k) + 0 = bI (hasN (fun k => decide (A.1 (1 - s) (5000 + k) = x)) k) from Int32.add_zero _]
      exact key
theorem R_times {n : Nat} {σ : hp} {m : Nat} {f k : Int32} {A : aA} (hR : RepR σ m A) (hA : okA n A) : S_X9_times σ m f k = some (c_times A f k) := by
  unfold c_times
  by_cases h : f = 0 ∨ f = 1
  · obtain ⟨c1, c2⟩ := clamp_s h
    rw [if_pos h]
    generalize f.toNatClampNeg = t at c1 c2 ⊢
    subst c2
    have h1 := hR.1
    obtain ⟨e, e1, e2, e3, e4, -⟩ := (hA.1 (1 - t) (by omega)).1.1.2.2.2.2.2.2.2
    simp only [S_X9_times, S_X9_times_21, r_isSite, if_pos h, Option.bind_some, if_neg (show ¬ (1 : Int32) = 0 by decide), gM0 h1, o_ldI, aM0 h1, w_ix c1 (by decide), hR.get1 c1 (show (1, 1, 12, 1) ∈ tblJ by decide)]
    by_cases k0 : k < 0
    · rw [if_pos k0, if_pos (Or.inl k0)]
    · rw [if_neg k0]
      by_cases hl : k < A.1 t 12
      · rw [if_pos hl, if_neg (show ¬ (k < 0 ∨ A.1 t 12 ≤ k) from fun q => q.elim k0 (fun z => absurd hl (Int32.not_lt.mpr z)))]
        have := R_timesL (n := n) (x := k) hR c1 e1 e2 e4 e 0 FU (by omega) (by show _ < 1000; omega)
        rw [aHas_N e2 e1]
        exact this
      · rw [if_neg hl, if_pos (Or.inr (Int32.not_lt.mp hl))]
  · rw [if_neg h]
    simp only [S_X9_times, S_X9_times_21, r_isSite, if_neg h, Option.bind_some, if_true]
