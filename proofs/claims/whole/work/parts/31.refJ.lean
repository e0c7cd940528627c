/-! The reference: done. -/
theorem RepR.mast {σ : hp} {m s : Nat} {A : aA} {b x : Int32} (h : RepR σ m A) (hs : s < 2) (ho : A.1 s 0 = 2 ∨ A.1 s 0 = 3) (hb : (b = 1 ∧ x = 2) ∨ (b = 0 ∧ x = 3)) : RepR (st1 σ (m + 17) (upd (σ.2.1 (m + 17)) s b)) m (aJ A s 0 x) := by
  obtain ⟨h1, h2, h3, h4, h5, h6⟩ := h
  have e5 : ∀ t, (aJ A s 0 x).1 t 5 = A.1 t 5 := fun t => aJ_nk (by decide)
  refine ⟨h1, ⟨h2.1.kept (st1_ne (by omega)) (st1_ne (by omega)) (st1_ne (by omega)), ?_, fun t ht => ?_⟩, fun t ht q hq k hk => ?_, fun t ht => ?_, fun t ht j hj hl => ?_, fun i hi => ?_, ?_⟩
  · have : olN (aJ A s 0 x) = olN A := by funext t; unfold olN; rw [e5]
    rw [this]
    exact h2.2.1.kept (st1_ne (by omega)) (st1_ne (by omega)) (st1_ne (by omega)) (st1_ne (by omega)) (st1_ne (by omega)) (st1_ne (by omega))
  · unfold olN
    rw [e5]
    exact h2.2.2 t ht
  · obtain ⟨t1, t2, t3, t4, t5, t6, -, t7, t8, t9, t10⟩ := tJ1 q hq
    rw [st1_ne (by omega), aJ_nk (by omega)]
    exact h3 t ht q hq k hk
  · rw [st1_ne (by omega), st1_self]
    by_cases hts : t = s
    · subst hts
      have h16 := (h4 t ht).1
      rw [u_s, aJ_at]
      rcases hb with ⟨rfl, rfl⟩ | ⟨rfl, rfl⟩ <;> rcases ho with ho | ho <;> rw [ho] at h16 <;> exact ⟨h16, rfl⟩
    · rw [u_n hts, aJ_ns hts]
      exact h4 t ht
  · rw [aJ_nk (by decide)] at hl
    rw [st1_ne (by omega), aJ_nk (by decide), aJ_nk (by decide)]
    exact h5 t ht j hj hl
  · rw [st1_ne (by omega), aJ_ns (by omega)]
    exact h6.1 i hi
  · rw [st1_ne (by omega), aJ_ns (by omega)]
    exact h6.2
theorem R_mast {σ : hp} {m s : Nat} {A : aA} (h : RepR σ m A) (hs : s < 2) : σ.2.1 (m + 17) s = (if A.1 s 0 = 2 then 1 else 0) := (h.2.2.2.1 s hs).2
theorem r_takeL {σ0 : hp} {m s h w n : Nat} {msg : Msg} (h0 : SkM σ0 m) (hs : s < 2) (hm : msgIs σ0 m msg) (hn : n ≤ 31) (hw : w ≤ 100) (hww : σ0.2.1 (m + 29) s = nI w) (hh : h ≤ w) : ∀ (d i N : Nat), i + d = (if n - 1 ≤ w - h then n - 1 else w - h) → d < N → S_X9_done_213 N (st1 (st1 σ0 (m + 31) (bw (σ0.2.1 (m + 31)) (100 * s + h) 0 i (fun j => msg (2 + j)))) (m + 30) (upd (σ0.2.1 (m + 30)) s (nI (h + i)))) m (nI s) (nI n) (nI (2 + i)) =
    S_X9_done_273 (st1 (st1 σ0 (m + 31) (bw (σ0.2.1 (m + 31)) (100 * s + h) 0 (i + d) (fun j => msg (2 + j)))) (m + 30) (upd (σ0.2.1 (m + 30)) s (nI (h + (i + d))))) m (nI s) := by
  intro d
  induction d with
  | zero =>
    intro i N hi hN
    obtain ⟨N, rfl⟩ : ∃ q, N = q + 1 := ⟨N - 1, by omega⟩
    rw [Nat.add_zero] at hi ⊢
    generalize hσ : st1 (st1 σ0 (m + 31) (bw (σ0.2.1 (m + 31)) (100 * s + h) 0 i (fun j => msg (2 + j)))) (m + 30) (upd (σ0.2.1 (m + 30)) s (nI (h + i))) = σ
    have hk : SkM σ m := by rw [← hσ]; exact h0
    have e30 : σ.2.1 (m + 30) s = nI (h + i) := by rw [← hσ, st1_self, u_s]
    have e29 : σ.2.1 (m + 29) s = nI w := by rw [← hσ, st1_ne (by omega), st1_ne (by omega)]; exact hww
    simp only [S_X9_done_213, S_X9_done_213_b, gM31 hk, gM30 hk, o_ldI, aM31 hk, aM30 hk, w_ix hs (by decide), Option.bind_some, e30, e29]
    by_cases c1 : n < 2 + i
    · rw [if_pos (nI_lt c1 (by split at hi <;> omega))]
    · rw [if_neg (nI_nlt (by omega) (by omega)), if_pos (nI_le (by split at hi <;> omega) (by split at hi <;> omega))]
  | succ d ih =>
    intro i N hi hN
    obtain ⟨N, rfl⟩ : ∃ q, N = q + 1 := ⟨N - 1, by omega⟩
    have key := ih (i + 1) N (by omega) (by omega)
    have hb : i + 1 ≤ n - 1 ∧ h + i + 1 ≤ w := by split at hi <;> omega
    rw [show i + (d + 1) = i + 1 + d by omega, ← key]
    generalize hσ : st1 (st1 σ0 (m + 31) (bw (σ0.2.1 (m + 31)) (100 * s + h) 0 i (fun j => msg (2 + j)))) (m + 30) (upd (σ0.2.1 (m + 30)) s (nI (h + i))) = σ
    have hk : SkM σ m := by rw [← hσ]; exact h0
    have e30 : σ.2.1 (m + 30) = upd (σ0.2.1 (m + 30)) s (nI (h + i)) := by rw [← hσ, st1_self]
    have e31 : σ.2.1 (m + 31) = bw (σ0.2.1 (m + 31)) (100 * s + h) 0 i (fun j => msg (2 + j)) := by rw [← hσ, st1_ne (by omega), st1_self]
    have e29 : σ.2.1 (m + 29) s = nI w := by rw [← hσ, st1_ne (by omega), st1_ne (by omega)]; exact hww
    have e34 : σ.2.1 (m + 34) (2 + i) = msg (2 + i) := by rw [← hσ, st1_ne (by omega), st1_ne (by omega)]; exact hm _ (by omega)
    simp only [S_X9_done_213, S_X9_done_213_b, gM31 hk, gM30 hk, o_ldI, aM31 hk, aM30 hk, w_ix hs (by decide), Option.bind_some, e30, u_s, e29]
    rw [if_neg (nI_nlt (by omega) (by omega)), if_neg (nI_ge (by omega) (by omega))]
    simp only [gM32 hk, gM35 hk, aM35 hk, w_ix (show 2 + i < 32 by omega) (by decide), Option.bind_some, e34, show (100 : Int32) * nI s + nI (h + i) = nI (100 * s + h + i) by rw [show (100 : Int32) = nI 100 from rfl, pk_mul, nI_add, Nat.add_assoc], a_stI, aM32 hk, w_ix (show 100 * s + h + i < 200 by omega) (by decide), e31, bw_e (g := fun j => msg (2 + j)), nI_1]
    generalize hσ' : st1 σ (m + 31) (bw (σ0.2.1 (m + 31)) (100 * s + h) 0 (i + 1) (fun j => msg (2 + j))) = σ'
    have hk' : SkM σ' m := by rw [← hσ']; exact hk
    have e30' : σ'.2.1 (m + 30) = upd (σ0.2.1 (m + 30)) s (nI (h + i)) := by rw [← hσ', st1_ne (by omega)]; exact e30
    simp only [gM31 hk', aM31 hk', w_ix hs (by decide), Option.bind_some, e30', u_s, nI_1]
    congr 1
    rw [← hσ', ← hσ, st1_cm (by omega : m + 30 ≠ m + 31), st1_st1, st1_st1]
    have : upd (upd (σ0.2.1 (m + 30)) s (nI (h + i))) s (nI (h + i + 1)) = upd (σ0.2.1 (m + 30)) s (nI (h + (i + 1))) := by
      funext j
      unfold upd
      split <;> rfl
    rw [this]
theorem atake_eq {A : aA} {s h w n : Nat} {msg : Msg} (hh : A.1 s 11 = nI h) (hw : A.1 s 10 = nI w) (hn : msg 0 = nI n) (hb : h < 1000 ∧ w < 1000 ∧ n < 1000) : atake A s msg = aJ (aB A s (100 + h) (if n - 1 ≤ w - h then n - 1 else w - h) (fun j => msg (2 + j))) s 11 (nI (h + (if n - 1 ≤ w - h then n - 1 else w - h))) := by
  unfold atake
  dsimp only
  rw [hh, hw, hn, nI_clamp (by omega), nI_clamp (by omega), nI_clamp (by omega)]
  unfold aJ aB
  dsimp only
  congr 1
  funext t
  by_cases ht : t = s
  · subst ht
    simp only [va_up_self]
    funext k
    unfold upd bw
    by_cases k1 : k = 11
    · subst k1
      rw [if_neg (by omega), if_pos rfl, if_pos rfl]
    · rw [if_neg k1, if_neg k1, Nat.add_zero]
  · simp only [va_up_ne _ _ ht]
def okT (A : aA) (s h w : Nat) : Prop := A.1 s 11 = nI h ∧ A.1 s 10 = nI w ∧ h ≤ w ∧ w ≤ 100
set_option maxHeartbeats 1000000 in
theorem R_done {σ : hp} {m s u v e h w n l : Nat} {A : aA} {msg : Msg} (hR : RepR σ m A) (hs : s < 2) (hm : msgIs σ m msg) (hn : msg 0 = nI n) (hn1 : 1 ≤ n ∧ n ≤ 31) (hl : msg 3 = nI l) (hl2 : l < 256) (ho : A.1 s 0 = 2 ∨ A.1 s 0 = 3) (hD : okD A s u v e) (hT : okT A s h w) (hx : ¬ A.1 s 8 = 0 → e < 256) (hroom : aHas A s (msg 2) = false → e < 256) (hF : okF A s) (hK : okK A s) : ∃ σ', S_X9_done σ m (nI s) = some σ' ∧ RepR σ' m (adone asend A s msg) ∧ keepM σ σ' m := by
  have h1 := hR.1
  have c0 : σ.2.1 (m + 34) 0 = nI n := by rw [hm 0 (by decide)]; exact hn
  have c1 : σ.2.1 (m + 34) 1 = msg 1 := hm 1 (by decide)
  have c2 : σ.2.1 (m + 34) 2 = msg 2 := hm 2 (by decide)
  have c3 : σ.2.1 (m + 34) 3 = nI l := by rw [hm 3 (by decide)]; exact hl
  have cm := R_mast hR hs
  have cq : σ.2.1 (m + 4) s = A.1 s 13 := hR.get1 hs (by decide)
  have ct : σ.2.1 (m + 27) s = A.1 s 8 := hR.get1 hs (by decide)
  have hD0 := hD
  obtain ⟨d1, d2, d3, d4, d5, d6, d7⟩ := hD
  simp only [S_X9_done, S_X9_done_49, gM35 h1, gM18 h1, gM3 h1, o_ldI, aM35 h1, aM18 h1, aM3 h1, wx0 (show 0 < 32 by decide), wx1 (show 1 < 32 by decide), wx2 (show 2 < 32 by decide), wx3 (show 3 < 32 by decide), w_ix hs (by decide), Option.bind_some, c0, c1, c2, c3, cm, cq, gMr h1]
  unfold adone
  rw [hn, hl]
  by_cases hst : A.1 s 0 = 2
  · -- master
    rw [if_neg (show ¬ (if A.1 s 0 = 2 then (1 : Int32) else 0) = 0 by rw [if_pos hst]; decide), if_pos hst]
    by_cases hn0 : nI n = 1
    · rw [if_pos hn0, if_pos hn0]
      by_cases m72 : msg 1 = 72
      · rw [if_pos m72, if_pos m72]
        obtain ⟨σ1, e1, hR1, k1⟩ := R_control hR hs 1 0
        obtain ⟨σ2, e2, hR2, k2⟩ := R_forget hR1 hs 0 0 rfl (by decide)
        simp only [S_X9_done_50, S_X9_done_147, m72, gMr h1, gMr hR1.1, e1, e2, Option.bind_some]
        exact ⟨σ2, rfl, hR2, k1.m.tr k2⟩
      · rw [if_neg m72, if_neg m72]
        by_cases m84 : msg 1 = 84
        · rw [if_pos m84, if_pos m84]
          refine ⟨st1 σ (m + 17) (upd (σ.2.1 (m + 17)) s 0), ?_, hR.mast hs ho (Or.inr ⟨rfl, rfl⟩), keepM.st (by decide)⟩
          simp only [S_X9_done_50, S_X9_done_147, m84, gM18 h1, a_stI, aM18 h1, w_ix hs (by decide), w_z0, Option.bind_some]
          rfl
        · rw [if_neg m84, if_neg m84]
          by_cases hv : A.1 s 13 = 0
          · rw [if_pos hv, if_pos hv]
            exact ⟨σ, rfl, hR, keepM.rf⟩
          · rw [if_neg hv, if_neg hv]
            have hv2 : 0 < v := by
              rcases Nat.eq_zero_or_pos v with q | q
              · rw [q] at d2; exact absurd d2 hv
              · exact q
            simp only [S_X9_done_50, S_X9_done_147, if_neg m72, if_neg m84, gMr h1]
            have leave : ∃ σ', S_X9_done_100 σ m (nI s) = some σ' ∧ RepR σ' m (agoOn asend (aJ A s 13 (A.1 s 13 - 1)) s) ∧ keepM σ σ' m := by
              obtain ⟨σ1, e1, hR1, k1⟩ := R_leave hR hs hD0 hv2
              obtain ⟨σ2, e2, hR2, k2⟩ := R_goOn (u := u) (v := v - 1) (e := e) hR1 hs ⟨by rw [aJ_nk (by decide)]; exact d1, by rw [aJ_at, d2]; exact pk_sub (b := 1) hv2, by rw [aJ_nk (by decide)]; exact d3, by omega, d5, d6, fun j hj => by rw [aJ_nk (by omega)]; exact d7 j hj⟩ hF (fun q => by rw [aJ_nk (by decide)]; exact hK q)
              simp only [S_X9_done_100, S_X9_done_147, gMr h1, gMr hR1.1, e1, e2, Option.bind_some]
              exact ⟨σ2, rfl, hR2, k1.tr k2⟩
            by_cases m67 : msg 1 = 67
            · rw [if_pos m67, if_pos (show msg 1 = 78 ∨ msg 1 = 67 from Or.inr m67)]
              exact leave
            · rw [if_neg m67]
              by_cases m78 : msg 1 = 78
              · rw [if_pos m78, if_pos (show msg 1 = 78 ∨ msg 1 = 67 from Or.inl m78)]
                exact leave
              · rw [if_neg m78, if_neg (show ¬ (msg 1 = 78 ∨ msg 1 = 67) from fun q => q.elim m78 m67)]
                by_cases m89 : msg 1 = 89
                · rw [if_pos m89, if_pos m89]
                  obtain ⟨σ1, e1, hR1, k1⟩ := R_sendFile hR hs hD0 hv2 hF hK
                  simp only [e1, Option.bind_some]
                  exact ⟨σ1, rfl, hR1, k1⟩
                · rw [if_neg m89, if_neg m89]
                  exact ⟨σ, rfl, hR, keepM.rf⟩
    · rw [if_neg hn0, if_neg hn0]
      exact ⟨σ, rfl, hR, keepM.rf⟩
  · -- slave
    rw [if_pos (show (if A.1 s 0 = 2 then (1 : Int32) else 0) = 0 by rw [if_neg hst]), if_neg hst]
    have hH : ∃ σ', S_X9_done_296 σ m (nI s) (nI n) (msg 1) = some σ' ∧ RepR σ' m (if msg 1 = 72 ∧ nI n = 1 then (if A.1 s 13 = 0 then asend A s (mk1 72) else agoOn asend (aJ (asend A s (mk1 84)) s 0 2) s) else A) ∧ keepM σ σ' m := by
      simp only [S_X9_done_296, S_X9_done_345, gM3 h1, o_ldI, aM3 h1, w_ix hs (by decide), Option.bind_some, cq, gMr h1]
      by_cases m72 : msg 1 = 72
      · rw [if_pos m72]
        by_cases hn0 : nI n = 1
        · rw [if_pos hn0, if_pos (show msg 1 = 72 ∧ nI n = 1 from ⟨m72, hn0⟩)]
          by_cases hv : A.1 s 13 = 0
          · rw [if_pos hv, if_pos hv]
            obtain ⟨σ1, e1, hR1, k1⟩ := R_say hR hs 72 hF hK
            simp only [e1, Option.bind_some]
            exact ⟨σ1, rfl, hR1, k1⟩
          · rw [if_neg hv, if_neg hv]
            obtain ⟨σ1, e1, hR1, k1⟩ := R_say hR hs 84 hF hK
            have hR2 := hR1.mast (b := 1) (x := 2) hs (by rw [asend_J]; exact ho) (Or.inl ⟨rfl, rfl⟩)
            obtain ⟨σ3, e3, hR3, k3⟩ := R_goOn (u := u) (v := v) (e := e) hR2 hs ⟨by rw [aJ_nk (by decide), asend_J]; exact d1, by rw [aJ_nk (by decide), asend_J]; exact d2, by rw [aJ_nk (by decide), asend_J]; exact d3, d4, d5, d6, fun j hj => by rw [aJ_nk (by omega), asend_J]; exact d7 j hj⟩ asend_F (fun q => by rw [aJ_nk (by decide)]; exact asend_K hK q)
            simp only [e1, Option.bind_some, gM18 hR1.1, a_stI, aM18 hR1.1, w_ix hs (by decide), w_z1, gMr hR2.1, e3]
            exact ⟨σ3, rfl, hR3, (k1.tr (keepM.st (by decide))).tr k3⟩
        · rw [if_neg hn0, if_neg (show ¬ (msg 1 = 72 ∧ nI n = 1) from fun q => hn0 q.2)]
          exact ⟨σ, rfl, hR, keepM.rf⟩
      · rw [if_neg m72, if_neg (show ¬ (msg 1 = 72 ∧ nI n = 1) from fun q => m72 q.1)]
        exact ⟨σ, rfl, hR, keepM.rf⟩
    have hDd : ∃ σ', S_X9_done_190 σ m (nI s) (nI n) (msg 1) = some σ' ∧ RepR σ' m (if msg 1 = 68 ∧ 1 < nI n ∧ ¬ A.1 s 8 = 0 then (let B := atake A s msg; if B.1 s 11 = B.1 s 10 then aexec asend B s else B) else if msg 1 = 72 ∧ nI n = 1 then (if A.1 s 13 = 0 then asend A s (mk1 72) else agoOn asend (aJ (asend A s (mk1 84)) s 0 2) s) else A) ∧ keepM σ σ' m := by
      simp only [S_X9_done_190, gM28 h1, o_ldI, aM28 h1, w_ix hs (by decide), Option.bind_some, ct]
      by_cases m68 : msg 1 = 68
      · rw [if_pos m68]
        by_cases hn2 : nI n ≤ 1
        · rw [if_pos hn2, if_neg (show ¬ (msg 1 = 68 ∧ 1 < nI n ∧ ¬ A.1 s 8 = 0) from fun q => absurd q.2.1 (Int32.not_lt.mpr hn2))]
          exact hH
        · rw [if_neg hn2]
          by_cases ht0 : A.1 s 8 = 0
          · rw [if_pos ht0, if_neg (show ¬ (msg 1 = 68 ∧ 1 < nI n ∧ ¬ A.1 s 8 = 0) from fun q => q.2.2 ht0)]
            exact hH
          · rw [if_neg ht0, if_pos (show msg 1 = 68 ∧ 1 < nI n ∧ ¬ A.1 s 8 = 0 from ⟨m68, Int32.not_le.mp hn2, ht0⟩)]
            obtain ⟨t1, t2, t3, t4⟩ := hT
            have e29 : σ.2.1 (m + 29) s = nI w := by rw [hR.get1 hs (show (29, 1, 10, 1) ∈ tblJ by decide)]; exact t2
            have e30 : σ.2.1 (m + 30) s = nI h := by rw [hR.get1 hs (show (30, 1, 11, 1) ∈ tblJ by decide)]; exact t1
            have E := r_takeL (h := h) (n := n) h1 hs hm hn1.2 t4 e29 t3 (if n - 1 ≤ w - h then n - 1 else w - h) 0 FU (by omega) (by show _ < 1000; split <;> omega)
            rw [bw_0, st1_id, Nat.add_zero h, Nat.add_zero 2, Nat.zero_add, upd_id e30, st1_id] at E
            rw [show nI 2 = (2 : Int32) from rfl] at E
            rw [E]
            have hB := hR.putB (q := (31, 100, 100, 100)) (off := h) (c := if n - 1 ≤ w - h then n - 1 else w - h) (g := fun j => msg (2 + j)) hs (by decide) (by dsimp only; split <;> omega) (by decide)
            dsimp only at hB
            have hB2 := hB.put1 (r := 30) (n := 11) (x := nI (h + (if n - 1 ≤ w - h then n - 1 else w - h))) hs (by decide) (by decide)
            rw [st1_ne (by omega)] at hB2
            rw [← atake_eq t1 t2 hn (by omega)] at hB2
            generalize hσ1 : st1 (st1 σ (m + 31) (bw (σ.2.1 (m + 31)) (100 * s + h) 0 (if n - 1 ≤ w - h then n - 1 else w - h) (fun j => msg (2 + j)))) (m + 30) (upd (σ.2.1 (m + 30)) s (nI (h + (if n - 1 ≤ w - h then n - 1 else w - h)))) = σ1 at hB2 ⊢
            have k1 : keepM σ σ1 m := by rw [← hσ1]; exact (keepM.st (by decide)).tr (keepM.st (by decide))
            have f30 : σ1.2.1 (m + 30) s = (atake A s msg).1 s 11 := hB2.get1 hs (by decide)
            have f29 : σ1.2.1 (m + 29) s = (atake A s msg).1 s 10 := hB2.get1 hs (by decide)
            simp only [S_X9_done_273, S_X9_done_345, gM31 hB2.1, gM30 hB2.1, o_ldI, aM31 hB2.1, aM30 hB2.1, w_ix hs (by decide), Option.bind_some, f30, f29, gMr hB2.1]
            by_cases heq : (atake A s msg).1 s 11 = (atake A s msg).1 s 10
            · rw [if_pos heq, if_pos heq]
              have e10 : (atake A s msg).1 s 10 = nI w := by rw [atake_eq t1 t2 hn (by omega), aJ_nk (by decide), aB_o (by omega)]; exact t2
              have e14 : (atake A s msg).1 s 14 = nI e := by rw [atake_eq t1 t2 hn (by omega), aJ_nk (by decide), aB_o (by omega)]; exact d3
              have e6 : (atake A s msg).1 s 6 = A.1 s 6 := by rw [atake_eq t1 t2 hn (by omega), aJ_nk (by decide), aB_o (by omega)]
              obtain ⟨σ2, e2, hR2, k2⟩ := R_execute hB2 hs e14 (hx ht0) e10 t4 hF (fun q => by rw [e6]; exact hK q)
              simp only [e2, Option.bind_some]
              exact ⟨σ2, rfl, hR2, k1.tr k2⟩
            · rw [if_neg heq, if_neg heq]
              exact ⟨σ1, rfl, hB2, k1⟩
      · rw [if_neg m68, if_neg (show ¬ (msg 1 = 68 ∧ 1 < nI n ∧ ¬ A.1 s 8 = 0) from fun q => m68 q.1)]
        exact hH
    by_cases m83 : msg 1 = 83
    · rw [if_pos m83]
      by_cases hn3 : nI n = 3
      · rw [if_pos hn3, if_pos (show msg 1 = 83 ∧ nI n = 3 from ⟨m83, hn3⟩)]
        by_cases h100 : (100 : Int32) < nI l
        · rw [if_pos h100, if_neg (show ¬ nI l ≤ 100 from Int32.not_le.mpr h100)]
          exact ⟨σ, rfl, hR, keepM.rf⟩
        · rw [if_neg h100, if_pos (show nI l ≤ 100 from Int32.not_lt.mp h100)]
          have hl100 : l ≤ 100 := by
            rcases Nat.lt_or_ge 100 l with q | q
            · exact absurd (nI_lt q (by omega)) h100
            · exact q
          obtain ⟨σ1, e1, hR1, k1⟩ := R_offered hR hs d3 d6 (msg 2) l hl100 hroom hF hK
          simp only [e1, Option.bind_some, S_X9_done_345]
          exact ⟨σ1, rfl, hR1, k1⟩
      · rw [if_neg hn3, if_neg (show ¬ (msg 1 = 83 ∧ nI n = 3) from fun q => hn3 q.2)]
        exact hDd
    · rw [if_neg m83, if_neg (show ¬ (msg 1 = 83 ∧ nI n = 3) from fun q => m83 q.1)]
      exact hDd
