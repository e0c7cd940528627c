/-! The reference: goOn, sendFile, leave. -/
theorem aadd_J {A : aA} {s : Nat} {m : Msg} : (aadd A s m).1 = A.1 := by unfold aadd; split <;> rfl
theorem aadd_O {A : aA} {s : Nat} {m : Msg} : (aadd A s m).2.1 = A.2.1 := by unfold aadd; split <;> rfl
theorem asend_J {A : aA} {s : Nat} {m : Msg} : (asend A s m).1 = A.1 := by unfold asend; rw [aflow_J, aadd_J]
theorem asend_F {A : aA} {s : Nat} {m : Msg} : okF (asend A s m) s := aflow_ok
theorem asend_K {A : aA} {s : Nat} {m : Msg} (h : okK A s) : okK (asend A s m) s := aflow_okK (fun q => by rw [aadd_J]; rw [aadd_O] at q; exact h q)
/-- a site's disk, in numbers -/
def okD (A : aA) (s u v e : Nat) : Prop := A.1 s 12 = nI u ∧ A.1 s 13 = nI v ∧ A.1 s 14 = nI e ∧ v ≤ u ∧ u ≤ 30 ∧ e ≤ 256 ∧ ∀ j, j < u → ∃ l, l ≤ 100 ∧ A.1 s (200 + j) = nI l
theorem ix30 (s k : Nat) : (30 : Int32) * nI s + nI k = nI (30 * s + k) := by rw [show (30 : Int32) = nI 30 from rfl, pk_mul, nI_add]
theorem R_qu {σ : hp} {m s u v e : Nat} {A : aA} (h : RepR σ m A) (hs : s < 2) (hD : okD A s u v e) (hv : 0 < v) : σ.2.1 (m + 5) (30 * s) = nI (u - v) := by
  obtain ⟨d1, d2, d3, d4, d5, d6, d7⟩ := hD
  have := h.2.2.2.2.1 s hs 0 (by omega) (by rw [d2]; exact nI_lt hv (by omega))
  rw [d1, d2, pk_sub d4, nI_add, Nat.add_zero, Nat.add_zero] at this
  exact this
theorem R_flen {σ : hp} {m s j : Nat} {A : aA} (h : RepR σ m A) (hs : s < 2) (hj : j < 30) : σ.2.1 (m + 2) (30 * s + j) = A.1 s (200 + j) := h.2.2.1 s hs (2, 30, 200, 30) (by decide) j hj
theorem R_goOn {σ : hp} {m s u v e : Nat} {A : aA} (h : RepR σ m A) (hs : s < 2) (hD : okD A s u v e) (hF : okF A s) (hK : okK A s) : ∃ σ', S_X9_goOn σ m (nI s) = some σ' ∧ RepR σ' m (agoOn asend A s) ∧ keepM σ σ' m := by
  have h1 := h.1
  have hqc : σ.2.1 (m + 4) s = A.1 s 13 := h.get1 hs (by decide)
  have hD' := hD
  obtain ⟨d1, d2, d3, d4, d5, d6, d7⟩ := hD
  simp only [S_X9_goOn, gM3 h1, o_ldI, aM3 h1, w_ix hs (by decide), Option.bind_some, hqc]
  unfold agoOn
  by_cases hv : v = 0
  · rw [if_pos (by rw [d2, hv]; rfl), if_pos (by rw [d2, hv]; rfl)]
    obtain ⟨σ1, e1, hR1, k1⟩ := R_say h hs 72 hF hK
    simp only [gMr h1, e1, Option.bind_some]
    exact ⟨σ1, rfl, hR1, k1⟩
  · have hne : ¬ A.1 s 13 = 0 := by rw [d2]; exact nI_ne0 (by omega) (by omega)
    rw [if_neg hne, if_neg hne]
    have hq0 := R_qu h hs hD' (by omega)
    simp only [gM4 h1, aM4 h1, show (30 : Int32) * nI s = nI (30 * s) from pk_mul 30 s, w_ix (show 30 * s < 60 by omega) (by decide), Option.bind_some, hq0, gMr h1]
    obtain ⟨σ1, e1, hR1, hm1, k1⟩ := R_begin h 83
    rw [e1]
    simp only [Option.bind_some, gMr hR1.1]
    obtain ⟨σ2, e2, hR2, hm2, k2⟩ := R_more (c := 1) hR1 hm1 rfl (by decide) (nI (u - v))
    rw [e2]
    simp only [Option.bind_some, gM1 hR2.1, aM1 hR2.1, nI_add, w_ix (show 30 * s + (u - v) < 60 by omega) (by decide), R_flen hR2 hs (show u - v < 30 by omega), gMr hR2.1]
    obtain ⟨σ3, e3, hR3, hm3, k3⟩ := R_more (c := 2) hR2 hm2 rfl (by decide) (A.1 s (200 + (u - v)))
    rw [e3]
    simp only [Option.bind_some, gMr hR3.1]
    have hm4 : msgIs σ3 m (mkS (nI (u - v)) (A.1 s (200 + (u - v)))) := fun i hi => by
      rw [hm3 i hi]
      unfold upd mkS mk1
      by_cases i0 : i = 0
      · simp [i0]; rfl
      · by_cases i1 : i = 1
        · simp [i1]
        · by_cases i2 : i = 2
          · simp [i2]
          · by_cases i3 : i = 3
            · simp [i3]
            · simp [i0, i1, i2, i3]
    obtain ⟨σ4, e4, hR4, k4⟩ := R_send hR3 hs hm4 hF hK
    rw [e4]
    refine ⟨σ4, rfl, ?_, ((k1.tr k2).tr k3).tr k4⟩
    rw [d1, d2, pk_sub d4, nI_clamp (by omega)]
    exact hR4
theorem R_files {σ : hp} {m s k : Nat} {A : aA} (h : RepR σ m A) (hs : s < 2) (hk : k < 3000) : σ.2.1 (m + 3) (3000 * s + k) = A.1 s (1000 + k) := h.2.2.1 s hs (3, 3000, 1000, 3000) (by decide) k hk
theorem mkD_s {f : Nat → Int32} {c i : Nat} : upd (upd (mkD f c) 0 (nI (1 + c + 1))) (1 + c + 1) (f c) i = mkD f (c + 1) i := by
  unfold upd mkD
  by_cases i0 : i = 0
  · subst i0
    simp [show ¬ (0 = 1 + c + 1) by omega]
    congr 1
  · by_cases i1 : i = 1
    · subst i1
      simp [show ¬ (1 = 1 + c + 1) by omega]
    · by_cases i2 : i = 1 + c + 1
      · subst i2
        simp [show 1 + c + 1 - 2 = c by omega]
      · simp only [i0, i1, i2, if_false]
        by_cases i3 : i - 2 < c
        · rw [if_pos i3, if_pos (by omega)]
        · rw [if_neg i3, if_neg (by omega)]
theorem R_file41 {rec25 : hp → Nat → Int32 → Int32 → Int32 → Int32 → Option hp} {m s j n q L : Nat} {A : aA} (hs : s < 2) (hj : j < 30) (hn : n ≤ 100) (hL : L = if q + 30 ≤ n then 30 else n - q) (hq : q < n) : ∀ (d c N : Nat) (σ : hp), c + d = L → d < N → RepR σ m A → msgIs σ m (mkD (fun i => A.1 s (1000 + 100 * j + (q + i))) c) → ∃ σ', S_X9_sendFile_41 rec25 N σ m (nI s) (nI j) (nI n) (nI q) (nI (q + c)) = S_X9_sendFile_85 rec25 σ' m (nI s) (nI j) (nI n) (nI q) ∧ RepR σ' m A ∧ msgIs σ' m (mkD (fun i => A.1 s (1000 + 100 * j + (q + i))) L) ∧ keepM σ σ' m := by
  intro d
  induction d with
  | zero =>
    intro c N σ hc hN hR hm
    obtain ⟨N, rfl⟩ : ∃ z, N = z + 1 := ⟨N - 1, by omega⟩
    obtain rfl : c = L := by omega
    refine ⟨σ, ?_, hR, hm, keepM.rf⟩
    simp only [S_X9_sendFile_41, S_X9_sendFile_41_b]
    by_cases h1 : n ≤ q + c
    · rw [if_pos (nI_le h1 (by split at hL <;> omega))]
    · rw [if_neg (nI_ge (by omega) (by omega)), if_pos]
      rw [show nI q + (30 : Int32) = nI (q + 30) from nI_add q 30]
      exact nI_le (by split at hL <;> omega) (by omega)
  | succ d ih =>
    intro c N σ hc hN hR hm
    obtain ⟨N, rfl⟩ : ∃ z, N = z + 1 := ⟨N - 1, by omega⟩
    have hLb : L ≤ 30 ∧ q + L ≤ n := by split at hL <;> omega
    simp only [S_X9_sendFile_41, S_X9_sendFile_41_b]
    rw [if_neg (nI_ge (show q + c < n by omega) (by omega)), if_neg (by rw [show nI q + (30 : Int32) = nI (q + 30) from nI_add q 30]; exact nI_ge (by omega) (by omega))]
    have hix : (3000 : Int32) * nI s + (100 : Int32) * nI j + nI (q + c) = nI (3000 * s + (100 * j + (q + c))) := by
      rw [show (3000 : Int32) = nI 3000 from rfl, show (100 : Int32) = nI 100 from rfl, pk_mul, pk_mul, nI_add, nI_add]
      congr 1
      omega
    simp only [gM2 hR.1, o_ldI, aM2 hR.1, hix, w_ix (show 3000 * s + (100 * j + (q + c)) < 6000 by omega) (by decide), Option.bind_some, R_files hR hs (show 100 * j + (q + c) < 3000 by omega), gMr hR.1, nI_1]
    obtain ⟨σ1, e1, hR1, hm1, k1⟩ := R_more (c := 1 + c) hR hm rfl (by omega) (A.1 s (1000 + 100 * j + (q + c)))
    rw [show 1000 + (100 * j + (q + c)) = 1000 + 100 * j + (q + c) by omega, e1]
    simp only [Option.bind_some]
    obtain ⟨σ2, e2, hR2, hm2, k2⟩ := ih (c + 1) N σ1 (by omega) (by omega) hR1 (fun i hi => by
      rw [hm1 i hi, ← mkD_s (f := fun i => A.1 s (1000 + 100 * j + (q + i)))])
    exact ⟨σ2, e2, hR2, hm2, k1.tr k2⟩
def aDs (snd : aSnd) (f : Nat → Int32) (n s : Nat) : Nat → Nat → aA → aA
  | 0, _, A => A
  | r + 1, q, A => aDs snd f n s r (q + 30) (aD snd f n s A q)
theorem aDs_s {snd : aSnd} {f : Nat → Int32} {n s : Nat} : ∀ (r q : Nat) (A : aA), n ≤ q → aDs snd f n s r q A = A := by
  intro r
  induction r with
  | zero => intro q A _; rfl
  | succ r ih =>
    intro q A h
    rw [aDs, show aD snd f n s A q = A by unfold aD; rw [if_neg (by omega)]]
    exact ih _ _ (by omega)
theorem R_file25 {m s j n : Nat} {A0 : aA} (hs : s < 2) (hj : j < 30) (hn : n ≤ 100) : ∀ (r q N : Nat) (σ : hp) (A : aA), n ≤ q + 30 * r → q + 30 * r ≤ 200 → r < N → A.1 = A0.1 → RepR σ m A → okF A s → okK A s → ∃ σ', S_X9_sendFile_25 N σ m (nI s) (nI j) (nI n) (nI q) = some σ' ∧ RepR σ' m (aDs asend (fun i => A0.1 s (1000 + 100 * j + i)) n s r q A) ∧ keepM σ σ' m := by
  intro r
  induction r with
  | zero =>
    intro q N σ A hr hr2 hN hA hR hF hK
    obtain ⟨N, rfl⟩ : ∃ z, N = z + 1 := ⟨N - 1, by omega⟩
    refine ⟨σ, ?_, hR, keepM.rf⟩
    simp only [S_X9_sendFile_25, S_X9_sendFile_25_b]
    rw [if_pos (nI_le (by omega) (by omega))]
  | succ r ih =>
    intro q N σ A hr hr2 hN hA hR hF hK
    obtain ⟨N, rfl⟩ : ∃ z, N = z + 1 := ⟨N - 1, by omega⟩
    simp only [S_X9_sendFile_25, S_X9_sendFile_25_b]
    by_cases hq : n ≤ q
    · rw [if_pos (nI_le hq (by omega)), aDs_s (r + 1) q A hq]
      exact ⟨σ, rfl, hR, keepM.rf⟩
    · rw [if_neg (nI_ge (by omega) (by omega))]
      obtain ⟨σ1, e1, hR1, hm1, k1⟩ := R_begin hR 68
      simp only [gMr hR.1, e1, Option.bind_some]
      obtain ⟨σ2, e2, hR2, hm2, k2⟩ := R_file41 (rec25 := S_X9_sendFile_25 N) (q := q) (L := if q + 30 ≤ n then 30 else n - q) hs hj hn rfl (by omega) (if q + 30 ≤ n then 30 else n - q) 0 FU σ1 (Nat.zero_add _) (by show _ < 1000; split <;> omega) hR1 (fun i hi => by
        rw [hm1 i hi]
        unfold mk1 mkD
        by_cases i0 : i = 0
        · simp [i0]; rfl
        · by_cases i1 : i = 1
          · simp [i1]
          · simp [i0, i1])
      rw [Nat.add_zero] at e2
      rw [e2]
      obtain ⟨σ3, e3, hR3, k3⟩ := R_send hR2 hs hm2 hF hK
      simp only [S_X9_sendFile_85, gMr hR2.1, e3, Option.bind_some, show nI q + (30 : Int32) = nI (q + 30) from nI_add q 30]
      have hA3 : aD asend (fun i => A0.1 s (1000 + 100 * j + i)) n s A q = asend A s (mkD (fun i => A.1 s (1000 + 100 * j + (q + i))) (if q + 30 ≤ n then 30 else n - q)) := by
        unfold aD
        rw [if_pos (by omega), hA]
      obtain ⟨σ4, e4, hR4, k4⟩ := ih (q + 30) N σ3 (aD asend (fun i => A0.1 s (1000 + 100 * j + i)) n s A q) (by omega) (by omega) (by omega) (by rw [hA3, asend_J]; exact hA) (by rw [hA3]; exact hR3) (by rw [hA3]; exact asend_F) (by rw [hA3]; exact asend_K hK)
      exact ⟨σ4, e4, hR4, ((k1.tr k2).tr k3).tr k4⟩
theorem R_sendFile {σ : hp} {m s u v e : Nat} {A : aA} (h : RepR σ m A) (hs : s < 2) (hD : okD A s u v e) (hv : 0 < v) (hF : okF A s) (hK : okK A s) : ∃ σ', S_X9_sendFile σ m (nI s) = some σ' ∧ RepR σ' m (afile asend A s) ∧ keepM σ σ' m := by
  have h1 := h.1
  have hq0 := R_qu h hs hD hv
  obtain ⟨d1, d2, d3, d4, d5, d6, d7⟩ := hD
  obtain ⟨l, hl, hl2⟩ := d7 (u - v) (by omega)
  simp only [S_X9_sendFile, gM4 h1, o_ldI, aM4 h1, show (30 : Int32) * nI s = nI (30 * s) from pk_mul 30 s, w_ix (show 30 * s < 60 by omega) (by decide), Option.bind_some, hq0, gM1 h1, aM1 h1, nI_add, w_ix (show 30 * s + (u - v) < 60 by omega) (by decide), R_flen h hs (show u - v < 30 by omega), hl2]
  obtain ⟨σ1, e1, hR1, k1⟩ := R_file25 (A0 := A) (n := l) hs (show u - v < 30 by omega) hl 4 0 FU σ A (by omega) (by omega) (by decide) rfl h hF hK
  rw [show (0 : Int32) = nI 0 from rfl, e1]
  refine ⟨σ1, rfl, ?_, k1⟩
  unfold afile
  rw [d1, d2, pk_sub d4, nI_clamp (by omega)]
  dsimp only
  rw [hl2, nI_clamp (by omega)]
  exact hR1
theorem r_leaveL {σ0 : hp} {m s c : Nat} (h0 : SkM σ0 m) (hs : s < 2) (hc : c < 30) (hw : σ0.2.1 (m + 4) s = nI c) : ∀ (d k n : Nat) (σ : hp), k + d = c → d < n → σ = st1 σ0 (m + 5) (σ.2.1 (m + 5)) → (∀ j, 30 * s + k ≤ j → σ.2.1 (m + 5) j = σ0.2.1 (m + 5) j) → S_X9_leave_12 n σ m (nI s) (nI k) = some (st1 σ (m + 5) (bw (σ.2.1 (m + 5)) (30 * s) k c (fun i => σ0.2.1 (m + 5) (30 * s + i + 1)))) := by
  intro d
  induction d with
  | zero =>
    intro k n σ hk hn hσ hj
    obtain ⟨n, rfl⟩ : ∃ q, n = q + 1 := ⟨n - 1, by omega⟩
    obtain rfl : k = c := by omega
    have h : SkM σ m := by rw [hσ]; exact h0
    have e4 : σ.2.1 (m + 4) = σ0.2.1 (m + 4) := by rw [hσ, st1_ne (by omega)]
    rw [bw_0, st1_id]
    simp only [S_X9_leave_12, S_X9_leave_12_b, gM3 h, o_ldI, aM3 h, w_ix hs (by decide), Option.bind_some, e4, hw]
    rw [if_pos (nI_le (Nat.le_refl _) (by omega))]
  | succ d ih =>
    intro k n σ hk hn hσ hj
    obtain ⟨n, rfl⟩ : ∃ q, n = q + 1 := ⟨n - 1, by omega⟩
    have h : SkM σ m := by rw [hσ]; exact h0
    have e4 : σ.2.1 (m + 4) = σ0.2.1 (m + 4) := by rw [hσ, st1_ne (by omega)]
    simp only [S_X9_leave_12, S_X9_leave_12_b, gM3 h, o_ldI, aM3 h, w_ix hs (by decide), Option.bind_some, e4, hw]
    rw [if_neg (nI_ge (by omega) (by omega))]
    simp only [gM4 h, ix30, nI_1, aM4 h, w_ix (show 30 * s + k + 1 < 60 by omega) (by decide), Option.bind_some, a_stI, w_ix (show 30 * s + k < 60 by omega) (by decide)]
    rw [ih (k + 1) n _ (by omega) (by omega) (by rw [st1_self, st1_of hσ]) (fun j hj2 => by rw [st1_self, u_n (by omega)]; exact hj j (by omega)), st1_self, st1_st1, hj (30 * s + k + 1) (by omega), bw_s (g := fun i => σ0.2.1 (m + 5) (30 * s + i + 1)) (by omega)]
theorem R_leave {σ : hp} {m s u v e : Nat} {A : aA} (h : RepR σ m A) (hs : s < 2) (hD : okD A s u v e) (hv : 0 < v) : ∃ σ', S_X9_leave σ m (nI s) = some σ' ∧ RepR σ' m (aJ A s 13 (A.1 s 13 - 1)) ∧ keepM σ σ' m := by
  have h1 := h.1
  have hqc : σ.2.1 (m + 4) s = A.1 s 13 := h.get1 hs (by decide)
  obtain ⟨d1, d2, d3, d4, d5, d6, d7⟩ := hD
  obtain ⟨w, rfl⟩ : ∃ w, v = w + 1 := ⟨v - 1, by omega⟩
  simp only [S_X9_leave, gM3 h1, o_ldI, aM3 h1, w_ix hs (by decide), Option.bind_some, hqc, d2, nI_pred, a_stI]
  have hI := h.2.2.1.put (q := (4, 1, 13, 1)) (k := 0) (x := nI w) hs (by decide) (show 0 < 1 by decide)
  generalize hσ1 : st1 σ (m + 4) (upd (σ.2.1 (m + 4)) s (nI w)) = σ1
  have hI : intsR σ1 m (aJ A s 13 (nI w)) := by rw [← hσ1]; simpa using hI
  have h2 : SkM σ1 m := by rw [← hσ1]; exact h1
  have e4 : σ1.2.1 (m + 4) s = nI w := by rw [← hσ1, st1_self, u_s]
  have e5 : σ1.2.1 (m + 5) = σ.2.1 (m + 5) := by rw [← hσ1, st1_ne (by omega)]
  have eL := r_leaveL h2 hs (show w < 30 by omega) e4 w 0 FU σ1 (by omega) (by show w < 1000; omega) (by rw [st1_id]) (fun _ _ => rfl)
  rw [show nI 0 = (0 : Int32) from rfl] at eL
  rw [eL, e5]
  have jd : ∀ d, d ≠ 4 → d ≠ 5 → (st1 σ1 (m + 5) (bw (σ.2.1 (m + 5)) (30 * s) 0 w (fun i => σ.2.1 (m + 5) (30 * s + i + 1)))).2.1 (m + d) = σ.2.1 (m + d) := fun d b1 b2 => by rw [st1_ne (by omega), ← hσ1, st1_ne (by omega)]
  obtain ⟨g1, g2, g3, g4, g5, g6⟩ := h
  refine ⟨_, rfl, ⟨h2, ⟨g2.1.kept (jd 12 (by decide) (by decide)) (jd 13 (by decide) (by decide)) (jd 14 (by decide) (by decide)), ?_, fun t ht => ?_⟩, fun t ht q hq k hk => ?_, fun t ht => ?_, fun t ht j hj hl => ?_, fun i hi => ?_, ?_⟩, ?_⟩
  · have : olN (aJ A s 13 (nI w)) = olN A := by funext t; unfold olN; rw [aJ_nk (by decide)]
    rw [this]
    exact g2.2.1.kept (jd 21 (by decide) (by decide)) (jd 22 (by decide) (by decide)) (jd 23 (by decide) (by decide)) (jd 24 (by decide) (by decide)) (jd 25 (by decide) (by decide)) (jd 26 (by decide) (by decide))
  · unfold olN
    rw [aJ_nk (by decide)]
    exact g2.2.2 t ht
  · rw [st1_ne (by have := (tJ1 q hq).1; omega)]
    exact hI t ht q hq k hk
  · rw [jd 16 (by decide) (by decide), jd 17 (by decide) (by decide), aJ_nk (by decide)]
    exact g4 t ht
  · rw [st1_self]
    by_cases hts : t = s
    · subst hts
      rw [aJ_at] at hl
      have hjw : j < w := (nI_ltI (by omega) (by omega)).mp hl
      rw [aJ_at, aJ_nk (by decide), bw_in (by omega) hjw, d1]
      have := g5 t ht (j + 1) (by omega) (by rw [d2]; exact nI_lt (by omega) (by omega))
      rw [show 30 * t + j + 1 = 30 * t + (j + 1) by omega, this, d1, d2, pk_sub d4, pk_sub (by omega), nI_add, nI_add]
      congr 1
      omega
    · rw [aJ_ns hts] at hl
      rw [aJ_ns hts, aJ_ns hts, bw_out (by omega)]
      exact g5 t ht j hj hl
  · rw [jd 11 (by decide) (by decide), aJ_ns (by omega)]
    exact g6.1 i hi
  · rw [st1_ne (by omega), ← hσ1, st1_ne (by omega), aJ_ns (by omega)]
    exact g6.2
  · exact ⟨by rw [← hσ1]; rfl, by rw [← hσ1]; rfl, fun b hb => by rw [st1_ne (by omega), ← hσ1, st1_ne (by omega)]⟩
