/-! The reference: begin, more, send, say. -/
theorem RepR.row {σ : hp} {m d : Nat} {A : aA} {g : Nat → Int32} (h : RepR σ m A) (hd : d = 15 ∨ d = 34 ∨ d = 35) : RepR (st1 σ (m + d) g) m A := by
  obtain ⟨h1, h2, h3, h4, h5, h6⟩ := h
  have tr : ∀ q ∈ tblJ, q.1 ≠ 15 ∧ q.1 ≠ 34 ∧ q.1 ≠ 35 := by decide
  refine ⟨h1, ⟨h2.1.kept (st1_ne (by omega)) (st1_ne (by omega)) (st1_ne (by omega)), h2.2.1.kept (st1_ne (by omega)) (st1_ne (by omega)) (st1_ne (by omega)) (st1_ne (by omega)) (st1_ne (by omega)) (st1_ne (by omega)), h2.2.2⟩, fun s hs q hq j hj => ?_, fun s hs => ?_, fun s hs j hj hl => ?_, fun i hi => ?_, ?_⟩
  · rw [st1_ne (by have := tr q hq; omega)]
    exact h3 s hs q hq j hj
  · rw [st1_ne (by omega), st1_ne (by omega)]
    exact h4 s hs
  · rw [st1_ne (by omega)]
    exact h5 s hs j hj hl
  · rw [st1_ne (by omega)]
    exact h6.1 i hi
  · rw [st1_ne (by omega)]
    exact h6.2
def msgIs (σ : hp) (m : Nat) (msg : Msg) : Prop := ∀ i, i < 32 → σ.2.1 (m + 34) i = msg i
theorem r_beginL {σ0 : hp} {m : Nat} (h0 : SkM σ0 m) (letter : Int32) : ∀ (d k n : Nat) (σ : hp), k + d = 32 → d < n → σ = st1 σ0 (m + 34) (σ.2.1 (m + 34)) → S_X9_begin_2 n σ m letter (nI k) = some (st1 σ (m + 34) (upd (upd (bw (σ.2.1 (m + 34)) 0 k 32 (fun _ => 0)) 0 1) 1 letter)) := by
  intro d
  induction d with
  | zero =>
    intro k n σ hk hn hσ
    obtain ⟨n, rfl⟩ : ∃ q, n = q + 1 := ⟨n - 1, by omega⟩
    obtain rfl : k = 32 := by omega
    have h : SkM σ m := by rw [hσ]; exact h0
    have h' : SkM (st1 σ (m + 34) (upd (σ.2.1 (m + 34)) 0 1)) m := h
    simp only [S_X9_begin_2, S_X9_begin_2_b]
    rw [if_pos (show (32 : Int32) ≤ nI 32 by decide)]
    simp only [gM35 h, a_stI, aM35 h, wx0 (show 0 < 32 by decide), Option.bind_some, gM35 h', aM35 h', wx1 (show 1 < 32 by decide), bw_0, st1_self, st1_st1]
  | succ d ih =>
    intro k n σ hk hn hσ
    obtain ⟨n, rfl⟩ : ∃ q, n = q + 1 := ⟨n - 1, by omega⟩
    have h : SkM σ m := by rw [hσ]; exact h0
    simp only [S_X9_begin_2, S_X9_begin_2_b]
    rw [if_neg (show ¬ (32 : Int32) ≤ nI k from nI_ge (b := 32) (by omega) (by decide))]
    simp only [gM35 h, a_stI, aM35 h, w_ix (show k < 32 by omega) (by decide), Option.bind_some, nI_1]
    have e := bw_s (f := σ.2.1 (m + 34)) (off := 0) (k := k) (b := 32) (g := fun _ => 0) (by omega)
    rw [Nat.zero_add] at e
    rw [ih (k + 1) n _ (by omega) (by omega) (by rw [st1_self, st1_of hσ]), st1_self, st1_st1, e]
theorem R_begin {σ : hp} {m : Nat} {A : aA} (h : RepR σ m A) (letter : Int32) : ∃ σ', S_X9_begin σ m letter = some σ' ∧ RepR σ' m A ∧ msgIs σ' m (mk1 letter) ∧ keepM σ σ' m := by
  have e := r_beginL h.1 letter 32 0 FU σ rfl (by decide) (by rw [st1_id])
  rw [show nI 0 = (0 : Int32) from rfl] at e
  refine ⟨_, e, h.row (by omega), fun i hi => ?_, keepM.st (by omega)⟩
  rw [st1_self]
  unfold mk1 upd bw
  by_cases h1 : i = 1
  · simp [h1]
  · by_cases h0 : i = 0
    · simp [h0]
    · simp [h1, h0, hi]
/-- a message with c bytes behind the letter gets one more -/
theorem R_more {σ : hp} {m c : Nat} {A : aA} {msg : Msg} (h : RepR σ m A) (hm : msgIs σ m msg) (hc : msg 0 = nI c) (hc2 : c + 1 < 32) (b : Int32) : ∃ σ', S_X9_more σ m b = some σ' ∧ RepR σ' m A ∧ msgIs σ' m (upd (upd msg 0 (nI (c + 1))) (c + 1) b) ∧ keepM σ σ' m := by
  have h1 := h.1
  have e0 : σ.2.1 (m + 34) 0 = nI c := by rw [hm 0 (by decide), hc]
  have h' : SkM (st1 σ (m + 34) (upd (σ.2.1 (m + 34)) 0 (nI (c + 1)))) m := h1
  refine ⟨st1 σ (m + 34) (upd (upd (σ.2.1 (m + 34)) 0 (nI (c + 1))) (c + 1) b), ?_, h.row (by omega), fun i hi => ?_, keepM.st (by omega)⟩
  · simp only [S_X9_more, gM35 h1, o_ldI, a_stI, aM35 h1, wx0 (show 0 < 32 by decide), Option.bind_some, e0, nI_1, gM35 h', aM35 h', st1_self, u_s, w_ix hc2 (by decide), st1_st1]
  · rw [st1_self]
    unfold upd
    rw [hm i hi]
theorem r_sendL {σ0 : hp} {m s c : Nat} (h0 : SkM σ0 m) (hs : s < 2) (hc : c < 16) (hw : σ0.2.1 (m + 25) s = nI c) : ∀ (d k n : Nat) (σ : hp), k + d = 32 → d < n → σ = st1 σ0 (m + 26) (σ.2.1 (m + 26)) → S_X9_send_14 n σ m (nI s) (nI k) = S_X9_send_14 (n - d) (st1 σ (m + 26) (bw (σ.2.1 (m + 26)) (512 * s + 32 * c) k 32 (fun i => σ0.2.1 (m + 34) i))) m (nI s) (nI 32) := by
  intro d
  induction d with
  | zero =>
    intro k n σ hk hn hσ
    obtain rfl : k = 32 := by omega
    rw [bw_0, st1_id]
    rfl
  | succ d ih =>
    intro k n σ hk hn hσ
    obtain ⟨n, rfl⟩ : ∃ q, n = q + 1 := ⟨n - 1, by omega⟩
    have h : SkM σ m := by rw [hσ]; exact h0
    have e25 : σ.2.1 (m + 25) = σ0.2.1 (m + 25) := by rw [hσ, st1_ne (by omega)]
    have e34 : σ.2.1 (m + 34) = σ0.2.1 (m + 34) := by rw [hσ, st1_ne (by omega)]
    conv => lhs; simp only [S_X9_send_14, S_X9_send_14_b]
    rw [if_neg (show ¬ (32 : Int32) ≤ nI k from nI_ge (b := 32) (by omega) (by decide))]
    have hix : (512 : Int32) * nI s + (32 : Int32) * nI c + nI k = nI (512 * s + 32 * c + k) := by
      rw [show (512 : Int32) = nI 512 from rfl, show (32 : Int32) = nI 32 from rfl, pk_mul, pk_mul, nI_add, nI_add]
    simp only [gM26 h, gM27 h, gM35 h, o_ldI, aM26 h, aM35 h, w_ix hs (by decide), w_ix (show k < 32 by omega) (by decide), Option.bind_some, e25, hw, hix, e34, a_stI, aM27 h, w_ix (show 512 * s + 32 * c + k < 1024 by omega) (by decide), nI_1]
    rw [ih (k + 1) n _ (by omega) (by omega) (by rw [st1_self, st1_of hσ]), st1_self, st1_st1, bw_s (g := fun i => σ0.2.1 (m + 34) i) (by omega), show n + 1 - (d + 1) = n - d by omega]
def okF (A : aA) (s : Nat) : Prop := (A.2.1 s).length < 3 → A.2.2.1 s = []
def okK (A : aA) (s : Nat) : Prop := A.2.1 s = [] → A.1 s 6 = 0
theorem aflN_J {s : Nat} : ∀ (k : Nat) (A : aA), (aflN k A s).1 = A.1 := by
  intro k
  induction k with
  | zero => intro A; rfl
  | succ k ih =>
    intro A
    rw [aflN, ih]
    by_cases hst : A.2.2.1 s = [] ∨ 3 ≤ (A.2.1 s).length
    · rw [aflow1_s hst]
    · obtain ⟨msg, ws, hW⟩ : ∃ msg ws, A.2.2.1 s = msg :: ws := by
        cases hq : A.2.2.1 s with
        | nil => exact absurd (Or.inl hq) hst
        | cons a b => exact ⟨a, b, rfl⟩
      rw [aflow1_m hW (Nat.not_le.mp fun q => hst (Or.inr q))]
theorem aflow_J {A : aA} {s : Nat} : (aflow A s).1 = A.1 := aflN_J 3 A
theorem aflN_ok {s : Nat} : ∀ (k : Nat) (A : aA), 3 - (A.2.1 s).length ≤ k → okF (aflN k A s) s ∧ ((aflN k A s).2.1 s = [] → A.2.1 s = [] ∧ A.2.2.1 s = []) := by
  intro k
  induction k with
  | zero => intro A h; exact ⟨fun q => absurd q (by show ¬ (A.2.1 s).length < 3; omega), fun q => absurd q (by intro e; have e : A.2.1 s = [] := e; rw [e] at h; simp at h)⟩
  | succ k ih =>
    intro A h
    by_cases hst : A.2.2.1 s = [] ∨ 3 ≤ (A.2.1 s).length
    · rw [aflN_s hst]
      refine ⟨fun q => ?_, fun q => ?_⟩
      · rcases hst with e | e
        · exact e
        · omega
      · rcases hst with e | e
        · exact ⟨q, e⟩
        · rw [q] at e; simp at e
    · obtain ⟨msg, ws, hW⟩ : ∃ msg ws, A.2.2.1 s = msg :: ws := by
        cases hq : A.2.2.1 s with
        | nil => exact absurd (Or.inl hq) hst
        | cons a b => exact ⟨a, b, rfl⟩
      have hlt : (A.2.1 s).length < 3 := Nat.not_le.mp fun q => hst (Or.inr q)
      have e1 := aflow1_m hW hlt
      have e2 : (aflow1 A s).2.1 s = A.2.1 s ++ [msg] := by rw [e1]; exact va_up_self _ _ _
      obtain ⟨i1, i2⟩ := ih (aflow1 A s) (by rw [e2, List.length_append, List.length_singleton]; omega)
      refine ⟨i1, fun q => ?_⟩
      have := (i2 q).1
      rw [e2] at this
      simp at this
theorem aflow_ok {A : aA} {s : Nat} : okF (aflow A s) s := (aflN_ok 3 A (by omega)).1
theorem aflow_okK {A : aA} {s : Nat} (h : okK A s) : okK (aflow A s) s := fun q => by
  rw [aflow_J]
  exact h ((aflN_ok 3 A (by omega)).2 q).1
theorem R_send {σ : hp} {m s : Nat} {A : aA} {msg : Msg} (h : RepR σ m A) (hs : s < 2) (hm : msgIs σ m msg) (hF : okF A s) (hK : okK A s) : ∃ σ', S_X9_send σ m (nI s) = some σ' ∧ RepR σ' m (asend A s msg) ∧ keepM σ σ' m := by
  have h1 := h.1
  obtain ⟨a1, a2, a3, a4, a5, a6, a7, a8⟩ := h.2.1.2.1 s hs
  simp only [S_X9_send, gM26 h1, o_ldI, aM26 h1, w_ix hs (by decide), Option.bind_some, a3]
  by_cases hfull : (A.2.2.1 s).length = 16
  · rw [if_pos (by rw [hfull]; rfl)]
    have hout : 3 ≤ (A.2.1 s).length := by
      rcases Nat.lt_or_ge (A.2.1 s).length 3 with q | q
      · rw [hF q] at hfull; simp at hfull
      · exact q
    refine ⟨σ, rfl, ?_, keepM.rf⟩
    have : asend A s msg = A := by
      unfold asend aadd
      rw [if_neg (by omega)]
      exact aflN_s (Or.inr hout) 3
    rw [this]
    exact h
  · rw [if_neg (by rw [show (16 : Int32) = nI 16 from rfl, nIeq (by omega) (by decide)]; exact hfull)]
    have hwl : (A.2.2.1 s).length < 16 := by omega
    have eL := r_sendL h1 hs hwl a3 32 0 FU σ rfl (by decide) (by rw [st1_id])
    rw [show nI 0 = (0 : Int32) from rfl] at eL
    rw [eL]
    generalize hσ1 : st1 σ (m + 26) (bw (σ.2.1 (m + 26)) (512 * s + 32 * (A.2.2.1 s).length) 0 32 (fun i => σ.2.1 (m + 34) i)) = σ1
    have h2 : SkM σ1 m := by rw [← hσ1]; exact h1
    obtain ⟨N, hN⟩ : ∃ N, FU - 32 = N + 1 := ⟨967, rfl⟩
    rw [hN]
    have e25 : σ1.2.1 (m + 25) = σ.2.1 (m + 25) := by rw [← hσ1, st1_ne (by omega)]
    simp only [S_X9_send_14, S_X9_send_14_b]
    rw [if_pos (show (32 : Int32) ≤ nI 32 by decide)]
    simp only [gM26 h2, o_ldI, aM26 h2, w_ix hs (by decide), Option.bind_some, e25, a3, a_stI, nI_1]
    generalize hσ2 : st1 σ1 (m + 25) (upd (σ.2.1 (m + 25)) s (nI ((A.2.2.1 s).length + 1))) = σ2
    have h3 : SkM σ2 m := by rw [← hσ2]; exact h2
    have j25 : σ2.2.1 (m + 25) = upd (σ.2.1 (m + 25)) s (nI ((A.2.2.1 s).length + 1)) := by rw [← hσ2, st1_self]
    have j26 : σ2.2.1 (m + 26) = bw (σ.2.1 (m + 26)) (512 * s + 32 * (A.2.2.1 s).length) 0 32 (fun i => σ.2.1 (m + 34) i) := by rw [← hσ2, st1_ne (by omega), ← hσ1, st1_self]
    have jd : ∀ d, d ≠ 25 → d ≠ 26 → σ2.2.1 (m + d) = σ.2.1 (m + d) := fun d b1 b2 => by rw [← hσ2, st1_ne (by omega), ← hσ1, st1_ne (by omega)]
    have k2 : keepW σ σ2 m := by
      rw [← hσ2, ← hσ1]
      exact (keepW.st (by decide) (by decide)).tr (keepW.st (by decide) (by decide))
    have hadd : aadd A s msg = aW A s (A.2.2.1 s ++ [msg]) := by
      unfold aadd
      rw [if_pos (by omega)]
    have hR2 : RepR σ2 m (aadd A s msg) := by
      rw [hadd]
      refine h.w k2 rfl ⟨h.2.1.1.kept (jd 12 (by decide) (by decide)) (jd 13 (by decide) (by decide)) (jd 14 (by decide) (by decide)), fun t ht => ?_, h.2.1.2.2⟩
      have ol : olN (aW A s (A.2.2.1 s ++ [msg])) t = olN A t := rfl
      rw [ol, show (aW A s (A.2.2.1 s ++ [msg])).2.1 = A.2.1 from rfl, show (aW A s (A.2.2.1 s ++ [msg])).2.2.1 = va_up A.2.2.1 s (A.2.2.1 s ++ [msg]) from rfl]
      unfold winR
      rw [j25, j26, jd 21 (by decide) (by decide), jd 22 (by decide) (by decide), jd 23 (by decide) (by decide), jd 24 (by decide) (by decide)]
      by_cases hts : t = s
      · subst hts
        rw [va_up_self]
        refine ⟨a1, a2, by rw [u_s, List.length_append]; rfl, by rw [List.length_append]; simp; omega, a5, a6, a7, fun k msg' hk i hi => ?_⟩
        by_cases hkl : k < (A.2.2.1 t).length
        · rw [List.getElem?_append_left hkl] at hk
          rw [bw_out (by omega)]
          exact a8 k msg' hk i hi
        · have hk2 : k = (A.2.2.1 t).length := by
            have := (List.getElem?_eq_some_iff.mp hk).1
            simp at this
            omega
          subst hk2
          rw [List.getElem?_append_right (Nat.le_refl _), Nat.sub_self] at hk
          cases hk
          rw [bw_in (by omega) hi]
          exact hm i hi
      · rw [va_up_ne _ _ hts]
        obtain ⟨b1, b2, b3, b4, b5, b6, b7, b8⟩ := h.2.1.2.1 t ht
        refine ⟨b1, b2, by rw [u_n hts]; exact b3, b4, b5, b6, b7, fun k msg' hk i hi => ?_⟩
        have hkl : k < (A.2.2.1 t).length := (List.getElem?_eq_some_iff.mp hk).1
        rw [bw_out (by omega)]
        exact b8 k msg' hk i hi
    obtain ⟨σ3, e3, hR3, k3⟩ := R_flow hR2 hs (fun ho _ => by rw [hadd] at ho ⊢; exact hK ho)
    simp only [gMr h3, e3, Option.bind_some]
    exact ⟨σ3, rfl, hR3, k2.m.tr k3.m⟩
theorem R_say {σ : hp} {m s : Nat} {A : aA} (h : RepR σ m A) (hs : s < 2) (letter : Int32) (hF : okF A s) (hK : okK A s) : ∃ σ', S_X9_say σ m (nI s) letter = some σ' ∧ RepR σ' m (asend A s (mk1 letter)) ∧ keepM σ σ' m := by
  obtain ⟨σ1, e1, hR1, hm1, k1⟩ := R_begin h letter
  obtain ⟨σ2, e2, hR2, k2⟩ := R_send hR1 hs hm1 hF hK
  simp only [S_X9_say, gMr h.1, gMr hR1.1, e1, e2, Option.bind_some]
  exact ⟨σ2, rfl, hR2, k1.tr k2⟩
