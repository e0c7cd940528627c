/-! The reference: deliver, lose, alter, call, tick, crash, settle. -/
theorem r_isSite {σ : hp} {v : Int32} : S_X9_isSite σ v = some (if v = 0 ∨ v = 1 then 1 else 0) := by
  simp only [S_X9_isSite, S_X9_isSite_9, S_X9_isSite_14, w_z0, w_z1, Option.bind_some]
  by_cases h0 : v = 0
  · rw [if_pos h0, if_pos (Or.inl h0)]
  · rw [if_neg h0]
    by_cases h1 : v = 1
    · rw [if_pos h1, if_pos (Or.inr h1)]
    · rw [if_neg h1, if_neg (fun q => q.elim h0 h1)]
theorem okDk.d {n s : Nat} {A : aA} (h : okJ n (A.1 s)) : ∃ u v e, okD A s u v e ∧ e ≤ 256 := by
  obtain ⟨u, v, d1, d2, d3, d4, d5⟩ := h.2.2.2.2.2.2.1
  obtain ⟨e, e1, e2, -⟩ := h.2.2.2.2.2.2.2
  exact ⟨u, v, e, ⟨d1, d2, e2, d3, d4, e1, fun j hj => by obtain ⟨l, l1, l2, -⟩ := d5 j hj; exact ⟨l, l1, l2⟩⟩, e1⟩
theorem R_come' {n : Nat} {σ : hp} {m s : Nat} {A : aA} {p : Pkt} (hn : n < 2 ^ 20) (hR : RepR σ m A) (hs : s < 2) (hg : goodP p = true) (hp : okP p) (hpk : pkIs σ m p) (hA : okA n A) (hK : A.1 s 0 = 2 ∨ A.1 s 0 = 3 → okK A s) :
    ∃ σ', S_X9_come σ m (nI s) = some σ' ∧ RepR σ' m (acome A s p) ∧ keepM σ σ' m := by
  obtain ⟨hW, x1, x2, x3, -⟩ := hA.1 s hs
  have hJ := hW.1
  obtain ⟨u, v, e, hD, he⟩ := okDk.d hJ
  obtain ⟨t1, t2, h, w, a1, a2, a3, a4, a5⟩ := hJ.2.2.2.2.2.1
  refine R_come hR hs hg hp hpk hJ.1 (fun q => ?_) hJ.2.2.1 hD (h := h) (w := w) ⟨a1, a2, a3, a4⟩ (fun q => ?_) (fun k hk q => ?_) x1 hK
  · obtain ⟨c, c1, c2⟩ := hJ.2.1
    have := x3 q
    rcases Nat.eq_zero_or_pos c with z | z
    · rw [z] at c2; exact absurd c2 this
    · exact ⟨c - 1, by omega, by rw [c2, Nat.sub_add_cancel z]⟩
  · obtain ⟨c, c1, c2, c3, c4, c5⟩ := hJ.2.2.2.2.2.2.2
    have : c = e := by
      have := hD.2.2.1
      rw [c2] at this
      exact (nI_eq (by omega) (by omega)).mp this
    exact hJ.2.2.2.2.2.2.2.room hD.2.2.1 he t2 (fun i hi => c5 q i (by omega))
  · exact hJ.2.2.2.2.2.2.2.room hD.2.2.1 he (okB_n hk) (aHas_f hD.2.2.1 he q)
theorem R_tf {σ : hp} {m s : Nat} {A : aA} {p : Pkt} {ps : List Pkt} (h : RepR σ m A) (hs : s < 2) (hp : A.2.2.2 s = p :: ps) : ∃ σ', S_X9_takeFirst σ m (nI s) = some σ' ∧ RepR σ' m (aQ A s ps) ∧ keepM σ σ' m ∧ σ'.2.1 m 16 = nI p.1 ∧ pkIs σ' m p := by
  obtain ⟨σ', e, hQ, k, z, hpk⟩ := r_takeFirst h.1 hs h.2.1.1 hp
  exact ⟨σ', e, h.w k.w rfl ⟨hQ, k.win h.2.1.2.1, h.2.1.2.2⟩, k.w.m, z, hpk⟩
theorem R_count {σ : hp} {m s : Nat} {A : aA} (h : RepR σ m A) (hs : s < 2) : σ.2.1 (m + 12) s = nI (A.2.2.2 s).length ∧ (A.2.2.2 s).length ≤ 12 := ⟨(h.2.1.1 s hs).1, (h.2.1.1 s hs).2.1⟩
theorem R_out {σ : hp} {m s : Nat} {A : aA} (h : RepR σ m A) (hs : s < 2) : σ.2.1 (m + 22) s = nI (A.2.1 s).length ∧ (A.2.1 s).length ≤ 3 := ⟨(h.2.1.2.1 s hs).1, (h.2.1.2.1 s hs).2.1⟩
theorem nI_len0 {α : Type} {l : List α} (h : l.length < 2 ^ 31) : nI l.length = 0 ↔ l = [] := by
  cases l with
  | nil => exact ⟨fun _ => rfl, fun _ => rfl⟩
  | cons a b => exact ⟨fun q => absurd q (nI_ne0 (by simp) h), fun q => by cases q⟩
theorem R_fIs {σ : hp} {m s n : Nat} {A : aA} (h : RepR σ m A) (hs : s < 2) (hA : okA n A) : (σ.2.1 (m + 16) s = 2 ↔ (A.1 s 0 = 2 ∨ A.1 s 0 = 3)) ∧ (σ.2.1 (m + 16) s = 1 ↔ A.1 s 0 = 1) ∧ (σ.2.1 (m + 16) s = 0 ↔ A.1 s 0 = 0) := by
  rw [R_st h hs]
  rcases (hA.1 s hs).1.1.1 with q | q | q | q <;> rw [q] <;> decide
theorem R_hand {n : Nat} {σ : hp} {m f : Nat} {A : aA} (hn : n < 2 ^ 20) (hR : RepR σ m A) (hf : f < 2) (hA : okA n A) : ∃ σ', S_X9_deliver σ m (nI f) = some ((ahand A f).1, σ') ∧ RepR σ' m (ahand A f).2 ∧ keepM σ σ' m := by
  have h1 := hR.1
  have hs : 1 - f < 2 := by omega
  have hf01 : nI f = 0 ∨ nI f = 1 := by
    rcases (show f = 0 ∨ f = 1 by omega) with rfl | rfl
    · exact Or.inl rfl
    · exact Or.inr rfl
  obtain ⟨hc, hc2⟩ := R_count hR hf
  have e1f : (1 : Int32) - nI f = nI (1 - f) := pk_sub (a := 1) (by omega)
  simp only [S_X9_deliver, r_isSite, if_pos hf01, Option.bind_some, if_neg (show ¬ (1 : Int32) = 0 by decide), gM12 h1, o_ldI, aM12 h1, w_ix hf (by decide), hc, e1f]
  cases hq : A.2.2.2 f with
  | nil =>
    refine ⟨σ, ?_, ?_, keepM.rf⟩
    · unfold ahand
      rw [hq]
      rfl
    · unfold ahand
      rw [hq]
      exact hR
  | cons p ps =>
    rw [if_neg (show ¬ nI (p :: ps).length = 0 from nI_ne0 (by simp) (by rw [← hq]; omega))]
    obtain ⟨σ1, e1, hR1, k1, z1, pk1⟩ := R_tf hR hf hq
    obtain ⟨⟨-, -, -, h4, -, -, h7⟩, -⟩ := hA.1 f hf
    rw [hq] at h4 h7
    rw [List.length_cons] at h4
    have hp := h7 p (List.mem_cons_self ..)
    have hB : okA n (aQ A f ps) := hA.q (by omega) (fun q hq => h7 q (List.mem_cons_of_mem _ hq))
    have g1 := R_isGood hR1.1 hp pk1 z1
    obtain ⟨fI, fC, -⟩ := R_fIs hR1 hs hB
    simp only [gMr h1, e1, Option.bind_some, gMr hR1.1, g1]
    rw [hand_eq hq]
    by_cases hg : goodP p = true
    · rw [hg, if_pos rfl, if_neg (show ¬ bI true = 0 by decide)]
      obtain ⟨hC, hK⟩ := rdy_ok hB hs
      obtain ⟨ho1, ho2⟩ := R_out hR1 hs
      have e32 : σ1.2.1 (m + 32) (1 - f) = (aQ A f ps).1 (1 - f) 6 := hR1.get1 hs (by decide)
      have fin : ∀ x, ((aRdy (aQ A f ps) (1 - f)) = aJ (aQ A f ps) (1 - f) 6 x) → ∃ σ', S_X9_deliver_92 σ1 m (nI (1 - f)) (some (m + 32)) (nI (1 - f)) x = some (1, σ') ∧ RepR σ' m (acome (aRdy (aQ A f ps) (1 - f)) (1 - f) p) ∧ keepM σ σ' m := by
        intro x hx
        have hR2 := hR1.put1 (r := 32) (n := 6) (x := x) hs (by decide) (by decide)
        rw [← hx] at hR2
        have pk2 : pkIs (st1 σ1 (m + 32) (upd (σ1.2.1 (m + 32)) (1 - f) x)) m p := fun i hi => by
          rw [st1_ne (by omega)]
          exact pk1 i hi
        obtain ⟨σ3, e3, hR3, k3⟩ := R_come' hn hR2 hs hg hp pk2 hC hK
        simp only [S_X9_deliver_92, a_stI, aM33 hR1.1, w_ix hs (by decide), Option.bind_some, gMr hR2.1, e3]
        exact ⟨σ3, rfl, hR3, (k1.tr (keepM.st (by decide))).tr k3⟩
      simp only [gM33 hR1.1, gM17 hR1.1, o_ldI, aM17 hR1.1, w_ix hs (by decide), Option.bind_some, gM23 hR1.1, aM23 hR1.1, ho1, S_X9_deliver_86, aM33 hR1.1]
      have same : ∀ (q : ¬ (((aQ A f ps).1 (1 - f) 0 = 2 ∨ (aQ A f ps).1 (1 - f) 0 = 3) ∧ (aQ A f ps).2.1 (1 - f) = [])), aRdy (aQ A f ps) (1 - f) = aJ (aQ A f ps) (1 - f) 6 (σ1.2.1 (m + 32) (1 - f)) := by
        intro q
        unfold aRdy
        rw [if_neg q, e32, aJ_same]
      by_cases ho : (aQ A f ps).1 (1 - f) 0 = 2 ∨ (aQ A f ps).1 (1 - f) 0 = 3
      · rw [if_pos (fI.mpr ho)]
        by_cases hz : (aQ A f ps).2.1 (1 - f) = []
        · rw [if_pos ((nI_len0 (by omega)).mpr hz)]
          exact fin 0 (by unfold aRdy; rw [if_pos ⟨ho, hz⟩])
        · rw [if_neg (fun q => hz ((nI_len0 (by omega)).mp q))]
          exact fin _ (same (fun q => hz q.2))
      · rw [if_neg (fun q => ho (fI.mp q))]
        exact fin _ (same (fun q => ho q.1))
    · rw [Bool.eq_false_iff.mpr hg, if_pos (show bI false = 0 from rfl), if_neg (show ¬ false = true by decide)]
      simp only [gM17 hR1.1, o_ldI, aM17 hR1.1, w_ix hs (by decide), Option.bind_some, gM21 hR1.1, aM21 hR1.1, S_X9_deliver_56]
      by_cases ho : A.1 (1 - f) 0 = 2 ∨ A.1 (1 - f) 0 = 3
      · rw [if_pos (fI.mpr ho), if_pos ho]
        have e20 : σ1.2.1 (m + 20) (1 - f) = A.1 (1 - f) 4 := hR1.get1 hs (by decide)
        obtain ⟨σ2, e2, hR2, k2⟩ := R_control hR1 hs 2 (A.1 (1 - f) 4)
        simp only [e20, e2, Option.bind_some]
        exact ⟨σ2, rfl, hR2, k1.tr k2.m⟩
      · rw [if_neg (fun q => ho (fI.mp q)), if_neg ho]
        exact ⟨σ1, rfl, hR1, k1⟩
theorem R_deliver {n : Nat} {σ : hp} {m : Nat} {f : Int32} {A : aA} (hn : n < 2 ^ 20) (hR : RepR σ m A) (hA : okA n A) : ∃ σ', S_X9_deliver σ m f = some ((c_deliver A f).1, σ') ∧ RepR σ' m (c_deliver A f).2 ∧ keepM σ σ' m := by
  unfold c_deliver
  by_cases h : f = 0 ∨ f = 1
  · obtain ⟨c1, c2⟩ := clamp_s h
    rw [if_pos h]
    have := R_hand hn hR c1 hA
    rw [← c2] at this
    exact this
  · rw [if_neg h]
    refine ⟨σ, ?_, hR, keepM.rf⟩
    simp only [S_X9_deliver, r_isSite, if_neg h, Option.bind_some, if_true, S_X9_deliver_16]
theorem R_lose {σ : hp} {m : Nat} {f : Int32} {A : aA} (hR : RepR σ m A) : ∃ σ', S_X9_lose σ m f = some ((c_lose A f).1, σ') ∧ RepR σ' m (c_lose A f).2 ∧ keepM σ σ' m := by
  unfold c_lose
  by_cases h : f = 0 ∨ f = 1
  · obtain ⟨c1, c2⟩ := clamp_s h
    rw [if_pos h]
    generalize f.toNatClampNeg = t at c1 c2 ⊢
    subst c2
    have h1 := hR.1
    obtain ⟨hc, hc2⟩ := R_count hR c1
    simp only [S_X9_lose, r_isSite, if_pos h, Option.bind_some, if_neg (show ¬ (1 : Int32) = 0 by decide), gM12 h1, o_ldI, aM12 h1, w_ix c1 (by decide), hc]
    cases hq : A.2.2.2 t with
    | nil => exact ⟨σ, rfl, hR, keepM.rf⟩
    | cons p ps =>
      rw [if_neg (show ¬ nI (p :: ps).length = 0 from nI_ne0 (by simp) (by rw [← hq]; omega))]
      obtain ⟨σ1, e1, hR1, k1, -⟩ := R_tf hR c1 hq
      simp only [gMr h1, e1, Option.bind_some]
      exact ⟨σ1, rfl, hR1, k1⟩
  · rw [if_neg h]
    refine ⟨σ, ?_, hR, keepM.rf⟩
    simp only [S_X9_lose, r_isSite, if_neg h, Option.bind_some, if_true, S_X9_lose_16]
theorem R_alter {σ : hp} {m : Nat} {f a x : Int32} {A : aA} (hR : RepR σ m A) : ∃ σ', S_X9_alter σ m f a x = some ((c_alter A f a x).1, σ') ∧ RepR σ' m (c_alter A f a x).2 ∧ keepM σ σ' m := by
  unfold c_alter
  by_cases h : f = 0 ∨ f = 1
  · obtain ⟨c1, c2⟩ := clamp_s h
    rw [if_pos h]
    generalize f.toNatClampNeg = t at c1 c2 ⊢
    subst c2
    have h1 := hR.1
    obtain ⟨hc, hc2⟩ := R_count hR c1
    simp only [S_X9_alter, S_X9_alter_45, r_isSite, if_pos h, Option.bind_some, if_neg (show ¬ (1 : Int32) = 0 by decide), gM12 h1, o_ldI, aM12 h1, w_ix c1 (by decide), hc]
    cases hq : A.2.2.2 t with
    | nil => exact ⟨σ, rfl, hR, keepM.rf⟩
    | cons p ps =>
      rw [if_neg (show ¬ nI (p :: ps).length = 0 from nI_ne0 (by simp) (by rw [← hq]; omega))]
      obtain ⟨w1, w2, w3⟩ := hR.2.1.1 t c1
      rw [hq] at w1 w2 w3
      obtain ⟨p1, p2, p3⟩ := w3 0 p rfl
      have e14 : σ.2.1 (m + 14) (12 * t) = nI p.1 := p1
      simp only [gM14 h1, aM14 h1, show (12 : Int32) * nI t = nI (12 * t) from pk_mul 12 t, w_ix (show 12 * t < 24 by omega) (by decide), Option.bind_some, e14]
      by_cases b1 : a < 0
      · rw [if_pos b1, if_pos (Or.inl b1)]
        exact ⟨σ, rfl, hR, keepM.rf⟩
      · rw [if_neg b1]
        by_cases b2 : nI p.1 ≤ a
        · rw [if_pos b2, if_pos (Or.inr (Or.inl b2))]
          exact ⟨σ, rfl, hR, keepM.rf⟩
        · rw [if_neg b2]
          by_cases b3 : x < 1
          · rw [if_pos b3, if_pos (Or.inr (Or.inr (Or.inl b3)))]
            exact ⟨σ, rfl, hR, keepM.rf⟩
          · rw [if_neg b3]
            by_cases b4 : x ≤ 255
            · rw [if_pos b4, if_neg (show ¬ (a < 0 ∨ nI p.1 ≤ a ∨ x < 1 ∨ 255 < x) from fun q => q.elim b1 (fun q => q.elim b2 (fun q => q.elim b3 (fun q => absurd q (Int32.not_lt.mpr b4)))))]
              obtain ⟨j, hj, rfl⟩ := nI_of b1
              have hj2 : j < p.1 := by
                rcases Nat.lt_or_ge j p.1 with z | z
                · exact z
                · exact absurd (nI_le z hj) b2
              rw [nI_clamp hj]
              simp only [gM13 h1, aM13 h1, show (456 : Int32) * nI t + nI j = nI (456 * t + j) by rw [show (456 : Int32) = nI 456 from rfl, pk_mul, nI_add], w_ix (show 456 * t + j < 912 by omega) (by decide), Option.bind_some, a_stI]
              have eb : σ.2.1 (m + 13) (456 * t + j) = p.2 j := by
                have := p3 j hj2
                rw [Nat.mul_zero, Nat.add_zero] at this
                exact this
              refine ⟨_, rfl, ?_, keepM.st (by decide)⟩
              refine hR.w (keepW.st (by decide) (by decide)) rfl ⟨fun s hs => ?_, ?_, hR.2.1.2.2⟩
              · by_cases hst : s = t
                · subst hst
                  have e1 : (aQ A s ((p.1, upd p.2 j (p.2 j ^^^ x)) :: ps)).2.2.2 s = (p.1, upd p.2 j (p.2 j ^^^ x)) :: ps := va_up_self _ _ _
                  rw [e1]
                  refine ⟨by rw [st1_ne (by omega)]; exact w1, w2, fun k p' hk => ?_⟩
                  rw [st1_ne (show m + 14 ≠ m + 13 by omega), st1_self]
                  cases k with
                  | zero =>
                    rw [List.getElem?_cons_zero] at hk
                    cases hk
                    refine ⟨p1, p2, fun i hi => ?_⟩
                    rw [show 456 * s + 38 * 0 + i = 456 * s + i by omega]
                    show _ = upd p.2 j (p.2 j ^^^ x) i
                    by_cases hij : i = j
                    · subst hij
                      rw [u_s, u_s, eb]
                    · rw [u_n (by omega), u_n hij]
                      have := p3 i hi
                      rw [Nat.mul_zero, Nat.add_zero] at this
                      exact this
                  | succ k =>
                    rw [List.getElem?_cons_succ] at hk
                    obtain ⟨g1, g2, g3⟩ := w3 (k + 1) p' (by rw [List.getElem?_cons_succ]; exact hk)
                    refine ⟨g1, g2, fun i hi => ?_⟩
                    rw [u_n (by omega)]
                    exact g3 i hi
                · have e1 : (aQ A t ((p.1, upd p.2 j (p.2 j ^^^ x)) :: ps)).2.2.2 s = A.2.2.2 s := va_up_ne _ _ hst
                  rw [e1]
                  obtain ⟨v1, v2, v3⟩ := hR.2.1.1 s hs
                  refine ⟨by rw [st1_ne (by omega)]; exact v1, v2, fun k p' hk => ?_⟩
                  rw [st1_ne (show m + 14 ≠ m + 13 by omega), st1_self]
                  have hkl : k < (A.2.2.2 s).length := (List.getElem?_eq_some_iff.mp hk).1
                  obtain ⟨g1, g2, g3⟩ := v3 k p' hk
                  refine ⟨g1, g2, fun i hi => ?_⟩
                  rw [u_n (by omega)]
                  exact g3 i hi
              · exact hR.2.1.2.1.kept (st1_ne (by omega)) (st1_ne (by omega)) (st1_ne (by omega)) (st1_ne (by omega)) (st1_ne (by omega)) (st1_ne (by omega))
            · rw [if_neg b4, if_pos (Or.inr (Or.inr (Or.inr (Int32.not_le.mp b4))))]
              exact ⟨σ, rfl, hR, keepM.rf⟩
  · rw [if_neg h]
    refine ⟨σ, ?_, hR, keepM.rf⟩
    simp only [S_X9_alter, r_isSite, if_neg h, Option.bind_some, if_true, S_X9_alter_45]
theorem R_clear {σ : hp} {m : Nat} {A : aA} (hR : RepR σ m A) : RepR (st1 σ (m + 12) (upd (upd (σ.2.1 (m + 12)) 0 0) 1 0)) m (aQ (aQ A 0 []) 1 []) := by
  refine hR.w (keepW.st (by decide) (by decide)) rfl ⟨fun s hs => ?_, ?_, hR.2.1.2.2⟩
  · have e : (aQ (aQ A 0 []) 1 []).2.2.2 s = [] := by
      unfold aQ
      dsimp only
      by_cases s1 : s = 1
      · subst s1; exact va_up_self _ _ _
      · rw [va_up_ne _ _ s1, show s = 0 by omega]
        exact va_up_self _ _ _
    rw [e]
    refine ⟨?_, by simp, fun k p hk => by simp at hk⟩
    rw [st1_self]
    by_cases s1 : s = 1
    · subst s1; rw [u_s]; rfl
    · rw [u_n s1, show s = 0 by omega, u_s]; rfl
  · exact hR.2.1.2.1.kept (st1_ne (by omega)) (st1_ne (by omega)) (st1_ne (by omega)) (st1_ne (by omega)) (st1_ne (by omega)) (st1_ne (by omega))
theorem R_call {n : Nat} {σ : hp} {m : Nat} {f : Int32} {A : aA} (hn : n < 2 ^ 20) (hR : RepR σ m A) (hA : okA n A) : ∃ σ', S_X9_call σ m f = some ((c_call A f).1, σ') ∧ RepR σ' m (c_call A f).2 ∧ keepM σ σ' m := by
  unfold c_call
  by_cases h : f = 0 ∨ f = 1
  · obtain ⟨c1, c2⟩ := clamp_s h
    rw [if_pos h]
    dsimp only
    generalize f.toNatClampNeg = t at c1 c2 ⊢
    subst c2
    have h1 := hR.1
    obtain ⟨-, -, f0⟩ := R_fIs hR c1 hA
    simp only [S_X9_call, S_X9_call_16, r_isSite, if_pos h, Option.bind_some, if_neg (show ¬ (1 : Int32) = 0 by decide), gM17 h1, o_ldI, aM17 h1, w_ix c1 (by decide)]
    by_cases hi : A.1 t 0 = 0
    · rw [if_pos (f0.mpr hi), if_pos hi]
      have hR1 := R_clear hR
      have h2 : SkM (st1 σ (m + 12) (upd (σ.2.1 (m + 12)) 0 0)) m := h1
      simp only [gM12 h1, a_stI, aM12 h1, wx0 (show 0 < 2 by decide), Option.bind_some, gM12 h2, aM12 h2, wx1 (show 1 < 2 by decide), st1_self, st1_st1]
      obtain ⟨σ2, e2, hR2, k2⟩ := R_forget hR1 c1 1 1 rfl (by decide)
      obtain ⟨c, c4, c5⟩ := (hA.1 t c1).1.1.2.1
      have ec : (aforget (aQ (aQ A 0 []) 1 []) t 1).1 t 1 = nI c := by
        unfold aforget
        dsimp only
        rw [va_up_self]
        exact c5
      have e10 : σ2.2.1 (m + 10) t = nI c := by rw [hR2.get1 c1 (show (10, 1, 1, 1) ∈ tblJ by decide)]; exact ec
      simp only [gMr hR1.1, e2, Option.bind_some, gM9 hR2.1, aM9 hR2.1, w_ix c1 (by decide), e10, rem8' (show c < 2 ^ 31 by omega)]
      obtain ⟨σ3, e3, hR3, k3⟩ := R_control hR2 c1 7 (nI (c % 8))
      have e10b : σ3.2.1 (m + 10) t = nI c := by rw [k3.2.2.2.1 10 (by decide)]; exact e10
      simp only [gMr hR2.1, e3, Option.bind_some, gM9 hR3.1, aM9 hR3.1, w_ix c1 (by decide), e10b]
      have hR4 := hR3.put1 (r := 10) (n := 1) (x := nI c + 1) c1 (by decide) (by decide)
      rw [c5, and7 (by omega)]
      exact ⟨_, rfl, hR4, (((keepM.st (by decide)).tr k2).tr k3.m).tr (keepM.st (by decide))⟩
    · rw [if_neg (fun q => hi (f0.mp q)), if_neg hi]
      exact ⟨σ, rfl, hR, keepM.rf⟩
  · rw [if_neg h]
    refine ⟨σ, ?_, hR, keepM.rf⟩
    simp only [S_X9_call, r_isSite, if_neg h, Option.bind_some, if_true, S_X9_call_16]
theorem R_crash {σ : hp} {m : Nat} {f : Int32} {A : aA} (hR : RepR σ m A) : ∃ σ', S_X9_crash σ m f = some ((c_crash A f).1, σ') ∧ RepR σ' m (c_crash A f).2 ∧ keepM σ σ' m := by
  unfold c_crash
  by_cases h : f = 0 ∨ f = 1
  · obtain ⟨c1, c2⟩ := clamp_s h
    rw [if_pos h]
    generalize f.toNatClampNeg = t at c1 c2 ⊢
    subst c2
    obtain ⟨σ1, e1, hR1, k1⟩ := R_forget hR c1 0 0 rfl (by decide)
    simp only [S_X9_crash, r_isSite, if_pos h, Option.bind_some, if_neg (show ¬ (1 : Int32) = 0 by decide), gMr hR.1, e1]
    exact ⟨σ1, rfl, hR1, k1⟩
  · rw [if_neg h]
    refine ⟨σ, ?_, hR, keepM.rf⟩
    simp only [S_X9_crash, r_isSite, if_neg h, Option.bind_some, if_true]
theorem R_tickOf {n : Nat} {σ : hp} {m s : Nat} {A : aA} (hn : n < 2 ^ 20) (hR : RepR σ m A) (hs : s < 2) (hA : okA n A) : ∃ σ', S_X9_tickOf σ m (nI s) = some ((atick A s).1, σ') ∧ RepR σ' m (atick A s).2 ∧ keepM σ σ' m := by
  have h1 := hR.1
  obtain ⟨hW, x1, x2, x3, t, t1, t2, t3⟩ := hA.1 s hs
  obtain ⟨fI, fC, f0⟩ := R_fIs hR hs hA
  have e32 : σ.2.1 (m + 32) s = A.1 s 6 := hR.get1 hs (by decide)
  simp only [S_X9_tickOf, S_X9_tickOf_57, gM17 h1, o_ldI, aM17 h1, w_ix hs (by decide), Option.bind_some]
  unfold atick
  dsimp only
  by_cases hi : A.1 s 0 = 0
  · rw [if_pos (f0.mpr hi), if_pos hi]
    exact ⟨σ, rfl, hR, keepM.rf⟩
  · rw [if_neg (fun q => hi (f0.mp q)), if_neg hi]
    have hR1 := hR.put1 (r := 32) (n := 6) (x := A.1 s 6 + 1) hs (by decide) (by decide)
    simp only [gM33 h1, aM33 h1, w_ix hs (by decide), Option.bind_some, e32, a_stI]
    generalize hσ1 : st1 σ (m + 32) (upd (σ.2.1 (m + 32)) s (A.1 s 6 + 1)) = σ1 at hR1 ⊢
    have k1 : keepM σ σ1 m := by rw [← hσ1]; exact keepM.st (by decide)
    have h2 := hR1.1
    have e16 : σ1.2.1 (m + 16) = σ.2.1 (m + 16) := by rw [← hσ1, st1_ne (by omega)]
    have e32b : σ1.2.1 (m + 32) s = A.1 s 6 + 1 := by rw [← hσ1, st1_self, u_s]
    have e33 : σ1.2.1 (m + 33) s = A.1 s 7 := by rw [← hσ1, st1_ne (by omega)]; exact hR.get1 hs (by decide)
    obtain ⟨ho1, ho2⟩ := R_out hR1 hs
    have fin : ∃ σ', S_X9_tickOf_59 σ1 m (nI s) = some ((if A.1 s 6 + 1 < 4 then ((0 : Int32), aJ A s 6 (A.1 s 6 + 1)) else if A.1 s 7 = 5 then (0, aforget (aJ A s 6 (A.1 s 6 + 1)) s 0) else if A.1 s 0 = 1 then (1, actl (aJ (aJ (aJ A s 6 (A.1 s 6 + 1)) s 7 (A.1 s 7 + 1)) s 6 0) s 7 ((A.1 s 1 - 1) &&& 7)) else (nI (A.2.1 s).length, aagain (aJ (aJ (aJ A s 6 (A.1 s 6 + 1)) s 7 (A.1 s 7 + 1)) s 6 0) s)).1, σ') ∧ RepR σ' m (if A.1 s 6 + 1 < 4 then ((0 : Int32), aJ A s 6 (A.1 s 6 + 1)) else if A.1 s 7 = 5 then (0, aforget (aJ A s 6 (A.1 s 6 + 1)) s 0) else if A.1 s 0 = 1 then (1, actl (aJ (aJ (aJ A s 6 (A.1 s 6 + 1)) s 7 (A.1 s 7 + 1)) s 6 0) s 7 ((A.1 s 1 - 1) &&& 7)) else (nI (A.2.1 s).length, aagain (aJ (aJ (aJ A s 6 (A.1 s 6 + 1)) s 7 (A.1 s 7 + 1)) s 6 0) s)).2 ∧ keepM σ σ' m := by
      simp only [S_X9_tickOf_59, gM33 h2, o_ldI, aM33 h2, w_ix hs (by decide), Option.bind_some, e32b, gM34 h2, aM34 h2, e33]
      by_cases q4 : A.1 s 6 + 1 < 4
      · rw [if_neg (Int32.not_le.mpr q4), if_pos q4]
        exact ⟨σ1, rfl, hR1, k1⟩
      · rw [if_pos (Int32.not_lt.mp q4), if_neg q4]
        by_cases q5 : A.1 s 7 = 5
        · rw [if_pos q5, if_pos q5]
          obtain ⟨σ2, e2, hR2, k2⟩ := R_forget hR1 hs 0 0 rfl (by decide)
          simp only [gMr h2, e2, Option.bind_some]
          exact ⟨σ2, rfl, hR2, k1.tr k2⟩
        · rw [if_neg q5, if_neg q5]
          have hR2 := hR1.put1 (r := 33) (n := 7) (x := A.1 s 7 + 1) hs (by decide) (by decide)
          simp only [a_stI, aM34 h2, w_ix hs (by decide), Option.bind_some]
          generalize hσ2 : st1 σ1 (m + 33) (upd (σ1.2.1 (m + 33)) s (A.1 s 7 + 1)) = σ2 at hR2 ⊢
          have hR3 := hR2.put1 (r := 32) (n := 6) (x := 0) hs (by decide) (by decide)
          simp only [gM33 hR2.1, aM33 hR2.1, w_ix hs (by decide), Option.bind_some]
          generalize hσ3 : st1 σ2 (m + 32) (upd (σ2.2.1 (m + 32)) s 0) = σ3 at hR3 ⊢
          have k3 : keepM σ σ3 m := by
            have q2 : keepM σ1 σ2 m := by rw [← hσ2]; exact keepM.st (by decide)
            have q3 : keepM σ2 σ3 m := by rw [← hσ3]; exact keepM.st (by decide)
            exact (k1.tr q2).tr q3
          have e16c : σ3.2.1 (m + 16) = σ.2.1 (m + 16) := by rw [← hσ3, st1_ne (by omega), ← hσ2, st1_ne (by omega), e16]
          simp only [gM17 hR3.1, aM17 hR3.1, w_ix hs (by decide), Option.bind_some, e16c]
          generalize hC : aJ (aJ (aJ A s 6 (A.1 s 6 + 1)) s 7 (A.1 s 7 + 1)) s 6 0 = C at hR3 ⊢
          have C1 : C.1 s 1 = A.1 s 1 := by rw [← hC, aJ_nk (by decide), aJ_nk (by decide), aJ_nk (by decide)]
          have C6 : C.1 s 6 = 0 := by rw [← hC, aJ_at]
          have CO : C.2.1 = A.2.1 := by rw [← hC]; rfl
          by_cases hc : A.1 s 0 = 1
          · rw [if_pos (fC.mpr hc), if_pos hc]
            obtain ⟨c, c4, c5⟩ := hW.1.2.1
            have hc0 : 0 < c := by
              rcases Nat.eq_zero_or_pos c with z | z
              · rw [z] at c5; exact absurd c5 (x3 hc)
              · exact z
            have e10 : σ3.2.1 (m + 10) s = nI c := by rw [hR3.get1 hs (show (10, 1, 1, 1) ∈ tblJ by decide), C1]; exact c5
            have ec : nI c - 1 = nI (c - 1) := pk_sub (b := 1) hc0
            obtain ⟨σ4, e4, hR4, k4⟩ := R_control hR3 hs 7 (nI ((c - 1) % 8))
            simp only [gM9 hR3.1, aM9 hR3.1, w_ix hs (by decide), Option.bind_some, e10, ec, rem8' (show c - 1 < 2 ^ 31 by omega), gMr hR3.1, e4]
            rw [c5, ec, and7 (by omega)]
            exact ⟨σ4, rfl, hR4, k3.tr k4.m⟩
          · rw [if_neg (fun q => hc (fC.mp q)), if_neg hc]
            obtain ⟨σ4, e4, hR4, k4⟩ := R_again hR3 hs
            have eA : aAgain C s = aagain C s := by
              unfold aAgain
              dsimp only
              split
              · rfl
              · have j6 : (aagain C s).1 s 6 = 0 := by rw [aagain_R, (agR_J _ _ _).1]; exact C6
                have := aJ_same (A := aagain C s) (s := s) (k := 6)
                rw [j6] at this
                exact this
            rw [eA] at hR4
            have o4 := (R_out hR4 hs).1
            rw [aagain_R, (agR_J _ _ _).2.1, CO] at o4
            simp only [gMr hR3.1, e4, Option.bind_some, gM23 hR4.1, aM23 hR4.1, w_ix hs (by decide), o4]
            exact ⟨σ4, rfl, hR4, k3.tr k4⟩
    simp only [gM17 h2, aM17 h2, w_ix hs (by decide), Option.bind_some, e16, gM23 h2, aM23 h2, ho1, gM33 h2, aM33 h2, e32b]
    by_cases ho : A.1 s 0 = 2 ∨ A.1 s 0 = 3
    · rw [if_pos (fI.mpr ho)]
      by_cases hz : A.2.1 s = []
      · rw [if_pos (show nI ((aJ A s 6 (A.1 s 6 + 1)).2.1 s).length = 0 from (nI_len0 (Nat.lt_of_le_of_lt ho2 (by decide))).mpr hz), if_pos (show (A.1 s 0 = 2 ∨ A.1 s 0 = 3) ∧ A.2.1 s = [] from ⟨ho, hz⟩)]
        by_cases q41 : A.1 s 6 + 1 = 41
        · rw [if_pos q41, if_pos q41]
          obtain ⟨σ2, e2, hR2, k2⟩ := R_forget hR1 hs 0 0 rfl (by decide)
          simp only [gMr h2, e2, Option.bind_some]
          exact ⟨σ2, rfl, hR2, k1.tr k2⟩
        · rw [if_neg q41, if_neg q41]
          exact ⟨σ1, rfl, hR1, k1⟩
      · rw [if_neg (show ¬ nI ((aJ A s 6 (A.1 s 6 + 1)).2.1 s).length = 0 from fun q => hz ((nI_len0 (Nat.lt_of_le_of_lt ho2 (by decide))).mp q)), if_neg (show ¬ ((A.1 s 0 = 2 ∨ A.1 s 0 = 3) ∧ A.2.1 s = []) from fun q => hz q.2)]
        exact fin
    · rw [if_neg (fun q => ho (fI.mp q)), if_neg (show ¬ ((A.1 s 0 = 2 ∨ A.1 s 0 = 3) ∧ A.2.1 s = []) from fun q => ho q.1)]
      exact fin
theorem R_tick {n : Nat} {σ : hp} {m : Nat} {A : aA} (hn : n < 2 ^ 20) (hR : RepR σ m A) (hA : okA n A) : ∃ σ', S_X9_tick σ m = some ((c_tick A).1, σ') ∧ RepR σ' m (c_tick A).2 ∧ keepM σ σ' m := by
  obtain ⟨σ1, e1, hR1, k1⟩ := R_tickOf (s := 0) hn hR (by decide) hA
  obtain ⟨σ2, e2, hR2, k2⟩ := R_tickOf (s := 1) hn hR1 (by decide) (tick_ok hA (by decide))
  rw [show nI 0 = (0 : Int32) from rfl] at e1
  rw [show nI 1 = (1 : Int32) from rfl] at e2
  simp only [S_X9_tick, gMr hR.1, e1, Option.bind_some, gMr hR1.1, e2]
  exact ⟨σ2, rfl, hR2, k1.tr k2⟩
theorem R_settleL {n : Nat} {m : Nat} {k : Nat} (hn : n < 2 ^ 20) (hk : k ≤ 200) : ∀ (d h turn N : Nat) (σ : hp) (A : aA), h + d = k → d < N → turn < 2 → RepR σ m A → okA n A → ∃ σ', S_X9_settle_18 N σ m (nI k) (nI h) (nI turn) = some (nI (asettle d h turn A).1, σ') ∧ RepR σ' m (asettle d h turn A).2 ∧ keepM σ σ' m := by
  intro d
  induction d with
  | zero =>
    intro h turn N σ A hd hN ht hR hA
    obtain ⟨N, rfl⟩ : ∃ q, N = q + 1 := ⟨N - 1, by omega⟩
    refine ⟨σ, ?_, hR, keepM.rf⟩
    simp only [S_X9_settle_18, S_X9_settle_18_b, S_X9_settle_73]
    rw [if_pos (nI_le (show k ≤ h by omega) (by omega))]
    rfl
  | succ d ih =>
    intro h turn N σ A hd hN ht hR hA
    obtain ⟨N, rfl⟩ : ∃ q, N = q + 1 := ⟨N - 1, by omega⟩
    have h1 := hR.1
    obtain ⟨c0, c0'⟩ := R_count hR (show 0 < 2 by decide)
    obtain ⟨c1, c1'⟩ := R_count hR (show 1 < 2 by decide)
    obtain ⟨ct, ct'⟩ := R_count hR ht
    simp only [S_X9_settle_18, S_X9_settle_18_b, S_X9_settle_73, S_X9_settle_55]
    rw [if_neg (nI_ge (show h < k by omega) (by omega))]
    simp only [gM12 h1, o_ldI, aM12 h1, wx0 (show 0 < 2 by decide), wx1 (show 1 < 2 by decide), w_ix ht (by decide), Option.bind_some, c0, c1, ct, nI_add, gMr h1]
    unfold asettle
    dsimp only
    have go : ∀ f, f < 2 → A.2.2.2 f ≠ [] → f = (if 0 < (A.2.2.2 turn).length then turn else 1 - turn) → ∃ σ', ((S_X9_deliver σ m (nI f)).bind fun q58 => S_X9_settle_18 N q58.2 m (nI k) (nI h + 1) ((1 : Int32) - nI f)) = some (nI (match A.2.2.2 f with | [] => (h, A) | _ :: _ => asettle d (h + 1) (1 - f) (ahand A f).2).1, σ') ∧ RepR σ' m (match A.2.2.2 f with | [] => (h, A) | _ :: _ => asettle d (h + 1) (1 - f) (ahand A f).2).2 ∧ keepM σ σ' m := by
      intro f hf hne _
      obtain ⟨σ1, e1, hR1, k1⟩ := R_hand hn hR hf hA
      obtain ⟨σ2, e2, hR2, k2⟩ := ih (h + 1) (1 - f) N σ1 (ahand A f).2 (by omega) (by omega) (by omega) hR1 (hand_ok hA hf)
      simp only [e1, Option.bind_some, nI_1, show (1 : Int32) - nI f = nI (1 - f) from pk_sub (a := 1) (by omega), e2]
      cases hq : A.2.2.2 f with
      | nil => exact absurd hq hne
      | cons p ps => exact ⟨σ2, rfl, hR2, k1.tr k2⟩
    by_cases both : (A.2.2.2 0).length + (A.2.2.2 1).length = 0
    · rw [if_pos (show nI ((A.2.2.2 0).length + (A.2.2.2 1).length) ≤ 0 by rw [both]; decide)]
      have e0 : A.2.2.2 0 = [] := List.eq_nil_of_length_eq_zero (by omega)
      have e1 : A.2.2.2 1 = [] := List.eq_nil_of_length_eq_zero (by omega)
      have ez : A.2.2.2 (if 0 < (A.2.2.2 turn).length then turn else 1 - turn) = [] := by
        split
        · rcases (show turn = 0 ∨ turn = 1 by omega) with z | z <;> rw [z]
          · exact e0
          · exact e1
        · rcases (show turn = 0 ∨ turn = 1 by omega) with z | z <;> rw [z]
          · exact e1
          · exact e0
      rw [ez]
      exact ⟨σ, rfl, hR, keepM.rf⟩
    · rw [if_neg (nI_nle (by omega) (by omega))]
      by_cases hz : A.2.2.2 turn = []
      · rw [if_pos ((nI_len0 (by omega)).mpr hz), if_neg (show ¬ 0 < (A.2.2.2 turn).length by rw [hz]; decide), show (1 : Int32) - nI turn = nI (1 - turn) from pk_sub (a := 1) (by omega)]
        refine go (1 - turn) (by omega) (fun q => both ?_) (by rw [if_neg (show ¬ 0 < (A.2.2.2 turn).length by rw [hz]; decide)])
        rcases (show turn = 0 ∨ turn = 1 by omega) with z | z
        · rw [z] at hz q; rw [hz, q]; rfl
        · rw [z] at hz q; rw [hz, q]; rfl
      · have hpos : 0 < (A.2.2.2 turn).length := List.length_pos_iff.mpr hz
        rw [if_neg (fun q => hz ((nI_len0 (by omega)).mp q)), if_pos hpos]
        exact go turn ht hz (by rw [if_pos hpos])
theorem R_settle {n : Nat} {σ : hp} {m : Nat} {A : aA} {k : Int32} (hn : n < 2 ^ 20) (hR : RepR σ m A) (hA : okA n A) : ∃ σ', S_X9_settle σ m k = some ((c_settle A k).1, σ') ∧ RepR σ' m (c_settle A k).2 ∧ keepM σ σ' m := by
  unfold c_settle
  simp only [S_X9_settle, S_X9_settle_12]
  by_cases h1 : k < 1
  · rw [if_pos h1, if_pos (Or.inl h1)]
    exact ⟨σ, rfl, hR, keepM.rf⟩
  · rw [if_neg h1]
    by_cases h2 : k ≤ 200
    · rw [if_pos h2, if_neg (show ¬ (k < 1 ∨ 200 < k) from fun q => q.elim h1 (fun z => absurd z (Int32.not_lt.mpr h2)))]
      obtain ⟨j, j1, j2⟩ := nI_of2 (x := k) (M := 200) (n := 200) rfl (fun z => h1 (Int32.lt_of_lt_of_le z (by decide))) h2
      subst j2
      rw [nI_clamp (by omega)]
      have := R_settleL hn j1 j 0 0 FU σ A (by omega) (by show _ < 1000; omega) (by decide) hR hA
      exact this
    · rw [if_neg h2, if_pos (Or.inr (Int32.not_le.mp h2))]
      exact ⟨σ, rfl, hR, keepM.rf⟩
