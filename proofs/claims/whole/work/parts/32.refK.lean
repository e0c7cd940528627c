/-! The reference: come. -/
theorem and7_ex (c : Int32) : ∃ y, y < 8 ∧ c &&& 7 = nI y := by
  refine ⟨(c.toBitVec &&& 7#32).toNat, ?_, ?_⟩
  · rw [BitVec.toNat_and]
    exact Nat.lt_of_le_of_lt Nat.and_le_right (by decide)
  · apply Int32.toBitVec_inj.1
    rw [Int32.toBitVec_and]
    show _ = BitVec.ofNat 32 _
    rw [BitVec.ofNat_toNat]
    simp
theorem rem8' {a : Nat} (h : a < 2 ^ 31) : nI a - nI a / 8 * 8 = nI (a % 8) := pk_rem (d := 8) h (by decide) (by decide)
def okB (x : Int32) : Prop := ∃ k, k < 256 ∧ x = nI k
def okP (p : Pkt) : Prop := (p.1 = 6 ∨ p.1 = 38) ∧ ∀ i, i < p.1 → okB (p.2 i)
def pkIs (σ : hp) (m : Nat) (p : Pkt) : Prop := ∀ i, i < p.1 → σ.2.1 (m + 15) i = p.2 i
theorem goodP_k {p : Pkt} (h : goodP p = true) : (p.1 = 38 → p.2 1 = 1 ∧ ¬ p.2 6 < 1 ∧ p.2 6 ≤ 31) ∧ (¬ p.1 = 38 → p.2 1 = 9) := by
  unfold goodP hdOk msgOk at h
  refine ⟨fun e => ?_, fun e => ?_⟩
  · rw [if_pos e] at h
    simp only [Bool.and_eq_true, decide_eq_true_eq] at h
    exact ⟨h.2.2.1.1.1, h.2.1.2.1.1, h.2.1.2.1.2⟩
  · rw [if_neg e] at h
    simp only [Bool.and_eq_true, decide_eq_true_eq] at h
    exact h.2.2.1.1.1
theorem r_come229 {σ0 : hp} {m s : Nat} (h0 : SkM σ0 m) (x y : Int32) (hs : s < 2) : ∀ (d k n : Nat) (σ : hp), k + d = 32 → d < n → σ = st1 σ0 (m + 34) (σ.2.1 (m + 34)) → S_X9_come_229 n σ m (nI s) x y 1 (nI k) = S_X9_come_264 (st1 σ (m + 34) (bw (σ.2.1 (m + 34)) 0 k 32 (fun i => σ0.2.1 (m + 15) (6 + i)))) m (nI s) x y 1 := by
  intro d
  induction d with
  | zero =>
    intro k n σ hk hn hσ
    obtain ⟨n, rfl⟩ : ∃ q, n = q + 1 := ⟨n - 1, by omega⟩
    obtain rfl : k = 32 := by omega
    simp only [S_X9_come_229, S_X9_come_229_b]
    rw [if_pos (show (32 : Int32) ≤ nI 32 by decide), bw_0, st1_id]
  | succ d ih =>
    intro k n σ hk hn hσ
    obtain ⟨n, rfl⟩ : ∃ q, n = q + 1 := ⟨n - 1, by omega⟩
    have h : SkM σ m := by rw [hσ]; exact h0
    have e15 : σ.2.1 (m + 15) = σ0.2.1 (m + 15) := by rw [hσ, st1_ne (by omega)]
    simp only [S_X9_come_229, S_X9_come_229_b]
    rw [if_neg (show ¬ (32 : Int32) ≤ nI k from nI_ge (b := 32) (by omega) (by decide)), if_neg (show ¬ (1 : Int32) = 0 by decide)]
    simp only [gM35 h, gM15 h, o_ldI, aM15 h, show (6 : Int32) + nI k = nI (6 + k) from nI_add 6 k, w_ix (show 6 + k < 38 by omega) (by decide), a_stI, aM35 h, w_ix (show k < 32 by omega) (by decide), Option.bind_some, nI_1, e15]
    have e := bw_s (f := σ.2.1 (m + 34)) (off := 0) (k := k) (b := 32) (g := fun i => σ0.2.1 (m + 15) (6 + i)) (by omega)
    rw [Nat.zero_add] at e
    rw [ih (k + 1) n _ (by omega) (by omega) (by rw [st1_self, st1_of hσ]), st1_self, st1_st1, e]
theorem r_come300 {σ0 : hp} {m s : Nat} (h0 : SkM σ0 m) (x : Int32) (hs : s < 2) : ∀ (d k n : Nat) (σ : hp), k + d = 32 → d < n → σ = st1 σ0 (m + 35) (σ.2.1 (m + 35)) → S_X9_come_300 n σ m (nI s) x (nI k) = S_X9_come_300 (n - d) (st1 σ (m + 35) (bw (σ.2.1 (m + 35)) 0 k 32 (fun i => σ0.2.1 (m + 34) i))) m (nI s) x (nI 32) := by
  intro d
  induction d with
  | zero =>
    intro k n σ hk hn hσ
    obtain rfl : k = 32 := by omega
    rw [bw_0, st1_id]
    rfl
  | succ d ih =>
    intro k n σ hk hn hσ
    obtain ⟨n, rfl⟩ : ∃ q, n = q + 1 := ⟨n - 1, by omega⟩
    have h : SkM σ m := by rw [hσ]; exact h0
    have e34 : σ.2.1 (m + 34) = σ0.2.1 (m + 34) := by rw [hσ, st1_ne (by omega)]
    conv => lhs; simp only [S_X9_come_300, S_X9_come_300_b]
    rw [if_neg (show ¬ (32 : Int32) ≤ nI k from nI_ge (b := 32) (by omega) (by decide))]
    simp only [gM35 h, gM36 h, o_ldI, aM35 h, w_ix (show k < 32 by omega) (by decide), a_stI, aM36 h, Option.bind_some, nI_1, e34]
    have e := bw_s (f := σ.2.1 (m + 35)) (off := 0) (k := k) (b := 32) (g := fun i => σ0.2.1 (m + 34) i) (by omega)
    rw [Nat.zero_add] at e
    rw [ih (k + 1) n _ (by omega) (by omega) (by rw [st1_self, st1_of hσ]), st1_self, st1_st1, e, show n + 1 - (d + 1) = n - d by omega]
theorem r_come371 {σ0 : hp} {m s : Nat} (h0 : SkM σ0 m) (hs : s < 2) : ∀ (d k n : Nat) (σ : hp), k + d = 32 → d < n → σ = st1 σ0 (m + 34) (σ.2.1 (m + 34)) → S_X9_come_371 n σ m (nI s) (nI k) = S_X9_come_371 (n - d) (st1 σ (m + 34) (bw (σ.2.1 (m + 34)) 0 k 32 (fun i => σ0.2.1 (m + 35) i))) m (nI s) (nI 32) := by
  intro d
  induction d with
  | zero =>
    intro k n σ hk hn hσ
    obtain rfl : k = 32 := by omega
    rw [bw_0, st1_id]
    rfl
  | succ d ih =>
    intro k n σ hk hn hσ
    obtain ⟨n, rfl⟩ : ∃ q, n = q + 1 := ⟨n - 1, by omega⟩
    have h : SkM σ m := by rw [hσ]; exact h0
    have e35 : σ.2.1 (m + 35) = σ0.2.1 (m + 35) := by rw [hσ, st1_ne (by omega)]
    conv => lhs; simp only [S_X9_come_371, S_X9_come_371_b]
    rw [if_neg (show ¬ (32 : Int32) ≤ nI k from nI_ge (b := 32) (by omega) (by decide))]
    simp only [gM35 h, gM36 h, o_ldI, aM36 h, w_ix (show k < 32 by omega) (by decide), a_stI, aM35 h, Option.bind_some, nI_1, e35]
    have e := bw_s (f := σ.2.1 (m + 34)) (off := 0) (k := k) (b := 32) (g := fun i => σ0.2.1 (m + 35) i) (by omega)
    rw [Nat.zero_add] at e
    rw [ih (k + 1) n _ (by omega) (by omega) (by rw [st1_self, st1_of hσ]), st1_self, st1_st1, e, show n + 1 - (d + 1) = n - d by omega]
theorem aack_J {A : aA} {s : Nat} {y : Int32} {t k : Nat} (hk : k ≠ 5) (hk2 : k ≠ 6) (hk3 : k ≠ 7) : (aack A s y).1 t k = A.1 t k := by
  unfold aack
  dsimp only
  split
  · rw [aJ_nk hk3, aJ_nk hk2, aJ_nk hk]; rfl
  · rfl
theorem aack_W {A : aA} {s : Nat} {y : Int32} : (aack A s y).2.2 = A.2.2 := by
  unfold aack
  dsimp only
  split <;> rfl
theorem aack_6 {A : aA} {s : Nat} {y : Int32} : (aack A s y).1 s 6 = 0 ∨ aack A s y = A := by
  unfold aack
  dsimp only
  split
  · left; rw [aJ_nk (by decide), aJ_at]
  · right; rfl
theorem aack_K {A : aA} {s : Nat} {y : Int32} (h : okK A s) : okK (aack A s y) s := by
  rcases aack_6 (A := A) (s := s) (y := y) with e | e
  · exact fun _ => e
  · rw [e]; exact h
theorem R_st {σ : hp} {m s : Nat} {A : aA} (h : RepR σ m A) (hs : s < 2) : σ.2.1 (m + 16) s = (if A.1 s 0 = 3 then 2 else A.1 s 0) := (h.2.2.2.1 s hs).1
theorem actl_J {A : aA} {s : Nat} {x y : Int32} : (actl A s x y).1 = A.1 ∧ (actl A s x y).2.1 = A.2.1 ∧ (actl A s x y).2.2.1 = A.2.2.1 := by
  unfold actl alay
  split <;> exact ⟨rfl, rfl, rfl⟩
set_option maxHeartbeats 1000000 in
theorem R_come {σ : hp} {m s u v e h w : Nat} {A : aA} {p : Pkt} (hR : RepR σ m A) (hs : s < 2) (hg : goodP p = true) (hp : okP p) (hpk : pkIs σ m p)
    (hst : A.1 s 0 = 0 ∨ A.1 s 0 = 1 ∨ A.1 s 0 = 2 ∨ A.1 s 0 = 3) (hcl : A.1 s 0 = 1 → ∃ c, c < 2 ^ 30 ∧ A.1 s 1 = nI (c + 1)) (hac : ∃ a, a < 8 ∧ A.1 s 4 = nI a) (hD : okD A s u v e) (hT : okT A s h w) (hx : ¬ A.1 s 8 = 0 → e < 256) (hroom : ∀ k, k < 256 → aHas A s (nI k) = false → e < 256) (hF : okF A s) (hK : A.1 s 0 = 2 ∨ A.1 s 0 = 3 → okK A s) :
    ∃ σ', S_X9_come σ m (nI s) = some σ' ∧ RepR σ' m (acome A s p) ∧ keepM σ σ' m := by
  have h1 := hR.1
  have hp6 : 6 ≤ p.1 := by rcases hp.1 with q | q <;> omega
  have c4 : σ.2.1 (m + 15) 4 = p.2 4 := hpk 4 (by omega)
  have c1 : σ.2.1 (m + 15) 1 = p.2 1 := hpk 1 (by omega)
  have e16 := R_st hR hs
  have e17 := R_mast hR hs
  have e18 : σ.2.1 (m + 18) s = A.1 s 2 := hR.get1 hs (by decide)
  have e19 : σ.2.1 (m + 19) s = A.1 s 3 := hR.get1 hs (by decide)
  have e10 : σ.2.1 (m + 10) s = A.1 s 1 := hR.get1 hs (by decide)
  obtain ⟨yn, hy8, hyn⟩ := and7_ex (p.2 4)
  obtain ⟨gk1, gk2⟩ := goodP_k hg
  simp only [S_X9_come, gM15 h1, o_ldI, aM15 h1, wx4 (show 4 < 38 by decide), wx1 (show 1 < 38 by decide), Option.bind_some, c4, c1]
  unfold acome
  dsimp only
  have ex : pkX p = (p.2 4 >>> ((3 : Int32) &&& 31)) &&& 7 := rfl
  have ey : pkY p = p.2 4 &&& 7 := rfl
  rw [← ex, ← ey]
  rw [← ey] at hyn
  have fIs : σ.2.1 (m + 16) s = 2 ↔ (A.1 s 0 = 2 ∨ A.1 s 0 = 3) := by
    rw [e16]
    rcases hst with q | q | q | q <;> rw [q] <;> decide
  have fC : σ.2.1 (m + 16) s = 1 ↔ A.1 s 0 = 1 := by
    rw [e16]
    rcases hst with q | q | q | q <;> rw [q] <;> decide
  have fM : σ.2.1 (m + 17) s = 0 ↔ ¬ A.1 s 0 = 2 := by
    rw [e17]
    rcases hst with q | q | q | q <;> rw [q] <;> decide
  by_cases hd : p.1 = 38
  · obtain ⟨g1, g2, g3⟩ := gk1 hd
    rw [if_pos g1, if_pos hd]
    simp only [S_X9_come_35, S_X9_come_136, S_X9_come_198, S_X9_come_226]
    rw [if_neg (show ¬ (1 : Int32) = 0 by decide), if_neg (show ¬ (1 : Int32) = 0 by decide)]
    simp only [gM17 h1, o_ldI, aM17 h1, w_ix hs (by decide), Option.bind_some]
    by_cases ho : A.1 s 0 = 2 ∨ A.1 s 0 = 3
    · rw [if_pos (fIs.mpr ho), if_pos ho, if_neg (show ¬ (1 : Int32) = 0 by decide)]
      have E := r_come229 h1 (pkX p) (pkY p) hs 32 0 FU σ rfl (by decide) (by rw [st1_id])
      rw [show nI 0 = (0 : Int32) from rfl] at E
      rw [E]
      generalize hσ1 : st1 σ (m + 34) (bw (σ.2.1 (m + 34)) 0 0 32 (fun i => σ.2.1 (m + 15) (6 + i))) = σ1
      have hR1 : RepR σ1 m A := by rw [← hσ1]; exact hR.row (by omega)
      have k1 : keepM σ σ1 m := by rw [← hσ1]; exact keepM.st (by decide)
      have hm1 : ∀ i, i < 32 → σ1.2.1 (m + 34) i = p.2 (6 + i) := fun i hi => by
        have := bw_in (f := σ.2.1 (m + 34)) (off := 0) (a := 0) (b := 32) (g := fun i => σ.2.1 (m + 15) (6 + i)) (Nat.zero_le i) hi
        rw [Nat.zero_add] at this
        rw [← hσ1, st1_self, this]
        exact hpk _ (by omega)
      obtain ⟨σ2, e2, hR2, k2, k2a, k2b⟩ := R_ack hR1 hs hy8
      rw [← hyn] at e2 hR2
      simp only [S_X9_come_264, S_X9_come_286, gMr hR1.1, e2, Option.bind_some]
      rw [if_neg (show ¬ (1 : Int32) = 0 by decide), if_neg (show ¬ (1 : Int32) = 0 by decide)]
      have E2 := r_come300 hR2.1 (pkX p) hs 32 0 FU σ2 rfl (by decide) (by rw [st1_id])
      rw [show nI 0 = (0 : Int32) from rfl] at E2
      rw [E2]
      generalize hσ3 : st1 σ2 (m + 35) (bw (σ2.2.1 (m + 35)) 0 0 32 (fun i => σ2.2.1 (m + 34) i)) = σ3
      have hR3 : RepR σ3 m (aack A s (pkY p)) := by rw [← hσ3]; exact hR2.row (by omega)
      have k3 : keepM σ2 σ3 m := by rw [← hσ3]; exact keepM.st (by decide)
      have hm3 : ∀ i, i < 32 → σ3.2.1 (m + 35) i = p.2 (6 + i) := fun i hi => by
        have := bw_in (f := σ2.2.1 (m + 35)) (off := 0) (a := 0) (b := 32) (g := fun i => σ2.2.1 (m + 34) i) (Nat.zero_le i) hi
        rw [Nat.zero_add] at this
        rw [← hσ3, st1_self, this, k2a]
        exact hm1 i hi
      obtain ⟨N, hN⟩ : ∃ N, FU - 32 = N + 1 := ⟨967, rfl⟩
      rw [hN]
      have hK1 := aack_K (y := pkY p) (hK ho)
      obtain ⟨σ4, e4, hR4, k4⟩ := R_flow hR3 hs (fun q _ => hK1 q)
      simp only [S_X9_come_300, S_X9_come_300_b]
      rw [if_pos (show (32 : Int32) ≤ nI 32 by decide)]
      generalize hB : aflow (aack A s (pkY p)) s = B at hR4 ⊢
      have BJ : ∀ t k, k ≠ 5 → k ≠ 6 → k ≠ 7 → B.1 t k = A.1 t k := fun t k a b c => by rw [← hB, aflow_J, aack_J a b c]
      have hFB : okF B s := by rw [← hB]; exact aflow_ok
      have hKB : okK B s := by rw [← hB]; exact aflow_okK hK1
      obtain ⟨a, ha8, haa⟩ := hac
      have eB4 : B.1 s 4 = nI a := by rw [BJ s 4 (by decide) (by decide) (by decide)]; exact haa
      have e20 : σ4.2.1 (m + 20) s = nI a := by rw [hR4.get1 hs (show (20, 1, 4, 1) ∈ tblJ by decide)]; exact eB4
      simp only [gMr hR3.1, e4, Option.bind_some, gM21 hR4.1, o_ldI, aM21 hR4.1, w_ix hs (by decide), e20, rem8 ha8]
      have kk : keepM σ σ4 m := ((k1.tr k2).tr k3).tr k4.m
      by_cases hxx : pkX p = nI ((a + 1) % 8)
      · rw [if_pos hxx, if_pos (show pkX p = (B.1 s 4 + 1) &&& 7 by rw [eB4, nI_1, and7 (by omega)]; exact hxx)]
        rw [a_stI]
        simp only [aM21 hR4.1, w_ix hs (by decide), Option.bind_some]
        have hR5 := hR4.put1 (r := 20) (n := 4) (x := pkX p) hs (by decide) (by decide)
        generalize hσ5 : st1 σ4 (m + 20) (upd (σ4.2.1 (m + 20)) s (pkX p)) = σ5 at hR5 ⊢
        have hR6 := hR5.put1 (r := 19) (n := 3) (x := 1) hs (by decide) (by decide)
        simp only [gM20 hR5.1, w_z1, a_stI, aM20 hR5.1, w_ix hs (by decide), Option.bind_some]
        generalize hσ6 : st1 σ5 (m + 19) (upd (σ5.2.1 (m + 19)) s 1) = σ6 at hR6 ⊢
        obtain ⟨σ7, e7, hR7, k7⟩ := R_control hR6 hs 4 (pkX p)
        simp only [gMr hR6.1, e7, Option.bind_some]
        have E3 := r_come371 hR7.1 hs 32 0 FU σ7 rfl (by decide) (by rw [st1_id])
        rw [show nI 0 = (0 : Int32) from rfl] at E3
        rw [E3]
        generalize hσ8 : st1 σ7 (m + 34) (bw (σ7.2.1 (m + 34)) 0 0 32 (fun i => σ7.2.1 (m + 35) i)) = σ8
        have hR8 : RepR σ8 m (actl (aJ (aJ B s 4 (pkX p)) s 3 1) s 4 (pkX p)) := by rw [← hσ8]; exact hR7.row (by omega)
        have e35 : σ7.2.1 (m + 35) = σ3.2.1 (m + 35) := by
          rw [k7.2.2.2.1 35 (by decide), ← hσ6, st1_ne (by omega), ← hσ5, st1_ne (by omega), k4.2.2.2.1 35 (by decide)]
        have hm8 : msgIs σ8 m (fun i => p.2 (6 + i)) := fun i hi => by
          have := bw_in (f := σ7.2.1 (m + 34)) (off := 0) (a := 0) (b := 32) (g := fun i => σ7.2.1 (m + 35) i) (Nat.zero_le i) hi
          rw [Nat.zero_add] at this
          rw [← hσ8, st1_self, this, e35]
          exact hm3 i hi
        rw [hN]
        simp only [S_X9_come_371, S_X9_come_371_b, S_X9_come_418]
        rw [if_pos (show (32 : Int32) ≤ nI 32 by decide)]
        generalize hC : actl (aJ (aJ B s 4 (pkX p)) s 3 1) s 4 (pkX p) = C at hR8 ⊢
        have CJ : ∀ t k, k ≠ 3 → k ≠ 4 → k ≠ 5 → k ≠ 6 → k ≠ 7 → C.1 t k = A.1 t k := fun t k b3 b4 a b c => by
          rw [← hC, actl_J.1, aJ_nk b3, aJ_nk b4]
          exact BJ t k a b c
        have C6 : C.1 s 6 = B.1 s 6 := by rw [← hC, actl_J.1, aJ_nk (by decide), aJ_nk (by decide)]
        have CO : C.2.1 = B.2.1 := by rw [← hC, actl_J.2.1]; rfl
        have CW : C.2.2.1 = B.2.2.1 := by rw [← hC, actl_J.2.2]; rfl
        obtain ⟨n, hn, hnn⟩ := hp.2 6 (by omega)
        obtain ⟨l, hl, hll⟩ := hp.2 9 (by omega)
        obtain ⟨nb, hnb, hnbb⟩ := hp.2 8 (by omega)
        have hn1 : 1 ≤ n ∧ n ≤ 31 := by
          rw [hnn] at g2 g3
          refine ⟨?_, ?_⟩
          · rcases Nat.eq_zero_or_pos n with q | q
            · rw [q] at g2; exact absurd (by decide) g2
            · exact q
          · rw [show (31 : Int32) = nI 31 from rfl, nIle (by omega) (by decide)] at g3
            exact g3
        obtain ⟨d1, d2, d3, d4, d5, d6, d7⟩ := hD
        obtain ⟨t1, t2, t3, t4⟩ := hT
        have hHas : aHas C s (nI nb) = aHas A s (nI nb) := by
          unfold aHas
          rw [CJ s 14 (by decide) (by decide) (by decide) (by decide) (by decide)]
          congr 1
          funext k
          rw [CJ s (5000 + k) (by omega) (by omega) (by omega) (by omega) (by omega)]
        obtain ⟨σ9, e9, hR9, k9⟩ := R_done (u := u) (v := v) (e := e) (h := h) (w := w) (n := n) (l := l) hR8 hs hm8 hnn hn1 hll hl
          (by rw [CJ s 0 (by decide) (by decide) (by decide) (by decide) (by decide)]; exact ho)
          ⟨by rw [CJ s 12 (by decide) (by decide) (by decide) (by decide) (by decide)]; exact d1, by rw [CJ s 13 (by decide) (by decide) (by decide) (by decide) (by decide)]; exact d2, by rw [CJ s 14 (by decide) (by decide) (by decide) (by decide) (by decide)]; exact d3, d4, d5, d6, fun j hj => by rw [CJ s (200 + j) (by omega) (by omega) (by omega) (by omega) (by omega)]; exact d7 j hj⟩
          ⟨by rw [CJ s 11 (by decide) (by decide) (by decide) (by decide) (by decide)]; exact t1, by rw [CJ s 10 (by decide) (by decide) (by decide) (by decide) (by decide)]; exact t2, t3, t4⟩
          (by rw [CJ s 8 (by decide) (by decide) (by decide) (by decide) (by decide)]; exact hx)
          (by show aHas C s (p.2 8) = false → _; rw [hnbb, hHas]; exact hroom nb hnb)
          (by unfold okF; rw [CO, CW]; exact hFB) (by unfold okK; rw [CO, C6]; exact hKB)
        simp only [gMr hR8.1, e9, Option.bind_some]
        have q5 : keepM σ4 σ5 m := by rw [← hσ5]; exact keepM.st (by decide)
        have q6 : keepM σ5 σ6 m := by rw [← hσ6]; exact keepM.st (by decide)
        have q8 : keepM σ7 σ8 m := by rw [← hσ8]; exact keepM.st (by decide)
        exact ⟨σ9, rfl, hR9, ((((kk.tr q5).tr q6).tr k7.m).tr q8).tr k9⟩
      · rw [if_neg hxx, if_neg (show ¬ pkX p = (B.1 s 4 + 1) &&& 7 by rw [eB4, nI_1, and7 (by omega)]; exact hxx)]
        obtain ⟨σ5, e5, hR5, k5⟩ := R_control hR4 hs 4 (B.1 s 4)
        rw [eB4] at e5
        simp only [gMr hR4.1, e5, Option.bind_some, S_X9_come_418]
        exact ⟨σ5, rfl, hR5, kk.tr k5.m⟩
    · rw [if_neg (fun q => ho (fIs.mp q)), if_neg ho]
      exact ⟨σ, rfl, hR, keepM.rf⟩
  · have g9 := gk2 hd
    rw [g9, if_neg (show ¬ (9 : Int32) = 1 by decide), if_neg hd]
    simp only [S_X9_come_35]
    rw [if_pos trivial]
    by_cases x7 : pkX p = 7
    · rw [if_pos x7, if_pos x7]
      -- INIT
      have answer : ∃ σ', S_X9_come_108 σ m (nI s) (pkY p) 0 = some σ' ∧ RepR σ' m (actl (aJ (aforget A s 3) s 2 (pkY p)) s 5 (pkY p)) ∧ keepM σ σ' m := by
        obtain ⟨σ1, e1, hR1, k1⟩ := R_forget hR hs 2 3 rfl (by decide)
        have hR2 := hR1.put1 (r := 18) (n := 2) (x := pkY p) hs (by decide) (by decide)
        obtain ⟨σ3, e3, hR3, k3⟩ := R_control hR2 hs 5 (pkY p)
        simp only [S_X9_come_108, S_X9_come_135]
        rw [if_pos trivial]
        simp only [gMr h1, e1, Option.bind_some, gM19 hR1.1, a_stI, aM19 hR1.1, w_ix hs (by decide), gMr hR2.1, e3]
        exact ⟨σ3, rfl, hR3, (k1.tr (keepM.st (by decide))).tr k3.m⟩
      have rest0 : ¬ (A.1 s 0 = 3 ∧ A.1 s 2 = pkY p ∧ ¬ A.1 s 3 = 0) → ∃ σ', S_X9_come_92 σ m (nI s) (pkY p) 0 = some σ' ∧ RepR σ' m (if (s = 0 ∧ A.1 s 0 = 1) ∨ (A.1 s 0 = 3 ∧ A.1 s 2 = pkY p ∧ ¬ A.1 s 3 = 0) then A else actl (aJ (aforget A s 3) s 2 (pkY p)) s 5 (pkY p)) ∧ keepM σ σ' m := by
        intro hno
        simp only [S_X9_come_92, S_X9_come_135, gM17 h1, o_ldI, aM17 h1, w_ix hs (by decide), Option.bind_some]
        by_cases s0 : s = 0
        · rw [if_pos (show nI s = 0 by rw [s0]; rfl)]
          by_cases hc : A.1 s 0 = 1
          · rw [if_pos (fC.mpr hc), if_pos (show (s = 0 ∧ A.1 s 0 = 1) ∨ (A.1 s 0 = 3 ∧ A.1 s 2 = pkY p ∧ ¬ A.1 s 3 = 0) from Or.inl ⟨s0, hc⟩)]
            exact ⟨σ, rfl, hR, keepM.rf⟩
          · rw [if_neg (fun q => hc (fC.mp q)), if_neg (show ¬ ((s = 0 ∧ A.1 s 0 = 1) ∨ (A.1 s 0 = 3 ∧ A.1 s 2 = pkY p ∧ ¬ A.1 s 3 = 0)) from fun q => q.elim (fun z => hc z.2) hno)]
            exact answer
        · rw [if_neg (show ¬ nI s = 0 from nI_ne0 (by omega) (by omega)), if_neg (show ¬ ((s = 0 ∧ A.1 s 0 = 1) ∨ (A.1 s 0 = 3 ∧ A.1 s 2 = pkY p ∧ ¬ A.1 s 3 = 0)) from fun q => q.elim (fun z => s0 z.1) hno)]
          exact answer
      simp only [gM17 h1, o_ldI, aM17 h1, w_ix hs (by decide), Option.bind_some, gM18 h1, aM18 h1, gM19 h1, aM19 h1, gM20 h1, aM20 h1, e18, e19, S_X9_come_91]
      by_cases ho : A.1 s 0 = 2 ∨ A.1 s 0 = 3
      · rw [if_pos (fIs.mpr ho)]
        by_cases h3 : A.1 s 0 = 3
        · have h2 : ¬ A.1 s 0 = 2 := by rw [h3]; decide
          rw [if_pos (fM.mpr h2)]
          by_cases i2 : A.1 s 2 = pkY p
          · rw [if_pos i2]
            by_cases i3 : A.1 s 3 = 0
            · rw [if_pos i3]
              exact rest0 (fun q => q.2.2 i3)
            · rw [if_neg i3, if_pos (show (s = 0 ∧ A.1 s 0 = 1) ∨ (A.1 s 0 = 3 ∧ A.1 s 2 = pkY p ∧ ¬ A.1 s 3 = 0) from Or.inr ⟨h3, i2, i3⟩)]
              have n1 : ¬ σ.2.1 (m + 16) s = 1 := fun q => by rw [fIs.mpr ho] at q; exact absurd q (by decide)
              refine ⟨σ, ?_, hR, keepM.rf⟩
              simp only [S_X9_come_92, S_X9_come_108, S_X9_come_135, gM17 h1, o_ldI, aM17 h1, w_ix hs (by decide), Option.bind_some]
              rw [if_neg n1, if_neg (show ¬ (1 : Int32) = 0 by decide)]
              split <;> rfl
          · rw [if_neg i2]
            exact rest0 (fun q => i2 q.2.1)
        · have h2 : A.1 s 0 = 2 := ho.resolve_right h3
          rw [if_neg (fun q => fM.mp q h2)]
          exact rest0 (fun q => h3 q.1)
      · rw [if_neg (fun q => ho (fIs.mp q))]
        exact rest0 (fun q => ho (Or.inr q.1))
    · rw [if_neg x7, if_neg x7]
      simp only [S_X9_come_136]
      rw [if_pos trivial]
      by_cases x5 : pkX p = 5
      · rw [if_pos x5, if_pos x5]
        simp only [gM17 h1, o_ldI, aM17 h1, w_ix hs (by decide), Option.bind_some, gM9 h1, aM9 h1, e10, S_X9_come_197]
        by_cases hc : A.1 s 0 = 1
        · rw [if_pos (fC.mpr hc)]
          obtain ⟨c, hc2, hcc⟩ := hcl hc
          have ec : A.1 s 1 - 1 = nI c := by rw [hcc]; exact pk_sub (b := 1) (a := c + 1) (by omega)
          rw [ec, rem8' (by omega)]
          by_cases hyy : nI (c % 8) = pkY p
          · rw [if_pos hyy, if_pos (show A.1 s 0 = 1 ∧ nI c &&& 7 = pkY p from ⟨hc, by rw [and7 (by omega)]; exact hyy⟩)]
            obtain ⟨σ1, e1, hR1, k1⟩ := R_forget hR hs 2 3 rfl (by decide)
            have ho1 : (aforget A s 3).1 s 0 = 3 := by unfold aforget; dsimp only; rw [va_up_self]; rfl
            have hR2 := hR1.mast (b := 1) (x := 2) hs (Or.inr ho1) (Or.inl ⟨rfl, rfl⟩)
            have hR3 := hR2.put1 (r := 18) (n := 2) (x := -1) hs (by decide) (by decide)
            have eA : aJ (aforget A s 3) s 0 2 = aforget A s 2 := by
              unfold aJ aforget
              dsimp only
              congr 1
              funext t
              by_cases ht : t = s
              · subst ht
                rw [va_up_self, va_up_self, va_up_self]
                funext k
                unfold upd
                by_cases k0 : k = 0
                · rw [if_pos k0, if_pos k0]
                · rw [if_neg k0, if_neg k0]; dsimp only; rw [if_neg k0]
              · rw [va_up_ne _ _ ht, va_up_ne _ _ ht, va_up_ne _ _ ht]
            rw [eA] at hR3
            generalize hC : aJ (aforget A s 2) s 2 (-1) = C at hR3 ⊢
            have CJ : ∀ k, k = 12 ∨ k = 13 ∨ k = 14 ∨ 100 ≤ k → C.1 s k = A.1 s k := fun k hk => by
              rw [← hC, aJ_nk (by omega)]
              unfold aforget
              dsimp only
              rw [va_up_self, if_neg (by omega), if_neg (by omega), if_neg (by omega)]
            have CO : C.2.1 s = [] := by rw [← hC]; exact va_up_self _ _ _
            have CW : C.2.2.1 s = [] := by rw [← hC]; exact va_up_self _ _ _
            have C6 : C.1 s 6 = 0 := by
              rw [← hC, aJ_nk (by decide)]
              unfold aforget
              dsimp only
              rw [va_up_self]
              rfl
            obtain ⟨d1, d2, d3, d4, d5, d6, d7⟩ := hD
            obtain ⟨σ4, e4, hR4, k4⟩ := R_goOn (u := u) (v := v) (e := e) hR3 hs ⟨by rw [CJ 12 (by omega)]; exact d1, by rw [CJ 13 (by omega)]; exact d2, by rw [CJ 14 (by omega)]; exact d3, d4, d5, d6, fun j hj => by rw [CJ (200 + j) (by omega)]; exact d7 j hj⟩ (fun _ => CW) (fun _ => C6)
            simp only [gMr h1, e1, Option.bind_some, gM18 hR1.1, w_z1, a_stI, aM18 hR1.1, w_ix hs (by decide), gM19 hR2.1, aM19 hR2.1, gMr hR3.1, e4]
            exact ⟨σ4, rfl, hR4, ((k1.tr (keepM.st (by decide))).tr (keepM.st (by decide))).tr k4⟩
          · rw [if_neg hyy, if_neg (show ¬ (A.1 s 0 = 1 ∧ nI c &&& 7 = pkY p) from fun q => hyy (by rw [← and7 (by omega)]; exact q.2))]
            exact ⟨σ, rfl, hR, keepM.rf⟩
        · rw [if_neg (fun q => hc (fC.mp q)), if_neg (fun q => hc q.1)]
          exact ⟨σ, rfl, hR, keepM.rf⟩
      · rw [if_neg x5, if_neg x5]
        simp only [S_X9_come_198, gM17 h1, o_ldI, aM17 h1, w_ix hs (by decide), Option.bind_some]
        by_cases ho : A.1 s 0 = 2 ∨ A.1 s 0 = 3
        · rw [if_pos (fIs.mpr ho), if_pos ho, if_pos trivial]
          by_cases x1 : pkX p = 1
          · rw [if_pos x1, if_pos x1]
            obtain ⟨σ1, e1, hR1, k1⟩ := R_forget hR hs 0 0 rfl (by decide)
            simp only [gMr h1, e1, Option.bind_some]
            exact ⟨σ1, rfl, hR1, k1⟩
          · rw [if_neg x1, if_neg x1]
            obtain ⟨FN, hFN⟩ : ∃ N, FU = N + 1 := ⟨999, rfl⟩
            unfold S_X9_come_226
            rw [hFN]
            unfold S_X9_come_229 S_X9_come_229_b
            rw [if_neg (show ¬ (32 : Int32) ≤ 0 by decide), if_pos (show (0 : Int32) = 0 from rfl)]
            obtain ⟨σ1, e1, hR1, k1, -, -⟩ := R_ack hR hs hy8
            rw [← hyn] at e1 hR1
            simp only [S_X9_come_264, S_X9_come_286, gMr h1, e1, Option.bind_some, if_true]
            have hK1 := aack_K (y := pkY p) (hK ho)
            by_cases x2 : pkX p = 2
            · rw [if_pos x2, if_pos x2]
              obtain ⟨σ2, e2, hR2, k2⟩ := R_again hR1 hs
              have hA2 : okK (aAgain (aack A s (pkY p)) s) s := by
                unfold aAgain okK
                dsimp only
                rw [aagain_R]
                obtain ⟨j1, j2, j3⟩ := agR_J (s := s) ((aack A s (pkY p)).2.1 s).length 0 (aack A s (pkY p))
                rw [j2]
                split
                · rw [j1, j2]; exact hK1
                · intro _; exact aJ_at
              obtain ⟨σ3, e3, hR3, k3⟩ := R_flow hR2 hs (fun q _ => hA2 q)
              simp only [gMr hR1.1, e2, Option.bind_some, gMr hR2.1, e3]
              exact ⟨σ3, rfl, hR3, (k1.tr k2).tr k3.m⟩
            · rw [if_neg x2, if_neg x2]
              obtain ⟨σ3, e3, hR3, k3⟩ := R_flow hR1 hs (fun q _ => hK1 q)
              simp only [gMr hR1.1, e3, Option.bind_some]
              exact ⟨σ3, rfl, hR3, k1.tr k3.m⟩
        · rw [if_neg (fun q => ho (fIs.mp q)), if_neg ho]
          exact ⟨σ, rfl, hR, keepM.rf⟩
