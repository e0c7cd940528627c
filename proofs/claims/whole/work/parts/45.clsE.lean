/-! The class: takePart, new jobs, what is whole. -/
def pkO (σ : hp) (o t p : Nat) (pk : Pkt) : Prop := isP σ p (p + 1) ∧ pkC σ p pk ∧ o + 2 + 28 * (1 - t) < p ∧ p + 1 < o + 2 + 28 * (1 - t) + 28
theorem pkO.kp {σ σ' : hp} {o t p : Nat} {pk : Pkt} (h : pkO σ o t p pk) (ht : t < 2) (k : keepF σ σ' o t) (hx : o + 192 ≤ σ.2.2.2.1) : pkO σ' o t p pk := by
  obtain ⟨⟨h1, h2, h3, h4⟩, ⟨h5, h6⟩, h7, h8⟩ := h
  obtain ⟨a1, a2, a3⟩ := k.2 p (by omega) (by omega) (by omega)
  obtain ⟨b1, b2, b3⟩ := k.2 (p + 1) (by omega) (by omega) (by omega)
  exact ⟨⟨by rw [a1]; exact h1, by rw [a3]; exact h2, by rw [b1]; exact h3, h4⟩, ⟨by rw [a2]; exact h5, fun i hi => by rw [b2]; exact h6 i hi⟩, h7, h8⟩
theorem c_takeL {σ0 : hp} {S p h w n : Nat} {pk : Pkt} (hs : σ0.1 (S + 46) = some (.inl 1)) (hr : σ0.2.2.1 (S + 46) 0 = some (S + 47)) (ha : σ0.1 (S + 47) = some (.inr (0, 100))) (hP : isP σ0 p (p + 1)) (hd : p + 1 < S + 46 ∨ S + 47 < p) (hn : σ0.2.1 (p + 1) 6 = nI n) (hn31 : n ≤ 31) (hb : ∀ i, i < 38 → σ0.2.1 (p + 1) i = pk.2 i) (hw : σ0.2.1 (S + 46) 3 = nI w) (hw2 : w ≤ 100) (hh : h ≤ w) : ∀ (d j N : Nat), j + d = (if n - 1 ≤ w - h then n - 1 else w - h) → d < N → S_X1_takePart_2 N (st1 (st1 σ0 (S + 47) (bw (σ0.2.1 (S + 47)) h 0 j (fun j => pk.2 (8 + j)))) (S + 46) (upd (σ0.2.1 (S + 46)) 4 (nI (h + j)))) (S + 46) (some p) (nI (1 + j)) = some (st1 (st1 σ0 (S + 47) (bw (σ0.2.1 (S + 47)) h 0 (j + d) (fun j => pk.2 (8 + j)))) (S + 46) (upd (σ0.2.1 (S + 46)) 4 (nI (h + (j + d))))) := by
  intro d
  induction d with
  | zero =>
    intro j N hj hN
    obtain ⟨N, rfl⟩ : ∃ q, N = q + 1 := ⟨N - 1, by omega⟩
    rw [Nat.add_zero] at hj ⊢
    generalize hσ : st1 (st1 σ0 (S + 47) (bw (σ0.2.1 (S + 47)) h 0 j (fun j => pk.2 (8 + j)))) (S + 46) (upd (σ0.2.1 (S + 46)) 4 (nI (h + j))) = σ
    have g1 : σ.1 (S + 46) = some (.inl 1) := by rw [← hσ]; exact hs
    have gP : isP σ p (p + 1) := by rw [← hσ]; exact hP
    have e46 : σ.2.1 (S + 46) = upd (σ0.2.1 (S + 46)) 4 (nI (h + j)) := by rw [← hσ, st1_self]
    have ep : σ.2.1 (p + 1) = σ0.2.1 (p + 1) := by rw [← hσ, st1_ne (by omega), st1_ne (by omega)]
    simp only [S_X1_takePart_2, S_X1_takePart_2_b, S_X1_takePart_60, w_rcv gP.1, Option.bind_some, p_mlen gP, ep, hn, w_gI g1, e46, u_s, u_n (show 3 ≠ 4 by decide), hw]
    by_cases c1 : n ≤ 1 + j
    · rw [if_pos (nI_le c1 (by split at hj <;> omega))]
    · rw [if_neg (nI_ge (by omega) (by omega)), if_pos (nI_le (by split at hj <;> omega) (by split at hj <;> omega))]
  | succ d ih =>
    intro j N hj hN
    obtain ⟨N, rfl⟩ : ∃ q, N = q + 1 := ⟨N - 1, by omega⟩
    have key := ih (j + 1) N (by omega) (by omega)
    have hbd : j + 1 ≤ n - 1 ∧ h + j + 1 ≤ w := by split at hj <;> omega
    rw [show j + (d + 1) = j + 1 + d by omega, ← key]
    generalize hσ : st1 (st1 σ0 (S + 47) (bw (σ0.2.1 (S + 47)) h 0 j (fun j => pk.2 (8 + j)))) (S + 46) (upd (σ0.2.1 (S + 46)) 4 (nI (h + j))) = σ
    have g1 : σ.1 (S + 46) = some (.inl 1) := by rw [← hσ]; exact hs
    have gr : σ.2.2.1 (S + 46) 0 = some (S + 47) := by rw [← hσ]; exact hr
    have ga : σ.1 (S + 47) = some (.inr (0, 100)) := by rw [← hσ]; exact ha
    have gP : isP σ p (p + 1) := by rw [← hσ]; exact hP
    have e46 : σ.2.1 (S + 46) = upd (σ0.2.1 (S + 46)) 4 (nI (h + j)) := by rw [← hσ, st1_self]
    have e47 : σ.2.1 (S + 47) = bw (σ0.2.1 (S + 47)) h 0 j (fun j => pk.2 (8 + j)) := by rw [← hσ, st1_ne (by omega), st1_self]
    have ep : σ.2.1 (p + 1) = σ0.2.1 (p + 1) := by rw [← hσ, st1_ne (by omega), st1_ne (by omega)]
    simp only [S_X1_takePart_2, S_X1_takePart_2_b, S_X1_takePart_60, w_rcv gP.1, Option.bind_some, p_mlen gP, ep, hn, w_gI g1, e46, u_s, u_n (show 3 ≠ 4 by decide), hw]
    rw [if_neg (nI_ge (by omega) (by omega)), if_neg (nI_ge (by omega) (by omega)), if_neg (show ¬ (100 : Int32) ≤ nI (h + j) from nI_ge (b := 100) (by omega) (by decide))]
    simp only [w_gR g1, gr, Option.bind_some, p_mbyte gP (show 1 + j < 31 by omega), ep, hb (7 + (1 + j)) (by omega), a_stI, w_a ga, w_ix (show h + j < 100 by omega) (by decide), e47]
    rw [show 7 + (1 + j) = 8 + j by omega, bw_e (g := fun j => pk.2 (8 + j))]
    generalize hσ' : st1 σ (S + 47) (bw (σ0.2.1 (S + 47)) h 0 (j + 1) (fun j => pk.2 (8 + j))) = σ'
    have g1' : σ'.1 (S + 46) = some (.inl 1) := by rw [← hσ']; exact g1
    have e46' : σ'.2.1 (S + 46) = upd (σ0.2.1 (S + 46)) 4 (nI (h + j)) := by rw [← hσ', st1_ne (by omega)]; exact e46
    simp only [w_gI g1', e46', u_s, Option.bind_some, w_pI g1', nI_1]
    congr 1
    rw [← hσ', ← hσ, st1_cm (by omega : S + 46 ≠ S + 47), st1_st1, st1_st1]
    have : upd (upd (σ0.2.1 (S + 46)) 4 (nI (h + j))) 4 (nI (h + j + 1)) = upd (σ0.2.1 (S + 46)) 4 (nI (h + (j + 1))) := by
      funext i
      unfold upd
      split <;> rfl
    rw [this]
theorem C_take {σ : hp} {o t p n h w B C : Nat} {A : aA} {pk : Pkt} (hR : RQ σ o t A B C) (ht : t < 2) (hp : pkO σ o t p pk) (h38 : pk.1 = 38) (hn : pk.2 6 = nI n) (hn31 : 1 ≤ n ∧ n ≤ 31) (hT : okT A t h w) : ∃ σ', S_X1_takePart σ (o + 59 + 48 * t + 46) (some p) = some σ' ∧ RQ σ' o t (atake A t (fun i => pk.2 (6 + i))) B C ∧ keepF σ σ' o t := by
  obtain ⟨s1, s2, s3, s4, s5, s6, s7, s8, s9, s10, s11, s12, s13, s14⟩ := (hR.1.2 t ht).2
  obtain ⟨t1, t2, t3, t4⟩ := hT
  obtain ⟨i1, i2, i3, i4, i5⟩ := hR.2.2.2.2.2.1
  rw [t2] at i3
  rw [t1] at i4
  obtain ⟨q1, ⟨q2, q3⟩, q4, q5⟩ := hp
  have E := c_takeL (h := h) (w := w) (n := n) (pk := pk) s12 s13 s14 q1 (by omega) (by rw [q3 6 (by omega)]; exact hn) hn31.2 (fun i hi => q3 i (by omega)) i3 t4 t3 (if n - 1 ≤ w - h then n - 1 else w - h) 0 FU (by omega) (by show _ < 1000; split <;> omega)
  rw [bw_0, st1_id, Nat.zero_add, Nat.add_zero h, Nat.add_zero 1, upd_id i4, st1_id] at E
  have k1 : keepI σ (st1 (st1 σ (o + 59 + 48 * t + 47) (bw (σ.2.1 (o + 59 + 48 * t + 47)) h 0 (if n - 1 ≤ w - h then n - 1 else w - h) (fun j => pk.2 (8 + j)))) (o + 59 + 48 * t + 46) (upd (σ.2.1 (o + 59 + 48 * t + 46)) 4 (nI (h + (if n - 1 ≤ w - h then n - 1 else w - h))))) (o + 59 + 48 * t + 46) (o + 59 + 48 * t + 48) := (keepI.st (by omega)).tr (keepI.st (by omega))
  refine ⟨_, E, ?_, k1.f (Or.inr (by omega))⟩
  rw [atake_eq t1 t2 hn (by omega)]
  generalize hc : (if n - 1 ≤ w - h then n - 1 else w - h) = c at k1 ⊢
  have hcw : h + c ≤ w := by rw [← hc]; split <;> omega
  refine hR.int ht k1 ?_ (fun k hk => by rw [aJ_nk (by omega), aB_o (by omega)]) rfl rfl rfl
  refine ⟨?_, ?_, ?_, ?_, fun i hi => ?_⟩
  · rw [st1_self, u_n (by decide), aJ_nk (by decide), aB_o (by omega)]; exact i1
  · rw [st1_self, u_n (by decide), aJ_nk (by decide), aB_o (by omega)]; exact i2
  · rw [st1_self, u_n (by decide), aJ_nk (by decide), aB_o (by omega), t2]; exact i3
  · rw [st1_self, u_s, aJ_at]
  · rw [st1_ne (by omega), st1_self, aJ_nk (by omega), aB_s]
    unfold bw
    by_cases c1 : h + 0 ≤ i ∧ i < h + c
    · rw [if_pos c1, if_pos (by omega)]
      show pk.2 (8 + (i - h)) = pk.2 (6 + (2 + (100 + i - (100 + h))))
      rw [show 6 + (2 + (100 + i - (100 + h))) = 8 + (i - h) by omega]
    · rw [if_neg c1, if_neg (by omega)]
      exact i5 i hi
theorem w_pR {σ : hp} {c k a : Nat} {x : Option Nat} (h : σ.1 a = some (.inl c)) : o_pR σ c k (some a) x = some (sR σ (up2 σ.2.2.1 a k x)) := by simp [o_pR, h]
theorem w_na {σ : hp} {t n : Nat} (h : n ≤ 100000) : o_na σ t (nI n) = some (some σ.2.2.2.1, hp_new σ (.inr (t, n)) n) := by
  unfold o_na
  rw [nI_clamp (by omega), if_neg]
  intro q
  rcases q with q | q
  · exact absurd q (nI_pos (by omega))
  · omega
theorem c_initJob {σ : hp} {src w : Nat} {num : Int32} (hsrc : σ.1 src = some (.inr (0, 100))) (hs : src < σ.2.2.2.1) (hw : w ≤ 100) : ∃ σ', S_X2_init (hp_new σ (.inl 2) 2) σ.2.2.2.1 num (some src) (nI w) = some σ' ∧ σ'.2.2.2.1 = σ.2.2.2.1 + 2 ∧ σ'.2.2.2.2 = σ.2.2.2.2 + 2 + w ∧ σ'.1 σ.2.2.2.1 = some (.inl 2) ∧ σ'.1 (σ.2.2.2.1 + 1) = some (.inr (0, w)) ∧ σ'.2.2.1 σ.2.2.2.1 1 = some (σ.2.2.2.1 + 1) ∧ σ'.2.1 σ.2.2.2.1 0 = num ∧ (∀ i, i < w → σ'.2.1 (σ.2.2.2.1 + 1) i = σ.2.1 src i) ∧ ∀ a, a < σ.2.2.2.1 → σ'.1 a = σ.1 a ∧ σ'.2.1 a = σ.2.1 a ∧ σ'.2.2.1 a = σ.2.2.1 a := by
  obtain ⟨T, I, R, N, M⟩ := σ
  dsimp only at hsrc hs ⊢
  have hT1 : (hp_new (T, I, R, N, M) (.inl 2) 2).1 N = some (.inl 2) := va_up_self _ _ _
  simp only [S_X2_init, S_X2_init_13, w_pI hT1, Option.bind_some]
  generalize hg : upd ((hp_new (T, I, R, N, M) (.inl 2) 2).2.1 N) 0 num = g
  have hN1 : (st1 (hp_new (T, I, R, N, M) (.inl 2) 2) N g).2.2.2.1 = N + 1 := rfl
  rw [w_na (by omega)]
  simp only [Option.bind_some, hN1]
  generalize hσ2 : hp_new (st1 (hp_new (T, I, R, N, M) (.inl 2) 2) N g) (.inr (0, w)) w = σ2
  have t2 : σ2.1 = va_up (va_up T N (some (.inl 2))) (N + 1) (some (.inr (0, w))) := by rw [← hσ2]; rfl
  have i2 : σ2.2.1 = va_up (va_up (va_up I N (fun _ => 0)) N g) (N + 1) (fun _ => 0) := by rw [← hσ2]; rfl
  have r2 : σ2.2.2.1 = va_up (va_up R N (fun _ => none)) (N + 1) (fun _ => none) := by rw [← hσ2]; rfl
  have n2 : σ2.2.2.2 = (N + 2, M + 2 + w) := by rw [← hσ2]; rfl
  have tN : σ2.1 N = some (.inl 2) := by rw [t2, va_up_ne _ _ (by omega), va_up_self]
  have tN1 : σ2.1 (N + 1) = some (.inr (0, w)) := by rw [t2, va_up_self]
  rw [w_pR tN]
  simp only [Option.bind_some]
  generalize hσ3 : sR σ2 (up2 σ2.2.2.1 N 1 (some (N + 1))) = σ3
  have t3 : σ3.1 = σ2.1 := by rw [← hσ3]; rfl
  have i3 : σ3.2.1 = σ2.2.1 := by rw [← hσ3]; rfl
  have r3 : σ3.2.2.1 = up2 σ2.2.2.1 N 1 (some (N + 1)) := by rw [← hσ3]; rfl
  have n3 : σ3.2.2.2 = (N + 2, M + 2 + w) := by rw [← hσ3]; exact n2
  have tN' : σ3.1 N = some (.inl 2) := by rw [t3]; exact tN
  have tN1' : σ3.1 (N + 1) = some (.inr (0, w)) := by rw [t3]; exact tN1
  have tS : σ3.1 src = some (.inr (0, 100)) := by rw [t3, t2, va_up_ne _ _ (by omega), va_up_ne _ _ (by omega)]; exact hsrc
  have rN : σ3.2.2.1 N 1 = some (N + 1) := by rw [r3]; simp [up2]
  rw [w_gR tN', rN]
  simp only [Option.bind_some, o_cpy, w_a tS, w_a tN1', show (0 : Int32).toNatClampNeg = 0 from rfl, nI_clamp (show w < 2 ^ 31 by omega)]
  rw [if_pos (by
    refine ⟨by decide, by decide, nI_pos (by omega), by omega, by omega⟩)]
  refine ⟨_, rfl, ?_, ?_, ?_, ?_, ?_, ?_, fun i hi => ?_, fun a ha => ⟨?_, ?_, ?_⟩⟩
  · show σ3.2.2.2.1 = _
    rw [n3]
  · show σ3.2.2.2.2 = _
    rw [n3]
  · exact tN'
  · exact tN1'
  · exact rN
  · show va_up σ3.2.1 (N + 1) _ N 0 = num
    rw [va_up_ne _ _ (by omega), i3, i2, va_up_ne _ _ (by omega), va_up_self, ← hg, u_s]
  · show va_up σ3.2.1 (N + 1) _ (N + 1) i = I src i
    rw [va_up_self, pk_cpy_in (by omega) (by omega), i3, i2, va_up_ne _ _ (by omega), va_up_ne _ _ (by omega), va_up_ne _ _ (by omega)]
    congr 1
    omega
  · show σ3.1 a = T a
    rw [t3, t2, va_up_ne _ _ (by omega), va_up_ne _ _ (by omega)]
  · show va_up σ3.2.1 (N + 1) _ a = I a
    rw [va_up_ne _ _ (by omega), i3, i2, va_up_ne _ _ (by omega), va_up_ne _ _ (by omega), va_up_ne _ _ (by omega)]
  · show σ3.2.2.1 a = R a
    rw [r3]
    funext k
    have : up2 σ2.2.2.1 N 1 (some (N + 1)) a k = σ2.2.2.1 a k := by simp [up2, show ¬ a = N by omega]
    rw [this, r2, va_up_ne _ _ (by omega), va_up_ne _ _ (by omega)]
theorem mkM.of2 {σ σ' : hp} {a : Nat} (h : mkM σ a) (e1 : σ'.1 a = σ.1 a) (e2 : σ'.1 (a + 1) = σ.1 (a + 1)) (e3 : σ'.2.2.1 a = σ.2.2.1 a) : mkM σ' a := by
  unfold mkM
  rw [e1, e2, e3]
  exact h
theorem isP.of2 {σ σ' : hp} {a : Nat} (h : isP σ a (a + 1)) (e1 : σ'.1 a = σ.1 a) (e2 : σ'.1 (a + 1) = σ.1 (a + 1)) (e3 : σ'.2.2.1 a = σ.2.2.1 a) : isP σ' a (a + 1) := by
  unfold isP
  rw [e1, e2, e3]
  exact h
theorem SkC.of2 {σ σ' : hp} {o : Nat} (h : SkC σ o) (hT : ∀ a, a < o + 192 → σ'.1 a = σ.1 a) (hR : ∀ a, a < o + 192 → (∀ t, t < 2 → a ≠ o + 59 + 48 * t + 2 ∧ a ≠ o + 59 + 48 * t + 3) → σ'.2.2.1 a = σ.2.2.1 a) : SkC σ' o := by
  have hR' : ∀ a, a < o + 192 → a ≠ o + 61 → a ≠ o + 62 → a ≠ o + 109 → a ≠ o + 110 → σ'.2.2.1 a = σ.2.2.1 a := fun a a0 a1 a2 a3 a4 => hR a a0 (fun t ht => by rcases (show t = 0 ∨ t = 1 by omega) with rfl | rfl <;> omega)
  obtain ⟨⟨o1, o2, o3, o4, o5, o6, o7, o8⟩, h2⟩ := h
  refine ⟨⟨by rw [hT _ (by omega)]; exact o1, by rw [hR' _ (by omega) (by omega) (by omega) (by omega) (by omega)]; exact o2, by rw [hR' _ (by omega) (by omega) (by omega) (by omega) (by omega)]; exact o3, by rw [hR' _ (by omega) (by omega) (by omega) (by omega) (by omega)]; exact o4, by rw [hT _ (by omega)]; exact o5, by rw [hT _ (by omega)]; exact o6, by rw [hT _ (by omega)]; exact o7, fun t ht => by rw [hR' _ (by omega) (by omega) (by omega) (by omega) (by omega), hR' _ (by omega) (by omega) (by omega) (by omega) (by omega)]; exact o8 t ht⟩, fun t ht => ?_⟩
  obtain ⟨⟨w1, w2, w3, w4, w5, w6⟩, s1, s2, s3, s4, s5, s6, s7, s8, s9, s10, ⟨n1, n2, n3, n4⟩, s12, s13, s14⟩ := h2 t ht
  refine ⟨⟨by rw [hT _ (by omega)]; exact w1, by rw [hR' _ (by omega) (by omega) (by omega) (by omega) (by omega)]; exact w2, by rw [hR' _ (by omega) (by omega) (by omega) (by omega) (by omega)]; exact w3, by rw [hT _ (by omega)]; exact w4, w5.of2 (hT _ (by omega)) (hT _ (by omega)) (hR' _ (by omega) (by omega) (by omega) (by omega) (by omega)), fun i hi => ⟨by rw [hR' _ (by omega) (by omega) (by omega) (by omega) (by omega)]; exact (w6 i hi).1, (w6 i hi).2.of2 (hT _ (by omega)) (hT _ (by omega)) (hR' _ (by omega) (by omega) (by omega) (by omega) (by omega))⟩⟩, ?_⟩
  refine ⟨by rw [hT _ (by omega)]; exact s1, by rw [hR' _ (by omega) (by omega) (by omega) (by omega) (by omega)]; exact s2, by rw [hR' _ (by omega) (by omega) (by omega) (by omega) (by omega)]; exact s3, by rw [hR' _ (by omega) (by omega) (by omega) (by omega) (by omega)]; exact s4, by rw [hR' _ (by omega) (by omega) (by omega) (by omega) (by omega)]; exact s5, by rw [hT _ (by omega)]; exact s6, by rw [hR' _ (by omega) (by omega) (by omega) (by omega) (by omega)]; exact s7, by rw [hR' _ (by omega) (by omega) (by omega) (by omega) (by omega)]; exact s8, by rw [hT _ (by omega)]; exact s9, by rw [hT _ (by omega)]; exact s10, ⟨by rw [hT _ (by omega)]; exact n1, by rw [hR' _ (by omega) (by omega) (by omega) (by omega) (by omega)]; exact n2, by rw [hT _ (by omega)]; exact n3, fun i hi => ⟨by rw [hR' _ (by omega) (by omega) (by omega) (by omega) (by omega)]; exact (n4 i hi).1, (n4 i hi).2.of2 (hT _ (by omega)) (hT _ (by omega)) (hR' _ (by omega) (by omega) (by omega) (by omega) (by omega))⟩⟩, by rw [hT _ (by omega)]; exact s12, by rw [hR' _ (by omega) (by omega) (by omega) (by omega) (by omega)]; exact s13, by rw [hT _ (by omega)]; exact s14⟩
theorem w_stQ {σ : hp} {t c n a k b : Nat} (h : σ.1 a = some (.inr (t, n))) (hk : k < n) (hn : n < 2 ^ 31) (hb : σ.1 b = some (.inl c)) : o_stQ σ t c (some a) (nI k) (some b) = some (sR σ (up2 σ.2.2.1 a k (some b))) := by simp [o_stQ, w_a h, w_ix hk hn, o_is, hb]
theorem exec_k {A : aA} {t e w : Nat} (he : A.1 t 14 = nI e) (he2 : e < 256) (hw : A.1 t 10 = nI w) (hw2 : w ≤ 100) : ∃ g : Nat → Int32, aexec aadd A t = aadd (jm A t g) t (mk1 67) ∧ g (5000 + e) = A.1 t 9 ∧ g (6000 + e) = nI w ∧ g 14 = nI (e + 1) ∧ g 8 = 0 ∧ (∀ i, i < w → g (10000 + 100 * e + i) = A.1 t (100 + i)) ∧ ∀ k, k ≠ 5000 + e → k ≠ 6000 + e → k ≠ 14 → k ≠ 8 → k < 10000 + 100 * e → g k = A.1 t k := by
  refine ⟨_, rfl, ?_⟩
  rw [he, hw, nI_clamp (show e < 2 ^ 31 by omega), nI_clamp (show w < 2 ^ 31 by omega), nI_1]
  refine ⟨by rw [if_pos rfl], by rw [if_neg (by omega), if_pos rfl], by rw [if_neg (by omega), if_neg (by omega), if_pos rfl], by rw [if_neg (by omega), if_neg (by omega), if_neg (by decide), if_pos rfl], fun i hi => ?_, fun k h1 h2 h3 h4 h5 => ?_⟩
  · rw [if_neg (by omega), if_neg (by omega), if_neg (by omega), if_neg (by omega), if_pos (by omega), show 10000 + 100 * e + i - (10000 + 100 * e) = i by omega]
  · rw [if_neg h1, if_neg h2, if_neg h3, if_neg h4, if_neg (by omega)]
theorem C_whole {σ : hp} {o t e w B C : Nat} {A : aA} (h : RQ σ o t A B C) (ht : t < 2) (he : A.1 t 14 = nI e) (he2 : ¬ A.1 t 8 = 0 → A.1 t 11 = A.1 t 10 → e < 256) (hw : A.1 t 10 = nI w) (hw2 : w ≤ 100) : ∃ σ', S_X5_executeWhatIsWhole σ (o + 59 + 48 * t) = some σ' ∧ RQ σ' o t (if ¬ A.1 t 8 = 0 ∧ A.1 t 11 = A.1 t 10 then aexec aadd A t else A) B C ∧ keepF σ σ' o t := by
  obtain ⟨s1, s2, s3, s4, s5, s6, s7, s8, s9, s10, s11, s12, s13, s14⟩ := (h.1.2 t ht).2
  obtain ⟨i1, i2, i3, i4, i5⟩ := h.2.2.2.2.2.1
  have hw8 : S_X1_isWhole σ (o + 59 + 48 * t + 46) = some (if ¬ A.1 t 8 = 0 ∧ A.1 t 11 = A.1 t 10 then 1 else 0) := by
    simp only [S_X1_isWhole, S_X1_isWhole_22, S_X1_isWhole_23, w_z0, w_z1, w_gI s12, Option.bind_some, i1, i3, i4]
    by_cases c8 : A.1 t 8 = 0
    · rw [if_pos c8, if_neg (fun q => q.1 c8)]
    · rw [if_neg c8]
      by_cases c11 : A.1 t 11 = A.1 t 10
      · rw [if_pos c11, if_pos ⟨c8, c11⟩]
      · rw [if_neg c11, if_neg (fun q => c11 q.2)]
  simp only [S_X5_executeWhatIsWhole, S_X5_executeWhatIsWhole_41, w_gR s1, s5, s3, Option.bind_some, w_rcv s12, hw8]
  by_cases c : ¬ A.1 t 8 = 0 ∧ A.1 t 11 = A.1 t 10
  · rw [if_pos c, if_pos c, if_neg (show ¬ (1 : Int32) = 0 by decide)]
    have hlt := he2 c.1 c.2
    obtain ⟨r1, r2, r3⟩ := h.2.1
    have sH : ∀ a, a < σ.2.2.2.1 → (hp_new σ (.inl 2) 2).1 a = σ.1 a ∧ (hp_new σ (.inl 2) 2).2.1 a = σ.2.1 a ∧ (hp_new σ (.inl 2) 2).2.2.1 a = σ.2.2.1 a := fun a ha => ⟨va_up_ne _ _ (by omega), va_up_ne _ _ (by omega), va_up_ne _ _ (by omega)⟩
    have n12 : (hp_new σ (.inl 2) 2).1 (o + 59 + 48 * t + 46) = some (.inl 1) := by rw [(sH _ (by omega)).1]; exact s12
    have nN : (hp_new σ (.inl 2) 2).1 σ.2.2.2.1 = some (.inl 2) := va_up_self _ _ _
    obtain ⟨σ1, e1, m1, m2, m3, m4, m5, m6, m7, m8⟩ := c_initJob (num := A.1 t 9) s14 (by omega) hw2
    simp only [S_X1_job, S_X1_job_3, S_X1_job_19, o_nw, Option.bind_some, w_gI n12, w_gR n12, (sH (o + 59 + 48 * t + 46) (by omega)).2.1, (sH (o + 59 + 48 * t + 46) (by omega)).2.2, i2, s13, i3, hw, w_rcv nN, e1]
    generalize hja : σ.2.2.2.1 = ja at *
    -- addDone
    have z6 : σ1.1 (o + 59 + 48 * t + 1) = some (.inl 0) := by rw [(m8 _ (by omega)).1]; exact s6
    have z10 : σ1.1 (o + 59 + 48 * t + 3) = some (.inr (5, 256)) := by rw [(m8 _ (by omega)).1]; exact s10
    obtain ⟨d1, d2, d3, d4, d5, d6⟩ := h.2.2.2.2.2.2
    have y4 : σ1.2.1 (o + 59 + 48 * t + 1) 4 = nI e := by rw [(m8 _ (by omega)).2.1, d3]; exact he
    have y3 : σ1.2.2.1 (o + 59 + 48 * t + 1) 3 = some (o + 59 + 48 * t + 3) := by rw [(m8 _ (by omega)).2.2]; exact s8
    generalize hσ2 : sR σ1 (up2 σ1.2.2.1 (o + 59 + 48 * t + 3) e (some ja)) = σ2
    have x6 : σ2.1 (o + 59 + 48 * t + 1) = some (.inl 0) := by rw [← hσ2]; exact z6
    have x4 : σ2.2.1 (o + 59 + 48 * t + 1) = σ1.2.1 (o + 59 + 48 * t + 1) := by rw [← hσ2]; rfl
    generalize hσ3 : st1 σ2 (o + 59 + 48 * t + 1) (upd (σ1.2.1 (o + 59 + 48 * t + 1)) 4 (nI (e + 1))) = σ3
    have eD : S_X0_addDone σ1 (o + 59 + 48 * t + 1) (some ja) = some σ3 := by
      simp only [S_X0_addDone, S_X0_addDone_30, w_gI z6, Option.bind_some, y4]
      rw [if_neg (show ¬ (256 : Int32) ≤ nI e from nI_ge (b := 256) hlt (by decide))]
      simp only [w_gR z6, y3, Option.bind_some, w_stQ z10 hlt (by decide) m3, hσ2, w_gI x6, x4, y4, w_pI x6, nI_1, hσ3]
    have z1 : σ3.1 (o + 59 + 48 * t) = some (.inl 5) := by rw [← hσ3, ← hσ2]; show σ1.1 _ = _; rw [(m8 _ (by omega)).1]; exact s1
    have zR : ∀ a, a < ja → a ≠ o + 59 + 48 * t + 3 → σ3.2.2.1 a = σ.2.2.1 a := fun a a1 a2 => by
      rw [← hσ3, ← hσ2]
      show up2 σ1.2.2.1 _ _ _ a = _
      funext k
      rw [show up2 σ1.2.2.1 (o + 59 + 48 * t + 3) e (some ja) a k = σ1.2.2.1 a k by simp [up2, a2], (m8 a a1).2.2]
    have zT : ∀ a, σ3.1 a = σ1.1 a := fun a => by rw [← hσ3, ← hσ2]; rfl
    have zI : ∀ a, a ≠ o + 59 + 48 * t + 1 → σ3.2.1 a = σ1.2.1 a := fun a a1 => by rw [← hσ3, st1_ne a1, ← hσ2]; rfl
    have z5 : σ3.2.2.1 (o + 59 + 48 * t) 4 = some (o + 59 + 48 * t + 46) := by rw [zR _ (by omega) (by omega)]; exact s5
    have z12 : σ3.1 (o + 59 + 48 * t + 46) = some (.inl 1) := by rw [zT, (m8 _ (by omega)).1]; exact s12
    generalize hσ4 : st1 σ3 (o + 59 + 48 * t + 46) (upd (σ3.2.1 (o + 59 + 48 * t + 46)) 1 0) = σ4
    have v1 : σ4.1 (o + 59 + 48 * t) = some (.inl 5) := by rw [← hσ4]; exact z1
    have v4 : σ4.2.2.1 (o + 59 + 48 * t) 3 = some (o + 59 + 48 * t + 4) := by rw [← hσ4]; show σ3.2.2.1 _ _ = _; rw [zR _ (by omega) (by omega)]; exact s4
    have v11 : σ4.1 (o + 59 + 48 * t + 4) = some (.inl 6) := by rw [← hσ4]; show σ3.1 _ = _; rw [zT, (m8 _ (by omega)).1]; exact s11.1
    obtain ⟨g, g0, g5, g6, g14, g8, gF, gE⟩ := exec_k he hlt hw hw2
    have uT : ∀ a, a < ja → σ4.1 a = σ.1 a := fun a ha => by rw [← hσ4]; show σ3.1 a = _; rw [zT, (m8 a ha).1]
    have uR : ∀ a, a < ja → a ≠ o + 59 + 48 * t + 3 → σ4.2.2.1 a = σ.2.2.1 a := fun a a1 a2 => by rw [← hσ4]; exact zR a a1 a2
    have uI : ∀ a, a < ja → a ≠ o + 59 + 48 * t + 1 → a ≠ o + 59 + 48 * t + 46 → σ4.2.1 a = σ.2.1 a := fun a a1 a2 a3 => by rw [← hσ4, st1_ne a3, zI a a2, (m8 a a1).2.1]
    have uN : σ4.2.2.2.1 = ja + 2 := by rw [← hσ4, ← hσ3, ← hσ2]; exact m1
    have uM : σ4.2.2.2.2 = σ.2.2.2.2 + 2 + w := by rw [← hσ4, ← hσ3, ← hσ2]; exact m2
    have kJ : keepJ σ σ4 o := ⟨by rw [uN, hja]; omega, fun a a1 a2 => ⟨uT a (by omega), uI a (by omega) (by omega) (by omega), uR a (by omega) (by omega)⟩⟩
    have hR4 : RQ σ4 o t (jm A t g) B C := by
      unfold RQ
      rw [show (jm A t g).1 t = g from va_up_self _ _ _]
      refine ⟨h.1.of2 (fun a ha => uT a (by omega)) (fun a ha hn => uR a (by omega) (hn t ht).2), ⟨by rw [uN]; omega, ?_, ?_⟩, ?_, ?_, ?_, ?_, ?_⟩
      · rw [uN]
        unfold cN at r2 ⊢
        rw [g14, nI_clamp (by omega), gE 12 (by omega) (by omega) (by omega) (by omega) (by omega)]
        rw [he, nI_clamp (by omega)] at r2
        omega
      · rw [uM]
        unfold cN at r3 ⊢
        rw [g14, nI_clamp (by omega), gE 12 (by omega) (by omega) (by omega) (by omega) (by omega)]
        rw [he, nI_clamp (by omega)] at r3
        omega
      · exact h.2.2.1.cg (fun c _ _ => uI c (by omega) (by omega) (by omega))
      · rw [gE 5 (by omega) (by omega) (by omega) (by omega) (by omega)]
        exact h.2.2.2.1.cg (fun c _ _ => uI c (by omega) (by omega) (by omega))
      · exact h.2.2.2.2.1.cg (uI _ (by omega) (by omega) (by omega)) (fun k _ _ => gE k (by omega) (by omega) (by omega) (by omega) (by omega)) (fun _ q => Or.inl q)
      · have row46 : σ4.2.1 (o + 59 + 48 * t + 46) = upd (σ.2.1 (o + 59 + 48 * t + 46)) 1 0 := by rw [← hσ4, st1_self, zI _ (by omega), (m8 _ (by omega)).2.1]
        refine ⟨by rw [row46, u_s, g8], ?_, ?_, ?_, fun i hi => ?_⟩
        · rw [row46, u_n (by decide), gE 9 (by omega) (by omega) (by omega) (by omega) (by omega)]; exact i2
        · rw [row46, u_n (by decide), gE 10 (by omega) (by omega) (by omega) (by omega) (by omega)]; exact i3
        · rw [row46, u_n (by decide), gE 11 (by omega) (by omega) (by omega) (by omega) (by omega)]; exact i4
        · rw [uI _ (by omega) (by omega) (by omega), gE _ (by omega) (by omega) (by omega) (by omega) (by omega)]; exact i5 i hi
      · have row1 : σ4.2.1 (o + 59 + 48 * t + 1) = upd (σ.2.1 (o + 59 + 48 * t + 1)) 4 (nI (e + 1)) := by rw [← hσ4, st1_ne (by omega), ← hσ3, st1_self, (m8 _ (by omega)).2.1]
        refine ⟨?_, ?_, ?_, ?_, fun j hj hl => ?_, fun j hj hl => ?_⟩
        · rw [row1, u_n (by decide), gE 12 (by omega) (by omega) (by omega) (by omega) (by omega), gE 13 (by omega) (by omega) (by omega) (by omega) (by omega)]; exact d1
        · rw [row1, u_n (by decide), gE 12 (by omega) (by omega) (by omega) (by omega) (by omega)]; exact d2
        · rw [row1, u_s, g14]
        · rw [row1, u_n (by decide), gE 1 (by omega) (by omega) (by omega) (by omega) (by omega)]; exact d4
        · rw [gE 12 (by omega) (by omega) (by omega) (by omega) (by omega)] at hl
          obtain ⟨a, l, a1, a2, a3⟩ := d5 j hj hl
          have l100 := a3.2.2.1
          exact ⟨a, l, by rw [uR _ (by omega) (by omega)]; exact a1, by rw [gE _ (by omega) (by omega) (by omega) (by omega) (by omega)]; exact a2, a3.cg kJ (fun i hi => gE _ (by omega) (by omega) (by omega) (by omega) (by omega))⟩
        · have rowQ : σ4.2.2.1 (o + 59 + 48 * t + 3) j = if j = e then some ja else σ.2.2.1 (o + 59 + 48 * t + 3) j := by
            rw [← hσ4, ← hσ3, ← hσ2]
            show up2 σ1.2.2.1 _ _ _ _ j = _
            unfold up2
            by_cases hje : j = e
            · rw [if_pos ⟨rfl, hje⟩, if_pos hje]
            · rw [if_neg (fun q => hje q.2), if_neg hje, (m8 _ (by omega)).2.2]
          rw [g14, nIlt (by omega) (by omega)] at hl
          by_cases hje : j = e
          · subst hje
            refine ⟨ja, w, by rw [rowQ, if_pos rfl], g6, by omega, by rw [uN]; omega, hw2, ?_, ?_, ?_, ?_, fun i hi => ?_⟩
            · rw [← hσ4]; show σ3.1 ja = _; rw [zT]; exact m3
            · rw [← hσ4, st1_ne (by omega), zI _ (by omega), m6, g5]
            · rw [← hσ4, ← hσ3, ← hσ2]
              show up2 σ1.2.2.1 _ _ _ ja 1 = _
              unfold up2
              rw [if_neg (by omega)]
              exact m5
            · rw [← hσ4]; show σ3.1 (ja + 1) = _; rw [zT]; exact m4
            · rw [← hσ4, st1_ne (by omega), zI _ (by omega), m7 i hi, i5 i (by omega)]
              exact (gF i hi).symm
          · obtain ⟨a, l, a1, a2, a3⟩ := d6 j hj (by rw [he]; exact nI_lt (by omega) (by omega))
            have l100 := a3.2.2.1
            refine ⟨a, l, by rw [rowQ, if_neg hje]; exact a1, by rw [gE _ (by omega) (by omega) (by omega) (by omega) (by omega)]; exact a2, ?_⟩
            rw [gE (5000 + j) (by omega) (by omega) (by omega) (by omega) (by omega)]
            exact a3.cg kJ (fun i hi => gE _ (by omega) (by omega) (by omega) (by omega) (by omega))
    obtain ⟨a, σ5, e5, hP, k5, -⟩ := C_nadd (letter := 67) hR4 ht
    simp only [S_X5_executeWhatIsWhole_21, S_X5_executeWhatIsWhole_41, w_rcv z6, Option.bind_some, eD, w_gR z1, z5, w_rcv z12, S_X1_forget, w_z0, w_pI z12, hσ4, w_gR v1, v4, w_rcv v11, e5]
    refine ⟨σ5, rfl, ?_, keepF.tr ⟨by rw [uN, hja]; omega, fun a a1 a2 a3 => ⟨uT a (by omega), uI a (by omega) (by omega) (by omega), uR a (by omega) (by omega)⟩⟩ k5⟩
    rw [g0]
    exact hP.done
  · rw [if_neg c, if_neg c, if_pos (show (0 : Int32) = 0 from rfl)]
    exact ⟨σ, rfl, h, keepF.rf⟩
