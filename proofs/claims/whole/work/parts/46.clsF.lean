/-! The class: what is done with a message. -/
theorem C_drop {σ : hp} {o t B C : Nat} {A : aA} (h : RQ σ o t A B C) (ht : t < 2) (hD : okDk (A.1 t)) : (A.1 t 13 = 0 ∧ S_X0_dropFirstJob σ (o + 59 + 48 * t + 1) = some (0, σ)) ∨ (¬ A.1 t 13 = 0 ∧ ∃ σ', S_X0_dropFirstJob σ (o + 59 + 48 * t + 1) = some (1, σ') ∧ RQ σ' o t (aJ A t 13 (A.1 t 13 - 1)) B C ∧ keepF σ σ' o t ∧ σ'.1 = σ.1) := by
  obtain ⟨s1, s2, s3, s4, s5, s6, s7, s8, s9, s10, s11, s12, s13, s14⟩ := (h.1.2 t ht).2
  obtain ⟨u, v, hu, hv, hvu, hu2, -⟩ := hD
  obtain ⟨h1, h2, h3, h4, h5, h6, h7⟩ := h
  obtain ⟨d1, d2, d3, d4, d5, d6⟩ := h7
  have d1' := d1
  rw [hu, hv, pk_sub hvu] at d1'
  have d2' := d2
  rw [hu] at d2'
  simp only [S_X0_dropFirstJob, w_gI s6, Option.bind_some, d1', d2']
  rcases Nat.eq_zero_or_pos v with q | q
  · left
    rw [if_neg (show ¬ nI (u - v) < nI u from nI_nlt (by omega) (by omega))]
    exact ⟨by rw [hv, q]; rfl, rfl⟩
  · right
    rw [if_pos (show nI (u - v) < nI u from nI_lt (by omega) (by omega))]
    simp only [w_pI s6, Option.bind_some]
    generalize hσ' : st1 σ (o + 59 + 48 * t + 1) (upd (σ.2.1 (o + 59 + 48 * t + 1)) 1 (nI (u - v) + 1)) = σ'
    have k : keepI σ σ' (o + 59 + 48 * t + 1) (o + 59 + 48 * t + 2) := by rw [← hσ']; exact keepI.st (by omega)
    have row : σ'.2.1 (o + 59 + 48 * t + 1) = upd (σ.2.1 (o + 59 + 48 * t + 1)) 1 (nI (u - v) + 1) := by rw [← hσ', st1_self]
    refine ⟨by rw [hv]; exact nI_ne0 q (by omega), σ', rfl, ?_, k.f (Or.inr (by omega)), k.1⟩
    have EJ : ∀ k, k ≠ 13 → (aJ A t 13 (A.1 t 13 - 1)).1 t k = A.1 t k := fun k hk => aJ_nk hk
    have kJ : keepJ σ σ' o := k.j (by omega)
    refine ⟨h1.of k.1 k.2.1, h2.cg k.2.1 (EJ _ (by decide)) (EJ _ (by decide)), h3.cg (fun c _ _ => k.2.2 c (by omega)), ?_, h5.cg (k.2.2 _ (by omega)) (fun k _ _ => EJ k (by omega)) (fun _ q => Or.inl q), h6.cg (k.2.2 _ (by omega)) (k.2.2 _ (by omega)) (fun k _ => EJ k (by omega)), ?_⟩
    · rw [EJ 5 (by decide)]
      exact h4.cg (fun c _ _ => k.2.2 c (by omega))
    · refine ⟨?_, ?_, ?_, ?_, fun j hj hl => ?_, fun j hj hl => ?_⟩
      · rw [row, u_s, EJ 12 (by decide), aJ_at, hu, hv, show nI v - 1 = nI (v - 1) from pk_sub (a := v) (b := 1) (by omega), pk_sub (by omega), nI_1]
        congr 1
        omega
      · rw [row, u_n (by decide), EJ 12 (by decide)]; exact d2
      · rw [row, u_n (by decide), EJ 14 (by decide)]; exact d3
      · rw [row, u_n (by decide), EJ 1 (by decide)]; exact d4
      · rw [EJ 12 (by decide)] at hl
        obtain ⟨a, l, a1, a2, a3⟩ := d5 j hj hl
        exact ⟨a, l, by rw [k.2.1]; exact a1, by rw [EJ _ (by omega)]; exact a2, a3.cg kJ (fun i _ => EJ _ (by omega))⟩
      · rw [EJ 14 (by decide)] at hl
        obtain ⟨a, l, a1, a2, a3⟩ := d6 j hj hl
        refine ⟨a, l, by rw [k.2.1]; exact a1, by rw [EJ _ (by omega)]; exact a2, ?_⟩
        rw [EJ (5000 + j) (by omega)]
        exact a3.cg kJ (fun i _ => EJ _ (by omega))
theorem C_m64 {σ : hp} {o t n B C : Nat} {A : aA} (h : RQ σ o t A B C) (ht : t < 2) (hJ : okJ n (A.1 t)) : ∃ σ', S_X5_doAsMaster_64 σ (o + 59 + 48 * t) = some σ' ∧ RQ σ' o t (if A.1 t 13 = 0 then A else agoOn aadd (aJ A t 13 (A.1 t 13 - 1)) t) B C ∧ keepF σ σ' o t := by
  obtain ⟨s1, s2, s3, s4, s5, s6, s7, s8, s9, s10, s11, s12, s13, s14⟩ := (h.1.2 t ht).2
  simp only [S_X5_doAsMaster_64, S_X5_doAsMaster_116, w_gR s1, s3, Option.bind_some, w_rcv s6]
  rcases C_drop h ht hJ.2.2.2.2.2.2.1 with ⟨v0, e⟩ | ⟨v0, σ1, e, hR, k, kT⟩
  · rw [e, if_pos v0]
    simp only [Option.bind_some]
    rw [if_pos trivial]
    exact ⟨σ, rfl, h, keepF.rf⟩
  · rw [e, if_neg v0]
    simp only [Option.bind_some]
    rw [if_neg (show ¬ (1 : Int32) = 0 by decide)]
    obtain ⟨σ2, e2, hR2, k2⟩ := C_goOn hR ht (by show okDk (va_up A.1 t _ t); rw [va_up_self]; exact (hJ.aj13 v0).2.2.2.2.2.2.1)
    have s1' : σ1.1 (o + 59 + 48 * t) = some (.inl 5) := by rw [kT]; exact s1
    simp only [w_rcv s1', Option.bind_some, e2]
    exact ⟨σ2, rfl, hR2, k.tr k2⟩
/-- the state is written: open before, open after -/
theorem C_state {σ : hp} {o t B C : Nat} {A : aA} {x : Int32} (h : RQ σ o t A B C) (ht : t < 2) (hx : x = 2 ∨ x = 3) (ho : isOp (A.1 t)) : RQ (st1 σ (o + 59 + 48 * t) (upd (σ.2.1 (o + 59 + 48 * t)) 5 x)) o t (aJ A t 0 x) B C := by
  have EJ : ∀ k, k ≠ 0 → (aJ A t 0 x).1 t k = A.1 t k := fun k hk => aJ_nk hk
  refine h.site ht (keepI.st (by omega)) ?_ (fun k hk => EJ k (by omega)) rfl rfl rfl
  obtain ⟨q1, q2, q3, q4, q5, q6, q7, q8, q9, q10⟩ := h.2.2.2.2.1
  unfold siteQ isOp
  rw [st1_self, EJ 1 (by decide), EJ 2 (by decide), EJ 3 (by decide), EJ 4 (by decide), EJ 6 (by decide), EJ 7 (by decide), aJ_at, u_s, u_n (by decide), u_n (by decide), u_n (by decide), u_n (by decide), u_n (by decide), u_n (by decide), u_n (by decide), u_n (by decide)]
  refine ⟨q1, rfl, fun q => ?_, fun _ => q4 ho, q5, q6, fun _ => q7 (Or.inr ho), q8, q9, fun _ => q10 ho⟩
  rcases hx with r | r <;> rw [r] at q <;> exact absurd q (by decide)
theorem forget_2 {A : aA} {s : Nat} {st : Int32} : aJ (aforget A s st) s 2 (A.1 s 2) = aforget A s st := by
  have := aJ_same (A := aforget A s st) (s := s) (k := 2)
  rw [forget_k (by omega)] at this
  exact this
theorem C_master {σ : hp} {o t p n B C : Nat} {A : aA} {pk : Pkt} (h : RQ σ o t A B C) (ht : t < 2) (hp : pkO σ o t p pk) (h38 : pk.1 = 38) (hJ : okJ n (A.1 t)) (h0 : A.1 t 0 = 2) : ∃ σ', S_X5_doAsMaster σ (o + 59 + 48 * t) (some p) = some σ' ∧ RQ σ' o t (adone aadd A t (fun i => pk.2 (6 + i))) B C ∧ keepF σ σ' o t := by
  obtain ⟨s1, s2, s3, s4, s5, s6, s7, s8, s9, s10, s11, s12, s13, s14⟩ := (h.1.2 t ht).2
  obtain ⟨q1, ⟨q2, q3⟩, q4, q5⟩ := hp
  have e6 : σ.2.1 (p + 1) 6 = pk.2 6 := q3 6 (by omega)
  have e7 : S_X4_messageByte σ p 0 = some (pk.2 7) := by
    show S_X4_messageByte σ p (nI 0) = _
    rw [p_mbyte q1 (by decide), q3 _ (by omega)]
  generalize hmsg : (fun i => pk.2 (6 + i)) = msg
  have m0 : pk.2 6 = msg 0 := by rw [← hmsg]
  have m1 : pk.2 7 = msg 1 := by rw [← hmsg]
  simp only [S_X5_doAsMaster, w_rcv q1.1, Option.bind_some, p_mlen q1, e6, e7, m0, m1]
  unfold adone
  rw [if_pos h0]
  by_cases c0 : msg 0 = 1
  · rw [if_pos c0, if_pos c0]
    by_cases c1 : msg 1 = 67
    · rw [if_pos c1, if_neg (show ¬ msg 1 = 72 by rw [c1]; decide), if_neg (show ¬ msg 1 = 84 by rw [c1]; decide), if_pos (show msg 1 = 78 ∨ msg 1 = 67 from Or.inr c1)]
      exact C_m64 h ht hJ
    · rw [if_neg c1]
      by_cases c2 : msg 1 = 72
      · rw [if_pos c2, if_pos c2]
        obtain ⟨p', σ1, e1, k1, hp1, fC, -⟩ := C_add h ht
        obtain ⟨σ2, e2, hR2, k2, kI2⟩ := fC 1 0
        obtain ⟨σ3, e3, hR3, k3, -, -⟩ := C_begin' (st := 0) (x := (actl A t 1 0).1 t 2) hR2.p ht (by decide) (fun q => absurd q (by decide))
        have s1' : σ2.1 (o + 59 + 48 * t) = some (.inl 5) := by rw [kI2.1]; exact s1
        simp only [S_X5_doAsMaster_116, w_gR s1, s2, w_rcv (h.1.2 t ht).1.1, Option.bind_some, e1, w_rcv hp1, e2, w_rcv s1', e3]
        refine ⟨σ3, rfl, ?_, k2.tr k3⟩
        rw [forget_2] at hR3
        exact hR3
      · rw [if_neg c2, if_neg c2]
        by_cases c3 : msg 1 = 78
        · rw [if_pos c3, if_neg (show ¬ msg 1 = 84 by rw [c3]; decide), if_pos (show msg 1 = 78 ∨ msg 1 = 67 from Or.inl c3)]
          exact C_m64 h ht hJ
        · rw [if_neg c3]
          by_cases c4 : msg 1 = 84
          · rw [if_pos c4, if_pos c4]
            simp only [S_X5_doAsMaster_116, w_pI s1, Option.bind_some]
            exact ⟨_, rfl, C_state h ht (Or.inr rfl) (Or.inl h0), (keepI.st (lo := o + 59 + 48 * t) (hi := o + 59 + 48 * t + 1) (by omega)).f (Or.inr (by omega))⟩
          · rw [if_neg c4, if_neg c4, if_neg (show ¬ (msg 1 = 78 ∨ msg 1 = 67) from fun q => q.elim c3 c1)]
            by_cases c5 : msg 1 = 89
            · rw [if_pos c5, if_pos c5]
              obtain ⟨σ1, e1, hR1, k1⟩ := C_addFile h ht hJ.2.2.2.2.2.2.1
              simp only [S_X5_doAsMaster_116, w_rcv s1, Option.bind_some, e1]
              exact ⟨σ1, rfl, hR1, k1⟩
            · rw [if_neg c5, if_neg c5, ite_self]
              exact ⟨σ, rfl, h, keepF.rf⟩
  · rw [if_neg c0, if_neg c0]
    exact ⟨σ, rfl, h, keepF.rf⟩
/-- nothing is whole -/
theorem C_whole0 {σ : hp} {o t n B C : Nat} {A D : aA} (h : RQ σ o t D B C) (ht : t < 2) (hJ : okJ n (A.1 t)) (e : ∀ k, k = 8 ∨ k = 10 ∨ k = 11 ∨ k = 14 → D.1 t k = A.1 t k) : ∃ σ', S_X5_executeWhatIsWhole σ (o + 59 + 48 * t) = some σ' ∧ RQ σ' o t D B C ∧ keepF σ σ' o t := by
  obtain ⟨-, -, -, -, -, ⟨-, -, hh, w, t1, t2, t3, t4, t5⟩, -, ee, e1, e2, -⟩ := hJ
  have no : ¬ (¬ D.1 t 8 = 0 ∧ D.1 t 11 = D.1 t 10) := fun q => by
    rw [e 8 (by omega), e 11 (by omega), e 10 (by omega), t1, t2] at q
    have a := t5 q.1
    have b := (nI_eq (by omega) (by omega)).mp q.2
    omega
  obtain ⟨σ1, e3, hR1, k1⟩ := C_whole h ht (show D.1 t 14 = nI ee by rw [e 14 (by omega)]; exact e2) (fun a b => absurd ⟨a, b⟩ no) (show D.1 t 10 = nI w by rw [e 10 (by omega)]; exact t2) t4
  rw [if_neg no] at hR1
  exact ⟨σ1, e3, hR1, k1⟩
theorem take_0 {A : aA} {t h w : Nat} {msg : Msg} (hT : okT A t h w) (hn : msg 0 = nI 1) : atake A t msg = A := by
  obtain ⟨t1, t2, t3, t4⟩ := hT
  rw [atake_eq t1 t2 hn (by omega), show (if 1 - 1 ≤ w - h then 1 - 1 else w - h) = 0 by split <;> omega]
  have e : aB A t (100 + h) 0 (fun j => msg (2 + j)) = A := by
    unfold aB
    rw [bw_0]
    have q := aJ_same (A := A) (s := t) (k := 0)
    unfold aJ at q
    rw [upd_id rfl] at q
    exact q
  rw [e, Nat.add_zero h, ← t1]
  exact aJ_same
theorem take_k {A : aA} {t h w z k : Nat} {msg : Msg} (hT : okT A t h w) (hn : msg 0 = nI z) (hz : z ≤ 31) (hk : k ≠ 11) (hk2 : k < 100 ∨ 200 ≤ k) : (atake A t msg).1 t k = A.1 t k := by
  obtain ⟨t1, t2, t3, t4⟩ := hT
  rw [atake_eq t1 t2 hn (by omega), aJ_nk hk, aB_o (by split <;> omega)]
theorem C_slave {σ : hp} {o t p n z B C : Nat} {A : aA} {pk : Pkt} (h : RQ σ o t A B C) (ht : t < 2) (hp : pkO σ o t p pk) (h38 : pk.1 = 38) (hb : ∀ i, i < 38 → okB (pk.2 i)) (hz : pk.2 6 = nI z) (hz31 : 1 ≤ z ∧ z ≤ 31) (hJ : okJ n (A.1 t)) (h0 : A.1 t 0 = 3) : ∃ σ1 σ2, S_X5_doAsSlave σ (o + 59 + 48 * t) (some p) = some σ1 ∧ σ1.1 (o + 59 + 48 * t) = some (.inl 5) ∧ S_X5_executeWhatIsWhole σ1 (o + 59 + 48 * t) = some σ2 ∧ RQ σ2 o t (adone aadd A t (fun i => pk.2 (6 + i))) B C ∧ keepF σ σ2 o t := by
  obtain ⟨s1, s2, s3, s4, s5, s6, s7, s8, s9, s10, s11, s12, s13, s14⟩ := (h.1.2 t ht).2
  have hpk := hp
  obtain ⟨q1, ⟨q2, q3⟩, q4, q5⟩ := hp
  have e6 : σ.2.1 (p + 1) 6 = pk.2 6 := q3 6 (by omega)
  have e7 : S_X4_messageByte σ p 0 = some (pk.2 7) := by
    show S_X4_messageByte σ p (nI 0) = _
    rw [p_mbyte q1 (by decide), q3 _ (by omega)]
  have e8 : S_X4_messageByte σ p 1 = some (pk.2 8) := by
    show S_X4_messageByte σ p (nI 1) = _
    rw [p_mbyte q1 (by decide), q3 _ (by omega)]
  have e9 : S_X4_messageByte σ p 2 = some (pk.2 9) := by
    show S_X4_messageByte σ p (nI 2) = _
    rw [p_mbyte q1 (by decide), q3 _ (by omega)]
  have hJ' := hJ
  obtain ⟨-, -, -, -, -, ⟨tk8, tk9, hh, w, t1, t2, t3, t4, t5⟩, hD, hE⟩ := hJ'
  obtain ⟨e, x1, x2, -, -, x5⟩ := id hE
  have hT : okT A t hh w := ⟨t1, t2, t3, t4⟩
  generalize hmsg : (fun i => pk.2 (6 + i)) = msg
  have m0 : pk.2 6 = msg 0 := by rw [← hmsg]
  have m1 : pk.2 7 = msg 1 := by rw [← hmsg]
  have m2 : pk.2 8 = msg 2 := by rw [← hmsg]
  have m3 : pk.2 9 = msg 3 := by rw [← hmsg]
  have n0 : ¬ A.1 t 0 = 2 := by rw [h0]; decide
  have hB2 : okB (msg 2) := by rw [← m2]; exact hb 8 (by decide)
  obtain ⟨l, hl256, hl⟩ : okB (msg 3) := by rw [← m3]; exact hb 9 (by decide)
  simp only [S_X5_doAsSlave, w_rcv q1.1, Option.bind_some, p_mlen q1, e6, e7, e8, e9, m0, m1, m2, m3]
  rw [m0] at hz
  unfold adone
  rw [if_neg n0]
  by_cases cS : msg 1 = 83 ∧ msg 0 = 3
  · rw [if_pos cS.1, if_pos cS.2, if_pos cS]
    obtain ⟨σ1, e1, hR1, k1⟩ := C_offer (num := msg 2) (len := msg 3) h ht hE
    simp only [S_X5_doAsSlave_119, w_rcv s1, Option.bind_some, e1]
    refine ⟨σ1, ?_⟩
    by_cases c100 : msg 3 ≤ 100
    · rw [if_pos c100] at hR1 ⊢
      unfold aoffer
      by_cases cH : aHas A t (msg 2) = true
      · rw [if_pos cH] at hR1 ⊢
        obtain ⟨σ2, e2, hR2, k2⟩ := C_whole0 hR1 ht hJ (fun k _ => by rw [aadd_J])
        exact ⟨σ2, rfl, (hR1.1.2 t ht).2.1, e2, hR2, k1.tr k2⟩
      · rw [if_neg cH] at hR1 ⊢
        have hl100 : l ≤ 100 := by
          rw [hl] at c100
          exact (nI_leI (a := l) (b := 100) (by omega) (by decide)).mp c100
        have hn : ∀ i, i < e → A.1 t (5000 + i) ≠ msg 2 := aHas_f x2 x1 (Bool.eq_false_iff.mpr cH)
        have E14 : (aJ (aJ (aJ (aJ (aadd A t (mk1 89)) t 8 1) t 9 (msg 2)) t 10 (msg 3)) t 11 0).1 t 14 = nI e := by rw [aJ_nk (by decide), aJ_nk (by decide), aJ_nk (by decide), aJ_nk (by decide), aadd_J]; exact x2
        have E10 : (aJ (aJ (aJ (aJ (aadd A t (mk1 89)) t 8 1) t 9 (msg 2)) t 10 (msg 3)) t 11 0).1 t 10 = nI l := by rw [aJ_nk (by decide), aJ_at]; exact hl
        have E8 : (aJ (aJ (aJ (aJ (aadd A t (mk1 89)) t 8 1) t 9 (msg 2)) t 10 (msg 3)) t 11 0).1 t 8 = 1 := by rw [aJ_nk (by decide), aJ_nk (by decide), aJ_nk (by decide), aJ_at]
        have E11 : (aJ (aJ (aJ (aJ (aadd A t (mk1 89)) t 8 1) t 9 (msg 2)) t 10 (msg 3)) t 11 0).1 t 11 = 0 := aJ_at
        dsimp only
        generalize aJ (aJ (aJ (aJ (aadd A t (mk1 89)) t 8 1) t 9 (msg 2)) t 10 (msg 3)) t 11 0 = D at hR1 E14 E10 E8 E11 ⊢
        obtain ⟨σ2, e2, hR2, k2⟩ := C_whole hR1 ht E14 (fun _ _ => hE.room x2 x1 hB2 hn) E10 hl100
        refine ⟨σ2, rfl, (hR1.1.2 t ht).2.1, e2, ?_, k1.tr k2⟩
        rw [E8, E11, E10] at hR2
        rw [hl]
        by_cases cl : nI l = 0
        · rw [if_pos cl]
          rw [if_pos (show ¬ (1 : Int32) = 0 ∧ 0 = nI l from ⟨by decide, cl.symm⟩)] at hR2
          exact hR2
        · rw [if_neg cl]
          rw [if_neg (show ¬ (¬ (1 : Int32) = 0 ∧ 0 = nI l) from fun q => cl q.2.symm)] at hR2
          exact hR2
    · rw [if_neg c100] at hR1 ⊢
      obtain ⟨σ2, e2, hR2, k2⟩ := C_whole0 hR1 ht hJ (fun k _ => rfl)
      exact ⟨σ2, rfl, (hR1.1.2 t ht).2.1, e2, hR2, k1.tr k2⟩
  · have eS : (if msg 1 = 83 then (if msg 0 = 3 then (o_rcv σ 5 (some (o + 59 + 48 * t))).bind fun b33 => (S_X5_takeOffer σ b33 (msg 2) (msg 3)).bind fun q33 => S_X5_doAsSlave_119 q33 else S_X5_doAsSlave_39 σ (o + 59 + 48 * t) (some p) (msg 0) (msg 1)) else S_X5_doAsSlave_39 σ (o + 59 + 48 * t) (some p) (msg 0) (msg 1)) = S_X5_doAsSlave_39 σ (o + 59 + 48 * t) (some p) (msg 0) (msg 1) := by
      by_cases c1 : msg 1 = 83
      · rw [if_pos c1, if_neg (fun q => cS ⟨c1, q⟩)]
      · rw [if_neg c1]
    rw [eS, if_neg cS]
    simp only [S_X5_doAsSlave_39, S_X5_doAsSlave_119]
    obtain ⟨i1, i2, i3, i4, i5⟩ := h.2.2.2.2.2.1
    by_cases cD : msg 1 = 68
    · rw [if_pos cD, if_neg (show ¬ (msg 1 = 72 ∧ msg 0 = 1) from fun q => by rw [cD] at q; exact absurd q.1 (by decide))]
      simp only [w_gR s1, s5, Option.bind_some, w_gI s12, i1]
      by_cases c8 : A.1 t 8 = 0
      · rw [if_pos c8, if_neg (show ¬ (msg 1 = 68 ∧ 1 < msg 0 ∧ ¬ A.1 t 8 = 0) from fun q => q.2.2 c8)]
        obtain ⟨σ2, e2, hR2, k2⟩ := C_whole0 h ht hJ (fun k _ => rfl)
        exact ⟨σ, σ2, rfl, s1, e2, hR2, k2⟩
      · rw [if_neg c8]
        obtain ⟨σ1, e1, hR1, k1⟩ := C_take (n := z) h ht hpk h38 (by rw [m0]; exact hz) hz31 hT
        rw [hmsg] at hR1
        simp only [w_rcv s12, Option.bind_some, e1]
        refine ⟨σ1, ?_⟩
        rcases Nat.lt_or_ge 1 z with z1 | z1
        · rw [if_pos (show msg 1 = 68 ∧ 1 < msg 0 ∧ ¬ A.1 t 8 = 0 from ⟨cD, by rw [hz]; exact nI_lt (a := 1) z1 (by omega), c8⟩)]
          have E8 : (atake A t msg).1 t 8 = A.1 t 8 := take_k hT hz hz31.2 (by decide) (by omega)
          have E10 : (atake A t msg).1 t 10 = nI w := by rw [take_k hT hz hz31.2 (by decide) (by omega)]; exact t2
          have E14 : (atake A t msg).1 t 14 = nI e := by rw [take_k hT hz hz31.2 (by decide) (by omega)]; exact x2
          generalize atake A t msg = D at hR1 E8 E10 E14 ⊢
          obtain ⟨σ2, e2, hR2, k2⟩ := C_whole hR1 ht E14 (fun _ _ => hE.room x2 x1 tk9 (x5 c8)) E10 t4
          refine ⟨σ2, rfl, (hR1.1.2 t ht).2.1, e2, ?_, k1.tr k2⟩
          by_cases c11 : D.1 t 11 = D.1 t 10
          · rw [if_pos c11]
            rw [if_pos (show ¬ D.1 t 8 = 0 ∧ D.1 t 11 = D.1 t 10 from ⟨by rw [E8]; exact c8, c11⟩)] at hR2
            exact hR2
          · rw [if_neg c11]
            rw [if_neg (show ¬ (¬ D.1 t 8 = 0 ∧ D.1 t 11 = D.1 t 10) from fun q => c11 q.2)] at hR2
            exact hR2
        · obtain rfl : z = 1 := by omega
          rw [if_neg (show ¬ (msg 1 = 68 ∧ 1 < msg 0 ∧ ¬ A.1 t 8 = 0) from fun q => by rw [hz] at q; exact absurd q.2.1 (by decide))]
          rw [take_0 hT hz] at hR1
          obtain ⟨σ2, e2, hR2, k2⟩ := C_whole0 hR1 ht hJ (fun k _ => rfl)
          exact ⟨σ2, rfl, (hR1.1.2 t ht).2.1, e2, hR2, k1.tr k2⟩
    · rw [if_neg cD, if_neg (show ¬ (msg 1 = 68 ∧ 1 < msg 0 ∧ ¬ A.1 t 8 = 0) from fun q => cD q.1)]
      by_cases cH : msg 1 = 72 ∧ msg 0 = 1
      · rw [if_pos cH.1, if_pos cH.2, if_pos cH]
        obtain ⟨u, v, hu, hv, hvu, hu2, -⟩ := id hD
        obtain ⟨d1, d2, d3, d4, d5, d6⟩ := h.2.2.2.2.2.2
        rw [hu, hv, pk_sub hvu] at d1
        rw [hu] at d2
        have ejl : nI u - nI (u - v) = A.1 t 13 := by
          rw [pk_sub (by omega), hv]
          congr 1
          omega
        simp only [w_gR s1, s3, s4, Option.bind_some, w_rcv s6, S_X0_jobsLeft, w_gI s6, d1, d2, ejl, w_rcv s11.1]
        by_cases c13 : A.1 t 13 = 0
        · rw [if_pos c13, if_pos c13]
          obtain ⟨a, σ1, e1, hP, k1, -⟩ := C_nadd (letter := 72) h ht
          rw [e1]
          have hR1 := hP.done
          obtain ⟨σ2, e2, hR2, k2⟩ := C_whole0 hR1 ht hJ (fun k _ => by rw [aadd_J])
          exact ⟨σ1, σ2, rfl, (hR1.1.2 t ht).2.1, e2, hR2, k1.tr k2⟩
        · rw [if_neg c13, if_neg c13]
          obtain ⟨a, σ1, e1, hP, k1, kT, -⟩ := C_nadd (letter := 84) h ht
          rw [e1]
          have hR1 := hP.done
          have s1' : σ1.1 (o + 59 + 48 * t) = some (.inl 5) := (hR1.1.2 t ht).2.1
          have hR2 := C_state (x := 2) hR1 ht (Or.inl rfl) (by unfold isOp; rw [aadd_J]; exact Or.inr h0)
          have k2 : keepF σ1 (st1 σ1 (o + 59 + 48 * t) (upd (σ1.2.1 (o + 59 + 48 * t)) 5 2)) o t := (keepI.st (lo := o + 59 + 48 * t) (hi := o + 59 + 48 * t + 1) (by omega)).f (Or.inr (by omega))
          simp only [Option.bind_some, w_pI s1']
          generalize st1 σ1 (o + 59 + 48 * t) (upd (σ1.2.1 (o + 59 + 48 * t)) 5 2) = σ2 at hR2 k2 ⊢
          obtain ⟨σ3, e3, hR3, k3⟩ := C_goOn hR2 ht (hD.c (fun k hk => by rw [aJ_nk (by omega), aadd_J]))
          simp only [w_rcv (hR2.1.2 t ht).2.1, Option.bind_some, e3]
          have EJ : ∀ k, k ≠ 0 → (agoOn aadd (aJ (aadd A t (mk1 84)) t 0 2) t).1 t k = A.1 t k := fun k hk => by
            have : (agoOn aadd (aJ (aadd A t (mk1 84)) t 0 2) t).1 = (aJ (aadd A t (mk1 84)) t 0 2).1 := by
              unfold agoOn
              split <;> exact aadd_J
            rw [this, aJ_nk hk, aadd_J]
          obtain ⟨σ4, e4, hR4, k4⟩ := C_whole0 hR3 ht hJ (fun k hk => EJ k (by omega))
          exact ⟨σ3, σ4, rfl, (hR3.1.2 t ht).2.1, e4, hR4, ((k1.tr k2).tr k3).tr k4⟩
      · rw [if_neg cH]
        obtain ⟨σ2, e2, hR2, k2⟩ := C_whole0 h ht hJ (fun k _ => rfl)
        refine ⟨σ, σ2, ?_, s1, e2, hR2, k2⟩
        by_cases c1 : msg 1 = 72
        · rw [if_pos c1, if_neg (fun q => cH ⟨c1, q⟩)]
        · rw [if_neg c1]
