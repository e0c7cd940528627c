/-! The class: a packet is received. -/
theorem C_acc {σ : hp} {o t B C : Nat} {A : aA} {x : Int32} (h : RQ σ o t A B C) (ht : t < 2) : RQ (st1 σ (o + 59 + 48 * t) (upd (upd (σ.2.1 (o + 59 + 48 * t)) 8 x) 9 1)) o t (aJ (aJ A t 4 x) t 3 1) B C := by
  have EJ : ∀ k, k ≠ 4 → k ≠ 3 → (aJ (aJ A t 4 x) t 3 1).1 t k = A.1 t k := fun k a b => by rw [aJ_nk b, aJ_nk a]
  have E4 : (aJ (aJ A t 4 x) t 3 1).1 t 4 = x := by rw [aJ_nk (by decide), aJ_at]
  have E3 : (aJ (aJ A t 4 x) t 3 1).1 t 3 = 1 := aJ_at
  refine h.site ht (keepI.st (by omega)) ?_ (fun k hk => EJ k (by omega) (by omega)) rfl rfl rfl
  obtain ⟨q1, q2, q3, q4, q5, q6, q7, q8, q9, q10⟩ := h.2.2.2.2.1
  have r : ∀ i, i ≠ 8 → i ≠ 9 → upd (upd (σ.2.1 (o + 59 + 48 * t)) 8 x) 9 1 i = σ.2.1 (o + 59 + 48 * t) i := fun i a b => by rw [u_n b, u_n a]
  unfold siteQ isOp
  rw [st1_self, E4, E3, EJ 0 (by decide) (by decide), EJ 1 (by decide) (by decide), EJ 2 (by decide) (by decide), EJ 6 (by decide) (by decide), EJ 7 (by decide) (by decide), r 0 (by decide) (by decide), r 5 (by decide) (by decide), r 6 (by decide) (by decide), r 7 (by decide) (by decide), r 10 (by decide) (by decide), r 11 (by decide) (by decide), r 12 (by decide) (by decide)]
  exact ⟨q1, q2, q3, q4, by rw [u_n (by decide), u_s], by rw [u_s], q7, q8, q9, q10⟩
theorem C_data {σ : hp} {o t p n z B C : Nat} {A : aA} {pk : Pkt} (h : RQ σ o t A B C) (ht : t < 2) (hp : pkO σ o t p pk) (h38 : pk.1 = 38) (hb : ∀ i, i < 38 → okB (pk.2 i)) (hz : pk.2 6 = nI z) (hz31 : 1 ≤ z ∧ z ≤ 31) (hW : okW n A t) (ho : A.1 t 0 = 2 ∨ A.1 t 0 = 3) : ∃ σ' D, S_X5_takeData σ (o + 59 + 48 * t) (some p) = some σ' ∧ RQ σ' o t D B C ∧ keepF σ σ' o t ∧ aflow D t = acome A t pk := by
  obtain ⟨s1, s2, s3, s4, s5, s6, s7, s8, s9, s10, s11, s12, s13, s14⟩ := (h.1.2 t ht).2
  obtain ⟨y, hy, ey⟩ := and7_ex (pk.2 4)
  have hroom := h.2.1.1
  obtain ⟨q1, ⟨q2, q3⟩, q4, q5⟩ := id hp
  have ey' : S_X4_y σ p = some (nI y) := by rw [p_y q1, q3 4 (by omega), ey]
  obtain ⟨σ1, e1, hR1, k1⟩ := C_ack h ht hy hW.1.2.2.2.1
  obtain ⟨σ2, σ3, e2, kT2, e3, hR3, k3⟩ := C_flow hR1 ht
  have k13 := k1.tr k3
  have hp3 := hp.kp ht k13 hroom
  have W3 : okW n (aflow (aack A t (nI y)) t) t := (hW.ack hy).flow
  have F3 : okF (aflow (aack A t (nI y)) t) t := aflow_ok
  have S3 : (aflow (aack A t (nI y)) t).1 t 0 = A.1 t 0 := by rw [aflow_J, aack_J (by decide) (by decide) (by decide)]
  have hX3 : S_X4_x σ3 p = some (pkX pk) := by rw [p_x hp3.1, hp3.2.1.2 4 (by omega)]; rfl
  obtain ⟨a1, a2, a3, a4, -, -, -, -, -, -, a11, -⟩ := (hR1.1.2 t ht).2
  have b1 : σ2.1 (o + 59 + 48 * t) = some (.inl 5) := by rw [kT2]; exact a1
  obtain ⟨cW, c1, c2, c3, -⟩ := hR3.1.2 t ht
  have c8 : σ3.2.1 (o + 59 + 48 * t) 8 = (aflow (aack A t (nI y)) t).1 t 4 := hR3.2.2.2.2.1.2.2.2.2.1
  have eA : acome A t pk = if pkX pk = ((aflow (aack A t (nI y)) t).1 t 4 + 1) &&& 7 then adone asend (actl (aJ (aJ (aflow (aack A t (nI y)) t) t 4 (pkX pk)) t 3 1) t 4 (pkX pk)) t (fun i => pk.2 (6 + i)) else actl (aflow (aack A t (nI y)) t) t 4 ((aflow (aack A t (nI y)) t).1 t 4) := by
    unfold acome
    dsimp only
    rw [if_pos h38, if_pos ho, show pkY pk = nI y from ey]
  rw [eA]
  generalize aflow (aack A t (nI y)) t = D at hR3 W3 F3 S3 c8 ⊢
  simp only [S_X5_takeData, w_rcv q1.1, Option.bind_some, ey', w_rcv s1, e1, w_gR a1, a4, w_rcv a11.1, e2, w_rcv b1, e3, w_rcv hp3.1.1, hX3, w_gI c1, c8]
  by_cases cx : pkX pk = (D.1 t 4 + 1) &&& 7
  · rw [if_pos cx, if_pos cx]
    have w1 : ∀ g : Nat → Int32, (st1 σ3 (o + 59 + 48 * t) g).1 (o + 59 + 48 * t) = some (.inl 5) := fun g => c1
    simp only [w_pI c1, w_z1, Option.bind_some, w_pI (w1 _), st1_self, st1_st1]
    have hR4 := C_acc (x := pkX pk) hR3 ht
    have k4 : keepF σ3 (st1 σ3 (o + 59 + 48 * t) (upd (upd (σ3.2.1 (o + 59 + 48 * t)) 8 (pkX pk)) 9 1)) o t := (keepI.st (lo := o + 59 + 48 * t) (hi := o + 59 + 48 * t + 1) (by omega)).f (Or.inr (by omega))
    have g4 : (st1 σ3 (o + 59 + 48 * t) (upd (upd (σ3.2.1 (o + 59 + 48 * t)) 8 (pkX pk)) 9 1)).2.1 (o + 59 + 48 * t) 8 = pkX pk := by rw [st1_self, u_n (by decide), u_s]
    generalize st1 σ3 (o + 59 + 48 * t) (upd (upd (σ3.2.1 (o + 59 + 48 * t)) 8 (pkX pk)) 9 1) = σ4 at hR4 k4 g4 ⊢
    obtain ⟨p', σ5, e5, k5, hp5, fC, -⟩ := C_add hR4 ht
    obtain ⟨σ6, e6, hR6, k6, kI6⟩ := fC 4 (pkX pk)
    obtain ⟨dW, d1, d2, -⟩ := hR4.1.2 t ht
    have f1 : σ5.1 (o + 59 + 48 * t) = some (.inl 5) := by rw [k5.1]; exact d1
    have f8 : σ5.2.1 (o + 59 + 48 * t) 8 = pkX pk := by rw [k5.2.2 _ (by omega)]; exact g4
    have g1 : σ6.1 (o + 59 + 48 * t) = some (.inl 5) := by rw [kI6.1]; exact d1
    have E0 : (actl (aJ (aJ D t 4 (pkX pk)) t 3 1) t 4 (pkX pk)).1 t = upd (upd (D.1 t) 4 (pkX pk)) 3 1 := by
      rw [actl_J.1]
      show va_up (va_up D.1 t _) t _ t = _
      rw [va_up_self]
      show upd (va_up D.1 t _ t) 3 1 = _
      rw [va_up_self]
    obtain ⟨xx, hx8, exx⟩ := and7_ex (D.1 t 4 + 1)
    have J6 : okJ n ((actl (aJ (aJ D t 4 (pkX pk)) t 3 1) t 4 (pkX pk)).1 t) := by
      rw [E0, cx, exx]
      exact (W3.1.aj4 hx8).aj (by omega)
    have F6 : okF (actl (aJ (aJ D t 4 (pkX pk)) t 3 1) t 4 (pkX pk)) t := by
      unfold okF
      rw [actl_J.2.1, actl_J.2.2]
      exact F3
    have st6 : (actl (aJ (aJ D t 4 (pkX pk)) t 3 1) t 4 (pkX pk)).1 t 0 = A.1 t 0 := by
      rw [E0, u_n (by decide), u_n (by decide)]
      exact S3
    have r5 : σ6.2.1 (o + 59 + 48 * t) 5 = A.1 t 0 := by rw [hR6.2.2.2.2.1.2.1]; exact st6
    have kk := (k13.tr k4).tr k6
    have hpk6 := hp.kp ht kk hroom
    generalize actl (aJ (aJ D t 4 (pkX pk)) t 3 1) t 4 (pkX pk) = E at hR6 J6 F6 st6 ⊢
    simp only [w_gR d1, d2, w_rcv dW.1, Option.bind_some, e5, w_gI f1, f8, w_rcv hp5, e6, w_gI g1, r5, w_rcv g1]
    rcases ho with ho | ho
    · rw [if_pos ho]
      obtain ⟨σ7, e7, hR7, k7⟩ := C_master hR6 ht hpk6 h38 J6 (st6.trans ho)
      simp only [S_X5_takeData_104, e7, Option.bind_some]
      exact ⟨σ7, _, rfl, hR7, kk.tr k7, (done_flow F6).symm⟩
    · rw [if_neg (show ¬ A.1 t 0 = 2 by rw [ho]; decide)]
      obtain ⟨σ7, σ8, e7, g7, e8, hR8, k8⟩ := C_slave hR6 ht hpk6 h38 hb hz hz31 J6 (st6.trans ho)
      simp only [S_X5_takeData_104, e7, Option.bind_some, w_rcv g7, e8]
      exact ⟨σ8, _, rfl, hR8, kk.tr k8, (done_flow F6).symm⟩
  · rw [if_neg cx, if_neg cx]
    obtain ⟨p', σ5, e5, k5, hp5, fC, -⟩ := C_add hR3 ht
    obtain ⟨σ6, e6, hR6, k6, kI6⟩ := fC 4 (D.1 t 4)
    have f1 : σ5.1 (o + 59 + 48 * t) = some (.inl 5) := by rw [k5.1]; exact c1
    have f8 : σ5.2.1 (o + 59 + 48 * t) 8 = D.1 t 4 := by rw [k5.2.2 _ (by omega)]; exact c8
    simp only [w_gR c1, c2, w_rcv cW.1, Option.bind_some, e5, w_gI f1, f8, w_rcv hp5, e6]
    refine ⟨σ6, _, rfl, hR6, k13.tr k6, aflow_F ?_⟩
    unfold okF
    rw [actl_J.2.1, actl_J.2.2]
    exact F3
theorem C_opened {σ : hp} {o t B C : Nat} {A : aA} {x y : Int32} (h : RQ σ o t (aJ A t 2 x) B C) (ht : t < 2) : RQ (st1 σ (o + 59 + 48 * t) (upd (σ.2.1 (o + 59 + 48 * t)) 7 y)) o t (aJ A t 2 y) B C := by
  have EJ : ∀ k, k ≠ 2 → (aJ A t 2 y).1 t k = (aJ A t 2 x).1 t k := fun k a => by rw [aJ_nk a, aJ_nk a]
  refine h.site (A' := aJ A t 2 y) ht (keepI.st (by omega)) ?_ (fun k hk => EJ k (by omega)) rfl rfl rfl
  obtain ⟨q1, q2, q3, q4, q5, q6, q7, q8, q9, q10⟩ := h.2.2.2.2.1
  have r : ∀ i, i ≠ 7 → upd (σ.2.1 (o + 59 + 48 * t)) 7 y i = σ.2.1 (o + 59 + 48 * t) i := fun i a => u_n a
  unfold siteQ isOp
  rw [st1_self, aJ_at, EJ 0 (by decide), EJ 1 (by decide), EJ 3 (by decide), EJ 4 (by decide), EJ 6 (by decide), EJ 7 (by decide), r 0 (by decide), r 5 (by decide), r 6 (by decide), r 8 (by decide), r 9 (by decide), r 10 (by decide), r 11 (by decide), r 12 (by decide), u_s]
  exact ⟨q1, q2, q3, fun _ => rfl, q5, q6, q7, q8, q9, q10⟩
theorem C_init {σ : hp} {o t B C : Nat} {A : aA} {y : Int32} (h : RQ σ o t A B C) (ht : t < 2) : ∃ σ', S_X5_takeInit σ (o + 59 + 48 * t) y = some σ' ∧ RQ σ' o t (if (t = 0 ∧ A.1 t 0 = 1) ∨ (A.1 t 0 = 3 ∧ A.1 t 2 = y ∧ ¬ A.1 t 3 = 0) then A else actl (aJ (aforget A t 3) t 2 y) t 5 y) B C ∧ keepF σ σ' o t := by
  obtain ⟨s1, s2, s3, s4, s5, s6, s7, s8, s9, s10, s11, s12, s13, s14⟩ := (h.1.2 t ht).2
  obtain ⟨q1, q2, q3, q4, q5, q6, q7, q8, q9, q10⟩ := h.2.2.2.2.1
  have e20 : S_X5_takeInit σ (o + 59 + 48 * t) y = S_X5_takeInit_20 σ (o + 59 + 48 * t) y (if t = 0 ∧ A.1 t 0 = 1 then 1 else 0) := by
    simp only [S_X5_takeInit, S_X5_takeInit_19, w_gI s1, Option.bind_some, q1, q2]
    clear q1 q2 q3 q4 q5 q6 q7 q8 q9 q10 s1 s2 s3 s4 s5 s6 s7 s8 s9 s10 s11 s12 s13 s14 h
    rcases (show t = 0 ∨ t = 1 by omega) with rfl | rfl
    · rw [if_pos (show nI 0 = 0 from rfl)]
      by_cases c : A.1 0 0 = 1
      · rw [if_pos c, if_pos ⟨rfl, c⟩]
      · rw [if_neg c, if_neg (fun q => c q.2)]
    · rw [if_neg (show ¬ nI 1 = 0 by decide), if_neg (fun q => absurd q.1 (by decide))]
  have e49 : ∀ w0, S_X5_takeInit_20 σ (o + 59 + 48 * t) y w0 = S_X5_takeInit_49 σ (o + 59 + 48 * t) y w0 (if A.1 t 0 = 3 ∧ A.1 t 2 = y ∧ ¬ A.1 t 3 = 0 then 1 else 0) := by
    intro w0
    simp only [S_X5_takeInit_20, S_X5_takeInit_48, w_gI s1, Option.bind_some, q2, q6]
    by_cases c : A.1 t 0 = 3
    · rw [if_pos c, q4 (Or.inr c)]
      by_cases c2 : A.1 t 2 = y
      · rw [if_pos c2]
        by_cases c3 : A.1 t 3 = 0
        · rw [if_pos c3, if_neg (fun q => q.2.2 c3)]
        · rw [if_neg c3, if_pos ⟨c, c2, c3⟩]
      · rw [if_neg c2, if_neg (fun q => c2 q.2.1)]
    · rw [if_neg c, if_neg (fun q => c q.1)]
  rw [e20, e49]
  simp only [S_X5_takeInit_49, S_X5_takeInit_58]
  by_cases c1 : t = 0 ∧ A.1 t 0 = 1
  · rw [if_pos c1, if_neg (show ¬ (1 : Int32) = 0 by decide), if_pos (Or.inl c1)]
    exact ⟨σ, rfl, h, keepF.rf⟩
  · rw [if_neg c1, if_pos (show (0 : Int32) = 0 from rfl)]
    by_cases c2 : A.1 t 0 = 3 ∧ A.1 t 2 = y ∧ ¬ A.1 t 3 = 0
    · rw [if_pos c2, if_neg (show ¬ (1 : Int32) = 0 by decide), if_pos (Or.inr c2)]
      exact ⟨σ, rfl, h, keepF.rf⟩
    · rw [if_neg c2, if_pos (show (0 : Int32) = 0 from rfl), if_neg (fun q => q.elim c1 c2)]
      obtain ⟨σ1, e1, hR1, k1, kT, kR⟩ := C_begin' (st := 3) (x := -1) h.p ht (by decide) (fun _ => rfl)
      have hR2 := C_opened (y := y) hR1 ht
      have a1 : σ1.1 (o + 59 + 48 * t) = some (.inl 5) := by rw [kT]; exact s1
      simp only [w_rcv s1, Option.bind_some, e1, w_pI a1]
      have k2 : keepF σ1 (st1 σ1 (o + 59 + 48 * t) (upd (σ1.2.1 (o + 59 + 48 * t)) 7 y)) o t := (keepI.st (lo := o + 59 + 48 * t) (hi := o + 59 + 48 * t + 1) (by omega)).f (Or.inr (by omega))
      generalize st1 σ1 (o + 59 + 48 * t) (upd (σ1.2.1 (o + 59 + 48 * t)) 7 y) = σ2 at hR2 k2 ⊢
      obtain ⟨dW, d1, d2, -⟩ := hR2.1.2 t ht
      obtain ⟨p', σ5, e5, k5, hp5, fC, -⟩ := C_add hR2 ht
      obtain ⟨σ6, e6, hR6, k6, kI6⟩ := fC 5 y
      simp only [w_gR d1, d2, w_rcv dW.1, Option.bind_some, e5, w_rcv hp5, e6]
      exact ⟨σ6, rfl, hR6, (k1.tr k2).tr k6⟩
theorem C_answer {σ : hp} {o t n B C : Nat} {A : aA} {y : Int32} (h : RQ σ o t A B C) (ht : t < 2) (hW : okW n A t) (hF : okF A t) : ∃ σ' D, S_X5_takeAnswer σ (o + 59 + 48 * t) y = some σ' ∧ RQ σ' o t D B C ∧ keepF σ σ' o t ∧ aflow D t = if A.1 t 0 = 1 ∧ (A.1 t 1 - 1) &&& 7 = y then agoOn asend (aJ (aforget A t 2) t 2 (-1)) t else A := by
  obtain ⟨s1, s2, s3, s4, s5, s6, s7, s8, s9, s10, s11, s12, s13, s14⟩ := (h.1.2 t ht).2
  obtain ⟨q1, q2, q3, q4, q5, q6, q7, q8, q9, q10⟩ := h.2.2.2.2.1
  simp only [S_X5_takeAnswer, S_X5_takeAnswer_25, w_gI s1, Option.bind_some, q2]
  by_cases c : A.1 t 0 = 1
  · rw [if_pos c, q3 c]
    by_cases c2 : (A.1 t 1 - 1) &&& 7 = y
    · rw [if_pos c2, if_pos ⟨c, c2⟩]
      obtain ⟨σ1, e1, hR1, k1, kT, kR⟩ := C_begin' (st := 2) (x := -1) h.p ht (by decide) (fun _ => rfl)
      have a1 : σ1.1 (o + 59 + 48 * t) = some (.inl 5) := by rw [kT]; exact s1
      obtain ⟨σ2, e2, hR2, k2⟩ := C_goOn hR1 ht (hW.1.2.2.2.2.2.2.1.c (fun k hk => by rw [aJ_nk (by omega), forget_k (by omega)]))
      simp only [w_rcv s1, Option.bind_some, e1, w_rcv a1, e2]
      exact ⟨σ2, _, rfl, hR2, k1.tr k2, goOn_flow.symm⟩
    · rw [if_neg c2, if_neg (fun q => c2 q.2)]
      exact ⟨σ, A, rfl, h, keepF.rf, aflow_F hF⟩
  · rw [if_neg c, if_neg (fun q => c q.1)]
    exact ⟨σ, A, rfl, h, keepF.rf, aflow_F hF⟩
theorem dat_J6 {A : aA} {s k : Nat} {x : Int32} : adat (aJ A s 6 x) s k = aJ (adat A s k) s 6 x := by
  have e5 : (aJ A s 6 x).1 s 5 = A.1 s 5 := aJ_nk (by decide)
  have e4 : (aJ A s 6 x).1 s 4 = A.1 s 4 := aJ_nk (by decide)
  rw [adat_eq, adat_eq, e4]
  unfold aNum
  rw [e5]
  rfl
theorem agR_J6 {s : Nat} {x : Int32} : ∀ (d k : Nat) (A : aA), agR s d k (aJ A s 6 x) = aJ (agR s d k A) s 6 x := by
  intro d
  induction d with
  | zero => intro k A; rfl
  | succ d ih =>
    intro k A
    show agR s d (k + 1) (adat (aJ A s 6 x) s k) = aJ (agR s d (k + 1) (adat A s k)) s 6 x
    rw [dat_J6, ih]
theorem C_tk0 {σ : hp} {o t B C : Nat} {A : aA} (h : RQ σ o t A B C) (ht : t < 2) (ho : isOp (A.1 t)) : RQ (st1 σ (o + 59 + 48 * t) (upd (σ.2.1 (o + 59 + 48 * t)) 10 0)) o t (aJ A t 6 0) B C := by
  have EJ : ∀ k, k ≠ 6 → (aJ A t 6 0).1 t k = A.1 t k := fun k a => aJ_nk a
  refine h.site ht (keepI.st (by omega)) ?_ (fun k hk => EJ k (by omega)) rfl rfl rfl
  obtain ⟨q1, q2, q3, q4, q5, q6, q7, q8, q9, q10⟩ := h.2.2.2.2.1
  have r : ∀ i, i ≠ 10 → upd (σ.2.1 (o + 59 + 48 * t)) 10 0 i = σ.2.1 (o + 59 + 48 * t) i := fun i a => u_n a
  unfold siteQ isOp
  rw [st1_self, aJ_at, EJ 0 (by decide), EJ 1 (by decide), EJ 2 (by decide), EJ 3 (by decide), EJ 4 (by decide), EJ 7 (by decide), r 0 (by decide), r 5 (by decide), r 6 (by decide), r 7 (by decide), r 8 (by decide), r 9 (by decide), r 11 (by decide), r 12 (by decide), u_s]
  exact ⟨q1, q2, q3, q4, q5, q6, fun _ => rfl, q8, q9, fun _ _ => rfl⟩
theorem C_control {σ : hp} {o t n y B C : Nat} {A : aA} {x : Int32} (h : RQ σ o t A B C) (ht : t < 2) (hW : okW n A t) (hy : y < 8) (ho : A.1 t 0 = 2 ∨ A.1 t 0 = 3) : ∃ σ' D, S_X5_takeControl σ (o + 59 + 48 * t) x (nI y) = some σ' ∧ RQ σ' o t D B C ∧ keepF σ σ' o t ∧ aflow D t = if x = 1 then aforget A t 0 else aflow (if x = 2 then (let C := aagain (aack A t (nI y)) t; if (C.2.1 t).length = 0 then C else aJ C t 6 0) else aack A t (nI y)) t := by
  obtain ⟨s1, s2, s3, s4, s5, s6, s7, s8, s9, s10, s11, s12, s13, s14⟩ := (h.1.2 t ht).2
  simp only [S_X5_takeControl, S_X5_takeControl_31]
  by_cases c : x = 1
  · rw [if_pos c, if_pos c]
    obtain ⟨σ1, e1, hR1, k1, kT, kR⟩ := C_begin' (st := 0) (x := A.1 t 2) h.p ht (by decide) (fun q => absurd q (by decide))
    rw [forget_2] at hR1
    simp only [w_rcv s1, Option.bind_some, e1]
    exact ⟨σ1, _, rfl, hR1, k1, aflow_F forget_F⟩
  · rw [if_neg c, if_neg c]
    obtain ⟨σ1, e1, hR1, k1⟩ := C_ack h ht hy hW.1.2.2.2.1
    simp only [w_rcv s1, Option.bind_some, e1]
    have hop : isOp ((aack A t (nI y)).1 t) := by
      unfold isOp
      rw [aack_J (by decide) (by decide) (by decide)]
      exact ho
    by_cases c2 : x = 2
    · rw [if_pos c2, if_pos c2]
      generalize aack A t (nI y) = D at hR1 hop ⊢
      have a1 : σ1.1 (o + 59 + 48 * t) = some (.inl 5) := (hR1.1.2 t ht).2.1
      have hR2 := C_tk0 hR1 ht hop
      have k2 : keepF σ1 (st1 σ1 (o + 59 + 48 * t) (upd (σ1.2.1 (o + 59 + 48 * t)) 10 0)) o t := (keepI.st (lo := o + 59 + 48 * t) (hi := o + 59 + 48 * t + 1) (by omega)).f (Or.inr (by omega))
      simp only [w_pI a1, Option.bind_some]
      generalize st1 σ1 (o + 59 + 48 * t) (upd (σ1.2.1 (o + 59 + 48 * t)) 10 0) = σ2 at hR2 k2 ⊢
      obtain ⟨σ3, e3, hR3, k3⟩ := C_send (k := 0) hR2 ht (by omega)
      rw [show nI 0 = (0 : Int32) from rfl] at e3
      simp only [w_rcv (hR2.1.2 t ht).2.1, Option.bind_some, e3]
      refine ⟨σ3, _, rfl, hR3, (k1.tr k2).tr k3, ?_⟩
      rw [Nat.sub_zero, agR_J6, show ((aJ D t 6 0).2.1 t).length = (D.2.1 t).length from rfl, ← aagain_R]
      by_cases cl : ((aagain D t).2.1 t).length = 0
      · rw [if_pos cl]
        have e6 : (aagain D t).1 t 6 = 0 := by
          rw [aagain_R, (agR_J _ _ _).1]
          refine hR1.2.2.2.2.1.2.2.2.2.2.2.2.2.2 hop ?_
          rw [aagain_R, (agR_J _ _ _).2.1] at cl
          exact List.length_eq_zero_iff.mp cl
        have := aJ_same (A := aagain D t) (s := t) (k := 6)
        rw [e6] at this
        rw [this]
      · rw [if_neg cl]
    · rw [if_neg c2, if_neg c2]
      exact ⟨σ1, _, rfl, hR1, k1, rfl⟩
/-- a site between calls -/
def siteC (σ : hp) (s : Nat) (f : Nat → Int32) (out : List Msg) (t : Nat) : Prop := σ.2.1 s 0 = nI t ∧ σ.2.1 s 5 = f 0 ∧ (f 0 = 1 → σ.2.1 s 6 = (f 1 - 1) &&& 7) ∧ (isOp f → σ.2.1 s 7 = f 2) ∧ σ.2.1 s 8 = f 4 ∧ σ.2.1 s 9 = f 3 ∧ (f 0 = 1 ∨ (isOp f ∧ out ≠ []) → σ.2.1 s 10 = f 6) ∧ σ.2.1 s 11 = f 7 ∧ (isOp f → out = [] → σ.2.1 s 10 = 0 ∧ σ.2.1 s 12 = f 6) ∧ (isOp f → out ≠ [] → σ.2.1 s 12 = 0)
def RS (σ : hp) (o t : Nat) (A : aA) (B C : Nat) : Prop := RP σ o t A B C ∧ siteC σ (o + 59 + 48 * t) (A.1 t) (A.2.1 t) t
theorem RQ.s {σ : hp} {o t B C : Nat} {A : aA} (h : RQ σ o t A B C) : RS σ o t A B C := by
  refine ⟨h.p, ?_⟩
  obtain ⟨q1, q2, q3, q4, q5, q6, q7, q8, q9, q10⟩ := h.2.2.2.2.1
  exact ⟨q1, q2, q3, q4, q5, q6, fun q => q7 (q.imp id (fun z => z.1)), q8, fun a b => ⟨by rw [q7 (Or.inr a), q10 a b], by rw [q9, q10 a b]⟩, fun _ _ => q9⟩
theorem RP.site {σ σ' : hp} {o t B C : Nat} {A A' : aA} (h : RP σ o t A B C) (ht : t < 2) (k : keepI σ σ' (o + 59 + 48 * t) (o + 59 + 48 * t + 1)) (h0 : σ'.2.1 (o + 59 + 48 * t) 0 = nI t) (e1 : ∀ k, k = 1 ∨ k = 5 ∨ 8 ≤ k → A'.1 t k = A.1 t k) (e2 : A'.2.1 t = A.2.1 t) (e3 : A'.2.2.1 t = A.2.2.1 t) (e4 : A'.2.2.2 t = A.2.2.2 t) : RP σ' o t A' B C := by
  obtain ⟨h1, h2, h3, h4, h5, h6, h7⟩ := h
  unfold RP
  rw [e2, e3, e4]
  refine ⟨h1.of k.1 k.2.1, h2.cg k.2.1 (e1 _ (by omega)) (e1 _ (by omega)), h3.cg (fun c _ _ => k.2.2 c (by omega)), ?_, h0, h6.cg (k.2.2 _ (by omega)) (k.2.2 _ (by omega)) (fun k _ => e1 k (by omega)), h7.cg (k.2.2 _ (by omega)) (by rw [k.2.1]) (by rw [k.2.1]) (k.j (by omega)) (fun k _ => e1 k (by omega))⟩
  rw [e1 5 (by omega)]
  exact h4.cg (fun c _ _ => k.2.2 c (by omega))
theorem RS.q {σ : hp} {o t B C : Nat} {A : aA} (h : RS σ o t A B C) (ht : t < 2) : RQ (st1 σ (o + 59 + 48 * t) (upd (σ.2.1 (o + 59 + 48 * t)) 12 0)) o t (aRdy A t) B C := by
  obtain ⟨hP, q1, q2, q3, q4, q5, q6, q7, q8, q9, q10⟩ := h
  have r : ∀ i, i ≠ 12 → upd (σ.2.1 (o + 59 + 48 * t)) 12 0 i = σ.2.1 (o + 59 + 48 * t) i := fun i a => u_n a
  have k : keepI σ (st1 σ (o + 59 + 48 * t) (upd (σ.2.1 (o + 59 + 48 * t)) 12 0)) (o + 59 + 48 * t) (o + 59 + 48 * t + 1) := keepI.st (by omega)
  have r0 : (st1 σ (o + 59 + 48 * t) (upd (σ.2.1 (o + 59 + 48 * t)) 12 0)).2.1 (o + 59 + 48 * t) 0 = nI t := by rw [st1_self, r 0 (by decide)]; exact q1
  unfold aRdy
  by_cases c : (A.1 t 0 = 2 ∨ A.1 t 0 = 3) ∧ A.2.1 t = []
  · rw [if_pos c]
    have EJ : ∀ k, k ≠ 6 → (aJ A t 6 0).1 t k = A.1 t k := fun k a => aJ_nk a
    refine (hP.site (A' := aJ A t 6 0) ht k r0 (fun k hk => EJ k (by omega)) rfl rfl rfl).q ?_
    unfold siteQ isOp
    rw [st1_self, aJ_at, EJ 0 (by decide), EJ 1 (by decide), EJ 2 (by decide), EJ 3 (by decide), EJ 4 (by decide), EJ 7 (by decide), r 0 (by decide), r 5 (by decide), r 6 (by decide), r 7 (by decide), r 8 (by decide), r 9 (by decide), r 10 (by decide), r 11 (by decide), u_s]
    exact ⟨q1, q2, q3, q4, q5, q6, fun _ => (q9 c.1 c.2).1, q8, rfl, fun _ _ => rfl⟩
  · rw [if_neg c]
    refine (hP.site ht k r0 (fun k hk => rfl) rfl rfl rfl).q ?_
    unfold siteQ isOp
    rw [st1_self, r 0 (by decide), r 5 (by decide), r 6 (by decide), r 7 (by decide), r 8 (by decide), r 9 (by decide), r 10 (by decide), r 11 (by decide), u_s]
    exact ⟨q1, q2, q3, q4, q5, q6, fun q => q7 (q.imp id (fun z => ⟨z, fun y => c ⟨z, y⟩⟩)), q8, rfl, fun a b => absurd ⟨a, b⟩ c⟩
theorem siteC.cg {σ σ' : hp} {s t : Nat} {f : Nat → Int32} {out : List Msg} (h : siteC σ s f out t) (e : σ'.2.1 s = σ.2.1 s) : siteC σ' s f out t := by
  unfold siteC
  rw [e]
  exact h
theorem RS.wire {σ σ' : hp} {o t B C : Nat} {A A' : aA} {q : List Pkt} (h : RS σ o t A B C) (ht : t < 2) (k : keepI σ σ' (o + 2 + 28 * t) (o + 2 + 28 * t + 28)) (hq : wireC σ' (o + 2 + 28 * t) q) (e1 : A'.1 t = A.1 t) (e2 : A'.2.1 t = A.2.1 t) (e3 : A'.2.2.1 t = A.2.2.1 t) (e4 : A'.2.2.2 t = q) : RS σ' o t A' B C := by
  obtain ⟨⟨h1, h2, h3, h4, h5, h6, h7⟩, hS⟩ := h
  unfold RS RP
  rw [e1, e2, e3, e4]
  exact ⟨⟨h1.of k.1 k.2.1, h2.cg k.2.1 rfl rfl, hq, h4.cg (fun c _ _ => k.2.2 c (by omega)), by rw [k.2.2 _ (by omega)]; exact h5, h6.cg (k.2.2 _ (by omega)) (k.2.2 _ (by omega)) (fun _ _ => rfl), h7.cg (k.2.2 _ (by omega)) (by rw [k.2.1]) (by rw [k.2.1]) (k.j (by omega)) (fun _ _ => rfl)⟩, hS.cg (k.2.2 _ (by omega))⟩
theorem C_addS {σ : hp} {o t B C : Nat} {A : aA} (h : RS σ o t A B C) (ht : t < 2) (x y : Int32) : ∃ p σ1 σ2, S_X7_add σ (o + 2 + 28 * t) = some (some p, σ1) ∧ keepI σ σ1 (o + 2 + 28 * t) (o + 2 + 28 * t + 28) ∧ σ1.1 p = some (.inl 4) ∧ S_X4_fillControl σ1 p x y = some σ2 ∧ RS σ2 o t (actl A t x y) B C ∧ keepF σ σ2 o t ∧ σ2.1 = σ.1 := by
  obtain ⟨p, σ1, e, k, hp, p1, p2, fin⟩ := c_wadd (h.1.1.2 t ht).1 h.1.2.2.1
  obtain ⟨σ2, e2, k2, hpk⟩ := c_fillC hp x y
  have k3 : keepI σ σ2 (o + 2 + 28 * t) (o + 2 + 28 * t + 28) := k.tr ⟨k2.1, k2.2.1, fun c hc => k2.2.2 c (by omega)⟩
  refine ⟨p, σ1, σ2, e, k, hp.1, e2, h.wire ht k3 (fin σ2 _ k2 hpk) ?_ ?_ ?_ ?_, k3.f (Or.inl ⟨Nat.le_refl _, Nat.le_refl _⟩), k3.1⟩ <;> unfold actl <;> rw [alay_eq]
  exact va_up_self _ _ _
theorem C_isOpen {σ : hp} {s : Nat} {x : Int32} (h : σ.1 s = some (.inl 5)) (h5 : σ.2.1 s 5 = x) : S_X5_isOpen σ s = some (if x = 2 ∨ x = 3 then 1 else 0) := by
  simp only [S_X5_isOpen, S_X5_isOpen_16, S_X5_isOpen_21, w_gI h, h5, Option.bind_some, w_z0, w_z1]
  by_cases c : x = 2
  · rw [if_pos c, if_pos (Or.inl c)]
  · rw [if_neg c]
    by_cases c3 : x = 3
    · rw [if_pos c3, if_pos (Or.inr c3)]
    · rw [if_neg c3, if_neg (fun q => q.elim c c3)]
theorem C_recv {σ : hp} {o t p n B C : Nat} {A : aA} {pk : Pkt} (h : RS σ o t A B C) (ht : t < 2) (hp : pkO σ o t p pk) (hpk : okP pk) (hW : okW n (aRdy A t) t) (hF : okF A t) : ∃ σ', S_X5_receive σ (o + 59 + 48 * t) (some p) = some (bI (goodP pk), σ') ∧ RS σ' o t (if goodP pk then acome (aRdy A t) t pk else if A.1 t 0 = 2 ∨ A.1 t 0 = 3 then actl A t 2 (A.1 t 4) else A) B C ∧ keepF σ σ' o t := by
  obtain ⟨s1, s2, s3, s4, s5, s6, s7, s8, s9, s10, s11, s12, s13, s14⟩ := (h.1.1.2 t ht).2
  have hroom := h.1.2.1.1
  simp only [S_X5_receive, w_rcv hp.1.1, Option.bind_some, c_isGood hp.1 hp.2.1 hpk]
  cases hg : goodP pk with
  | false =>
    rw [if_pos (show bI false = 0 from rfl), if_neg (show ¬ false = true by decide)]
    simp only [w_rcv s1, Option.bind_some, C_isOpen s1 h.2.2.1, S_X5_receive_29]
    by_cases c : A.1 t 0 = 2 ∨ A.1 t 0 = 3
    · rw [if_pos c, if_pos c, if_neg (show ¬ (1 : Int32) = 0 by decide)]
      obtain ⟨p', σ1, σ2, e1, k1, hp1, e2, hR2, k2, kT⟩ := C_addS h ht 2 (A.1 t 4)
      have a1 : σ1.1 (o + 59 + 48 * t) = some (.inl 5) := by rw [k1.1]; exact s1
      have a8 : σ1.2.1 (o + 59 + 48 * t) 8 = A.1 t 4 := by rw [k1.2.2 _ (by omega)]; exact h.2.2.2.2.2.1
      simp only [w_gR s1, s2, w_rcv (h.1.1.2 t ht).1.1, Option.bind_some, e1, w_gI a1, a8, w_rcv hp1, e2]
      exact ⟨σ2, rfl, hR2, k2⟩
    · rw [if_neg c, if_neg c, if_pos (show (0 : Int32) = 0 from rfl)]
      exact ⟨σ, rfl, h, keepF.rf⟩
  | true =>
    rw [if_neg (show ¬ bI true = 0 by decide), if_pos (show true = true from rfl)]
    have hR0 := h.q ht
    have k0 : keepF σ (st1 σ (o + 59 + 48 * t) (upd (σ.2.1 (o + 59 + 48 * t)) 12 0)) o t := (keepI.st (lo := o + 59 + 48 * t) (hi := o + 59 + 48 * t + 1) (by omega)).f (Or.inr (by omega))
    simp only [w_pI s1, Option.bind_some]
    generalize st1 σ (o + 59 + 48 * t) (upd (σ.2.1 (o + 59 + 48 * t)) 12 0) = σ0 at hR0 k0 ⊢
    have hp0 := hp.kp ht k0 hroom
    have F0 : okF (aRdy A t) t := by
      unfold aRdy
      split
      · exact hF
      · exact hF
    generalize aRdy A t = A0 at hR0 hW F0 ⊢
    obtain ⟨q1, ⟨q2, q3⟩, q4, q5⟩ := id hp0
    have a1 : σ0.1 (o + 59 + 48 * t) = some (.inl 5) := (hR0.1.2 t ht).2.1
    have a5 : σ0.2.1 (o + 59 + 48 * t) 5 = A0.1 t 0 := hR0.2.2.2.2.1.2.1
    obtain ⟨y, hy, ey⟩ := and7_ex (pk.2 4)
    have h4 : 4 < pk.1 := by rcases hpk.1 with q | q <;> omega
    have ex' : S_X4_x σ0 p = some (pkX pk) := by rw [p_x q1, q3 4 h4]; rfl
    have ey' : S_X4_y σ0 p = some (nI y) := by rw [p_y q1, q3 4 h4, ey]
    have fin : ∀ σ1 D, RQ σ1 o t D B C → keepF σ0 σ1 o t → aflow D t = acome A0 t pk → ∃ σ', S_X5_receive_112 σ1 (o + 59 + 48 * t) = some (bI true, σ') ∧ RS σ' o t (acome A0 t pk) B C ∧ keepF σ σ' o t := fun σ1 D hR1 k1 ef => by
      obtain ⟨b1, b2, b3, b4, -, -, -, -, -, -, b11, -⟩ := (hR1.1.2 t ht).2
      obtain ⟨σ2, σ3, e2, kT2, e3, hR3, k3⟩ := C_flow hR1 ht
      have c1 : σ2.1 (o + 59 + 48 * t) = some (.inl 5) := by rw [kT2]; exact b1
      simp only [S_X5_receive_112, w_gR b1, b4, Option.bind_some, w_rcv b11.1, e2, w_rcv c1, e3]
      refine ⟨σ3, rfl, ?_, (k0.tr k1).tr k3⟩
      rw [← ef]
      exact hR3.s
    simp only [w_rcv q1.1, Option.bind_some, ex', p_isData q1, q2, ey', w_rcv a1, C_isOpen a1 a5, S_X5_receive_60]
    have eA : acome A0 t pk = if pk.1 = 38 then (if A0.1 t 0 = 2 ∨ A0.1 t 0 = 3 then acome A0 t pk else A0) else if pkX pk = 7 then (if (t = 0 ∧ A0.1 t 0 = 1) ∨ (A0.1 t 0 = 3 ∧ A0.1 t 2 = nI y ∧ ¬ A0.1 t 3 = 0) then A0 else actl (aJ (aforget A0 t 3) t 2 (nI y)) t 5 (nI y)) else if pkX pk = 5 then (if A0.1 t 0 = 1 ∧ (A0.1 t 1 - 1) &&& 7 = nI y then agoOn asend (aJ (aforget A0 t 2) t 2 (-1)) t else A0) else if A0.1 t 0 = 2 ∨ A0.1 t 0 = 3 then (if pkX pk = 1 then aforget A0 t 0 else aflow (if pkX pk = 2 then (let C := aagain (aack A0 t (nI y)) t; if (C.2.1 t).length = 0 then C else aJ C t 6 0) else aack A0 t (nI y)) t) else A0 := by
      by_cases c38 : pk.1 = 38
      · rw [if_pos c38]
        by_cases co : A0.1 t 0 = 2 ∨ A0.1 t 0 = 3
        · rw [if_pos co]
        · rw [if_neg co]
          unfold acome
          dsimp only
          rw [if_pos c38, if_neg co]
      · rw [if_neg c38]
        unfold acome
        dsimp only
        rw [if_neg c38, show pkY pk = nI y from ey]
    rcases hpk.1 with c6 | c38
    · have n38 : ¬ pk.1 = 38 := by omega
      rw [if_neg n38] at eA
      rw [if_pos (show (if nI pk.1 ≤ (6 : Int32) then (0 : Int32) else 1) = 0 by rw [c6, if_pos (by decide)])]
      by_cases x7 : pkX pk = 7
      · rw [if_pos x7] at eA ⊢
        obtain ⟨σ1, e1, hR1, k1⟩ := C_init (y := nI y) hR0 ht
        simp only [e1, Option.bind_some]
        refine fin σ1 _ hR1 k1 ?_
        rw [eA]
        split
        · exact aflow_F F0
        · refine aflow_F ?_
          unfold okF
          rw [actl_J.2.1, actl_J.2.2]
          exact forget_F (A := A0) (s := t) (st := 3)
      · rw [if_neg x7] at eA ⊢
        by_cases x5 : pkX pk = 5
        · rw [if_pos x5] at eA ⊢
          obtain ⟨σ1, D, e1, hR1, k1, ef⟩ := C_answer (y := nI y) hR0 ht hW F0
          simp only [e1, Option.bind_some]
          exact fin σ1 D hR1 k1 (by rw [eA]; exact ef)
        · rw [if_neg x5] at eA ⊢
          by_cases co : A0.1 t 0 = 2 ∨ A0.1 t 0 = 3
          · rw [if_pos co] at eA
            rw [if_pos co, if_neg (show ¬ (1 : Int32) = 0 by decide)]
            obtain ⟨σ1, D, e1, hR1, k1, ef⟩ := C_control (x := pkX pk) hR0 ht hW hy co
            simp only [e1, Option.bind_some]
            exact fin σ1 D hR1 k1 (by rw [eA]; exact ef)
          · rw [if_neg co] at eA
            rw [if_neg co, if_pos (show (0 : Int32) = 0 from rfl)]
            exact fin σ0 A0 hR0 keepF.rf (by rw [eA]; exact aflow_F F0)
    · rw [if_neg (show ¬ (if nI pk.1 ≤ (6 : Int32) then (0 : Int32) else 1) = 0 by rw [c38, if_neg (by decide)]; decide)]
      by_cases co : A0.1 t 0 = 2 ∨ A0.1 t 0 = 3
      · rw [if_pos co, if_neg (show ¬ (1 : Int32) = 0 by decide)]
        obtain ⟨z, hz256, hz⟩ := hpk.2 6 (by omega)
        obtain ⟨-, z1, z2⟩ := (goodP_k hg).1 c38
        rw [hz] at z1 z2
        have z1' : 1 ≤ z := by
          rcases Nat.eq_zero_or_pos z with q | q
          · rw [q] at z1
            exact absurd (show nI 0 < 1 by decide) z1
          · exact q
        have z2' : z ≤ 31 := (nI_leI (a := z) (b := 31) (by omega) (by decide)).mp z2
        obtain ⟨σ1, D, e1, hR1, k1, ef⟩ := C_data hR0 ht hp0 c38 (fun i hi => hpk.2 i (by omega)) hz ⟨z1', z2'⟩ hW co
        simp only [e1, Option.bind_some]
        exact fin σ1 D hR1 k1 ef
      · rw [if_neg co, if_pos (show (0 : Int32) = 0 from rfl)]
        rw [if_pos c38, if_neg co] at eA
        exact fin σ0 A0 hR0 keepF.rf (by rw [eA]; exact aflow_F F0)
