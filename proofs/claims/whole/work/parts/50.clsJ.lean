/-! The class's calls: queue, call, tick. -/
theorem C_addJob {σ : hp} {o t u l B C : Nat} {A : aA} {f' : Nat → Int32} (h : RS σ o t A B C) (ht : t < 2) (hu : A.1 t 12 = nI u) (hu30 : u < 30) (hl : l ≤ 100) (hn : σ.1 (o + 155) = some (.inr (0, 100))) (g12 : f' 12 = nI (u + 1)) (g13 : f' 13 = A.1 t 13 + 1) (g2 : f' (200 + u) = nI l) (gF : ∀ i, i < l → f' (1000 + 100 * u + i) = σ.2.1 (o + 155) i) (gE : ∀ k, k ≠ 12 → k ≠ 13 → k ≠ 200 + u → ¬ (1000 + 100 * u ≤ k ∧ k < 1000 + 100 * u + l) → f' k = A.1 t k) : ∃ σ', S_X0_addJob σ (o + 59 + 48 * t + 1) (some (o + 155)) (nI l) = some (nI u, σ') ∧ RS σ' o t (jm A t f') B C ∧ keepF σ σ' o t := by
  obtain ⟨⟨h1, h2, h3, h4, h5, h6, h7⟩, hS⟩ := h
  obtain ⟨s1, s2, s3, s4, s5, s6, s7, s8, s9, s10, s11, s12, s13, s14⟩ := (h1.2 t ht).2
  obtain ⟨d1, d2, d3, d4, d5, d6⟩ := h7
  have d2' := d2
  rw [hu] at d2'
  obtain ⟨r1, r2, r3⟩ := h2
  have sH : ∀ a, a < σ.2.2.2.1 → (hp_new σ (.inl 2) 2).1 a = σ.1 a ∧ (hp_new σ (.inl 2) 2).2.1 a = σ.2.1 a ∧ (hp_new σ (.inl 2) 2).2.2.1 a = σ.2.2.1 a := fun a ha => ⟨va_up_ne _ _ (by omega), va_up_ne _ _ (by omega), va_up_ne _ _ (by omega)⟩
  have nN : (hp_new σ (.inl 2) 2).1 σ.2.2.2.1 = some (.inl 2) := va_up_self _ _ _
  obtain ⟨σ1, e1, m1, m2, m3, m4, m5, m6, m7, m8⟩ := c_initJob (num := nI u) hn (by omega) hl
  simp only [S_X0_addJob, S_X0_addJob_24, S_X0_addJob_31, w_gI s6, w_gR s6, Option.bind_some, d2', s7]
  rw [if_pos (show nI u < 30 from nI_lt (b := 30) hu30 (by decide))]
  simp only [o_nw, Option.bind_some, w_rcv nN, e1]
  generalize hja : σ.2.2.2.1 = ja at *
  have z6 : σ1.1 (o + 59 + 48 * t + 1) = some (.inl 0) := by rw [(m8 _ (by omega)).1]; exact s6
  have z9 : σ1.1 (o + 59 + 48 * t + 2) = some (.inr (5, 30)) := by rw [(m8 _ (by omega)).1]; exact s9
  generalize hσ2 : sR σ1 (up2 σ1.2.2.1 (o + 59 + 48 * t + 2) u (some ja)) = σ2
  have x6 : σ2.1 (o + 59 + 48 * t + 1) = some (.inl 0) := by rw [← hσ2]; exact z6
  have x4 : σ2.2.1 (o + 59 + 48 * t + 1) = σ.2.1 (o + 59 + 48 * t + 1) := by rw [← hσ2]; show σ1.2.1 _ = _; rw [(m8 _ (by omega)).2.1]
  generalize hσ3 : st1 σ2 (o + 59 + 48 * t + 1) (upd (σ.2.1 (o + 59 + 48 * t + 1)) 2 (nI (u + 1))) = σ3
  have uT : ∀ a, a < ja → σ3.1 a = σ.1 a := fun a ha => by rw [← hσ3, ← hσ2]; show σ1.1 a = _; rw [(m8 a ha).1]
  have uR : ∀ a, a < ja → a ≠ o + 59 + 48 * t + 2 → σ3.2.2.1 a = σ.2.2.1 a := fun a a1 a2 => by
    rw [← hσ3, ← hσ2]
    show up2 σ1.2.2.1 _ _ _ a = _
    rw [up2_ne a2, (m8 a a1).2.2]
  have uI : ∀ a, a < ja → a ≠ o + 59 + 48 * t + 1 → σ3.2.1 a = σ.2.1 a := fun a a1 a2 => by rw [← hσ3, st1_ne a2, ← hσ2]; show σ1.2.1 a = _; rw [(m8 a a1).2.1]
  have uN : σ3.2.2.2.1 = ja + 2 := by rw [← hσ3, ← hσ2]; exact m1
  have uM : σ3.2.2.2.2 = σ.2.2.2.2 + 2 + l := by rw [← hσ3, ← hσ2]; exact m2
  have kJ : keepJ σ σ3 o := ⟨by rw [uN, hja]; omega, fun a a1 a2 => ⟨uT a (by omega), uI a (by omega) (by omega), uR a (by omega) (by omega)⟩⟩
  have kF : keepF σ σ3 o t := ⟨by rw [uN, hja]; omega, fun a a1 a2 a3 => ⟨uT a (by omega), uI a (by omega) (by omega), uR a (by omega) (by omega)⟩⟩
  simp only [w_stQ z9 hu30 (by decide) m3, Option.bind_some, hσ2, w_gI x6, x4, d2', nI_1, w_pI x6, hσ3]
  refine ⟨σ3, rfl, ?_, kF⟩
  have row1 : σ3.2.1 (o + 59 + 48 * t + 1) = upd (σ.2.1 (o + 59 + 48 * t + 1)) 2 (nI (u + 1)) := by rw [← hσ3, st1_self]
  have gk : ∀ k, k < 12 ∨ (13 < k ∧ k < 200) ∨ 4000 ≤ k → f' k = A.1 t k := fun k hk => gE k (by omega) (by omega) (by omega) (by omega)
  unfold RS RP
  rw [show (jm A t f').1 t = f' from va_up_self _ _ _]
  refine ⟨⟨h1.of2 (fun a ha => uT a (by omega)) (fun a ha hn => uR a (by omega) (hn t ht).1), ⟨by rw [uN]; omega, ?_, ?_⟩, ?_, ?_, ?_, ?_, ?_⟩, ?_⟩
  · rw [uN]
    unfold cN at r2 ⊢
    rw [g12, nI_clamp (by omega), gk 14 (by omega)]
    rw [hu, nI_clamp (by omega)] at r2
    omega
  · rw [uM]
    unfold cN at r3 ⊢
    rw [g12, nI_clamp (by omega), gk 14 (by omega)]
    rw [hu, nI_clamp (by omega)] at r3
    omega
  · exact h3.cg (fun c _ _ => uI c (by omega) (by omega))
  · rw [gk 5 (by omega)]
    exact h4.cg (fun c _ _ => uI c (by omega) (by omega))
  · rw [uI _ (by omega) (by omega)]; exact h5
  · exact h6.cg (uI _ (by omega) (by omega)) (uI _ (by omega) (by omega)) (fun k hk => gk k (by omega))
  · refine ⟨?_, ?_, ?_, ?_, fun j hj hlt => ?_, fun j hj hlt => ?_⟩
    · rw [row1, u_n (by decide), g12, g13, d1, hu, ← nI_1 (a := u), show nI u + 1 = (nI u - A.1 t 13) + (A.1 t 13 + 1) by rw [← Int32.add_assoc, Int32.sub_add_cancel], Int32.add_sub_cancel]
    · rw [row1, u_s, g12]
    · rw [row1, u_n (by decide), gk 14 (by omega)]; exact d3
    · rw [row1, u_n (by decide), gk 1 (by omega)]; exact d4
    · have rowQ : σ3.2.2.1 (o + 59 + 48 * t + 2) j = if j = u then some ja else σ.2.2.1 (o + 59 + 48 * t + 2) j := by
        rw [← hσ3, ← hσ2]
        show up2 σ1.2.2.1 _ _ _ _ j = _
        rw [up2_at, (m8 _ (by omega)).2.2]
      rw [g12, nIlt (by omega) (by omega)] at hlt
      by_cases hje : j = u
      · subst hje
        refine ⟨ja, l, by rw [rowQ, if_pos rfl], g2, by omega, by rw [uN]; omega, hl, ?_, ?_, ?_, ?_, fun i hi => ?_⟩
        · rw [← hσ3, ← hσ2]; exact m3
        · rw [← hσ3, st1_ne (by omega), ← hσ2]; exact m6
        · rw [← hσ3, ← hσ2]
          show up2 σ1.2.2.1 _ _ _ ja 1 = _
          rw [up2_ne (by omega)]
          exact m5
        · rw [← hσ3, ← hσ2]; exact m4
        · rw [← hσ3, st1_ne (by omega), ← hσ2]
          show σ1.2.1 (ja + 1) i = _
          rw [m7 i hi]
          exact (gF i hi).symm
      · obtain ⟨a, l', a1, a2, a3⟩ := d5 j hj (by rw [hu]; exact nI_lt (by omega) (by omega))
        have l100 := a3.2.2.1
        refine ⟨a, l', by rw [rowQ, if_neg hje]; exact a1, by rw [gE _ (by omega) (by omega) (by omega) (by omega)]; exact a2, ?_⟩
        refine a3.cg kJ (fun i hi => gE _ (by omega) (by omega) (by omega) ?_)
        omega
    · rw [gk 14 (by omega)] at hlt
      obtain ⟨a, l', a1, a2, a3⟩ := d6 j hj hlt
      refine ⟨a, l', by rw [uR _ (by omega) (by omega)]; exact a1, by rw [gk _ (by omega)]; exact a2, ?_⟩
      rw [gk (5000 + j) (by omega)]
      exact a3.cg kJ (fun i hi => gk _ (by omega))
  · have := hS.cg (σ' := σ3) (uI _ (by omega) (by omega))
    unfold siteC isOp at this ⊢
    rw [gk 0 (by omega), gk 1 (by omega), gk 2 (by omega), gk 3 (by omega), gk 4 (by omega), gk 6 (by omega), gk 7 (by omega)]
    exact this
theorem K_queue {σ : hp} {o n C0 : Nat} {f : Int32} {A : aA} (h : RepC σ o A C0) (hA : okA n A) : ∃ σ', S_X8_queue σ o f = some ((c_queue A f).1, σ') ∧ RepC σ' o (c_queue A f).2 C0 ∧ keepR σ σ' o := by
  have hx := h.x
  unfold c_queue
  by_cases hf : f = 0 ∨ f = 1
  · obtain ⟨c1, c2⟩ := clamp_s hf
    rw [if_pos hf]
    dsimp only
    generalize f.toNatClampNeg = t at c1 c2 ⊢
    subst c2
    obtain ⟨⟨o1, o2, o3, o4, o5, o6, o7, o8⟩, hk⟩ := h.sk
    obtain ⟨s1, s2, s3, s4, s5, s6, s7, s8, s9, s10, s11, s12, s13, s14⟩ := (hk t c1).2
    obtain ⟨l, l1, l2, -⟩ := hA.2
    obtain ⟨u, v, hu, hv, hvu, hu2, -⟩ := (hA.1 t c1).1.1.2.2.2.2.2.2.1
    have e3 := h.2.2
    rw [l2] at e3
    simp only [S_X8_queue, S_X8_queue_29, S_X8_queue_40, c_isSite, if_pos hf, Option.bind_some, if_neg (show ¬ (1 : Int32) = 0 by decide), w_gR o1, o3, w_ldQ o6 c1 (by decide), (o8 t c1).2, w_gR s1, s3, o4, w_gI o1, e3, w_rcv s6]
    rw [hu, nI_clamp (show u < 2 ^ 31 by omega), l2, nI_clamp (show l < 2 ^ 31 by omega)]
    by_cases c30 : u < 30
    · rw [if_neg (show ¬ (30 : Int32) ≤ nI u from nI_ge (b := 30) c30 (by decide))]
      obtain ⟨σ1, e1, hS1, k1⟩ := C_addJob (h.1 t c1) c1 hu c30 l1 o7 (f' := fun k => if k = 200 + u then nI l else if k = 12 then nI u + 1 else if k = 13 then A.1 t 13 + 1 else if 1000 + 100 * u ≤ k ∧ k < 1000 + 100 * u + l then A.1 2 (k - (1000 + 100 * u)) else A.1 t k) (by rw [if_neg (by omega), if_pos rfl, nI_1]) (by rw [if_neg (by omega), if_neg (by decide), if_pos rfl]) (by rw [if_pos rfl]) (fun i hi => by
        rw [if_neg (by omega), if_neg (by omega), if_neg (by omega), if_pos (by omega), show 1000 + 100 * u + i - (1000 + 100 * u) = i by omega]
        exact (h.2.1 i (by omega)).symm) (fun k k1 k2 k3 k4 => by rw [if_neg k3, if_neg k1, if_neg k2, if_neg k4])
      have hR1 : RepC σ1 o (jm A t (fun k => if k = 200 + u then nI l else if k = 12 then nI u + 1 else if k = 13 then A.1 t 13 + 1 else if 1000 + 100 * u ≤ k ∧ k < 1000 + 100 * u + l then A.1 2 (k - (1000 + 100 * u)) else A.1 t k)) C0 := h.step c1 hS1 sm_J k1
      rw [e1]
      simp only [Option.bind_some]
      rw [if_neg (show ¬ nI u = -1 from fun q => absurd (show nI u < 0 by rw [q]; decide) (nI_pos (by omega)))]
      have y1 := hR1.sk.1.1
      simp only [w_pI y1, Option.bind_some]
      have hx1 := hR1.x
      refine ⟨_, rfl, ?_, (k1.r c1 hx).tr (fun a a1 a2 => ⟨rfl, st1_ne (by omega), rfl⟩)⟩
      show RepC _ o (aJ (jm A t _) 2 100 0) C0
      generalize jm A t _ = D at hR1 ⊢
      have ea : ∀ t, t < 2 → (aJ D 2 100 0).1 t = D.1 t := fun t ht => va_up_ne _ _ (by omega)
      refine ⟨fun s hs => ?_, fun i hi => ?_, ?_⟩
      · have hr := (hR1.1 s hs).1.2.1
        refine (hR1.1 s hs).ag (hR1.sk.of rfl rfl) ?_ (fun a ha => st1_ne (by omega)) rfl rfl ⟨Nat.le_refl _, fun a a1 a2 => ⟨rfl, st1_ne (by omega), rfl⟩⟩ (ea s hs) rfl rfl rfl
        unfold bB bC at hr ⊢
        rw [ea s hs, ea (1 - s) (by omega)]
        exact hr
      · rw [st1_ne (by omega), aJ_nk (by omega)]
        exact hR1.2.1 i hi
      · rw [st1_self, u_s, aJ_at]
    · rw [if_pos (show (30 : Int32) ≤ nI u from nI_le (a := 30) (by omega) (by omega))]
      have d2 := (h.1 t c1).1.2.2.2.2.2.2.2.1
      rw [hu] at d2
      have e1 : S_X0_addJob σ (o + 59 + 48 * t + 1) (some (o + 155)) (nI l) = some (-1, σ) := by
        simp only [S_X0_addJob, w_gI s6, Option.bind_some, d2]
        rw [if_neg (show ¬ nI u < 30 from nI_nlt (b := 30) (by omega) (by omega))]
      rw [e1]
      simp only [Option.bind_some]
      rw [if_pos trivial]
      exact ⟨σ, rfl, h, keepR.rf⟩
  · rw [if_neg hf]
    simp only [S_X8_queue, c_isSite, if_neg hf, Option.bind_some, if_true]
    exact ⟨σ, rfl, h, keepR.rf⟩
theorem ctl_J1 {A : aA} {s k : Nat} {x y z : Int32} : actl (aJ A s k z) s x y = aJ (actl A s x y) s k z := by
  unfold actl
  rw [alay_eq, alay_eq]
  rfl
theorem C_beginCall {σ : hp} {o t B C : Nat} {A : aA} (h : RS σ o t A B C) (ht : t < 2) : ∃ σ', S_X5_beginCall σ (o + 59 + 48 * t) = some σ' ∧ RS σ' o t (aJ (actl (aforget A t 1) t 7 (A.1 t 1 &&& 7)) t 1 (A.1 t 1 + 1)) B C ∧ keepF σ σ' o t := by
  obtain ⟨s1, -⟩ := (h.1.1.2 t ht).2
  obtain ⟨σ1, e1, hP1, k1, kT1, kR1, r5, r7, r8, r9, r10, r11, r12⟩ := C_begin (st := 1) h.1 ht
  obtain ⟨z1, z2, z3, z4, z5, z6, -⟩ := (hP1.1.2 t ht).2
  have d4 : σ1.2.1 (o + 59 + 48 * t + 1) 5 = A.1 t 1 := by
    have := hP1.2.2.2.2.2.2.2.2.2.1
    rw [forget_k (by omega)] at this
    exact this
  generalize hσ3 : st1 (st1 σ1 (o + 59 + 48 * t) (upd (σ1.2.1 (o + 59 + 48 * t)) 6 (A.1 t 1 &&& 7))) (o + 59 + 48 * t + 1) (upd (σ1.2.1 (o + 59 + 48 * t + 1)) 5 (A.1 t 1 + 1)) = σ3
  have rowS : σ3.2.1 (o + 59 + 48 * t) = upd (σ1.2.1 (o + 59 + 48 * t)) 6 (A.1 t 1 &&& 7) := by rw [← hσ3, st1_ne (by omega), st1_self]
  have rowD : σ3.2.1 (o + 59 + 48 * t + 1) = upd (σ1.2.1 (o + 59 + 48 * t + 1)) 5 (A.1 t 1 + 1) := by rw [← hσ3, st1_self]
  have k3 : keepI σ1 σ3 (o + 59 + 48 * t) (o + 59 + 48 * t + 2) := by rw [← hσ3]; exact (keepI.st (by omega)).tr (keepI.st (by omega))
  have EJ : ∀ k, k ≠ 1 → (aJ (aforget A t 1) t 1 (A.1 t 1 + 1)).1 t k = (aforget A t 1).1 t k := fun k hk => aJ_nk hk
  have hS3 : RS σ3 o t (aJ (aforget A t 1) t 1 (A.1 t 1 + 1)) B C := by
    obtain ⟨g1, g2, g3, g4, g5, g6, g7⟩ := hP1
    obtain ⟨b1, b2, b3, b4, b5, b6⟩ := g7
    have kJ : keepJ σ1 σ3 o := k3.j (by omega)
    refine ⟨⟨g1.of k3.1 k3.2.1, g2.cg k3.2.1 (EJ _ (by decide)) (EJ _ (by decide)), g3.cg (fun c _ _ => k3.2.2 c (by omega)), ?_, ?_, g6.cg (k3.2.2 _ (by omega)) (k3.2.2 _ (by omega)) (fun k _ => EJ k (by omega)), ?_⟩, ?_⟩
    · rw [EJ 5 (by decide)]
      exact g4.cg (fun c _ _ => k3.2.2 c (by omega))
    · rw [rowS, u_n (by decide)]; exact g5
    · refine ⟨?_, ?_, ?_, ?_, fun j hj hl => ?_, fun j hj hl => ?_⟩
      · rw [rowD, u_n (by decide), EJ 12 (by decide), EJ 13 (by decide)]; exact b1
      · rw [rowD, u_n (by decide), EJ 12 (by decide)]; exact b2
      · rw [rowD, u_n (by decide), EJ 14 (by decide)]; exact b3
      · rw [rowD, u_s, aJ_at]
      · rw [EJ 12 (by decide)] at hl
        obtain ⟨a, l, a1, a2, a3⟩ := b5 j hj hl
        exact ⟨a, l, by rw [k3.2.1]; exact a1, by rw [EJ _ (by omega)]; exact a2, a3.cg kJ (fun i _ => EJ _ (by omega))⟩
      · rw [EJ 14 (by decide)] at hl
        obtain ⟨a, l, a1, a2, a3⟩ := b6 j hj hl
        refine ⟨a, l, by rw [k3.2.1]; exact a1, by rw [EJ _ (by omega)]; exact a2, ?_⟩
        rw [EJ (5000 + j) (by omega)]
        exact a3.cg kJ (fun i _ => EJ _ (by omega))
    · have e0 : (aforget A t 1).1 t 0 = 1 := by rw [forget_f]; rfl
      have r : ∀ i, i ≠ 6 → σ3.2.1 (o + 59 + 48 * t) i = σ1.2.1 (o + 59 + 48 * t) i := fun i hi => by rw [rowS, u_n hi]
      unfold siteC isOp
      rw [EJ 0 (by decide), e0, aJ_at, EJ 2 (by decide), EJ 3 (by decide), EJ 4 (by decide), EJ 6 (by decide), EJ 7 (by decide), r 0 (by decide), r 5 (by decide), r 7 (by decide), r 8 (by decide), r 9 (by decide), r 10 (by decide), r 11 (by decide), r 12 (by decide), r5, r7, r8, r9, r10, r11, r12, show (aforget A t 1).1 t 3 = 0 by rw [forget_f]; rfl, show (aforget A t 1).1 t 4 = 0 by rw [forget_f]; rfl, show (aforget A t 1).1 t 6 = 0 by rw [forget_f]; rfl, show (aforget A t 1).1 t 7 = 0 by rw [forget_f]; rfl, rowS, u_s]
      refine ⟨g5, rfl, fun _ => ?_, fun q => absurd q (by decide), rfl, rfl, fun _ => rfl, rfl, fun q => absurd q (by decide), fun q => absurd q (by decide)⟩
      rw [Int32.add_sub_cancel]
  obtain ⟨p', σ4, σ5, e4, k4, hp4, e5, hS5, k5, -⟩ := C_addS hS3 ht 7 (A.1 t 1 &&& 7)
  obtain ⟨yW, y1, y2, y3, -⟩ := hS3.1.1.2 t ht
  have x1 : (st1 σ1 (o + 59 + 48 * t) (upd (σ1.2.1 (o + 59 + 48 * t)) 6 (A.1 t 1 &&& 7))).1 (o + 59 + 48 * t) = some (.inl 5) := z1
  have x3 : (st1 σ1 (o + 59 + 48 * t) (upd (σ1.2.1 (o + 59 + 48 * t)) 6 (A.1 t 1 &&& 7))).2.2.1 (o + 59 + 48 * t) 2 = some (o + 59 + 48 * t + 1) := z3
  have x6 : (st1 σ1 (o + 59 + 48 * t) (upd (σ1.2.1 (o + 59 + 48 * t)) 6 (A.1 t 1 &&& 7))).1 (o + 59 + 48 * t + 1) = some (.inl 0) := z6
  have xd : (st1 σ1 (o + 59 + 48 * t) (upd (σ1.2.1 (o + 59 + 48 * t)) 6 (A.1 t 1 &&& 7))).2.1 (o + 59 + 48 * t + 1) = σ1.2.1 (o + 59 + 48 * t + 1) := st1_ne (by omega)
  have w1 : σ4.1 (o + 59 + 48 * t) = some (.inl 5) := by rw [k4.1]; exact y1
  have w6 : σ4.2.1 (o + 59 + 48 * t) 6 = A.1 t 1 &&& 7 := by rw [k4.2.2 _ (by omega), rowS, u_s]
  simp only [S_X5_beginCall, w_rcv s1, Option.bind_some, e1, w_gR z1, z3, w_gI z6, d4, w_pI z1, w_gR x1, x3, w_gI x6, xd, w_pI x6, hσ3, w_gR y1, y2, w_rcv yW.1, e4, w_gI w1, w6, w_rcv hp4, e5]
  refine ⟨σ5, rfl, ?_, (k1.tr (k3.f (Or.inr (by omega)))).tr k5⟩
  rw [ctl_J1] at hS5
  exact hS5
theorem K_call {σ : hp} {o n C0 : Nat} {f : Int32} {A : aA} (h : RepC σ o A C0) (hA : okA n A) : ∃ σ', S_X8_call σ o f = some ((c_call A f).1, σ') ∧ RepC σ' o (c_call A f).2 C0 ∧ keepR σ σ' o := by
  have hx := h.x
  unfold c_call
  by_cases hf : f = 0 ∨ f = 1
  · obtain ⟨c1, c2⟩ := clamp_s hf
    rw [if_pos hf]
    dsimp only
    generalize f.toNatClampNeg = t at c1 c2 ⊢
    subst c2
    obtain ⟨⟨o1, o2, o3, o4, o5, o6, o7, o8⟩, hk⟩ := h.sk
    simp only [S_X8_call, S_X8_call_19, c_isSite, if_pos hf, Option.bind_some, if_neg (show ¬ (1 : Int32) = 0 by decide), w_gR o1, o3, w_ldQ o6 c1 (by decide), (o8 t c1).2, w_gI (hk t c1).2.1, (h.1 t c1).2.2.1]
    by_cases c0 : A.1 t 0 = 0
    · rw [if_pos c0, if_pos c0]
      obtain ⟨σ1, e1, k1, hw1⟩ := c_wclear (hk 0 (by decide)).1 (h.1 0 (by decide)).1.2.2.1
      have hR1 : RepC σ1 o (aQ A 0 []) C0 := h.wire (by decide) (k1.wide (Nat.le_refl _) (by omega)) hw1
      obtain ⟨⟨y1, y2, y3, y4, y5, y6, y7, y8⟩, yk⟩ := hR1.sk
      obtain ⟨σ2, e2, k2, hw2⟩ := c_wclear (yk 1 (by decide)).1 (hR1.1 1 (by decide)).1.2.2.1
      have hR2 : RepC σ2 o (aQ (aQ A 0 []) 1 []) C0 := hR1.wire (by decide) (k2.wide (Nat.le_refl _) (by omega)) hw2
      obtain ⟨⟨z1, z2, z3, z4, z5, z6, z7, z8⟩, zk⟩ := hR2.sk
      obtain ⟨σ3, e3, hS3, k3⟩ := C_beginCall (hR2.1 t c1) c1
      have i0 : o_ldQ σ 2 (some (o + 1)) 0 = some (some (o + 2 + 28 * 0)) := by
        rw [show (0 : Int32) = nI 0 from rfl, w_ldQ o5 (by decide) (by decide), (o8 0 (by decide)).1]
      have i1 : o_ldQ σ1 2 (some (o + 1)) 1 = some (some (o + 2 + 28 * 1)) := by
        rw [show (1 : Int32) = nI 1 from rfl, w_ldQ y5 (by decide) (by decide), (y8 1 (by decide)).1]
      simp only [o2, Option.bind_some, i0, w_rcv (hk 0 (by decide)).1.1, e1, w_gR y1, y2, i1, w_rcv (yk 1 (by decide)).1.1, e2, w_gR z1, z3, w_ldQ z6 c1 (by decide), (z8 t c1).2, w_rcv (zk t c1).2.1, e3]
      refine ⟨σ3, rfl, hR2.step c1 hS3 ((sm_forget.tr sm_ctl).tr sm_aJ) k3, ((k1.r (by omega)).tr (k2.r (by omega))).tr (k3.r c1 hR2.x)⟩
    · rw [if_neg c0, if_neg c0]
      exact ⟨σ, rfl, h, keepR.rf⟩
  · rw [if_neg hf]
    simp only [S_X8_call, S_X8_call_19, c_isSite, if_neg hf, Option.bind_some, if_true]
    exact ⟨σ, rfl, h, keepR.rf⟩
theorem RS.q2 {σ : hp} {o t B C : Nat} {A : aA} (h : RS σ o t A B C) (ho : isOp (A.1 t)) (hne : A.2.1 t ≠ []) : RQ σ o t A B C := by
  obtain ⟨hP, q1, q2, q3, q4, q5, q6, q7, q8, q9, q10⟩ := h
  exact hP.q ⟨q1, q2, q3, q4, q5, q6, fun _ => q7 (Or.inr ⟨ho, hne⟩), q8, q10 ho hne, fun _ q => absurd q hne⟩
/-- the ticks are written -/
theorem RS.tk {σ : hp} {o t B C : Nat} {A A' : aA} {x y : Int32} (h : RS σ o t A B C) (ht : t < 2) (hc : A.1 t 0 = 1 ∨ (isOp (A.1 t) ∧ A.2.1 t ≠ [])) (e1 : ∀ k, k ≠ 6 → k ≠ 7 → A'.1 t k = A.1 t k) (e6 : A'.1 t 6 = x) (e7 : A'.1 t 7 = y) (e2 : A'.2 = A.2) : RS (st1 σ (o + 59 + 48 * t) (upd (upd (σ.2.1 (o + 59 + 48 * t)) 10 x) 11 y)) o t A' B C := by
  obtain ⟨hP, q1, q2, q3, q4, q5, q6, q7, q8, q9, q10⟩ := h
  have r : ∀ i, i ≠ 10 → i ≠ 11 → upd (upd (σ.2.1 (o + 59 + 48 * t)) 10 x) 11 y i = σ.2.1 (o + 59 + 48 * t) i := fun i a b => by rw [u_n b, u_n a]
  refine ⟨hP.site ht (keepI.st (by omega)) (by rw [st1_self, r 0 (by decide) (by decide)]; exact q1) (fun k hk => e1 k (by omega) (by omega)) (by rw [e2]) (by rw [e2]) (by rw [e2]), ?_⟩
  rw [e2]
  unfold siteC isOp
  unfold isOp at hc q4 q7 q9 q10
  rw [st1_self, e6, e7, e1 0 (by decide) (by decide), e1 1 (by decide) (by decide), e1 2 (by decide) (by decide), e1 3 (by decide) (by decide), e1 4 (by decide) (by decide), r 0 (by decide) (by decide), r 5 (by decide) (by decide), r 6 (by decide) (by decide), r 7 (by decide) (by decide), r 8 (by decide) (by decide), r 9 (by decide) (by decide), r 12 (by decide) (by decide)]
  refine ⟨q1, q2, q3, q4, q5, q6, fun _ => by rw [u_n (by decide), u_s], by rw [u_s], fun a b => ?_, q10⟩
  rcases hc with c | c
  · rcases a with a | a <;> rw [c] at a <;> exact absurd a (by decide)
  · exact absurd b c.2
theorem C_tick {σ : hp} {o t n B C : Nat} {A : aA} (h : RS σ o t A B C) (ht : t < 2) (hW : okW n A t) (hX : okX A t) : ∃ σ', S_X5_passTick σ (o + 59 + 48 * t) = some ((atick A t).1, σ') ∧ RS σ' o t (atick A t).2 B C ∧ keepF σ σ' o t := by
  obtain ⟨s1, s2, s3, s4, s5, s6, s7, s8, s9, s10, s11, s12, s13, s14⟩ := (h.1.1.2 t ht).2
  obtain ⟨q1, q2, q3, q4, q5, q6, q7, q8, q9, q10⟩ := h.2
  obtain ⟨g, g1, g2, g3, g4, g5, g6, g7, g8⟩ := h.1.2.2.2.1
  obtain ⟨-, xo, -, tt, x6, x40, x3⟩ := hX
  obtain ⟨kS, -, -, -, ⟨a7, a76, e7⟩, -⟩ := hW.1
  simp only [S_X5_passTick, S_X5_passTick_54, w_gI s1, q2, Option.bind_some, w_gR s1, s4, w_gI s11.1, g4, w_rcv s1, C_isOpen s1 q2]
  have un : A.1 t 0 = 1 ∨ (isOp (A.1 t) ∧ A.2.1 t ≠ []) → ∃ σ', S_X5_passTick_18 σ (o + 59 + 48 * t) = some ((atick A t).1, σ') ∧ RS σ' o t (atick A t).2 B C ∧ keepF σ σ' o t := fun hc => by
    have t3 : tt ≤ 3 := x3 (hc.imp id (fun z => z.2))
    have n0 : ¬ A.1 t 0 = 0 := by
      rcases hc with c | ⟨c | c, -⟩ <;> rw [c] <;> decide
    have no : ¬ ((A.1 t 0 = 2 ∨ A.1 t 0 = 3) ∧ A.2.1 t = []) := fun q => by
      rcases hc with c | c
      · rw [c] at q
        exact absurd q.1 (by decide)
      · exact c.2 q.2
    have r10 : σ.2.1 (o + 59 + 48 * t) 10 = nI tt := by rw [q7 hc]; exact x6
    have r11 : σ.2.1 (o + 59 + 48 * t) 11 = nI a7 := by rw [q8]; exact e7
    have ws : ∀ k : Nat → Int32, (st1 σ (o + 59 + 48 * t) k).1 (o + 59 + 48 * t) = some (.inl 5) := fun k => s1
    have eB : ∀ k, k ≠ 6 → k ≠ 7 → (aJ A t 6 (nI (tt + 1))).1 t k = A.1 t k := fun k a b => aJ_nk a
    have hS1 := h.tk (A' := aJ A t 6 (nI (tt + 1))) ht hc eB aJ_at (show (aJ A t 6 (nI (tt + 1))).1 t 7 = nI a7 by rw [aJ_nk (by decide)]; exact e7) rfl
    have id11 : upd (upd (σ.2.1 (o + 59 + 48 * t)) 10 (nI (tt + 1))) 11 (nI a7) = upd (σ.2.1 (o + 59 + 48 * t)) 10 (nI (tt + 1)) := upd_id (by rw [u_n (by decide)]; exact r11)
    rw [id11] at hS1
    have kst : ∀ k : Nat → Int32, keepF σ (st1 σ (o + 59 + 48 * t) k) o t := fun k => (keepI.st (lo := o + 59 + 48 * t) (hi := o + 59 + 48 * t + 1) (by omega)).f (Or.inr (by omega))
    unfold atick
    dsimp only
    rw [if_neg n0, if_neg no, x6, e7, nI_1]
    simp only [S_X5_passTick_18, S_X5_passTickUnanswered, w_rcv s1, w_gI s1, Option.bind_some, r10, w_pI s1, nI_1, w_gI (ws _), st1_self, u_s, u_n (show 11 ≠ 10 by decide), r11]
    by_cases c4 : tt + 1 < 4
    · rw [if_neg (show ¬ (4 : Int32) ≤ nI (tt + 1) from nI_ge (b := 4) c4 (by decide)), if_pos (show nI (tt + 1) < 4 from nI_lt (b := 4) c4 (by decide))]
      exact ⟨_, rfl, hS1, kst _⟩
    · rw [if_pos (show (4 : Int32) ≤ nI (tt + 1) from nI_le (a := 4) (by omega) (by omega)), if_neg (show ¬ nI (tt + 1) < 4 from nI_nlt (b := 4) (by omega) (by omega))]
      by_cases c5 : a7 < 5
      · rw [if_pos (show nI a7 < 5 from nI_lt (b := 5) c5 (by decide)), if_neg (show ¬ nI a7 = 5 from fun q => by
          have := (nI_eq (a := a7) (b := 5) (by omega) (by decide)).mp q
          omega)]
        have EC : ∀ k, k ≠ 6 → k ≠ 7 → (aJ (aJ (aJ A t 6 (nI (tt + 1))) t 7 (nI (a7 + 1))) t 6 0).1 t k = A.1 t k := fun k a b => by rw [aJ_nk a, aJ_nk b, aJ_nk a]
        have hS2 := h.tk (A' := aJ (aJ (aJ A t 6 (nI (tt + 1))) t 7 (nI (a7 + 1))) t 6 0) ht hc EC aJ_at (show (aJ (aJ (aJ A t 6 (nI (tt + 1))) t 7 (nI (a7 + 1))) t 6 0).1 t 7 = nI (a7 + 1) by rw [aJ_nk (by decide), aJ_at]) rfl
        have irow : upd (upd (upd (σ.2.1 (o + 59 + 48 * t)) 10 (nI (tt + 1))) 11 (nI (a7 + 1))) 10 0 = upd (upd (σ.2.1 (o + 59 + 48 * t)) 10 0) 11 (nI (a7 + 1)) := by
          funext i
          unfold upd
          by_cases i10 : i = 10
          · simp [i10]
          · by_cases i11 : i = 11
            · simp [i11]
            · simp [i10, i11]
        simp only [Option.bind_some, w_pI (ws _), st1_self, st1_st1, nI_1, irow, w_gI (ws _)]
        have k2 := kst (upd (upd (σ.2.1 (o + 59 + 48 * t)) 10 0) 11 (nI (a7 + 1)))
        have s5' : (upd (upd (σ.2.1 (o + 59 + 48 * t)) 10 0) 11 (nI (a7 + 1))) 5 = A.1 t 0 := by rw [u_n (by decide), u_n (by decide)]; exact q2
        have s6' : A.1 t 0 = 1 → (st1 σ (o + 59 + 48 * t) (upd (upd (σ.2.1 (o + 59 + 48 * t)) 10 0) 11 (nI (a7 + 1)))).2.1 (o + 59 + 48 * t) 6 = (A.1 t 1 - 1) &&& 7 := fun c => by rw [st1_self, u_n (by decide), u_n (by decide)]; exact q3 c
        simp only [s5']
        generalize st1 σ (o + 59 + 48 * t) (upd (upd (σ.2.1 (o + 59 + 48 * t)) 10 0) 11 (nI (a7 + 1))) = σ2 at hS2 k2 s6' ⊢
        obtain ⟨yW, y1, y2, y3, y4, -, -, -, -, -, -, y11, -⟩ := hS2.1.1.2 t ht
        by_cases cc : A.1 t 0 = 1
        · rw [if_pos cc, if_pos cc]
          obtain ⟨p', σ4, σ5, e4, k4, hp4, e5, hS5, k5, -⟩ := C_addS hS2 ht 7 ((A.1 t 1 - 1) &&& 7)
          have w1 : σ4.1 (o + 59 + 48 * t) = some (.inl 5) := by rw [k4.1]; exact y1
          have w6 : σ4.2.1 (o + 59 + 48 * t) 6 = (A.1 t 1 - 1) &&& 7 := by rw [k4.2.2 _ (by omega)]; exact s6' cc
          simp only [w_gR y1, y2, w_rcv yW.1, Option.bind_some, e4, w_gI w1, w6, w_rcv hp4, e5]
          exact ⟨σ5, rfl, hS5, k2.tr k5⟩
        · rw [if_neg cc, if_neg cc]
          have hop : isOp (A.1 t) ∧ A.2.1 t ≠ [] := hc.resolve_left cc
          have hQ2 := hS2.q2 (by unfold isOp; rw [EC 0 (by decide) (by decide)]; exact hop.1) hop.2
          obtain ⟨σ3, e3, hR3, k3⟩ := C_send (k := 0) hQ2 ht (by omega)
          rw [show nI 0 = (0 : Int32) from rfl] at e3
          obtain ⟨v1, -, -, v4, -, -, -, -, -, -, v11, -⟩ := (hR3.1.2 t ht).2
          rw [Nat.sub_zero, ← aagain_R] at hR3
          obtain ⟨g', -, -, -, g4', -⟩ := hR3.2.2.2.1
          rw [show ((aagain (aJ (aJ (aJ A t 6 (nI (tt + 1))) t 7 (nI (a7 + 1))) t 6 0) t).2.1 t).length = (A.2.1 t).length by rw [aagain_R, (agR_J _ _ _).2.1]; rfl] at g4'
          simp only [w_rcv y1, Option.bind_some, e3, w_gR v1, v4, w_gI v11.1, g4']
          exact ⟨σ3, rfl, hR3.s, k2.tr k3⟩
      · obtain rfl : a7 = 5 := by omega
        rw [if_neg (show ¬ nI 5 < 5 by decide), if_pos (show nI 5 = 5 from rfl)]
        obtain ⟨σ3, e3, hR3, k3, -, -⟩ := C_begin' (st := 0) (x := (aJ A t 6 (nI (tt + 1))).1 t 2) hS1.1 ht (by decide) (fun q => absurd q (by decide))
        rw [forget_2] at hR3
        simp only [w_rcv (ws _), Option.bind_some, e3]
        exact ⟨σ3, rfl, hR3.s, (kst _).tr k3⟩
  by_cases c1 : A.1 t 0 = 1
  · rw [if_pos c1]
    exact un (Or.inl c1)
  · rw [if_neg c1]
    by_cases cl : A.2.1 t = []
    · rw [cl, if_pos (show nI ([] : List Msg).length ≤ 0 by decide)]
      unfold atick
      dsimp only
      by_cases co : A.1 t 0 = 2 ∨ A.1 t 0 = 3
      · have n0 : ¬ A.1 t 0 = 0 := by
          rcases co with c | c <;> rw [c] <;> decide
        rw [if_pos co, if_neg (show ¬ (1 : Int32) = 0 by decide), if_neg n0, if_pos ⟨co, cl⟩, x6, nI_1]
        obtain ⟨z10, z12⟩ := q9 co cl
        rw [x6] at z12
        have ws : ∀ k : Nat → Int32, (st1 σ (o + 59 + 48 * t) k).1 (o + 59 + 48 * t) = some (.inl 5) := fun k => s1
        simp only [z12, w_pI s1, Option.bind_some, w_gI (ws _), st1_self, u_s, nI_1]
        have EB : ∀ k, k ≠ 6 → (aJ A t 6 (nI (tt + 1))).1 t k = A.1 t k := fun k a => aJ_nk a
        have k1 : keepI σ (st1 σ (o + 59 + 48 * t) (upd (σ.2.1 (o + 59 + 48 * t)) 12 (nI (tt + 1)))) (o + 59 + 48 * t) (o + 59 + 48 * t + 1) := keepI.st (by omega)
        have r : ∀ i, i ≠ 12 → upd (σ.2.1 (o + 59 + 48 * t)) 12 (nI (tt + 1)) i = σ.2.1 (o + 59 + 48 * t) i := fun i a => u_n a
        have hP1 : RP (st1 σ (o + 59 + 48 * t) (upd (σ.2.1 (o + 59 + 48 * t)) 12 (nI (tt + 1)))) o t (aJ A t 6 (nI (tt + 1))) B C := h.1.site ht k1 (by rw [st1_self, r 0 (by decide)]; exact q1) (fun k hk => EB k (by omega)) rfl rfl rfl
        have kF : keepF σ (st1 σ (o + 59 + 48 * t) (upd (σ.2.1 (o + 59 + 48 * t)) 12 (nI (tt + 1)))) o t := k1.f (Or.inr (by omega))
        by_cases c41 : tt + 1 < 41
        · rw [if_pos (show nI (tt + 1) < 41 from nI_lt (b := 41) c41 (by decide)), if_neg (show ¬ nI (tt + 1) = 41 from fun q => by
            have := (nI_eq (a := tt + 1) (b := 41) (by omega) (by decide)).mp q
            omega)]
          refine ⟨_, rfl, ⟨hP1, ?_⟩, kF⟩
          show siteC _ _ _ (A.2.1 t) t
          unfold siteC isOp
          unfold isOp at q4 q7 q9 q10
          rw [st1_self, aJ_at, EB 0 (by decide), EB 1 (by decide), EB 2 (by decide), EB 3 (by decide), EB 4 (by decide), EB 7 (by decide), r 0 (by decide), r 5 (by decide), r 6 (by decide), r 7 (by decide), r 8 (by decide), r 9 (by decide), r 10 (by decide), r 11 (by decide), u_s]
          exact ⟨q1, q2, q3, q4, q5, q6, fun q => q.elim (fun z => absurd z c1) (fun z => absurd cl z.2), q8, fun _ _ => ⟨z10, rfl⟩, fun _ b => absurd cl b⟩
        · obtain rfl : tt = 40 := by omega
          rw [if_neg (show ¬ nI (40 + 1) < 41 by decide), if_pos (show nI (40 + 1) = 41 from rfl)]
          obtain ⟨σ3, e3, hR3, k3, -, -⟩ := C_begin' (st := 0) (x := (aJ A t 6 (nI (40 + 1))).1 t 2) hP1 ht (by decide) (fun q => absurd q (by decide))
          rw [forget_2] at hR3
          simp only [w_rcv (ws _), Option.bind_some, e3]
          exact ⟨σ3, rfl, hR3.s, kF.tr k3⟩
      · rw [if_neg co, if_pos (show (0 : Int32) = 0 from rfl)]
        have n0 : A.1 t 0 = 0 := by
          rcases kS with c | c | c | c
          · exact c
          · exact absurd c c1
          · exact absurd (Or.inl c) co
          · exact absurd (Or.inr c) co
        rw [if_pos n0]
        exact ⟨σ, rfl, h, keepF.rf⟩
    · have hl : 0 < (A.2.1 t).length := List.length_pos_iff.mpr cl
      rw [if_neg (show ¬ nI (A.2.1 t).length ≤ 0 from nI_nle hl (by omega))]
      have co : A.1 t 0 = 2 ∨ A.1 t 0 = 3 := by
        rcases kS with c | c | c | c
        · exact absurd (xo (Or.inl c)).1 cl
        · exact absurd c c1
        · exact Or.inl c
        · exact Or.inr c
      exact un (Or.inr ⟨co, cl⟩)
theorem sm_tick {A : aA} {s : Nat} : sm A (atick A s).2 s := by
  unfold atick
  dsimp only
  split
  · exact sm.rf
  · split
    · dsimp only
      split
      · exact sm_aJ.tr sm_forget
      · exact sm_aJ
    · split
      · exact sm_aJ
      · split
        · exact sm_aJ.tr sm_forget
        · split
          · exact ((sm_aJ.tr sm_aJ).tr sm_aJ).tr sm_ctl
          · exact ((sm_aJ.tr sm_aJ).tr sm_aJ).tr sm_again
theorem K_tick {σ : hp} {o n C0 : Nat} {A : aA} (h : RepC σ o A C0) (hA : okA n A) : ∃ σ', S_X8_tick σ o = some ((c_tick A).1, σ') ∧ RepC σ' o (c_tick A).2 C0 ∧ keepR σ σ' o := by
  unfold c_tick
  dsimp only
  obtain ⟨⟨o1, o2, o3, o4, o5, o6, o7, o8⟩, hk⟩ := h.sk
  obtain ⟨σ1, e1, hS1, k1⟩ := C_tick (h.1 0 (by decide)) (by decide) (hA.1 0 (by decide)).1 (hA.1 0 (by decide)).2
  have hR1 := h.step (by decide) hS1 sm_tick k1
  have hA1 := tick_ok hA (show 0 < 2 by decide)
  obtain ⟨⟨y1, y2, y3, y4, y5, y6, y7, y8⟩, yk⟩ := hR1.sk
  obtain ⟨σ2, e2, hS2, k2⟩ := C_tick (hR1.1 1 (by decide)) (by decide) (hA1.1 1 (by decide)).1 (hA1.1 1 (by decide)).2
  have hR2 := hR1.step (by decide) hS2 sm_tick k2
  have i0 : o_ldQ σ 4 (some (o + 58)) 0 = some (some (o + 59 + 48 * 0)) := by
    rw [show (0 : Int32) = nI 0 from rfl, w_ldQ o6 (by decide) (by decide), (o8 0 (by decide)).2]
  have i1 : o_ldQ σ1 4 (some (o + 58)) 1 = some (some (o + 59 + 48 * 1)) := by
    rw [show (1 : Int32) = nI 1 from rfl, w_ldQ y6 (by decide) (by decide), (y8 1 (by decide)).2]
  simp only [S_X8_tick, w_gR o1, o3, Option.bind_some, i0, w_rcv (hk 0 (by decide)).2.1, e1, w_gR y1, y3, i1, w_rcv (yk 1 (by decide)).2.1, e2]
  exact ⟨σ2, rfl, hR2, (k1.r (by decide) h.x).tr (k2.r (by decide) hR1.x)⟩
