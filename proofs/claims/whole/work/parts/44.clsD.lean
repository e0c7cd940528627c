/-! The class: begin; messages written; goOn, addFile, takeOffer. -/
/-- all of a site but its own ints -/
def RP (σ : hp) (o t : Nat) (A : aA) (B C : Nat) : Prop := SkC σ o ∧ roomC σ o (A.1 t) B C ∧ wireC σ (o + 2 + 28 * t) (A.2.2.2 t) ∧ winC σ (o + 59 + 48 * t + 4) (A.1 t 5) (A.2.1 t) (A.2.2.1 t) ∧ σ.2.1 (o + 59 + 48 * t) 0 = nI t ∧ intC σ (o + 59 + 48 * t) (A.1 t) ∧ diskC σ o (o + 59 + 48 * t) (A.1 t)
theorem RQ.p {σ : hp} {o t B C : Nat} {A : aA} (h : RQ σ o t A B C) : RP σ o t A B C := ⟨h.1, h.2.1, h.2.2.1, h.2.2.2.1, h.2.2.2.2.1.1, h.2.2.2.2.2.1, h.2.2.2.2.2.2⟩
theorem RP.q {σ : hp} {o t B C : Nat} {A : aA} (h : RP σ o t A B C) (hs : siteQ σ (o + 59 + 48 * t) (A.1 t) (A.2.1 t) t) : RQ σ o t A B C := ⟨h.1, h.2.1, h.2.2.1, h.2.2.2.1, hs, h.2.2.2.2.2.1, h.2.2.2.2.2.2⟩
theorem forget_f {A : aA} {s : Nat} {st : Int32} : (aforget A s st).1 s = fun k => if k = 0 then st else if k = 5 then 1 else if k = 3 ∨ k = 4 ∨ k = 6 ∨ k = 7 ∨ k = 8 then 0 else A.1 s k := va_up_self _ _ _
theorem forget_k {A : aA} {s k : Nat} {st : Int32} (h : k = 1 ∨ k = 2 ∨ 9 ≤ k) : (aforget A s st).1 s k = A.1 s k := by
  rw [forget_f]
  show (if k = 0 then st else if k = 5 then 1 else if k = 3 ∨ k = 4 ∨ k = 6 ∨ k = 7 ∨ k = 8 then 0 else A.1 s k) = _
  rw [if_neg (by omega), if_neg (by omega), if_neg (by omega)]
theorem C_begin {σ : hp} {o t B C : Nat} {A : aA} {st : Int32} (h : RP σ o t A B C) (ht : t < 2) : ∃ σ', S_X5_begin σ (o + 59 + 48 * t) st = some σ' ∧ RP σ' o t (aforget A t st) B C ∧ keepF σ σ' o t ∧ σ'.1 = σ.1 ∧ σ'.2.2 = σ.2.2 ∧ σ'.2.1 (o + 59 + 48 * t) 5 = st ∧ σ'.2.1 (o + 59 + 48 * t) 7 = -1 ∧ σ'.2.1 (o + 59 + 48 * t) 8 = 0 ∧ σ'.2.1 (o + 59 + 48 * t) 9 = 0 ∧ σ'.2.1 (o + 59 + 48 * t) 10 = 0 ∧ σ'.2.1 (o + 59 + 48 * t) 11 = 0 ∧ σ'.2.1 (o + 59 + 48 * t) 12 = 0 := by
  obtain ⟨h1, h2, h3, h4, h5, h6, h7⟩ := h
  obtain ⟨s1, s2, s3, s4, s5, s6, s7, s8, s9, s10, s11, s12, s13, s14⟩ := (h1.2 t ht).2
  generalize hS : o + 59 + 48 * t = S at *
  simp only [S_X5_begin, w_pI s1, Option.bind_some]
  generalize hσ1 : st1 σ S (upd (σ.2.1 S) 5 st) = σ1
  have k1 : keepI σ σ1 S (S + 1) := by rw [← hσ1]; exact keepI.st (by omega)
  have s1' : σ1.1 S = some (.inl 5) := by rw [k1.1]; exact s1
  have eR1 : σ1.2.2.1 = σ.2.2.1 := by rw [k1.2.1]
  obtain ⟨σ2, e2, k2, hw2⟩ := c_nclear (s11.of k1.1 k1.2.1) (h4.cg (fun c _ _ => k1.2.2 c (by omega)))
  have s11' : σ1.1 (S + 4) = some (.inl 6) := by rw [k1.1]; exact s11.1
  have s1'' : σ2.1 S = some (.inl 5) := by rw [k2.1]; exact s1'
  have eR2 : σ2.2.2.1 = σ.2.2.1 := by rw [k2.2.1, eR1]
  have s12' : σ2.1 (S + 46) = some (.inl 1) := by rw [k2.1, k1.1]; exact s12
  simp only [w_gR s1', eR1, s4, Option.bind_some, w_rcv s11', e2, w_gR s1'', eR2, s5, w_rcv s12', S_X1_forget, w_z0, w_pI s12']
  generalize hσ3 : st1 σ2 (S + 46) (upd (σ2.2.1 (S + 46)) 1 0) = σ3
  have k3 : keepI σ2 σ3 (S + 46) (S + 47) := by rw [← hσ3]; exact keepI.st (by omega)
  have s1c : σ3.1 S = some (.inl 5) := by rw [k3.1]; exact s1''
  have row3 : σ3.2.1 S = upd (σ.2.1 S) 5 st := by rw [k3.2.2 S (by omega), k2.2.2 S (by omega), ← hσ1, st1_self]
  have w1 : ∀ g : Nat → Int32, (st1 σ3 S g).1 S = some (.inl 5) := fun g => s1c
  simp only [w_pI s1c, Option.bind_some, row3, w_pI (w1 _), st1_self, st1_st1]
  generalize hσ4 : st1 σ3 S (upd (upd (upd (upd (upd (upd (upd (σ.2.1 S) 5 st) 7 (-1)) 8 0) 9 0) 10 0) 11 0) 12 0) = σ4
  have k4 : keepI σ3 σ4 S (S + 1) := by rw [← hσ4]; exact keepI.st (by omega)
  have kT : σ4.1 = σ.1 := k4.1.trans (k3.1.trans (k2.1.trans k1.1))
  have kR : σ4.2.2 = σ.2.2 := k4.2.1.trans (k3.2.1.trans (k2.2.1.trans k1.2.1))
  have kI : ∀ c, c ≠ S → c ≠ S + 4 → c ≠ S + 46 → σ4.2.1 c = σ.2.1 c := fun c c1 c2 c3 => by rw [k4.2.2 c (by omega), k3.2.2 c (by omega), k2.2.2 c (by omega), k1.2.2 c (by omega)]
  have row4 : σ4.2.1 S = upd (upd (upd (upd (upd (upd (upd (σ.2.1 S) 5 st) 7 (-1)) 8 0) 9 0) 10 0) 11 0) 12 0 := by rw [← hσ4, st1_self]
  have row46 : σ4.2.1 (S + 46) = upd (σ.2.1 (S + 46)) 1 0 := by rw [k4.2.2 _ (by omega), ← hσ3, st1_self, k2.2.2 _ (by omega), k1.2.2 _ (by omega)]
  refine ⟨σ4, rfl, ⟨h1.of kT kR, ?_, ?_, ?_, ?_, ?_, ?_⟩, ⟨by rw [kR]; exact Nat.le_refl _, fun a a1 a2 a3 => ⟨by rw [kT], kI a (by omega) (by omega) (by omega), by rw [kR]⟩⟩, kT, kR, ?_, ?_, ?_, ?_, ?_, ?_, ?_⟩
  · exact h2.cg kR (forget_k (by omega)) (forget_k (by omega))
  · exact h3.cg (fun c _ _ => kI c (by omega) (by omega) (by omega))
  · rw [hS, show (aforget A t st).1 t 5 = 1 by rw [forget_f]; rfl, show (aforget A t st).2.1 t = [] from va_up_self _ _ _, show (aforget A t st).2.2.1 t = [] from va_up_self _ _ _]
    exact hw2.cg (fun c _ _ => by rw [k4.2.2 c (by omega), k3.2.2 c (by omega)])
  · rw [hS, row4, u_n (by decide), u_n (by decide), u_n (by decide), u_n (by decide), u_n (by decide), u_n (by decide), u_n (by decide)]; exact h5
  · rw [hS]
    obtain ⟨i1, i2, i3, i4, i5⟩ := h6
    refine ⟨?_, ?_, ?_, ?_, fun i hi => ?_⟩
    · rw [row46, u_s, forget_f]; rfl
    · rw [row46, u_n (by decide), forget_k (by omega)]; exact i2
    · rw [row46, u_n (by decide), forget_k (by omega)]; exact i3
    · rw [row46, u_n (by decide), forget_k (by omega)]; exact i4
    · rw [kI _ (by omega) (by omega) (by omega), forget_k (by omega)]; exact i5 i hi
  · rw [hS]
    exact h7.cg (kI _ (by omega) (by omega) (by omega)) (by rw [kR]) (by rw [kR]) ⟨by rw [kR]; exact Nat.le_refl _, fun c c1 c2 => ⟨by rw [kT], kI c (by omega) (by omega) (by omega), by rw [kR]⟩⟩ (fun k _ => forget_k (by omega))
  · rw [row4, u_n (by decide), u_n (by decide), u_n (by decide), u_n (by decide), u_n (by decide), u_n (by decide), u_s]
  · rw [row4, u_n (by decide), u_n (by decide), u_n (by decide), u_n (by decide), u_n (by decide), u_s]
  · rw [row4, u_n (by decide), u_n (by decide), u_n (by decide), u_n (by decide), u_s]
  · rw [row4, u_n (by decide), u_n (by decide), u_n (by decide), u_s]
  · rw [row4, u_n (by decide), u_n (by decide), u_s]
  · rw [row4, u_n (by decide), u_s]
  · rw [row4, u_s]
/-- a new session, idle or open -/
theorem C_begin' {σ : hp} {o t B C : Nat} {A : aA} {st x : Int32} (h : RP σ o t A B C) (ht : t < 2) (h1 : ¬ st = 1) (hx : st = 2 ∨ st = 3 → x = -1) : ∃ σ', S_X5_begin σ (o + 59 + 48 * t) st = some σ' ∧ RQ σ' o t (aJ (aforget A t st) t 2 x) B C ∧ keepF σ σ' o t ∧ σ'.1 = σ.1 ∧ σ'.2.2 = σ.2.2 := by
  obtain ⟨σ', e, hP, k, kT, kR, r5, r7, r8, r9, r10, r11, r12⟩ := C_begin (st := st) h ht
  refine ⟨σ', e, ?_, k, kT, kR⟩
  have EJ : ∀ k, k ≠ 2 → (aJ (aforget A t st) t 2 x).1 t k = (aforget A t st).1 t k := fun k hk => aJ_nk hk
  obtain ⟨g1, g2, g3, g4, g5, g6, g7⟩ := hP
  refine ⟨g1, g2.cg rfl (EJ _ (by decide)) (EJ _ (by decide)), g3, by rw [EJ 5 (by decide)]; exact g4, ?_, g6.cg rfl rfl (fun k _ => EJ k (by omega)), g7.cg rfl rfl rfl ⟨Nat.le_refl _, fun _ _ _ => ⟨rfl, rfl, rfl⟩⟩ (fun k _ => EJ k (by omega))⟩
  have e0 : (aforget A t st).1 t 0 = st := by rw [forget_f]; rfl
  unfold siteQ isOp
  rw [EJ 0 (by decide), e0, EJ 1 (by decide), EJ 3 (by decide), EJ 4 (by decide), EJ 6 (by decide), EJ 7 (by decide), aJ_at, r5, r7, r8, r9, r10, r11, r12, show (aforget A t st).1 t 3 = 0 by rw [forget_f]; rfl, show (aforget A t st).1 t 4 = 0 by rw [forget_f]; rfl, show (aforget A t st).1 t 6 = 0 by rw [forget_f]; rfl, show (aforget A t st).1 t 7 = 0 by rw [forget_f]; rfl]
  exact ⟨g5, rfl, fun q => absurd q h1, fun q => (hx q).symm, rfl, rfl, fun _ => rfl, rfl, rfl, fun _ _ => rfl⟩
/-- a message is being written -/
def PQ (σ : hp) (o t : Nat) (A : aA) (a : Nat) (msg : Msg) (B C : Nat) : Prop := SkC σ o ∧ roomC σ o (A.1 t) B C ∧ wireC σ (o + 2 + 28 * t) (A.2.2.2 t) ∧ penC σ (o + 59 + 48 * t + 4) (A.1 t 5) (A.2.1 t) (A.2.2.1 t) a msg ∧ siteQ σ (o + 59 + 48 * t) (A.1 t) (A.2.1 t) t ∧ intC σ (o + 59 + 48 * t) (A.1 t) ∧ diskC σ o (o + 59 + 48 * t) (A.1 t) ∧ mkM σ a
theorem PQ.done {σ : hp} {o t a B C : Nat} {A : aA} {msg : Msg} (h : PQ σ o t A a msg B C) : RQ σ o t (aadd A t msg) B C := by
  obtain ⟨h1, h2, h3, h4, h5, h6, h7, h8⟩ := h
  have hw := h4.win
  unfold aadd
  by_cases c : (A.2.1 t).length + (A.2.2.1 t).length < 19
  · rw [if_pos c] at hw ⊢
    refine ⟨h1, h2, h3, ?_, h5, h6, h7⟩
    show winC σ _ _ _ (va_up A.2.2.1 t _ t)
    rw [va_up_self]
    exact hw
  · rw [if_neg c] at hw ⊢
    exact ⟨h1, h2, h3, hw, h5, h6, h7⟩
theorem PQ.kp {σ σ' : hp} {o t a B C : Nat} {A : aA} {msg msg' : Msg} (h : PQ σ o t A a msg B C) (ht : t < 2) (k : keepI σ σ' (o + 59 + 48 * t + 4) (o + 59 + 48 * t + 4 + 42)) (hp : penC σ' (o + 59 + 48 * t + 4) (A.1 t 5) (A.2.1 t) (A.2.2.1 t) a msg') : PQ σ' o t A a msg' B C := by
  obtain ⟨h1, h2, h3, h4, h5, h6, h7, h8⟩ := h
  exact ⟨h1.of k.1 k.2.1, h2.cg k.2.1 rfl rfl, h3.cg (fun c _ _ => k.2.2 c (by omega)), hp, h5.cg (k.2.2 _ (by omega)) (fun _ _ _ => rfl) (fun _ q => Or.inl q), h6.cg (k.2.2 _ (by omega)) (k.2.2 _ (by omega)) (fun _ _ => rfl), h7.cg (k.2.2 _ (by omega)) (by rw [k.2.1]) (by rw [k.2.1]) (k.j (by omega)) (fun _ _ => rfl), by unfold mkM; rw [k.1, k.2.1]; exact h8⟩
theorem C_nadd {σ : hp} {o t B C : Nat} {A : aA} {letter : Int32} (h : RQ σ o t A B C) (ht : t < 2) : ∃ a σ1, S_X6_add σ (o + 59 + 48 * t + 4) letter = some (some a, σ1) ∧ PQ σ1 o t A a (mk1 letter) B C ∧ keepF σ σ1 o t ∧ σ1.1 = σ.1 ∧ σ1.2.2 = σ.2.2 := by
  obtain ⟨a, σ1, e, k, hp, hM, a1, a2⟩ := c_nadd (letter := letter) (h.1.2 t ht).2.2.2.2.2.2.2.2.2.2.2.1 h.2.2.2.1
  obtain ⟨h1, h2, h3, h4, h5, h6, h7⟩ := h
  exact ⟨a, σ1, e, ⟨h1.of k.1 k.2.1, h2.cg k.2.1 rfl rfl, h3.cg (fun c _ _ => k.2.2 c (by omega)), hp, h5.cg (k.2.2 _ (by omega)) (fun _ _ _ => rfl) (fun _ q => Or.inl q), h6.cg (k.2.2 _ (by omega)) (k.2.2 _ (by omega)) (fun _ _ => rfl), h7.cg (k.2.2 _ (by omega)) (by rw [k.2.1]) (by rw [k.2.1]) (k.j (by omega)) (fun _ _ => rfl), hM⟩, k.f (Or.inr (by omega)), k.1, k.2.1⟩
theorem C_append {σ : hp} {o t a c B C : Nat} {A : aA} {msg : Msg} {b : Int32} (h : PQ σ o t A a msg B C) (ht : t < 2) (hc : msg 0 = nI c) (hc2 : c < 31) : ∃ σ1, S_X3_append σ a b = some σ1 ∧ PQ σ1 o t A a (upd (upd msg 0 (nI (c + 1))) (c + 1) b) B C ∧ keepF σ σ1 o t ∧ σ1.1 = σ.1 ∧ σ1.2.2 = σ.2.2 := by
  obtain ⟨σ1, e, k, hp⟩ := c_append (b := b) h.2.2.2.2.2.2.2 h.2.2.2.1 hc hc2
  exact ⟨σ1, e, h.kp ht k hp, k.f (Or.inr (by omega)), k.1, k.2.1⟩
theorem keepF.j {σ σ' : hp} {o t : Nat} (h : keepF σ σ' o t) (ht : t < 2) : keepJ σ σ' o := ⟨h.1, fun a a1 a2 => h.2 a a2 (by omega) (by omega)⟩
/-- the queue's first job -/
theorem C_first {σ : hp} {o t B C u v : Nat} {A : aA} (h : RQ σ o t A B C) (ht : t < 2) (hu : A.1 t 12 = nI u) (hv : A.1 t 13 = nI v) (hvu : v ≤ u) (hu2 : u ≤ 30) : (v = 0 ∧ S_X0_firstJob σ (o + 59 + 48 * t + 1) = some none) ∨ (0 < v ∧ ∃ a l, S_X0_firstJob σ (o + 59 + 48 * t + 1) = some (some a) ∧ A.1 t (200 + (u - v)) = nI l ∧ jobC σ o a (nI (u - v)) l (fun i => A.1 t (1000 + 100 * (u - v) + i))) := by
  obtain ⟨s1, s2, s3, s4, s5, s6, s7, s8, s9, s10, s11, s12, s13, s14⟩ := (h.1.2 t ht).2
  obtain ⟨d1, d2, d3, d4, d5, d6⟩ := h.2.2.2.2.2.2
  rw [hu, hv, pk_sub hvu] at d1
  rw [hu] at d2
  simp only [S_X0_firstJob, S_X0_firstJob_24, w_gI s6, Option.bind_some, d1, d2]
  rcases Nat.eq_zero_or_pos v with q | q
  · left
    rw [if_pos (nI_le (by omega) (by omega))]
    exact ⟨q, rfl⟩
  · right
    rw [if_neg (nI_ge (by omega) (by omega))]
    obtain ⟨a, l, a1, a2, a3⟩ := d5 (u - v) (by omega) (by rw [hu]; exact nI_lt (by omega) (by omega))
    simp only [w_gR s6, s7, Option.bind_some, w_ldQ s9 (show u - v < 30 by omega) (by decide), a1]
    exact ⟨q, a, l, rfl, a2, a3⟩
theorem C_goOn {σ : hp} {o t B C : Nat} {A : aA} (h : RQ σ o t A B C) (ht : t < 2) (hD : okDk (A.1 t)) : ∃ σ', S_X5_goOn σ (o + 59 + 48 * t) = some σ' ∧ RQ σ' o t (agoOn aadd A t) B C ∧ keepF σ σ' o t := by
  obtain ⟨s1, s2, s3, s4, s5, s6, s7, s8, s9, s10, s11, s12, s13, s14⟩ := (h.1.2 t ht).2
  obtain ⟨u, v, hu, hv, hvu, hu2, -⟩ := hD
  simp only [S_X5_goOn, w_gR s1, s3, s4, Option.bind_some, w_rcv s6, w_rcv s11.1]
  unfold agoOn
  rcases C_first h ht hu hv hvu hu2 with ⟨v0, e⟩ | ⟨v0, ja, l, e, hl, hj⟩
  · rw [e, if_pos (show A.1 t 13 = 0 by rw [hv, v0]; rfl)]
    simp only [Option.bind_some]
    rw [if_pos trivial]
    obtain ⟨a, σ1, e1, hP, k1, -⟩ := C_nadd (letter := 72) h ht
    rw [e1]
    exact ⟨σ1, rfl, hP.done, k1⟩
  · rw [e, if_neg (show ¬ A.1 t 13 = 0 by rw [hv]; exact nI_ne0 v0 (by omega))]
    simp only [Option.bind_some]
    rw [if_neg (show ¬ (some ja = none) by simp)]
    obtain ⟨a, σ1, e1, hP1, k1, kT1, kR1⟩ := C_nadd (letter := 83) h ht
    rw [e1]
    have hj1 := hj.cg (k1.j ht) (fun _ _ => rfl)
    obtain ⟨σ2, e2, hP2, k2, kT2, kR2⟩ := C_append (c := 1) (b := nI (u - v)) hP1 ht rfl (by decide)
    have hj2 := hj1.cg (k2.j ht) (fun _ _ => rfl)
    obtain ⟨σ3, e3, hP3, k3, kT3, kR3⟩ := C_append (c := 2) (b := nI l) hP2 ht rfl (by decide)
    obtain ⟨j1, j2, j3, j4, j5, j6, j7, j8⟩ := hj1
    obtain ⟨i1, i2, i3, i4, i5, i6, i7, i8⟩ := hj2
    simp only [Option.bind_some, w_gI j4, j5, w_rcv hP1.2.2.2.2.2.2.2.1, e2, w_gR i4, i6, w_len i7, w_rcv hP2.2.2.2.2.2.2.2.1, e3]
    refine ⟨σ3, rfl, ?_, (k1.tr k2).tr k3⟩
    rw [hu, hv, pk_sub hvu, nI_clamp (by omega), hl]
    have em : mkS (nI (u - v)) (nI l) = upd (upd (upd (upd (mk1 83) 0 (nI (1 + 1))) (1 + 1) (nI (u - v))) 0 (nI (2 + 1))) (2 + 1) (nI l) := by
      funext i
      unfold upd mkS mk1
      by_cases i0 : i = 0
      · simp [i0]; rfl
      · by_cases i1 : i = 1
        · simp [i1]
        · by_cases i2 : i = 2
          · simp [i2]
          · by_cases i3 : i = 3
            · simp [i3]
            · simp [i0, i1, i2, i3]
    rw [em]
    exact hP3.done
theorem C_file51 {rec15 : hp → Nat → Option Nat → Int32 → Option hp} {o t B C ja num l q e a : Nat} {A : aA} {g : Nat → Int32} (ht : t < 2) (hqe : q < e) (hel : e ≤ l) (he30 : e ≤ q + 30) : ∀ (d c N : Nat) (σ : hp), q + c + d = e → d < N → PQ σ o t A a (mkD (fun i => g (q + i)) c) B C → jobC σ o ja (nI num) l g → ∃ σ', S_X5_addFile_51 rec15 N σ (o + 59 + 48 * t) (some ja) (nI q) (some a) (nI e) (nI (q + c)) = rec15 σ' (o + 59 + 48 * t) (some ja) (nI q + 30) ∧ RQ σ' o t (aadd A t (mkD (fun i => g (q + i)) (e - q))) B C ∧ keepF σ σ' o t ∧ jobC σ' o ja (nI num) l g := by
  intro d
  induction d with
  | zero =>
    intro c N σ hc hN hP hj
    obtain ⟨N, rfl⟩ : ∃ z, N = z + 1 := ⟨N - 1, by omega⟩
    have hl := hj.2.2.1
    refine ⟨σ, ?_, ?_, keepF.rf, hj⟩
    · simp only [S_X5_addFile_51, S_X5_addFile_51_b]
      rw [if_pos (nI_le (by omega) (by omega))]
    · rw [show e - q = c by omega]
      exact hP.done
  | succ d ih =>
    intro c N σ hc hN hP hj
    obtain ⟨N, rfl⟩ : ∃ z, N = z + 1 := ⟨N - 1, by omega⟩
    obtain ⟨j1, j2, j3, j4, j5, j6, j7, j8⟩ := id hj
    simp only [S_X5_addFile_51, S_X5_addFile_51_b]
    rw [if_neg (nI_ge (by omega) (by omega))]
    obtain ⟨σ1, e1, hP1, k1, -⟩ := C_append (c := 1 + c) (b := g (q + c)) hP ht rfl (by omega)
    simp only [w_gR j4, j6, Option.bind_some, w_ldI j7 (show q + c < l by omega) (by omega), j8 _ (show q + c < l by omega), w_rcv hP.2.2.2.2.2.2.2.1, e1, nI_1]
    have em : upd (upd (mkD (fun i => g (q + i)) c) 0 (nI (1 + c + 1))) (1 + c + 1) (g (q + c)) = mkD (fun i => g (q + i)) (c + 1) := by
      funext i
      exact mkD_s (f := fun i => g (q + i))
    rw [em] at hP1
    obtain ⟨σ2, e2, hR2, k2, hj2⟩ := ih (c + 1) N σ1 (by omega) (by omega) hP1 (hj.cg (k1.j ht) (fun _ _ => rfl))
    exact ⟨σ2, e2, hR2, k1.tr k2, hj2⟩
theorem C_file15 {o t B C ja num l : Nat} {A0 : aA} {g : Nat → Int32} (ht : t < 2) : ∀ (r q N : Nat) (σ : hp) (A : aA), l ≤ q + 30 * r → q + 30 * r ≤ 200 → r < N → RQ σ o t A B C → jobC σ o ja (nI num) l g → ∃ σ', S_X5_addFile_15 N σ (o + 59 + 48 * t) (some ja) (nI q) = some σ' ∧ RQ σ' o t (aDs aadd g l t r q A) B C ∧ keepF σ σ' o t := by
  intro r
  induction r with
  | zero =>
    intro q N σ A h1 h2 hN h hj
    obtain ⟨N, rfl⟩ : ∃ z, N = z + 1 := ⟨N - 1, by omega⟩
    obtain ⟨j1, j2, j3, j4, j5, j6, j7, j8⟩ := hj
    refine ⟨σ, ?_, h, keepF.rf⟩
    simp only [S_X5_addFile_15, S_X5_addFile_15_b, w_gR j4, j6, Option.bind_some, w_len j7]
    rw [if_pos (nI_le (by omega) (by omega))]
  | succ r ih =>
    intro q N σ A h1 h2 hN h hj
    obtain ⟨N, rfl⟩ : ∃ z, N = z + 1 := ⟨N - 1, by omega⟩
    obtain ⟨j1, j2, j3, j4, j5, j6, j7, j8⟩ := id hj
    by_cases hq : l ≤ q
    · rw [aDs_s (r + 1) q A hq]
      refine ⟨σ, ?_, h, keepF.rf⟩
      simp only [S_X5_addFile_15, S_X5_addFile_15_b, w_gR j4, j6, Option.bind_some, w_len j7]
      rw [if_pos (nI_le hq (by omega))]
    · obtain ⟨s1, s2, s3, s4, s5, s6, s7, s8, s9, s10, s11, s12, s13, s14⟩ := (h.1.2 t ht).2
      simp only [S_X5_addFile_15, S_X5_addFile_15_b, w_gR j4, j6, Option.bind_some, w_len j7]
      rw [if_neg (nI_ge (by omega) (by omega))]
      obtain ⟨a, σ1, e1, hP1, k1, kT1, kR1⟩ := C_nadd (letter := 68) h ht
      have hj1 := hj.cg (k1.j ht) (fun _ _ => rfl)
      obtain ⟨i1, i2, i3, i4, i5, i6, i7, i8⟩ := id hj1
      have hend : (if nI l < nI q + (30 : Int32) then nI l else nI q + (30 : Int32)) = nI (q + (if q + 30 ≤ l then 30 else l - q)) := by
        rw [show nI q + (30 : Int32) = nI (q + 30) from nI_add q 30]
        by_cases c : q + 30 ≤ l
        · rw [if_neg (nI_nlt c (by omega)), if_pos c]
        · rw [if_pos (nI_lt (by omega) (by omega)), if_neg c]
          congr 1
          omega
      simp only [w_gR s1, s4, Option.bind_some, w_rcv s11.1, e1, w_gR i4, i6, w_len i7, hend]
      have em : mk1 68 = mkD (fun i => g (q + i)) 0 := by
        funext i
        unfold mk1 mkD
        by_cases i0 : i = 0
        · simp [i0]; rfl
        · by_cases i1 : i = 1
          · simp [i1]
          · simp [i0, i1]
      rw [em] at hP1
      obtain ⟨σ2, e2, hR2, k2, hj2⟩ := C_file51 (rec15 := S_X5_addFile_15 N) ht (show q < q + (if q + 30 ≤ l then 30 else l - q) by split <;> omega) (show q + (if q + 30 ≤ l then 30 else l - q) ≤ l by split <;> omega) (by split <;> omega) (if q + 30 ≤ l then 30 else l - q) 0 FU σ1 (by omega) (by show _ < 1000; split <;> omega) hP1 hj1
      rw [show q + 0 = q from rfl] at e2
      rw [e2, show nI q + (30 : Int32) = nI (q + 30) from nI_add q 30]
      rw [Nat.add_sub_cancel_left] at hR2
      obtain ⟨σ3, e3, hR3, k3⟩ := ih (q + 30) N σ2 (aadd A t (mkD (fun i => g (q + i)) (if q + 30 ≤ l then 30 else l - q))) (by omega) (by omega) (by omega) hR2 hj2
      refine ⟨σ3, e3, ?_, (k1.tr k2).tr k3⟩
      show RQ σ3 o t (aDs aadd g l t r (q + 30) (aD aadd g l t A q)) B C
      unfold aD
      rw [if_pos (by omega)]
      exact hR3
theorem C_addFile {σ : hp} {o t B C : Nat} {A : aA} (h : RQ σ o t A B C) (ht : t < 2) (hD : okDk (A.1 t)) : ∃ σ', S_X5_addFile σ (o + 59 + 48 * t) = some σ' ∧ RQ σ' o t (if A.1 t 13 = 0 then A else afile aadd A t) B C ∧ keepF σ σ' o t := by
  obtain ⟨s1, s2, s3, s4, s5, s6, s7, s8, s9, s10, s11, s12, s13, s14⟩ := (h.1.2 t ht).2
  obtain ⟨u, v, hu, hv, hvu, hu2, -⟩ := hD
  simp only [S_X5_addFile, w_gR s1, s3, Option.bind_some, w_rcv s6]
  rcases C_first h ht hu hv hvu hu2 with ⟨v0, e⟩ | ⟨v0, ja, l, e, hl, hj⟩
  · rw [e, if_pos (show A.1 t 13 = 0 by rw [hv, v0]; rfl)]
    exact ⟨σ, rfl, h, keepF.rf⟩
  · rw [e, if_neg (show ¬ A.1 t 13 = 0 by rw [hv]; exact nI_ne0 v0 (by omega))]
    simp only [Option.bind_some]
    rw [if_neg (show ¬ (some ja = none) by simp)]
    have hl100 := hj.2.2.1
    obtain ⟨σ1, e1, hR1, k1⟩ := C_file15 (A0 := A) (g := fun i => A.1 t (1000 + 100 * (u - v) + i)) ht 4 0 FU σ A (by omega) (by omega) (by decide) h hj
    refine ⟨σ1, e1, ?_, k1⟩
    unfold afile
    dsimp only
    rw [hu, hv, pk_sub hvu, nI_clamp (by omega), hl, nI_clamp (by omega)]
    exact hR1
theorem C_hasL {σ : hp} {o t e B C : Nat} {A : aA} (h : RQ σ o t A B C) (ht : t < 2) (he : A.1 t 14 = nI e) (he2 : e ≤ 256) (x : Int32) : ∀ (d k N : Nat), k + d = e → d < N → hasN (fun k => decide (A.1 t (5000 + k) = x)) k = false → S_X0_hasDone_2 N σ (o + 59 + 48 * t + 1) x (nI k) = some (bI (hasN (fun k => decide (A.1 t (5000 + k) = x)) e)) := by
  obtain ⟨s1, s2, s3, s4, s5, s6, s7, s8, s9, s10, s11, s12, s13, s14⟩ := (h.1.2 t ht).2
  obtain ⟨d1, d2, d3, d4, d5, d6⟩ := h.2.2.2.2.2.2
  rw [he] at d3
  intro d
  induction d with
  | zero =>
    intro k N hk hN hf
    obtain ⟨N, rfl⟩ : ∃ q, N = q + 1 := ⟨N - 1, by omega⟩
    obtain rfl : k = e := by omega
    simp only [S_X0_hasDone_2, S_X0_hasDone_2_b, w_gI s6, Option.bind_some, d3]
    rw [if_pos (nI_le (Nat.le_refl _) (by omega)), hf]
    rfl
  | succ d ih =>
    intro k N hk hN hf
    obtain ⟨N, rfl⟩ : ∃ q, N = q + 1 := ⟨N - 1, by omega⟩
    obtain ⟨a, l, a1, a2, b1, b2, b3, b4, b5, -⟩ := d6 k (by omega) (by rw [he]; exact nI_lt (by omega) (by omega))
    simp only [S_X0_hasDone_2, S_X0_hasDone_2_b, w_gI s6, Option.bind_some, d3]
    rw [if_neg (nI_ge (by omega) (by omega))]
    simp only [w_gR s6, s8, Option.bind_some, w_ldQ s10 (show k < 256 by omega) (by decide), a1, w_gI b4, b5, nI_1]
    by_cases hx : A.1 t (5000 + k) = x
    · rw [if_pos hx]
      have : hasN (fun k => decide (A.1 t (5000 + k) = x)) e = true := by
        rw [← hasN_any, List.any_eq_true]
        exact ⟨k, List.mem_range.mpr (by omega), decide_eq_true hx⟩
      rw [this]
      rfl
    · rw [if_neg hx]
      refine ih (k + 1) N (by omega) (by omega) ?_
      rw [← hasN_any, List.any_eq_false] at hf ⊢
      intro i hi
      rw [List.mem_range] at hi
      by_cases hik : i = k
      · rw [hik]
        simp [hx]
      · exact hf i (List.mem_range.mpr (by omega))
theorem C_has {σ : hp} {o t B C : Nat} {A : aA} (h : RQ σ o t A B C) (ht : t < 2) (hE : okEx (A.1 t)) (x : Int32) : S_X0_hasDone σ (o + 59 + 48 * t + 1) x = some (bI (aHas A t x)) := by
  obtain ⟨e, e1, e2, -⟩ := hE
  rw [aHas_N e2 e1]
  exact C_hasL h ht e2 e1 x e 0 FU (by omega) (by show _ < 1000; omega) rfl
theorem C_offer {σ : hp} {o t B C : Nat} {A : aA} {num len : Int32} (h : RQ σ o t A B C) (ht : t < 2) (hE : okEx (A.1 t)) : ∃ σ', S_X5_takeOffer σ (o + 59 + 48 * t) num len = some σ' ∧ RQ σ' o t (if len ≤ 100 then (if aHas A t num then aadd A t (mk1 78) else aJ (aJ (aJ (aJ (aadd A t (mk1 89)) t 8 1) t 9 num) t 10 len) t 11 0) else A) B C ∧ keepF σ σ' o t := by
  obtain ⟨s1, s2, s3, s4, s5, s6, s7, s8, s9, s10, s11, s12, s13, s14⟩ := (h.1.2 t ht).2
  simp only [S_X5_takeOffer, S_X5_takeOffer_50]
  by_cases hl : len ≤ 100
  · rw [if_pos hl, if_pos hl]
    simp only [w_gR s1, s3, s4, Option.bind_some, w_rcv s6, C_has h ht hE, w_rcv s11.1]
    by_cases hh : aHas A t num = true
    · rw [hh, if_neg (show ¬ bI true = 0 by decide), if_pos rfl]
      obtain ⟨a, σ1, e1, hP, k1, -⟩ := C_nadd (letter := 78) h ht
      rw [e1]
      exact ⟨σ1, rfl, hP.done, k1⟩
    · rw [Bool.eq_false_iff.mpr hh, if_pos (show bI false = 0 from rfl), if_neg (show ¬ false = true by decide)]
      obtain ⟨a, σ1, e1, hP, k1, kT, kR⟩ := C_nadd (letter := 89) h ht
      have hR1 := hP.done
      obtain ⟨z1, z2, z3, z4, z5, z6, z7, z8, z9, z10, z11, z12, z13, z14⟩ := (hR1.1.2 t ht).2
      have w1 : ∀ g : Nat → Int32, (st1 σ1 (o + 59 + 48 * t + 46) g).1 (o + 59 + 48 * t + 46) = some (.inl 1) := fun g => z12
      rw [e1]
      simp only [Option.bind_some, w_gR z1, z5, w_rcv z12, S_X1_begin, w_z1, w_pI z12, w_pI (w1 _), st1_self, st1_st1]
      refine ⟨_, rfl, ?_, k1.tr ((keepI.st (σ := σ1) (lo := o + 59 + 48 * t + 46) (hi := o + 59 + 48 * t + 47) (by omega)).f (Or.inr (by omega)))⟩
      refine hR1.int (A' := aJ (aJ (aJ (aJ (aadd A t (mk1 89)) t 8 1) t 9 num) t 10 len) t 11 0) ht (keepI.st (by omega)) ?_ (fun k hk => ?_) rfl rfl rfl
      · obtain ⟨i1, i2, i3, i4, i5⟩ := hR1.2.2.2.2.2.1
        refine ⟨?_, ?_, ?_, ?_, fun i hi => ?_⟩
        · rw [st1_self, u_n (by decide), u_n (by decide), u_n (by decide), u_s, aJ_nk (by decide), aJ_nk (by decide), aJ_nk (by decide), aJ_at]
        · rw [st1_self, u_n (by decide), u_n (by decide), u_s, aJ_nk (by decide), aJ_nk (by decide), aJ_at]
        · rw [st1_self, u_n (by decide), u_s, aJ_nk (by decide), aJ_at]
        · rw [st1_self, u_s, aJ_at]
        · rw [st1_ne (by omega), aJ_nk (by omega), aJ_nk (by omega), aJ_nk (by omega), aJ_nk (by omega)]
          exact i5 i hi
      · rw [aJ_nk (by omega), aJ_nk (by omega), aJ_nk (by omega), aJ_nk (by omega)]
  · rw [if_neg hl, if_neg hl]
    exact ⟨σ, rfl, h, keepF.rf⟩
