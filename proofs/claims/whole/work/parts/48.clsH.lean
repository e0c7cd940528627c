/-! The class between calls: RepC; what the reference is kept by; looks. -/
theorem RS.ag {σ σ' : hp} {o t B C B' C' : Nat} {A A' : aA} (h : RS σ o t A B C) (hSk : SkC σ' o) (hrm : roomC σ' o (A'.1 t) B' C') (hI : ∀ a, (o + 2 + 28 * t ≤ a ∧ a < o + 2 + 28 * t + 28) ∨ (o + 59 + 48 * t ≤ a ∧ a < o + 59 + 48 * t + 48) → σ'.2.1 a = σ.2.1 a) (hR2 : σ'.2.2.1 (o + 59 + 48 * t + 2) = σ.2.2.1 (o + 59 + 48 * t + 2)) (hR3 : σ'.2.2.1 (o + 59 + 48 * t + 3) = σ.2.2.1 (o + 59 + 48 * t + 3)) (kJ : keepJ σ σ' o) (e1 : A'.1 t = A.1 t) (e2 : A'.2.1 t = A.2.1 t) (e3 : A'.2.2.1 t = A.2.2.1 t) (e4 : A'.2.2.2 t = A.2.2.2 t) : RS σ' o t A' B' C' := by
  obtain ⟨⟨h1, h2, h3, h4, h5, h6, h7⟩, hS⟩ := h
  unfold RS RP
  rw [e2, e3, e4]
  rw [e1] at hrm ⊢
  exact ⟨⟨hSk, hrm, h3.cg (fun c _ _ => hI c (by omega)), h4.cg (fun c _ _ => hI c (by omega)), by rw [hI _ (by omega)]; exact h5, h6.cg (hI _ (by omega)) (hI _ (by omega)) (fun _ _ => rfl), h7.cg (hI _ (by omega)) hR2 hR3 kJ (fun _ _ => rfl)⟩, hS.cg (hI _ (by omega))⟩
def bB (o : Nat) (A : aA) (t : Nat) : Nat := o + 192 + 2 * cN (A.1 (1 - t))
def bC (C0 : Nat) (A : aA) (t : Nat) : Nat := C0 + 102 * cN (A.1 (1 - t))
def RepC (σ : hp) (o : Nat) (A : aA) (C0 : Nat) : Prop := (∀ t, t < 2 → RS σ o t A (bB o A t) (bC C0 A t)) ∧ (∀ i, i < 100 → σ.2.1 (o + 155) i = A.1 2 i) ∧ σ.2.1 o 3 = A.1 2 100
/-- the reference's cells stay -/
def keepR (σ σ' : hp) (o : Nat) : Prop := ∀ a, o + 156 ≤ a → a < o + 192 → σ'.1 a = σ.1 a ∧ σ'.2.1 a = σ.2.1 a ∧ σ'.2.2.1 a = σ.2.2.1 a
theorem keepR.rf {σ : hp} {o : Nat} : keepR σ σ o := fun _ _ _ => ⟨rfl, rfl, rfl⟩
theorem keepR.tr {σ σ1 σ2 : hp} {o : Nat} (h : keepR σ σ1 o) (k : keepR σ1 σ2 o) : keepR σ σ2 o := fun a a1 a2 => by
  obtain ⟨x1, x2, x3⟩ := h a a1 a2
  obtain ⟨y1, y2, y3⟩ := k a a1 a2
  exact ⟨y1.trans x1, y2.trans x2, y3.trans x3⟩
theorem keepF.r {σ σ' : hp} {o t : Nat} (h : keepF σ σ' o t) (ht : t < 2) (hx : o + 192 ≤ σ.2.2.2.1) : keepR σ σ' o := fun a a1 a2 => h.2 a (by omega) (by omega) (by omega)
theorem RepC.x {σ : hp} {o C0 : Nat} {A : aA} (h : RepC σ o A C0) : o + 192 ≤ σ.2.2.2.1 := (h.1 0 (by decide)).1.2.1.1
theorem RepC.sk {σ : hp} {o C0 : Nat} {A : aA} (h : RepC σ o A C0) : SkC σ o := (h.1 0 (by decide)).1.1
theorem RepC.step {σ σ' : hp} {o t C0 : Nat} {A A' : aA} (h : RepC σ o A C0) (ht : t < 2) (hS : RS σ' o t A' (bB o A t) (bC C0 A t)) (hs : sm A A' t) (k : keepF σ σ' o t) : RepC σ' o A' C0 := by
  have hx := h.x
  have e1t : A'.1 (1 - t) = A.1 (1 - t) := (hs (1 - t) (by omega)).1
  have kJ := k.j ht
  refine ⟨fun s hs2 => ?_, fun i hi => ?_, ?_⟩
  · by_cases hst : s = t
    · subst hst
      unfold bB bC at hS ⊢
      rw [e1t]
      exact hS
    · obtain rfl : s = 1 - t := by omega
      obtain ⟨b1, b2, b3, b4⟩ := hs (1 - t) (by omega)
      refine (h.1 (1 - t) hs2).ag hS.1.1 ?_ (fun a ha => (k.2 a (by omega) (by omega) (by omega)).2.1) (k.2 _ (by omega) (by omega) (by omega)).2.2 (k.2 _ (by omega) (by omega) (by omega)).2.2 kJ b1 b2 b3 b4
      obtain ⟨r1, r2, r3⟩ := hS.1.2.1
      unfold bB at r2 ⊢
      unfold bC at r3 ⊢
      rw [show 1 - (1 - t) = t by omega, e1t]
      exact ⟨r1, by omega, by omega⟩
  · rw [(k.2 _ (by omega) (by omega) (by omega)).2.1, (hs 2 (by omega)).1]
    exact h.2.1 i hi
  · rw [(k.2 _ (by omega) (by omega) (by omega)).2.1, (hs 2 (by omega)).1]
    exact h.2.2
/-- what the reference writes leaves the class as it is -/
theorem RepC.m {σ σ' : hp} {o C0 : Nat} {A : aA} (h : RepC σ o A C0) (k : keepM σ σ' (o + 156)) : RepC σ' o A C0 := by
  have hx := h.x
  refine ⟨fun t ht => ?_, fun i hi => ?_, ?_⟩
  · have hR : σ'.2.2.1 = σ.2.2.1 := by rw [k.2.1]
    exact (h.1 t ht).ag (h.sk.of k.1 k.2.1) ((h.1 t ht).1.2.1.cg k.2.1 rfl rfl) (fun a ha => k.2.2 a (by omega)) (by rw [hR]) (by rw [hR]) ⟨by rw [k.2.1]; exact Nat.le_refl _, fun a a1 a2 => ⟨by rw [k.1], k.2.2 a (by omega), by rw [hR]⟩⟩ rfl rfl rfl rfl
  · rw [k.2.2 _ (by omega)]
    exact h.2.1 i hi
  · rw [k.2.2 _ (by omega)]
    exact h.2.2
theorem RepR.ag {σ σ' : hp} {o : Nat} {A : aA} (h : RepR σ (o + 156) A) (k : keepR σ σ' o) : RepR σ' (o + 156) A := by
  have row : ∀ d, d < 36 → σ'.2.1 (o + 156 + d) = σ.2.1 (o + 156 + d) := fun d hd => (k _ (by omega) (by omega)).2.1
  have row0 : σ'.2.1 (o + 156) = σ.2.1 (o + 156) := row 0 (by decide)
  have tb : ∀ q ∈ tblM, q.2.1 < 36 := by decide
  have tj : ∀ q ∈ tblJ, q.1 < 36 := by decide
  obtain ⟨⟨h1, h2⟩, ⟨r1, r2, r3⟩, hi, hs, hq, n1, n2⟩ := h
  refine ⟨⟨by rw [(k _ (by omega) (by omega)).1]; exact h1, fun q hq => ?_⟩, ⟨r1.kept (row 12 (by decide)) (row 13 (by decide)) (row 14 (by decide)), r2.kept (row 21 (by decide)) (row 22 (by decide)) (row 23 (by decide)) (row 24 (by decide)) (row 25 (by decide)) (row 26 (by decide)), r3⟩, fun s hs q hq j hj => ?_, fun s hs2 => ?_, fun s hs2 j hj hl => ?_, fun i hi => ?_, ?_⟩
  · have := tb q hq
    rw [(k _ (by omega) (by omega)).2.2, (k (o + 156 + q.2.1) (by omega) (by omega)).1]
    exact h2 q hq
  · rw [row q.1 (tj q hq)]
    exact hi s hs q hq j hj
  · rw [row 16 (by decide), row 17 (by decide)]
    exact hs s hs2
  · rw [row 5 (by decide)]
    exact hq s hs2 j hj hl
  · rw [row 11 (by decide)]
    exact n1 i hi
  · rw [row0]
    exact n2
theorem c_isSite {σ : hp} {v : Int32} : S_X8_isSite σ v = some (if v = 0 ∨ v = 1 then 1 else 0) := by
  simp only [S_X8_isSite, S_X8_isSite_9, S_X8_isSite_14, w_z0, w_z1, Option.bind_some]
  by_cases c : v = 0
  · rw [if_pos c, if_pos (Or.inl c)]
  · rw [if_neg c]
    by_cases c3 : v = 1
    · rw [if_pos c3, if_pos (Or.inr c3)]
    · rw [if_neg c3, if_neg (fun q => q.elim c c3)]
theorem K_waiting {σ : hp} {o C0 : Nat} {f : Int32} {A : aA} (h : RepC σ o A C0) : S_X8_waiting σ o f = some (c_waiting A f) := by
  unfold c_waiting
  by_cases hf : f = 0 ∨ f = 1
  · obtain ⟨c1, c2⟩ := clamp_s hf
    rw [if_pos hf]
    generalize f.toNatClampNeg = t at c1 c2 ⊢
    subst c2
    obtain ⟨⟨o1, o2, o3, o4, o5, o6, o7, o8⟩, hk⟩ := h.sk
    obtain ⟨z, z1, z2, z3, -⟩ := (h.1 t c1).1.2.2.1
    simp only [S_X8_waiting, S_X8_waiting_20, c_isSite, if_pos hf, Option.bind_some, if_neg (show ¬ (1 : Int32) = 0 by decide), w_gR o1, o2, w_ldQ o5 c1 (by decide), (o8 t c1).1, w_gI (hk t c1).1.1, z3]
  · rw [if_neg hf]
    simp only [S_X8_waiting, S_X8_waiting_20, c_isSite, if_neg hf, Option.bind_some, if_true]
theorem K_packetOn {σ : hp} {o C0 : Nat} {f k : Int32} {A : aA} (h : RepC σ o A C0) : (S_X8_packetOn σ o f k = some none ∧ ((f = 0 ∨ f = 1) → k < 0 ∨ (¬ k < 0 ∧ (A.2.2.2 f.toNatClampNeg)[k.toNatClampNeg]? = none))) ∨ ((f = 0 ∨ f = 1) ∧ ¬ k < 0 ∧ ∃ p pk, S_X8_packetOn σ o f k = some (some p) ∧ (A.2.2.2 f.toNatClampNeg)[k.toNatClampNeg]? = some pk ∧ isP σ p (p + 1) ∧ pkC σ p pk ∧ o + 2 + 28 * f.toNatClampNeg < p ∧ p + 1 < o + 2 + 28 * f.toNatClampNeg + 28) := by
  by_cases hf : f = 0 ∨ f = 1
  · obtain ⟨c1, c2⟩ := clamp_s hf
    generalize f.toNatClampNeg = t at c1 c2 ⊢
    subst c2
    obtain ⟨⟨o1, o2, o3, o4, o5, o6, o7, o8⟩, hk⟩ := h.sk
    have hw := (h.1 t c1).1.2.2.1
    simp only [S_X8_packetOn, S_X8_packetOn_21, c_isSite, if_pos hf, Option.bind_some, if_neg (show ¬ (1 : Int32) = 0 by decide), w_gR o1, o2, w_ldQ o5 c1 (by decide), (o8 t c1).1, w_rcv (hk t c1).1.1]
    by_cases k0 : k < 0
    · refine Or.inl ⟨?_, fun _ => Or.inl k0⟩
      simp only [S_X7_packet, S_X7_packet_29, S_X7_packet_30]
      rw [if_pos k0]
      rfl
    · obtain ⟨j, hj, rfl⟩ := nI_of k0
      rw [nI_clamp hj]
      rcases Nat.lt_or_ge j (2 ^ 30) with hj2 | hj2
      · rcases c_wpacket (hk t c1).1 hw hj2 with ⟨a, b⟩ | ⟨p, pk, a, b, c, d, e1, e2⟩
        · exact Or.inl ⟨by rw [b]; rfl, fun _ => Or.inr ⟨k0, a⟩⟩
        · exact Or.inr ⟨hf, k0, p, pk, by rw [b]; rfl, a, c, d, e1, e2⟩
      · obtain ⟨z, z1, z2, z3, z4, -⟩ := hw
        refine Or.inl ⟨?_, fun _ => Or.inr ⟨k0, List.getElem?_eq_none (by omega)⟩⟩
        simp only [S_X7_packet, S_X7_packet_29, S_X7_packet_30, w_gI (hk t c1).1.1, z3, Option.bind_some]
        rw [if_neg k0, if_pos (nI_le (by omega) (by omega))]
        rfl
  · refine Or.inl ⟨?_, fun q => absurd q hf⟩
    simp only [S_X8_packetOn, S_X8_packetOn_21, c_isSite, if_neg hf, Option.bind_some, if_true]
theorem K_look {σ : hp} {o C0 n : Nat} {f k i : Int32} {A : aA} (h : RepC σ o A C0) (hA : okA n A) : S_X8_look σ o f k i = some (c_look A f k i) := by
  have o1 := h.sk.1.1
  unfold c_look
  simp only [S_X8_look, S_X8_look_26, w_rcv o1, Option.bind_some]
  rcases K_packetOn (f := f) (k := k) h with ⟨e, hn⟩ | ⟨hf, k0, p, pk, e, hp, hP, hC, -, -⟩
  · rw [e]
    simp only [Option.bind_some]
    rw [if_pos trivial]
    by_cases hf : f = 0 ∨ f = 1
    · rw [if_pos hf]
      rcases hn hf with q | ⟨q, q2⟩
      · rw [if_pos q]
      · rw [if_neg q, q2]
    · rw [if_neg hf]
  · obtain ⟨c1, c2⟩ := clamp_s hf
    rw [e, if_pos hf, if_neg k0, hp]
    simp only [Option.bind_some]
    rw [if_neg (show ¬ (some p = none) by simp)]
    have hpk : okP pk := (hA.1 _ c1).1.2.2.2.2.2.2 pk (List.mem_of_getElem? hp)
    have hlen : pk.1 ≤ 38 := by rcases hpk.1 with q | q <;> omega
    by_cases i0 : i < 0
    · rw [if_pos i0, if_pos (Or.inl i0)]
    · rw [if_neg i0]
      obtain ⟨z, hz, rfl⟩ := nI_of i0
      rw [nI_clamp hz]
      simp only [w_gI hP.1, hC.1, Option.bind_some]
      by_cases hl : z < pk.1
      · rw [if_pos (nI_lt hl (by omega)), if_neg (show ¬ (nI z < 0 ∨ nI pk.1 ≤ nI z) from fun q => q.elim i0 (fun y => absurd y (nI_ge hl (by omega))))]
        simp only [w_gR hP.1, hP.2.1, Option.bind_some, w_ldI hP.2.2.1 (show z < 38 by omega) (by decide), hC.2 z hl]
      · rw [if_neg (nI_nlt (by omega) (by omega)), if_pos (Or.inr (nI_le (by omega) (by omega)))]
theorem K_told {σ : hp} {o C0 n : Nat} {f k : Int32} {A : aA} (h : RepC σ o A C0) (hA : okA n A) : S_X8_told σ o f k = some (c_told A f k) := by
  unfold c_told
  by_cases hf : f = 0 ∨ f = 1
  · obtain ⟨c1, c2⟩ := clamp_s hf
    rw [if_pos hf]
    dsimp only
    generalize f.toNatClampNeg = t at c1 c2 ⊢
    subst c2
    obtain ⟨⟨o1, o2, o3, o4, o5, o6, o7, o8⟩, hk⟩ := h.sk
    obtain ⟨s1, s2, s3, s4, s5, s6, s7, s8, s9, s10, s11, s12, s13, s14⟩ := (hk t c1).2
    obtain ⟨⟨-, -, -, ⟨g, g1, g2, g3, g4, g5, -⟩, -, -, d1, d2, d3, d4, -⟩, -, q5, -⟩ := h.1 t c1
    obtain ⟨u, v, hu, hv, hvu, hu2, -⟩ := (hA.1 t c1).1.1.2.2.2.2.2.2.1
    have ejl : A.1 t 12 - (A.1 t 12 - A.1 t 13) = A.1 t 13 := by
      rw [hu, hv, pk_sub hvu, pk_sub (by omega)]
      congr 1
      omega
    simp only [S_X8_told, c_isSite, if_pos hf, Option.bind_some, if_neg (show ¬ (1 : Int32) = 0 by decide), w_gR o1, o3, w_ldQ o6 c1 (by decide), (o8 t c1).2, w_gR s1, s3, w_rcv s6, S_X0_jobsLeft, w_gI s6, d1, d2, d3, d4, w_gI s1, q5, s4, w_gI s11.1, g4, g5, ejl]
    split
    · rfl
    · split
      · rfl
      · split
        · rfl
        · split
          · rfl
          · split
            · rfl
            · split <;> rfl
  · rw [if_neg hf]
    simp only [S_X8_told, c_isSite, if_neg hf, Option.bind_some, if_true]
theorem K_queued {σ : hp} {o C0 n : Nat} {f k : Int32} {A : aA} (h : RepC σ o A C0) (hA : okA n A) : S_X8_queued σ o f k = some (c_queued A f k) := by
  unfold c_queued
  by_cases hf : f = 0 ∨ f = 1
  · obtain ⟨c1, c2⟩ := clamp_s hf
    rw [if_pos hf]
    generalize f.toNatClampNeg = t at c1 c2 ⊢
    subst c2
    obtain ⟨⟨o1, o2, o3, o4, o5, o6, o7, o8⟩, hk⟩ := h.sk
    obtain ⟨s1, s2, s3, s4, s5, s6, s7, s8, s9, s10, s11, s12, s13, s14⟩ := (hk t c1).2
    obtain ⟨⟨-, -, -, -, -, -, d1, d2, d3, d4, -⟩, -⟩ := h.1 t c1
    obtain ⟨u, v, hu, hv, hvu, hu2, -⟩ := (hA.1 t c1).1.1.2.2.2.2.2.2.1
    have ejl : A.1 t 12 - (A.1 t 12 - A.1 t 13) = A.1 t 13 := by
      rw [hu, hv, pk_sub hvu, pk_sub (by omega)]
      congr 1
      omega
    simp only [S_X8_queued, S_X8_queued_27, c_isSite, if_pos hf, Option.bind_some, if_neg (show ¬ (1 : Int32) = 0 by decide), w_gR o1, o3, w_ldQ o6 c1 (by decide), (o8 t c1).2, w_gR s1, s3, w_rcv s6, S_X0_jobsLeft, w_gI s6, d1, d2, ejl]
    by_cases k0 : k < 0
    · rw [if_pos k0, if_pos (Or.inl k0)]
    · rw [if_neg k0]
      by_cases hl : k < A.1 t 13
      · rw [if_pos hl, if_neg (show ¬ (k < 0 ∨ A.1 t 13 ≤ k) from fun q => q.elim k0 (fun z => absurd hl (Int32.not_lt.mpr z)))]
      · rw [if_neg hl, if_pos (Or.inr (Int32.not_lt.mp hl))]
  · rw [if_neg hf]
    simp only [S_X8_queued, S_X8_queued_27, c_isSite, if_neg hf, Option.bind_some, if_true]
theorem K_doneJob {σ : hp} {o C0 n : Nat} {f k : Int32} {A : aA} (h : RepC σ o A C0) (hA : okA n A) : (S_X8_doneJob σ o f k = some none ∧ ((f = 0 ∨ f = 1) → k < 0 ∨ A.1 f.toNatClampNeg 14 ≤ k)) ∨ ((f = 0 ∨ f = 1) ∧ ∃ j a l, k = nI j ∧ j < 256 ∧ ¬ (nI j < 0 ∨ A.1 f.toNatClampNeg 14 ≤ nI j) ∧ S_X8_doneJob σ o f k = some (some a) ∧ A.1 f.toNatClampNeg (6000 + j) = nI l ∧ jobC σ o a (A.1 f.toNatClampNeg (5000 + j)) l (fun i => A.1 f.toNatClampNeg (10000 + 100 * j + i))) := by
  by_cases hf : f = 0 ∨ f = 1
  · obtain ⟨c1, c2⟩ := clamp_s hf
    generalize f.toNatClampNeg = t at c1 c2 ⊢
    subst c2
    obtain ⟨⟨o1, o2, o3, o4, o5, o6, o7, o8⟩, hk⟩ := h.sk
    obtain ⟨s1, s2, s3, s4, s5, s6, s7, s8, s9, s10, s11, s12, s13, s14⟩ := (hk t c1).2
    obtain ⟨⟨-, -, -, -, -, -, d1, d2, d3, d4, d5, d6⟩, -⟩ := h.1 t c1
    obtain ⟨e, e1, e2, -⟩ := (hA.1 t c1).1.1.2.2.2.2.2.2.2
    simp only [S_X8_doneJob, S_X8_doneJob_24, S_X0_doneJob, S_X0_doneJob_21, S_X0_doneJob_22, c_isSite, if_pos hf, Option.bind_some, if_neg (show ¬ (1 : Int32) = 0 by decide), w_gR o1, o3, w_ldQ o6 c1 (by decide), (o8 t c1).2, w_gR s1, s3, w_rcv s6, w_gI s6, d3, w_gR s6, s8]
    by_cases k0 : k < 0
    · rw [if_pos k0]
      exact Or.inl ⟨rfl, fun _ => Or.inl k0⟩
    · rw [if_neg k0]
      by_cases hl : A.1 t 14 ≤ k
      · rw [if_pos hl]
        exact Or.inl ⟨rfl, fun _ => Or.inr hl⟩
      · rw [if_neg hl]
        obtain ⟨j, hj, rfl⟩ := nI_of k0
        have hje : j < e := by
          rcases Nat.lt_or_ge j e with z | z
          · exact z
          · exact absurd (by rw [e2]; exact nI_le z hj) hl
        obtain ⟨a, l, a1, a2, a3⟩ := d6 j (by omega) (by rw [e2]; exact nI_lt hje (by omega))
        simp only [w_ldQ s10 (show j < 256 by omega) (by decide), Option.bind_some, a1]
        exact Or.inr ⟨hf, j, a, l, rfl, by omega, fun q => q.elim k0 hl, rfl, a2, a3⟩
  · refine Or.inl ⟨?_, fun q => absurd q hf⟩
    simp only [S_X8_doneJob, S_X8_doneJob_24, c_isSite, if_neg hf, Option.bind_some, if_true]
theorem K_executed {σ : hp} {o C0 n : Nat} {f k : Int32} {A : aA} (h : RepC σ o A C0) (hA : okA n A) : S_X8_executed σ o f k = some (c_executed A f k) := by
  have o1 := h.sk.1.1
  unfold c_executed
  simp only [S_X8_executed, S_X8_executed_19, w_rcv o1, Option.bind_some]
  rcases K_doneJob (f := f) (k := k) h hA with ⟨e, hn⟩ | ⟨hf, j, a, l, rfl, hj, hl, e, -, j1, j2, j3, j4, j5, -⟩
  · rw [e]
    simp only [Option.bind_some]
    rw [if_pos trivial]
    by_cases hf : f = 0 ∨ f = 1
    · rw [if_pos hf, if_pos (hn hf)]
    · rw [if_neg hf]
  · rw [e, if_pos hf, if_neg hl, nI_clamp (by omega)]
    simp only [Option.bind_some]
    rw [if_neg (show ¬ (some a = none) by simp)]
    simp only [w_gI j4, j5, Option.bind_some]
theorem K_file {σ : hp} {o C0 n : Nat} {f k i : Int32} {A : aA} (h : RepC σ o A C0) (hA : okA n A) : S_X8_file σ o f k i = some (c_file A f k i) := by
  have o1 := h.sk.1.1
  unfold c_file
  simp only [S_X8_file, S_X8_file_27, w_rcv o1, Option.bind_some]
  rcases K_doneJob (f := f) (k := k) h hA with ⟨e, hn⟩ | ⟨hf, j, a, l, rfl, hj, hl, e, el, j1, j2, j3, j4, j5, j6, j7, j8⟩
  · rw [e]
    simp only [Option.bind_some]
    rw [if_pos trivial]
    by_cases hf : f = 0 ∨ f = 1
    · rw [if_pos hf, if_pos (hn hf)]
    · rw [if_neg hf]
  · rw [e, if_pos hf, if_neg hl, nI_clamp (show j < 2 ^ 31 by omega), el]
    simp only [Option.bind_some]
    rw [if_neg (show ¬ (some a = none) by simp)]
    by_cases i0 : i < 0
    · rw [if_pos i0, if_pos (Or.inl i0)]
    · rw [if_neg i0]
      obtain ⟨z, hz, rfl⟩ := nI_of i0
      rw [nI_clamp hz]
      simp only [w_gR j4, j6, Option.bind_some, w_len j7]
      by_cases hzl : z < l
      · rw [if_pos (nI_lt hzl (by omega)), if_neg (show ¬ (nI z < 0 ∨ nI l ≤ nI z) from fun q => q.elim i0 (fun y => absurd y (nI_ge hzl (by omega))))]
        simp only [w_ldI j7 hzl (by omega), Option.bind_some, j8 z hzl]
      · rw [if_neg (nI_nlt (by omega) (by omega)), if_pos (Or.inr (nI_le (by omega) (by omega)))]
theorem C_hasS {σ : hp} {o t C0 e : Nat} {A : aA} (h : RepC σ o A C0) (ht : t < 2) (he2 : A.1 t 14 = nI e) (he : e ≤ 256) (x : Int32) : S_X0_hasDone σ (o + 59 + 48 * t + 1) x = some (bI (aHas A t x)) := by
  have hs := h.1 t ht
  obtain ⟨s1, s2, s3, s4, s5, s6, s7, s8, s9, s10, s11, s12, s13, s14⟩ := (h.sk.2 t ht).2
  obtain ⟨d1, d2, d3, d4, d5, d6⟩ := hs.1.2.2.2.2.2.2
  rw [aHas_N he2 he]
  rw [he2] at d3
  have key : ∀ (d k N : Nat), k + d = e → d < N → hasN (fun k => decide (A.1 t (5000 + k) = x)) k = false → S_X0_hasDone_2 N σ (o + 59 + 48 * t + 1) x (nI k) = some (bI (hasN (fun k => decide (A.1 t (5000 + k) = x)) e)) := by
    intro d
    induction d with
    | zero =>
      intro k N hk hN hf
      obtain ⟨N, rfl⟩ : ∃ q, N = q + 1 := ⟨N - 1, by omega⟩
      obtain rfl : k = e := by omega
      simp only [S_X0_hasDone_2, S_X0_hasDone_2_b, w_gI s6, Option.bind_some, d3]
      rw [if_pos (nI_le (Nat.le_refl _) (by omega)), hf]
      rfl
    | succ d ih =>
      intro k N hk hN hf
      obtain ⟨N, rfl⟩ : ∃ q, N = q + 1 := ⟨N - 1, by omega⟩
      obtain ⟨a, l, a1, a2, b1, b2, b3, b4, b5, -⟩ := d6 k (by omega) (by rw [he2]; exact nI_lt (by omega) (by omega))
      simp only [S_X0_hasDone_2, S_X0_hasDone_2_b, w_gI s6, Option.bind_some, d3]
      rw [if_neg (nI_ge (by omega) (by omega))]
      simp only [w_gR s6, s8, Option.bind_some, w_ldQ s10 (show k < 256 by omega) (by decide), a1, w_gI b4, b5, nI_1]
      by_cases hx : A.1 t (5000 + k) = x
      · rw [if_pos hx]
        have : hasN (fun k => decide (A.1 t (5000 + k) = x)) e = true := by
          rw [← hasN_any, List.any_eq_true]
          exact ⟨k, List.mem_range.mpr (by omega), decide_eq_true hx⟩
        rw [this]
        rfl
      · rw [if_neg hx]
        refine ih (k + 1) N (by omega) (by omega) ?_
        rw [← hasN_any, List.any_eq_false] at hf ⊢
        intro i hi
        rw [List.mem_range] at hi
        by_cases hik : i = k
        · rw [hik]
          simp [hx]
        · exact hf i (List.mem_range.mpr (by omega))
  exact key e 0 FU (by omega) (by show _ < 1000; omega) rfl
theorem K_times {σ : hp} {o C0 n : Nat} {f k : Int32} {A : aA} (h : RepC σ o A C0) (hA : okA n A) : S_X8_times σ o f k = some (c_times A f k) := by
  unfold c_times
  by_cases hf : f = 0 ∨ f = 1
  · obtain ⟨c1, c2⟩ := clamp_s hf
    rw [if_pos hf]
    generalize f.toNatClampNeg = t at c1 c2 ⊢
    subst c2
    obtain ⟨⟨o1, o2, o3, o4, o5, o6, o7, o8⟩, hk⟩ := h.sk
    obtain ⟨s1, s2, s3, s4, s5, s6, s7, s8, s9, s10, s11, s12, s13, s14⟩ := (hk t c1).2
    have c1' : 1 - t < 2 := by omega
    obtain ⟨y1, y2, y3, y4, y5, y6, -⟩ := (hk (1 - t) c1').2
    obtain ⟨⟨-, -, -, -, -, -, d1, d2, d3, d4, d5, d6⟩, -⟩ := h.1 t c1
    obtain ⟨e, e1, e2, -⟩ := (hA.1 (1 - t) c1').1.1.2.2.2.2.2.2.2
    have e1s : (1 : Int32) - nI t = nI (1 - t) := pk_sub (a := 1) (by omega)
    simp only [S_X8_times, S_X8_times_27, S_X8_times_52, c_isSite, if_pos hf, Option.bind_some, if_neg (show ¬ (1 : Int32) = 0 by decide), w_gR o1, o3, w_ldQ o6 c1 (by decide), (o8 t c1).2, w_gR s1, s3, w_gI s6, d2, e1s, w_ldQ o6 c1' (by decide), (o8 (1 - t) c1').2, w_gR y1, y3, w_rcv y6, C_hasS h c1' e2 e1]
    by_cases k0 : k < 0
    · rw [if_pos k0, if_pos (Or.inl k0)]
    · rw [if_neg k0]
      by_cases hl : k < A.1 t 12
      · rw [if_pos hl, if_neg (show ¬ (k < 0 ∨ A.1 t 12 ≤ k) from fun q => q.elim k0 (fun z => absurd hl (Int32.not_lt.mpr z)))]
        cases aHas A (1 - t) k with
        | true => rw [if_neg (show ¬ bI true = 0 by decide)]; rfl
        | false => rw [if_pos (show bI false = 0 from rfl)]; rfl
      · rw [if_neg hl, if_pos (Or.inr (Int32.not_lt.mp hl))]
  · rw [if_neg hf]
    simp only [S_X8_times, S_X8_times_27, c_isSite, if_neg hf, Option.bind_some, if_true]
