/-! The class's calls: put, queue, call, deliver, lose, alter, tick, crash, settle. -/
theorem RepC.wire {σ σ' : hp} {o t C0 : Nat} {A : aA} {q : List Pkt} (h : RepC σ o A C0) (ht : t < 2) (k : keepI σ σ' (o + 2 + 28 * t) (o + 2 + 28 * t + 28)) (hq : wireC σ' (o + 2 + 28 * t) q) : RepC σ' o (aQ A t q) C0 :=
  h.step ht ((h.1 t ht).wire ht k hq rfl rfl rfl (va_up_self _ _ _)) sm_Q (k.f (Or.inl ⟨Nat.le_refl _, Nat.le_refl _⟩))
theorem keepI.wide {σ σ' : hp} {lo hi lo' hi' : Nat} (h : keepI σ σ' lo hi) (h1 : lo' ≤ lo) (h2 : hi ≤ hi') : keepI σ σ' lo' hi' := ⟨h.1, h.2.1, fun c hc => h.2.2 c (by omega)⟩
theorem keepI.r {σ σ' : hp} {o lo hi : Nat} (h : keepI σ σ' lo hi) (hh : hi ≤ o + 156) : keepR σ σ' o := fun a a1 a2 => ⟨by rw [h.1], h.2.2 a (by omega), by rw [h.2.1]⟩
theorem K_lose {σ : hp} {o C0 : Nat} {f : Int32} {A : aA} (h : RepC σ o A C0) : ∃ σ', S_X8_lose σ o f = some ((c_lose A f).1, σ') ∧ RepC σ' o (c_lose A f).2 C0 ∧ keepR σ σ' o := by
  have o1 := h.sk.1.1
  unfold c_lose
  simp only [S_X8_lose, w_rcv o1, Option.bind_some]
  rcases K_packetOn (f := f) (k := 0) h with ⟨e, hn⟩ | ⟨hf, k0, p, pk, e, hp, -⟩
  · rw [e]
    simp only [Option.bind_some]
    rw [if_pos trivial]
    by_cases hf : f = 0 ∨ f = 1
    · rw [if_pos hf]
      rcases hn hf with q | ⟨q, q2⟩
      · exact absurd q (by decide)
      · cases hq : A.2.2.2 f.toNatClampNeg with
        | nil => exact ⟨σ, rfl, h, keepR.rf⟩
        | cons a b =>
          rw [hq] at q2
          exact absurd q2 (by show ¬ (a :: b)[0]? = none; simp)
    · rw [if_neg hf]
      exact ⟨σ, rfl, h, keepR.rf⟩
  · rw [e, if_pos hf]
    simp only [Option.bind_some]
    rw [if_neg (show ¬ (some p = none) by simp)]
    obtain ⟨c1, c2⟩ := clamp_s hf
    generalize f.toNatClampNeg = t at c1 c2 hp ⊢
    subst c2
    obtain ⟨⟨-, o2, o3, o4, o5, o6, o7, o8⟩, hk⟩ := h.sk
    cases hq : A.2.2.2 t with
    | nil =>
      rw [hq] at hp
      exact absurd hp (by simp)
    | cons a b =>
      have hw := (h.1 t c1).1.2.2.1
      rw [hq] at hw
      obtain ⟨σ1, e1, k1, hw1⟩ := c_wdrop (hk t c1).1 hw
      simp only [w_gR o1, o2, Option.bind_some, w_ldQ o5 c1 (by decide), (o8 t c1).1, w_rcv (hk t c1).1.1, e1]
      exact ⟨σ1, rfl, h.wire c1 (k1.wide (Nat.le_refl _) (by omega)) hw1, k1.r (by omega)⟩
theorem c_walter {σ : hp} {w : Nat} {pk : Pkt} {ps : List Pkt} (h : wkW σ w) (hq : wireC σ w (pk :: ps)) (h38 : pk.1 ≤ 38) : ∃ p, S_X7_packet σ w 0 = some (some p) ∧ isP σ p (p + 1) ∧ pkC σ p pk ∧ w < p ∧ p + 1 < w + 28 ∧ ∀ i x, i < pk.1 → wireC (st1 σ (p + 1) (upd (σ.2.1 (p + 1)) i x)) w ((pk.1, upd pk.2 i x) :: ps) := by
  obtain ⟨f, f1, f2, f3, f4, f5⟩ := hq
  obtain ⟨h1, h2, h3, h4, h5, h6⟩ := id h
  have e : S_X7_packet σ w 0 = some (some (w + 4 + 2 * f)) := by
    simp only [S_X7_packet, S_X7_packet_29, S_X7_packet_30, w_gI h1, w_gR h1, h2, Option.bind_some, f3, f2]
    rw [if_neg (show ¬ (0 : Int32) < 0 by decide), if_neg (show ¬ nI (pk :: ps).length ≤ 0 from nI_nle (by simp) (by omega)), show nI f + (0 : Int32) = nI f from nI_add f 0, rem12 (by omega), Nat.mod_eq_of_lt f1]
    simp only [w_ldQ h4 f1 (by decide), Option.bind_some, (h6 f f1).1]
  have p0 := f5 0 pk rfl
  rw [Nat.add_zero f, Nat.mod_eq_of_lt f1] at p0
  refine ⟨_, e, (h6 f f1).2, p0, by omega, by omega, fun i x hi => ?_⟩
  refine ⟨f, f1, by rw [st1_ne (by omega)]; exact f2, by rw [st1_ne (by omega)]; exact f3, f4, fun k pk' hk => ?_⟩
  cases k with
  | zero =>
    rw [List.getElem?_cons_zero] at hk
    cases hk
    rw [Nat.add_zero f, Nat.mod_eq_of_lt f1]
    refine ⟨by rw [st1_ne (by omega)]; exact p0.1, fun j hj => ?_⟩
    rw [st1_self]
    show upd (σ.2.1 (w + 4 + 2 * f + 1)) i x j = upd pk.2 i x j
    by_cases hji : j = i
    · rw [hji, u_s, u_s]
    · rw [u_n hji, u_n hji]
      exact p0.2 j hj
  | succ k =>
    have := f5 (k + 1) pk' hk
    rw [List.getElem?_cons_succ] at hk
    have hlen : k < ps.length := by
      rcases Nat.lt_or_ge k ps.length with z | z
      · exact z
      · rw [List.getElem?_eq_none z] at hk
        exact absurd hk (by simp)
    rw [List.length_cons] at f4
    have hne : (f + (k + 1)) % 12 ≠ f := by omega
    unfold pkC at this ⊢
    rw [st1_ne (by omega), st1_ne (by omega)]
    exact this
theorem K_alter {σ : hp} {o n C0 : Nat} {f a x : Int32} {A : aA} (h : RepC σ o A C0) (hA : okA n A) : ∃ σ', S_X8_alter σ o f a x = some ((c_alter A f a x).1, σ') ∧ RepC σ' o (c_alter A f a x).2 C0 ∧ keepR σ σ' o := by
  have o1 := h.sk.1.1
  unfold c_alter
  by_cases hf : f = 0 ∨ f = 1
  · obtain ⟨c1, c2⟩ := clamp_s hf
    rw [if_pos hf]
    generalize f.toNatClampNeg = t at c1 c2 ⊢
    subst c2
    obtain ⟨⟨-, o2, o3, o4, o5, o6, o7, o8⟩, hk⟩ := h.sk
    have hw := (h.1 t c1).1.2.2.1
    simp only [S_X8_alter, S_X8_alter_38, S_X8_packetOn, S_X8_packetOn_21, w_rcv o1, c_isSite, if_pos hf, Option.bind_some, if_neg (show ¬ (1 : Int32) = 0 by decide), w_gR o1, o2, w_ldQ o5 c1 (by decide), (o8 t c1).1, w_rcv (hk t c1).1.1]
    cases hq : A.2.2.2 t with
    | nil =>
      rw [hq] at hw
      obtain ⟨z, z1, z2, z3, z4, -⟩ := hw
      have e : S_X7_packet σ (o + 2 + 28 * t) 0 = some none := by
        simp only [S_X7_packet, S_X7_packet_29, S_X7_packet_30, w_gI (hk t c1).1.1, z3, Option.bind_some]
        rw [if_neg (show ¬ (0 : Int32) < 0 by decide), if_pos (show nI ([] : List Pkt).length ≤ 0 by decide)]
      rw [e]
      simp only [Option.bind_some]
      rw [if_pos trivial]
      exact ⟨σ, rfl, h, keepR.rf⟩
    | cons pk ps =>
      have hpk : okP pk := (hA.1 _ c1).1.2.2.2.2.2.2 pk (by rw [hq]; exact List.mem_cons_self)
      have hlen : pk.1 ≤ 38 := by rcases hpk.1 with q | q <;> omega
      rw [hq] at hw
      obtain ⟨p, e, hP, hC, p1, p2, fin⟩ := c_walter (hk t c1).1 hw hlen
      rw [e]
      simp only [Option.bind_some]
      rw [if_neg (show ¬ (some p = none) by simp)]
      simp only [w_gI hP.1, hC.1, Option.bind_some]
      by_cases b1 : a < 0
      · rw [if_pos b1, if_pos (Or.inl b1)]
        exact ⟨σ, rfl, h, keepR.rf⟩
      · rw [if_neg b1]
        by_cases b2 : nI pk.1 ≤ a
        · rw [if_pos b2, if_pos (Or.inr (Or.inl b2))]
          exact ⟨σ, rfl, h, keepR.rf⟩
        · rw [if_neg b2]
          by_cases b3 : x < 1
          · rw [if_pos b3, if_pos (Or.inr (Or.inr (Or.inl b3)))]
            exact ⟨σ, rfl, h, keepR.rf⟩
          · rw [if_neg b3]
            by_cases b4 : x ≤ 255
            · rw [if_pos b4, if_neg (show ¬ (a < 0 ∨ nI pk.1 ≤ a ∨ x < 1 ∨ 255 < x) from fun q => q.elim b1 (fun q => q.elim b2 (fun q => q.elim b3 (fun q => absurd q (Int32.not_lt.mpr b4)))))]
              obtain ⟨j, hj, rfl⟩ := nI_of b1
              have hj2 : j < pk.1 := by
                rcases Nat.lt_or_ge j pk.1 with z | z
                · exact z
                · exact absurd (nI_le z hj) b2
              rw [nI_clamp hj]
              simp only [w_gR hP.1, hP.2.1, Option.bind_some, w_ldI hP.2.2.1 (show j < 38 by omega) (by decide), w_stI hP.2.2.1 (show j < 38 by omega) (by decide), hC.2 j hj2]
              have k1 : keepI σ (st1 σ (p + 1) (upd (σ.2.1 (p + 1)) j (pk.2 j ^^^ x))) (o + 2 + 28 * t) (o + 2 + 28 * t + 28) := keepI.st (by omega)
              exact ⟨_, rfl, h.wire c1 k1 (fin j _ hj2), k1.r (by omega)⟩
            · rw [if_neg b4, if_pos (Or.inr (Or.inr (Or.inr (Int32.not_le.mp b4))))]
              exact ⟨σ, rfl, h, keepR.rf⟩
  · rw [if_neg hf]
    simp only [S_X8_alter, S_X8_alter_38, S_X8_packetOn, S_X8_packetOn_21, w_rcv o1, c_isSite, if_neg hf, Option.bind_some, if_true]
    exact ⟨σ, rfl, h, keepR.rf⟩
theorem K_crash {σ : hp} {o C0 : Nat} {f : Int32} {A : aA} (h : RepC σ o A C0) : ∃ σ', S_X8_crash σ o f = some ((c_crash A f).1, σ') ∧ RepC σ' o (c_crash A f).2 C0 ∧ keepR σ σ' o := by
  unfold c_crash
  by_cases hf : f = 0 ∨ f = 1
  · obtain ⟨c1, c2⟩ := clamp_s hf
    rw [if_pos hf]
    generalize f.toNatClampNeg = t at c1 c2 ⊢
    subst c2
    obtain ⟨⟨o1, o2, o3, o4, o5, o6, o7, o8⟩, hk⟩ := h.sk
    obtain ⟨σ1, e1, hR1, k1, kT, kR⟩ := C_begin' (st := 0) (x := A.1 t 2) (h.1 t c1).1 c1 (by decide) (fun q => absurd q (by decide))
    rw [forget_2] at hR1
    simp only [S_X8_crash, c_isSite, if_pos hf, Option.bind_some, if_neg (show ¬ (1 : Int32) = 0 by decide), w_gR o1, o3, w_ldQ o6 c1 (by decide), (o8 t c1).2, w_rcv (hk t c1).2.1, e1]
    exact ⟨σ1, rfl, h.step c1 hR1.s sm_forget k1, k1.r c1 h.x⟩
  · rw [if_neg hf]
    simp only [S_X8_crash, c_isSite, if_neg hf, Option.bind_some, if_true]
    exact ⟨σ, rfl, h, keepR.rf⟩
theorem sm_rdy {A : aA} {s : Nat} : sm A (aRdy A s) s := by
  unfold aRdy
  split
  · exact sm_aJ
  · exact sm.rf
theorem K_hand {σ : hp} {o f n C0 : Nat} {A : aA} (h : RepC σ o A C0) (hA : okA n A) (hf : f < 2) : ∃ σ', S_X8_handOver σ o (nI f) = some ((ahand A f).1, σ') ∧ RepC σ' o (ahand A f).2 C0 ∧ keepR σ σ' o := by
  obtain ⟨⟨o1, o2, o3, o4, o5, o6, o7, o8⟩, hk⟩ := h.sk
  have hw := (h.1 f hf).1.2.2.1
  simp only [S_X8_handOver, w_gR o1, o2, Option.bind_some, w_ldQ o5 hf (by decide), (o8 f hf).1, w_rcv (hk f hf).1.1]
  cases hq : A.2.2.2 f with
  | nil =>
    rw [hq] at hw
    obtain ⟨z, z1, z2, z3, z4, -⟩ := hw
    have e : S_X7_packet σ (o + 2 + 28 * f) 0 = some none := by
      simp only [S_X7_packet, S_X7_packet_29, S_X7_packet_30, w_gI (hk f hf).1.1, z3, Option.bind_some]
      rw [if_neg (show ¬ (0 : Int32) < 0 by decide), if_pos (show nI ([] : List Pkt).length ≤ 0 by decide)]
    rw [e]
    simp only [Option.bind_some]
    rw [if_pos trivial]
    have : ahand A f = (-1, A) := by unfold ahand; rw [hq]
    rw [this]
    exact ⟨σ, rfl, h, keepR.rf⟩
  | cons pk ps =>
    have hpk : okP pk := (hA.1 _ hf).1.2.2.2.2.2.2 pk (by rw [hq]; exact List.mem_cons_self)
    have hlen : pk.1 ≤ 38 := by rcases hpk.1 with q | q <;> omega
    rw [hq] at hw
    obtain ⟨p, e, hP, hC, p1, p2, -⟩ := c_walter (hk f hf).1 hw hlen
    obtain ⟨σ1, e1, k1, hw1⟩ := c_wdrop (hk f hf).1 hw
    have hR1 : RepC σ1 o (aQ A f ps) C0 := h.wire hf (k1.wide (Nat.le_refl _) (by omega)) hw1
    have hA1 : okA n (aQ A f ps) := hA.q (by have := (hA.1 f hf).1.2.2.2.1; rw [hq, List.length_cons] at this; omega) (fun p hp => (hA.1 f hf).1.2.2.2.2.2.2 p (by rw [hq]; exact List.mem_cons_of_mem _ hp))
    have ht : 1 - f < 2 := by omega
    have hpO : pkO σ1 o (1 - f) p pk := by
      refine ⟨hP.of k1.1 k1.2.1, ?_, ?_, ?_⟩
      · unfold pkC
        rw [k1.2.2 p (by omega), k1.2.2 (p + 1) (by omega)]
        exact hC
      · rw [show 1 - (1 - f) = f by omega]; exact p1
      · rw [show 1 - (1 - f) = f by omega]; exact p2
    obtain ⟨σ2, e2, hS2, k2⟩ := C_recv (hR1.1 (1 - f) ht) ht hpO hpk ((rdy_ok hA1 ht).1.1 (1 - f) ht).1 (hA1.1 (1 - f) ht).2.1
    obtain ⟨⟨y1, y2, y3, y4, y5, y6, y7, y8⟩, yk⟩ := hR1.sk
    rw [e]
    simp only [Option.bind_some]
    rw [if_neg (show ¬ (some p = none) by simp)]
    simp only [e1, Option.bind_some, w_gR y1, y3, show (1 : Int32) - nI f = nI (1 - f) from pk_sub (a := 1) (by omega), w_ldQ y6 ht (by decide), (y8 _ ht).2, w_rcv (yk _ ht).2.1, e2, S_X8_handOver_38, S_X8_handOver_46]
    have kR : keepR σ σ2 o := (k1.r (by omega)).tr (k2.r ht hR1.x)
    rw [hand_eq hq]
    cases hg : goodP pk with
    | true =>
      rw [hg, if_pos (show true = true from rfl)] at hS2
      rw [if_neg (show ¬ bI true = 0 by decide), if_pos (show true = true from rfl)]
      exact ⟨σ2, rfl, hR1.step ht hS2 (sm_rdy.tr sm_come) k2, kR⟩
    | false =>
      rw [hg, if_neg (show ¬ false = true by decide)] at hS2
      rw [if_pos (show bI false = 0 from rfl), if_neg (show ¬ false = true by decide)]
      refine ⟨σ2, rfl, hR1.step ht hS2 ?_ k2, kR⟩
      split
      · exact sm_ctl
      · exact sm.rf
theorem K_deliver {σ : hp} {o n C0 : Nat} {f : Int32} {A : aA} (h : RepC σ o A C0) (hA : okA n A) : ∃ σ', S_X8_deliver σ o f = some ((c_deliver A f).1, σ') ∧ RepC σ' o (c_deliver A f).2 C0 ∧ keepR σ σ' o := by
  have o1 := h.sk.1.1
  unfold c_deliver
  by_cases hf : f = 0 ∨ f = 1
  · obtain ⟨c1, c2⟩ := clamp_s hf
    rw [if_pos hf]
    generalize f.toNatClampNeg = t at c1 c2 ⊢
    subst c2
    obtain ⟨σ1, e1, hR1, k1⟩ := K_hand h hA c1
    simp only [S_X8_deliver, S_X8_deliver_12, S_X8_deliver_16, c_isSite, if_pos hf, Option.bind_some, if_neg (show ¬ (1 : Int32) = 0 by decide), w_rcv o1, e1]
    exact ⟨σ1, rfl, hR1, k1⟩
  · rw [if_neg hf]
    simp only [S_X8_deliver, S_X8_deliver_16, c_isSite, if_neg hf, Option.bind_some, if_true]
    exact ⟨σ, rfl, h, keepR.rf⟩
theorem K_settleL {o n C0 N : Nat} (hN : N ≤ 200) : ∀ (d k turn M : Nat) (σ : hp) (A : aA), k + d = N → d < M → turn < 2 → RepC σ o A C0 → okA n A → ∃ σ', S_X8_settle_18 M σ o (nI N) (nI turn) (nI k) = some (nI (asettle d k turn A).1, σ') ∧ RepC σ' o (asettle d k turn A).2 C0 ∧ keepR σ σ' o := by
  intro d
  induction d with
  | zero =>
    intro k turn M σ A hk hM ht h hA
    obtain ⟨M, rfl⟩ : ∃ q, M = q + 1 := ⟨M - 1, by omega⟩
    obtain rfl : k = N := by omega
    simp only [S_X8_settle_18, S_X8_settle_18_b]
    rw [if_pos (nI_le (Nat.le_refl _) (by omega))]
    exact ⟨σ, rfl, h, keepR.rf⟩
  | succ d ih =>
    intro k turn M σ A hk hM ht h hA
    obtain ⟨M, rfl⟩ : ∃ q, M = q + 1 := ⟨M - 1, by omega⟩
    obtain ⟨⟨o1, o2, o3, o4, o5, o6, o7, o8⟩, hkk⟩ := h.sk
    obtain ⟨z, z1, z2, z3, z4, -⟩ := (h.1 turn ht).1.2.2.1
    simp only [S_X8_settle_18, S_X8_settle_18_b]
    rw [if_neg (nI_ge (by omega) (by omega))]
    simp only [w_gR o1, o2, Option.bind_some, w_ldQ o5 ht (by decide), (o8 turn ht).1, w_gI (hkk turn ht).1.1, z3, show (1 : Int32) - nI turn = nI (1 - turn) from pk_sub (a := 1) (by omega)]
    have key : ∀ f, f < 2 → ∃ σ', S_X8_settle_42 (S_X8_settle_18 M) σ o (nI N) (nI k) (nI f) = some (nI (match A.2.2.2 f with | [] => (k, A) | _ :: _ => asettle d (k + 1) (1 - f) (ahand A f).2).1, σ') ∧ RepC σ' o (match A.2.2.2 f with | [] => (k, A) | _ :: _ => asettle d (k + 1) (1 - f) (ahand A f).2).2 C0 ∧ keepR σ σ' o := by
      intro f hf
      obtain ⟨σ1, e1, hR1, k1⟩ := K_hand h hA hf
      simp only [S_X8_settle_42, S_X8_settle_50, w_rcv o1, Option.bind_some, e1]
      cases hq : A.2.2.2 f with
      | nil =>
        have e : ahand A f = (-1, A) := by unfold ahand; rw [hq]
        rw [e] at hR1 ⊢
        rw [if_pos (show ((-1 : Int32), A).1 = -1 from rfl)]
        exact ⟨σ1, rfl, hR1, k1⟩
      | cons pk ps =>
        have e : ¬ (ahand A f).1 = -1 := by
          rw [hand_eq hq]
          split
          · show ¬ (1 : Int32) = -1
            decide
          · show ¬ (0 : Int32) = -1
            decide
        rw [if_neg e, show (1 : Int32) - nI f = nI (1 - f) from pk_sub (a := 1) (by omega), nI_1]
        obtain ⟨σ2, e2, hR2, k2⟩ := ih (k + 1) (1 - f) M σ1 (ahand A f).2 (by omega) (by omega) (by omega) hR1 (hand_ok hA hf)
        exact ⟨σ2, e2, hR2, k1.tr k2⟩
    by_cases c : 0 < (A.2.2.2 turn).length
    · rw [if_neg (show ¬ nI (A.2.2.2 turn).length ≤ 0 from nI_nle c (by omega))]
      have ea : asettle (d + 1) k turn A = (match A.2.2.2 turn with | [] => (k, A) | _ :: _ => asettle d (k + 1) (1 - turn) (ahand A turn).2) := by
        show (match A.2.2.2 (if 0 < (A.2.2.2 turn).length then turn else 1 - turn) with | [] => (k, A) | _ :: _ => asettle d (k + 1) (1 - (if 0 < (A.2.2.2 turn).length then turn else 1 - turn)) (ahand A (if 0 < (A.2.2.2 turn).length then turn else 1 - turn)).2) = _
        rw [if_pos c]
      rw [ea]
      exact key turn ht
    · rw [if_pos (show nI (A.2.2.2 turn).length ≤ 0 from nI_le (b := 0) (by omega) (by decide))]
      have ea : asettle (d + 1) k turn A = (match A.2.2.2 (1 - turn) with | [] => (k, A) | _ :: _ => asettle d (k + 1) (1 - (1 - turn)) (ahand A (1 - turn)).2) := by
        show (match A.2.2.2 (if 0 < (A.2.2.2 turn).length then turn else 1 - turn) with | [] => (k, A) | _ :: _ => asettle d (k + 1) (1 - (if 0 < (A.2.2.2 turn).length then turn else 1 - turn)) (ahand A (if 0 < (A.2.2.2 turn).length then turn else 1 - turn)).2) = _
        rw [if_neg c]
      rw [ea]
      exact key (1 - turn) (by omega)
theorem K_settle {σ : hp} {o n C0 : Nat} {f : Int32} {A : aA} (h : RepC σ o A C0) (hA : okA n A) : ∃ σ', S_X8_settle σ o f = some ((c_settle A f).1, σ') ∧ RepC σ' o (c_settle A f).2 C0 ∧ keepR σ σ' o := by
  unfold c_settle
  simp only [S_X8_settle, S_X8_settle_12]
  by_cases f1 : f < 1
  · rw [if_pos f1, if_pos (Or.inl f1)]
    exact ⟨σ, rfl, h, keepR.rf⟩
  · rw [if_neg f1]
    by_cases f2 : f ≤ 200
    · rw [if_pos f2, if_neg (show ¬ (f < 1 ∨ 200 < f) from fun q => q.elim f1 (fun z => absurd z (Int32.not_lt.mpr f2)))]
      obtain ⟨N, hN, rfl⟩ := nI_of (show ¬ f < 0 from fun q => f1 (Int32.lt_of_lt_of_le q (by decide)))
      have hN2 : N ≤ 200 := (nI_leI (a := N) (b := 200) hN (by decide)).mp f2
      rw [nI_clamp hN]
      exact K_settleL hN2 N 0 0 FU σ A (by omega) (by show _ < 1000; omega) (by decide) h hA
    · rw [if_neg f2, if_pos (Or.inr (Int32.not_le.mp f2))]
      exact ⟨σ, rfl, h, keepR.rf⟩
theorem K_put {σ : hp} {o n C0 : Nat} {b : Int32} {A : aA} (h : RepC σ o A C0) (hA : okA n A) : ∃ σ', S_X8_put σ o b = some ((c_put A b).1, σ') ∧ RepC σ' o (c_put A b).2 C0 ∧ keepR σ σ' o := by
  have hx := h.x
  unfold c_put
  obtain ⟨⟨o1, o2, o3, o4, o5, o6, o7, o8⟩, hk⟩ := h.sk
  obtain ⟨l, l1, l2, -⟩ := hA.2
  have e3 := h.2.2
  rw [l2] at e3
  simp only [S_X8_put, S_X8_put_20, w_gI o1, Option.bind_some, e3, w_gR o1, o4, l2]
  by_cases b1 : b < 0
  · rw [if_pos b1, if_pos (Or.inl b1)]
    exact ⟨σ, rfl, h, keepR.rf⟩
  · rw [if_neg b1]
    by_cases b2 : 255 < b
    · rw [if_pos b2, if_pos (Or.inr (Or.inl b2))]
      exact ⟨σ, rfl, h, keepR.rf⟩
    · rw [if_neg b2]
      by_cases b3 : l < 100
      · rw [if_pos (show nI l < 100 from nI_lt (b := 100) b3 (by decide)), if_neg (show ¬ (b < 0 ∨ 255 < b ∨ 100 ≤ nI l) from fun q => q.elim b1 (fun q => q.elim b2 (fun q => absurd q (nI_ge (b := 100) b3 (by decide))))), nI_clamp (by omega)]
        have g1 : ∀ g : Nat → Int32, (st1 σ (o + 155) g).1 o = some (.inl 8) := fun g => o1
        have g3 : ∀ g : Nat → Int32, (st1 σ (o + 155) g).2.1 o = σ.2.1 o := fun g => st1_ne (by omega)
        have g4 : ∀ g k : Nat → Int32, (st1 (st1 σ (o + 155) g) o k).1 o = some (.inl 8) := fun g k => o1
        simp only [w_stI o7 b3 (by decide), Option.bind_some, w_gI (g1 _), g3, e3, w_pI (g1 _), w_gI (g4 _ _), st1_self, u_s, nI_1]
        refine ⟨_, rfl, ⟨fun t ht => ?_, fun i hi => ?_, ?_⟩, fun a a1 a2 => ⟨rfl, by rw [st1_ne (by omega), st1_ne (by omega)], rfl⟩⟩
        · have ea : ∀ t, t < 2 → (aJ (aJ A 2 l b) 2 100 (nI (l + 1))).1 t = A.1 t := fun t ht => by
            show va_up (va_up A.1 2 _) 2 _ t = _
            rw [va_up_ne _ _ (by omega), va_up_ne _ _ (by omega)]
          have hr := (h.1 t ht).1.2.1
          refine (h.1 t ht).ag (h.sk.of rfl rfl) ?_ (fun a ha => by rw [st1_ne (by omega), st1_ne (by omega)]) rfl rfl ⟨Nat.le_refl _, fun a a1 a2 => ⟨rfl, by rw [st1_ne (by omega), st1_ne (by omega)], rfl⟩⟩ (ea t ht) rfl rfl rfl
          unfold bB bC at hr ⊢
          rw [ea t ht, ea (1 - t) (by omega)]
          exact hr
        · rw [st1_ne (by omega), st1_self, aJ_nk (by omega)]
          by_cases hil : i = l
          · rw [hil, u_s, aJ_at]
          · rw [u_n hil, aJ_nk hil]
            exact h.2.1 i hi
        · rw [st1_self, u_s, aJ_at]
      · rw [if_neg (show ¬ nI l < 100 from nI_nlt (b := 100) (by omega) (by omega)), if_pos (show b < 0 ∨ 255 < b ∨ 100 ≤ nI l from Or.inr (Or.inr (nI_le (a := 100) (by omega) (by omega))))]
        exact ⟨σ, rfl, h, keepR.rf⟩
