/-! The invariant and the calls. -/
theorem clamp_s {f : Int32} (h : f = 0 ∨ f = 1) : f.toNatClampNeg < 2 ∧ f = nI f.toNatClampNeg := by
  rcases h with rfl | rfl <;> exact ⟨by decide, rfl⟩
theorem put_ok {n : Nat} {A : aA} {b : Int32} (h : okA n A) : okA n (c_put A b).2 := by
  unfold c_put
  split
  · exact h
  · rename_i q
    obtain ⟨h1, l, l1, l2, l3⟩ := h
    have hl : l < 100 := by
      rcases Nat.lt_or_ge l 100 with z | z
      · exact z
      · exact absurd (Or.inr (Or.inr (by rw [l2]; exact nI_le (a := 100) z (by omega)))) q
    have hb : okB b := by
      obtain ⟨k, k1, k2⟩ := nI_of2 (x := b) (M := 255) (n := 255) rfl (fun z => q (Or.inl z)) (Int32.not_lt.mp (fun z => q (Or.inr (Or.inl z))))
      exact ⟨k, by omega, k2⟩
    refine ⟨fun s hs => ?_, ?_⟩
    · have e1 : ((aJ (aJ A 2 (A.1 2 100).toNatClampNeg b) 2 100 (A.1 2 100 + 1))).1 s = A.1 s := by
        unfold aJ
        dsimp only
        rw [va_up_ne _ _ (by omega), va_up_ne _ _ (by omega)]
      exact ⟨(h1 s hs).1.cg e1 rfl rfl rfl, (h1 s hs).2.cg e1 rfl rfl⟩
    · refine ⟨l + 1, by omega, by rw [aJ_at, l2, nI_1], fun i hi => ?_⟩
      rw [aJ_nk (by omega), l2, nI_clamp (by omega)]
      by_cases e : i = l
      · subst e; rw [aJ_at]; exact hb
      · rw [aJ_nk e]; exact l3 i (by omega)
theorem queue_ok {n : Nat} {A : aA} {s : Int32} (h : okA n A) : okA n (c_queue A s).2 := by
  unfold c_queue
  split
  · rename_i hs
    obtain ⟨ht, -⟩ := clamp_s hs
    dsimp only
    generalize s.toNatClampNeg = t at ht ⊢
    split
    · exact h
    · rename_i q
      obtain ⟨h1, l, l1, l2, l3⟩ := h
      obtain ⟨hW, hX⟩ := h1 t ht
      obtain ⟨⟨k1, k2, k3, k4, k5, k6, ⟨u, v, d1, d2, d3, d4, d5⟩, k8⟩, -⟩ := id hW
      have hu : u < 30 := by
        rw [d1, show (30 : Int32) = nI 30 from rfl, nIle (by decide) (by omega)] at q
        omega
      dsimp only
      rw [d1, d2, l2, nI_clamp (by omega), nI_clamp (by omega)]
      generalize hg : (fun k => if k = 200 + u then nI l else if k = 12 then nI u + 1 else if k = 13 then nI v + 1 else if 1000 + 100 * u ≤ k ∧ k < 1000 + 100 * u + l then A.1 2 (k - (1000 + 100 * u)) else A.1 t k) = g
      have E : ∀ k, k ≠ 200 + u → k ≠ 12 → k ≠ 13 → ¬ (1000 + 100 * u ≤ k ∧ k < 1000 + 100 * u + l) → g k = A.1 t k := fun k a b c d => by
        rw [← hg]
        show (if k = 200 + u then nI l else if k = 12 then nI u + 1 else if k = 13 then nI v + 1 else if 1000 + 100 * u ≤ k ∧ k < 1000 + 100 * u + l then A.1 2 (k - (1000 + 100 * u)) else A.1 t k) = _
        rw [if_neg a, if_neg b, if_neg c, if_neg d]
      have E1 : g (200 + u) = nI l := by rw [← hg]; exact if_pos rfl
      have E12 : g 12 = nI (u + 1) := by
        rw [← hg]
        show (if 12 = 200 + u then nI l else if 12 = 12 then nI u + 1 else _) = _
        rw [if_neg (by omega), if_pos rfl, nI_1]
      have E13 : g 13 = nI (v + 1) := by
        rw [← hg]
        show (if 13 = 200 + u then nI l else if 13 = 12 then nI u + 1 else if 13 = 13 then nI v + 1 else _) = _
        rw [if_neg (by omega), if_neg (by decide), if_pos rfl, nI_1]
      have EF : ∀ i, i < l → g (1000 + 100 * u + i) = A.1 2 i := fun i hi => by
        rw [← hg]
        show (if 1000 + 100 * u + i = 200 + u then nI l else if 1000 + 100 * u + i = 12 then nI u + 1 else if 1000 + 100 * u + i = 13 then nI v + 1 else if 1000 + 100 * u ≤ 1000 + 100 * u + i ∧ 1000 + 100 * u + i < 1000 + 100 * u + l then A.1 2 (1000 + 100 * u + i - (1000 + 100 * u)) else A.1 t _) = _
        rw [if_neg (by omega), if_neg (by omega), if_neg (by omega), if_pos (by omega), Nat.add_sub_cancel_left]
      have gJ : okJ n g := by
        refine ⟨?_, k2.c (E _ (by omega) (by omega) (by omega) (by omega)), k3.c (E _ (by omega) (by omega) (by omega) (by omega)), k4.c (E _ (by omega) (by omega) (by omega) (by omega)), k5.c (E _ (by omega) (by omega) (by omega) (by omega)), k6.c (fun k a b => E k (by omega) (by omega) (by omega) (by omega)), ⟨u + 1, v + 1, E12, E13, by omega, by omega, fun j hj => ?_⟩, k8.c (fun k a => E k (by omega) (by omega) (by omega) (by omega))⟩
        · unfold kSt
          rw [E 0 (by omega) (by omega) (by omega) (by omega)]
          exact k1
        · by_cases e : j = u
          · subst e
            exact ⟨l, l1, E1, fun i hi => by rw [EF i hi]; exact l3 i hi⟩
          · obtain ⟨b, b1, b2, b3⟩ := d5 j (by omega)
            exact ⟨b, b1, by rw [E _ (by omega) (by omega) (by omega) (by omega)]; exact b2, fun i hi => by rw [E _ (by omega) (by omega) (by omega) (by omega)]; exact b3 i hi⟩
      have hO : okA n (va_up A.1 t g, A.2) := by
        refine okA.of ⟨h1, l, l1, l2, l3⟩ ht sm_J (hW.j gJ) ?_
        unfold okX okF
        dsimp only
        rw [va_up_self, E 0 (by omega) (by omega) (by omega) (by omega), E 1 (by omega) (by omega) (by omega) (by omega), E 6 (by omega) (by omega) (by omega) (by omega)]
        exact hX
      refine ⟨fun s hs => ?_, 0, by decide, aJ_at, fun i hi => by omega⟩
      have e1 : (aJ (va_up A.1 t g, A.2) 2 100 0).1 s = (va_up A.1 t g, A.2).1 s := by
        unfold aJ
        exact va_up_ne _ _ (by omega)
      exact ⟨(hO.1 s hs).1.cg e1 rfl rfl rfl, (hO.1 s hs).2.cg e1 rfl rfl⟩
  · exact h
theorem lose_ok {n : Nat} {A : aA} {f : Int32} (h : okA n A) : okA n (c_lose A f).2 := by
  unfold c_lose
  split
  · rename_i hs
    obtain ⟨ht, -⟩ := clamp_s hs
    generalize f.toNatClampNeg = t at ht ⊢
    split
    · exact h
    · rename_i p ps hq
      obtain ⟨⟨-, -, -, h4, -, -, h7⟩, -⟩ := h.1 t ht
      rw [hq] at h4 h7
      rw [List.length_cons] at h4
      exact h.q (by omega) (fun q hq => h7 q (List.mem_cons_of_mem _ hq))
  · exact h
theorem okB_mask {x : Int32} (h : ¬ x < 1) (h2 : ¬ 255 < x) : okB x := by
  obtain ⟨k, k1, k2⟩ := nI_of2 (x := x) (M := 255) (n := 255) rfl (fun z => h (Int32.lt_of_lt_of_le z (by decide))) (Int32.not_lt.mp h2)
  exact ⟨k, by omega, k2⟩
theorem alter_ok {n : Nat} {A : aA} {f a m : Int32} (h : okA n A) : okA n (c_alter A f a m).2 := by
  unfold c_alter
  split
  · rename_i hs
    obtain ⟨ht, -⟩ := clamp_s hs
    generalize f.toNatClampNeg = t at ht ⊢
    split
    · exact h
    · rename_i p ps hq
      split
      · exact h
      · rename_i hc
        obtain ⟨⟨-, -, -, h4, -, -, h7⟩, -⟩ := h.1 t ht
        rw [hq] at h4 h7
        rw [List.length_cons] at h4
        have hp := h7 p (List.mem_cons_self ..)
        refine h.q (by rw [List.length_cons]; omega) (fun q hq => ?_)
        rcases List.mem_cons.mp hq with e | e
        · subst e
          refine ⟨hp.1, fun i hi => ?_⟩
          have hi : i < p.1 := hi
          show okB (upd p.2 _ _ i)
          by_cases e2 : i = a.toNatClampNeg
          · subst e2
            rw [u_s]
            exact okB_xor (hp.2 _ hi) (okB_mask (fun z => hc (Or.inr (Or.inr (Or.inl z)))) (fun z => hc (Or.inr (Or.inr (Or.inr z)))))
          · rw [u_n e2]
            exact hp.2 i hi
        · exact h7 q (List.mem_cons_of_mem _ e)
  · exact h
theorem call_ok {n : Nat} {A : aA} {s : Int32} (h : okA n A) (hn : n < 2 ^ 20) : okA (n + 1) (c_call A s).2 := by
  unfold c_call
  split
  · rename_i hs
    obtain ⟨ht, -⟩ := clamp_s hs
    dsimp only
    generalize s.toNatClampNeg = t at ht ⊢
    split
    · have hQ : okA (n + 1) (aQ (aQ A 0 []) 1 []) := ((h.mono (by omega)).q (by simp) (fun p hp => by cases hp)).q (by simp) (fun p hp => by cases hp)
      have hW0 := (h.1 t ht).1
      obtain ⟨c, c1, c2⟩ := hW0.1.2.1
      obtain ⟨y, hy, hyy⟩ := and7_ex (A.1 t 1)
      have hW := (((hQ.1 t ht).1.forget (st := 1) (Or.inr (Or.inl rfl))).ctl (x := 7) (by decide) hy)
      rw [← hyy] at hW
      dsimp only
      refine hQ.of ht ((sm_forget.tr sm_ctl).tr sm_aJ) (hW.j ?_) ?_
      · obtain ⟨j1, j2, j3, j4, j5, j6, j7, j8⟩ := hW.1
        have e : ∀ j, j ≠ 1 → ∀ f : Nat → Int32, upd f 1 (A.1 t 1 + 1) j = f j := fun j a f => u_n (by omega)
        refine ⟨?_, ⟨c + 1, by omega, by rw [u_s, c2, nI_1]⟩, j3.c (e _ (by decide) _), j4.c (e _ (by decide) _), j5.c (e _ (by decide) _), j6.c (fun j a b => e j (by omega) _), j7.c (fun j a => e j (by omega) _), j8.c (fun j a => e j (by omega) _)⟩
        unfold kSt
        rw [e 0 (by decide)]
        exact j1
      · obtain ⟨x1, x2, x3, x4⟩ := forget_x (A := aJ (aQ (aQ A 0 []) 1 []) t 1 (A.1 t 1 + 1)) (s := t) (st := 1) (fun _ => by
          rw [aJ_at, c2, nI_1]
          exact nI_ne0 (by omega) (by omega))
        have o : (aJ (actl (aforget (aQ (aQ A 0 []) 1 []) t 1) t 7 (A.1 t 1 &&& 7)) t 1 (A.1 t 1 + 1)).2.1 t = [] := by
          show (actl _ t 7 _).2.1 t = []
          rw [actl_J.2.1]
          exact va_up_self _ _ _
        have w : (aJ (actl (aforget (aQ (aQ A 0 []) 1 []) t 1) t 7 (A.1 t 1 &&& 7)) t 1 (A.1 t 1 + 1)).2.2.1 t = [] := by
          show (actl _ t 7 _).2.2.1 t = []
          rw [actl_J.2.2]
          exact va_up_self _ _ _
        refine ⟨fun _ => w, fun _ => ⟨o, w⟩, fun _ => ?_, 0, ?_, by decide, fun _ => by decide⟩
        · rw [aJ_at, c2, nI_1]
          exact nI_ne0 (by omega) (by omega)
        · rw [aJ_nk (by decide), actl_J.1]
          unfold aforget
          dsimp only
          rw [va_up_self]
          rfl
    · exact h.mono (by omega)
  · exact h.mono (by omega)
theorem crash_ok {n : Nat} {A : aA} {s : Int32} (h : okA n A) : okA n (c_crash A s).2 := by
  unfold c_crash
  split
  · rename_i hs
    obtain ⟨ht, -⟩ := clamp_s hs
    exact h.of ht sm_forget ((h.1 _ ht).1.forget (Or.inl rfl)) (forget_x (fun q => absurd q (by decide)))
  · exact h
theorem ctick_ok {n : Nat} {A : aA} (h : okA n A) : okA n (c_tick A).2 := tick_ok (tick_ok h (by decide)) (by decide)
theorem csettle_ok {n : Nat} {A : aA} {k : Int32} (h : okA n A) : okA n (c_settle A k).2 := by
  unfold c_settle
  split
  · exact h
  · exact settle_ok _ _ _ _ h (by decide)
theorem deliver_ok {n : Nat} {A : aA} {f : Int32} (h : okA n A) : okA n (c_deliver A f).2 := by
  unfold c_deliver
  split
  · rename_i hs
    exact hand_ok h (clamp_s hs).1
  · exact h
