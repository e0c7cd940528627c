/-! The weak form is kept. -/
theorem okW.j {n : Nat} {A : aA} {s : Nat} {f : Nat → Int32} (h : okW n A s) (hf : okJ n f) : okW n (va_up A.1 s f, A.2) s := by
  obtain ⟨-, h2⟩ := h
  refine ⟨?_, h2⟩
  show okJ n (va_up A.1 s f s)
  rw [va_up_self]
  exact hf
theorem okW.lay {n : Nat} {A : aA} {s : Nat} {p : Pkt} (h : okW n A s) (hp : okP p) : okW n (alay A s p) s := by
  obtain ⟨h1, h2, h3, h4, h5, h6, h7⟩ := h
  unfold alay
  split
  · rename_i hl
    refine ⟨h1, h2, h3, ?_, h5, h6, ?_⟩
    · show (va_up A.2.2.2 s _ s).length ≤ 12
      rw [va_up_self, List.length_append, List.length_singleton]
      omega
    · show ∀ q, q ∈ va_up A.2.2.2 s _ s → okP q
      rw [va_up_self]
      intro q hq
      rcases List.mem_append.mp hq with hq | hq
      · exact h7 q hq
      · rw [List.mem_singleton.mp hq]; exact hp
  · exact ⟨h1, h2, h3, h4, h5, h6, h7⟩
theorem okW.ctl {n : Nat} {A : aA} {s x y : Nat} (h : okW n A s) (hx : x < 8) (hy : y < 8) : okW n (actl A s (nI x) (nI y)) s := h.lay (ctlP_ok hx hy)
theorem okW.dat {n : Nat} {A : aA} {s k : Nat} (h : okW n A s) (hk : k < (A.2.1 s).length) : okW n (adat A s k) s := by
  obtain ⟨a4, l4, e4⟩ := h.1.2.2.1
  obtain ⟨a5, l5, e5⟩ := h.1.2.2.2.1
  unfold adat aNum
  have h3 := h.2.1
  rw [e4, e5, nI_add, and7 (by omega)]
  refine h.lay (datP_ok (by omega) l4 (h.2.2.2.2.1 _ ?_))
  rw [List.getD_eq_getElem?_getD, List.getElem?_eq_getElem hk]
  exact List.getElem_mem hk
theorem okW.flow1 {n : Nat} {A : aA} {s : Nat} (h : okW n A s) : okW n (aflow1 A s) s := by
  unfold aflow1
  split
  · exact h
  · rename_i m ws hw
    split
    · rename_i hl
      obtain ⟨h1, h2, h3, h4, h5, h6, h7⟩ := h
      rw [hw] at h3 h6
      have hB : okW n (aW (aO A s (A.2.1 s ++ [m])) s ws) s := by
        refine ⟨h1, ?_, ?_, h4, ?_, ?_, h7⟩
        · show (va_up A.2.1 s _ s).length ≤ 3
          rw [va_up_self, List.length_append, List.length_singleton]
          omega
        · show (va_up A.2.2.1 s _ s).length ≤ 16
          rw [va_up_self]
          rw [List.length_cons] at h3
          omega
        · show ∀ q, q ∈ va_up A.2.1 s _ s → okMsg q
          rw [va_up_self]
          intro q hq
          rcases List.mem_append.mp hq with hq | hq
          · exact h5 q hq
          · rw [List.mem_singleton.mp hq]; exact h6 m (List.mem_cons_self ..)
        · show ∀ q, q ∈ va_up A.2.2.1 s _ s → okMsg q
          rw [va_up_self]
          intro q hq
          exact h6 q (List.mem_cons_of_mem _ hq)
      refine hB.dat ?_
      show (A.2.1 s).length < (va_up A.2.1 s _ s).length
      rw [va_up_self, List.length_append, List.length_singleton]
      omega
    · exact h
theorem okW.flow {n : Nat} {A : aA} {s : Nat} (h : okW n A s) : okW n (aflow A s) s := h.flow1.flow1.flow1
theorem okW.add {n : Nat} {A : aA} {s : Nat} {m : Msg} (h : okW n A s) (hF : okF A s) (hm : okMsg m) : okW n (aadd A s m) s := by
  obtain ⟨h1, h2, h3, h4, h5, h6, h7⟩ := h
  unfold aadd
  split
  · rename_i hl
    refine ⟨h1, h2, ?_, h4, h5, ?_, h7⟩
    · show (va_up A.2.2.1 s _ s).length ≤ 16
      rw [va_up_self, List.length_append, List.length_singleton]
      rcases Nat.lt_or_ge (A.2.1 s).length 3 with q | q
      · rw [hF q]; decide
      · omega
    · show ∀ q, q ∈ va_up A.2.2.1 s _ s → okMsg q
      rw [va_up_self]
      intro q hq
      rcases List.mem_append.mp hq with hq | hq
      · exact h6 q hq
      · rw [List.mem_singleton.mp hq]; exact hm
  · exact ⟨h1, h2, h3, h4, h5, h6, h7⟩
theorem okW.send {n : Nat} {A : aA} {s : Nat} {m : Msg} (h : okW n A s) (hF : okF A s) (hm : okMsg m) : okW n (asend A s m) s := (h.add hF hm).flow
theorem okW_agR {n s : Nat} : ∀ (d k : Nat) (A : aA), okW n A s → k + d ≤ (A.2.1 s).length → okW n (agR s d k A) s := by
  intro d
  induction d with
  | zero => intro k A h _; exact h
  | succ d ih =>
    intro k A h hk
    show okW n (agR s d (k + 1) (adat A s k)) s
    refine ih _ _ (h.dat (by omega)) ?_
    rw [adat_eq]
    show _ ≤ (A.2.1 s).length
    omega
theorem okW.again {n : Nat} {A : aA} {s : Nat} (h : okW n A s) : okW n (aagain A s) s := by
  rw [aagain_R]
  exact okW_agR _ _ _ h (by omega)
theorem okJ.aj {n k : Nat} {f : Nat → Int32} {x : Int32} (h : okJ n f) (hk : k = 2 ∨ k = 3 ∨ k = 6) : okJ n (upd f k x) := by
  obtain ⟨h1, h2, h3, h4, h5, h6, h7, h8⟩ := h
  have e : ∀ j, j ≠ 2 → j ≠ 3 → j ≠ 6 → upd f k x j = f j := fun j a b c => u_n (by omega)
  refine ⟨?_, h2.c (e _ (by decide) (by decide) (by decide)), h3.c (e _ (by decide) (by decide) (by decide)), h4.c (e _ (by decide) (by decide) (by decide)), h5.c (e _ (by decide) (by decide) (by decide)), h6.c (fun j a b => e j (by omega) (by omega) (by omega)), h7.c (fun j a => e j (by omega) (by omega) (by omega)), h8.c (fun j a => e j (by omega) (by omega) (by omega))⟩
  unfold kSt
  rw [e 0 (by decide) (by decide) (by decide)]
  exact h1
theorem okJ.aj0 {n : Nat} {f : Nat → Int32} {x : Int32} (h : okJ n f) (hx : x = 0 ∨ x = 1 ∨ x = 2 ∨ x = 3) : okJ n (upd f 0 x) := by
  obtain ⟨h1, h2, h3, h4, h5, h6, h7, h8⟩ := h
  have e : ∀ j, j ≠ 0 → upd f 0 x j = f j := fun j a => u_n (by omega)
  refine ⟨?_, h2.c (e _ (by decide)), h3.c (e _ (by decide)), h4.c (e _ (by decide)), h5.c (e _ (by decide)), h6.c (fun j a b => e j (by omega)), h7.c (fun j a => e j (by omega)), h8.c (fun j a => e j (by omega))⟩
  unfold kSt
  rw [u_s]
  exact hx
theorem okJ.aj4 {n a : Nat} {f : Nat → Int32} (h : okJ n f) (ha : a < 8) : okJ n (upd f 4 (nI a)) := by
  obtain ⟨h1, h2, h3, h4, h5, h6, h7, h8⟩ := h
  have e : ∀ j, j ≠ 4 → upd f 4 (nI a) j = f j := fun j a => u_n (by omega)
  refine ⟨?_, h2.c (e _ (by decide)), ⟨a, ha, u_s⟩, h4.c (e _ (by decide)), h5.c (e _ (by decide)), h6.c (fun j a b => e j (by omega)), h7.c (fun j a => e j (by omega)), h8.c (fun j a => e j (by omega))⟩
  unfold kSt
  rw [e 0 (by decide)]
  exact h1
theorem okJ.aj5 {n a : Nat} {f : Nat → Int32} (h : okJ n f) (ha : a < 8) : okJ n (upd f 5 (nI a)) := by
  obtain ⟨h1, h2, h3, h4, h5, h6, h7, h8⟩ := h
  have e : ∀ j, j ≠ 5 → upd f 5 (nI a) j = f j := fun j a => u_n (by omega)
  refine ⟨?_, h2.c (e _ (by decide)), h3.c (e _ (by decide)), ⟨a, ha, u_s⟩, h5.c (e _ (by decide)), h6.c (fun j a b => e j (by omega)), h7.c (fun j a => e j (by omega)), h8.c (fun j a => e j (by omega))⟩
  unfold kSt
  rw [e 0 (by decide)]
  exact h1
theorem okJ.aj7 {n a : Nat} {f : Nat → Int32} (h : okJ n f) (ha : a < 6) : okJ n (upd f 7 (nI a)) := by
  obtain ⟨h1, h2, h3, h4, h5, h6, h7, h8⟩ := h
  have e : ∀ j, j ≠ 7 → upd f 7 (nI a) j = f j := fun j a => u_n (by omega)
  refine ⟨?_, h2.c (e _ (by decide)), h3.c (e _ (by decide)), h4.c (e _ (by decide)), ⟨a, ha, u_s⟩, h6.c (fun j a b => e j (by omega)), h7.c (fun j a => e j (by omega)), h8.c (fun j a => e j (by omega))⟩
  unfold kSt
  rw [e 0 (by decide)]
  exact h1
theorem okJ.aj13 {n : Nat} {f : Nat → Int32} (h : okJ n f) (hv : ¬ f 13 = 0) : okJ n (upd f 13 (f 13 - 1)) := by
  obtain ⟨h1, h2, h3, h4, h5, h6, ⟨u, v, d1, d2, d3, d4, d5⟩, h8⟩ := h
  have e : ∀ j, j ≠ 13 → upd f 13 (f 13 - 1) j = f j := fun j a => u_n (by omega)
  have hv2 : 0 < v := by
    rcases Nat.eq_zero_or_pos v with q | q
    · rw [q] at d2; exact absurd d2 hv
    · exact q
  refine ⟨?_, h2.c (e _ (by decide)), h3.c (e _ (by decide)), h4.c (e _ (by decide)), h5.c (e _ (by decide)), h6.c (fun j a b => e j (by omega)), ⟨u, v - 1, by rw [e 12 (by decide)]; exact d1, by rw [u_s, d2]; exact pk_sub (b := 1) (by omega), by omega, d4, fun j hj => ?_⟩, h8.c (fun j a => e j (by omega))⟩
  · unfold kSt
    rw [e 0 (by decide)]
    exact h1
  · obtain ⟨l, l1, l2, l3⟩ := d5 j hj
    refine ⟨l, l1, by rw [e _ (by omega)]; exact l2, fun i hi => ?_⟩
    rw [e _ (by omega)]
    exact l3 i hi
theorem okW.ack {n : Nat} {A : aA} {s y : Nat} (h : okW n A s) (hy : y < 8) : okW n (aack A s (nI y)) s := by
  obtain ⟨a5, l5, e5⟩ := h.1.2.2.2.1
  unfold aack
  dsimp only
  rw [e5, y_sub l5 hy, nI_clamp (by unfold ixY; omega)]
  split
  · rename_i hl
    have hJ : okJ n (upd (upd (upd (A.1 s) 5 ((nI a5 + nI (ixY a5 y + 1)) &&& 7)) 6 0) 7 0) := by
      have q : ixY a5 y < 8 := by unfold ixY; omega
      rw [nI_add, and7 (by omega)]
      exact ((h.1.aj5 (by omega)).aj (by omega)).aj7 (a := 0) (by decide)
    have e : aJ (aJ (aJ (aO A s ((A.2.1 s).drop (ixY a5 y + 1))) s 5 ((nI a5 + nI (ixY a5 y + 1)) &&& 7)) s 6 0) s 7 0 = (va_up (aO A s ((A.2.1 s).drop (ixY a5 y + 1))).1 s (upd (upd (upd (A.1 s) 5 ((nI a5 + nI (ixY a5 y + 1)) &&& 7)) 6 0) 7 0), (aO A s ((A.2.1 s).drop (ixY a5 y + 1))).2) := by
      unfold aJ aO
      dsimp only
      rw [va_up_self, va_up_self, bx_uu, bx_uu]
    rw [e]
    refine okW.j ?_ hJ
    obtain ⟨h1, h2, h3, h4, h5, h6, h7⟩ := h
    refine ⟨h1, ?_, h3, h4, ?_, h6, h7⟩
    · show (va_up A.2.1 s _ s).length ≤ 3
      rw [va_up_self, List.length_drop]
      omega
    · show ∀ q, q ∈ va_up A.2.1 s _ s → okMsg q
      rw [va_up_self]
      intro q hq
      exact h5 q (List.mem_of_mem_drop hq)
  · exact h
theorem okW.forget {n : Nat} {A : aA} {s : Nat} {st : Int32} (h : okW n A s) (hst : st = 0 ∨ st = 1 ∨ st = 2 ∨ st = 3) : okW n (aforget A s st) s := by
  obtain ⟨⟨h1, h2, h3, h4, h5, h6, h7, h8⟩, -, -, h9, -, -, h10⟩ := h
  refine ⟨?_, ?_, ?_, h9, ?_, ?_, h10⟩
  · show okJ n (va_up A.1 s _ s)
    rw [va_up_self]
    have e : ∀ j, j ≠ 0 → j ≠ 3 → j ≠ 4 → j ≠ 5 → j ≠ 6 → j ≠ 7 → j ≠ 8 → (fun k => if k = 0 then st else if k = 5 then 1 else if k = 3 ∨ k = 4 ∨ k = 6 ∨ k = 7 ∨ k = 8 then 0 else A.1 s k) j = A.1 s j := fun j _ _ _ _ _ _ _ => by
      show (if j = 0 then st else if j = 5 then 1 else if j = 3 ∨ j = 4 ∨ j = 6 ∨ j = 7 ∨ j = 8 then 0 else A.1 s j) = A.1 s j
      rw [if_neg (by omega), if_neg (by omega), if_neg (by omega)]
    refine ⟨hst, h2.c (e _ (by decide) (by decide) (by decide) (by decide) (by decide) (by decide) (by decide)), ⟨0, by decide, rfl⟩, ⟨1, by decide, rfl⟩, ⟨0, by decide, rfl⟩, ⟨Or.inl rfl, ?_, ?_⟩, h7.c (fun j a => e j (by omega) (by omega) (by omega) (by omega) (by omega) (by omega) (by omega)), h8.t0 (fun j a => e j (by omega) (by omega) (by omega) (by omega) (by omega) (by omega) (by omega)) rfl⟩
    · rw [e 9 (by decide) (by decide) (by decide) (by decide) (by decide) (by decide) (by decide)]
      exact h6.2.1
    · obtain ⟨hh, w, a1, a2, a3, a4, -⟩ := h6.2.2
      exact ⟨hh, w, by rw [e 11 (by decide) (by decide) (by decide) (by decide) (by decide) (by decide) (by decide)]; exact a1, by rw [e 10 (by decide) (by decide) (by decide) (by decide) (by decide) (by decide) (by decide)]; exact a2, a3, a4, fun q => absurd rfl q⟩
  · show (va_up A.2.1 s _ s).length ≤ 3
    rw [va_up_self]; decide
  · show (va_up A.2.2.1 s _ s).length ≤ 16
    rw [va_up_self]; decide
  · show ∀ q, q ∈ va_up A.2.1 s _ s → okMsg q
    rw [va_up_self]
    intro q hq
    cases hq
  · show ∀ q, q ∈ va_up A.2.2.1 s _ s → okMsg q
    rw [va_up_self]
    intro q hq
    cases hq
/-- open, and let out as far as may be -/
def okV (n : Nat) (A : aA) (s : Nat) : Prop := okW n A s ∧ okF A s ∧ (A.1 s 0 = 2 ∨ A.1 s 0 = 3) ∧ ∃ t, t ≤ 3 ∧ A.1 s 6 = nI t
def okX (A : aA) (s : Nat) : Prop := okF A s ∧ (A.1 s 0 = 0 ∨ A.1 s 0 = 1 → A.2.1 s = [] ∧ A.2.2.1 s = []) ∧ (A.1 s 0 = 1 → ¬ A.1 s 1 = 0) ∧ ∃ t, A.1 s 6 = nI t ∧ t ≤ 40 ∧ (A.1 s 0 = 1 ∨ A.2.1 s ≠ [] → t ≤ 3)
theorem okV.x {n : Nat} {A : aA} {s : Nat} (h : okV n A s) : okX A s := by
  obtain ⟨-, h2, h3, t, ht, h4⟩ := h
  refine ⟨h2, fun q => ?_, fun q => ?_, t, h4, by omega, fun _ => ht⟩
  · rcases h3 with e | e <;> rcases q with q | q <;> rw [e] at q <;> exact absurd q (by decide)
  · rcases h3 with e | e <;> rw [e] at q <;> exact absurd q (by decide)
theorem forget_x {A : aA} {s : Nat} {st : Int32} (hst : st = 1 → ¬ A.1 s 1 = 0) : okX (aforget A s st) s := by
  have e0 : (aforget A s st).1 s 0 = st := by unfold aforget; dsimp only; rw [va_up_self]; rfl
  have e6 : (aforget A s st).1 s 6 = 0 := by unfold aforget; dsimp only; rw [va_up_self]; rfl
  have e1 : (aforget A s st).1 s 1 = A.1 s 1 := by unfold aforget; dsimp only; rw [va_up_self]; rfl
  have o : (aforget A s st).2.1 s = [] := va_up_self _ _ _
  have w : (aforget A s st).2.2.1 s = [] := va_up_self _ _ _
  refine ⟨fun _ => w, fun _ => ⟨o, w⟩, by rw [e0, e1]; exact hst, 0, e6, by decide, fun _ => by decide⟩
theorem forget_v {n : Nat} {A : aA} {s : Nat} {st : Int32} (h : okW n A s) (hst : st = 2 ∨ st = 3) : okV n (aforget A s st) s := by
  have e0 : (aforget A s st).1 s 0 = st := by unfold aforget; dsimp only; rw [va_up_self]; rfl
  have e6 : (aforget A s st).1 s 6 = 0 := by unfold aforget; dsimp only; rw [va_up_self]; rfl
  have w : (aforget A s st).2.2.1 s = [] := va_up_self _ _ _
  exact ⟨h.forget (by rcases hst with q | q <;> rw [q] <;> decide), fun _ => w, by rw [e0]; exact hst, 0, by decide, e6⟩
theorem okV.send {n : Nat} {A : aA} {s : Nat} {m : Msg} (h : okV n A s) (hm : okMsg m) : okV n (asend A s m) s := by
  obtain ⟨h1, h2, h3, h4⟩ := h
  refine ⟨h1.send h2 hm, asend_F, ?_, ?_⟩
  · rw [asend_J]; exact h3
  · rw [asend_J]; exact h4
theorem okV.j {n : Nat} {A : aA} {s : Nat} {f : Nat → Int32} (h : okV n A s) (hf : okJ n f) (h0 : f 0 = 2 ∨ f 0 = 3) (h6 : f 6 = A.1 s 6) : okV n (va_up A.1 s f, A.2) s := by
  obtain ⟨h1, h2, h3, h4⟩ := h
  refine ⟨h1.j hf, h2, ?_, ?_⟩
  · show va_up A.1 s f s 0 = 2 ∨ va_up A.1 s f s 0 = 3
    rw [va_up_self]; exact h0
  · show ∃ t, t ≤ 3 ∧ va_up A.1 s f s 6 = nI t
    rw [va_up_self, h6]; exact h4
theorem okV.aj {n k : Nat} {A : aA} {s : Nat} {x : Int32} (h : okV n A s) (hf : okJ n (upd (A.1 s) k x)) (hk : k ≠ 6) (h0 : k ≠ 0 ∨ x = 2 ∨ x = 3) : okV n (aJ A s k x) s := by
  refine h.j hf ?_ (u_n (by omega))
  by_cases k0 : k = 0
  · subst k0
    rw [u_s]
    exact h0.resolve_left (fun q => q rfl)
  · rw [u_n (by omega)]
    exact h.2.2.1
theorem mk1_ok {k : Nat} (h : k < 256) : okMsg (mk1 (nI k)) := by
  refine ⟨1, by decide, by decide, rfl, fun i hi => ?_, fun i h1 h2 => ?_⟩
  · unfold mk1
    split
    · exact okB_n (k := 1) (by decide)
    · split
      · exact okB_n h
      · exact okB_n (k := 0) (by decide)
  · unfold mk1
    rw [if_neg (by omega), if_neg (by omega)]
theorem mkS_ok {j l : Nat} (h : j < 256) (hl : l < 256) : okMsg (mkS (nI j) (nI l)) := by
  refine ⟨3, by decide, by decide, rfl, fun i hi => ?_, fun i h1 h2 => ?_⟩
  · unfold mkS
    split
    · exact okB_n (k := 3) (by decide)
    · split
      · exact okB_n (k := 83) (by decide)
      · split
        · exact okB_n h
        · split
          · exact okB_n hl
          · exact okB_n (k := 0) (by decide)
  · unfold mkS
    rw [if_neg (by omega), if_neg (by omega), if_neg (by omega), if_neg (by omega)]
theorem mkD_ok {f : Nat → Int32} {c : Nat} (hc : c ≤ 30) (hf : ∀ i, i < c → okB (f i)) : okMsg (mkD f c) := by
  refine ⟨1 + c, by omega, by omega, rfl, fun i hi => ?_, fun i h1 h2 => ?_⟩
  · unfold mkD
    split
    · exact okB_n (by omega)
    · split
      · exact okB_n (k := 68) (by decide)
      · split
        · exact hf _ (by assumption)
        · exact okB_n (k := 0) (by decide)
  · unfold mkD
    rw [if_neg (by omega), if_neg (by omega), if_neg (by omega)]
theorem okV.goOn {n : Nat} {A : aA} {s : Nat} (h : okV n A s) : okV n (agoOn asend A s) s := by
  obtain ⟨u, v, d1, d2, d3, d4, d5⟩ := h.1.1.2.2.2.2.2.2.1
  unfold agoOn
  split
  · exact h.send (mk1_ok (k := 72) (by decide))
  · rename_i hv
    have hv2 : 0 < v := by
      rcases Nat.eq_zero_or_pos v with q | q
      · rw [q] at d2; exact absurd d2 hv
      · exact q
    dsimp only
    rw [d1, d2, pk_sub d3, nI_clamp (by omega)]
    obtain ⟨l, l1, l2, -⟩ := d5 (u - v) (by omega)
    rw [l2]
    exact h.send (mkS_ok (by omega) (by omega))
theorem okV.D {n : Nat} {A : aA} {s q c : Nat} {f : Nat → Int32} (h : okV n A s) (hf : ∀ i, i < c → okB (f i)) : okV n (aD asend f c s A q) s := by
  unfold aD
  split
  · refine h.send (mkD_ok (by split <;> omega) (fun i hi => hf _ ?_))
    split at hi <;> omega
  · exact h
theorem okV.file {n : Nat} {A : aA} {s : Nat} (h : okV n A s) (hv : ¬ A.1 s 13 = 0) : okV n (afile asend A s) s := by
  obtain ⟨u, v, d1, d2, d3, d4, d5⟩ := h.1.1.2.2.2.2.2.2.1
  have hv2 : 0 < v := by
    rcases Nat.eq_zero_or_pos v with q | q
    · rw [q] at d2; exact absurd d2 hv
    · exact q
  unfold afile
  dsimp only
  rw [d1, d2, pk_sub d3, nI_clamp (by omega)]
  obtain ⟨l, l1, l2, l3⟩ := d5 (u - v) (by omega)
  rw [l2, nI_clamp (by omega)]
  exact (((h.D l3).D l3).D l3).D l3
theorem okV.exec {n : Nat} {A : aA} {s : Nat} (h : okV n A s) (hn : ∀ e, A.1 s 14 = nI e → e ≤ 256 → ∀ i, i < e → A.1 s (5000 + i) ≠ A.1 s 9) : okV n (aexec asend A s) s := by
  obtain ⟨h1, h2, h3, h4, h5, ⟨h6a, h6b, hh, w, a1, a2, a3, a4, a5⟩, h7, h8⟩ := h.1.1
  have h8' := h8
  obtain ⟨e, e1, e2, e3, e4, e5⟩ := h8
  have hlt := h8'.room e2 e1 h6b (hn e e2 e1)
  unfold aexec
  dsimp only
  rw [e2, nI_clamp (by omega), a2, nI_clamp (by omega)]
  refine (h.j ?_ ?_ ?_).send (mk1_ok (k := 67) (by decide))
  · generalize hg : (fun k => if k = 5000 + e then A.1 s 9 else if k = 6000 + e then nI w else if k = 14 then nI e + 1 else if k = 8 then 0 else if 10000 + 100 * e ≤ k ∧ k < 10000 + 100 * e + w then A.1 s (100 + (k - (10000 + 100 * e))) else A.1 s k) = g
    have E : ∀ k, k ≠ 5000 + e → k ≠ 6000 + e → k ≠ 14 → k ≠ 8 → k < 10000 → g k = A.1 s k := fun k q1 q2 q3 q4 q5 => by
      rw [← hg]
      show (if k = 5000 + e then A.1 s 9 else if k = 6000 + e then nI w else if k = 14 then nI e + 1 else if k = 8 then 0 else if 10000 + 100 * e ≤ k ∧ k < 10000 + 100 * e + w then A.1 s (100 + (k - (10000 + 100 * e))) else A.1 s k) = _
      rw [if_neg q1, if_neg q2, if_neg q3, if_neg q4, if_neg (by omega)]
    have E5 : g (5000 + e) = A.1 s 9 := by rw [← hg]; exact if_pos rfl
    have E6 : g (6000 + e) = nI w := by
      rw [← hg]
      show (if 6000 + e = 5000 + e then A.1 s 9 else if 6000 + e = 6000 + e then nI w else _) = _
      rw [if_neg (by omega), if_pos rfl]
    have E14 : g 14 = nI (e + 1) := by
      rw [← hg]
      show (if 14 = 5000 + e then A.1 s 9 else if 14 = 6000 + e then nI w else if 14 = 14 then nI e + 1 else _) = _
      rw [if_neg (by omega), if_neg (by omega), if_pos rfl, nI_1]
    have E8 : g 8 = 0 := by
      rw [← hg]
      show (if 8 = 5000 + e then A.1 s 9 else if 8 = 6000 + e then nI w else if 8 = 14 then nI e + 1 else if 8 = 8 then 0 else _) = _
      rw [if_neg (by omega), if_neg (by omega), if_neg (by decide), if_pos rfl]
    refine ⟨?_, h2.c (E _ (by omega) (by omega) (by omega) (by omega) (by omega)), h3.c (E _ (by omega) (by omega) (by omega) (by omega) (by omega)), h4.c (E _ (by omega) (by omega) (by omega) (by omega) (by omega)), h5.c (E _ (by omega) (by omega) (by omega) (by omega) (by omega)), ⟨Or.inl E8, ?_, hh, w, ?_, ?_, a3, a4, fun q => absurd E8 q⟩, h7.c (fun k hk => E k (by omega) (by omega) (by omega) (by omega) (by omega)), e + 1, by omega, E14, fun i hi => ?_, fun i j hi hj => ?_, fun q => absurd E8 q⟩
    · unfold kSt
      rw [E 0 (by omega) (by omega) (by omega) (by omega) (by omega)]
      exact h1
    · rw [E 9 (by omega) (by omega) (by omega) (by omega) (by omega)]; exact h6b
    · rw [E 11 (by omega) (by omega) (by omega) (by omega) (by omega)]; exact a1
    · rw [E 10 (by omega) (by omega) (by omega) (by omega) (by omega)]; exact a2
    · by_cases hie : i = e
      · subst hie
        rw [E5, E6]
        exact ⟨h6b, w, a4, rfl⟩
      · rw [E (5000 + i) (by omega) (by omega) (by omega) (by omega) (by omega), E (6000 + i) (by omega) (by omega) (by omega) (by omega) (by omega)]
        exact e3 i (by omega)
    · rw [E (5000 + i) (by omega) (by omega) (by omega) (by omega) (by omega)]
      by_cases hje : j = e
      · subst hje
        rw [E5]
        exact hn j e2 e1 i hi
      · rw [E (5000 + j) (by omega) (by omega) (by omega) (by omega) (by omega)]
        exact e4 i j hi (by omega)
  · show (if 0 = 5000 + e then A.1 s 9 else if 0 = 6000 + e then nI w else if 0 = 14 then nI e + 1 else if 0 = 8 then 0 else if 10000 + 100 * e ≤ 0 ∧ 0 < 10000 + 100 * e + w then A.1 s (100 + (0 - (10000 + 100 * e))) else A.1 s 0) = 2 ∨ (if 0 = 5000 + e then A.1 s 9 else if 0 = 6000 + e then nI w else if 0 = 14 then nI e + 1 else if 0 = 8 then 0 else if 10000 + 100 * e ≤ 0 ∧ 0 < 10000 + 100 * e + w then A.1 s (100 + (0 - (10000 + 100 * e))) else A.1 s 0) = 3
    rw [if_neg (by omega), if_neg (by omega), if_neg (by decide), if_neg (by decide), if_neg (by omega)]
    exact h.2.2.1
  · show (if 6 = 5000 + e then A.1 s 9 else if 6 = 6000 + e then nI w else if 6 = 14 then nI e + 1 else if 6 = 8 then 0 else if 10000 + 100 * e ≤ 6 ∧ 6 < 10000 + 100 * e + w then A.1 s (100 + (6 - (10000 + 100 * e))) else A.1 s 6) = _
    rw [if_neg (by omega), if_neg (by omega), if_neg (by decide), if_neg (by decide), if_neg (by omega)]
