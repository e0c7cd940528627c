/-! The invariant is kept by all calls. -/
theorem okJ.t {n : Nat} {f f' : Nat → Int32} (h : okJ n f) (e : ∀ k, k ≠ 8 → k ≠ 9 → k ≠ 10 → k ≠ 11 → k < 100 ∨ 200 ≤ k → f' k = f k) (hT : okTk f') (hE : okEx f') : okJ n f' := by
  obtain ⟨h1, h2, h3, h4, h5, h6, h7, h8⟩ := h
  refine ⟨?_, h2.c (e _ (by decide) (by decide) (by decide) (by decide) (by omega)), h3.c (e _ (by decide) (by decide) (by decide) (by decide) (by omega)), h4.c (e _ (by decide) (by decide) (by decide) (by decide) (by omega)), h5.c (e _ (by decide) (by decide) (by decide) (by decide) (by omega)), hT, h7.c (fun j a => e j (by omega) (by omega) (by omega) (by omega) (by omega)), hE⟩
  unfold kSt
  rw [e 0 (by decide) (by decide) (by decide) (by decide) (by omega)]
  exact h1
theorem exec8 {snd : aSnd} {A : aA} {s : Nat} {x : Int32} : aexec snd (aJ A s 8 x) s = aexec snd A s := by
  unfold aexec
  dsimp only
  rw [aJ_nk (show 14 ≠ 8 by decide), aJ_nk (show 9 ≠ 8 by decide), aJ_nk (show 10 ≠ 8 by decide)]
  congr 2
  funext t
  by_cases ht : t = s
  · subst ht
    rw [va_up_self, va_up_self]
    funext k
    by_cases k8 : k = 8
    · subst k8
      rw [if_neg (by omega), if_neg (by omega), if_neg (by decide), if_pos rfl, if_neg (by omega), if_neg (by omega), if_neg (by decide), if_pos rfl]
    · rw [aJ_nk k8, aJ_nk (show 100 + (k - (10000 + 100 * (A.1 t 14).toNatClampNeg)) ≠ 8 by omega)]
  · rw [va_up_ne _ _ ht, va_up_ne _ _ ht]
    unfold aJ
    exact va_up_ne _ _ ht
theorem upd_J4 {A : aA} {s : Nat} {a b c d : Int32} : aJ (aJ (aJ (aJ A s 8 a) s 9 b) s 10 c) s 11 d = (va_up A.1 s (upd (upd (upd (upd (A.1 s) 8 a) 9 b) 10 c) 11 d), A.2) := by
  unfold aJ
  dsimp only
  rw [va_up_self, va_up_self, va_up_self, bx_uu, bx_uu, bx_uu]
theorem okV.begin {n : Nat} {A : aA} {s l : Nat} {num x : Int32} (h : okV n A s) (hl : l ≤ 100) (hnum : okB num) (hx : x = 0 ∨ (x = 1 ∧ 0 < l)) (hn : ∀ e, A.1 s 14 = nI e → e ≤ 256 → ∀ i, i < e → A.1 s (5000 + i) ≠ num) : okV n (aJ (aJ (aJ (aJ A s 8 x) s 9 num) s 10 (nI l)) s 11 0) s := by
  rw [upd_J4]
  have E : ∀ k, k ≠ 8 → k ≠ 9 → k ≠ 10 → k ≠ 11 → upd (upd (upd (upd (A.1 s) 8 x) 9 num) 10 (nI l)) 11 0 k = A.1 s k := fun k a b c d => by rw [u_n d, u_n c, u_n b, u_n a]
  have E8 : upd (upd (upd (upd (A.1 s) 8 x) 9 num) 10 (nI l)) 11 0 8 = x := by rw [u_n (by decide), u_n (by decide), u_n (by decide), u_s]
  have E9 : upd (upd (upd (upd (A.1 s) 8 x) 9 num) 10 (nI l)) 11 0 9 = num := by rw [u_n (by decide), u_n (by decide), u_s]
  have E10 : upd (upd (upd (upd (A.1 s) 8 x) 9 num) 10 (nI l)) 11 0 10 = nI l := by rw [u_n (by decide), u_s]
  have E11 : upd (upd (upd (upd (A.1 s) 8 x) 9 num) 10 (nI l)) 11 0 11 = 0 := u_s
  refine h.j (h.1.1.t (fun k a b c d _ => E k a b c d) ⟨?_, ?_, 0, l, E11, E10, by omega, hl, fun q => ?_⟩ ?_) ?_ (E 6 (by decide) (by decide) (by decide) (by decide))
  · rw [E8]; exact hx.imp id (fun q => q.1)
  · rw [E9]; exact hnum
  · rw [E8] at q
    rcases hx with z | z
    · exact absurd z q
    · exact z.2
  · obtain ⟨e, e1, e2, e3, e4, e5⟩ := h.1.1.2.2.2.2.2.2.2
    refine ⟨e, e1, by rw [E 14 (by decide) (by decide) (by decide) (by decide)]; exact e2, fun i hi => ?_, fun i j hi hj => ?_, fun q i hi => ?_⟩
    · rw [E (5000 + i) (by omega) (by omega) (by omega) (by omega), E (6000 + i) (by omega) (by omega) (by omega) (by omega)]
      exact e3 i hi
    · rw [E (5000 + i) (by omega) (by omega) (by omega) (by omega), E (5000 + j) (by omega) (by omega) (by omega) (by omega)]
      exact e4 i j hi hj
    · rw [E (5000 + i) (by omega) (by omega) (by omega) (by omega), E9]
      exact hn e e2 e1 i hi
  · rw [E 0 (by decide) (by decide) (by decide) (by decide)]
    exact h.2.2.1
theorem okV.offer {n : Nat} {A : aA} {s l : Nat} {num : Int32} (h : okV n A s) (hl : l ≤ 100) (hnum : okB num) : okV n (aoffer asend A s num (nI l)) s := by
  unfold aoffer
  by_cases hh : aHas A s num = true
  · rw [if_pos hh]
    exact h.send (mk1_ok (k := 78) (by decide))
  · rw [if_neg hh]
    have hS := h.send (mk1_ok (k := 89) (by decide))
    rw [show nI 89 = (89 : Int32) from rfl] at hS
    have hn : ∀ e, (asend A s (mk1 89)).1 s 14 = nI e → e ≤ 256 → ∀ i, i < e → (asend A s (mk1 89)).1 s (5000 + i) ≠ num := by
      rw [asend_J]
      intro e q q2
      exact aHas_f q q2 (Bool.eq_false_iff.mpr hh)
    dsimp only
    split
    · rename_i q
      have B := hS.begin (x := 0) hl hnum (Or.inl rfl) hn
      have e8 : aexec asend (aJ (aJ (aJ (aJ (asend A s (mk1 89)) s 8 1) s 9 num) s 10 (nI l)) s 11 0) s = aexec asend (aJ (aJ (aJ (aJ (asend A s (mk1 89)) s 8 0) s 9 num) s 10 (nI l)) s 11 0) s := by
        rw [← exec8 (A := aJ (aJ (aJ (aJ (asend A s (mk1 89)) s 8 1) s 9 num) s 10 (nI l)) s 11 0) (x := 0)]
        congr 1
        rw [upd_J4, upd_J4]
        unfold aJ
        dsimp only
        rw [va_up_self, bx_uu]
        congr 2
        funext k
        unfold upd
        by_cases k8 : k = 8
        · subst k8; rfl
        · simp only [if_neg k8]
      rw [e8]
      refine B.exec (fun e q q2 i hi => ?_)
      rw [upd_J4] at q ⊢
      dsimp only at q ⊢
      rw [va_up_self] at q ⊢
      rw [u_n (by decide), u_n (by decide), u_n (by decide), u_n (by decide)] at q
      rw [u_n (by omega), u_n (by omega), u_n (by omega), u_n (by omega), u_n (by decide), u_n (by decide), u_s]
      exact hn e q q2 i hi
    · rename_i q
      have hl0 : 0 < l := by
        rcases Nat.eq_zero_or_pos l with z | z
        · rw [z] at q; exact absurd rfl q
        · exact z
      exact hS.begin hl hnum (Or.inr ⟨rfl, hl0⟩) hn
theorem okV.take {n h w k : Nat} {A : aA} {s : Nat} {m : Msg} {x : Int32} (hV : okV n A s) (hh : A.1 s 11 = nI h) (hw : A.1 s 10 = nI w) (hn : m 0 = nI k) (hb : h ≤ w ∧ w ≤ 100 ∧ k < 256) (hx : x = 0 ∨ (x = A.1 s 8 ∧ h + (if k - 1 ≤ w - h then k - 1 else w - h) < w)) : okV n (aJ (atake A s m) s 8 x) s := by
  rw [atake_eq hh hw hn (by omega)]
  generalize hc : (if k - 1 ≤ w - h then k - 1 else w - h) = c at hx ⊢
  have hcw : h + c ≤ w := by rw [← hc]; split <;> omega
  have eq : aJ (aJ (aB A s (100 + h) c (fun j => m (2 + j))) s 11 (nI (h + c))) s 8 x = (va_up A.1 s (upd (upd (bw (A.1 s) (100 + h) 0 c (fun j => m (2 + j))) 11 (nI (h + c))) 8 x), A.2) := by
    unfold aJ aB
    dsimp only
    rw [va_up_self, va_up_self, bx_uu, bx_uu]
  rw [eq]
  have E : ∀ k, k ≠ 8 → k ≠ 11 → k < 100 ∨ 200 ≤ k → upd (upd (bw (A.1 s) (100 + h) 0 c (fun j => m (2 + j))) 11 (nI (h + c))) 8 x k = A.1 s k := fun k a b d => by rw [u_n a, u_n b, bw_out (by omega)]
  have E8 : upd (upd (bw (A.1 s) (100 + h) 0 c (fun j => m (2 + j))) 11 (nI (h + c))) 8 x 8 = x := u_s
  have E11 : upd (upd (bw (A.1 s) (100 + h) 0 c (fun j => m (2 + j))) 11 (nI (h + c))) 8 x 11 = nI (h + c) := by rw [u_n (by decide), u_s]
  obtain ⟨t1, t2, -⟩ := hV.1.1.2.2.2.2.2.1
  refine hV.j (hV.1.1.t (fun k a _ _ b d => E k a b d) ⟨?_, ?_, h + c, w, E11, ?_, hcw, hb.2.1, fun q => ?_⟩ ?_) ?_ (E 6 (by decide) (by decide) (by omega))
  · rw [E8]
    rcases hx with z | z
    · exact Or.inl z
    · rw [z.1]; exact t1
  · rw [E 9 (by decide) (by decide) (by omega)]; exact t2
  · rw [E 10 (by decide) (by decide) (by omega)]; exact hw
  · rw [E8] at q
    rcases hx with z | z
    · exact absurd z q
    · exact z.2
  · rcases hx with z | z
    · exact hV.1.1.2.2.2.2.2.2.2.t0 (fun k a => E k (by omega) (by omega) (by omega)) (by rw [E8]; exact z)
    · refine hV.1.1.2.2.2.2.2.2.2.c (fun k a => ?_)
      by_cases k8 : k = 8
      · rw [k8, E8, z.1]
      · exact E k k8 (by omega) (by omega)
  · rw [E 0 (by decide) (by decide) (by omega)]
    exact hV.2.2.1
theorem aJ_same {A : aA} {s k : Nat} : aJ A s k (A.1 s k) = A := by
  unfold aJ
  rw [upd_id rfl]
  have : va_up A.1 s (A.1 s) = A.1 := by
    funext t
    by_cases h : t = s
    · subst h; exact va_up_self _ _ _
    · exact va_up_ne _ _ h
  rw [this]
theorem okV.done {n : Nat} {A : aA} {s : Nat} {m : Msg} (h : okV n A s) (hm : ∀ i, i < 32 → okB (m i)) (h0 : ¬ m 0 < 1) : okW n (adone asend A s m) s ∧ okX (adone asend A s m) s := by
  have fin : ∀ {B : aA}, okV n B s → okW n B s ∧ okX B s := fun hB => ⟨hB.1, hB.x⟩
  unfold adone
  split
  · split
    · split
      · exact ⟨(h.1.ctl (x := 1) (y := 0) (by decide) (by decide)).forget (Or.inl rfl), forget_x (fun q => absurd q (by decide))⟩
      · split
        · exact fin (h.aj (h.1.1.aj0 (by decide)) (by decide) (Or.inr (Or.inr rfl)))
        · split
          · exact fin h
          · rename_i hv
            split
            · exact fin (h.aj (h.1.1.aj13 hv) (by decide) (Or.inl (by decide))).goOn
            · split
              · exact fin (h.file hv)
              · exact fin h
    · exact fin h
  · split
    · split
      · rename_i hl
        obtain ⟨l, l1, l2⟩ := hm 3 (by decide)
        rw [l2] at hl ⊢
        rw [show (100 : Int32) = nI 100 from rfl, nIle (by omega) (by decide)] at hl
        exact fin (h.offer hl (hm 2 (by decide)))
      · exact fin h
    · split
      · rename_i hD
        obtain ⟨-, -, h8⟩ := hD
        obtain ⟨t1, t2, hh, w, a1, a2, a3, a4, a5⟩ := h.1.1.2.2.2.2.2.1
        obtain ⟨k, k1, k2⟩ := hm 0 (by decide)
        have e10 : (atake A s m).1 s 10 = nI w := by rw [atake_eq a1 a2 k2 (by omega), aJ_nk (by decide), aB_o (by omega)]; exact a2
        have e11 : (atake A s m).1 s 11 = nI (hh + (if k - 1 ≤ w - hh then k - 1 else w - hh)) := by rw [atake_eq a1 a2 k2 (by omega), aJ_at]
        have e8 : (atake A s m).1 s 8 = A.1 s 8 := by rw [atake_eq a1 a2 k2 (by omega), aJ_nk (by decide), aB_o (by omega)]
        have hle : hh + (if k - 1 ≤ w - hh then k - 1 else w - hh) ≤ w := by split <;> omega
        dsimp only
        by_cases he : (atake A s m).1 s 11 = (atake A s m).1 s 10
        · rw [if_pos he, ← exec8 (x := 0)]
          refine fin ((h.take (x := 0) a1 a2 k2 ⟨a3, a4, k1⟩ (Or.inl rfl)).exec (fun e q q2 i hi => ?_))
          have z : ∀ j, j ≠ 8 → j ≠ 11 → j < 100 ∨ 200 ≤ j → (aJ (atake A s m) s 8 0).1 s j = A.1 s j := fun j b1 b2 b3 => by rw [aJ_nk b1, atake_eq a1 a2 k2 (by omega), aJ_nk b2, aB_o (by split <;> omega)]
          rw [z 14 (by decide) (by decide) (by omega)] at q
          rw [z _ (by omega) (by omega) (by omega), z 9 (by decide) (by decide) (by omega)]
          obtain ⟨c, c1, c2, c3, c4, c5⟩ := h.1.1.2.2.2.2.2.2.2
          rw [c2] at q
          have : c = e := (nI_eq (by omega) (by omega)).mp q
          exact c5 h8 i (by omega)
        · rw [if_neg he]
          have := h.take (x := A.1 s 8) a1 a2 k2 ⟨a3, a4, k1⟩ (Or.inr ⟨rfl, by
            rcases Nat.lt_or_ge (hh + (if k - 1 ≤ w - hh then k - 1 else w - hh)) w with q | q
            · exact q
            · exact absurd (by rw [e11, e10, show hh + (if k - 1 ≤ w - hh then k - 1 else w - hh) = w by omega]) he⟩)
          rw [← e8, aJ_same] at this
          exact fin this
      · split
        · split
          · exact fin (h.send (mk1_ok (k := 72) (by decide)))
          · have hS := h.send (mk1_ok (k := 84) (by decide))
            exact fin (hS.aj (hS.1.1.aj0 (by decide)) (by decide) (Or.inr (Or.inl rfl))).goOn
        · exact fin h
theorem okV.of {n : Nat} {A B : aA} {s : Nat} (h : okV n A s) (hW : okW n B s) (hF : okF B s) (h0 : B.1 s 0 = A.1 s 0) (h6 : B.1 s 6 = A.1 s 6 ∨ B.1 s 6 = 0) : okV n B s := by
  refine ⟨hW, hF, by rw [h0]; exact h.2.2.1, ?_⟩
  rcases h6 with e | e
  · rw [e]; exact h.2.2.2
  · exact ⟨0, by decide, e⟩
theorem come_ok {n : Nat} {A : aA} {s : Nat} {p : Pkt} (hW : okW n A s) (hX : okX A s) (hV : A.1 s 0 = 2 ∨ A.1 s 0 = 3 → okV n A s) (hp : okP p) (hg : goodP p = true) : okW n (acome A s p) s ∧ okX (acome A s p) s := by
  have fin : ∀ {B : aA}, okV n B s → okW n B s ∧ okX B s := fun hB => ⟨hB.1, hB.x⟩
  obtain ⟨y, hy, hyy⟩ := and7_ex (p.2 4)
  obtain ⟨x, hx, hxx⟩ := and7_ex (p.2 4 >>> ((3 : Int32) &&& 31))
  have eX : pkX p = nI x := hxx
  have eY : pkY p = nI y := hyy
  unfold acome
  dsimp only
  rw [eX, eY]
  split
  · rename_i h38
    split
    · rename_i ho
      have hA := hV ho
      have hB : okV n (aflow (aack A s (nI y)) s) s := by
        refine hA.of (hW.ack hy).flow aflow_ok ?_ ?_
        · rw [aflow_J, aack_J (by decide) (by decide) (by decide)]
        · rw [aflow_J]
          rcases aack_6 (A := A) (s := s) (y := nI y) with e | e
          · exact Or.inr e
          · left; rw [e]
      generalize aflow (aack A s (nI y)) s = B at hB ⊢
      split
      · have h1 := hB.aj (hB.1.1.aj4 hx) (by decide) (Or.inl (by decide))
        have h2 := h1.aj (k := 3) (x := 1) (h1.1.1.aj (by decide)) (by decide) (Or.inl (by decide))
        have h3 : okV n (actl (aJ (aJ B s 4 (nI x)) s 3 1) s (nI 4) (nI x)) s := by
          refine h2.of (h2.1.ctl (by decide) hx) ?_ ?_ (Or.inl ?_)
          · unfold okF; rw [actl_J.2.1, actl_J.2.2]; exact h2.2.1
          · rw [actl_J.1]
          · rw [actl_J.1]
        refine h3.done (fun i hi => hp.2 _ (by omega)) ?_
        exact ((goodP_k hg).1 h38).2.1
      · obtain ⟨a, ha, haa⟩ := hB.1.1.2.2.1
        rw [haa]
        refine fin (hB.of (hB.1.ctl (x := 4) (by decide) ha) ?_ ?_ (Or.inl ?_))
        · unfold okF; rw [show actl B s 4 (nI a) = actl B s (nI 4) (nI a) from rfl, actl_J.2.1, actl_J.2.2]; exact hB.2.1
        · rw [actl_J.1]
        · rw [actl_J.1]
    · exact ⟨hW, hX⟩
  · split
    · split
      · exact ⟨hW, hX⟩
      · have h1 := forget_v (st := 3) hW (Or.inr rfl)
        have h2 := h1.aj (k := 2) (x := nI y) (h1.1.1.aj (by decide)) (by decide) (Or.inl (by decide))
        refine fin (h2.of (h2.1.ctl (x := 5) (by decide) hy) ?_ ?_ (Or.inl ?_))
        · unfold okF; rw [show actl (aJ (aforget A s 3) s 2 (nI y)) s 5 (nI y) = actl (aJ (aforget A s 3) s 2 (nI y)) s (nI 5) (nI y) from rfl, actl_J.2.1, actl_J.2.2]; exact h2.2.1
        · rw [actl_J.1]
        · rw [actl_J.1]
    · split
      · split
        · have h1 := forget_v (st := 2) hW (Or.inl rfl)
          have h2 := h1.aj (k := 2) (x := -1) (h1.1.1.aj (by decide)) (by decide) (Or.inl (by decide))
          exact fin h2.goOn
        · exact ⟨hW, hX⟩
      · split
        · rename_i ho
          have hA := hV ho
          split
          · exact ⟨hW.forget (Or.inl rfl), forget_x (fun q => absurd q (by decide))⟩
          · have e0 : (aack A s (nI y)).1 s 0 = A.1 s 0 := aack_J (by decide) (by decide) (by decide)
            have e6 : (aack A s (nI y)).1 s 6 = A.1 s 6 ∨ (aack A s (nI y)).1 s 6 = 0 := by
              rcases aack_6 (A := A) (s := s) (y := nI y) with e | e
              · exact Or.inr e
              · left; rw [e]
            split
            · have hG := (hW.ack hy).again
              have j1 : (aagain (aack A s (nI y)) s).1 = (aack A s (nI y)).1 := by rw [aagain_R]; exact (agR_J _ _ _).1
              split
              · refine fin (hA.of hG.flow aflow_ok (by rw [aflow_J, j1]; exact e0) (by rw [aflow_J, j1]; exact e6))
              · refine fin (hA.of (okW.flow ?_) aflow_ok (by rw [aflow_J, aJ_nk (by decide), j1]; exact e0) (by rw [aflow_J, aJ_at]; exact Or.inr rfl))
                exact hG.j (hG.1.aj (by decide))
            · exact fin (hA.of (hW.ack hy).flow aflow_ok (by rw [aflow_J]; exact e0) (by rw [aflow_J]; exact e6))
        · exact ⟨hW, hX⟩
def okNx (f : Nat → Int32) : Prop := ∃ l, l ≤ 100 ∧ f 100 = nI l ∧ ∀ i, i < l → okB (f i)
def okA (n : Nat) (A : aA) : Prop := (∀ s, s < 2 → okW n A s ∧ okX A s) ∧ okNx (A.1 2)
theorem okJ.mono {n n' : Nat} {f : Nat → Int32} (h : okJ n f) (hn : n ≤ n') : okJ n' f := by
  obtain ⟨h1, ⟨c, c1, c2⟩, h3⟩ := h
  exact ⟨h1, ⟨c, by omega, c2⟩, h3⟩
theorem okA.mono {n n' : Nat} {A : aA} (h : okA n A) (hn : n ≤ n') : okA n' A := ⟨fun s hs => ⟨⟨(h.1 s hs).1.1.mono hn, (h.1 s hs).1.2⟩, (h.1 s hs).2⟩, h.2⟩
theorem okW.cg {n s : Nat} {A B : aA} (h : okW n A s) (e1 : B.1 s = A.1 s) (e2 : B.2.1 s = A.2.1 s) (e3 : B.2.2.1 s = A.2.2.1 s) (e4 : B.2.2.2 s = A.2.2.2 s) : okW n B s := by
  unfold okW
  rw [e1, e2, e3, e4]
  exact h
theorem okX.cg {s : Nat} {A B : aA} (h : okX A s) (e1 : B.1 s = A.1 s) (e2 : B.2.1 s = A.2.1 s) (e3 : B.2.2.1 s = A.2.2.1 s) : okX B s := by
  unfold okX okF
  rw [e1, e2, e3]
  exact h
/-- one site changes -/
theorem okA.of {n s : Nat} {A B : aA} (h : okA n A) (hs : s < 2) (k : sm A B s) (hW : okW n B s) (hX : okX B s) : okA n B := by
  refine ⟨fun t ht => ?_, ?_⟩
  · by_cases e : t = s
    · subst e; exact ⟨hW, hX⟩
    · obtain ⟨k1, k2, k3, k4⟩ := k t e
      exact ⟨(h.1 t ht).1.cg k1 k2 k3 k4, (h.1 t ht).2.cg k1 k2 k3⟩
  · rw [(k 2 (by omega)).1]
    exact h.2
theorem okA.q {n s : Nat} {A : aA} {l : List Pkt} (h : okA n A) (hl : l.length ≤ 12) (hl2 : ∀ p, p ∈ l → okP p) : okA n (aQ A s l) := by
  refine ⟨fun t ht => ⟨?_, (h.1 t ht).2⟩, h.2⟩
  obtain ⟨h1, h2, h3, h4, h5, h6, h7⟩ := (h.1 t ht).1
  by_cases e : t = s
  · subst e
    refine ⟨h1, h2, h3, ?_, h5, h6, ?_⟩
    · show (va_up A.2.2.2 t l t).length ≤ 12
      rw [va_up_self]; exact hl
    · show ∀ p, p ∈ va_up A.2.2.2 t l t → okP p
      rw [va_up_self]; exact hl2
  · exact (h.1 t ht).1.cg rfl rfl rfl (va_up_ne _ _ e)
/-- what comes to an open site finds it so -/
theorem okX.v {n s : Nat} {A : aA} (hW : okW n A s) (hX : okX A s) (ho : A.1 s 0 = 2 ∨ A.1 s 0 = 3) (hK : okK A s) : okV n A s := by
  obtain ⟨x1, x2, x3, t, t1, t2, t3⟩ := hX
  refine ⟨hW, x1, ho, ?_⟩
  by_cases e : A.2.1 s = []
  · exact ⟨0, by decide, hK e⟩
  · exact ⟨t, t3 (Or.inr e), t1⟩
/-- the receiver, made ready -/
def aRdy (A : aA) (s : Nat) : aA := if (A.1 s 0 = 2 ∨ A.1 s 0 = 3) ∧ A.2.1 s = [] then aJ A s 6 0 else A
theorem rdy_ok {n s : Nat} {A : aA} (h : okA n A) (hs : s < 2) : okA n (aRdy A s) ∧ ((aRdy A s).1 s 0 = 2 ∨ (aRdy A s).1 s 0 = 3 → okK (aRdy A s) s) := by
  unfold aRdy
  split
  · rename_i q
    obtain ⟨hW, x1, x2, x3, t, t1, t2, t3⟩ := h.1 s hs
    refine ⟨h.of hs sm_aJ (hW.j (hW.1.aj (by decide))) ⟨x1, ?_, ?_, 0, aJ_at, by decide, fun _ => by decide⟩, fun _ _ => aJ_at⟩
    · rw [aJ_nk (by decide)]; exact x2
    · rw [aJ_nk (by decide), aJ_nk (by decide)]; exact x3
  · rename_i q
    exact ⟨h, fun ho he => absurd ⟨ho, he⟩ q⟩
theorem hand_eq {A : aA} {f : Nat} {p : Pkt} {ps : List Pkt} (h : A.2.2.2 f = p :: ps) : ahand A f = if goodP p then (1, acome (aRdy (aQ A f ps) (1 - f)) (1 - f) p) else (0, if A.1 (1 - f) 0 = 2 ∨ A.1 (1 - f) 0 = 3 then actl (aQ A f ps) (1 - f) 2 (A.1 (1 - f) 4) else aQ A f ps) := by
  unfold ahand
  rw [h]
  rfl
theorem hand_ok {n f : Nat} {A : aA} (h : okA n A) (hf : f < 2) : okA n (ahand A f).2 := by
  cases hq : A.2.2.2 f with
  | nil =>
    unfold ahand
    rw [hq]
    exact h
  | cons p ps =>
    rw [hand_eq hq]
    obtain ⟨⟨-, -, -, h4, -, -, h7⟩, -⟩ := h.1 f hf
    rw [hq] at h4 h7
    rw [List.length_cons] at h4
    have hB : okA n (aQ A f ps) := h.q (by omega) (fun q hq => h7 q (List.mem_cons_of_mem _ hq))
    have hs : 1 - f < 2 := by omega
    have hp := h7 p (List.mem_cons_self ..)
    split
    · rename_i hg
      obtain ⟨hC, hK⟩ := rdy_ok hB hs
      dsimp only
      generalize aRdy (aQ A f ps) (1 - f) = C at hC hK ⊢
      obtain ⟨c1, c2⟩ := come_ok (hC.1 _ hs).1 (hC.1 _ hs).2 (fun ho => (hC.1 _ hs).2.v (hC.1 _ hs).1 ho (hK ho)) hp hg
      exact hC.of hs sm_come c1 c2
    · dsimp only
      split
      · obtain ⟨a, ha, haa⟩ := (hB.1 _ hs).1.1.2.2.1
        rw [show A.1 (1 - f) 4 = (aQ A f ps).1 (1 - f) 4 from rfl, haa]
        refine hB.of hs sm_ctl ((hB.1 _ hs).1.ctl (x := 2) (by decide) ha) ((hB.1 _ hs).2.cg ?_ ?_ ?_)
        · rw [actl_J.1]
        · rw [actl_J.2.1]
        · rw [actl_J.2.2]
      · exact hB
theorem settle_ok {n : Nat} : ∀ (k h turn : Nat) (A : aA), okA n A → turn < 2 → okA n (asettle k h turn A).2 := by
  intro k
  induction k with
  | zero => intro h turn A hA _; exact hA
  | succ k ih =>
    intro h turn A hA ht
    unfold asettle
    dsimp only
    split
    · exact hA
    · refine ih _ _ _ (hand_ok hA ?_) (by omega)
      split <;> omega
theorem tick_ok {n s : Nat} {A : aA} (h : okA n A) (hs : s < 2) : okA n (atick A s).2 := by
  obtain ⟨hW, x1, x2, x3, t, t1, t2, t3⟩ := h.1 s hs
  have hF : okW n (aJ A s 6 (A.1 s 6 + 1)) s := hW.j (hW.1.aj (by decide))
  have hfor : okA n (aforget (aJ A s 6 (A.1 s 6 + 1)) s 0) := h.of hs (sm_aJ.tr sm_forget) (hF.forget (Or.inl rfl)) (forget_x (fun q => absurd q (by decide)))
  have e6 : A.1 s 6 + 1 = nI (t + 1) := by rw [t1, nI_1]
  have hB : ∀ t', t' ≤ 40 → (A.1 s 0 = 1 ∨ A.2.1 s ≠ [] → t' ≤ 3) → A.1 s 6 + 1 = nI t' → okA n (aJ A s 6 (A.1 s 6 + 1)) := fun t' a b c => by
    refine h.of hs sm_aJ hF ⟨x1, ?_, ?_, t', by rw [aJ_at]; exact c, a, ?_⟩
    · rw [aJ_nk (by decide)]; exact x2
    · rw [aJ_nk (by decide), aJ_nk (by decide)]; exact x3
    · rw [aJ_nk (by decide)]; exact b
  unfold atick
  dsimp only
  split
  · exact h
  · split
    · rename_i hno hq
      obtain ⟨q1, q2⟩ := hq
      dsimp only
      split
      · exact hfor
      · rename_i hq4
        refine hB (t + 1) ?_ (fun q => ?_) e6
        · rw [e6, show (41 : Int32) = nI 41 from rfl, nIeq (by omega) (by decide)] at hq4
          omega
        · rcases q with q | q
          · rcases q1 with z | z <;> rw [z] at q <;> exact absurd q (by decide)
          · exact absurd q2 q
    · split
      · rename_i q4
        rw [e6, show (4 : Int32) = nI 4 from rfl, nIlt (by omega) (by decide)] at q4
        exact hB (t + 1) (by omega) (fun _ => by omega) e6
      · split
        · exact hfor
        · rename_i q7
          obtain ⟨g, g1, g2⟩ := hW.1.2.2.2.2.1
          have hg : g < 5 := by
            rw [g2, show (5 : Int32) = nI 5 from rfl, nIeq (by omega) (by decide)] at q7
            omega
          have eC : aJ (aJ (aJ A s 6 (A.1 s 6 + 1)) s 7 (A.1 s 7 + 1)) s 6 0 = (va_up A.1 s (upd (upd (upd (A.1 s) 6 (A.1 s 6 + 1)) 7 (A.1 s 7 + 1)) 6 0), A.2) := by
            unfold aJ
            dsimp only
            rw [va_up_self, va_up_self, bx_uu, bx_uu]
          have hC : okW n (aJ (aJ (aJ A s 6 (A.1 s 6 + 1)) s 7 (A.1 s 7 + 1)) s 6 0) s := by
            rw [eC]
            refine hW.j ?_
            rw [g2, nI_1]
            exact ((hW.1.aj (k := 6) (by decide)).aj7 (by omega)).aj (by decide)
          have xC : okX (aJ (aJ (aJ A s 6 (A.1 s 6 + 1)) s 7 (A.1 s 7 + 1)) s 6 0) s := by
            refine ⟨x1, ?_, ?_, 0, aJ_at, by decide, fun _ => by decide⟩
            · rw [aJ_nk (by decide), aJ_nk (by decide), aJ_nk (by decide)]; exact x2
            · rw [aJ_nk (by decide), aJ_nk (by decide), aJ_nk (by decide), aJ_nk (by decide), aJ_nk (by decide), aJ_nk (by decide)]; exact x3
          have sC : sm A (aJ (aJ (aJ A s 6 (A.1 s 6 + 1)) s 7 (A.1 s 7 + 1)) s 6 0) s := (sm_aJ.tr sm_aJ).tr sm_aJ
          generalize aJ (aJ (aJ A s 6 (A.1 s 6 + 1)) s 7 (A.1 s 7 + 1)) s 6 0 = C at hC xC sC ⊢
          split
          · obtain ⟨y, hy, hyy⟩ := and7_ex (A.1 s 1 - 1)
            rw [hyy]
            refine h.of hs (sC.tr sm_ctl) (hC.ctl (x := 7) (by decide) hy) (xC.cg ?_ ?_ ?_)
            · rw [actl_J.1]
            · rw [actl_J.2.1]
            · rw [actl_J.2.2]
          · refine h.of hs (sC.tr sm_again) hC.again (xC.cg ?_ ?_ ?_)
            · rw [aagain_R, (agR_J _ _ _).1]
            · rw [aagain_R, (agR_J _ _ _).2.1]
            · rw [aagain_R, (agR_J _ _ _).2.2]
