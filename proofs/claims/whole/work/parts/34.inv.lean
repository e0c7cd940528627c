/-! What holds of the abstract link at all times. -/
def okMsg (m : Msg) : Prop := ∃ n, 1 ≤ n ∧ n ≤ 31 ∧ m 0 = nI n ∧ (∀ i, i < 32 → okB (m i)) ∧ ∀ i, n < i → i < 32 → m i = 0
def kSt (f : Nat → Int32) : Prop := f 0 = 0 ∨ f 0 = 1 ∨ f 0 = 2 ∨ f 0 = 3
def kNum (f : Nat → Int32) (k b : Nat) : Prop := ∃ a, a < b ∧ f k = nI a
def okTk (f : Nat → Int32) : Prop := (f 8 = 0 ∨ f 8 = 1) ∧ okB (f 9) ∧ ∃ h w, f 11 = nI h ∧ f 10 = nI w ∧ h ≤ w ∧ w ≤ 100 ∧ (¬ f 8 = 0 → h < w)
def okDk (f : Nat → Int32) : Prop := ∃ u v, f 12 = nI u ∧ f 13 = nI v ∧ v ≤ u ∧ u ≤ 30 ∧ ∀ j, j < u → ∃ l, l ≤ 100 ∧ f (200 + j) = nI l ∧ ∀ i, i < l → okB (f (1000 + 100 * j + i))
def okEx (f : Nat → Int32) : Prop := ∃ e, e ≤ 256 ∧ f 14 = nI e ∧ (∀ i, i < e → okB (f (5000 + i)) ∧ ∃ l, l ≤ 100 ∧ f (6000 + i) = nI l) ∧ (∀ i j, i < j → j < e → f (5000 + i) ≠ f (5000 + j)) ∧ (¬ f 8 = 0 → ∀ i, i < e → f (5000 + i) ≠ f 9)
def okJ (n : Nat) (f : Nat → Int32) : Prop := kSt f ∧ kNum f 1 (n + 1) ∧ kNum f 4 8 ∧ kNum f 5 8 ∧ kNum f 7 6 ∧ okTk f ∧ okDk f ∧ okEx f
theorem okTk.c {f f' : Nat → Int32} (h : okTk f) (e : ∀ k, 8 ≤ k → k ≤ 11 → f' k = f k) : okTk f' := by
  unfold okTk
  rw [e 8 (by decide) (by decide), e 9 (by decide) (by decide), e 10 (by decide) (by decide), e 11 (by decide) (by decide)]
  exact h
theorem okDk.c {f f' : Nat → Int32} (h : okDk f) (e : ∀ k, k = 12 ∨ k = 13 ∨ (200 ≤ k ∧ k < 5000) → f' k = f k) : okDk f' := by
  obtain ⟨u, v, h1, h2, h3, h4, h5⟩ := h
  refine ⟨u, v, by rw [e 12 (by omega)]; exact h1, by rw [e 13 (by omega)]; exact h2, h3, h4, fun j hj => ?_⟩
  obtain ⟨l, l1, l2, l3⟩ := h5 j hj
  refine ⟨l, l1, by rw [e _ (by omega)]; exact l2, fun i hi => ?_⟩
  rw [e _ (by omega)]
  exact l3 i hi
theorem okEx.c {f f' : Nat → Int32} (h : okEx f) (e : ∀ k, k = 14 ∨ k = 8 ∨ k = 9 ∨ (5000 ≤ k ∧ k < 6300) → f' k = f k) : okEx f' := by
  obtain ⟨c, h1, h2, h3, h4, h5⟩ := h
  refine ⟨c, h1, by rw [e 14 (by omega)]; exact h2, fun i hi => ?_, fun i j hi hj => ?_, fun h8 i hi => ?_⟩
  · rw [e (5000 + i) (by omega), e (6000 + i) (by omega)]
    exact h3 i hi
  · rw [e (5000 + i) (by omega), e (5000 + j) (by omega)]
    exact h4 i j hi hj
  · rw [e 8 (by omega)] at h8
    rw [e (5000 + i) (by omega), e 9 (by omega)]
    exact h5 h8 i hi
theorem okEx.t0 {f f' : Nat → Int32} (h : okEx f) (e : ∀ k, k = 14 ∨ (5000 ≤ k ∧ k < 6300) → f' k = f k) (e8 : f' 8 = 0) : okEx f' := by
  obtain ⟨c, h1, h2, h3, h4, h5⟩ := h
  refine ⟨c, h1, by rw [e 14 (by omega)]; exact h2, fun i hi => ?_, fun i j hi hj => ?_, fun h8 i hi => absurd e8 h8⟩
  · rw [e (5000 + i) (by omega), e (6000 + i) (by omega)]
    exact h3 i hi
  · rw [e (5000 + i) (by omega), e (5000 + j) (by omega)]
    exact h4 i j hi hj
theorem kNum.c {f f' : Nat → Int32} {k b : Nat} (h : kNum f k b) (e : f' k = f k) : kNum f' k b := by
  unfold kNum
  rw [e]
  exact h
theorem pig : ∀ (n e : Nat) (g : Nat → Nat), (∀ i, i < e → g i < n) → (∀ i j, i < j → j < e → g i ≠ g j) → e ≤ n := by
  intro n
  induction n with
  | zero =>
    intro e g h _
    rcases Nat.eq_zero_or_pos e with q | q
    · omega
    · exact absurd (h 0 q) (by omega)
  | succ n ih =>
    intro e g h1 h2
    by_cases hx : ∃ i, i < e ∧ g i = n
    · obtain ⟨i0, hi0, hg⟩ := hx
      have inj : ∀ i j, i < e → j < e → i ≠ j → g i ≠ g j := fun i j hi hj hne => by
        rcases Nat.lt_or_gt_of_ne hne with q | q
        · exact h2 i j q hj
        · exact fun e => h2 j i q hi e.symm
      have := ih (e - 1) (fun i => if i = i0 then g (e - 1) else g i) (fun i hi => by
        split
        · rename_i q
          have a := h1 (e - 1) (by omega)
          have b := inj (e - 1) i0 (by omega) hi0 (by omega)
          omega
        · rename_i q
          have a := h1 i (by omega)
          have b := inj i i0 (by omega) hi0 q
          omega) (fun i j hij hj => by
        split
        · rename_i q
          rw [if_neg (by omega)]
          exact inj _ _ (by omega) (by omega) (by omega)
        · rename_i q
          split
          · exact inj _ _ (by omega) (by omega) (by omega)
          · exact inj _ _ (by omega) (by omega) (by omega))
      omega
    · have := ih e g (fun i hi => by
        have a := h1 i hi
        have b : g i ≠ n := fun q => hx ⟨i, hi, q⟩
        omega) h2
      omega
/-- there is room for one more job that is not among the executed -/
theorem okEx.room {f : Nat → Int32} {e : Nat} {x : Int32} (h : okEx f) (he : f 14 = nI e) (he2 : e ≤ 256) (hx : okB x) (hn : ∀ i, i < e → f (5000 + i) ≠ x) : e < 256 := by
  obtain ⟨c, h1, h2, h3, h4, h5⟩ := h
  obtain rfl : c = e := by
    rw [h2] at he
    exact (nI_eq (by omega) (by omega)).mp he
  have key := pig 256 (c + 1) (fun i => if i = c then x.toNatClampNeg else (f (5000 + i)).toNatClampNeg) (fun i hi => by
    split
    · obtain ⟨k, hk, rfl⟩ := hx
      rw [nI_clamp (by omega)]; exact hk
    · obtain ⟨k, hk, hkk⟩ := (h3 i (by omega)).1
      rw [hkk, nI_clamp (by omega)]; exact hk) (fun i j hij hj => by
    rw [if_neg (show ¬ i = c by omega)]
    obtain ⟨k, hk, hkk⟩ := (h3 i (by omega)).1
    split
    · obtain ⟨z, hz, hzz⟩ := hx
      have := hn i (by omega)
      rw [hkk, hzz] at this
      rw [hkk, hzz, nI_clamp (by omega), nI_clamp (by omega)]
      exact fun q => this (by rw [q])
    · obtain ⟨z, hz, hzz⟩ := (h3 j (by omega)).1
      have := h4 i j hij (by omega)
      rw [hkk, hzz] at this
      rw [hkk, hzz, nI_clamp (by omega), nI_clamp (by omega)]
      exact fun q => this (by rw [q]))
  omega
theorem aHas_f {A : aA} {s e : Nat} {x : Int32} (h : A.1 s 14 = nI e) (he : e ≤ 256) (hn : aHas A s x = false) : ∀ i, i < e → A.1 s (5000 + i) ≠ x := by
  intro i hi q
  unfold aHas at hn
  rw [h, nI_clamp (by omega), List.any_eq_false] at hn
  have := hn i (List.mem_range.mpr hi)
  rw [q] at this
  simp at this
theorem okB_n {k : Nat} (h : k < 256) : okB (nI k) := ⟨k, h, rfl⟩
theorem okB_and255 (x : Int32) : okB (x &&& 255) := by
  refine ⟨(x.toBitVec &&& 255#32).toNat, ?_, ?_⟩
  · rw [BitVec.toNat_and]
    exact Nat.lt_of_le_of_lt Nat.and_le_right (by decide)
  · apply Int32.toBitVec_inj.1
    rw [Int32.toBitVec_and]
    show _ = BitVec.ofNat 32 _
    rw [BitVec.ofNat_toNat]
    simp
theorem okB_xor {x y : Int32} (hx : okB x) (hy : okB y) : okB (x ^^^ y) := by
  obtain ⟨a, ha, rfl⟩ := hx
  obtain ⟨b, hb, rfl⟩ := hy
  exact ⟨a ^^^ b, Nat.xor_lt_two_pow (n := 8) ha hb, nx_xor a b⟩
theorem hdF_ok {f : Nat → Int32} {kind c w : Int32} {z : Nat} (hk : okB kind) (hc : okB c) (hf : ∀ i, 6 ≤ i → i < z → okB (f i)) : ∀ i, i < z → okB (hdF f kind c w i) := by
  intro i hi
  unfold hdF
  have b1 := okB_and255 w
  have b2 := okB_and255 (w >>> ((8 : Int32) &&& 31))
  by_cases h5 : i = 5
  · rw [if_pos h5]; exact okB_xor (okB_xor (okB_xor hk b1) b2) hc
  · rw [if_neg h5]
    by_cases h4 : i = 4
    · rw [if_pos h4]; exact hc
    · rw [if_neg h4]
      by_cases h3 : i = 3
      · rw [if_pos h3]; exact b2
      · rw [if_neg h3]
        by_cases h2 : i = 2
        · rw [if_pos h2]; exact b1
        · rw [if_neg h2]
          by_cases h1 : i = 1
          · rw [if_pos h1]; exact hk
          · rw [if_neg h1]
            by_cases h0 : i = 0
            · rw [if_pos h0]; exact okB_n (k := 16) (by decide)
            · rw [if_neg h0]
              exact hf i (by omega) hi
theorem ctlP_ok {x y : Nat} (hx : x < 8) (hy : y < 8) : okP (ctlP (nI x) (nI y)) := by
  refine ⟨Or.inl rfl, ?_⟩
  exact hdF_ok (okB_n (k := 9) (by decide)) (by rw [show (8 : Int32) = nI 8 from rfl, pk_mul, nI_add]; exact okB_n (by omega)) (fun i a b => by have b : i < 6 := b; omega)
theorem datP_ok {x y : Nat} {m : Msg} (hx : x < 8) (hy : y < 8) (hm : okMsg m) : okP (datP (nI x) (nI y) m) := by
  refine ⟨Or.inr rfl, ?_⟩
  obtain ⟨n, -, -, -, h4, -⟩ := hm
  exact hdF_ok (okB_n (k := 1) (by decide)) (by rw [show (128 : Int32) = nI 128 from rfl, show (8 : Int32) = nI 8 from rfl, pk_mul, nI_add, nI_add]; exact okB_n (by omega)) (fun i a b => by have b : i < 38 := b; exact h4 (i - 6) (by omega))
/-- the weak form, of one site -/
def okW (n : Nat) (A : aA) (s : Nat) : Prop := okJ n (A.1 s) ∧ (A.2.1 s).length ≤ 3 ∧ (A.2.2.1 s).length ≤ 16 ∧ (A.2.2.2 s).length ≤ 12 ∧ (∀ m, m ∈ A.2.1 s → okMsg m) ∧ (∀ m, m ∈ A.2.2.1 s → okMsg m) ∧ ∀ p, p ∈ A.2.2.2 s → okP p
/-- all else stays -/
def sm (A A' : aA) (s : Nat) : Prop := ∀ t, t ≠ s → A'.1 t = A.1 t ∧ A'.2.1 t = A.2.1 t ∧ A'.2.2.1 t = A.2.2.1 t ∧ A'.2.2.2 t = A.2.2.2 t
theorem sm.rf {A : aA} {s : Nat} : sm A A s := fun _ _ => ⟨rfl, rfl, rfl, rfl⟩
theorem sm.tr {A B C : aA} {s : Nat} (h : sm A B s) (k : sm B C s) : sm A C s := fun t ht => ⟨(k t ht).1.trans (h t ht).1, (k t ht).2.1.trans (h t ht).2.1, (k t ht).2.2.1.trans (h t ht).2.2.1, (k t ht).2.2.2.trans (h t ht).2.2.2⟩
theorem sm_J {A : aA} {s : Nat} {f : Nat → Int32} : sm A (va_up A.1 s f, A.2) s := fun _ ht => ⟨va_up_ne _ _ ht, rfl, rfl, rfl⟩
theorem sm_aJ {A : aA} {s k : Nat} {x : Int32} : sm A (aJ A s k x) s := sm_J
theorem sm_O {A : aA} {s : Nat} {l : List Msg} : sm A (aO A s l) s := fun _ ht => ⟨rfl, va_up_ne _ _ ht, rfl, rfl⟩
theorem sm_W {A : aA} {s : Nat} {l : List Msg} : sm A (aW A s l) s := fun _ ht => ⟨rfl, rfl, va_up_ne _ _ ht, rfl⟩
theorem sm_Q {A : aA} {s : Nat} {l : List Pkt} : sm A (aQ A s l) s := fun _ ht => ⟨rfl, rfl, rfl, va_up_ne _ _ ht⟩
theorem sm_lay {A : aA} {s : Nat} {p : Pkt} : sm A (alay A s p) s := by
  unfold alay
  split
  · exact sm_Q
  · exact sm.rf
theorem sm_ctl {A : aA} {s : Nat} {x y : Int32} : sm A (actl A s x y) s := sm_lay
theorem sm_dat {A : aA} {s k : Nat} : sm A (adat A s k) s := sm_lay
theorem sm_flow1 {A : aA} {s : Nat} : sm A (aflow1 A s) s := by
  unfold aflow1
  split
  · exact sm.rf
  · split
    · exact (sm_O.tr sm_W).tr sm_dat
    · exact sm.rf
theorem sm_flow {A : aA} {s : Nat} : sm A (aflow A s) s := (sm_flow1.tr sm_flow1).tr sm_flow1
theorem sm_add {A : aA} {s : Nat} {m : Msg} : sm A (aadd A s m) s := by
  unfold aadd
  split
  · exact sm_W
  · exact sm.rf
theorem sm_send {A : aA} {s : Nat} {m : Msg} : sm A (asend A s m) s := sm_add.tr sm_flow
theorem sm_agR {s : Nat} : ∀ (d k : Nat) (A : aA), sm A (agR s d k A) s := by
  intro d
  induction d with
  | zero => intro k A; exact sm.rf
  | succ d ih => intro k A; exact sm_dat.tr (ih _ _)
theorem sm_again {A : aA} {s : Nat} : sm A (aagain A s) s := by rw [aagain_R]; exact sm_agR _ _ _
theorem sm_ack {A : aA} {s : Nat} {y : Int32} : sm A (aack A s y) s := by
  unfold aack
  dsimp only
  split
  · exact ((sm_O.tr sm_aJ).tr sm_aJ).tr sm_aJ
  · exact sm.rf
theorem sm_forget {A : aA} {s : Nat} {st : Int32} : sm A (aforget A s st) s := fun _ ht => ⟨va_up_ne _ _ ht, va_up_ne _ _ ht, va_up_ne _ _ ht, rfl⟩
theorem sm_goOn {snd : aSnd} (hs : ∀ B s m, sm B (snd B s m) s) {A : aA} {s : Nat} : sm A (agoOn snd A s) s := by
  unfold agoOn
  split <;> exact hs _ _ _
theorem sm_D {snd : aSnd} (hs : ∀ B s m, sm B (snd B s m) s) {f : Nat → Int32} {n s q : Nat} {A : aA} : sm A (aD snd f n s A q) s := by
  unfold aD
  split
  · exact hs _ _ _
  · exact sm.rf
theorem sm_file {snd : aSnd} (hs : ∀ B s m, sm B (snd B s m) s) {A : aA} {s : Nat} : sm A (afile snd A s) s := ((sm_D hs).tr (sm_D hs)).tr ((sm_D hs).tr (sm_D hs))
theorem sm_exec {snd : aSnd} (hs : ∀ B s m, sm B (snd B s m) s) {A : aA} {s : Nat} : sm A (aexec snd A s) s := by
  unfold aexec
  exact sm_J.tr (hs _ _ _)
theorem sm_offer {snd : aSnd} (hs : ∀ B s m, sm B (snd B s m) s) {A : aA} {s : Nat} {x l : Int32} : sm A (aoffer snd A s x l) s := by
  unfold aoffer
  split
  · exact hs _ _ _
  · dsimp only
    split
    · exact ((((((hs A s (mk1 89)).tr sm_aJ).tr sm_aJ).tr sm_aJ).tr sm_aJ)).tr (sm_exec hs)
    · exact (((((hs A s (mk1 89)).tr sm_aJ).tr sm_aJ).tr sm_aJ).tr sm_aJ)
theorem sm_take {A : aA} {s : Nat} {m : Msg} : sm A (atake A s m) s := by unfold atake; exact sm_J
theorem sm_done {snd : aSnd} (hs : ∀ B s m, sm B (snd B s m) s) {A : aA} {s : Nat} {m : Msg} : sm A (adone snd A s m) s := by
  unfold adone
  split
  · split
    · split
      · exact sm_ctl.tr sm_forget
      · split
        · exact sm_aJ
        · split
          · exact sm.rf
          · split
            · exact sm_aJ.tr (sm_goOn hs)
            · split
              · exact sm_file hs
              · exact sm.rf
    · exact sm.rf
  · split
    · split
      · exact sm_offer hs
      · exact sm.rf
    · split
      · dsimp only
        split
        · exact sm_take.tr (sm_exec hs)
        · exact sm_take
      · split
        · split
          · exact hs _ _ _
          · exact ((hs A s (mk1 84)).tr sm_aJ).tr (sm_goOn hs)
        · exact sm.rf
theorem sm_come {A : aA} {s : Nat} {p : Pkt} : sm A (acome A s p) s := by
  have hs : ∀ (B : aA) s m, sm B (asend B s m) s := fun _ _ _ => sm_send
  unfold acome
  dsimp only
  split
  · split
    · split
      · exact ((((sm_ack.tr sm_flow).tr sm_aJ).tr sm_aJ).tr sm_ctl).tr (sm_done hs)
      · exact (sm_ack.tr sm_flow).tr sm_ctl
    · exact sm.rf
  · split
    · split
      · exact sm.rf
      · exact (sm_forget.tr sm_aJ).tr sm_ctl
    · split
      · split
        · exact (sm_forget.tr sm_aJ).tr (sm_goOn hs)
        · exact sm.rf
      · split
        · split
          · exact sm_forget
          · split
            · split
              · exact (sm_ack.tr sm_again).tr sm_flow
              · exact ((sm_ack.tr sm_again).tr sm_aJ).tr sm_flow
            · exact sm_ack.tr sm_flow
        · exact sm.rf
