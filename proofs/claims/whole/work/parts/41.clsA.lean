/-! The class: packets and wires. -/
def keepI (σ σ' : hp) (lo hi : Nat) : Prop := σ'.1 = σ.1 ∧ σ'.2.2 = σ.2.2 ∧ ∀ c, c < lo ∨ hi ≤ c → σ'.2.1 c = σ.2.1 c
theorem keepI.rf {σ : hp} {lo hi : Nat} : keepI σ σ lo hi := ⟨rfl, rfl, fun _ _ => rfl⟩
theorem keepI.tr {σ σ1 σ2 : hp} {lo hi : Nat} (h : keepI σ σ1 lo hi) (k : keepI σ1 σ2 lo hi) : keepI σ σ2 lo hi := ⟨k.1.trans h.1, k.2.1.trans h.2.1, fun c hc => (k.2.2 c hc).trans (h.2.2 c hc)⟩
theorem keepI.st {σ : hp} {lo hi a : Nat} {g : Nat → Int32} (h : lo ≤ a ∧ a < hi) : keepI σ (st1 σ a g) lo hi := ⟨rfl, rfl, fun c hc => st1_ne (by omega)⟩
theorem isP.of {σ σ' : hp} {p q : Nat} (h : isP σ p q) (h1 : σ'.1 = σ.1) (h2 : σ'.2.2 = σ.2.2) : isP σ' p q := by
  unfold isP
  rw [h1, h2]
  exact h
/-- a packet's cells hold this packet -/
def pkC (σ : hp) (p : Nat) (pk : Pkt) : Prop := σ.2.1 p 1 = nI pk.1 ∧ ∀ i, i < pk.1 → σ.2.1 (p + 1) i = pk.2 i
theorem c_fillC {σ : hp} {p : Nat} (h : isP σ p (p + 1)) (x y : Int32) : ∃ σ', S_X4_fillControl σ p x y = some σ' ∧ keepI σ σ' p (p + 2) ∧ pkC σ' p (ctlP x y) := by
  have hr : o_rcv (st1 σ p (upd (σ.2.1 p) 1 6)) 4 (some p) = some p := w_rcv h.1
  have hP : isP (st1 σ p (upd (σ.2.1 p) 1 6)) p (p + 1) := h
  simp only [S_X4_fillControl, w_pI h.1, Option.bind_some, hr, p_fillHead hP]
  refine ⟨_, rfl, (keepI.st (by omega)).tr (keepI.st (by omega)), ?_, fun i hi => ?_⟩
  · rw [st1_ne (by omega), st1_self, u_s]; rfl
  · rw [st1_self]
    exact hdF_lo (g := fun _ => 0) (show i < 6 from hi)
theorem c_sumL {σ : hp} {p : Nat} (h : isP σ p (p + 1)) (f : Nat → Int32) (hf : ∀ i, i < 32 → σ.2.1 (p + 1) (6 + i) = f i) : ∀ (d k n : Nat), k + d = 32 → d < n → S_X4_sum_8 n σ p (smN f k).1 (smN f k).2 (nI (32 - k)) = some (sumF f) := by
  intro d
  induction d with
  | zero =>
    intro k n hk hn
    obtain ⟨n, rfl⟩ : ∃ q, n = q + 1 := ⟨n - 1, by omega⟩
    obtain rfl : k = 32 := by omega
    simp only [S_X4_sum_8, S_X4_sum_8_b]
    rw [if_pos (show nI (32 - 32) ≤ 0 by decide)]
    rfl
  | succ d ih =>
    intro k n hk hn
    obtain ⟨n, rfl⟩ : ∃ q, n = q + 1 := ⟨n - 1, by omega⟩
    obtain ⟨h1, h2, h3, h4⟩ := h
    simp only [S_X4_sum_8, S_X4_sum_8_b, S_X4_sum_63]
    rw [if_neg (nI_nle (by omega) (by omega)), show (38 : Int32) - nI (32 - k) = nI (6 + k) by rw [show (38 : Int32) = nI 38 from rfl, pk_sub (by omega)]; congr 1; omega]
    simp only [w_gR h1, h2, Option.bind_some, w_ldI h3 (show 6 + k < 38 by omega) (by decide), hf k (by omega)]
    have key := ih (k + 1) n (by omega) (by omega)
    rw [show nI (32 - k) + (-1 : Int32) = nI (32 - (k + 1)) by rw [show nI (32 - k) + (-1 : Int32) = nI (32 - k) - 1 from (Int32.sub_eq_add_neg _ _).symm, show (1 : Int32) = nI 1 from rfl, pk_sub (by omega)]; congr 1]
    unfold smN sm1 at key
    dsimp only at key
    split
    · rename_i hc
      rw [if_pos hc] at key
      exact key
    · rename_i hc
      rw [if_neg hc] at key
      exact key
theorem c_sum {σ : hp} {p : Nat} (h : isP σ p (p + 1)) (f : Nat → Int32) (hf : ∀ i, i < 32 → σ.2.1 (p + 1) (6 + i) = f i) : S_X4_sum σ p = some (sumF f) := c_sumL h f hf 32 0 FU rfl (by decide)
/-- a message's cells -/
def mkM (σ : hp) (a : Nat) : Prop := σ.1 a = some (.inl 3) ∧ σ.2.2.1 a 0 = some (a + 1) ∧ σ.1 (a + 1) = some (.inr (0, 31))
def msgC (σ : hp) (a : Nat) (msg : Msg) : Prop := ∃ n, 1 ≤ n ∧ n ≤ 31 ∧ msg 0 = nI n ∧ σ.2.1 a 1 = nI n ∧ (∀ i, i < n → σ.2.1 (a + 1) i = msg (1 + i)) ∧ ∀ i, n ≤ i → i < 31 → msg (1 + i) = 0
theorem c_fd20 {σ0 : hp} {p a n : Nat} {num acc : Int32} {msg : Msg} (h : isP σ0 p (p + 1)) (hM : mkM σ0 a) (ha : a ≠ p + 1 ∧ a + 1 ≠ p + 1) (hn : σ0.2.1 a 1 = nI n) (hn31 : n ≤ 31) (hb : ∀ i, i < n → σ0.2.1 (a + 1) i = msg (1 + i)) (hz : ∀ i, n ≤ i → i < 31 → msg (1 + i) = 0) : ∀ (d k N : Nat) (σ : hp), k + d = 31 → d < N → σ = st1 σ0 (p + 1) (σ.2.1 (p + 1)) → S_X4_fillData_20 N σ p num acc (some a) (nI k) = S_X4_fillData_20 (N - d) (st1 σ (p + 1) (bw (σ.2.1 (p + 1)) 7 k 31 (fun i => msg (1 + i)))) p num acc (some a) (nI 31) := by
  intro d
  induction d with
  | zero =>
    intro k N σ hk hN hσ
    obtain rfl : k = 31 := by omega
    rw [bw_0, st1_id]
    rfl
  | succ d ih =>
    intro k N σ hk hN hσ
    obtain ⟨N, rfl⟩ : ∃ q, N = q + 1 := ⟨N - 1, by omega⟩
    have hT : σ.1 = σ0.1 := by rw [hσ]; rfl
    have hRr : σ.2.2 = σ0.2.2 := by rw [hσ]; rfl
    obtain ⟨h1, h2, h3, h4⟩ := h.of hT hRr
    obtain ⟨m1, m2, m3⟩ : mkM σ a := by unfold mkM; rw [hT, hRr]; exact hM
    have ea : σ.2.1 a = σ0.2.1 a := by rw [hσ, st1_ne ha.1]
    have eb : σ.2.1 (a + 1) = σ0.2.1 (a + 1) := by rw [hσ, st1_ne ha.2]
    conv => lhs; simp only [S_X4_fillData_20, S_X4_fillData_20_b]
    rw [if_neg (show ¬ (31 : Int32) ≤ nI k from nI_ge (b := 31) (by omega) (by decide))]
    have step : ∀ x, x = msg (1 + k) → S_X4_fillData_56 (S_X4_fillData_20 N) σ p num acc (some a) (nI k) (some (p + 1)) ((7 : Int32) + nI k) x = S_X4_fillData_20 (N + 1 - (d + 1)) (st1 σ (p + 1) (bw (σ.2.1 (p + 1)) 7 k 31 (fun i => msg (1 + i)))) p num acc (some a) (nI 31) := by
      intro x hx
      simp only [S_X4_fillData_56, a_stI, w_a h3, show (7 : Int32) + nI k = nI (7 + k) from nI_add 7 k, w_ix (show 7 + k < 38 by omega) (by decide), Option.bind_some, nI_1]
      rw [ih (k + 1) N _ (by omega) (by omega) (by rw [st1_self, st1_of hσ]), st1_self, st1_st1, hx, bw_s (g := fun i => msg (1 + i)) (by omega), show N + 1 - (d + 1) = N - d by omega]
    simp only [w_gR h1, h2, w_gI m1, Option.bind_some, ea, hn]
    by_cases c : n ≤ k
    · rw [if_pos (nI_le c (by omega))]
      exact step 0 (hz k c (by omega)).symm
    · rw [if_neg (nI_ge (by omega) (by omega))]
      simp only [w_gR m1, m2, Option.bind_some, w_ldI m3 (show k < 31 by omega) (by decide), eb]
      exact step _ (hb k (by omega))
theorem c_fillD {σ : hp} {p a : Nat} {msg : Msg} (h : isP σ p (p + 1)) (hM : mkM σ a) (ha : a + 1 < p ∨ p + 1 < a) (hm : msgC σ a msg) (num acc : Int32) : ∃ σ', S_X4_fillData σ p num acc (some a) = some σ' ∧ keepI σ σ' p (p + 2) ∧ pkC σ' p (datP num acc msg) := by
  obtain ⟨n, n1, n2, n3, n4, n5, n6⟩ := hm
  have h1 : isP (st1 σ p (upd (σ.2.1 p) 1 38)) p (p + 1) := h
  have m1 : mkM (st1 σ p (upd (σ.2.1 p) 1 38)) a := hM
  have e1 : (st1 σ p (upd (σ.2.1 p) 1 38)).2.1 a = σ.2.1 a := st1_ne (by omega)
  simp only [S_X4_fillData, w_pI h.1, Option.bind_some, w_gR h1.1, h1.2.1, w_gI m1.1, e1, n4, a_stI, w_a h1.2.2.1, wx6 (show 6 < 38 by decide)]
  generalize hσ1 : st1 (st1 σ p (upd (σ.2.1 p) 1 38)) (p + 1) (upd ((st1 σ p (upd (σ.2.1 p) 1 38)).2.1 (p + 1)) 6 (nI n)) = σ1
  have hP1 : isP σ1 p (p + 1) := by rw [← hσ1]; exact h
  have hM1 : mkM σ1 a := by rw [← hσ1]; exact hM
  have r1 : ∀ c, c ≠ p → c ≠ p + 1 → σ1.2.1 c = σ.2.1 c := fun c c1 c2 => by rw [← hσ1, st1_ne c2, st1_ne c1]
  have E := c_fd20 (num := num) (acc := acc) hP1 hM1 (by omega) (by rw [r1 a (by omega) (by omega)]; exact n4) n2 (fun i hi => by rw [r1 (a + 1) (by omega) (by omega)]; exact n5 i hi) n6 31 0 FU σ1 rfl (by decide) (by rw [st1_id])
  rw [show nI 0 = (0 : Int32) from rfl] at E
  rw [E]
  generalize hσ2 : st1 σ1 (p + 1) (bw (σ1.2.1 (p + 1)) 7 0 31 (fun i => msg (1 + i))) = σ2
  have hP2 : isP σ2 p (p + 1) := by rw [← hσ2]; exact hP1
  have row : ∀ i, i < 32 → σ2.2.1 (p + 1) (6 + i) = msg i := fun i hi => by
    rw [← hσ2, st1_self]
    by_cases i0 : i = 0
    · subst i0
      rw [bw_out (by omega), ← hσ1, st1_self, u_s, n3]
    · rw [show 6 + i = 7 + (i - 1) by omega, bw_in (by omega) (by omega)]
      show msg (1 + (i - 1)) = msg i
      rw [show 1 + (i - 1) = i by omega]
  obtain ⟨N, hN⟩ : ∃ N, FU - 31 = N + 1 := ⟨968, rfl⟩
  rw [hN]
  simp only [S_X4_fillData_20, S_X4_fillData_20_b]
  rw [if_pos (show (31 : Int32) ≤ nI 31 by decide)]
  simp only [w_rcv hP2.1, Option.bind_some, c_sum hP2 msg row, p_fillHead hP2]
  refine ⟨_, rfl, ⟨?_, ?_, fun c hc => ?_⟩, ?_, fun i hi => ?_⟩
  · rw [← hσ2, ← hσ1]; rfl
  · rw [← hσ2, ← hσ1]; rfl
  · rw [st1_ne (by omega), ← hσ2, st1_ne (by omega)]
    exact r1 c (by omega) (by omega)
  · rw [st1_ne (by omega), ← hσ2, st1_ne (by omega), ← hσ1, st1_ne (by omega), st1_self, u_s]; rfl
  · have hi : i < 38 := hi
    rw [st1_self]
    show _ = hdF (fun i => msg (i - 6)) 1 _ _ i
    by_cases h6 : i < 6
    · exact hdF_lo h6
    · rw [hdF_hi (by omega), hdF_hi (by omega), show i = 6 + (i - 6) by omega, row (i - 6) (by omega), Nat.add_sub_cancel_left]
theorem c_wf {σ : hp} {p : Nat} (h : isP σ p (p + 1)) (f : Nat → Int32) (hf : ∀ i, i < 38 → σ.2.1 (p + 1) i = f i) : ∀ (d k N : Nat), k + d = 38 → d < N → S_X4_isMessageWellFormed_26 N σ p (nI k) = some (bI (zF f k)) := by
  obtain ⟨h1, h2, h3, h4⟩ := h
  intro d
  induction d with
  | zero =>
    intro k N hk hN
    obtain ⟨N, rfl⟩ : ∃ q, N = q + 1 := ⟨N - 1, by omega⟩
    obtain rfl : k = 38 := by omega
    simp only [S_X4_isMessageWellFormed_26, S_X4_isMessageWellFormed_26_b]
    rw [if_pos (show (38 : Int32) ≤ nI 38 by decide), zF_iff.mpr (show ∀ i, i < 38 → 38 ≤ i → f i = 0 from fun i a b => absurd b (by omega))]
    rfl
  | succ d ih =>
    intro k N hk hN
    obtain ⟨N, rfl⟩ : ∃ q, N = q + 1 := ⟨N - 1, by omega⟩
    simp only [S_X4_isMessageWellFormed_26, S_X4_isMessageWellFormed_26_b]
    rw [if_neg (show ¬ (38 : Int32) ≤ nI k from nI_ge (b := 38) (by omega) (by decide))]
    simp only [w_gR h1, h2, Option.bind_some, w_ldI h3 (show k < 38 by omega) (by decide), hf k (by omega), nI_1]
    by_cases hz : f k = 0
    · rw [if_pos hz, ih (k + 1) N (by omega) (by omega)]
      congr 2
      rw [Bool.eq_iff_iff, zF_iff, zF_iff]
      constructor
      · intro q i hi hki
        by_cases e : i = k
        · rw [e]; exact hz
        · exact q i hi (by omega)
      · intro q i hi hki
        exact q i hi (by omega)
    · rw [if_neg hz, Bool.eq_false_iff.mpr (fun q => hz (zF_iff.mp q k (by omega) (Nat.le_refl _)))]
      rfl
theorem c_head {σ : hp} {p : Nat} {pk : Pkt} (h : isP σ p (p + 1)) (h6 : 6 ≤ pk.1) (hb : ∀ i, i < pk.1 → σ.2.1 (p + 1) i = pk.2 i) (kind c w : Int32) : S_X4_hasHead σ p kind c w = some (bI (hdOk pk kind c w)) := by
  obtain ⟨h1, h2, h3, h4⟩ := h
  simp only [S_X4_hasHead, S_X4_hasHead_71, S_X4_hasHead_72, w_z0, w_z1, w_gR h1, h2, Option.bind_some, o_ldI, w_a h3, wx1 (show 1 < 38 by decide), wx2 (show 2 < 38 by decide), wx3 (show 3 < 38 by decide), wx5 (show 5 < 38 by decide), hb 1 (by omega), hb 2 (by omega), hb 3 (by omega), hb 5 (by omega)]
  unfold hdOk
  by_cases q1 : pk.2 1 = kind
  · rw [if_pos q1, decide_eq_true q1, Bool.true_and]
    by_cases q2 : pk.2 2 = w &&& 255
    · rw [if_pos q2, decide_eq_true q2, Bool.true_and]
      by_cases q3 : pk.2 3 = (w >>> ((8 : Int32) &&& 31)) &&& 255
      · rw [if_pos q3, decide_eq_true q3, Bool.true_and]
        by_cases q4 : pk.2 5 = kind ^^^ (w &&& 255) ^^^ ((w >>> ((8 : Int32) &&& 31)) &&& 255) ^^^ c
        · rw [if_pos q4, decide_eq_true q4]; rfl
        · rw [if_neg q4, decide_eq_false q4]; rfl
      · rw [if_neg q3, decide_eq_false q3]; rfl
    · rw [if_neg q2, decide_eq_false q2]; rfl
  · rw [if_neg q1, decide_eq_false q1]; rfl
theorem c_isGood {σ : hp} {p : Nat} {pk : Pkt} (h : isP σ p (p + 1)) (hk : pkC σ p pk) (hp : okP pk) : S_X4_isGood σ p = some (bI (goodP pk)) := by
  have h6 : 6 ≤ pk.1 := by rcases hp.1 with q | q <;> omega
  obtain ⟨k1, k2⟩ := hk
  have hh := c_head h h6 k2
  have hx := p_x h
  have hd := p_isData h
  obtain ⟨h1, h2, h3, h4⟩ := id h
  rw [k2 4 (by omega)] at hx
  simp only [S_X4_isGood, S_X4_isGood_64, S_X4_isGood_65, S_X4_isGood_101, S_X4_isGood_102, w_z0, w_z1, w_gR h1, h2, Option.bind_some, o_ldI, w_a h3, wx0 (show 0 < 38 by decide), wx4 (show 4 < 38 by decide), k2 0 (by omega), k2 4 (by omega), w_rcv h1, hd, hx, k1, hh]
  unfold goodP
  by_cases b0 : pk.2 0 = 16
  · rw [if_pos b0, decide_eq_true b0, Bool.true_and]
    rcases hp.1 with e | e
    · rw [e, if_pos (show nI 6 ≤ 6 by decide), if_pos (show (0 : Int32) = 0 from rfl), if_neg (show ¬ 6 = 38 by decide)]
      by_cases q : pk.2 4 >>> ((6 : Int32) &&& 31) = 0
      · rw [if_pos q, decide_eq_true q, Bool.true_and]
        unfold isCtl
        simp only [S_X4_isControl, S_X4_isControl_26, S_X4_isControl_31, w_z0, w_z1, Option.bind_some]
        rw [show pkX pk = (pk.2 4 >>> ((3 : Int32) &&& 31)) &&& 7 from rfl]
        generalize (pk.2 4 >>> ((3 : Int32) &&& 31)) &&& 7 = x
        have fin : ((some (1 : Int32)).bind fun q77 => if q77 = 0 then some 0 else if bI (hdOk pk 9 (pk.2 4) (43690 - pk.2 4)) = 0 then some 0 else some 1) = some (bI (hdOk pk 9 (pk.2 4) (43690 - pk.2 4))) := by
          cases hdOk pk 9 (pk.2 4) (43690 - pk.2 4) <;> rfl
        by_cases x1 : x = 1 ∨ x = 2 ∨ x = 4 ∨ x = 5 ∨ x = 7
        · rw [decide_eq_true x1, Bool.true_and]
          rcases x1 with q | q | q | q | q <;> rw [q] <;> exact fin
        · rw [decide_eq_false x1, if_neg (fun q => x1 (by simp [q])), if_neg (fun q => x1 (by simp [q])), if_neg (fun q => x1 (by simp [q])), if_neg (fun q => x1 (by simp [q])), if_neg (fun q => x1 (by simp [q]))]
          rfl
      · rw [if_neg q, decide_eq_false q]; rfl
    · rw [e, if_neg (show ¬ nI 38 ≤ 6 by decide), if_neg (show ¬ (1 : Int32) = 0 by decide), if_pos (show 38 = 38 from rfl)]
      by_cases q : pk.2 4 >>> ((6 : Int32) &&& 31) = 2
      · rw [if_pos q, decide_eq_true q, Bool.true_and]
        obtain ⟨n, hn, hnn⟩ := hp.2 6 (by omega)
        rw [msgOk_eq hn hnn]
        have hw : S_X4_isMessageWellFormed σ p = some (bI (decide (1 ≤ n ∧ n ≤ 31) && zF pk.2 (7 + n))) := by
          simp only [S_X4_isMessageWellFormed, S_X4_isMessageWellFormed_19, w_gR h1, h2, Option.bind_some, o_ldI, w_a h3, wx6 (show 6 < 38 by decide), k2 6 (by omega), hnn]
          have a1 : (nI n < 1) ↔ n < 1 := by rw [show (1 : Int32) = nI 1 from rfl, nIlt (by omega) (by decide)]
          have a2 : (nI n ≤ 31) ↔ n ≤ 31 := by rw [show (31 : Int32) = nI 31 from rfl, nIle (by omega) (by decide)]
          by_cases n1 : n < 1
          · rw [if_pos (a1.mpr n1), decide_eq_false (fun q => absurd q.1 (by omega))]; rfl
          · rw [if_neg (fun q => n1 (a1.mp q))]
            by_cases n31 : n ≤ 31
            · rw [if_pos (a2.mpr n31), show (7 : Int32) + nI n = nI (7 + n) from nI_add 7 n, c_wf h pk.2 (fun i hi => k2 i (by omega)) (38 - (7 + n)) (7 + n) FU (by omega) (by show _ < 1000; omega), decide_eq_true (show 1 ≤ n ∧ n ≤ 31 by omega), Bool.true_and]
            · rw [if_neg (fun q => n31 (a2.mp q)), decide_eq_false (fun q => n31 q.2)]; rfl
        have hs := c_sum h (fun i => pk.2 (6 + i)) (fun i hi => k2 (6 + i) (by omega))
        simp only [hw, hs, Option.bind_some]
        cases (decide (1 ≤ n ∧ n ≤ 31) && zF pk.2 (7 + n))
        · rfl
        · cases hdOk pk 1 (pk.2 4) (43690 - (sumF (fun i => pk.2 (6 + i)) ^^^ pk.2 4)) <;> rfl
      · rw [if_neg q, decide_eq_false q]; rfl
  · rw [if_neg b0, decide_eq_false b0]; rfl
-- wires
def wkW (σ : hp) (w : Nat) : Prop := σ.1 w = some (.inl 7) ∧ σ.2.2.1 w 0 = some (w + 3) ∧ σ.2.2.1 w 1 = some (w + 1) ∧ σ.1 (w + 3) = some (.inr (3, 12)) ∧ isP σ (w + 1) (w + 1 + 1) ∧ ∀ i, i < 12 → σ.2.2.1 (w + 3) i = some (w + 4 + 2 * i) ∧ isP σ (w + 4 + 2 * i) (w + 4 + 2 * i + 1)
theorem wkW.of {σ σ' : hp} {w : Nat} (h : wkW σ w) (h1 : σ'.1 = σ.1) (h2 : σ'.2.2 = σ.2.2) : wkW σ' w := by
  unfold wkW isP
  rw [h1, h2]
  exact h
def wireC (σ : hp) (w : Nat) (q : List Pkt) : Prop := ∃ f, f < 12 ∧ σ.2.1 w 2 = nI f ∧ σ.2.1 w 3 = nI q.length ∧ q.length ≤ 12 ∧ ∀ k pk, q[k]? = some pk → pkC σ (w + 4 + 2 * ((f + k) % 12)) pk
theorem wireC.cg {σ σ' : hp} {w : Nat} {q : List Pkt} (h : wireC σ w q) (e : ∀ c, w ≤ c → c < w + 28 → σ'.2.1 c = σ.2.1 c) : wireC σ' w q := by
  obtain ⟨f, f1, f2, f3, f4, f5⟩ := h
  refine ⟨f, f1, by rw [e w (by omega) (by omega)]; exact f2, by rw [e w (by omega) (by omega)]; exact f3, f4, fun k pk hk => ?_⟩
  have := f5 k pk hk
  unfold pkC at this ⊢
  rw [e _ (by omega) (by omega), e _ (by omega) (by omega)]
  exact this
theorem rem12 {a : Nat} (h : a < 2 ^ 31) : nI a - nI a / 12 * 12 = nI (a % 12) := pk_rem (d := 12) h (by decide) (by decide)
theorem rem20 {a : Nat} (h : a < 2 ^ 31) : nI a - nI a / 20 * 20 = nI (a % 20) := pk_rem (d := 20) h (by decide) (by decide)
theorem c_wadd {σ : hp} {w : Nat} {q : List Pkt} (h : wkW σ w) (hq : wireC σ w q) : ∃ p σ1, S_X7_add σ w = some (some p, σ1) ∧ keepI σ σ1 w (w + 28) ∧ isP σ1 p (p + 1) ∧ w < p ∧ p + 1 < w + 28 ∧ ∀ σ2 pk, keepI σ1 σ2 p (p + 2) → pkC σ2 p pk → wireC σ2 w (layL q pk) := by
  obtain ⟨f, f1, f2, f3, f4, f5⟩ := hq
  obtain ⟨h1, h2, h3, h4, h5, h6⟩ := id h
  simp only [S_X7_add, w_gI h1, Option.bind_some, f3]
  by_cases hl : q.length < 12
  · rw [if_pos (show nI q.length < 12 from nI_lt (b := 12) hl (by decide))]
    have g1 : (st1 σ w (upd (σ.2.1 w) 3 (nI (q.length + 1)))).1 w = some (.inl 7) := h1
    have g4 : (st1 σ w (upd (σ.2.1 w) 3 (nI (q.length + 1)))).1 (w + 3) = some (.inr (3, 12)) := h4
    have ef : (st1 σ w (upd (σ.2.1 w) 3 (nI (q.length + 1)))).2.2.1 = σ.2.2.1 := rfl
    simp only [w_pI h1, Option.bind_some, nI_1, w_gR g1, w_gI g1, st1_self, u_s, u_n (show 2 ≠ 3 by decide), f2, ef, h2, nI_add]
    rw [show nI (f + (q.length + 1)) - (1 : Int32) = nI (f + q.length) by rw [show (1 : Int32) = nI 1 from rfl, pk_sub (by omega)]; congr 1, rem12 (by omega)]
    simp only [w_ldQ g4 (show (f + q.length) % 12 < 12 by omega) (by decide), Option.bind_some, ef, (h6 _ (show (f + q.length) % 12 < 12 by omega)).1]
    refine ⟨_, _, rfl, keepI.st (by omega), (h6 _ (show (f + q.length) % 12 < 12 by omega)).2, by omega, by omega, fun σ2 pk k hpk => ?_⟩
    refine ⟨f, f1, ?_, ?_, layL_len f4, fun j pk' hj => ?_⟩
    · rw [k.2.2 w (by omega), st1_self, u_n (by decide)]; exact f2
    · rw [k.2.2 w (by omega), st1_self, u_s]
      unfold layL
      rw [if_pos hl, List.length_append, List.length_singleton]
    · unfold layL at hj
      rw [if_pos hl] at hj
      by_cases hjl : j < q.length
      · rw [List.getElem?_append_left hjl] at hj
        obtain ⟨g1, g2⟩ := f5 j pk' hj
        have hne : (f + j) % 12 ≠ (f + q.length) % 12 := by omega
        unfold pkC
        rw [k.2.2 _ (by omega), k.2.2 _ (by omega), st1_ne (by omega), st1_ne (by omega)]
        exact ⟨g1, g2⟩
      · have hj2 : j = q.length := by
          have := (List.getElem?_eq_some_iff.mp hj).1
          simp at this
          omega
        subst hj2
        rw [List.getElem?_append_right (Nat.le_refl _), Nat.sub_self] at hj
        cases hj
        exact hpk
  · rw [if_neg (show ¬ nI q.length < 12 from nI_nlt (b := 12) (by omega) (by omega))]
    simp only [w_gR h1, h3, Option.bind_some]
    refine ⟨w + 1, σ, rfl, keepI.rf, h5, by omega, by omega, fun σ2 pk k hpk => ?_⟩
    unfold layL
    rw [if_neg hl]
    refine ⟨f, f1, by rw [k.2.2 w (by omega)]; exact f2, by rw [k.2.2 w (by omega)]; exact f3, f4, fun j pk' hj => ?_⟩
    have := f5 j pk' hj
    unfold pkC at this ⊢
    rw [k.2.2 _ (by omega), k.2.2 _ (by omega)]
    exact this
theorem c_wpacket {σ : hp} {w k : Nat} {q : List Pkt} (h : wkW σ w) (hq : wireC σ w q) (hk : k < 2 ^ 30) : (q[k]? = none ∧ S_X7_packet σ w (nI k) = some none) ∨ ∃ p pk, q[k]? = some pk ∧ S_X7_packet σ w (nI k) = some (some p) ∧ isP σ p (p + 1) ∧ pkC σ p pk ∧ w < p ∧ p + 1 < w + 28 := by
  obtain ⟨f, f1, f2, f3, f4, f5⟩ := hq
  obtain ⟨h1, h2, h3, h4, h5, h6⟩ := id h
  simp only [S_X7_packet, S_X7_packet_29, S_X7_packet_30, w_gI h1, w_gR h1, h2, Option.bind_some, f3, f2, nI_add]
  rw [if_neg (nI_pos (by omega))]
  by_cases hl : q.length ≤ k
  · left
    rw [if_pos (nI_le hl (by omega))]
    exact ⟨List.getElem?_eq_none hl, rfl⟩
  · right
    rw [if_neg (nI_ge (by omega) (by omega)), rem12 (by omega)]
    simp only [w_ldQ h4 (show (f + k) % 12 < 12 by omega) (by decide), Option.bind_some, (h6 _ (show (f + k) % 12 < 12 by omega)).1]
    obtain ⟨pk, hp⟩ : ∃ pk, q[k]? = some pk := ⟨_, List.getElem?_eq_getElem (by omega)⟩
    exact ⟨_, pk, hp, rfl, (h6 _ (show (f + k) % 12 < 12 by omega)).2, f5 k pk hp, by omega, by omega⟩
theorem c_wdrop {σ : hp} {w : Nat} {p : Pkt} {ps : List Pkt} (h : wkW σ w) (hq : wireC σ w (p :: ps)) : ∃ σ1, S_X7_dropFirst σ w = some σ1 ∧ keepI σ σ1 w (w + 1) ∧ wireC σ1 w ps := by
  obtain ⟨f, f1, f2, f3, f4, f5⟩ := hq
  obtain ⟨h1, h2, h3, h4, h5, h6⟩ := id h
  rw [List.length_cons] at f3 f4
  have g1 : (st1 σ w (upd (σ.2.1 w) 2 (nI ((f + 1) % 12)))).1 w = some (.inl 7) := h1
  simp only [S_X7_dropFirst, S_X7_dropFirst_30, w_gI h1, Option.bind_some, f3, f2, nI_1]
  rw [if_neg (nI_nle (by omega) (by omega)), rem12 (by omega)]
  simp only [w_pI h1, Option.bind_some, w_gI g1, st1_self, u_n (show 3 ≠ 2 by decide), f3, w_pI g1, st1_st1, show nI (ps.length + 1) - (1 : Int32) = nI ps.length from pk_sub (a := ps.length + 1) (b := 1) (by omega)]
  refine ⟨_, rfl, keepI.st (by omega), (f + 1) % 12, by omega, by rw [st1_self, u_n (by decide), u_s], by rw [st1_self, u_s], by omega, fun k pk hk => ?_⟩
  have := f5 (k + 1) pk (by rw [List.getElem?_cons_succ]; exact hk)
  have e : ((f + 1) % 12 + k) % 12 = (f + (k + 1)) % 12 := by omega
  unfold pkC at this ⊢
  rw [e, st1_ne (by omega), st1_ne (by omega)]
  exact this
theorem c_wclear {σ : hp} {w : Nat} {q : List Pkt} (h : wkW σ w) (hq : wireC σ w q) : ∃ σ1, S_X7_clear σ w = some σ1 ∧ keepI σ σ1 w (w + 1) ∧ wireC σ1 w [] := by
  obtain ⟨f, f1, f2, f3, f4, f5⟩ := hq
  simp only [S_X7_clear, w_pI h.1, Option.bind_some]
  refine ⟨_, rfl, keepI.st (by omega), f, f1, by rw [st1_self, u_n (by decide)]; exact f2, by rw [st1_self, u_s]; rfl, by simp, fun k pk hk => by simp at hk⟩
