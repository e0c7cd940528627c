/-! The class: the window. -/
def wkN (σ : hp) (z : Nat) : Prop := σ.1 z = some (.inl 6) ∧ σ.2.2.1 z 0 = some (z + 1) ∧ σ.1 (z + 1) = some (.inr (6, 20)) ∧ ∀ i, i < 20 → σ.2.2.1 (z + 1) i = some (z + 2 + 2 * i) ∧ mkM σ (z + 2 + 2 * i)
theorem wkN.of {σ σ' : hp} {z : Nat} (h : wkN σ z) (h1 : σ'.1 = σ.1) (h2 : σ'.2.2 = σ.2.2) : wkN σ' z := by
  unfold wkN mkM
  rw [h1, h2]
  exact h
def winC (σ : hp) (z : Nat) (ol : Int32) (out wait : List Msg) : Prop := ∃ f, f < 20 ∧ σ.2.1 z 1 = nI f ∧ σ.2.1 z 2 = ol ∧ σ.2.1 z 3 = nI out.length ∧ σ.2.1 z 4 = nI wait.length ∧ out.length ≤ 3 ∧ out.length + wait.length ≤ 19 ∧ ∀ k msg, (out ++ wait)[k]? = some msg → msgC σ (z + 2 + 2 * ((f + k) % 20)) msg
theorem msgC.cg {σ σ' : hp} {a : Nat} {msg : Msg} (h : msgC σ a msg) (e1 : σ'.2.1 a = σ.2.1 a) (e2 : σ'.2.1 (a + 1) = σ.2.1 (a + 1)) : msgC σ' a msg := by
  unfold msgC
  rw [e1, e2]
  exact h
theorem winC.cg {σ σ' : hp} {z : Nat} {ol : Int32} {out wait : List Msg} (h : winC σ z ol out wait) (e : ∀ c, z ≤ c → c < z + 42 → σ'.2.1 c = σ.2.1 c) : winC σ' z ol out wait := by
  obtain ⟨f, f1, f2, f3, f4, f5, f6, f7, f8⟩ := h
  have ez := e z (by omega) (by omega)
  exact ⟨f, f1, by rw [ez]; exact f2, by rw [ez]; exact f3, by rw [ez]; exact f4, by rw [ez]; exact f5, f6, f7, fun k msg hk => (f8 k msg hk).cg (e _ (by omega) (by omega)) (e _ (by omega) (by omega))⟩
theorem c_number {σ : hp} {z : Nat} {ol v : Int32} {out wait : List Msg} (h : wkN σ z) (hw : winC σ z ol out wait) : S_X6_number σ z v = some ((ol + v) &&& 7) := by
  obtain ⟨f, f1, f2, f3, f4, f5, f6, f7, f8⟩ := hw
  simp only [S_X6_number, w_gI h.1, Option.bind_some, f3]
theorem c_message {σ : hp} {z k : Nat} {ol : Int32} {out wait : List Msg} (h : wkN σ z) (hw : winC σ z ol out wait) (hk : k < out.length) : ∃ a, S_X6_message σ z (nI k) = some (some a) ∧ mkM σ a ∧ msgC σ a (out.getD k (fun _ => 0)) ∧ z < a ∧ a + 1 < z + 42 := by
  obtain ⟨f, f1, f2, f3, f4, f5, f6, f7, f8⟩ := hw
  obtain ⟨h1, h2, h3, h4⟩ := id h
  have hlt : (f + k) % 20 < 20 := by omega
  simp only [S_X6_message, w_gR h1, h2, w_gI h1, Option.bind_some, f2, nI_add, rem20 (show f + k < 2 ^ 31 by omega), w_ldQ h3 hlt (by decide), (h4 _ hlt).1]
  refine ⟨_, rfl, (h4 _ hlt).2, f8 k _ ?_, by omega, by omega⟩
  rw [List.getElem?_append_left hk, List.getD_eq_getElem?_getD, List.getElem?_eq_getElem hk]
  rfl
theorem c_ackW {σ : hp} {z o y : Nat} {out wait : List Msg} (h : wkN σ z) (hw : winC σ z (nI o) out wait) (ho : o < 8) (hy : y < 8) : (ixY o y + 1 ≤ out.length ∧ ∃ σ1, S_X6_acknowledge σ z (nI y) = some (1, σ1) ∧ keepI σ σ1 z (z + 1) ∧ winC σ1 z ((nI o + nI (ixY o y + 1)) &&& 7) (out.drop (ixY o y + 1)) wait) ∨ (¬ ixY o y + 1 ≤ out.length ∧ S_X6_acknowledge σ z (nI y) = some (0, σ)) := by
  obtain ⟨f, f1, f2, f3, f4, f5, f6, f7, f8⟩ := hw
  obtain ⟨h1, h2, h3, h4⟩ := id h
  have hI : ixY o y < 8 := by unfold ixY; omega
  simp only [S_X6_acknowledge, w_gI h1, Option.bind_some, f3, f4, y_sub ho hy, nI_1, f2, nI_add]
  by_cases hn : ixY o y + 1 ≤ out.length
  · left
    refine ⟨hn, ?_⟩
    rw [if_pos (nI_le hn (by omega)), rem20 (by omega)]
    have g1 : (st1 σ z (upd (σ.2.1 z) 1 (nI ((f + (ixY o y + 1)) % 20)))).1 z = some (.inl 6) := h1
    have g2 : (st1 σ z (upd (upd (σ.2.1 z) 1 (nI ((f + (ixY o y + 1)) % 20))) 2 (nI (o + (ixY o y + 1)) &&& 7))).1 z = some (.inl 6) := h1
    simp only [w_pI h1, Option.bind_some, w_gI g1, st1_self, u_n (show 2 ≠ 1 by decide), f3, nI_add, w_pI g1, st1_st1, w_gI g2, u_n (show 3 ≠ 2 by decide), u_n (show 3 ≠ 1 by decide), f4, w_pI g2, pk_sub hn]
    refine ⟨_, rfl, keepI.st (by omega), (f + (ixY o y + 1)) % 20, by omega, ?_, ?_, ?_, ?_, ?_, ?_, fun k msg hk => ?_⟩
    · rw [st1_self, u_n (by decide), u_n (by decide), u_s]
    · rw [st1_self, u_n (by decide), u_s]
    · rw [st1_self, u_s, List.length_drop]
    · rw [st1_self, u_n (by decide), u_n (by decide), u_n (by decide)]; exact f5
    · rw [List.length_drop]; omega
    · rw [List.length_drop]; omega
    · rw [show ((f + (ixY o y + 1)) % 20 + k) % 20 = (f + (ixY o y + 1 + k)) % 20 by omega]
      refine (f8 (ixY o y + 1 + k) msg ?_).cg (st1_ne (by omega)) (st1_ne (by omega))
      rw [← List.getElem?_drop, List.drop_append_of_le_length hn]
      exact hk
  · right
    rw [if_neg (nI_ge (by omega) (by omega))]
    exact ⟨hn, rfl⟩
def letN (out wait : List Msg) : Nat := if 3 - out.length < wait.length then 3 - out.length else wait.length
theorem c_letOut {σ : hp} {z : Nat} {ol : Int32} {out wait : List Msg} (h : wkN σ z) (hw : winC σ z ol out wait) : ∃ σ1, S_X6_letOut σ z = some (nI out.length, σ1) ∧ keepI σ σ1 z (z + 1) ∧ winC σ1 z ol (out ++ wait.take (letN out wait)) (wait.drop (letN out wait)) := by
  obtain ⟨f, f1, f2, f3, f4, f5, f6, f7, f8⟩ := hw
  obtain ⟨h1, h2, h3, h4⟩ := id h
  have hN : letN out wait ≤ wait.length ∧ letN out wait ≤ 3 - out.length := by unfold letN; split <;> omega
  have em : (if (3 : Int32) - nI out.length < nI wait.length then (3 : Int32) - nI out.length else nI wait.length) = nI (letN out wait) := by
    rw [show (3 : Int32) - nI out.length = nI (3 - out.length) from pk_sub (a := 3) f6]
    unfold letN
    by_cases c : 3 - out.length < wait.length
    · rw [if_pos (nI_lt c (by omega)), if_pos c]
    · rw [if_neg (nI_nlt (by omega) (by omega)), if_neg c]
  have g1 : (st1 σ z (upd (σ.2.1 z) 3 (nI (out.length + letN out wait)))).1 z = some (.inl 6) := h1
  simp only [S_X6_letOut, w_gI h1, Option.bind_some, f4, f5, em, nI_add, w_pI h1, w_gI g1, st1_self, u_n (show 4 ≠ 3 by decide), pk_sub hN.1, w_pI g1, st1_st1]
  refine ⟨_, rfl, keepI.st (by omega), f, f1, ?_, ?_, ?_, ?_, ?_, ?_, fun k msg hk => ?_⟩
  · rw [st1_self, u_n (by decide), u_n (by decide)]; exact f2
  · rw [st1_self, u_n (by decide), u_n (by decide)]; exact f3
  · rw [st1_self, u_n (by decide), u_s, List.length_append, List.length_take, Nat.min_eq_left hN.1]
  · rw [st1_self, u_s, List.length_drop]
  · rw [List.length_append, List.length_take]; omega
  · rw [List.length_append, List.length_take, List.length_drop]; omega
  · rw [List.append_assoc, List.take_append_drop] at hk
    exact (f8 k msg hk).cg (st1_ne (by omega)) (st1_ne (by omega))
/-- a message that is being written -/
def penC (σ : hp) (z : Nat) (ol : Int32) (out wait : List Msg) (a : Nat) (msg : Msg) : Prop := ∃ f, f < 20 ∧ σ.2.1 z 1 = nI f ∧ σ.2.1 z 2 = ol ∧ σ.2.1 z 3 = nI out.length ∧ σ.2.1 z 4 = nI (if out.length + wait.length < 19 then wait.length + 1 else wait.length) ∧ out.length ≤ 3 ∧ out.length + wait.length ≤ 19 ∧ (∀ k msg, (out ++ wait)[k]? = some msg → msgC σ (z + 2 + 2 * ((f + k) % 20)) msg) ∧ a = z + 2 + 2 * ((f + (out.length + wait.length)) % 20) ∧ msgC σ a msg
theorem penC.win {σ : hp} {z a : Nat} {ol : Int32} {out wait : List Msg} {msg : Msg} (h : penC σ z ol out wait a msg) : winC σ z ol out (if out.length + wait.length < 19 then wait ++ [msg] else wait) := by
  obtain ⟨f, f1, f2, f3, f4, f5, f6, f7, f8, f9, f10⟩ := h
  by_cases c : out.length + wait.length < 19
  · rw [if_pos c] at f5 ⊢
    refine ⟨f, f1, f2, f3, f4, by rw [f5, List.length_append, List.length_singleton], f6, by rw [List.length_append, List.length_singleton]; omega, fun k m hk => ?_⟩
    rw [← List.append_assoc] at hk
    by_cases hl : k < (out ++ wait).length
    · rw [List.getElem?_append_left hl] at hk
      exact f8 k m hk
    · have hk2 : k = out.length + wait.length := by
        have := (List.getElem?_eq_some_iff.mp hk).1
        simp at this hl
        omega
      subst hk2
      rw [List.getElem?_append_right (by simp), show out.length + wait.length - (out ++ wait).length = 0 by simp] at hk
      cases hk
      rw [f9] at f10
      exact f10
  · rw [if_neg c] at f5 ⊢
    exact ⟨f, f1, f2, f3, f4, f5, f6, f7, f8⟩
theorem c_nadd {σ : hp} {z : Nat} {ol letter : Int32} {out wait : List Msg} (h : wkN σ z) (hw : winC σ z ol out wait) : ∃ a σ1, S_X6_add σ z letter = some (some a, σ1) ∧ keepI σ σ1 z (z + 42) ∧ penC σ1 z ol out wait a (mk1 letter) ∧ mkM σ1 a ∧ z < a ∧ a + 1 < z + 42 := by
  obtain ⟨f, f1, f2, f3, f4, f5, f6, f7, f8⟩ := hw
  obtain ⟨h1, h2, h3, h4⟩ := id h
  have hlt : (f + (out.length + wait.length)) % 20 < 20 := by omega
  obtain ⟨q1, q2⟩ := h4 _ hlt
  generalize ha : z + 2 + 2 * ((f + (out.length + wait.length)) % 20) = a at q1 q2
  have haz : z < a ∧ a + 1 < z + 42 := by omega
  obtain ⟨m1, m2, m3⟩ := q2
  simp only [S_X6_add, w_gR h1, h2, w_gI h1, Option.bind_some, f2, f4, f5, nI_add]
  rw [Nat.add_assoc, rem20 (by omega)]
  simp only [w_ldQ h3 hlt (by decide), q1, Option.bind_some, w_gR m1, m2, a_stI, w_a m3, wx0 (show 0 < 31 by decide)]
  generalize hσ1 : st1 σ (a + 1) (upd (σ.2.1 (a + 1)) 0 letter) = σ1
  have m1' : σ1.1 a = some (.inl 3) := by rw [← hσ1]; exact m1
  simp only [w_pI m1', Option.bind_some]
  generalize hσ2 : st1 σ1 a (upd (σ1.2.1 a) 1 1) = σ2
  have h1' : σ2.1 z = some (.inl 6) := by rw [← hσ2, ← hσ1]; exact h1
  have rz : ∀ c, c ≠ a → c ≠ a + 1 → σ2.2.1 c = σ.2.1 c := fun c c1 c2 => by rw [← hσ2, st1_ne c1, ← hσ1, st1_ne c2]
  have k2 : keepI σ σ2 z (z + 42) := ⟨by rw [← hσ2, ← hσ1]; rfl, by rw [← hσ2, ← hσ1]; rfl, fun c hc => rz c (by omega) (by omega)⟩
  have hmsg : msgC σ2 a (mk1 letter) := by
    refine ⟨1, by decide, by decide, rfl, by rw [← hσ2, st1_self, u_s]; rfl, fun i hi => ?_, fun i h1 h2 => ?_⟩
    · rw [show i = 0 by omega, ← hσ2, st1_ne (by omega), ← hσ1, st1_self, u_s]; rfl
    · unfold mk1
      rw [if_neg (by omega), if_neg (by omega)]
  simp only [w_gI h1', Option.bind_some, rz z (by omega) (by omega), f4, f5, nI_add, nI_1, S_X6_add_59]
  by_cases c : out.length + wait.length < 19
  · rw [if_neg (show ¬ (19 : Int32) ≤ nI (out.length + wait.length) from nI_ge (b := 19) c (by decide))]
    simp only [w_pI h1', Option.bind_some, rz z (by omega) (by omega)]
    refine ⟨a, _, rfl, k2.tr (keepI.st (by omega)), ⟨f, f1, ?_, ?_, ?_, ?_, f6, f7, fun k m hk => ?_, ha.symm, hmsg.cg (st1_ne (by omega)) (st1_ne (by omega))⟩, ?_, haz.1, haz.2⟩
    · rw [st1_self, u_n (by decide)]; exact f2
    · rw [st1_self, u_n (by decide)]; exact f3
    · rw [st1_self, u_n (by decide)]; exact f4
    · rw [st1_self, u_s, if_pos c]
    · have hkl := (List.getElem?_eq_some_iff.mp hk).1
      simp at hkl
      refine (f8 k m hk).cg ?_ ?_
      · rw [st1_ne (by omega)]; exact rz _ (by omega) (by omega)
      · rw [st1_ne (by omega)]; exact rz _ (by omega) (by omega)
    · show mkM σ2 a
      unfold mkM
      rw [k2.1, k2.2.1]
      exact ⟨m1, m2, m3⟩
  · rw [if_pos (show (19 : Int32) ≤ nI (out.length + wait.length) from nI_le (a := 19) (by omega) (by omega))]
    refine ⟨a, _, rfl, k2, ⟨f, f1, ?_, ?_, ?_, ?_, f6, f7, fun k m hk => ?_, ha.symm, hmsg⟩, ?_, haz.1, haz.2⟩
    · rw [rz z (by omega) (by omega)]; exact f2
    · rw [rz z (by omega) (by omega)]; exact f3
    · rw [rz z (by omega) (by omega)]; exact f4
    · rw [rz z (by omega) (by omega), if_neg c]; exact f5
    · have hkl := (List.getElem?_eq_some_iff.mp hk).1
      simp at hkl
      exact (f8 k m hk).cg (rz _ (by omega) (by omega)) (rz _ (by omega) (by omega))
    · unfold mkM
      rw [k2.1, k2.2.1]
      exact ⟨m1, m2, m3⟩
theorem c_append {σ : hp} {z a c : Nat} {ol b : Int32} {out wait : List Msg} {msg : Msg} (h : mkM σ a) (hp : penC σ z ol out wait a msg) (hc : msg 0 = nI c) (hc2 : c < 31) : ∃ σ1, S_X3_append σ a b = some σ1 ∧ keepI σ σ1 z (z + 42) ∧ penC σ1 z ol out wait a (upd (upd msg 0 (nI (c + 1))) (c + 1) b) := by
  obtain ⟨f, f1, f2, f3, f4, f5, f6, f7, f8, f9, n, n1, n2, n3, n4, n5, n6⟩ := hp
  obtain ⟨m1, m2, m3⟩ := h
  have hn : n = c := by
    rw [hc] at n3
    exact ((nI_eq (by omega) (by omega)).mp n3).symm
  subst hn
  have haz : z < a ∧ a + 1 < z + 42 := by omega
  have m1' : (st1 σ (a + 1) (upd (σ.2.1 (a + 1)) n b)).1 a = some (.inl 3) := m1
  simp only [S_X3_append, S_X3_append_29, w_gI m1, Option.bind_some, n4]
  rw [if_neg (show ¬ (31 : Int32) ≤ nI n from nI_ge (b := 31) hc2 (by decide))]
  simp only [w_gR m1, m2, Option.bind_some, a_stI, w_a m3, w_ix hc2 (by decide), w_gI m1', st1_ne (show a ≠ a + 1 by omega), n4, w_pI m1', nI_1]
  have rz : ∀ e, e ≠ a → e ≠ a + 1 → (st1 (st1 σ (a + 1) (upd (σ.2.1 (a + 1)) n b)) a (upd (σ.2.1 a) 1 (nI (n + 1)))).2.1 e = σ.2.1 e := fun e c1 c2 => by rw [st1_ne c1, st1_ne c2]
  refine ⟨_, rfl, (keepI.st (by omega)).tr (keepI.st (by omega)), f, f1, by rw [rz z (by omega) (by omega)]; exact f2, by rw [rz z (by omega) (by omega)]; exact f3, by rw [rz z (by omega) (by omega)]; exact f4, by rw [rz z (by omega) (by omega)]; exact f5, f6, f7, fun k m hk => ?_, f9, n + 1, by omega, by omega, ?_, ?_, fun i hi => ?_, fun i h1 h2 => ?_⟩
  · have hkl := (List.getElem?_eq_some_iff.mp hk).1
    simp at hkl
    exact (f8 k m hk).cg (rz _ (by omega) (by omega)) (rz _ (by omega) (by omega))
  · rw [u_n (by omega), u_s]
  · rw [st1_self, u_s]
  · rw [st1_ne (by omega), st1_self]
    by_cases hin : i = n
    · subst hin
      rw [u_s, Nat.add_comm 1 i, u_s]
    · rw [u_n hin, u_n (by omega), u_n (by omega)]
      exact n5 i (by omega)
  · rw [u_n (by omega), u_n (by omega)]
    exact n6 i (by omega) h2
theorem c_nclear {σ : hp} {z : Nat} {ol : Int32} {out wait : List Msg} (h : wkN σ z) (hw : winC σ z ol out wait) : ∃ σ1, S_X6_clear σ z = some σ1 ∧ keepI σ σ1 z (z + 1) ∧ winC σ1 z 1 [] [] := by
  obtain ⟨f, f1, f2, f3, f4, f5, f6, f7, f8⟩ := hw
  have h1 := h.1
  have g1 : (st1 σ z (upd (σ.2.1 z) 2 1)).1 z = some (.inl 6) := h1
  have g2 : (st1 σ z (upd (upd (σ.2.1 z) 2 1) 3 0)).1 z = some (.inl 6) := h1
  simp only [S_X6_clear, w_pI h1, Option.bind_some, w_pI g1, st1_self, st1_st1, w_pI g2]
  refine ⟨_, rfl, keepI.st (by omega), f, f1, ?_, ?_, ?_, ?_, by simp, by simp, fun k msg hk => by simp at hk⟩
  · rw [st1_self, u_n (by decide), u_n (by decide), u_n (by decide)]; exact f2
  · rw [st1_self, u_n (by decide), u_n (by decide), u_s]
  · rw [st1_self, u_n (by decide), u_s]; rfl
  · rw [st1_self, u_s]; rfl
-- flow as one step
theorem flow_eqN {s : Nat} : ∀ (k : Nat) (A : aA), 3 - (A.2.1 s).length ≤ k → aflN k A s = agR s (letN (A.2.1 s) (A.2.2.1 s)) (A.2.1 s).length (aW (aO A s (A.2.1 s ++ (A.2.2.1 s).take (letN (A.2.1 s) (A.2.2.1 s)))) s ((A.2.2.1 s).drop (letN (A.2.1 s) (A.2.2.1 s)))) := by
  have triv : ∀ A : aA, letN (A.2.1 s) (A.2.2.1 s) = 0 → agR s (letN (A.2.1 s) (A.2.2.1 s)) (A.2.1 s).length (aW (aO A s (A.2.1 s ++ (A.2.2.1 s).take (letN (A.2.1 s) (A.2.2.1 s)))) s ((A.2.2.1 s).drop (letN (A.2.1 s) (A.2.2.1 s)))) = A := by
    intro A h
    rw [h, List.take_zero, List.append_nil, List.drop_zero]
    show aW (aO A s (A.2.1 s)) s (A.2.2.1 s) = A
    unfold aW aO
    dsimp only
    have e : ∀ {α : Type} (F : Nat → List α), va_up F s (F s) = F := fun F => by
      funext t
      by_cases h : t = s
      · subst h; exact va_up_self _ _ _
      · exact va_up_ne _ _ h
    rw [e, e]
  intro k
  induction k with
  | zero =>
    intro A h
    rw [triv A (by unfold letN; split <;> omega)]
    rfl
  | succ k ih =>
    intro A h
    by_cases hst : A.2.2.1 s = [] ∨ 3 ≤ (A.2.1 s).length
    · rw [aflN_s hst, triv A]
      unfold letN
      rcases hst with e | e
      · rw [e]; simp
      · split <;> omega
    · obtain ⟨msg, ws, hw⟩ : ∃ msg ws, A.2.2.1 s = msg :: ws := by
        cases hq : A.2.2.1 s with
        | nil => exact absurd (Or.inl hq) hst
        | cons a b => exact ⟨a, b, rfl⟩
      have hl : (A.2.1 s).length < 3 := Nat.not_le.mp fun q => hst (Or.inr q)
      show aflN k (aflow1 A s) s = _
      have e1 := aflow1_m hw hl
      have e2 : (aflow1 A s).2.1 s = A.2.1 s ++ [msg] := by rw [e1]; exact va_up_self _ _ _
      have e3 : (aflow1 A s).2.2.1 s = ws := by rw [e1]; exact va_up_self _ _ _
      rw [ih (aflow1 A s) (by rw [e2, List.length_append, List.length_singleton]; omega), e2, e3, hw]
      have en : letN (A.2.1 s) (msg :: ws) = letN (A.2.1 s ++ [msg]) ws + 1 := by
        unfold letN
        rw [List.length_append, List.length_singleton, List.length_cons]
        split <;> split <;> omega
      rw [en]
      show _ = agR s (letN (A.2.1 s ++ [msg]) ws) ((A.2.1 s).length + 1) (adat _ s (A.2.1 s).length)
      rw [List.length_append, List.length_singleton, adat_eq, e1]
      unfold aW aO aNum
      dsimp only
      rw [List.take_succ_cons, List.drop_succ_cons, va_up_self, bx_uu, bx_uu, List.append_assoc, List.singleton_append]
      rw [show (A.2.1 s ++ msg :: List.take (letN (A.2.1 s ++ [msg]) ws) ws).getD (A.2.1 s).length (fun _ => 0) = msg by rw [List.getD_eq_getElem?_getD, List.getElem?_append_right (Nat.le_refl _), Nat.sub_self]; rfl]
theorem flow_eq {A : aA} {s : Nat} : aflow A s = agR s (letN (A.2.1 s) (A.2.2.1 s)) (A.2.1 s).length (aW (aO A s (A.2.1 s ++ (A.2.2.1 s).take (letN (A.2.1 s) (A.2.2.1 s)))) s ((A.2.2.1 s).drop (letN (A.2.1 s) (A.2.2.1 s)))) := flow_eqN 3 A (by omega)
