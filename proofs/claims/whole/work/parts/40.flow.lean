/-! The class sends later: messages are added, and let out at the end. -/
def jm (A : aA) (s : Nat) (f : Nat → Int32) : aA := (va_up A.1 s f, A.2)
theorem aJ_jm {A : aA} {s k : Nat} {x : Int32} : aJ A s k x = jm A s (upd (A.1 s) k x) := rfl
theorem aflow1_cases (A : aA) (s : Nat) : aflow1 A s = A ∨ ∃ msg ws, A.2.2.1 s = msg :: ws ∧ (A.2.1 s).length < 3 := by
  by_cases hst : A.2.2.1 s = [] ∨ 3 ≤ (A.2.1 s).length
  · exact Or.inl (aflow1_s hst)
  · refine Or.inr ?_
    cases hq : A.2.2.1 s with
    | nil => exact absurd (Or.inl hq) hst
    | cons a b => exact ⟨a, b, rfl, Nat.not_le.mp fun q => hst (Or.inr q)⟩
theorem aflN_more {s : Nat} : ∀ (k : Nat) (A : aA), 3 - (A.2.1 s).length ≤ k → aflN (k + 1) A s = aflN k A s := by
  intro k
  induction k with
  | zero =>
    intro A h
    show aflow1 A s = A
    exact aflow1_s (Or.inr (by omega))
  | succ k ih =>
    intro A h
    show aflN (k + 1) (aflow1 A s) s = aflN k (aflow1 A s) s
    rcases aflow1_cases A s with e | ⟨msg, ws, hw, hl⟩
    · rw [e]
      by_cases hst : A.2.2.1 s = [] ∨ 3 ≤ (A.2.1 s).length
      · rw [aflN_s hst, aflN_s hst]
      · cases hq : A.2.2.1 s with
        | nil => exact absurd (Or.inl hq) hst
        | cons a b =>
          have hl : (A.2.1 s).length < 3 := Nat.not_le.mp fun q => hst (Or.inr q)
          have e2 := aflow1_m hq hl
          rw [e] at e2
          have e3 : A.2.1 s = A.2.1 s ++ [a] := by
            have := congrArg (fun z : aA => z.2.1 s) e2
            dsimp only at this
            rw [va_up_self] at this
            exact this
          have := congrArg List.length e3
          simp at this
    · refine ih _ ?_
      rw [aflow1_m hw hl]
      dsimp only
      rw [va_up_self, List.length_append, List.length_singleton]
      omega
theorem aflow_1 {A : aA} {s : Nat} : aflow (aflow1 A s) s = aflow A s := aflN_more 3 A (by omega)
theorem aflow_F {A : aA} {s : Nat} (h : okF A s) : aflow A s = A := by
  refine aflN_s ?_ 3
  rcases Nat.lt_or_ge (A.2.1 s).length 3 with q | q
  · exact Or.inl (h q)
  · exact Or.inr q
theorem aflow_2 {A : aA} {s : Nat} : aflow (aflow A s) s = aflow A s := aflow_F aflow_ok
theorem add_flow1 {A : aA} {s : Nat} {m : Msg} : aflow (aadd (aflow1 A s) s m) s = aflow (aadd A s m) s := by
  rcases aflow1_cases A s with e | ⟨msg, ws, hw, hl⟩
  · rw [e]
  · have key : aadd (aflow1 A s) s m = aflow1 (aadd A s m) s := by
      have e2 : (aflow1 A s).2.1 s = A.2.1 s ++ [msg] := by rw [aflow1_m hw hl]; exact va_up_self _ _ _
      have e3 : (aflow1 A s).2.2.1 s = ws := by rw [aflow1_m hw hl]; exact va_up_self _ _ _
      have cc : ((aflow1 A s).2.1 s).length + ((aflow1 A s).2.2.1 s).length = (A.2.1 s).length + (A.2.2.1 s).length := by
        rw [e2, e3, hw, List.length_append, List.length_singleton, List.length_cons]
        omega
      unfold aadd
      rw [cc, e3]
      by_cases c : (A.2.1 s).length + (A.2.2.1 s).length < 19
      · rw [if_pos c, if_pos c, aflow1_m (A := aW A s (A.2.2.1 s ++ [m])) (ws := ws ++ [m]) (msg := msg) (by show va_up A.2.2.1 s _ s = _; rw [va_up_self, hw]; rfl) hl, aflow1_m hw hl]
        unfold aW
        dsimp only
        rw [bx_uu, bx_uu]
        rfl
      · rw [if_neg c, if_neg c]
    rw [key, aflow_1]
theorem add_flow {A : aA} {s : Nat} {m : Msg} : aflow (aadd (aflow A s) s m) s = aflow (aadd A s m) s := by
  unfold aflow
  show aflow (aadd (aflow1 (aflow1 (aflow1 A s) s) s) s m) s = aflow (aadd A s m) s
  rw [add_flow1, add_flow1, add_flow1]
theorem flow1_jm {A : aA} {s : Nat} {f : Nat → Int32} (h4 : f 4 = A.1 s 4) (h5 : f 5 = A.1 s 5) : aflow1 (jm A s f) s = jm (aflow1 A s) s f := by
  rcases aflow1_cases A s with e | ⟨msg, ws, hw, hl⟩
  · by_cases hst : A.2.2.1 s = [] ∨ 3 ≤ (A.2.1 s).length
    · rw [e, aflow1_s (A := jm A s f) hst]
    · cases hq : A.2.2.1 s with
      | nil => exact absurd (Or.inl hq) hst
      | cons a b =>
        have hl : (A.2.1 s).length < 3 := Nat.not_le.mp fun q => hst (Or.inr q)
        have e2 := aflow1_m hq hl
        rw [e] at e2
        have e3 : A.2.1 s = A.2.1 s ++ [a] := by
          have := congrArg (fun z : aA => z.2.1 s) e2
          dsimp only at this
          rw [va_up_self] at this
          exact this
        have := congrArg List.length e3
        simp at this
  · rw [aflow1_m hw hl, aflow1_m (A := jm A s f) hw hl]
    unfold jm aNum
    dsimp only
    rw [va_up_self, h4, h5]
theorem flow1_J {A : aA} {s : Nat} : (aflow1 A s).1 = A.1 := aflN_J 1 A
theorem flow_jm {A : aA} {s : Nat} {f : Nat → Int32} (h4 : f 4 = A.1 s 4) (h5 : f 5 = A.1 s 5) : aflow (jm A s f) s = jm (aflow A s) s f := by
  unfold aflow
  rw [flow1_jm h4 h5, flow1_jm (by rw [flow1_J]; exact h4) (by rw [flow1_J]; exact h5), flow1_jm (by rw [flow1_J, flow1_J]; exact h4) (by rw [flow1_J, flow1_J]; exact h5)]
theorem flow_aJ {A : aA} {s k : Nat} {x : Int32} (h : k ≠ 4) (h5 : k ≠ 5) : aflow (aJ A s k x) s = aJ (aflow A s) s k x := by
  rw [aJ_jm, aJ_jm, flow_jm (u_n (by omega)) (u_n (by omega)), aflow_J]
theorem goOn_flow {A : aA} {s : Nat} : agoOn asend A s = aflow (agoOn aadd A s) s := by
  unfold agoOn
  split <;> rfl
theorem goOn_flow2 {A : aA} {s : Nat} : aflow (agoOn aadd (aflow A s) s) s = aflow (agoOn aadd A s) s := by
  unfold agoOn
  rw [aflow_J]
  split <;> exact add_flow
theorem D_flow {A : aA} {s q n : Nat} {f : Nat → Int32} : aflow (aD aadd f n s (aflow A s) q) s = aflow (aD aadd f n s A q) s := by
  unfold aD
  split
  · exact add_flow
  · exact aflow_2
theorem D_flow2 {A : aA} {s q n : Nat} {f : Nat → Int32} (h : okF A s) : aD asend f n s A q = aflow (aD aadd f n s A q) s := by
  unfold aD
  split
  · rfl
  · exact (aflow_F h).symm
theorem file_flow {A : aA} {s : Nat} (h : okF A s) : afile asend A s = aflow (afile aadd A s) s := by
  unfold afile
  dsimp only
  rw [D_flow2 h, D_flow2 aflow_ok, D_flow, D_flow2 aflow_ok, D_flow, D_flow2 aflow_ok, D_flow]
theorem exec_jm {snd : aSnd} {A : aA} {s : Nat} : ∃ f : Nat → Int32, f 4 = A.1 s 4 ∧ f 5 = A.1 s 5 ∧ aexec snd A s = snd (jm A s f) s (mk1 67) := by
  refine ⟨_, ?_, ?_, rfl⟩
  · rw [if_neg (by omega), if_neg (by omega), if_neg (by decide), if_neg (by decide), if_neg (by omega)]
  · rw [if_neg (by omega), if_neg (by omega), if_neg (by decide), if_neg (by decide), if_neg (by omega)]
theorem exec_flow {A : aA} {s : Nat} : aexec asend A s = aflow (aexec aadd A s) s := rfl
theorem exec_flow2 {A : aA} {s : Nat} : aflow (aexec aadd (aflow A s) s) s = aflow (aexec aadd A s) s := by
  have e : aexec aadd (aflow A s) s = aadd (aflow (jm A s (fun k => if k = 5000 + (A.1 s 14).toNatClampNeg then A.1 s 9 else if k = 6000 + (A.1 s 14).toNatClampNeg then A.1 s 10 else if k = 14 then A.1 s 14 + 1 else if k = 8 then 0 else if 10000 + 100 * (A.1 s 14).toNatClampNeg ≤ k ∧ k < 10000 + 100 * (A.1 s 14).toNatClampNeg + (A.1 s 10).toNatClampNeg then A.1 s (100 + (k - (10000 + 100 * (A.1 s 14).toNatClampNeg))) else A.1 s k)) s) s (mk1 67) := by
    rw [flow_jm]
    · unfold aexec jm
      dsimp only
      rw [aflow_J]
    · rw [if_neg (by omega), if_neg (by omega), if_neg (by decide), if_neg (by decide), if_neg (by omega)]
    · rw [if_neg (by omega), if_neg (by omega), if_neg (by decide), if_neg (by decide), if_neg (by omega)]
  rw [e, add_flow]
  rfl
theorem offer_flow {A : aA} {s : Nat} {x l : Int32} : aoffer asend A s x l = aflow (aoffer aadd A s x l) s := by
  unfold aoffer
  split
  · rfl
  · dsimp only
    have e : aJ (aJ (aJ (aJ (asend A s (mk1 89)) s 8 1) s 9 x) s 10 l) s 11 0 = aflow (aJ (aJ (aJ (aJ (aadd A s (mk1 89)) s 8 1) s 9 x) s 10 l) s 11 0) s := by
      rw [flow_aJ (by decide) (by decide), flow_aJ (by decide) (by decide), flow_aJ (by decide) (by decide), flow_aJ (by decide) (by decide)]
      rfl
    rw [e]
    split
    · rw [exec_flow, exec_flow2]
    · rfl
theorem take_jm {A : aA} {s : Nat} {m : Msg} : aflow (atake A s m) s = atake (aflow A s) s m := by
  have e : ∀ B : aA, B.1 = A.1 → atake B s m = jm B s (fun k => if 100 + (A.1 s 11).toNatClampNeg ≤ k ∧ k < 100 + (A.1 s 11).toNatClampNeg + (if (m 0).toNatClampNeg - 1 ≤ (A.1 s 10).toNatClampNeg - (A.1 s 11).toNatClampNeg then (m 0).toNatClampNeg - 1 else (A.1 s 10).toNatClampNeg - (A.1 s 11).toNatClampNeg) then m (2 + (k - (100 + (A.1 s 11).toNatClampNeg))) else if k = 11 then nI ((A.1 s 11).toNatClampNeg + (if (m 0).toNatClampNeg - 1 ≤ (A.1 s 10).toNatClampNeg - (A.1 s 11).toNatClampNeg then (m 0).toNatClampNeg - 1 else (A.1 s 10).toNatClampNeg - (A.1 s 11).toNatClampNeg)) else A.1 s k) := fun B hB => by
    unfold atake jm
    dsimp only
    rw [hB]
  rw [e A rfl, e (aflow A s) aflow_J, flow_jm]
  · rw [if_neg (by omega), if_neg (by decide)]
  · rw [if_neg (by omega), if_neg (by decide)]
theorem forget_F {A : aA} {s : Nat} {st : Int32} : okF (aforget A s st) s := fun _ => va_up_self _ _ _
theorem done_flow {A : aA} {s : Nat} {m : Msg} (h : okF A s) : adone asend A s m = aflow (adone aadd A s m) s := by
  unfold adone
  split
  · split
    · split
      · exact (aflow_F forget_F).symm
      · split
        · exact (aflow_F (A := aJ A s 0 3) h).symm
        · split
          · exact (aflow_F h).symm
          · split
            · exact goOn_flow
            · split
              · exact file_flow h
              · exact (aflow_F h).symm
    · exact (aflow_F h).symm
  · split
    · split
      · exact offer_flow
      · exact (aflow_F h).symm
    · split
      · dsimp only
        split
        · rfl
        · rw [take_jm, aflow_F h]
      · split
        · split
          · rfl
          · rw [show aJ (asend A s (mk1 84)) s 0 2 = aflow (aJ (aadd A s (mk1 84)) s 0 2) s by rw [flow_aJ (by decide) (by decide)]; rfl, goOn_flow, goOn_flow2]
        · exact (aflow_F h).symm
