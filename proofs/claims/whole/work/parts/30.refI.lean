/-! The reference: sendAgain, acknowledge. -/
theorem adat_eq {A : aA} {s k : Nat} : adat A s k = (A.1, A.2.1, A.2.2.1, va_up A.2.2.2 s (layL (A.2.2.2 s) (datP (aNum A s k) (A.1 s 4) ((A.2.1 s).getD k (fun _ => 0))))) := by
  unfold adat
  rw [alay_eq]
theorem R_data {σ : hp} {m s k : Nat} {A : aA} (h : RepR σ m A) (hs : s < 2) (hk : k < (A.2.1 s).length) : ∃ σ', S_X9_data σ m (nI s) (nI k) = some σ' ∧ RepR σ' m (adat A s k) ∧ keepW σ σ' m := by
  obtain ⟨a1, a2, a3, a4, a5, a6, a7, a8⟩ := h.2.1.2.1 s hs
  obtain ⟨msg, hmsg⟩ : ∃ msg, (A.2.1 s)[k]? = some msg := ⟨_, List.getElem?_eq_getElem hk⟩
  obtain ⟨b1, b2⟩ := a7 k msg hmsg
  obtain ⟨σ1, e1, hQ1, k1⟩ := r_data h.1 hs (show k < 3 by omega) h.2.1.1 msg (nI ((olN A s + k) % 8)) (A.1 s 4) b2 b1 (j_acc h.2.2.1 hs)
  refine ⟨σ1, e1, h.w k1.w (by rw [adat_eq]) ?_, k1.w⟩
  rw [adat_eq]
  refine ⟨?_, k1.win h.2.1.2.1, h.2.1.2.2⟩
  rw [aNum_eq (h.2.1.2.2 s hs) a5 (by omega), show (A.2.1 s).getD k (fun _ => 0) = msg by simp [List.getD, hmsg]]
  exact hQ1
def agR (s : Nat) : Nat → Nat → aA → aA
  | 0, _, B => B
  | d + 1, k, B => agR s d (k + 1) (adat B s k)
theorem agR_f {s : Nat} : ∀ (d k : Nat) (B : aA), (List.range' k d).foldl (fun B k => adat B s k) B = agR s d k B := by
  intro d
  induction d with
  | zero => intro k B; rfl
  | succ d ih => intro k B; rw [List.range'_succ, List.foldl_cons, ih]; rfl
theorem aagain_R {A : aA} {s : Nat} : aagain A s = agR s (A.2.1 s).length 0 A := by
  unfold aagain
  rw [List.range_eq_range', agR_f]
theorem agR_J {s : Nat} : ∀ (d k : Nat) (B : aA), (agR s d k B).1 = B.1 ∧ (agR s d k B).2.1 = B.2.1 ∧ (agR s d k B).2.2.1 = B.2.2.1 := by
  intro d
  induction d with
  | zero => intro k B; exact ⟨rfl, rfl, rfl⟩
  | succ d ih =>
    intro k B
    rw [agR]
    obtain ⟨i1, i2, i3⟩ := ih (k + 1) (adat B s k)
    rw [i1, i2, i3, adat_eq]
    exact ⟨rfl, rfl, rfl⟩
def aAgain (A : aA) (s : Nat) : aA := let C := aagain A s; if (C.2.1 s).length = 0 then C else aJ C s 6 0
theorem R_againL {m s : Nat} (hs : s < 2) : ∀ (d k n : Nat) (σ : hp) (B : aA), RepR σ m B → k + d = (B.2.1 s).length → d < n → ∃ σ', S_X9_sendAgain_2 n σ m (nI s) (nI k) = some σ' ∧ RepR σ' m (if (B.2.1 s).length = 0 then agR s d k B else aJ (agR s d k B) s 6 0) ∧ keepM σ σ' m := by
  intro d
  induction d with
  | zero =>
    intro k n σ B hR hk hn
    obtain ⟨n, rfl⟩ : ∃ q, n = q + 1 := ⟨n - 1, by omega⟩
    have h1 := hR.1
    obtain ⟨a1, a2, -⟩ := hR.2.1.2.1 s hs
    simp only [S_X9_sendAgain_2, S_X9_sendAgain_2_b, S_X9_sendAgain_48, gM23 h1, gM33 h1, o_ldI, aM23 h1, aM33 h1, w_ix hs (by decide), Option.bind_some, a1, a_stI]
    rw [if_pos (nI_le (by omega) (by omega))]
    by_cases h0 : (B.2.1 s).length = 0
    · rw [if_pos (by rw [h0]; decide), if_pos h0, upd_id rfl, st1_id]
      exact ⟨σ, rfl, hR, keepM.rf⟩
    · rw [if_neg (nI_nle (by omega) (by omega)), if_neg h0]
      exact ⟨_, rfl, hR.put1 (r := 32) (n := 6) hs (by decide) (by decide), keepM.st (by decide)⟩
  | succ d ih =>
    intro k n σ B hR hk hn
    obtain ⟨n, rfl⟩ : ∃ q, n = q + 1 := ⟨n - 1, by omega⟩
    have h1 := hR.1
    obtain ⟨a1, a2, -⟩ := hR.2.1.2.1 s hs
    obtain ⟨σ1, e1, hR1, k1⟩ := R_data hR hs (show k < (B.2.1 s).length by omega)
    simp only [S_X9_sendAgain_2, S_X9_sendAgain_2_b, gM23 h1, o_ldI, aM23 h1, w_ix hs (by decide), Option.bind_some, a1, gMr h1, e1, nI_1]
    rw [if_neg (nI_ge (by omega) (by omega))]
    have eO : (adat B s k).2.1 = B.2.1 := by rw [adat_eq]
    obtain ⟨σ2, e2, hR2, k2⟩ := ih (k + 1) n σ1 (adat B s k) hR1 (by rw [eO]; omega) (by omega)
    rw [eO] at hR2
    exact ⟨σ2, e2, hR2, k1.m.tr k2⟩
theorem R_again {σ : hp} {m s : Nat} {A : aA} (h : RepR σ m A) (hs : s < 2) : ∃ σ', S_X9_sendAgain σ m (nI s) = some σ' ∧ RepR σ' m (aAgain A s) ∧ keepM σ σ' m := by
  obtain ⟨a1, a2, -⟩ := h.2.1.2.1 s hs
  obtain ⟨σ1, e1, hR1, k1⟩ := R_againL hs (A.2.1 s).length 0 FU σ A h (by omega) (by show _ < 1000; omega)
  refine ⟨σ1, e1, ?_, k1⟩
  unfold aAgain
  dsimp only
  rw [aagain_R, (agR_J _ _ _).2.1]
  exact hR1
theorem bw_e {f : Nat → Int32} {off k : Nat} {g : Nat → Int32} : upd (bw f off 0 k g) (off + k) (g k) = bw f off 0 (k + 1) g := by
  funext j
  unfold upd bw
  by_cases h : j = off + k
  · subst h
    rw [if_pos rfl, if_pos (by omega), Nat.add_sub_cancel_left]
  · rw [if_neg h]
    by_cases h2 : off + 0 ≤ j ∧ j < off + k
    · rw [if_pos h2, if_pos (by omega)]
    · rw [if_neg h2, if_neg (by omega)]
theorem bw_app {f : Nat → Int32} {off a c : Nat} {g : Nat → Int32} : bw (bw f off 0 a g) (off + a) 0 c (fun i => g (a + i)) = bw f off 0 (a + c) g := by
  funext j
  unfold bw
  by_cases h : off + a + 0 ≤ j ∧ j < off + a + c
  · rw [if_pos h, if_pos (by omega)]
    show g (a + (j - (off + a))) = g (j - off)
    congr 1
    omega
  · rw [if_neg h]
    by_cases h2 : off + 0 ≤ j ∧ j < off + a
    · rw [if_pos h2, if_pos (by omega)]
    · rw [if_neg h2, if_neg (by omega)]
theorem r_ack108 {rec69 : hp → Nat → Int32 → Int32 → Int32 → Option hp} {σ0 : hp} {m s k g : Nat} (h0 : SkM σ0 m) (hs : s < 2) (hkg : k + g < 3) (hg : 0 < g) : ∀ (d i n : Nat) (σ : hp), i + d = 32 → d < n → σ = st1 σ0 (m + 24) (σ.2.1 (m + 24)) → (∀ j, 96 * s + 32 * k + 32 ≤ j → σ.2.1 (m + 24) j = σ0.2.1 (m + 24) j) → S_X9_acknowledge_108 rec69 n σ m (nI s) (nI g) (nI k) (nI i) = rec69 (st1 σ (m + 24) (bw (σ.2.1 (m + 24)) (96 * s + 32 * k) i 32 (fun i => σ0.2.1 (m + 24) (96 * s + 32 * (k + g) + i)))) m (nI s) (nI g) (nI (k + 1)) := by
  intro d
  induction d with
  | zero =>
    intro i n σ hi hn hσ hj
    obtain ⟨n, rfl⟩ : ∃ q, n = q + 1 := ⟨n - 1, by omega⟩
    obtain rfl : i = 32 := by omega
    rw [bw_0, st1_id]
    simp only [S_X9_acknowledge_108, S_X9_acknowledge_108_b, nI_1]
    rw [if_pos (show (32 : Int32) ≤ nI 32 by decide)]
  | succ d ih =>
    intro i n σ hi hn hσ hj
    obtain ⟨n, rfl⟩ : ∃ q, n = q + 1 := ⟨n - 1, by omega⟩
    have h : SkM σ m := by rw [hσ]; exact h0
    simp only [S_X9_acknowledge_108, S_X9_acknowledge_108_b]
    rw [if_neg (show ¬ (32 : Int32) ≤ nI i from nI_ge (b := 32) (by omega) (by decide))]
    have hx : ∀ a b, (96 : Int32) * nI s + (32 : Int32) * nI a + nI b = nI (96 * s + 32 * a + b) := fun a b => by
      rw [show (96 : Int32) = nI 96 from rfl, show (32 : Int32) = nI 32 from rfl, pk_mul, pk_mul, nI_add, nI_add]
    simp only [gM25 h, nI_add, hx, o_ldI, aM25 h, w_ix (show 96 * s + 32 * (k + g) + i < 192 by omega) (by decide), Option.bind_some, a_stI, w_ix (show 96 * s + 32 * k + i < 192 by omega) (by decide), nI_1]
    rw [ih (i + 1) n _ (by omega) (by omega) (by rw [st1_self, st1_of hσ]) (fun j hj2 => by rw [st1_self, u_n (by omega)]; exact hj j hj2), st1_self, st1_st1, hj _ (by omega), bw_s (g := fun i => σ0.2.1 (m + 24) (96 * s + 32 * (k + g) + i)) (by omega)]
theorem r_ack69 {σ0 : hp} {m s c g : Nat} (h0 : SkM σ0 m) (hs : s < 2) (hcg : c + g ≤ 3) (hg : 0 < g) (hc : σ0.2.1 (m + 22) s = nI c) : ∀ (d k n : Nat), k + d = c → d < n → S_X9_acknowledge_69 n (st1 (st1 σ0 (m + 23) (bw (σ0.2.1 (m + 23)) (3 * s) 0 k (fun i => σ0.2.1 (m + 23) (3 * s + i + g)))) (m + 24) (bw (σ0.2.1 (m + 24)) (96 * s) 0 (32 * k) (fun i => σ0.2.1 (m + 24) (96 * s + i + 32 * g)))) m (nI s) (nI g) (nI k) =
    some (st1 (st1 (st1 (st1 σ0 (m + 23) (bw (σ0.2.1 (m + 23)) (3 * s) 0 c (fun i => σ0.2.1 (m + 23) (3 * s + i + g)))) (m + 24) (bw (σ0.2.1 (m + 24)) (96 * s) 0 (32 * c) (fun i => σ0.2.1 (m + 24) (96 * s + i + 32 * g)))) (m + 32) (upd (σ0.2.1 (m + 32)) s 0)) (m + 33) (upd (σ0.2.1 (m + 33)) s 0)) := by
  intro d
  induction d with
  | zero =>
    intro k n hk hn
    obtain ⟨n, rfl⟩ : ∃ q, n = q + 1 := ⟨n - 1, by omega⟩
    obtain rfl : k = c := by omega
    generalize hσ : st1 (st1 σ0 (m + 23) (bw (σ0.2.1 (m + 23)) (3 * s) 0 k (fun i => σ0.2.1 (m + 23) (3 * s + i + g)))) (m + 24) (bw (σ0.2.1 (m + 24)) (96 * s) 0 (32 * k) (fun i => σ0.2.1 (m + 24) (96 * s + i + 32 * g))) = σ
    have h : SkM σ m := by rw [← hσ]; exact h0
    have e22 : σ.2.1 (m + 22) s = nI k := by rw [← hσ, st1_ne (by omega), st1_ne (by omega)]; exact hc
    have e32 : σ.2.1 (m + 32) = σ0.2.1 (m + 32) := by rw [← hσ, st1_ne (by omega), st1_ne (by omega)]
    have e33 : σ.2.1 (m + 33) = σ0.2.1 (m + 33) := by rw [← hσ, st1_ne (by omega), st1_ne (by omega)]
    simp only [S_X9_acknowledge_69, S_X9_acknowledge_69_b, gM23 h, o_ldI, aM23 h, w_ix hs (by decide), Option.bind_some, e22]
    rw [if_pos (nI_le (Nat.le_refl _) (by omega))]
    have h' : SkM (st1 σ (m + 32) (upd (σ0.2.1 (m + 32)) s 0)) m := h
    simp only [gM33 h, a_stI, aM33 h, w_ix hs (by decide), Option.bind_some, e32, gM34 h', aM34 h']
    rw [st1_ne (by omega), e33]
  | succ d ih =>
    intro k n hk hn
    obtain ⟨n, rfl⟩ : ∃ q, n = q + 1 := ⟨n - 1, by omega⟩
    have key := ih (k + 1) n (by omega) (by omega)
    generalize hσ : st1 (st1 σ0 (m + 23) (bw (σ0.2.1 (m + 23)) (3 * s) 0 k (fun i => σ0.2.1 (m + 23) (3 * s + i + g)))) (m + 24) (bw (σ0.2.1 (m + 24)) (96 * s) 0 (32 * k) (fun i => σ0.2.1 (m + 24) (96 * s + i + 32 * g))) = σ
    have h : SkM σ m := by rw [← hσ]; exact h0
    have e22 : σ.2.1 (m + 22) s = nI c := by rw [← hσ, st1_ne (by omega), st1_ne (by omega)]; exact hc
    have e23 : σ.2.1 (m + 23) = bw (σ0.2.1 (m + 23)) (3 * s) 0 k (fun i => σ0.2.1 (m + 23) (3 * s + i + g)) := by rw [← hσ, st1_ne (by omega), st1_self]
    have e24 : σ.2.1 (m + 24) = bw (σ0.2.1 (m + 24)) (96 * s) 0 (32 * k) (fun i => σ0.2.1 (m + 24) (96 * s + i + 32 * g)) := by rw [← hσ, st1_self]
    simp only [S_X9_acknowledge_69, S_X9_acknowledge_69_b, gM23 h, o_ldI, aM23 h, w_ix hs (by decide), Option.bind_some, e22]
    rw [if_neg (nI_ge (by omega) (by omega))]
    have hx : ∀ a, (3 : Int32) * nI s + nI a = nI (3 * s + a) := fun a => by rw [show (3 : Int32) = nI 3 from rfl, pk_mul, nI_add]
    simp only [gM24 h, hx, nI_add, aM24 h, w_ix (show 3 * s + k + g < 6 by omega) (by decide), Option.bind_some, a_stI, w_ix (show 3 * s + k < 6 by omega) (by decide)]
    rw [show σ.2.1 (m + 23) (3 * s + k + g) = σ0.2.1 (m + 23) (3 * s + k + g) by rw [e23, bw_out (by omega)], e23, bw_e (g := fun i => σ0.2.1 (m + 23) (3 * s + i + g))]
    have hb : SkM (st1 σ (m + 23) (bw (σ0.2.1 (m + 23)) (3 * s) 0 (k + 1) (fun i => σ0.2.1 (m + 23) (3 * s + i + g)))) m := h
    have E := r_ack108 (rec69 := S_X9_acknowledge_69 n) hb hs (show k + g < 3 by omega) hg 32 0 FU _ rfl (by decide) (by rw [st1_id]) (fun _ _ => rfl)
    rw [show nI 0 = (0 : Int32) from rfl] at E
    rw [E, ← key]
    congr 1
    rw [st1_ne (by omega), e24]
    have ebl : bw (bw (σ0.2.1 (m + 24)) (96 * s) 0 (32 * k) (fun i => σ0.2.1 (m + 24) (96 * s + i + 32 * g))) (96 * s + 32 * k) 0 32 (fun i => bw (σ0.2.1 (m + 24)) (96 * s) 0 (32 * k) (fun i => σ0.2.1 (m + 24) (96 * s + i + 32 * g)) (96 * s + 32 * (k + g) + i)) = bw (σ0.2.1 (m + 24)) (96 * s) 0 (32 * (k + 1)) (fun i => σ0.2.1 (m + 24) (96 * s + i + 32 * g)) := by
      rw [show 32 * (k + 1) = 32 * k + 32 by omega, ← bw_app]
      congr 1
      funext i
      rw [bw_out (by omega)]
      show σ0.2.1 (m + 24) _ = σ0.2.1 (m + 24) (96 * s + (32 * k + i) + 32 * g)
      rw [show 96 * s + 32 * (k + g) + i = 96 * s + (32 * k + i) + 32 * g by omega]
    rw [ebl, ← hσ, st1_cm (by omega : m + 24 ≠ m + 23), st1_st1, st1_st1]
/-- where y stands among the numbers out -/
def ixY (ol y : Nat) : Nat := (y + 8 - ol) % 8
theorem ixY_eq {ol y k : Nat} (ho : ol < 8) (hy : y < 8) (hk : k < 8) : (ol + k) % 8 = y ↔ k = ixY ol y := by unfold ixY; omega
theorem r_ack5 {σ : hp} {m s ol y : Nat} {out : List Msg} {wait : List Msg} (h : SkM σ m) (hs : s < 2) (hw : winR σ m s ol out wait) (hy : y < 8) : ∀ (d k n : Nat), k + d = out.length → d < n → S_X9_acknowledge_5 n σ m (nI s) (nI y) (if ixY ol y < k then nI (ixY ol y) else -1) (nI k) = if ixY ol y < out.length then S_X9_acknowledge_69 FU (st1 σ (m + 22) (upd (σ.2.1 (m + 22)) s (nI (out.length - (ixY ol y + 1))))) m (nI s) (nI (ixY ol y + 1)) 0 else some σ := by
  obtain ⟨a1, a2, a3, a4, a5, a6, a7, a8⟩ := hw
  have hx : ∀ a, (3 : Int32) * nI s + nI a = nI (3 * s + a) := fun a => by rw [show (3 : Int32) = nI 3 from rfl, pk_mul, nI_add]
  have hix8 : ixY ol y < 8 := Nat.mod_lt _ (by decide)
  intro d
  induction d with
  | zero =>
    intro k n hk hn
    obtain ⟨n, rfl⟩ : ∃ q, n = q + 1 := ⟨n - 1, by omega⟩
    obtain rfl : k = out.length := by omega
    simp only [S_X9_acknowledge_5, S_X9_acknowledge_5_b, gM23 h, o_ldI, aM23 h, w_ix hs (by decide), Option.bind_some, a1]
    rw [if_pos (nI_le (Nat.le_refl _) (by omega))]
    by_cases hl : ixY ol y < out.length
    · rw [if_pos hl, if_pos hl, if_neg (by
        intro e
        have := congrArg Int32.toInt e
        rw [nI_toInt (by omega)] at this
        have e2 : ((-1 : Int32)).toInt = -1 := rfl
        omega)]
      simp only [nI_1, pk_sub (show ixY ol y + 1 ≤ out.length by omega), a_stI, aM23 h, w_ix hs (by decide), Option.bind_some]
    · rw [if_neg hl, if_neg hl, if_pos rfl]
  | succ d ih =>
    intro k n hk hn
    obtain ⟨n, rfl⟩ : ∃ q, n = q + 1 := ⟨n - 1, by omega⟩
    have key := ih (k + 1) n (by omega) (by omega)
    obtain ⟨msg, hmsg⟩ : ∃ msg, out[k]? = some msg := ⟨_, List.getElem?_eq_getElem (by omega)⟩
    simp only [S_X9_acknowledge_5, S_X9_acknowledge_5_b, S_X9_acknowledge_37, gM23 h, gM24 h, o_ldI, aM23 h, aM24 h, w_ix hs (by decide), Option.bind_some, a1, hx, w_ix (show 3 * s + k < 6 by omega) (by decide), (a7 k msg hmsg).1, nI_1]
    rw [if_neg (nI_ge (by omega) (by omega))]
    by_cases hky : k = ixY ol y
    · rw [if_pos (by rw [(ixY_eq a5 hy (by omega)).mpr hky])]
      rw [if_pos (show ixY ol y < k + 1 by omega), ← hky] at key
      rw [← hky]
      exact key
    · rw [if_neg (by rw [nIeq (by omega) (by omega)]; intro q; exact hky ((ixY_eq a5 hy (by omega)).mp q))]
      by_cases hlt : ixY ol y < k
      · rw [if_pos hlt]
        rw [if_pos (by omega)] at key
        exact key
      · rw [if_neg hlt]
        rw [if_neg (by omega)] at key
        exact key
theorem y_sub {ol y : Nat} (ho : ol < 8) (hy : y < 8) : (nI y - nI ol) &&& 7 = nI (ixY ol y) := by
  have key : ∀ a b : Fin 8, (nI a.val - nI b.val) &&& 7 = nI (ixY b.val a.val) := by decide +kernel
  exact key ⟨y, hy⟩ ⟨ol, ho⟩
theorem R_ack {σ : hp} {m s y : Nat} {A : aA} (h : RepR σ m A) (hs : s < 2) (hy : y < 8) : ∃ σ', S_X9_acknowledge σ m (nI s) (nI y) = some σ' ∧ RepR σ' m (aack A s (nI y)) ∧ keepM σ σ' m ∧ σ'.2.1 (m + 34) = σ.2.1 (m + 34) ∧ σ'.2.1 (m + 35) = σ.2.1 (m + 35) := by
  have hw := h.2.1.2.1 s hs
  have hol := h.2.1.2.2 s hs
  have e5 := r_ack5 h.1 hs hw hy (A.2.1 s).length 0 FU (by omega) (by show _ < 1000; have := hw.2.1; omega)
  rw [if_neg (Nat.not_lt_zero _), show nI 0 = (0 : Int32) from rfl] at e5
  obtain ⟨a1, a2, a3, a4, a5, a6, a7, a8⟩ := hw
  unfold S_X9_acknowledge
  rw [e5]
  have hix8 : ixY (olN A s) y < 8 := Nat.mod_lt _ (by decide)
  unfold aack
  rw [hol, y_sub a5 hy, nI_clamp (by omega)]
  dsimp only
  by_cases hl : ixY (olN A s) y < (A.2.1 s).length
  · rw [if_pos hl, if_pos (show ixY (olN A s) y + 1 ≤ (A.2.1 s).length by omega)]
    generalize hg : ixY (olN A s) y + 1 = g at *
    have hgl : g ≤ (A.2.1 s).length := by omega
    have hg0 : 0 < g := by omega
    generalize hc : (A.2.1 s).length - g = c at *
    generalize hσ0 : st1 σ (m + 22) (upd (σ.2.1 (m + 22)) s (nI c)) = σ0
    have h0 : SkM σ0 m := by rw [← hσ0]; exact h.1
    have e22 : σ0.2.1 (m + 22) s = nI c := by rw [← hσ0, st1_self, u_s]
    have E := r_ack69 h0 hs (show c + g ≤ 3 by omega) hg0 e22 c 0 FU (by omega) (by show c < 1000; omega)
    rw [Nat.mul_zero, bw_0, bw_0, st1_id, st1_id, show nI 0 = (0 : Int32) from rfl] at E
    rw [E]
    have q23 : σ0.2.1 (m + 23) = σ.2.1 (m + 23) := by rw [← hσ0, st1_ne (by omega)]
    have q24 : σ0.2.1 (m + 24) = σ.2.1 (m + 24) := by rw [← hσ0, st1_ne (by omega)]
    have q32 : σ0.2.1 (m + 32) = σ.2.1 (m + 32) := by rw [← hσ0, st1_ne (by omega)]
    have q33 : σ0.2.1 (m + 33) = σ.2.1 (m + 33) := by rw [← hσ0, st1_ne (by omega)]
    rw [q23, q24, q32, q33]
    -- the transport first
    generalize hσ1 : st1 (st1 σ0 (m + 23) (bw (σ.2.1 (m + 23)) (3 * s) 0 c (fun i => σ.2.1 (m + 23) (3 * s + i + g)))) (m + 24) (bw (σ.2.1 (m + 24)) (96 * s) 0 (32 * c) (fun i => σ.2.1 (m + 24) (96 * s + i + 32 * g))) = σ1
    have k1 : keepW σ σ1 m := by
      rw [← hσ1, ← hσ0]
      exact ((keepW.st (by decide) (by decide)).tr (keepW.st (by decide) (by decide))).tr (keepW.st (by decide) (by decide))
    have jd : ∀ d, d ≠ 22 → d ≠ 23 → d ≠ 24 → σ1.2.1 (m + d) = σ.2.1 (m + d) := fun d b1 b2 b3 => by rw [← hσ1, st1_ne (by omega), st1_ne (by omega), ← hσ0, st1_ne (by omega)]
    have j22 : σ1.2.1 (m + 22) = upd (σ.2.1 (m + 22)) s (nI c) := by rw [← hσ1, st1_ne (by omega), st1_ne (by omega), ← hσ0, st1_self]
    have j23 : σ1.2.1 (m + 23) = bw (σ.2.1 (m + 23)) (3 * s) 0 c (fun i => σ.2.1 (m + 23) (3 * s + i + g)) := by rw [← hσ1, st1_ne (by omega), st1_self]
    have j24 : σ1.2.1 (m + 24) = bw (σ.2.1 (m + 24)) (96 * s) 0 (32 * c) (fun i => σ.2.1 (m + 24) (96 * s + i + 32 * g)) := by rw [← hσ1, st1_self]
    have hnew : (nI (olN A s) + nI g) &&& 7 = nI ((olN A s + g) % 8) := by rw [nI_add, and7 (by omega)]
    rw [hnew]
    have hR1 : RepR σ1 m (aJ (aO A s ((A.2.1 s).drop g)) s 5 (nI ((olN A s + g) % 8))) := by
      have hT1 : repT σ1 m (aJ (aO A s ((A.2.1 s).drop g)) s 5 (nI ((olN A s + g) % 8))) := by
        refine ⟨h.2.1.1.kept (jd 12 (by decide) (by decide) (by decide)) (jd 13 (by decide) (by decide) (by decide)) (jd 14 (by decide) (by decide) (by decide)), fun t ht => ?_, fun t ht => ?_⟩
        · show winR σ1 m t _ (va_up A.2.1 s ((A.2.1 s).drop g) t) (A.2.2.1 t)
          unfold winR
          rw [j22, j23, j24, jd 21 (by decide) (by decide) (by decide), jd 25 (by decide) (by decide) (by decide), jd 26 (by decide) (by decide) (by decide)]
          by_cases hts : t = s
          · subst hts
            have eol : olN (aJ (aO A t ((A.2.1 t).drop g)) t 5 (nI ((olN A t + g) % 8))) t = (olN A t + g) % 8 := by unfold olN; rw [aJ_at, nI_clamp (by omega)]
            rw [eol, va_up_self]
            have hdl : ((A.2.1 t).drop g).length = c := by rw [List.length_drop]; exact hc
            refine ⟨by rw [u_s, hdl], by omega, a3, a4, Nat.mod_lt _ (by decide), ?_, fun k msg hk => ?_, a8⟩
            · rw [a6, hdl]
              congr 1
              omega
            · have hkc : k < c := by have := (List.getElem?_eq_some_iff.mp hk).1; omega
              rw [List.getElem?_drop] at hk
              obtain ⟨b1, b2⟩ := a7 (g + k) msg hk
              refine ⟨?_, fun i hi => ?_⟩
              · rw [bw_in (by omega) hkc, show 3 * t + k + g = 3 * t + (g + k) by omega, b1]
                congr 1
                omega
              · rw [show 96 * t + 32 * k + i = 96 * t + (32 * k + i) by omega, bw_in (by omega) (by omega), show 96 * t + (32 * k + i) + 32 * g = 96 * t + 32 * (g + k) + i by omega]
                exact b2 i hi
          · have eol : olN (aJ (aO A s ((A.2.1 s).drop g)) s 5 (nI ((olN A s + g) % 8))) t = olN A t := by unfold olN; rw [aJ_ns hts]; rfl
            rw [eol, va_up_ne _ _ hts]
            obtain ⟨b1, b2, b3, b4, b5, b6, b7, b8⟩ := h.2.1.2.1 t ht
            refine ⟨by rw [u_n hts]; exact b1, b2, b3, b4, b5, b6, fun k msg hk => ?_, b8⟩
            have hkl : k < (A.2.1 t).length := (List.getElem?_eq_some_iff.mp hk).1
            obtain ⟨c1, c2⟩ := b7 k msg hk
            exact ⟨by rw [bw_out (by omega)]; exact c1, fun i hi => by rw [bw_out (by omega)]; exact c2 i hi⟩
        · by_cases hts : t = s
          · subst hts
            unfold olN
            rw [aJ_at, nI_clamp (by omega)]
          · have := h.2.1.2.2 t ht
            unfold olN at this ⊢
            rw [aJ_ns hts]
            exact this
      obtain ⟨g1, g2, g3, g4, g5, g6⟩ := h
      have tr : ∀ q ∈ tblJ, trR q.1 = false := by decide
      refine ⟨k1.sk g1, hT1, fun t ht q hq k hk => ?_, fun t ht => ?_, fun t ht j hj hl => ?_, fun i hi => ?_, ?_⟩
      · rw [k1.2.2.2.1 q.1 (tr q hq), aJ_nk (by have := (tJ1 q hq).2.2.2.2.2.2.2.1; omega)]
        exact g3 t ht q hq k hk
      · rw [k1.2.2.2.1 16 (by decide), k1.2.2.2.1 17 (by decide), aJ_nk (by decide)]
        exact g4 t ht
      · rw [aJ_nk (by decide)] at hl
        rw [k1.2.2.2.1 5 (by decide), aJ_nk (by decide), aJ_nk (by decide)]
        exact g5 t ht j hj hl
      · rw [k1.2.2.2.1 11 (by decide), aJ_ns (by omega)]
        exact g6.1 i hi
      · rw [k1.2.2.2.2, aJ_ns (by omega)]
        exact g6.2
    have hR2 := hR1.put1 (r := 32) (n := 6) (x := 0) hs (by decide) (by decide)
    rw [jd 32 (by decide) (by decide) (by decide)] at hR2
    have hR3 := hR2.put1 (r := 33) (n := 7) (x := 0) hs (by decide) (by decide)
    rw [st1_ne (by omega), jd 33 (by decide) (by decide) (by decide)] at hR3
    refine ⟨_, rfl, hR3, (k1.m.tr (keepM.st (by decide))).tr (keepM.st (by decide)), ?_, ?_⟩
    · rw [st1_ne (by omega), st1_ne (by omega), jd 34 (by decide) (by decide) (by decide)]
    · rw [st1_ne (by omega), st1_ne (by omega), jd 35 (by decide) (by decide) (by decide)]
  · rw [if_neg hl, if_neg (by omega)]
    exact ⟨σ, rfl, h, keepM.rf, rfl, rfl⟩
