/-! The reference: messages out and waiting as lists; flow. -/
def winR (σ : hp) (m s ol : Nat) (out wait : List Msg) : Prop :=
  σ.2.1 (m + 22) s = nI out.length ∧ out.length ≤ 3 ∧ σ.2.1 (m + 25) s = nI wait.length ∧ wait.length ≤ 16 ∧ ol < 8 ∧ σ.2.1 (m + 21) s = nI ((ol + out.length + 7) % 8) ∧
  (∀ k msg, out[k]? = some msg → σ.2.1 (m + 23) (3 * s + k) = nI ((ol + k) % 8) ∧ ∀ i, i < 32 → σ.2.1 (m + 24) (96 * s + 32 * k + i) = msg i) ∧
  ∀ k msg, wait[k]? = some msg → ∀ i, i < 32 → σ.2.1 (m + 26) (512 * s + 32 * k + i) = msg i
def winsR (σ : hp) (m : Nat) (ol : Nat → Nat) (O W : Nat → List Msg) : Prop := ∀ s, s < 2 → winR σ m s (ol s) (O s) (W s)
theorem winsR.kept {σ σ' : hp} {m : Nat} {ol : Nat → Nat} {O W : Nat → List Msg} (h : winsR σ m ol O W) (h1 : σ'.2.1 (m + 21) = σ.2.1 (m + 21)) (h2 : σ'.2.1 (m + 22) = σ.2.1 (m + 22)) (h3 : σ'.2.1 (m + 23) = σ.2.1 (m + 23)) (h4 : σ'.2.1 (m + 24) = σ.2.1 (m + 24)) (h5 : σ'.2.1 (m + 25) = σ.2.1 (m + 25)) (h6 : σ'.2.1 (m + 26) = σ.2.1 (m + 26)) : winsR σ' m ol O W := by
  intro s hs
  unfold winR
  rw [h1, h2, h3, h4, h5, h6]
  exact h s hs
/-- rows of the transport -/
def trR (d : Nat) : Bool := decide (d = 0 ∨ (12 ≤ d ∧ d ≤ 15) ∨ (21 ≤ d ∧ d ≤ 26))
def keepW (σ σ' : hp) (m : Nat) : Prop := σ'.1 = σ.1 ∧ σ'.2.2 = σ.2.2 ∧ (∀ b, b < m ∨ m + 36 ≤ b → σ'.2.1 b = σ.2.1 b) ∧ (∀ d, trR d = false → σ'.2.1 (m + d) = σ.2.1 (m + d)) ∧ σ'.2.1 m 11 = σ.2.1 m 11
theorem keepW.rf {σ : hp} {m : Nat} : keepW σ σ m := ⟨rfl, rfl, fun _ _ => rfl, fun _ _ => rfl, rfl⟩
theorem keepW.tr {σ σ1 σ2 : hp} {m : Nat} (h : keepW σ σ1 m) (k : keepW σ1 σ2 m) : keepW σ σ2 m := ⟨k.1.trans h.1, k.2.1.trans h.2.1, fun b a1 => (k.2.2.1 b a1).trans (h.2.2.1 b a1), fun d a1 => (k.2.2.2.1 d a1).trans (h.2.2.2.1 d a1), k.2.2.2.2.trans h.2.2.2.2⟩
theorem keepW.sk {σ σ' : hp} {m : Nat} (k : keepW σ σ' m) (h : SkM σ m) : SkM σ' m := h.of k.1 k.2.1
theorem keepT.w {σ σ' : hp} {m : Nat} (h : keepT σ σ' m) : keepW σ σ' m := by
  refine ⟨h.1, h.2.1, fun b hb => h.2.2.1 b (by omega) (by omega) (by omega) (by omega) (by omega), fun d hd => ?_, h.2.2.2⟩
  unfold trR at hd
  have hd := of_decide_eq_false hd
  exact h.2.2.1 _ (by omega) (by omega) (by omega) (by omega) (by omega)
theorem keepT.win {σ σ' : hp} {m : Nat} (h : keepT σ σ' m) {ol : Nat → Nat} {O W : Nat → List Msg} (hw : winsR σ m ol O W) : winsR σ' m ol O W :=
  hw.kept (h.2.2.1 _ (by omega) (by omega) (by omega) (by omega) (by omega)) (h.2.2.1 _ (by omega) (by omega) (by omega) (by omega) (by omega)) (h.2.2.1 _ (by omega) (by omega) (by omega) (by omega) (by omega)) (h.2.2.1 _ (by omega) (by omega) (by omega) (by omega) (by omega)) (h.2.2.1 _ (by omega) (by omega) (by omega) (by omega) (by omega)) (h.2.2.1 _ (by omega) (by omega) (by omega) (by omega) (by omega))
/-- a row of the transport is written -/
theorem keepW.st {σ : hp} {m d : Nat} {g : Nat → Int32} (h : trR d = true) (h0 : d ≠ 0) : keepW σ (st1 σ (m + d) g) m := by
  have h1 := of_decide_eq_true (show decide _ = true from h)
  refine ⟨rfl, rfl, fun b hb => st1_ne (by omega), fun e he => ?_, by rw [st1_ne (by omega)]⟩
  by_cases hde : e = d
  · subst hde; rw [h] at he; cases he
  · exact st1_ne (by omega)
theorem upd_id {f : Nat → Int32} {k : Nat} {x : Int32} (h : f k = x) : upd f k x = f := by
  funext j
  unfold upd
  split
  · rename_i hj; rw [hj, h]
  · rfl
theorem rem8 {a : Nat} (h : a < 8) : nI a + 1 - (nI a + 1) / 8 * 8 = nI ((a + 1) % 8) := by
  rw [nI_1]
  exact pk_rem (d := 8) (by omega) (by decide) (by decide)
/-- the first message that waits is copied behind those that are out -/
theorem r_flow75 {rec0 : hp → Nat → Int32 → Option hp} {σ0 : hp} {m s c : Nat} (h0 : SkM σ0 m) (hs : s < 2) (hc : c < 3) (hout : σ0.2.1 (m + 22) s = nI c) : ∀ (d k n : Nat) (σ : hp), k + d = 32 → d < n → σ = st1 σ0 (m + 24) (σ.2.1 (m + 24)) → S_X9_flow_75 rec0 n σ m (nI s) (nI k) = S_X9_flow_75 rec0 (n - d) (st1 σ (m + 24) (bw (σ.2.1 (m + 24)) (96 * s + 32 * c) k 32 (fun i => σ0.2.1 (m + 26) (512 * s + i)))) m (nI s) (nI 32) := by
  intro d
  induction d with
  | zero =>
    intro k n σ hk hn hσ
    obtain rfl : k = 32 := by omega
    rw [bw_0, st1_id]
    rfl
  | succ d ih =>
    intro k n σ hk hn hσ
    obtain ⟨n, rfl⟩ : ∃ q, n = q + 1 := ⟨n - 1, by omega⟩
    have h : SkM σ m := by rw [hσ]; exact h0
    have e26 : σ.2.1 (m + 26) = σ0.2.1 (m + 26) := by rw [hσ, st1_ne (by omega)]
    have e22 : σ.2.1 (m + 22) = σ0.2.1 (m + 22) := by rw [hσ, st1_ne (by omega)]
    conv => lhs; simp only [S_X9_flow_75, S_X9_flow_75_b]
    rw [if_neg (show ¬ (32 : Int32) ≤ nI k from nI_ge (b := 32) (by omega) (by decide))]
    have hix : (96 : Int32) * nI s + (32 : Int32) * nI c + nI k = nI (96 * s + 32 * c + k) := by
      rw [show (96 : Int32) = nI 96 from rfl, show (32 : Int32) = nI 32 from rfl, pk_mul, pk_mul, nI_add, nI_add]
    have hix2 : (512 : Int32) * nI s + nI k = nI (512 * s + k) := by
      rw [show (512 : Int32) = nI 512 from rfl, pk_mul, nI_add]
    simp only [gM25 h, gM23 h, gM27 h, o_ldI, aM23 h, aM27 h, w_ix hs (by decide), hix2, w_ix (show 512 * s + k < 1024 by omega) (by decide), Option.bind_some, e22, hout, hix, e26, a_stI, aM25 h, w_ix (show 96 * s + 32 * c + k < 192 by omega) (by decide), nI_1]
    rw [ih (k + 1) n _ (by omega) (by omega) (by rw [st1_self, st1_of hσ]), st1_self, st1_st1, bw_s (g := fun i => σ0.2.1 (m + 26) (512 * s + i)) (by omega), show n + 1 - (d + 1) = n - d by omega]
/-- those that wait move up -/
theorem r_flow142 {rec0 : hp → Nat → Int32 → Option hp} {σ0 : hp} {m s c : Nat} (h0 : SkM σ0 m) (hs : s < 2) (hc : c < 16) (hw : σ0.2.1 (m + 25) s = nI c) : ∀ (d k n : Nat) (σ : hp), k + d = 32 * c → d < n → σ = st1 σ0 (m + 26) (σ.2.1 (m + 26)) → (∀ j, 512 * s + k ≤ j → σ.2.1 (m + 26) j = σ0.2.1 (m + 26) j) → S_X9_flow_142 rec0 n σ m (nI s) (nI k) = S_X9_flow_142 rec0 (n - d) (st1 σ (m + 26) (bw (σ.2.1 (m + 26)) (512 * s) k (32 * c) (fun i => σ0.2.1 (m + 26) (512 * s + i + 32)))) m (nI s) (nI (32 * c)) := by
  intro d
  induction d with
  | zero =>
    intro k n σ hk hn hσ hj
    obtain rfl : k = 32 * c := by omega
    rw [bw_0, st1_id]
    rfl
  | succ d ih =>
    intro k n σ hk hn hσ hj
    obtain ⟨n, rfl⟩ : ∃ q, n = q + 1 := ⟨n - 1, by omega⟩
    have h : SkM σ m := by rw [hσ]; exact h0
    have e25 : σ.2.1 (m + 25) = σ0.2.1 (m + 25) := by rw [hσ, st1_ne (by omega)]
    conv => lhs; simp only [S_X9_flow_142, S_X9_flow_142_b]
    have hix2 : (512 : Int32) * nI s + nI k = nI (512 * s + k) := by
      rw [show (512 : Int32) = nI 512 from rfl, pk_mul, nI_add]
    simp only [gM26 h, o_ldI, aM26 h, w_ix hs (by decide), Option.bind_some, e25, hw, show (32 : Int32) * nI c = nI (32 * c) from pk_mul 32 c]
    rw [if_neg (show ¬ nI (32 * c) ≤ nI k from nI_ge (by omega) (by omega))]
    simp only [gM27 h, hix2, show nI (512 * s + k) + (32 : Int32) = nI (512 * s + k + 32) from nI_add _ 32, aM27 h, w_ix (show 512 * s + k + 32 < 1024 by omega) (by decide), Option.bind_some, a_stI, w_ix (show 512 * s + k < 1024 by omega) (by decide), nI_1]
    rw [ih (k + 1) n _ (by omega) (by omega) (by rw [st1_self, st1_of hσ]) (fun j hj2 => by rw [st1_self, u_n (by omega)]; exact hj j (by omega)), st1_self, st1_st1, hj (512 * s + k + 32) (by omega), bw_s (g := fun i => σ0.2.1 (m + 26) (512 * s + i + 32)) (by omega), show n + 1 - (d + 1) = n - d by omega]
set_option maxHeartbeats 1000000 in
theorem r_flow1 {σ : hp} {m s : Nat} {Q : Nat → List Pkt} {ol : Nat → Nat} {O W : Nat → List Msg} {msg : Msg} {ws : List Msg} (h : SkM σ m) (hs : s < 2) (hQ : wiresR σ m Q) (hw : winsR σ m ol O W) (hW : W s = msg :: ws) (hlt : (O s).length < 3) (ht : O s = [] → σ.2.1 (m + 32) s = 0) (n : Nat) :
    ∃ σ', S_X9_flow_h0 (n + 1) σ m (nI s) = S_X9_flow_h0 n σ' m (nI s) ∧ wiresR σ' m (va_up Q s (layL (Q s) (datP (nI ((ol s + (O s).length) % 8)) (σ.2.1 (m + 20) s) msg))) ∧ winsR σ' m ol (va_up O s (O s ++ [msg])) (va_up W s ws) ∧ keepW σ σ' m := by
  obtain ⟨a1, a2, a3, a4, a5, a6, a7, a8⟩ := hw s hs
  rw [hW, List.length_cons] at a3 a4
  have hmsg : ∀ i, i < 32 → σ.2.1 (m + 26) (512 * s + i) = msg i := fun i hi => by
    have := a8 0 msg (by rw [hW]; rfl) i hi
    rw [← this]
    congr 1
  have e32 : ∀ x : Int32, x = 0 → O s = [] → upd (σ.2.1 (m + 32)) s x = σ.2.1 (m + 32) := fun x hx ho => upd_id (by rw [ht ho, hx])
  -- down to block 35
  have key : S_X9_flow_h0 (n + 1) σ m (nI s) = S_X9_flow_35 (S_X9_flow_h0 n) σ m (nI s) := by
    simp only [S_X9_flow_h0, S_X9_flow_h0_b, gM26 h, gM23 h, gM33 h, o_ldI, aM26 h, aM23 h, w_ix hs (by decide), Option.bind_some, a1, a3]
    rw [if_neg (show ¬ nI (ws.length + 1) ≤ 0 from nI_nle (by omega) (by omega)), if_neg (show ¬ (3 : Int32) ≤ nI (O s).length from nI_ge (b := 3) hlt (by decide))]
    by_cases ho : O s = []
    · rw [if_pos (by rw [ho]; rfl)]
      simp only [a_stI, aM33 h, w_ix hs (by decide), Option.bind_some, e32 0 rfl ho, st1_id]
    · rw [if_neg (nI_ne0 (List.length_pos_iff.mpr ho) (by omega))]
  rw [key]
  have hsent : (ol s + (O s).length + 7) % 8 < 8 := Nat.mod_lt _ (by decide)
  have hnum : ((ol s + (O s).length + 7) % 8 + 1) % 8 = (ol s + (O s).length) % 8 := by omega
  simp only [S_X9_flow_35, gM22 h, o_ldI, aM22 h, w_ix hs (by decide), Option.bind_some, a6, a_stI, rem8 hsent, hnum]
  generalize hσ1 : st1 σ (m + 21) (upd (σ.2.1 (m + 21)) s (nI ((ol s + (O s).length) % 8))) = σ1
  have h1 : SkM σ1 m := by rw [← hσ1]; exact h
  have e22 : σ1.2.1 (m + 22) s = nI (O s).length := by rw [← hσ1, st1_ne (by omega)]; exact a1
  have e21 : σ1.2.1 (m + 21) s = nI ((ol s + (O s).length) % 8) := by rw [← hσ1, st1_self, u_s]
  simp only [gM24 h1, gM23 h1, gM22 h1, aM23 h1, aM22 h1, w_ix hs (by decide), Option.bind_some, e22, e21, show (3 : Int32) * nI s + nI (O s).length = nI (3 * s + (O s).length) by rw [show (3 : Int32) = nI 3 from rfl, pk_mul, nI_add], aM24 h1, w_ix (show 3 * s + (O s).length < 6 by omega) (by decide)]
  generalize hσ2 : st1 σ1 (m + 23) (upd (σ1.2.1 (m + 23)) (3 * s + (O s).length) (nI ((ol s + (O s).length) % 8))) = σ2
  have h2 : SkM σ2 m := by rw [← hσ2]; exact h1
  have c22 : σ2.2.1 (m + 22) s = nI (O s).length := by rw [← hσ2, st1_ne (by omega)]; exact e22
  have E75 := r_flow75 (rec0 := S_X9_flow_h0 n) h2 hs hlt c22 32 0 FU σ2 rfl (by decide) (by rw [st1_id])
  rw [show nI 0 = (0 : Int32) from rfl] at E75
  rw [E75]
  generalize hσ3 : st1 σ2 (m + 24) (bw (σ2.2.1 (m + 24)) (96 * s + 32 * (O s).length) 0 32 (fun i => σ2.2.1 (m + 26) (512 * s + i))) = σ3
  have h3 : SkM σ3 m := by rw [← hσ3]; exact h2
  obtain ⟨N, hN⟩ : ∃ N, FU - 32 = N + 1 := ⟨967, rfl⟩
  rw [hN]
  simp only [S_X9_flow_75, S_X9_flow_75_b]
  rw [if_pos (show (32 : Int32) ≤ nI 32 by decide)]
  have d22 : σ3.2.1 (m + 22) = σ.2.1 (m + 22) := by rw [← hσ3, st1_ne (by omega), ← hσ2, st1_ne (by omega), ← hσ1, st1_ne (by omega)]
  have d25 : σ3.2.1 (m + 25) = σ.2.1 (m + 25) := by rw [← hσ3, st1_ne (by omega), ← hσ2, st1_ne (by omega), ← hσ1, st1_ne (by omega)]
  have d26 : σ3.2.1 (m + 26) = σ.2.1 (m + 26) := by rw [← hσ3, st1_ne (by omega), ← hσ2, st1_ne (by omega), ← hσ1, st1_ne (by omega)]
  simp only [gM23 h3, o_ldI, aM23 h3, w_ix hs (by decide), Option.bind_some, d22, a1, a_stI, nI_1]
  generalize hσ4 : st1 σ3 (m + 22) (upd (σ.2.1 (m + 22)) s (nI ((O s).length + 1))) = σ4
  have h4 : SkM σ4 m := by rw [← hσ4]; exact h3
  have f25 : σ4.2.1 (m + 25) = σ.2.1 (m + 25) := by rw [← hσ4, st1_ne (by omega)]; exact d25
  simp only [gM26 h4, aM26 h4, w_ix hs (by decide), Option.bind_some, f25, a3, nI_pred]
  generalize hσ5 : st1 σ4 (m + 25) (upd (σ.2.1 (m + 25)) s (nI ws.length)) = σ5
  have h5 : SkM σ5 m := by rw [← hσ5]; exact h4
  have g25 : σ5.2.1 (m + 25) s = nI ws.length := by rw [← hσ5, st1_self, u_s]
  have g26 : σ5.2.1 (m + 26) = σ.2.1 (m + 26) := by rw [← hσ5, st1_ne (by omega), ← hσ4, st1_ne (by omega)]; exact d26
  have E142 := r_flow142 (rec0 := S_X9_flow_h0 n) h5 hs (show ws.length < 16 by omega) g25 (32 * ws.length) 0 FU σ5 (by omega) (by show 32 * ws.length < 1000; omega) (by rw [st1_id]) (fun _ _ => rfl)
  rw [show nI 0 = (0 : Int32) from rfl] at E142
  rw [E142]
  generalize hσ6 : st1 σ5 (m + 26) (bw (σ5.2.1 (m + 26)) (512 * s) 0 (32 * ws.length) (fun i => σ5.2.1 (m + 26) (512 * s + i + 32))) = σ6
  have h6 : SkM σ6 m := by rw [← hσ6]; exact h5
  obtain ⟨N2, hN2⟩ : ∃ N, FU - 32 * ws.length = N + 1 := ⟨999 - 32 * ws.length, by show 1000 - _ = _; omega⟩
  rw [hN2]
  have i25 : σ6.2.1 (m + 25) s = nI ws.length := by rw [← hσ6, st1_ne (by omega)]; exact g25
  have i22 : σ6.2.1 (m + 22) s = nI ((O s).length + 1) := by rw [← hσ6, st1_ne (by omega), ← hσ5, st1_ne (by omega), ← hσ4, st1_self, u_s]
  simp only [S_X9_flow_142, S_X9_flow_142_b, gM26 h6, gM23 h6, o_ldI, aM26 h6, aM23 h6, w_ix hs (by decide), Option.bind_some, i25, i22, show (32 : Int32) * nI ws.length = nI (32 * ws.length) from pk_mul 32 _, gMr h6, nI_pred]
  rw [if_pos (show nI (32 * ws.length) ≤ nI (32 * ws.length) from nI_le (Nat.le_refl _) (by omega))]
  -- what the rows are now
  have j12 : ∀ d, d ≠ 21 → d ≠ 22 → d ≠ 23 → d ≠ 24 → d ≠ 25 → d ≠ 26 → σ6.2.1 (m + d) = σ.2.1 (m + d) := by
    intro d b1 b2 b3 b4 b5 b6
    rw [← hσ6, st1_ne (by omega), ← hσ5, st1_ne (by omega), ← hσ4, st1_ne (by omega), ← hσ3, st1_ne (by omega), ← hσ2, st1_ne (by omega), ← hσ1, st1_ne (by omega)]
  have j21 : σ6.2.1 (m + 21) = upd (σ.2.1 (m + 21)) s (nI ((ol s + (O s).length) % 8)) := by
    rw [← hσ6, st1_ne (by omega), ← hσ5, st1_ne (by omega), ← hσ4, st1_ne (by omega), ← hσ3, st1_ne (by omega), ← hσ2, st1_ne (by omega), ← hσ1, st1_self]
  have j22 : σ6.2.1 (m + 22) = upd (σ.2.1 (m + 22)) s (nI ((O s).length + 1)) := by
    rw [← hσ6, st1_ne (by omega), ← hσ5, st1_ne (by omega), ← hσ4, st1_self]
  have j23 : σ6.2.1 (m + 23) = upd (σ.2.1 (m + 23)) (3 * s + (O s).length) (nI ((ol s + (O s).length) % 8)) := by
    rw [← hσ6, st1_ne (by omega), ← hσ5, st1_ne (by omega), ← hσ4, st1_ne (by omega), ← hσ3, st1_ne (by omega), ← hσ2, st1_self, ← hσ1, st1_ne (by omega)]
  have j24 : σ6.2.1 (m + 24) = bw (σ.2.1 (m + 24)) (96 * s + 32 * (O s).length) 0 32 (fun i => σ.2.1 (m + 26) (512 * s + i)) := by
    rw [← hσ6, st1_ne (by omega), ← hσ5, st1_ne (by omega), ← hσ4, st1_ne (by omega), ← hσ3, st1_self, ← hσ2, st1_ne (by omega), st1_ne (by omega), ← hσ1, st1_ne (by omega), st1_ne (by omega)]
  have j25 : σ6.2.1 (m + 25) = upd (σ.2.1 (m + 25)) s (nI ws.length) := by
    rw [← hσ6, st1_ne (by omega), ← hσ5, st1_self]
  have j26 : σ6.2.1 (m + 26) = bw (σ.2.1 (m + 26)) (512 * s) 0 (32 * ws.length) (fun i => σ.2.1 (m + 26) (512 * s + i + 32)) := by
    rw [← hσ6, st1_self, g26]
  have k6 : keepW σ σ6 m := by
    rw [← hσ6, ← hσ5, ← hσ4, ← hσ3, ← hσ2, ← hσ1]
    exact (((((keepW.st (by decide) (by decide)).tr (keepW.st (by decide) (by decide))).tr (keepW.st (by decide) (by decide))).tr (keepW.st (by decide) (by decide))).tr (keepW.st (by decide) (by decide))).tr (keepW.st (by decide) (by decide))
  have hQ6 : wiresR σ6 m Q := hQ.kept (j12 12 (by decide) (by decide) (by decide) (by decide) (by decide) (by decide)) (j12 13 (by decide) (by decide) (by decide) (by decide) (by decide) (by decide)) (j12 14 (by decide) (by decide) (by decide) (by decide) (by decide) (by decide))
  obtain ⟨σ7, E7, hQ7, k7⟩ := r_data h6 hs hlt hQ6 msg (nI ((ol s + (O s).length) % 8)) (σ.2.1 (m + 20) s) (fun i hi => by rw [j24, bw_in (by omega) hi]; exact hmsg i hi) (by rw [j23, u_s]) (by rw [j12 20 (by decide) (by decide) (by decide) (by decide) (by decide) (by decide)])
  rw [E7]
  simp only [Option.bind_some]
  refine ⟨σ7, rfl, hQ7, k7.win (fun t ht => ?_), k6.tr k7.w⟩
  unfold winR
  rw [j21, j22, j23, j24, j25, j26]
  by_cases hts : t = s
  · subst hts
    rw [va_up_self, va_up_self]
    refine ⟨by rw [u_s, List.length_append]; rfl, by rw [List.length_append]; simp; omega, by rw [u_s], by omega, a5, ?_, fun k msg' hk => ?_, fun k msg' hk i hi => ?_⟩
    · rw [u_s, List.length_append, List.length_singleton]
      congr 1
      omega
    · by_cases hkl : k < (O t).length
      · rw [List.getElem?_append_left hkl] at hk
        obtain ⟨b1, b2⟩ := a7 k msg' hk
        exact ⟨by rw [u_n (by omega)]; exact b1, fun i hi => by rw [bw_out (by omega)]; exact b2 i hi⟩
      · have hk2 : k = (O t).length := by
          have := (List.getElem?_eq_some_iff.mp hk).1
          simp at this
          omega
        subst hk2
        rw [List.getElem?_append_right (Nat.le_refl _), Nat.sub_self] at hk
        cases hk
        exact ⟨by rw [u_s], fun i hi => by rw [bw_in (by omega) hi]; exact hmsg i hi⟩
    · have hkl : k < ws.length := (List.getElem?_eq_some_iff.mp hk).1
      rw [show 512 * t + 32 * k + i = 512 * t + (32 * k + i) by omega, bw_in (by omega) (by omega)]
      rw [show 512 * t + (32 * k + i) + 32 = 512 * t + 32 * (k + 1) + i by omega]
      exact a8 (k + 1) msg' (by rw [hW]; exact hk) i hi
  · rw [va_up_ne _ _ hts, va_up_ne _ _ hts]
    obtain ⟨b1, b2, b3, b4, b5, b6, b7, b8⟩ := hw t ht
    refine ⟨by rw [u_n hts]; exact b1, b2, by rw [u_n hts]; exact b3, b4, b5, by rw [u_n hts]; exact b6, fun k msg' hk => ?_, fun k msg' hk i hi => ?_⟩
    · have hkl : k < (O t).length := (List.getElem?_eq_some_iff.mp hk).1
      obtain ⟨c1, c2⟩ := b7 k msg' hk
      exact ⟨by rw [u_n (by omega)]; exact c1, fun i hi => by rw [bw_out (by omega)]; exact c2 i hi⟩
    · have hkl : k < (W t).length := (List.getElem?_eq_some_iff.mp hk).1
      rw [bw_out (by omega)]
      exact b8 k msg' hk i hi
