/-! The reference: packets on wires as lists. -/
def layL (q : List Pkt) (p : Pkt) : List Pkt := if q.length < 12 then q ++ [p] else q
def wireR (σ : hp) (m s : Nat) (q : List Pkt) : Prop := σ.2.1 (m + 12) s = nI q.length ∧ q.length ≤ 12 ∧ ∀ k p, q[k]? = some p → σ.2.1 (m + 14) (12 * s + k) = nI p.1 ∧ p.1 ≤ 38 ∧ ∀ i, i < p.1 → σ.2.1 (m + 13) (456 * s + 38 * k + i) = p.2 i
def wiresR (σ : hp) (m : Nat) (Q : Nat → List Pkt) : Prop := ∀ s, s < 2 → wireR σ m s (Q s)
/-- only the transport's rows change: the object's slot 16, lying, wire, size, packet -/
def keepT (σ σ' : hp) (m : Nat) : Prop := σ'.1 = σ.1 ∧ σ'.2.2 = σ.2.2 ∧ (∀ b, b ≠ m → b ≠ m + 12 → b ≠ m + 13 → b ≠ m + 14 → b ≠ m + 15 → σ'.2.1 b = σ.2.1 b) ∧ σ'.2.1 m 11 = σ.2.1 m 11
theorem keepT.rf {σ : hp} {m : Nat} : keepT σ σ m := ⟨rfl, rfl, fun _ _ _ _ _ _ => rfl, rfl⟩
theorem keepT.tr {σ σ1 σ2 : hp} {m : Nat} (h : keepT σ σ1 m) (k : keepT σ1 σ2 m) : keepT σ σ2 m := ⟨k.1.trans h.1, k.2.1.trans h.2.1, fun b a1 a2 a3 a4 a5 => (k.2.2.1 b a1 a2 a3 a4 a5).trans (h.2.2.1 b a1 a2 a3 a4 a5), k.2.2.2.trans h.2.2.2⟩
theorem SkM.of {σ σ' : hp} {m : Nat} (h : SkM σ m) (h1 : σ'.1 = σ.1) (h2 : σ'.2.2 = σ.2.2) : SkM σ' m := by
  unfold SkM
  rw [h1, h2]
  exact h
theorem keepT.sk {σ σ' : hp} {m : Nat} (k : keepT σ σ' m) (h : SkM σ m) : SkM σ' m := h.of k.1 k.2.1
theorem wiresR.kept {σ σ' : hp} {m : Nat} {Q : Nat → List Pkt} (h : wiresR σ m Q) (h1 : σ'.2.1 (m + 12) = σ.2.1 (m + 12)) (h2 : σ'.2.1 (m + 13) = σ.2.1 (m + 13)) (h3 : σ'.2.1 (m + 14) = σ.2.1 (m + 14)) : wiresR σ' m Q := by
  intro s hs
  unfold wireR
  rw [h1, h2, h3]
  exact h s hs
theorem layL_len {q : List Pkt} {p : Pkt} (h : q.length ≤ 12) : (layL q p).length ≤ 12 := by
  unfold layL
  split
  · simp; omega
  · exact h
theorem r_lay {σ : hp} {m s : Nat} {Q : Nat → List Pkt} (h : SkM σ m) (hs : s < 2) (hQ : wiresR σ m Q) (p : Pkt) (hp : p.1 ≤ 38) (hz : σ.2.1 m 16 = nI p.1) (hb : ∀ i, i < p.1 → σ.2.1 (m + 15) i = p.2 i) :
    ∃ σ', S_X9_lay σ m (nI s) = some σ' ∧ wiresR σ' m (va_up Q s (layL (Q s) p)) ∧ keepT σ σ' m := by
  obtain ⟨hc, hle, hk⟩ := hQ s hs
  have hix : ∀ c, c ≤ 12 → (12 : Int32) * nI s + nI c = nI (12 * s + c) := by
    intro c _
    rw [show (12 : Int32) = nI 12 from rfl, pk_mul, nI_add]
  simp only [S_X9_lay, gM12 h, gM14 h, gMi h, o_ldI, aM12 h, w_ix hs (by decide), Option.bind_some, hc]
  by_cases hfull : (Q s).length = 12
  · rw [if_pos (by rw [hfull]; rfl)]
    refine ⟨σ, rfl, ?_, keepT.rf⟩
    have : va_up Q s (layL (Q s) p) = Q := by
      funext t
      by_cases ht : t = s
      · subst ht
        rw [va_up_self]
        unfold layL
        rw [if_neg (by omega)]
      · exact va_up_ne _ _ ht
    rw [this]
    exact hQ
  · rw [if_neg (by rw [show (12 : Int32) = nI 12 from rfl, nIeq (by omega) (by decide)]; exact hfull)]
    have hlt : (Q s).length < 12 := by omega
    rw [hix _ hle]
    simp only [a_stI, aM14 h, w_ix (show 12 * s + (Q s).length < 24 by omega) (by decide), Option.bind_some]
    generalize hg : (upd (σ.2.1 (m + 14)) (12 * s + (Q s).length) (σ.2.1 m 16)) = g14
    have h1 : SkM (st1 σ (m + 14) g14) m := h
    have eL := r_layL (σ0 := st1 σ (m + 14) g14) (z := p.1) h1 (show 12 * s + (Q s).length < 24 by omega) hs (by rw [st1_ne (by omega)]; exact hz) (by omega) 38 0 FU (st1 σ (m + 14) g14) rfl (by decide) (by rw [st1_id])
    rw [show nI 0 = (0 : Int32) from rfl] at eL
    rw [eL]
    refine ⟨_, rfl, fun t ht => ?_, rfl, rfl, fun b b0 b1 b2 b3 b4 => ?_, ?_⟩
    · by_cases hts : t = s
      · subst hts
        rw [va_up_self]
        refine ⟨?_, layL_len hle, fun k p' hk' => ?_⟩
        · rw [st1_self, u_s, st1_ne (by omega), hc, nI_1]
          unfold layL
          rw [if_pos hlt]
          simp
        · unfold layL at hk'
          rw [if_pos hlt] at hk'
          rw [st1_ne (by omega), st1_ne (by omega), st1_self, st1_ne (by omega : m + 13 ≠ m + 12), st1_self]
          by_cases hkl : k < (Q t).length
          · rw [List.getElem?_append_left hkl] at hk'
            obtain ⟨g1, g2, g3⟩ := hk k p' hk'
            refine ⟨?_, g2, fun i hi => ?_⟩
            · rw [← hg, u_n (by omega)]
              exact g1
            · rw [bw_out (by omega), st1_ne (by omega)]
              exact g3 i hi
          · have hkl2 : k = (Q t).length := by
              have := (List.getElem?_eq_some_iff.mp hk').1
              simp at this
              omega
            subst hkl2
            rw [List.getElem?_append_right (Nat.le_refl _), Nat.sub_self] at hk'
            cases hk'
            refine ⟨?_, hp, fun i hi => ?_⟩
            · rw [← hg, u_s]
              exact hz
            · rw [show 456 * t + 38 * (Q t).length + i = 38 * (12 * t + (Q t).length) + i by omega, bw_in (by omega) (by omega), if_pos hi, st1_ne (by omega)]
              exact hb i hi
      · rw [va_up_ne _ _ hts]
        obtain ⟨q1, q2, q3⟩ := hQ t ht
        refine ⟨?_, q2, fun k p' hk' => ?_⟩
        · rw [st1_self, u_n hts, st1_ne (by omega)]
          exact q1
        · have hkl : k < (Q t).length := (List.getElem?_eq_some_iff.mp hk').1
          obtain ⟨g1, g2, g3⟩ := q3 k p' hk'
          rw [st1_ne (by omega), st1_ne (by omega), st1_self, st1_ne (by omega : m + 13 ≠ m + 12), st1_self]
          refine ⟨?_, g2, fun i hi => ?_⟩
          · rw [← hg, u_n (by omega)]
            exact g1
          · rw [bw_out (by omega), st1_ne (by omega)]
            exact g3 i hi
    · rw [st1_ne b1, st1_ne b2, st1_ne b3]
    · rw [st1_ne (by omega), st1_ne (by omega), st1_ne (by omega)]
theorem hdF_lo {f g : Nat → Int32} {k c w : Int32} {i : Nat} (h : i < 6) : hdF f k c w i = hdF g k c w i := by
  unfold hdF
  rcases (show i = 0 ∨ i = 1 ∨ i = 2 ∨ i = 3 ∨ i = 4 ∨ i = 5 by omega) with rfl | rfl | rfl | rfl | rfl | rfl <;> simp
theorem hdF_hi {f : Nat → Int32} {k c w : Int32} {i : Nat} (h : 6 ≤ i) : hdF f k c w i = f i := by
  unfold hdF
  rw [if_neg (by omega), if_neg (by omega), if_neg (by omega), if_neg (by omega), if_neg (by omega), if_neg (by omega)]
theorem r_control {σ : hp} {m s : Nat} {Q : Nat → List Pkt} (h : SkM σ m) (hs : s < 2) (hQ : wiresR σ m Q) (x y : Int32) :
    ∃ σ', S_X9_control σ m (nI s) x y = some σ' ∧ wiresR σ' m (va_up Q s (layL (Q s) (ctlP x y))) ∧ keepT σ σ' m := by
  simp only [S_X9_control, gMr h, r_head9 h, Option.bind_some]
  generalize hσ1 : st1 (st1 σ (m + 15) (hdF (σ.2.1 (m + 15)) 9 (8 * x + y) (43690 - (8 * x + y)))) m (upd (σ.2.1 m) 16 6) = σ1
  have h1 : SkM σ1 m := by rw [← hσ1]; exact h
  have e15 : σ1.2.1 (m + 15) = hdF (σ.2.1 (m + 15)) 9 (8 * x + y) (43690 - (8 * x + y)) := by rw [← hσ1, st1_ne (by omega), st1_self]
  have k1 : keepT σ σ1 m := by
    rw [← hσ1]
    exact ⟨rfl, rfl, fun b b0 b1 b2 b3 b4 => by rw [st1_ne b0, st1_ne b4], by rw [st1_self, u_n (by decide)]⟩
  have hQ1 : wiresR σ1 m Q := hQ.kept (by rw [← hσ1, st1_ne (by omega), st1_ne (by omega)]) (by rw [← hσ1, st1_ne (by omega), st1_ne (by omega)]) (by rw [← hσ1, st1_ne (by omega), st1_ne (by omega)])
  obtain ⟨σ2, e2, hQ2, k2⟩ := r_lay h1 hs hQ1 (ctlP x y) (Nat.le_of_ble_eq_true rfl) (by rw [← hσ1, st1_self, u_s]; rfl) (fun i hi => by rw [e15]; exact hdF_lo (g := fun _ => 0) (show i < 6 from hi))
  simp only [gMr h1, e2, Option.bind_some]
  exact ⟨σ2, rfl, hQ2, k1.tr k2⟩
theorem r_dataL {σ0 : hp} {m s a : Nat} (h0 : SkM σ0 m) (hs : s < 2) (ha : a < 3) (msg : Msg) (hm : ∀ i, i < 32 → σ0.2.1 (m + 24) (96 * s + 32 * a + i) = msg i) : ∀ (d k n : Nat) (σ : hp), k + d = 32 → d < n → σ = st1 σ0 (m + 15) (σ.2.1 (m + 15)) → S_X9_data_2 n σ m (nI s) (nI a) (nI k) = S_X9_data_2 (n - d) (st1 σ (m + 15) (bw (σ.2.1 (m + 15)) 6 k 32 msg)) m (nI s) (nI a) (nI 32) := by
  intro d
  induction d with
  | zero =>
    intro k n σ hk hn hσ
    obtain rfl : k = 32 := by omega
    rw [bw_0, st1_id]
    rfl
  | succ d ih =>
    intro k n σ hk hn hσ
    obtain ⟨n, rfl⟩ : ∃ q, n = q + 1 := ⟨n - 1, by omega⟩
    have h : SkM σ m := by rw [hσ]; exact h0
    have e24 : σ.2.1 (m + 24) = σ0.2.1 (m + 24) := by rw [hσ, st1_ne (by omega)]
    conv => lhs; simp only [S_X9_data_2, S_X9_data_2_b]
    rw [if_neg (show ¬ (32 : Int32) ≤ nI k from nI_ge (b := 32) (by omega) (by decide))]
    have hix : (96 : Int32) * nI s + (32 : Int32) * nI a + nI k = nI (96 * s + 32 * a + k) := by
      rw [show (96 : Int32) = nI 96 from rfl, show (32 : Int32) = nI 32 from rfl, pk_mul, pk_mul, nI_add, nI_add]
    simp only [gM15 h, gM25 h, o_ldI, aM25 h, hix, w_ix (show 96 * s + 32 * a + k < 192 by omega) (by decide), Option.bind_some, e24, hm k (by omega), a_stI, aM15 h, show (6 : Int32) + nI k = nI (6 + k) from nI_add 6 k, w_ix (show 6 + k < 38 by omega) (by decide), nI_1]
    rw [ih (k + 1) n _ (by omega) (by omega) (by rw [st1_self, st1_of hσ]), st1_self, st1_st1, bw_s (by omega), show n + 1 - (d + 1) = n - d by omega]
theorem r_data {σ : hp} {m s a : Nat} {Q : Nat → List Pkt} (h : SkM σ m) (hs : s < 2) (ha : a < 3) (hQ : wiresR σ m Q) (msg : Msg) (num acc : Int32) (hm : ∀ i, i < 32 → σ.2.1 (m + 24) (96 * s + 32 * a + i) = msg i) (hn : σ.2.1 (m + 23) (3 * s + a) = num) (hac : σ.2.1 (m + 20) s = acc) :
    ∃ σ', S_X9_data σ m (nI s) (nI a) = some σ' ∧ wiresR σ' m (va_up Q s (layL (Q s) (datP num acc msg))) ∧ keepT σ σ' m := by
  have e0 := r_dataL h hs ha msg hm 32 0 FU σ rfl (by decide) (by rw [st1_id])
  unfold S_X9_data
  rw [show (0 : Int32) = nI 0 from rfl, e0]
  generalize hσ1 : st1 σ (m + 15) (bw (σ.2.1 (m + 15)) 6 0 32 msg) = σ1
  have h1 : SkM σ1 m := by rw [← hσ1]; exact h
  have e15 : σ1.2.1 (m + 15) = bw (σ.2.1 (m + 15)) 6 0 32 msg := by rw [← hσ1, st1_self]
  have hix : (3 : Int32) * nI s + nI a = nI (3 * s + a) := by rw [show (3 : Int32) = nI 3 from rfl, pk_mul, nI_add]
  obtain ⟨N, hN⟩ : ∃ N, FU - 32 = N + 1 := ⟨967, rfl⟩
  rw [hN]
  simp only [S_X9_data_2, S_X9_data_2_b]
  rw [if_pos (show (32 : Int32) ≤ nI 32 by decide)]
  simp only [gM24 h1, gM21 h1, gMr h1, o_ldI, aM24 h1, aM21 h1, hix, w_ix (show 3 * s + a < 6 by omega) (by decide), w_ix hs (by decide), Option.bind_some]
  rw [show σ1.2.1 (m + 23) (3 * s + a) = num by rw [← hσ1, st1_ne (by omega)]; exact hn, show σ1.2.1 (m + 20) s = acc by rw [← hσ1, st1_ne (by omega)]; exact hac]
  rw [r_head1 h1 msg (fun i hi => by rw [e15, bw_in (by omega) hi])]
  simp only [Option.bind_some]
  generalize hσ2 : st1 (st1 σ1 (m + 15) (hdF (σ1.2.1 (m + 15)) 1 (128 + 8 * num + acc) (43690 - (sumF msg ^^^ (128 + 8 * num + acc))))) m (upd (σ1.2.1 m) 16 38) = σ2
  have h2 : SkM σ2 m := by rw [← hσ2]; exact h1
  have e15b : σ2.2.1 (m + 15) = hdF (σ1.2.1 (m + 15)) 1 (128 + 8 * num + acc) (43690 - (sumF msg ^^^ (128 + 8 * num + acc))) := by rw [← hσ2, st1_ne (by omega), st1_self]
  have k1 : keepT σ σ1 m := by
    rw [← hσ1]
    exact ⟨rfl, rfl, fun b b0 b1 b2 b3 b4 => by rw [st1_ne b4], by rw [st1_ne (by omega)]⟩
  have k2 : keepT σ1 σ2 m := by
    rw [← hσ2]
    exact ⟨rfl, rfl, fun b b0 b1 b2 b3 b4 => by rw [st1_ne b0, st1_ne b4], by rw [st1_self, u_n (by decide)]⟩
  have hQ2 : wiresR σ2 m Q := hQ.kept (by rw [← hσ2, st1_ne (by omega), st1_ne (by omega), ← hσ1, st1_ne (by omega)]) (by rw [← hσ2, st1_ne (by omega), st1_ne (by omega), ← hσ1, st1_ne (by omega)]) (by rw [← hσ2, st1_ne (by omega), st1_ne (by omega), ← hσ1, st1_ne (by omega)])
  obtain ⟨σ3, e3, hQ3, k3⟩ := r_lay h2 hs hQ2 (datP num acc msg) (Nat.le_of_ble_eq_true rfl) (by rw [← hσ2, st1_self, u_s]; rfl) (fun i hi => by
    rw [e15b]
    by_cases h6 : i < 6
    · exact hdF_lo (g := fun i => msg (i - 6)) h6
    · show _ = hdF (fun i => msg (i - 6)) 1 _ _ i
      have hi : i < 38 := hi
      rw [hdF_hi (by omega), hdF_hi (by omega), e15, show i = 6 + (i - 6) by omega, bw_in (by omega) (by omega)]
      congr 1
      omega)
  simp only [gMr h2, e3, Option.bind_some]
  exact ⟨σ3, rfl, hQ3, (k1.tr k2).tr k3⟩
