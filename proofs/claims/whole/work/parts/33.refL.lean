/-! The reference: takeFirst, isGood. -/
theorem r_tf15 {σ0 : hp} {m s c : Nat} (h0 : SkM σ0 m) (hs : s < 2) (hc : σ0.2.1 (m + 12) s = nI (c + 1)) : ∀ (d k n : Nat) (σ : hp), k + d = 38 → d < n → σ = st1 σ0 (m + 15) (σ.2.1 (m + 15)) → S_X9_takeFirst_15 n σ m (nI s) (nI k) = S_X9_takeFirst_57 FU (st1 (st1 σ (m + 15) (bw (σ.2.1 (m + 15)) 0 k 38 (fun i => σ0.2.1 (m + 13) (456 * s + i)))) (m + 12) (upd (σ0.2.1 (m + 12)) s (nI c))) m (nI s) 0 := by
  intro d
  induction d with
  | zero =>
    intro k n σ hk hn hσ
    obtain ⟨n, rfl⟩ : ∃ q, n = q + 1 := ⟨n - 1, by omega⟩
    obtain rfl : k = 38 := by omega
    have h : SkM σ m := by rw [hσ]; exact h0
    have e12 : σ.2.1 (m + 12) = σ0.2.1 (m + 12) := by rw [hσ, st1_ne (by omega)]
    simp only [S_X9_takeFirst_15, S_X9_takeFirst_15_b]
    rw [if_pos (show (38 : Int32) ≤ nI 38 by decide)]
    simp only [gM12 h, o_ldI, aM12 h, w_ix hs (by decide), a_stI, Option.bind_some, e12, hc, bw_0, st1_id, show nI (c + 1) - (1 : Int32) = nI c from pk_sub (a := c + 1) (b := 1) (by omega)]
  | succ d ih =>
    intro k n σ hk hn hσ
    obtain ⟨n, rfl⟩ : ∃ q, n = q + 1 := ⟨n - 1, by omega⟩
    have h : SkM σ m := by rw [hσ]; exact h0
    have e13 : σ.2.1 (m + 13) = σ0.2.1 (m + 13) := by rw [hσ, st1_ne (by omega)]
    simp only [S_X9_takeFirst_15, S_X9_takeFirst_15_b]
    rw [if_neg (show ¬ (38 : Int32) ≤ nI k from nI_ge (b := 38) (by omega) (by decide))]
    simp only [gM15 h, gM13 h, o_ldI, aM13 h, show (456 : Int32) * nI s + nI k = nI (456 * s + k) by rw [show (456 : Int32) = nI 456 from rfl, pk_mul, nI_add], w_ix (show 456 * s + k < 912 by omega) (by decide), a_stI, aM15 h, w_ix (show k < 38 by omega) (by decide), Option.bind_some, nI_1, e13]
    have e := bw_s (f := σ.2.1 (m + 15)) (off := 0) (k := k) (b := 38) (g := fun i => σ0.2.1 (m + 13) (456 * s + i)) (by omega)
    rw [Nat.zero_add] at e
    rw [ih (k + 1) n _ (by omega) (by omega) (by rw [st1_self, st1_of hσ]), st1_self, st1_st1, e]
theorem r_tf93 {rec57 : hp → Nat → Int32 → Int32 → Option hp} {σ0 : hp} {m s k : Nat} (h0 : SkM σ0 m) (hs : s < 2) (hkg : k + 1 < 12) : ∀ (d i n : Nat) (σ : hp), i + d = 38 → d < n → σ = st1 σ0 (m + 13) (σ.2.1 (m + 13)) → (∀ j, 456 * s + 38 * k + 38 ≤ j → σ.2.1 (m + 13) j = σ0.2.1 (m + 13) j) → S_X9_takeFirst_93 rec57 n σ m (nI s) (nI k) (nI i) = rec57 (st1 σ (m + 13) (bw (σ.2.1 (m + 13)) (456 * s + 38 * k) i 38 (fun i => σ0.2.1 (m + 13) (456 * s + 38 * (k + 1) + i)))) m (nI s) (nI (k + 1)) := by
  intro d
  induction d with
  | zero =>
    intro i n σ hi hn hσ hj
    obtain ⟨n, rfl⟩ : ∃ q, n = q + 1 := ⟨n - 1, by omega⟩
    obtain rfl : i = 38 := by omega
    rw [bw_0, st1_id]
    simp only [S_X9_takeFirst_93, S_X9_takeFirst_93_b, nI_1]
    rw [if_pos (show (38 : Int32) ≤ nI 38 by decide)]
  | succ d ih =>
    intro i n σ hi hn hσ hj
    obtain ⟨n, rfl⟩ : ∃ q, n = q + 1 := ⟨n - 1, by omega⟩
    have h : SkM σ m := by rw [hσ]; exact h0
    simp only [S_X9_takeFirst_93, S_X9_takeFirst_93_b]
    rw [if_neg (show ¬ (38 : Int32) ≤ nI i from nI_ge (b := 38) (by omega) (by decide))]
    have hx : ∀ a b, (456 : Int32) * nI s + (38 : Int32) * nI a + nI b = nI (456 * s + 38 * a + b) := fun a b => by
      rw [show (456 : Int32) = nI 456 from rfl, show (38 : Int32) = nI 38 from rfl, pk_mul, pk_mul, nI_add, nI_add]
    simp only [gM13 h, nI_1, hx, o_ldI, aM13 h, w_ix (show 456 * s + 38 * (k + 1) + i < 912 by omega) (by decide), Option.bind_some, a_stI, w_ix (show 456 * s + 38 * k + i < 912 by omega) (by decide)]
    rw [ih (i + 1) n _ (by omega) (by omega) (by rw [st1_self, st1_of hσ]) (fun j hj2 => by rw [st1_self, u_n (by omega)]; exact hj j hj2), st1_self, st1_st1, hj _ (by omega), bw_s (g := fun i => σ0.2.1 (m + 13) (456 * s + 38 * (k + 1) + i)) (by omega)]
theorem r_tf57 {σ0 : hp} {m s c : Nat} (h0 : SkM σ0 m) (hs : s < 2) (hcg : c < 12) (hc : σ0.2.1 (m + 12) s = nI c) : ∀ (d k n : Nat), k + d = c → d < n → S_X9_takeFirst_57 n (st1 (st1 σ0 (m + 14) (bw (σ0.2.1 (m + 14)) (12 * s) 0 k (fun i => σ0.2.1 (m + 14) (12 * s + i + 1)))) (m + 13) (bw (σ0.2.1 (m + 13)) (456 * s) 0 (38 * k) (fun i => σ0.2.1 (m + 13) (456 * s + i + 38)))) m (nI s) (nI k) =
    some (st1 (st1 σ0 (m + 14) (bw (σ0.2.1 (m + 14)) (12 * s) 0 c (fun i => σ0.2.1 (m + 14) (12 * s + i + 1)))) (m + 13) (bw (σ0.2.1 (m + 13)) (456 * s) 0 (38 * c) (fun i => σ0.2.1 (m + 13) (456 * s + i + 38)))) := by
  intro d
  induction d with
  | zero =>
    intro k n hk hn
    obtain ⟨n, rfl⟩ : ∃ q, n = q + 1 := ⟨n - 1, by omega⟩
    obtain rfl : k = c := by omega
    generalize hσ : st1 (st1 σ0 (m + 14) (bw (σ0.2.1 (m + 14)) (12 * s) 0 k (fun i => σ0.2.1 (m + 14) (12 * s + i + 1)))) (m + 13) (bw (σ0.2.1 (m + 13)) (456 * s) 0 (38 * k) (fun i => σ0.2.1 (m + 13) (456 * s + i + 38))) = σ
    have h : SkM σ m := by rw [← hσ]; exact h0
    have e12 : σ.2.1 (m + 12) s = nI k := by rw [← hσ, st1_ne (by omega), st1_ne (by omega)]; exact hc
    simp only [S_X9_takeFirst_57, S_X9_takeFirst_57_b, gM12 h, o_ldI, aM12 h, w_ix hs (by decide), Option.bind_some, e12]
    rw [if_pos (nI_le (Nat.le_refl _) (by omega))]
  | succ d ih =>
    intro k n hk hn
    obtain ⟨n, rfl⟩ : ∃ q, n = q + 1 := ⟨n - 1, by omega⟩
    have key := ih (k + 1) n (by omega) (by omega)
    generalize hσ : st1 (st1 σ0 (m + 14) (bw (σ0.2.1 (m + 14)) (12 * s) 0 k (fun i => σ0.2.1 (m + 14) (12 * s + i + 1)))) (m + 13) (bw (σ0.2.1 (m + 13)) (456 * s) 0 (38 * k) (fun i => σ0.2.1 (m + 13) (456 * s + i + 38))) = σ
    have h : SkM σ m := by rw [← hσ]; exact h0
    have e12 : σ.2.1 (m + 12) s = nI c := by rw [← hσ, st1_ne (by omega), st1_ne (by omega)]; exact hc
    have e14 : σ.2.1 (m + 14) = bw (σ0.2.1 (m + 14)) (12 * s) 0 k (fun i => σ0.2.1 (m + 14) (12 * s + i + 1)) := by rw [← hσ, st1_ne (by omega), st1_self]
    have e13 : σ.2.1 (m + 13) = bw (σ0.2.1 (m + 13)) (456 * s) 0 (38 * k) (fun i => σ0.2.1 (m + 13) (456 * s + i + 38)) := by rw [← hσ, st1_self]
    simp only [S_X9_takeFirst_57, S_X9_takeFirst_57_b, gM12 h, o_ldI, aM12 h, w_ix hs (by decide), Option.bind_some, e12]
    rw [if_neg (nI_ge (by omega) (by omega))]
    have hx : ∀ a, (12 : Int32) * nI s + nI a = nI (12 * s + a) := fun a => by rw [show (12 : Int32) = nI 12 from rfl, pk_mul, nI_add]
    simp only [gM14 h, hx, nI_1, aM14 h, w_ix (show 12 * s + k + 1 < 24 by omega) (by decide), Option.bind_some, a_stI, w_ix (show 12 * s + k < 24 by omega) (by decide)]
    rw [show σ.2.1 (m + 14) (12 * s + k + 1) = σ0.2.1 (m + 14) (12 * s + k + 1) by rw [e14, bw_out (by omega)], e14, bw_e (g := fun i => σ0.2.1 (m + 14) (12 * s + i + 1))]
    have hb : SkM (st1 σ (m + 14) (bw (σ0.2.1 (m + 14)) (12 * s) 0 (k + 1) (fun i => σ0.2.1 (m + 14) (12 * s + i + 1)))) m := h
    have E := r_tf93 (rec57 := S_X9_takeFirst_57 n) hb hs (show k + 1 < 12 by omega) 38 0 FU _ rfl (by decide) (by rw [st1_id]) (fun _ _ => rfl)
    rw [show nI 0 = (0 : Int32) from rfl] at E
    rw [E, ← key]
    congr 1
    rw [st1_ne (by omega), e13]
    have ebl : bw (bw (σ0.2.1 (m + 13)) (456 * s) 0 (38 * k) (fun i => σ0.2.1 (m + 13) (456 * s + i + 38))) (456 * s + 38 * k) 0 38 (fun i => bw (σ0.2.1 (m + 13)) (456 * s) 0 (38 * k) (fun i => σ0.2.1 (m + 13) (456 * s + i + 38)) (456 * s + 38 * (k + 1) + i)) = bw (σ0.2.1 (m + 13)) (456 * s) 0 (38 * (k + 1)) (fun i => σ0.2.1 (m + 13) (456 * s + i + 38)) := by
      rw [show 38 * (k + 1) = 38 * k + 38 by omega, ← bw_app]
      congr 1
      funext i
      rw [bw_out (by omega)]
      show σ0.2.1 (m + 13) _ = σ0.2.1 (m + 13) (456 * s + (38 * k + i) + 38)
      rw [show 456 * s + (38 * k + 38) + i = 456 * s + (38 * k + i) + 38 by omega]
    rw [ebl, ← hσ, st1_cm (by omega : m + 13 ≠ m + 14), st1_st1, st1_st1]
theorem r_takeFirst {σ : hp} {m s : Nat} {Q : Nat → List Pkt} {p : Pkt} {ps : List Pkt} (h : SkM σ m) (hs : s < 2) (hQ : wiresR σ m Q) (hp : Q s = p :: ps) :
    ∃ σ', S_X9_takeFirst σ m (nI s) = some σ' ∧ wiresR σ' m (va_up Q s ps) ∧ keepT σ σ' m ∧ σ'.2.1 m 16 = nI p.1 ∧ pkIs σ' m p := by
  obtain ⟨hc, hle, hk⟩ := hQ s hs
  rw [hp] at hc hle hk
  rw [List.length_cons] at hc hle
  obtain ⟨z1, z2, z3⟩ := hk 0 p rfl
  have e0 : σ.2.1 (m + 14) (12 * s) = nI p.1 := z1
  simp only [S_X9_takeFirst, gM14 h, o_ldI, aM14 h, show (12 : Int32) * nI s = nI (12 * s) from pk_mul 12 s, w_ix (show 12 * s < 24 by omega) (by decide), Option.bind_some, e0, gMp h]
  generalize hσ1 : st1 σ m (upd (σ.2.1 m) 16 (nI p.1)) = σ1
  have h1 : SkM σ1 m := by rw [← hσ1]; exact h
  have q1 : ∀ d, 0 < d → σ1.2.1 (m + d) = σ.2.1 (m + d) := fun d hd => by rw [← hσ1, st1_ne (by omega)]
  have E := r_tf15 (c := ps.length) h1 hs (by rw [q1 12 (by decide)]; exact hc) 38 0 FU σ1 rfl (by decide) (by rw [st1_id])
  rw [show nI 0 = (0 : Int32) from rfl] at E
  rw [E]
  generalize hσ2 : st1 (st1 σ1 (m + 15) (bw (σ1.2.1 (m + 15)) 0 0 38 (fun i => σ1.2.1 (m + 13) (456 * s + i)))) (m + 12) (upd (σ1.2.1 (m + 12)) s (nI ps.length)) = σ2
  have h2 : SkM σ2 m := by rw [← hσ2]; exact h1
  have q2 : ∀ d, 0 < d → d ≠ 12 → d ≠ 15 → σ2.2.1 (m + d) = σ.2.1 (m + d) := fun d h0 hd hd' => by rw [← hσ2, st1_ne (by omega), st1_ne (by omega), q1 d h0]
  have e12 : σ2.2.1 (m + 12) = upd (σ.2.1 (m + 12)) s (nI ps.length) := by rw [← hσ2, st1_self, q1 12 (by decide)]
  have E2 := r_tf57 (c := ps.length) h2 hs (by omega) (by rw [e12, u_s]) ps.length 0 FU (by omega) (by show _ < 1000; omega)
  rw [Nat.mul_zero, bw_0, bw_0, st1_id, st1_id, show nI 0 = (0 : Int32) from rfl, q2 14 (by decide) (by decide) (by decide), q2 13 (by decide) (by decide) (by decide)] at E2
  rw [E2]
  refine ⟨_, rfl, fun t ht => ?_, ⟨?_, ?_, fun b b0 b1 b2 b3 b4 => ?_, ?_⟩, ?_, fun i hi => ?_⟩
  · unfold wireR
    rw [st1_ne (by omega), st1_ne (by omega), e12, st1_ne (show m + 14 ≠ m + 13 by omega), st1_self, st1_self]
    by_cases hts : t = s
    · subst hts
      rw [va_up_self]
      refine ⟨u_s, by omega, fun k p' hk' => ?_⟩
      have hkl : k < ps.length := (List.getElem?_eq_some_iff.mp hk').1
      obtain ⟨g1, g2, g3⟩ := hk (k + 1) p' (by rw [List.getElem?_cons_succ]; exact hk')
      refine ⟨?_, g2, fun i hi => ?_⟩
      · rw [bw_in (by omega) hkl]; exact g1
      · rw [show 456 * t + 38 * k + i = 456 * t + (38 * k + i) by omega, bw_in (by omega) (by omega)]
        have := g3 i hi
        rw [show 456 * t + 38 * (k + 1) + i = 456 * t + (38 * k + i) + 38 by omega] at this
        exact this
    · rw [va_up_ne _ _ hts]
      obtain ⟨w1, w2, w3⟩ := hQ t ht
      refine ⟨by rw [u_n hts]; exact w1, w2, fun k p' hk' => ?_⟩
      have hkl : k < (Q t).length := (List.getElem?_eq_some_iff.mp hk').1
      obtain ⟨g1, g2, g3⟩ := w3 k p' hk'
      refine ⟨?_, g2, fun i hi => ?_⟩
      · rw [bw_out (by omega)]; exact g1
      · rw [bw_out (by omega)]; exact g3 i hi
  · show σ2.1 = σ.1
    rw [← hσ2, ← hσ1]; rfl
  · show σ2.2.2 = σ.2.2
    rw [← hσ2, ← hσ1]; rfl
  · rw [st1_ne b2, st1_ne b3, ← hσ2, st1_ne b1, st1_ne b4, ← hσ1, st1_ne b0]
  · rw [st1_ne (by omega), st1_ne (by omega), ← hσ2, st1_ne (by omega), st1_ne (by omega), ← hσ1, st1_self, u_n (by decide)]
  · rw [st1_ne (by omega), st1_ne (by omega), ← hσ2, st1_ne (by omega), st1_ne (by omega), ← hσ1, st1_self, u_s]
  · rw [st1_ne (by omega), st1_ne (by omega), ← hσ2, st1_ne (by omega), st1_self]
    have := bw_in (f := σ1.2.1 (m + 15)) (off := 0) (a := 0) (b := 38) (g := fun i => σ1.2.1 (m + 13) (456 * s + i)) (Nat.zero_le i) (show i < 38 by omega)
    rw [Nat.zero_add] at this
    rw [this, q1 13 (by decide)]
    have := z3 i hi
    rw [Nat.mul_zero, Nat.add_zero] at this
    exact this
-- good packets
theorem not_and_or' {a b : Prop} [Decidable a] (h : ¬ (a ∧ b)) : ¬ a ∨ ¬ b := if ha : a then Or.inr fun hb => h ⟨ha, hb⟩ else Or.inl ha
theorem okB_and {x : Int32} (h : okB x) : x &&& 255 = x := by
  obtain ⟨k, hk, rfl⟩ := h
  rw [show nI k &&& 255 = nI (k % 256) from pk_andN (by omega) 8 rfl, Nat.mod_eq_of_lt hk]
theorem chk_b {x y w : Int32} (hx : okB x) (hy : okB y) : (x ||| (y <<< ((8 : Int32) &&& 31)) = w &&& 65535) ↔ (x = w &&& 255 ∧ y = (w >>> ((8 : Int32) &&& 31)) &&& 255) := by
  have hx := okB_and hx
  have hy := okB_and hy
  have e1 : (x ||| (y <<< ((8 : Int32) &&& 31))) &&& 255 = x := by
    rw [← hx, ← hy]
    apply b_ext
    intro i hi
    simp only [b_and, b_or, b_shl8 _ hi, b_255]
    by_cases h : i < 8
    · simp [h, show ¬ 8 ≤ i by omega]
    · simp [h]
  have e2 : (x ||| (y <<< ((8 : Int32) &&& 31))) >>> ((8 : Int32) &&& 31) = y := by
    rw [← hx, ← hy]
    apply b_ext
    intro i hi
    rw [b_sshr8 _ hi]
    by_cases h : 8 + i < 32
    · rw [if_pos h]
      simp only [b_and, b_or, b_shl8 _ h, b_255]
      simp [show ¬ 8 + i < 8 by omega]
    · rw [if_neg h]
      simp only [b_and, b_or, b_shl8 _ (show 31 < 32 by decide), b_255]
      simp [show ¬ i < 8 by omega]
  constructor
  · intro h
    rw [h, m255] at e1
    rw [h, m8] at e2
    exact ⟨e1.symm, e2.symm⟩
  · rintro ⟨h1, h2⟩
    rw [h1, h2]
    apply b_ext
    intro i hi
    simp only [b_and, b_or, b_shl8 _ hi, b_255, b_65535]
    by_cases h : i < 8
    · simp [h, show ¬ 8 ≤ i by omega, show i < 16 by omega]
    · by_cases h2 : i < 16
      · rw [b_sshr8 _ (by omega), if_pos (show 8 + (i - 8) < 32 by omega), show 8 + (i - 8) = i by omega]
        simp [h, h2, show 8 ≤ i by omega, show i - 8 < 8 by omega]
      · simp [h, h2, show ¬ i - 8 < 8 by omega]
theorem c64 : ∀ k, k < 256 → ((nI k >>> ((6 : Int32) &&& 31) = 0) ↔ ¬ (64 : Int32) ≤ nI k) := by decide +kernel
def zF (f : Nat → Int32) (k : Nat) : Bool := (List.range 38).all (fun i => decide (k ≤ i → f i = 0))
theorem zF_iff {f : Nat → Int32} {k : Nat} : zF f k = true ↔ ∀ i, i < 38 → k ≤ i → f i = 0 := by
  unfold zF
  simp only [List.all_eq_true, List.mem_range, decide_eq_true_eq]
theorem r_good231 {σ : hp} {m : Nat} (h : SkM σ m) (f : Nat → Int32) (hf : ∀ i, i < 38 → σ.2.1 (m + 15) i = f i) : ∀ (d k N : Nat), k + d = 38 → d < N → S_X9_isGood_231 N σ m 1 (nI k) = some (bI (zF f k)) := by
  have z0 : ∀ N v, 0 < N → S_X9_isGood_231 N σ m 0 v = some 0 := by
    intro N v hN
    obtain ⟨N, rfl⟩ : ∃ q, N = q + 1 := ⟨N - 1, by omega⟩
    simp only [S_X9_isGood_231, S_X9_isGood_231_b, S_X9_isGood_266, w_z0, Option.bind_some, if_true]
    split <;> rfl
  intro d
  induction d with
  | zero =>
    intro k N hk hN
    obtain ⟨N, rfl⟩ : ∃ q, N = q + 1 := ⟨N - 1, by omega⟩
    obtain rfl : k = 38 := by omega
    simp only [S_X9_isGood_231, S_X9_isGood_231_b, S_X9_isGood_266, w_z1, Option.bind_some]
    rw [if_pos (show (38 : Int32) ≤ nI 38 by decide), zF_iff.mpr (show ∀ i, i < 38 → 38 ≤ i → f i = 0 from fun i a b => absurd b (by omega))]
    rfl
  | succ d ih =>
    intro k N hk hN
    obtain ⟨N, rfl⟩ : ∃ q, N = q + 1 := ⟨N - 1, by omega⟩
    simp only [S_X9_isGood_231, S_X9_isGood_231_b, S_X9_isGood_258]
    rw [if_neg (show ¬ (38 : Int32) ≤ nI k from nI_ge (b := 38) (by omega) (by decide)), if_neg (show ¬ (1 : Int32) = 0 by decide)]
    simp only [gM15 h, o_ldI, aM15 h, w_ix (show k < 38 by omega) (by decide), Option.bind_some, hf k (by omega), nI_1]
    by_cases hz : f k = 0
    · rw [if_pos hz, ih (k + 1) N (by omega) (by omega)]
      congr 2
      rw [Bool.eq_iff_iff, zF_iff, zF_iff]
      constructor
      · intro q i hi hki
        by_cases e : i = k
        · rw [e]; exact hz
        · exact q i hi (by omega)
      · intro q i hi hki
        exact q i hi (by omega)
    · rw [if_neg hz, z0 N _ (by omega), Bool.eq_false_iff.mpr (fun q => hz (zF_iff.mp q k (by omega) (Nat.le_refl _)))]
      rfl
theorem msgOk_eq {f : Nat → Int32} {n : Nat} (hn : n < 256) (h : f 6 = nI n) : msgOk f = (decide (1 ≤ n ∧ n ≤ 31) && zF f (7 + n)) := by
  unfold msgOk
  rw [h]
  have a1 : (¬ nI n < 1) ↔ 1 ≤ n := by rw [show (1 : Int32) = nI 1 from rfl, nIlt (by omega) (by decide)]; omega
  have a2 : (nI n ≤ 31) ↔ n ≤ 31 := by rw [show (31 : Int32) = nI 31 from rfl, nIle (by omega) (by decide)]
  rw [Bool.eq_iff_iff]
  simp only [Bool.and_eq_true, decide_eq_true_eq, List.all_eq_true, List.mem_range, a1, a2, zF_iff]
  constructor
  · rintro ⟨⟨b1, b2⟩, b3⟩
    refine ⟨⟨b1, b2⟩, fun i hi h7 => b3 i hi ?_⟩
    rw [show nI n + (7 : Int32) = nI (n + 7) from nI_add n 7]
    exact nI_le (by omega) (by omega)
  · rintro ⟨⟨b1, b2⟩, b3⟩
    refine ⟨⟨b1, b2⟩, fun i hi h7 => b3 i hi ?_⟩
    rw [show nI n + (7 : Int32) = nI (n + 7) from nI_add n 7, nIle (by omega) (by omega)] at h7
    omega
set_option maxHeartbeats 1000000 in
theorem R_isGood {σ : hp} {m : Nat} {p : Pkt} (h : SkM σ m) (hp : okP p) (hpk : pkIs σ m p) (hz : σ.2.1 m 16 = nI p.1) : S_X9_isGood σ m = some (bI (goodP p)) := by
  have hp6 : 6 ≤ p.1 := by rcases hp.1 with q | q <;> omega
  have c0 : σ.2.1 (m + 15) 0 = p.2 0 := hpk 0 (by omega)
  have c1 : σ.2.1 (m + 15) 1 = p.2 1 := hpk 1 (by omega)
  have c2 : σ.2.1 (m + 15) 2 = p.2 2 := hpk 2 (by omega)
  have c3 : σ.2.1 (m + 15) 3 = p.2 3 := hpk 3 (by omega)
  have c4 : σ.2.1 (m + 15) 4 = p.2 4 := hpk 4 (by omega)
  have c5 : σ.2.1 (m + 15) 5 = p.2 5 := hpk 5 (by omega)
  have b2 := hp.2 2 (by omega)
  have b3 := hp.2 3 (by omega)
  simp only [S_X9_isGood, S_X9_isGood_42, S_X9_isGood_56, S_X9_isGood_82, S_X9_isGood_152, S_X9_isGood_167, S_X9_isGood_168, w_z0, w_z1, gM15 h, gMi h, o_ldI, aM15 h, wx0 (show 0 < 38 by decide), wx1 (show 1 < 38 by decide), wx2 (show 2 < 38 by decide), wx3 (show 3 < 38 by decide), wx4 (show 4 < 38 by decide), wx5 (show 5 < 38 by decide), wx6 (show 6 < 38 by decide), Option.bind_some, c0, c1, c2, c3, c4, c5, hz]
  unfold goodP
  by_cases h0 : p.2 0 = 16
  · rw [if_pos h0, decide_eq_true h0, Bool.true_and]
    rcases hp.1 with h6 | h38
    · rw [if_neg (show ¬ p.1 = 38 by omega), h6]
      unfold hdOk isCtl
      by_cases k9 : p.2 1 = 9
      · rw [if_pos k9, if_pos (show nI 6 = 6 from rfl), if_pos k9]
        obtain ⟨c, hc, hcc⟩ := hp.2 4 (by omega)
        have e64 := c64 c hc
        rw [← hcc] at e64
        have ck := chk_b (w := 43690 - p.2 4) b2 b3
        have ex : pkX p = (p.2 4 >>> ((3 : Int32) &&& 31)) &&& 7 := rfl
        rw [← ex]
        rw [k9]
        by_cases g5 : p.2 5 = 9 ^^^ p.2 2 ^^^ p.2 3 ^^^ p.2 4
        · rw [if_pos g5, if_pos (show (9 : Int32) = 9 from rfl), show decide ((9 : Int32) = 9) = true from rfl]
          by_cases l64 : (64 : Int32) ≤ p.2 4
          · rw [if_pos l64, decide_eq_false (fun q => e64.mp q l64)]
            rfl
          · rw [if_neg l64, decide_eq_true (e64.mpr l64), Bool.true_and]
            by_cases gc : p.2 2 ||| p.2 3 <<< ((8 : Int32) &&& 31) = (43690 - p.2 4) &&& 65535
            · simp only [if_pos gc]
              obtain ⟨f1, f2⟩ := ck.mp gc
              rw [g5, f1, f2]
              simp only [decide_true, Bool.and_true]
              by_cases x1 : pkX p = 1 ∨ pkX p = 2 ∨ pkX p = 4 ∨ pkX p = 5 ∨ pkX p = 7
              · rw [decide_eq_true x1]
                rcases x1 with q | q | q | q | q <;> rw [q] <;> rfl
              · rw [decide_eq_false x1, if_neg (fun q => x1 (by simp [q])), if_neg (fun q => x1 (by simp [q])), if_neg (fun q => x1 (by simp [q])), if_neg (fun q => x1 (by simp [q])), if_neg (fun q => x1 (by simp [q]))]
                rfl
            · simp only [if_neg gc]
              have : (decide (p.2 2 = (43690 - p.2 4) &&& 255) && decide (p.2 3 = ((43690 - p.2 4) >>> ((8 : Int32) &&& 31)) &&& 255)) = false := by
                rw [Bool.and_eq_false_iff, decide_eq_false_iff_not, decide_eq_false_iff_not]
                by_cases q : p.2 2 = (43690 - p.2 4) &&& 255
                · right; exact fun q2 => gc (ck.mpr ⟨q, q2⟩)
                · left; exact q
              rw [Bool.true_and, this, Bool.false_and, Bool.and_false]
              simp only [ite_self]
              rfl
        · rw [if_neg g5]
          have : (decide (p.2 2 = (43690 - p.2 4) &&& 255) && decide (p.2 3 = ((43690 - p.2 4) >>> ((8 : Int32) &&& 31)) &&& 255) && decide (p.2 5 = 9 ^^^ (43690 - p.2 4) &&& 255 ^^^ ((43690 - p.2 4) >>> ((8 : Int32) &&& 31)) &&& 255 ^^^ p.2 4)) = false := by
            rw [Bool.and_eq_false_iff]
            by_cases q : p.2 2 = (43690 - p.2 4) &&& 255 ∧ p.2 3 = ((43690 - p.2 4) >>> ((8 : Int32) &&& 31)) &&& 255
            · right
              rw [← q.1, ← q.2]
              exact decide_eq_false g5
            · left
              rw [Bool.and_eq_false_iff, decide_eq_false_iff_not, decide_eq_false_iff_not]
              exact not_and_or' q
          rw [show decide ((9 : Int32) = 9) = true from rfl, Bool.true_and, this, Bool.and_false]
          rfl
      · rw [if_neg k9, if_neg (show ¬ nI 6 = 38 by decide), decide_eq_false k9]
        simp only [Bool.false_and, Bool.and_false]
        rfl
    · rw [if_pos h38, h38]
      have hf : ∀ i, i < 38 → σ.2.1 (m + 15) i = p.2 i := fun i hi => hpk i (by omega)
      have hS := r_sum h (fun i => p.2 (6 + i)) (fun i hi => hpk _ (by omega))
      obtain ⟨n, hn, hnn⟩ := hp.2 6 (by omega)
      rw [msgOk_eq hn hnn]
      have z0 : ∀ v, S_X9_isGood_231 FU σ m 0 v = some 0 := by
        intro v
        obtain ⟨N, hN⟩ : ∃ N, FU = N + 1 := ⟨999, rfl⟩
        rw [hN]
        simp only [S_X9_isGood_231, S_X9_isGood_231_b, S_X9_isGood_266, w_z0, Option.bind_some, if_true]
        split <;> rfl
      unfold hdOk
      by_cases k9 : p.2 1 = 9
      · rw [if_pos k9, if_neg (show ¬ nI 38 = 6 by decide), decide_eq_false (show ¬ p.2 1 = 1 by rw [k9]; decide)]
        simp only [Bool.false_and, Bool.and_false]
        rfl
      · rw [if_neg k9, if_pos (show nI 38 = 38 from rfl), if_neg k9]
        by_cases k1 : p.2 1 = 1
        · rw [if_pos k1, if_neg k9, k1]
          simp only [gMr h, hS, Option.bind_some, S_X9_isGood_221, S_X9_isGood_222, z0, hf 6 (by decide), hnn]
          generalize hS2 : sumF (fun i => p.2 (6 + i)) = S
          have ck := chk_b (w := 43690 - (S ^^^ p.2 4)) b2 b3
          have a1 : (nI n < 1) ↔ n < 1 := by rw [show (1 : Int32) = nI 1 from rfl, nIlt (by omega) (by decide)]
          have a2 : ((31 : Int32) < nI n) ↔ 31 < n := by rw [show (31 : Int32) = nI 31 from rfl, nIlt (by decide) (by omega)]
          by_cases g5 : p.2 5 = 1 ^^^ p.2 2 ^^^ p.2 3 ^^^ p.2 4
          · rw [if_pos g5]
            by_cases l2 : p.2 4 >>> ((6 : Int32) &&& 31) = 2
            · rw [if_pos l2, decide_eq_true l2, Bool.true_and]
              by_cases gc : p.2 2 ||| p.2 3 <<< ((8 : Int32) &&& 31) = (43690 - (S ^^^ p.2 4)) &&& 65535
              · rw [if_pos gc]
                obtain ⟨f1, f2⟩ := ck.mp gc
                rw [g5, f1, f2]
                simp only [decide_true, Bool.and_true]
                by_cases n1 : n < 1
                · rw [if_pos (a1.mpr n1), decide_eq_false (fun q => absurd q.1 (by omega)), Bool.false_and]
                  rfl
                · rw [if_neg (fun q => n1 (a1.mp q))]
                  by_cases n31 : 31 < n
                  · rw [if_pos (a2.mpr n31), decide_eq_false (fun q => absurd q.2 (by omega)), Bool.false_and]
                    rfl
                  · rw [if_neg (fun q => n31 (a2.mp q)), show (7 : Int32) + nI n = nI (7 + n) from nI_add 7 n, r_good231 h p.2 hf (38 - (7 + n)) (7 + n) FU (by omega) (by show _ < 1000; omega), decide_eq_true (show 1 ≤ n ∧ n ≤ 31 by omega), Bool.true_and]
              · rw [if_neg gc]
                have : (decide (p.2 2 = (43690 - (S ^^^ p.2 4)) &&& 255) && decide (p.2 3 = ((43690 - (S ^^^ p.2 4)) >>> ((8 : Int32) &&& 31)) &&& 255)) = false := by
                  rw [Bool.and_eq_false_iff, decide_eq_false_iff_not, decide_eq_false_iff_not]
                  by_cases q : p.2 2 = (43690 - (S ^^^ p.2 4)) &&& 255
                  · right; exact fun q2 => gc (ck.mpr ⟨q, q2⟩)
                  · left; exact q
                rw [decide_true, Bool.true_and, this, Bool.false_and, Bool.and_false]
                rfl
            · rw [if_neg l2, decide_eq_false l2]
              rfl
          · rw [if_neg g5]
            have : (decide (p.2 2 = (43690 - (S ^^^ p.2 4)) &&& 255) && decide (p.2 3 = ((43690 - (S ^^^ p.2 4)) >>> ((8 : Int32) &&& 31)) &&& 255) && decide (p.2 5 = 1 ^^^ (43690 - (S ^^^ p.2 4)) &&& 255 ^^^ ((43690 - (S ^^^ p.2 4)) >>> ((8 : Int32) &&& 31)) &&& 255 ^^^ p.2 4)) = false := by
              rw [Bool.and_eq_false_iff]
              by_cases q : p.2 2 = (43690 - (S ^^^ p.2 4)) &&& 255 ∧ p.2 3 = ((43690 - (S ^^^ p.2 4)) >>> ((8 : Int32) &&& 31)) &&& 255
              · right
                rw [← q.1, ← q.2]
                exact decide_eq_false g5
              · left
                rw [Bool.and_eq_false_iff, decide_eq_false_iff_not, decide_eq_false_iff_not]
                exact not_and_or' q
            rw [decide_true, Bool.true_and, this, Bool.and_false]
            rfl
        · rw [if_neg k1, decide_eq_false k1]
          simp only [Bool.false_and, Bool.and_false]
          rfl
  · rw [if_neg h0, decide_eq_false h0, Bool.false_and]
    rfl
