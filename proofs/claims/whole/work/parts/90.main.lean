/-! The law as a function, on every script. -/
theorem sc_at {L j : Nat} {xs : Nat → Int32} (h : j < L) (hL : L ≤ 2048) : o_sc L xs (nI j) = some (xs j) := by
  unfold o_sc
  rw [nI_clamp (by omega), if_neg]
  intro q
  rcases q with q | q
  · exact absurd q (nI_pos (by omega))
  · omega
theorem law_mut {σ : hp} {o : Nat} {A : aA} {r : Int32 × aA} {e8 : Option (Int32 × hp)} {f9 : hp → Option (Int32 × hp)} (hR : RepR σ (o + 156) A) (h8 : ∃ σ1, e8 = some (r.1, σ1) ∧ RepC σ1 o r.2 100000 ∧ keepR σ σ1 o) (h9 : ∀ σ1, RepR σ1 (o + 156) A → ∃ σ2, f9 σ1 = some (r.1, σ2) ∧ RepR σ2 (o + 156) r.2 ∧ keepM σ1 σ2 (o + 156)) : ∃ σ1 σ2, e8 = some (r.1, σ1) ∧ σ1.1 (o + 156) = some (.inl 9) ∧ f9 σ1 = some (r.1, σ2) ∧ RepC σ2 o r.2 100000 ∧ RepR σ2 (o + 156) r.2 := by
  obtain ⟨σ1, e1, hC1, k1⟩ := h8
  have hR1 := hR.ag k1
  obtain ⟨σ2, e2, hR2, k2⟩ := h9 σ1 hR1
  exact ⟨σ1, σ2, e1, hR1.1.1, e2, hC1.m k2, hR2⟩
theorem law_end {L i : Nat} (hL : L ≤ 2048) (hi : i ≤ 4096) (h : L < i + 4) : Int32.ofNat L - 4 < nI i := by
  show nI L - 4 < nI i
  rcases Nat.lt_or_ge L 4 with q | q
  · have z : nI L - 4 < 0 := by
      rcases (show L = 0 ∨ L = 1 ∨ L = 2 ∨ L = 3 by omega) with rfl | rfl | rfl | rfl <;> decide
    exact Int32.lt_of_lt_of_le z (Int32.not_lt.mp (nI_pos (by omega)))
  · rw [show nI L - 4 = nI (L - 4) from pk_sub (a := L) (b := 4) q]
    exact nI_lt (by omega) (by omega)
theorem law_go {L i : Nat} (hL : L ≤ 2048) (h : i + 4 ≤ L) : ¬ Int32.ofNat L - 4 < nI i := by
  show ¬ nI L - 4 < nI i
  rw [show nI L - 4 = nI (L - 4) from pk_sub (a := L) (b := 4) (by omega)]
  exact nI_nlt (by omega) (by omega)
theorem law_loop {L o : Nat} {xs : Nat → Int32} (hL : L ≤ 2048) : ∀ (d i N k : Nat) (σ : hp) (A : aA), L ≤ i + 4 * d + 3 → i ≤ 2052 → d < N → k + d ≤ 1000 → RepC σ o A 100000 → RepR σ (o + 156) A → okA k A → ∃ z A' k', S_L_law_18 L xs N σ (some o) (some (o + 156)) (nI i) = some z ∧ RepC z o A' 100000 ∧ okA k' A' := by
  intro d
  induction d with
  | zero =>
    intro i N k σ A h1 h2 hN hk hC hR hA
    obtain ⟨N, rfl⟩ : ∃ q, N = q + 1 := ⟨N - 1, by omega⟩
    simp only [S_L_law_18, S_L_law_18_b]
    rw [if_pos (law_end hL (by omega) (by omega))]
    exact ⟨σ, A, k, rfl, hC, hA⟩
  | succ d ih =>
    intro i N k σ A h1 h2 hN hk hC hR hA
    obtain ⟨N, rfl⟩ : ∃ q, N = q + 1 := ⟨N - 1, by omega⟩
    simp only [S_L_law_18, S_L_law_18_b]
    by_cases hend : L < i + 4
    · rw [if_pos (law_end hL (by omega) hend)]
      exact ⟨σ, A, k, rfl, hC, hA⟩
    · rw [if_neg (law_go hL (by omega))]
      have step : ∀ σ2 A2, RepC σ2 o A2 100000 → RepR σ2 (o + 156) A2 → okA (k + 1) A2 → ∃ z A' k', S_L_law_570 L xs (S_L_law_18 L xs N) σ2 (some o) (some (o + 156)) (nI i) = some z ∧ RepC z o A' 100000 ∧ okA k' A' := fun σ2 A2 a b c => by
        unfold S_L_law_570
        rw [show nI i + 4 = nI (i + 4) from nI_add i 4]
        exact ih (i + 4) N (k + 1) σ2 A2 (by omega) (by omega) (by omega) (by omega) a b c
      have o8 := hC.sk.1.1
      have o9 := hR.1.1
      have hk20 : k < 2 ^ 20 := by omega
      have s0 := sc_at (xs := xs) (show i < L by omega) hL
      have s1 : o_sc L xs (nI i + 1) = some (xs (i + 1)) := by rw [show nI i + 1 = nI (i + 1) from nI_add i 1]; exact sc_at (by omega) hL
      have s2 : o_sc L xs (nI i + 2) = some (xs (i + 2)) := by rw [show nI i + 2 = nI (i + 2) from nI_add i 2]; exact sc_at (by omega) hL
      have s3 : o_sc L xs (nI i + 3) = some (xs (i + 3)) := by rw [show nI i + 3 = nI (i + 3) from nI_add i 3]; exact sc_at (by omega) hL
      rw [s0]
      simp only [Option.bind_some]
      generalize xs i &&& 15 = v
      generalize xs (i + 1) = x1 at s1
      generalize xs (i + 2) = x2 at s2
      generalize xs (i + 3) = x3 at s3
      have hA1 := hA.mono (Nat.le_succ k)
      by_cases v0 : v = 0
      · rw [if_pos v0]
        obtain ⟨σ1, σ2, e1, t1, e2, hC2, hR2⟩ := law_mut hR (K_put (b := x1) hC hA) (fun σ1 h => R_put h hA)
        simp only [s1, Option.bind_some, w_rcv o8, e1, w_rcv t1, e2]
        rw [if_pos trivial]
        exact step σ2 _ hC2 hR2 (put_ok hA1)
      rw [if_neg v0]
      by_cases v1 : v = 1
      · rw [if_pos v1]
        obtain ⟨σ1, σ2, e1, t1, e2, hC2, hR2⟩ := law_mut hR (K_queue (f := x1) hC hA) (fun σ1 h => R_queue h hA)
        simp only [S_L_law_144, s1, Option.bind_some, w_rcv o8, e1, w_rcv t1, e2]
        rw [if_pos trivial]
        exact step σ2 _ hC2 hR2 (queue_ok hA1)
      rw [if_neg v1]
      by_cases v2 : v = 2
      · rw [if_pos v2]
        obtain ⟨σ1, σ2, e1, t1, e2, hC2, hR2⟩ := law_mut hR (K_call (f := x1) hC hA) (fun σ1 h => R_call hk20 h hA)
        simp only [s1, Option.bind_some, w_rcv o8, e1, w_rcv t1, e2]
        rw [if_pos trivial]
        exact step σ2 _ hC2 hR2 (call_ok hA hk20)
      rw [if_neg v2]
      by_cases v3 : v = 3
      · rw [if_pos v3]
        obtain ⟨σ1, σ2, e1, t1, e2, hC2, hR2⟩ := law_mut hR (K_deliver (f := x1) hC hA) (fun σ1 h => R_deliver hk20 h hA)
        simp only [S_L_law_190, s1, Option.bind_some, w_rcv o8, e1, w_rcv t1, e2]
        rw [if_pos trivial]
        exact step σ2 _ hC2 hR2 (deliver_ok hA1)
      rw [if_neg v3]
      by_cases v4 : v = 4
      · rw [if_pos v4]
        obtain ⟨σ1, σ2, e1, t1, e2, hC2, hR2⟩ := law_mut hR (K_lose (f := x1) hC) (fun σ1 h => R_lose h)
        simp only [s1, Option.bind_some, w_rcv o8, e1, w_rcv t1, e2]
        rw [if_pos trivial]
        exact step σ2 _ hC2 hR2 (lose_ok hA1)
      rw [if_neg v4]
      by_cases v5 : v = 5
      · rw [if_pos v5]
        obtain ⟨σ1, σ2, e1, t1, e2, hC2, hR2⟩ := law_mut hR (K_alter (f := x1) (a := x2) (x := x3) hC hA) (fun σ1 h => R_alter h)
        simp only [s1, s2, s3, Option.bind_some, w_rcv o8, e1, w_rcv t1, e2]
        rw [if_pos trivial]
        exact step σ2 _ hC2 hR2 (alter_ok hA1)
      rw [if_neg v5]
      by_cases v6 : v = 6
      · rw [if_pos v6]
        obtain ⟨σ1, σ2, e1, t1, e2, hC2, hR2⟩ := law_mut hR (K_tick hC hA) (fun σ1 h => R_tick hk20 h hA)
        simp only [Option.bind_some, w_rcv o8, e1, w_rcv t1, e2]
        rw [if_pos trivial]
        exact step σ2 _ hC2 hR2 (ctick_ok hA1)
      rw [if_neg v6]
      by_cases v7 : v = 7
      · rw [if_pos v7]
        obtain ⟨σ1, σ2, e1, t1, e2, hC2, hR2⟩ := law_mut hR (K_crash (f := x1) hC) (fun σ1 h => R_crash h)
        simp only [s1, Option.bind_some, w_rcv o8, e1, w_rcv t1, e2]
        rw [if_pos trivial]
        exact step σ2 _ hC2 hR2 (crash_ok hA1)
      rw [if_neg v7]
      by_cases v8 : v = 8
      · rw [if_pos v8]
        obtain ⟨σ1, σ2, e1, t1, e2, hC2, hR2⟩ := law_mut hR (K_settle (f := x1) hC hA) (fun σ1 h => R_settle hk20 h hA)
        simp only [S_L_law_315, s1, Option.bind_some, w_rcv o8, e1, w_rcv t1, e2]
        rw [if_pos trivial]
        exact step σ2 _ hC2 hR2 (csettle_ok hA1)
      rw [if_neg v8]
      by_cases v9 : v = 9
      · rw [if_pos v9]
        simp only [s1, Option.bind_some, w_rcv o8, K_waiting hC, w_rcv o9, R_waiting hR]
        rw [if_pos trivial]
        exact step σ A hC hR hA1
      rw [if_neg v9]
      by_cases v10 : v = 10
      · rw [if_pos v10]
        simp only [s1, s2, s3, Option.bind_some, w_rcv o8, K_look hC hA, w_rcv o9, R_look hR]
        rw [if_pos trivial]
        exact step σ A hC hR hA1
      rw [if_neg v10]
      by_cases v11 : v = 11
      · rw [if_pos v11]
        simp only [s1, s2, Option.bind_some, w_rcv o8, K_told hC hA, w_rcv o9, R_told hR hA]
        rw [if_pos trivial]
        exact step σ A hC hR hA1
      rw [if_neg v11]
      by_cases v12 : v = 12
      · rw [if_pos v12]
        simp only [s1, s2, Option.bind_some, w_rcv o8, K_queued hC hA, w_rcv o9, R_queued hR hA]
        rw [if_pos trivial]
        exact step σ A hC hR hA1
      rw [if_neg v12]
      by_cases v13 : v = 13
      · rw [if_pos v13]
        simp only [s1, s2, Option.bind_some, w_rcv o8, K_executed hC hA, w_rcv o9, R_executed hR hA]
        rw [if_pos trivial]
        exact step σ A hC hR hA1
      rw [if_neg v13]
      by_cases v14 : v = 14
      · rw [if_pos v14]
        simp only [s1, s2, s3, Option.bind_some, w_rcv o8, K_file hC hA, w_rcv o9, R_file hR hA]
        rw [if_pos trivial]
        exact step σ A hC hR hA1
      rw [if_neg v14]
      by_cases v15 : v = 15
      · rw [if_pos v15]
        simp only [s1, s2, Option.bind_some, w_rcv o8, K_times hC hA, w_rcv o9, R_times hR hA]
        rw [if_pos trivial]
        exact step σ A hC hR hA1
      rw [if_neg v15]
      exact step σ A hC hR hA1
theorem law_ok (L : Nat) (xs : Nat → Int32) (hL : L ≤ 2048) (n : Nat) : ∃ z, S_L_law L xs (hp0 n) = some z ∧ z.2.2.2.1 ≤ n + room_1.cells ∧ z.2.2.2.2 ≤ 0 + room_1.slots := by
  obtain ⟨σ1, σ2, e1, t1, n1, t2, e2, hC, hR⟩ := both (n := n)
  obtain ⟨z, A', k', e3, hC', hA'⟩ := law_loop (xs := xs) hL 512 0 FU 0 σ2 A00 (by omega) (by decide) (by decide) (by decide) hC hR A00_ok
  have n0 : (hp0 n).2.2.2.1 = n := rfl
  rw [show nI 0 = (0 : Int32) from rfl] at e3
  simp only [S_L_law, S_L_law_3, S_L_law_7, S_L_law_11, S_L_law_15, o_nw, n0, Option.bind_some, w_rcv t1, e1, n1, w_rcv t2, e2, e3]
  have cb : ∀ t, t < 2 → cN (A'.1 t) ≤ 286 := fun t ht => by
    obtain ⟨u, v, hu, hv, hvu, hu2, -⟩ := (hA'.1 t ht).1.1.2.2.2.2.2.2.1
    obtain ⟨e, x1, x2, -⟩ := (hA'.1 t ht).1.1.2.2.2.2.2.2.2
    unfold cN
    rw [hu, x2, nI_clamp (by omega), nI_clamp (by omega)]
    omega
  obtain ⟨r1, r2, r3⟩ := (hC'.1 0 (by decide)).1.2.1
  have c0 := cb 0 (by decide)
  have c1 := cb 1 (by decide)
  unfold bB at r2
  unfold bC at r3
  rw [show 1 - 0 = 1 from rfl] at r2 r3
  have hc : 100000 ≤ room_1.cells := by decide
  have hs : 1000000 ≤ room_1.slots := by decide
  exact ⟨z, rfl, by omega, by omega⟩
