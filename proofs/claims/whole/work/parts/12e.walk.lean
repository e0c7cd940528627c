/-! Walks: written by wip/whole/gen/emit.py. X7_init X7_packet X7_dropFirst X7_clear X8_init X8_put X8_isSite X8_queue X8_call X8_handOver X8_deliver X8_packetOn X8_lose X8_alter X8_tick X8_crash X8_settle -/
theorem mo_X7_init_54 {rec36 : hp → Nat → Int32 → Option (hp)} {z : hp} (hm36 : ∀ (σ : hp) (t0 : Nat) (v1 : Int32), rec36 σ t0 v1 = some z → le4 σ z) {σ : hp} {t0 : Nat} {v1 : Int32} {w0 : Option Nat} {w1 : Int32} {w2 : Option Nat} (h : S_X7_init_54 rec36 σ t0 v1 w0 w1 w2 = some z) : le4 σ z := by
  unfold S_X7_init_54 at h
  obtain ⟨s54, e_s54, h⟩ := o_b h
  exact ((e_stQ e_s54).le).tr (hm36 _ _ _ h)
set_option maxHeartbeats 4000000 in
set_option maxRecDepth 100000 in
theorem K_X7_init_54 {p : Program} {l : Launch} {e : Env} {R : Room} {s : State} {m : MethodId} {args : Array Value} {below : List Frame} {meth : Method} {c : Code} {D : va_G} {dA : Nat → ClassId} {base : Nat} {rec36 : hp → Nat → Int32 → Option (hp)} {z : hp} (X : cx p s m args c cX7_init RX7 2 D dA) (hret : meth.sig.returnType = none) (hlk : meth.locks = false) (hR : 2 ≤ R.frames ∧ 41 ≤ R.locals) (hin : meth.name = "<init>") {n0 s0 : Nat} (hRc : z.2.2.2.1 ≤ n0 + R.cells ∧ z.2.2.2.2 ≤ s0 + R.slots) (hm36 : ∀ (σ : hp) (t0 : Nat) (v1 : Int32), rec36 σ t0 v1 = some z → le4 σ z) (hr36 : ∀ (σ : hp) (t0 : Nat) (v1 : Int32) (H : Heap) (locs : List Loc) (ls : Array Slot), n0 ≤ σ.2.2.2.1 ∧ s0 ≤ σ.2.2.2.2 → hw D dA base σ H → hs base s.heap H locs → lk ls 2 [(0, .inr (some t0)), (1, .inl v1)] → rec36 σ t0 v1 = some z → W p l e R s m args below meth c H locs (σ.2.2.2.1 - n0) (σ.2.2.2.2 - s0) (MQ below (qG D dA base none z) args s (z.2.2.2.1 - n0) (z.2.2.2.2 - s0) (fun q => base ≤ q)) (F0 m 36 ls [])) {σ : hp} {t0 : Nat} {v1 : Int32} {w0 : Option Nat} {w1 : Int32} {w2 : Option Nat} {H : Heap} {locs : List Loc} {ls : Array Slot} (hn : n0 ≤ σ.2.2.2.1 ∧ s0 ≤ σ.2.2.2.2) (hh : hw D dA base σ H) (hS : hs base s.heap H locs) (hl : lk ls 2 [(0, .inr (some t0)), (1, .inl v1)]) (h : S_X7_init_54 rec36 σ t0 v1 w0 w1 w2 = some z) : W p l e R s m args below meth c H locs (σ.2.2.2.1 - n0) (σ.2.2.2.2 - s0) (MQ below (qG D dA base none z) args s (z.2.2.2.1 - n0) (z.2.2.2.2 - s0) (fun q => base ≤ q)) (F0 m 54 ls [va_rf w2, .int w1, va_rf w0]) := by
  have hz0 := mo_X7_init_54 hm36 h
  have hcl : σ.2.2.2.1 - n0 ≤ R.cells ∧ σ.2.2.2.2 - s0 ≤ R.slots := by unfold le4 at hz0; omega
  unfold S_X7_init_54 at h
  obtain ⟨s54, e_s54, h⟩ := o_b h
  refine q_stQ (cN := 4) X hh hS (by decide) rfl rfl e_s54 dX7_init_54 (fun H locs hh hS => ?_)
  refine q_iinc (v := (1 : Int32)) (lv' := [(1, .inl (v1 + (1 : Int32))), (0, .inr (some t0))]) X dX7_init_55 hl 1 rfl (by decide) (by decide) rfl (fun ls hl => ?_)
  refine lv_goto (tgt := 36) X.1 X.2.1 dX7_init_58 (by decide) ?_
  have ys54 : eq4 σ s54 := (e_stQ e_s54)
  refine W.cs (cells' := s54.2.2.2.1 - n0) (slots' := s54.2.2.2.2 - s0) (by rw [show s54.2.2.2 = σ.2.2.2 from ys54]) (by rw [show s54.2.2.2 = σ.2.2.2 from ys54]) ?_
  have hn : n0 ≤ s54.2.2.2.1 ∧ s0 ≤ s54.2.2.2.2 := by rw [show s54.2.2.2 = σ.2.2.2 from ys54]; exact hn
  have hcl : s54.2.2.2.1 - n0 ≤ R.cells ∧ s54.2.2.2.2 - s0 ≤ R.slots := by rw [show s54.2.2.2 = σ.2.2.2 from ys54]; exact hcl
  exact hr36 _ _ _ _ _ _ hn hh hS (lk_sub hl [1, 0] rfl) h
theorem mo_X7_init_50 {rec36 : hp → Nat → Int32 → Option (hp)} {z : hp} (hm36 : ∀ (σ : hp) (t0 : Nat) (v1 : Int32), rec36 σ t0 v1 = some z → le4 σ z) {σ : hp} {t0 : Nat} {v1 : Int32} {w0 : Option Nat} {w1 : Int32} {w2 : Option Nat} (h : S_X7_init_50 rec36 σ t0 v1 w0 w1 w2 = some z) : le4 σ z := by
  unfold S_X7_init_50 at h
  obtain ⟨b51, e_b51, h⟩ := o_b h
  obtain ⟨q51, e_q51, h⟩ := o_b h
  exact ((mo_X4_init_0 e_q51)).tr (mo_X7_init_54 hm36 h)
set_option maxHeartbeats 4000000 in
set_option maxRecDepth 100000 in
theorem K_X7_init_50 {p : Program} {l : Launch} {e : Env} {R : Room} {s : State} {m : MethodId} {args : Array Value} {below : List Frame} {meth : Method} {c : Code} {D : va_G} {dA : Nat → ClassId} {base : Nat} {rec36 : hp → Nat → Int32 → Option (hp)} {z : hp} (X : cx p s m args c cX7_init RX7 2 D dA) (hret : meth.sig.returnType = none) (hlk : meth.locks = false) (hR : 2 ≤ R.frames ∧ 41 ≤ R.locals) (hin : meth.name = "<init>") {n0 s0 : Nat} (hRc : z.2.2.2.1 ≤ n0 + R.cells ∧ z.2.2.2.2 ≤ s0 + R.slots) (hm36 : ∀ (σ : hp) (t0 : Nat) (v1 : Int32), rec36 σ t0 v1 = some z → le4 σ z) (hr36 : ∀ (σ : hp) (t0 : Nat) (v1 : Int32) (H : Heap) (locs : List Loc) (ls : Array Slot), n0 ≤ σ.2.2.2.1 ∧ s0 ≤ σ.2.2.2.2 → hw D dA base σ H → hs base s.heap H locs → lk ls 2 [(0, .inr (some t0)), (1, .inl v1)] → rec36 σ t0 v1 = some z → W p l e R s m args below meth c H locs (σ.2.2.2.1 - n0) (σ.2.2.2.2 - s0) (MQ below (qG D dA base none z) args s (z.2.2.2.1 - n0) (z.2.2.2.2 - s0) (fun q => base ≤ q)) (F0 m 36 ls [])) {σ : hp} {t0 : Nat} {v1 : Int32} {w0 : Option Nat} {w1 : Int32} {w2 : Option Nat} {H : Heap} {locs : List Loc} {ls : Array Slot} (hn : n0 ≤ σ.2.2.2.1 ∧ s0 ≤ σ.2.2.2.2) (hh : hw D dA base σ H) (hS : hs base s.heap H locs) (hl : lk ls 2 [(0, .inr (some t0)), (1, .inl v1)]) (h : S_X7_init_50 rec36 σ t0 v1 w0 w1 w2 = some z) : W p l e R s m args below meth c H locs (σ.2.2.2.1 - n0) (σ.2.2.2.2 - s0) (MQ below (qG D dA base none z) args s (z.2.2.2.1 - n0) (z.2.2.2.2 - s0) (fun q => base ≤ q)) (F0 m 50 ls [va_rf w2, .int w1, va_rf w0]) := by
  have hz0 := mo_X7_init_50 hm36 h
  have hcl : σ.2.2.2.1 - n0 ≤ R.cells ∧ σ.2.2.2.2 - s0 ≤ R.slots := by unfold le4 at hz0; omega
  unfold S_X7_init_50 at h
  refine lv_dup X.1 X.2.1 dX7_init_50 (vv_cat (.inr w2)) ?_
  obtain ⟨b51, e_b51, h⟩ := o_b h
  obtain ⟨q51, e_q51, h⟩ := o_b h
  have g51 := mo_X7_init_54 hm36 h
  have f51 := mo_X4_init_0 e_q51
  unfold le4 at g51 f51
  refine q_cN (As := []) X hh hS hl cf_X7_9 e_b51 rfl (M_X4_init l D dA base σ b51  e_q51) ⟨Nat.le_trans (by decide) hR.1, Nat.le_trans (by decide) hR.2⟩ (cat8 [.inr w2, .inl w1, .inr w0] (Nat.le_of_ble_eq_true rfl)) dX7_init_51 ⟨by omega, by omega⟩ rfl (fun H locs hh hS => ?_)
  refine W.cs (cells' := q51.2.2.2.1 - n0) (slots' := q51.2.2.2.2 - s0) (by omega) (by omega) ?_
  have hn : n0 ≤ q51.2.2.2.1 ∧ s0 ≤ q51.2.2.2.2 := by omega
  exact K_X7_init_54 X hret hlk hR hin hRc hm36 hr36 hn hh hS (lk_sub hl [0, 1] rfl) h
theorem mo_X7_init_36_b {rec36 : hp → Nat → Int32 → Option (hp)} {z : hp} (hm36 : ∀ (σ : hp) (t0 : Nat) (v1 : Int32), rec36 σ t0 v1 = some z → le4 σ z) {σ : hp} {t0 : Nat} {v1 : Int32} (h : S_X7_init_36_b rec36 σ t0 v1 = some z) : le4 σ z := by
  unfold S_X7_init_36_b at h
  by_cases c39 : (12 : Int32) ≤ v1
  · rw [if_pos c39] at h
    cases h
    exact le4.rf _
  · rw [if_neg c39] at h
    obtain ⟨t43, e_t43, h⟩ := o_b h
    obtain ⟨q47, e_q47, h⟩ := o_b h
    exact ((m_nw e_q47)).tr (mo_X7_init_50 hm36 h)
theorem mo_X7_init_36 {z : hp} : ∀ (n : Nat) (σ : hp) (t0 : Nat) (v1 : Int32), S_X7_init_36 n σ t0 v1 = some z → le4 σ z := by
  intro n
  induction n with
  | zero => intro σ t0 v1 h; cases h
  | succ n ih => intro σ t0 v1 h; exact mo_X7_init_36_b ih h
set_option maxHeartbeats 4000000 in
set_option maxRecDepth 100000 in
theorem K_X7_init_36_b {p : Program} {l : Launch} {e : Env} {R : Room} {s : State} {m : MethodId} {args : Array Value} {below : List Frame} {meth : Method} {c : Code} {D : va_G} {dA : Nat → ClassId} {base : Nat} {rec36 : hp → Nat → Int32 → Option (hp)} {z : hp} (X : cx p s m args c cX7_init RX7 2 D dA) (hret : meth.sig.returnType = none) (hlk : meth.locks = false) (hR : 2 ≤ R.frames ∧ 41 ≤ R.locals) (hin : meth.name = "<init>") {n0 s0 : Nat} (hRc : z.2.2.2.1 ≤ n0 + R.cells ∧ z.2.2.2.2 ≤ s0 + R.slots) (hm36 : ∀ (σ : hp) (t0 : Nat) (v1 : Int32), rec36 σ t0 v1 = some z → le4 σ z) (hr36 : ∀ (σ : hp) (t0 : Nat) (v1 : Int32) (H : Heap) (locs : List Loc) (ls : Array Slot), n0 ≤ σ.2.2.2.1 ∧ s0 ≤ σ.2.2.2.2 → hw D dA base σ H → hs base s.heap H locs → lk ls 2 [(0, .inr (some t0)), (1, .inl v1)] → rec36 σ t0 v1 = some z → W p l e R s m args below meth c H locs (σ.2.2.2.1 - n0) (σ.2.2.2.2 - s0) (MQ below (qG D dA base none z) args s (z.2.2.2.1 - n0) (z.2.2.2.2 - s0) (fun q => base ≤ q)) (F0 m 36 ls [])) {σ : hp} {t0 : Nat} {v1 : Int32} {H : Heap} {locs : List Loc} {ls : Array Slot} (hn : n0 ≤ σ.2.2.2.1 ∧ s0 ≤ σ.2.2.2.2) (hh : hw D dA base σ H) (hS : hs base s.heap H locs) (hl : lk ls 2 [(0, .inr (some t0)), (1, .inl v1)]) (h : S_X7_init_36_b rec36 σ t0 v1 = some z) : W p l e R s m args below meth c H locs (σ.2.2.2.1 - n0) (σ.2.2.2.2 - s0) (MQ below (qG D dA base none z) args s (z.2.2.2.1 - n0) (z.2.2.2.2 - s0) (fun q => base ≤ q)) (F0 m 36 ls []) := by
  have hz0 := mo_X7_init_36_b hm36 h
  have hcl : σ.2.2.2.1 - n0 ≤ R.cells ∧ σ.2.2.2.2 - s0 ≤ R.slots := by unfold le4 at hz0; omega
  unfold S_X7_init_36_b at h
  refine q_iload_n X dX7_init_36 rfl hl 1 rfl ?_
  refine lv_bipush (v := (12 : Int32)) X.1 X.2.1 dX7_init_37 (by decide) ?_
  refine lv_icmp_ge (tgt := 61) X.1 X.2.1 dX7_init_39 (by decide) (fun c39 => ?_) (fun c39 => ?_)
  · rw [if_pos c39] at h
    cases h
    exact q_vret X hret hlk hh hS dX7_init_61
  · rw [if_neg c39] at h
    refine q_aload_n X dX7_init_42 rfl hl 0 rfl ?_
    obtain ⟨t43, e_t43, h⟩ := o_b h
    refine q_gR X hh fa_X7_23 rfl e_t43 dX7_init_43 ?_
    refine q_iload_n X dX7_init_46 rfl hl 1 rfl ?_
    obtain ⟨q47, e_q47, h⟩ := o_b h
    have g47 := mo_X7_init_50 hm36 h
    have f47 := l_nw e_q47
    unfold le4 at g47
    refine q_nw X hh hS fn_X7_7 e_q47 dX7_init_47 (by omega) (by omega) (fun H hh hS => ?_)
    refine W.cs (cells' := q47.2.2.2.2.1 - n0) (slots' := q47.2.2.2.2.2 - s0) (by omega) (by omega) ?_
    have hn : n0 ≤ q47.2.2.2.2.1 ∧ s0 ≤ q47.2.2.2.2.2 := by omega
    exact K_X7_init_50 X hret hlk hR hin hRc hm36 hr36 hn hh hS (lk_sub hl [0, 1] rfl) h
theorem K_X7_init_36 {p : Program} {l : Launch} {e : Env} {R : Room} {s : State} {m : MethodId} {args : Array Value} {below : List Frame} {meth : Method} {c : Code} {D : va_G} {dA : Nat → ClassId} {base : Nat} {z : hp} (X : cx p s m args c cX7_init RX7 2 D dA) (hret : meth.sig.returnType = none) (hlk : meth.locks = false) (hR : 2 ≤ R.frames ∧ 41 ≤ R.locals) (hin : meth.name = "<init>") {n0 s0 : Nat} (hRc : z.2.2.2.1 ≤ n0 + R.cells ∧ z.2.2.2.2 ≤ s0 + R.slots) : ∀ (n : Nat) (σ : hp) (t0 : Nat) (v1 : Int32) (H : Heap) (locs : List Loc) (ls : Array Slot), n0 ≤ σ.2.2.2.1 ∧ s0 ≤ σ.2.2.2.2 → hw D dA base σ H → hs base s.heap H locs → lk ls 2 [(0, .inr (some t0)), (1, .inl v1)] → S_X7_init_36 n σ t0 v1 = some z → W p l e R s m args below meth c H locs (σ.2.2.2.1 - n0) (σ.2.2.2.2 - s0) (MQ below (qG D dA base none z) args s (z.2.2.2.1 - n0) (z.2.2.2.2 - s0) (fun q => base ≤ q)) (F0 m 36 ls []) := by
  intro n
  induction n with
  | zero => intro σ t0 v1 H locs ls hn hh hS hl h; cases h
  | succ n ih => intro σ t0 v1 H locs ls hn hh hS hl h; exact K_X7_init_36_b X hret hlk hR hin hRc (mo_X7_init_36 n) ih hn hh hS hl h
theorem mo_X7_init_31 {z : hp} {σ : hp} {t0 : Nat} {w0 : Option Nat} {w1 : Option Nat} (h : S_X7_init_31 σ t0 w0 w1 = some z) : le4 σ z := by
  unfold S_X7_init_31 at h
  obtain ⟨s31, e_s31, h⟩ := o_b h
  exact ((e_pR e_s31).le).tr (mo_X7_init_36 FU _ _ _ h)
set_option maxHeartbeats 4000000 in
set_option maxRecDepth 100000 in
theorem K_X7_init_31 {p : Program} {l : Launch} {e : Env} {R : Room} {s : State} {m : MethodId} {args : Array Value} {below : List Frame} {meth : Method} {c : Code} {D : va_G} {dA : Nat → ClassId} {base : Nat} {z : hp} (X : cx p s m args c cX7_init RX7 2 D dA) (hret : meth.sig.returnType = none) (hlk : meth.locks = false) (hR : 2 ≤ R.frames ∧ 41 ≤ R.locals) (hin : meth.name = "<init>") {n0 s0 : Nat} (hRc : z.2.2.2.1 ≤ n0 + R.cells ∧ z.2.2.2.2 ≤ s0 + R.slots) {σ : hp} {t0 : Nat} {w0 : Option Nat} {w1 : Option Nat} {H : Heap} {locs : List Loc} {ls : Array Slot} (hn : n0 ≤ σ.2.2.2.1 ∧ s0 ≤ σ.2.2.2.2) (hh : hw D dA base σ H) (hS : hs base s.heap H locs) (hl : lk ls 2 [(0, .inr (some t0))]) (h : S_X7_init_31 σ t0 w0 w1 = some z) : W p l e R s m args below meth c H locs (σ.2.2.2.1 - n0) (σ.2.2.2.2 - s0) (MQ below (qG D dA base none z) args s (z.2.2.2.1 - n0) (z.2.2.2.2 - s0) (fun q => base ≤ q)) (F0 m 31 ls [va_rf w1, va_rf w0]) := by
  have hz0 := mo_X7_init_31 h
  have hcl : σ.2.2.2.1 - n0 ≤ R.cells ∧ σ.2.2.2.2 - s0 ≤ R.slots := by unfold le4 at hz0; omega
  unfold S_X7_init_31 at h
  obtain ⟨s31, e_s31, h⟩ := o_b h
  refine q_pR X hh hS fp_X7_23 (fun _ => hin) rfl (Or.inr ⟨_, rfl⟩) e_s31 dX7_init_31 (fun H locs hh hS => ?_)
  refine lv_iconst (v := (0 : Int32)) X.1 X.2.1 dX7_init_34 (by decide) ?_
  refine q_istore_n (lv' := [(1, .inl (0 : Int32)), (0, .inr (some t0))]) X dX7_init_35 rfl hl (by decide) rfl (fun ls hl => ?_)
  have ys31 : eq4 σ s31 := (e_pR e_s31)
  refine W.cs (cells' := s31.2.2.2.1 - n0) (slots' := s31.2.2.2.2 - s0) (by rw [show s31.2.2.2 = σ.2.2.2 from ys31]) (by rw [show s31.2.2.2 = σ.2.2.2 from ys31]) ?_
  have hn : n0 ≤ s31.2.2.2.1 ∧ s0 ≤ s31.2.2.2.2 := by rw [show s31.2.2.2 = σ.2.2.2 from ys31]; exact hn
  have hcl : s31.2.2.2.1 - n0 ≤ R.cells ∧ s31.2.2.2.2 - s0 ≤ R.slots := by rw [show s31.2.2.2 = σ.2.2.2 from ys31]; exact hcl
  exact K_X7_init_36 X hret hlk hR hin hRc FU _ _ _ _ _ _ hn hh hS (lk_sub hl [1, 0] rfl) h
theorem mo_X7_init_12 {z : hp} {σ : hp} {t0 : Nat} {w0 : Option Nat} {w1 : Option Nat} (h : S_X7_init_12 σ t0 w0 w1 = some z) : le4 σ z := by
  unfold S_X7_init_12 at h
  obtain ⟨s12, e_s12, h⟩ := o_b h
  obtain ⟨s17, e_s17, h⟩ := o_b h
  obtain ⟨s22, e_s22, h⟩ := o_b h
  obtain ⟨q28, e_q28, h⟩ := o_b h
  exact (((((e_pR e_s12).le).tr (e_pI e_s17).le).tr (e_pI e_s22).le).tr (m_na e_q28)).tr (mo_X7_init_31 h)
set_option maxHeartbeats 4000000 in
set_option maxRecDepth 100000 in
theorem K_X7_init_12 {p : Program} {l : Launch} {e : Env} {R : Room} {s : State} {m : MethodId} {args : Array Value} {below : List Frame} {meth : Method} {c : Code} {D : va_G} {dA : Nat → ClassId} {base : Nat} {z : hp} (X : cx p s m args c cX7_init RX7 2 D dA) (hret : meth.sig.returnType = none) (hlk : meth.locks = false) (hR : 2 ≤ R.frames ∧ 41 ≤ R.locals) (hin : meth.name = "<init>") {n0 s0 : Nat} (hRc : z.2.2.2.1 ≤ n0 + R.cells ∧ z.2.2.2.2 ≤ s0 + R.slots) {σ : hp} {t0 : Nat} {w0 : Option Nat} {w1 : Option Nat} {H : Heap} {locs : List Loc} {ls : Array Slot} (hn : n0 ≤ σ.2.2.2.1 ∧ s0 ≤ σ.2.2.2.2) (hh : hw D dA base σ H) (hS : hs base s.heap H locs) (hl : lk ls 2 [(0, .inr (some t0))]) (h : S_X7_init_12 σ t0 w0 w1 = some z) : W p l e R s m args below meth c H locs (σ.2.2.2.1 - n0) (σ.2.2.2.2 - s0) (MQ below (qG D dA base none z) args s (z.2.2.2.1 - n0) (z.2.2.2.2 - s0) (fun q => base ≤ q)) (F0 m 12 ls [va_rf w1, va_rf w0]) := by
  have hz0 := mo_X7_init_12 h
  have hcl : σ.2.2.2.1 - n0 ≤ R.cells ∧ σ.2.2.2.2 - s0 ≤ R.slots := by unfold le4 at hz0; omega
  unfold S_X7_init_12 at h
  obtain ⟨s12, e_s12, h⟩ := o_b h
  refine q_pR X hh hS fp_X7_10 (fun _ => hin) rfl (Or.inl ⟨_, rfl⟩) e_s12 dX7_init_12 (fun H locs hh hS => ?_)
  refine q_aload_n X dX7_init_15 rfl hl 0 rfl ?_
  refine lv_iconst (v := (0 : Int32)) X.1 X.2.1 dX7_init_16 (by decide) ?_
  obtain ⟨s17, e_s17, h⟩ := o_b h
  refine q_pI X hh hS fp_X7_16 (fun h => by cases h) rfl e_s17 dX7_init_17 (fun H locs hh hS => ?_)
  refine q_aload_n X dX7_init_20 rfl hl 0 rfl ?_
  refine lv_iconst (v := (0 : Int32)) X.1 X.2.1 dX7_init_21 (by decide) ?_
  obtain ⟨s22, e_s22, h⟩ := o_b h
  refine q_pI X hh hS fp_X7_20 (fun h => by cases h) rfl e_s22 dX7_init_22 (fun H locs hh hS => ?_)
  refine q_aload_n X dX7_init_25 rfl hl 0 rfl ?_
  refine lv_bipush (v := (12 : Int32)) X.1 X.2.1 dX7_init_26 (by decide) ?_
  obtain ⟨q28, e_q28, h⟩ := o_b h
  have ys22 : eq4 σ s22 := (((e_pR e_s12)).tr (e_pI e_s17)).tr (e_pI e_s22)
  refine W.cs (cells' := s22.2.2.2.1 - n0) (slots' := s22.2.2.2.2 - s0) (by rw [show s22.2.2.2 = σ.2.2.2 from ys22]) (by rw [show s22.2.2.2 = σ.2.2.2 from ys22]) ?_
  have hn : n0 ≤ s22.2.2.2.1 ∧ s0 ≤ s22.2.2.2.2 := by rw [show s22.2.2.2 = σ.2.2.2 from ys22]; exact hn
  have hcl : s22.2.2.2.1 - n0 ≤ R.cells ∧ s22.2.2.2.2 - s0 ≤ R.slots := by rw [show s22.2.2.2 = σ.2.2.2 from ys22]; exact hcl
  have g28 := mo_X7_init_31 h
  have f28 := l_na e_q28
  unfold le4 at g28
  refine q_naQ (t := 3) X hh hS (by decide) rfl (gm 28 (by decide +kernel) rfl) (by decide) e_q28 dX7_init_28 (by omega) (by omega) (fun H hh hS => ?_)
  refine W.cs (cells' := q28.2.2.2.2.1 - n0) (slots' := q28.2.2.2.2.2 - s0) (by omega) (by omega) ?_
  have hn : n0 ≤ q28.2.2.2.2.1 ∧ s0 ≤ q28.2.2.2.2.2 := by omega
  exact K_X7_init_31 X hret hlk hR hin hRc hn hh hS (lk_sub hl [0] rfl) h
theorem mo_X7_init_8 {z : hp} {σ : hp} {t0 : Nat} {w0 : Option Nat} {w1 : Option Nat} (h : S_X7_init_8 σ t0 w0 w1 = some z) : le4 σ z := by
  unfold S_X7_init_8 at h
  obtain ⟨b9, e_b9, h⟩ := o_b h
  obtain ⟨q9, e_q9, h⟩ := o_b h
  exact ((mo_X4_init_0 e_q9)).tr (mo_X7_init_12 h)
set_option maxHeartbeats 4000000 in
set_option maxRecDepth 100000 in
theorem K_X7_init_8 {p : Program} {l : Launch} {e : Env} {R : Room} {s : State} {m : MethodId} {args : Array Value} {below : List Frame} {meth : Method} {c : Code} {D : va_G} {dA : Nat → ClassId} {base : Nat} {z : hp} (X : cx p s m args c cX7_init RX7 2 D dA) (hret : meth.sig.returnType = none) (hlk : meth.locks = false) (hR : 2 ≤ R.frames ∧ 41 ≤ R.locals) (hin : meth.name = "<init>") {n0 s0 : Nat} (hRc : z.2.2.2.1 ≤ n0 + R.cells ∧ z.2.2.2.2 ≤ s0 + R.slots) {σ : hp} {t0 : Nat} {w0 : Option Nat} {w1 : Option Nat} {H : Heap} {locs : List Loc} {ls : Array Slot} (hn : n0 ≤ σ.2.2.2.1 ∧ s0 ≤ σ.2.2.2.2) (hh : hw D dA base σ H) (hS : hs base s.heap H locs) (hl : lk ls 2 [(0, .inr (some t0))]) (h : S_X7_init_8 σ t0 w0 w1 = some z) : W p l e R s m args below meth c H locs (σ.2.2.2.1 - n0) (σ.2.2.2.2 - s0) (MQ below (qG D dA base none z) args s (z.2.2.2.1 - n0) (z.2.2.2.2 - s0) (fun q => base ≤ q)) (F0 m 8 ls [va_rf w1, va_rf w0]) := by
  have hz0 := mo_X7_init_8 h
  have hcl : σ.2.2.2.1 - n0 ≤ R.cells ∧ σ.2.2.2.2 - s0 ≤ R.slots := by unfold le4 at hz0; omega
  unfold S_X7_init_8 at h
  refine lv_dup X.1 X.2.1 dX7_init_8 (vv_cat (.inr w1)) ?_
  obtain ⟨b9, e_b9, h⟩ := o_b h
  obtain ⟨q9, e_q9, h⟩ := o_b h
  have g9 := mo_X7_init_12 h
  have f9 := mo_X4_init_0 e_q9
  unfold le4 at g9 f9
  refine q_cN (As := []) X hh hS hl cf_X7_9 e_b9 rfl (M_X4_init l D dA base σ b9  e_q9) ⟨Nat.le_trans (by decide) hR.1, Nat.le_trans (by decide) hR.2⟩ (cat8 [.inr w1, .inr w0] (Nat.le_of_ble_eq_true rfl)) dX7_init_9 ⟨by omega, by omega⟩ rfl (fun H locs hh hS => ?_)
  refine W.cs (cells' := q9.2.2.2.1 - n0) (slots' := q9.2.2.2.2 - s0) (by omega) (by omega) ?_
  have hn : n0 ≤ q9.2.2.2.1 ∧ s0 ≤ q9.2.2.2.2 := by omega
  exact K_X7_init_12 X hret hlk hR hin hRc hn hh hS (lk_sub hl [0] rfl) h
theorem mo_X7_init_0 {z : hp} {σ : hp} {t0 : Nat} (h : S_X7_init σ t0 = some z) : le4 σ z := by
  unfold S_X7_init at h
  obtain ⟨q5, e_q5, h⟩ := o_b h
  exact ((m_nw e_q5)).tr (mo_X7_init_8 h)
set_option maxHeartbeats 4000000 in
set_option maxRecDepth 100000 in
theorem K_X7_init_0 {p : Program} {l : Launch} {e : Env} {R : Room} {s : State} {m : MethodId} {args : Array Value} {below : List Frame} {meth : Method} {c : Code} {D : va_G} {dA : Nat → ClassId} {base : Nat} {z : hp} (X : cx p s m args c cX7_init RX7 2 D dA) (hret : meth.sig.returnType = none) (hlk : meth.locks = false) (hR : 2 ≤ R.frames ∧ 41 ≤ R.locals) (hin : meth.name = "<init>") {n0 s0 : Nat} (hRc : z.2.2.2.1 ≤ n0 + R.cells ∧ z.2.2.2.2 ≤ s0 + R.slots) {σ : hp} {t0 : Nat} {H : Heap} {locs : List Loc} {ls : Array Slot} (hn : n0 ≤ σ.2.2.2.1 ∧ s0 ≤ σ.2.2.2.2) (hh : hw D dA base σ H) (hS : hs base s.heap H locs) (hl : lk ls 2 [(0, .inr (some t0))]) (h : S_X7_init σ t0 = some z) : W p l e R s m args below meth c H locs (σ.2.2.2.1 - n0) (σ.2.2.2.2 - s0) (MQ below (qG D dA base none z) args s (z.2.2.2.1 - n0) (z.2.2.2.2 - s0) (fun q => base ≤ q)) (F0 m 0 ls []) := by
  have hz0 := mo_X7_init_0 h
  have hcl : σ.2.2.2.1 - n0 ≤ R.cells ∧ σ.2.2.2.2 - s0 ≤ R.slots := by unfold le4 at hz0; omega
  unfold S_X7_init at h
  refine q_aload_n X dX7_init_0 rfl hl 0 rfl ?_
  refine q_objInit X hl cj_X7_1 gj_o1 gj_o2 dX7_init_1 ⟨Nat.le_trans (by decide) hR.1, Nat.le_trans (by decide) hR.2⟩ (cat8 [] (Nat.le_of_ble_eq_true rfl)) ?_
  refine q_aload_n X dX7_init_4 rfl hl 0 rfl ?_
  obtain ⟨q5, e_q5, h⟩ := o_b h
  have g5 := mo_X7_init_8 h
  have f5 := l_nw e_q5
  unfold le4 at g5
  refine q_nw X hh hS fn_X7_7 e_q5 dX7_init_5 (by omega) (by omega) (fun H hh hS => ?_)
  refine W.cs (cells' := q5.2.2.2.2.1 - n0) (slots' := q5.2.2.2.2.2 - s0) (by omega) (by omega) ?_
  have hn : n0 ≤ q5.2.2.2.2.1 ∧ s0 ≤ q5.2.2.2.2.2 := by omega
  exact K_X7_init_8 X hret hlk hR hin hRc hn hh hS (lk_sub hl [0] rfl) h
set_option maxRecDepth 100000 in
theorem M_X7_init (l : Launch) (D : va_G) (dA : Nat → ClassId) (base : Nat) (σ : hp) (t0 : Nat) {z : hp} (h : S_X7_init σ t0 = some z) : mt l yX7_init cX7_init 2 (none) 2 41 D dA base σ [.ref t0] none z (z.2.2.2.1 - σ.2.2.2.1) (z.2.2.2.2 - σ.2.2.2.2) := by
  have hzz := mo_X7_init_0 h
  unfold le4 at hzz
  refine Met.ofW (cc := cX7_init) (maxL := 2) (ret := none) (by decide) rfl ?_
  intro p e s m args below meth c s₁ B hml hv
  obtain ⟨rfl, hh, hK⟩ := hv
  have X : cx p s m ([.ref t0] : List Value).toArray c cX7_init RX7 2 D dA := ⟨B.exec, B.bytes, findClass_of_methodNamed B.named, hml, fun w hw => atoms_spec (ws := .code yX7_init cX7_init 2 (none) :: G) B.pre w (List.mem_cons_of_mem _ hw), hK⟩
  have hl := lk_entry [.inr (some t0)] (n := 2) (Nat.le_of_ble_eq_true rfl)
  rw [lg_entry_eq]
  have hl : lk ((lg_sl ([.ref t0] : List Value) ++ List.replicate (2 - (lg_sl ([.ref t0] : List Value)).length) Slot.unset).toArray) 2 [(0, .inr (some t0))] := hl
  generalize (lg_sl ([.ref t0] : List Value) ++ List.replicate (2 - (lg_sl ([.ref t0] : List Value)).length) Slot.unset).toArray = ls at hl ⊢
  refine W.cs (cells' := σ.2.2.2.1 - σ.2.2.2.1) (slots' := σ.2.2.2.2 - σ.2.2.2.2) (Nat.sub_self _).symm (Nat.sub_self _).symm ?_
  exact K_X7_init_0 X B.returns B.notSynchronized ⟨Nat.le_refl _, Nat.le_refl _⟩ (name_of_methodNamed B.named B.method).1 (n0 := σ.2.2.2.1) (s0 := σ.2.2.2.2) ⟨by show _ ≤ _ + (_ - _); omega, by show _ ≤ _ + (_ - _); omega⟩ ⟨Nat.le_refl _, Nat.le_refl _⟩ hh va_S.rf hl h
set_option maxHeartbeats 4000000 in
set_option maxRecDepth 100000 in
theorem K_X7_packet_30 {p : Program} {l : Launch} {e : Env} {R : Room} {s : State} {m : MethodId} {args : Array Value} {below : List Frame} {meth : Method} {c : Code} {D : va_G} {dA : Nat → ClassId} {base : Nat} {z : Option Nat} (X : cx p s m args c cX7_packet RX7 2 D dA) (hret : meth.sig.returnType = some (.object "SpoolLink$Packet")) (hlk : meth.locks = false) (hR : 0 ≤ R.frames ∧ 0 ≤ R.locals) {σ : hp} {w0 : Option Nat} {H : Heap} {locs : List Loc} {ls : Array Slot} (hh : hw D dA base σ H) (hS : hs base s.heap H locs) (hl : lk ls 2 []) (h : S_X7_packet_30 σ w0 = some z) : W p l e R s m args below meth c H locs 0 0 (MQ below (qG D dA base (some (va_rf z)) σ) args s 0 0 (fun q => base ≤ q)) (F0 m 30 ls [va_rf w0]) := by
  unfold S_X7_packet_30 at h
  cases h
  exact q_aret X hret hlk hh hS dX7_packet_30
set_option maxHeartbeats 4000000 in
set_option maxRecDepth 100000 in
theorem K_X7_packet_29 {p : Program} {l : Launch} {e : Env} {R : Room} {s : State} {m : MethodId} {args : Array Value} {below : List Frame} {meth : Method} {c : Code} {D : va_G} {dA : Nat → ClassId} {base : Nat} {z : Option Nat} (X : cx p s m args c cX7_packet RX7 2 D dA) (hret : meth.sig.returnType = some (.object "SpoolLink$Packet")) (hlk : meth.locks = false) (hR : 0 ≤ R.frames ∧ 0 ≤ R.locals) {σ : hp} {H : Heap} {locs : List Loc} {ls : Array Slot} (hh : hw D dA base σ H) (hS : hs base s.heap H locs) (hl : lk ls 2 []) (h : S_X7_packet_29 σ = some z) : W p l e R s m args below meth c H locs 0 0 (MQ below (qG D dA base (some (va_rf z)) σ) args s 0 0 (fun q => base ≤ q)) (F0 m 29 ls []) := by
  unfold S_X7_packet_29 at h
  refine q_nul X dX7_packet_29 ?_
  exact K_X7_packet_30 X hret hlk hR hh hS (lk_sub hl [] rfl) h
set_option maxHeartbeats 4000000 in
set_option maxRecDepth 100000 in
theorem K_X7_packet_0 {p : Program} {l : Launch} {e : Env} {R : Room} {s : State} {m : MethodId} {args : Array Value} {below : List Frame} {meth : Method} {c : Code} {D : va_G} {dA : Nat → ClassId} {base : Nat} {z : Option Nat} (X : cx p s m args c cX7_packet RX7 2 D dA) (hret : meth.sig.returnType = some (.object "SpoolLink$Packet")) (hlk : meth.locks = false) (hR : 0 ≤ R.frames ∧ 0 ≤ R.locals) {σ : hp} {t0 : Nat} {v1 : Int32} {H : Heap} {locs : List Loc} {ls : Array Slot} (hh : hw D dA base σ H) (hS : hs base s.heap H locs) (hl : lk ls 2 [(0, .inr (some t0)), (1, .inl v1)]) (h : S_X7_packet σ t0 v1 = some z) : W p l e R s m args below meth c H locs 0 0 (MQ below (qG D dA base (some (va_rf z)) σ) args s 0 0 (fun q => base ≤ q)) (F0 m 0 ls []) := by
  unfold S_X7_packet at h
  refine q_iload_n X dX7_packet_0 rfl hl 1 rfl ?_
  refine lv_if_lt (tgt := 29) X.1 X.2.1 dX7_packet_1 (by decide) (fun c1 => ?_) (fun c1 => ?_)
  · rw [if_pos c1] at h
    exact K_X7_packet_29 X hret hlk hR hh hS (lk_sub hl [] rfl) h
  · rw [if_neg c1] at h
    refine q_iload_n X dX7_packet_4 rfl hl 1 rfl ?_
    refine q_aload_n X dX7_packet_5 rfl hl 0 rfl ?_
    obtain ⟨t6, e_t6, h⟩ := o_b h
    refine q_gI X hh fa_X7_20 rfl e_t6 dX7_packet_6 ?_
    refine lv_icmp_ge (tgt := 29) X.1 X.2.1 dX7_packet_9 (by decide) (fun c9 => ?_) (fun c9 => ?_)
    · rw [if_pos c9] at h
      exact K_X7_packet_29 X hret hlk hR hh hS (lk_sub hl [] rfl) h
    · rw [if_neg c9] at h
      refine q_aload_n X dX7_packet_12 rfl hl 0 rfl ?_
      obtain ⟨t13, e_t13, h⟩ := o_b h
      refine q_gR X hh fa_X7_23 rfl e_t13 dX7_packet_13 ?_
      refine q_aload_n X dX7_packet_16 rfl hl 0 rfl ?_
      obtain ⟨t17, e_t17, h⟩ := o_b h
      refine q_gI X hh fa_X7_16 rfl e_t17 dX7_packet_17 ?_
      refine q_iload_n X dX7_packet_20 rfl hl 1 rfl ?_
      refine lv_iadd X.1 X.2.1 dX7_packet_21 ?_
      refine lv_bipush (v := (12 : Int32)) X.1 X.2.1 dX7_packet_22 (by decide) ?_
      refine lv_irem X.1 X.2.1 dX7_packet_24 (by decide) ?_
      obtain ⟨t25, e_t25, h⟩ := o_b h
      refine q_ldQ X hh (by decide) rfl e_t25 dX7_packet_25 ?_
      refine lv_goto (tgt := 30) X.1 X.2.1 dX7_packet_26 (by decide) ?_
      exact K_X7_packet_30 X hret hlk hR hh hS (lk_sub hl [] rfl) h
set_option maxRecDepth 100000 in
theorem M_X7_packet (l : Launch) (D : va_G) (dA : Nat → ClassId) (base : Nat) (σ : hp) (t0 : Nat) (v1 : Int32) {z : Option Nat} (h : S_X7_packet σ t0 v1 = some z) : mt l yX7_packet cX7_packet 2 (some (.object "SpoolLink$Packet")) 0 0 D dA base σ [.ref t0, .int v1] (some (va_rf z)) σ 0 0 := by
  refine Met.ofW (cc := cX7_packet) (maxL := 2) (ret := some (.object "SpoolLink$Packet")) (by decide) rfl ?_
  intro p e s m args below meth c s₁ B hml hv
  obtain ⟨rfl, hh, hK⟩ := hv
  have X : cx p s m ([.ref t0, .int v1] : List Value).toArray c cX7_packet RX7 2 D dA := ⟨B.exec, B.bytes, findClass_of_methodNamed B.named, hml, fun w hw => atoms_spec (ws := .code yX7_packet cX7_packet 2 (some (.object "SpoolLink$Packet")) :: G) B.pre w (List.mem_cons_of_mem _ hw), hK⟩
  have hl := lk_entry [.inr (some t0), .inl v1] (n := 2) (Nat.le_of_ble_eq_true rfl)
  rw [lg_entry_eq]
  have hl : lk ((lg_sl ([.ref t0, .int v1] : List Value) ++ List.replicate (2 - (lg_sl ([.ref t0, .int v1] : List Value)).length) Slot.unset).toArray) 2 [(0, .inr (some t0)), (1, .inl v1)] := hl
  generalize (lg_sl ([.ref t0, .int v1] : List Value) ++ List.replicate (2 - (lg_sl ([.ref t0, .int v1] : List Value)).length) Slot.unset).toArray = ls at hl ⊢
  exact K_X7_packet_0 X B.returns B.notSynchronized ⟨Nat.le_refl _, Nat.le_refl _⟩ hh va_S.rf hl h
theorem ke_X7_dropFirst_30 {z : hp} {σ : hp} (h : S_X7_dropFirst_30 σ = some z) : eq4 σ z := by
  unfold S_X7_dropFirst_30 at h
  cases h
  exact eq4.rf _
set_option maxHeartbeats 4000000 in
set_option maxRecDepth 100000 in
theorem K_X7_dropFirst_30 {p : Program} {l : Launch} {e : Env} {R : Room} {s : State} {m : MethodId} {args : Array Value} {below : List Frame} {meth : Method} {c : Code} {D : va_G} {dA : Nat → ClassId} {base : Nat} {z : hp} (X : cx p s m args c cX7_dropFirst RX7 1 D dA) (hret : meth.sig.returnType = none) (hlk : meth.locks = false) (hR : 0 ≤ R.frames ∧ 0 ≤ R.locals) {σ : hp} {H : Heap} {locs : List Loc} {ls : Array Slot} (hh : hw D dA base σ H) (hS : hs base s.heap H locs) (hl : lk ls 1 []) (h : S_X7_dropFirst_30 σ = some z) : W p l e R s m args below meth c H locs 0 0 (MQ below (qG D dA base none z) args s 0 0 (fun q => base ≤ q)) (F0 m 30 ls []) := by
  unfold S_X7_dropFirst_30 at h
  cases h
  exact q_vret X hret hlk hh hS dX7_dropFirst_30
theorem ke_X7_dropFirst_0 {z : hp} {σ : hp} {t0 : Nat} (h : S_X7_dropFirst σ t0 = some z) : eq4 σ z := by
  unfold S_X7_dropFirst at h
  obtain ⟨t1, e_t1, h⟩ := o_b h
  by_cases c4 : t1 ≤ (0 : Int32)
  · rw [if_pos c4] at h
    exact (ke_X7_dropFirst_30 h)
  · rw [if_neg c4] at h
    obtain ⟨t9, e_t9, h⟩ := o_b h
    obtain ⟨s17, e_s17, h⟩ := o_b h
    obtain ⟨t22, e_t22, h⟩ := o_b h
    obtain ⟨s27, e_s27, h⟩ := o_b h
    exact (((e_pI e_s17)).tr (e_pI e_s27)).tr (ke_X7_dropFirst_30 h)
set_option maxHeartbeats 4000000 in
set_option maxRecDepth 100000 in
theorem K_X7_dropFirst_0 {p : Program} {l : Launch} {e : Env} {R : Room} {s : State} {m : MethodId} {args : Array Value} {below : List Frame} {meth : Method} {c : Code} {D : va_G} {dA : Nat → ClassId} {base : Nat} {z : hp} (X : cx p s m args c cX7_dropFirst RX7 1 D dA) (hret : meth.sig.returnType = none) (hlk : meth.locks = false) (hR : 0 ≤ R.frames ∧ 0 ≤ R.locals) {σ : hp} {t0 : Nat} {H : Heap} {locs : List Loc} {ls : Array Slot} (hh : hw D dA base σ H) (hS : hs base s.heap H locs) (hl : lk ls 1 [(0, .inr (some t0))]) (h : S_X7_dropFirst σ t0 = some z) : W p l e R s m args below meth c H locs 0 0 (MQ below (qG D dA base none z) args s 0 0 (fun q => base ≤ q)) (F0 m 0 ls []) := by
  unfold S_X7_dropFirst at h
  refine q_aload_n X dX7_dropFirst_0 rfl hl 0 rfl ?_
  obtain ⟨t1, e_t1, h⟩ := o_b h
  refine q_gI X hh fa_X7_20 rfl e_t1 dX7_dropFirst_1 ?_
  refine lv_if_le (tgt := 30) X.1 X.2.1 dX7_dropFirst_4 (by decide) (fun c4 => ?_) (fun c4 => ?_)
  · rw [if_pos c4] at h
    exact K_X7_dropFirst_30 X hret hlk hR hh hS (lk_sub hl [] rfl) h
  · rw [if_neg c4] at h
    refine q_aload_n X dX7_dropFirst_7 rfl hl 0 rfl ?_
    refine q_aload_n X dX7_dropFirst_8 rfl hl 0 rfl ?_
    obtain ⟨t9, e_t9, h⟩ := o_b h
    refine q_gI X hh fa_X7_16 rfl e_t9 dX7_dropFirst_9 ?_
    refine lv_iconst (v := (1 : Int32)) X.1 X.2.1 dX7_dropFirst_12 (by decide) ?_
    refine lv_iadd X.1 X.2.1 dX7_dropFirst_13 ?_
    refine lv_bipush (v := (12 : Int32)) X.1 X.2.1 dX7_dropFirst_14 (by decide) ?_
    refine lv_irem X.1 X.2.1 dX7_dropFirst_16 (by decide) ?_
    obtain ⟨s17, e_s17, h⟩ := o_b h
    refine q_pI X hh hS fp_X7_16 (fun h => by cases h) rfl e_s17 dX7_dropFirst_17 (fun H locs hh hS => ?_)
    refine q_aload_n X dX7_dropFirst_20 rfl hl 0 rfl ?_
    refine lv_dup X.1 X.2.1 dX7_dropFirst_21 (vv_cat (.inr (some t0))) ?_
    obtain ⟨t22, e_t22, h⟩ := o_b h
    refine q_gI X hh fa_X7_20 rfl e_t22 dX7_dropFirst_22 ?_
    refine lv_iconst (v := (1 : Int32)) X.1 X.2.1 dX7_dropFirst_25 (by decide) ?_
    refine lv_isub X.1 X.2.1 dX7_dropFirst_26 ?_
    obtain ⟨s27, e_s27, h⟩ := o_b h
    refine q_pI X hh hS fp_X7_20 (fun h => by cases h) rfl e_s27 dX7_dropFirst_27 (fun H locs hh hS => ?_)
    exact K_X7_dropFirst_30 X hret hlk hR hh hS (lk_sub hl [] rfl) h
set_option maxRecDepth 100000 in
theorem M_X7_dropFirst (l : Launch) (D : va_G) (dA : Nat → ClassId) (base : Nat) (σ : hp) (t0 : Nat) {z : hp} (h : S_X7_dropFirst σ t0 = some z) : mt l yX7_dropFirst cX7_dropFirst 1 (none) 0 0 D dA base σ [.ref t0] none z 0 0 := by
  refine Met.ofW (cc := cX7_dropFirst) (maxL := 1) (ret := none) (by decide) rfl ?_
  intro p e s m args below meth c s₁ B hml hv
  obtain ⟨rfl, hh, hK⟩ := hv
  have X : cx p s m ([.ref t0] : List Value).toArray c cX7_dropFirst RX7 1 D dA := ⟨B.exec, B.bytes, findClass_of_methodNamed B.named, hml, fun w hw => atoms_spec (ws := .code yX7_dropFirst cX7_dropFirst 1 (none) :: G) B.pre w (List.mem_cons_of_mem _ hw), hK⟩
  have hl := lk_entry [.inr (some t0)] (n := 1) (Nat.le_of_ble_eq_true rfl)
  rw [lg_entry_eq]
  have hl : lk ((lg_sl ([.ref t0] : List Value) ++ List.replicate (1 - (lg_sl ([.ref t0] : List Value)).length) Slot.unset).toArray) 1 [(0, .inr (some t0))] := hl
  generalize (lg_sl ([.ref t0] : List Value) ++ List.replicate (1 - (lg_sl ([.ref t0] : List Value)).length) Slot.unset).toArray = ls at hl ⊢
  exact K_X7_dropFirst_0 X B.returns B.notSynchronized ⟨Nat.le_refl _, Nat.le_refl _⟩ hh va_S.rf hl h
theorem ke_X7_clear_0 {z : hp} {σ : hp} {t0 : Nat} (h : S_X7_clear σ t0 = some z) : eq4 σ z := by
  unfold S_X7_clear at h
  obtain ⟨s2, e_s2, h⟩ := o_b h
  cases h
  exact (e_pI e_s2)
set_option maxHeartbeats 4000000 in
set_option maxRecDepth 100000 in
theorem K_X7_clear_0 {p : Program} {l : Launch} {e : Env} {R : Room} {s : State} {m : MethodId} {args : Array Value} {below : List Frame} {meth : Method} {c : Code} {D : va_G} {dA : Nat → ClassId} {base : Nat} {z : hp} (X : cx p s m args c cX7_clear RX7 1 D dA) (hret : meth.sig.returnType = none) (hlk : meth.locks = false) (hR : 0 ≤ R.frames ∧ 0 ≤ R.locals) {σ : hp} {t0 : Nat} {H : Heap} {locs : List Loc} {ls : Array Slot} (hh : hw D dA base σ H) (hS : hs base s.heap H locs) (hl : lk ls 1 [(0, .inr (some t0))]) (h : S_X7_clear σ t0 = some z) : W p l e R s m args below meth c H locs 0 0 (MQ below (qG D dA base none z) args s 0 0 (fun q => base ≤ q)) (F0 m 0 ls []) := by
  unfold S_X7_clear at h
  refine q_aload_n X dX7_clear_0 rfl hl 0 rfl ?_
  refine lv_iconst (v := (0 : Int32)) X.1 X.2.1 dX7_clear_1 (by decide) ?_
  obtain ⟨s2, e_s2, h⟩ := o_b h
  refine q_pI X hh hS fp_X7_20 (fun h => by cases h) rfl e_s2 dX7_clear_2 (fun H locs hh hS => ?_)
  cases h
  exact q_vret X hret hlk hh hS dX7_clear_5
set_option maxRecDepth 100000 in
theorem M_X7_clear (l : Launch) (D : va_G) (dA : Nat → ClassId) (base : Nat) (σ : hp) (t0 : Nat) {z : hp} (h : S_X7_clear σ t0 = some z) : mt l yX7_clear cX7_clear 1 (none) 0 0 D dA base σ [.ref t0] none z 0 0 := by
  refine Met.ofW (cc := cX7_clear) (maxL := 1) (ret := none) (by decide) rfl ?_
  intro p e s m args below meth c s₁ B hml hv
  obtain ⟨rfl, hh, hK⟩ := hv
  have X : cx p s m ([.ref t0] : List Value).toArray c cX7_clear RX7 1 D dA := ⟨B.exec, B.bytes, findClass_of_methodNamed B.named, hml, fun w hw => atoms_spec (ws := .code yX7_clear cX7_clear 1 (none) :: G) B.pre w (List.mem_cons_of_mem _ hw), hK⟩
  have hl := lk_entry [.inr (some t0)] (n := 1) (Nat.le_of_ble_eq_true rfl)
  rw [lg_entry_eq]
  have hl : lk ((lg_sl ([.ref t0] : List Value) ++ List.replicate (1 - (lg_sl ([.ref t0] : List Value)).length) Slot.unset).toArray) 1 [(0, .inr (some t0))] := hl
  generalize (lg_sl ([.ref t0] : List Value) ++ List.replicate (1 - (lg_sl ([.ref t0] : List Value)).length) Slot.unset).toArray = ls at hl ⊢
  exact K_X7_clear_0 X B.returns B.notSynchronized ⟨Nat.le_refl _, Nat.le_refl _⟩ hh va_S.rf hl h
theorem mo_X8_init_79 {z : hp} {σ : hp} {t0 : Nat} {w0 : Option Nat} {w1 : Option Nat} (h : S_X8_init_79 σ t0 w0 w1 = some z) : le4 σ z := by
  unfold S_X8_init_79 at h
  obtain ⟨s79, e_s79, h⟩ := o_b h
  obtain ⟨s84, e_s84, h⟩ := o_b h
  cases h
  exact ((e_pR e_s79).le).tr (e_pI e_s84).le
set_option maxHeartbeats 4000000 in
set_option maxRecDepth 100000 in
theorem K_X8_init_79 {p : Program} {l : Launch} {e : Env} {R : Room} {s : State} {m : MethodId} {args : Array Value} {below : List Frame} {meth : Method} {c : Code} {D : va_G} {dA : Nat → ClassId} {base : Nat} {z : hp} (X : cx p s m args c cX8_init RX8 1 D dA) (hret : meth.sig.returnType = none) (hlk : meth.locks = false) (hR : 4 ≤ R.frames ∧ 84 ≤ R.locals) (hin : meth.name = "<init>") {n0 s0 : Nat} (hRc : z.2.2.2.1 ≤ n0 + R.cells ∧ z.2.2.2.2 ≤ s0 + R.slots) {σ : hp} {t0 : Nat} {w0 : Option Nat} {w1 : Option Nat} {H : Heap} {locs : List Loc} {ls : Array Slot} (hn : n0 ≤ σ.2.2.2.1 ∧ s0 ≤ σ.2.2.2.2) (hh : hw D dA base σ H) (hS : hs base s.heap H locs) (hl : lk ls 1 [(0, .inr (some t0))]) (h : S_X8_init_79 σ t0 w0 w1 = some z) : W p l e R s m args below meth c H locs (σ.2.2.2.1 - n0) (σ.2.2.2.2 - s0) (MQ below (qG D dA base none z) args s (z.2.2.2.1 - n0) (z.2.2.2.2 - s0) (fun q => base ≤ q)) (F0 m 79 ls [va_rf w1, va_rf w0]) := by
  have hz0 := mo_X8_init_79 h
  have hcl : σ.2.2.2.1 - n0 ≤ R.cells ∧ σ.2.2.2.2 - s0 ≤ R.slots := by unfold le4 at hz0; omega
  unfold S_X8_init_79 at h
  obtain ⟨s79, e_s79, h⟩ := o_b h
  refine q_pR X hh hS fp_X8_25 (fun _ => hin) rfl (Or.inr ⟨_, rfl⟩) e_s79 dX8_init_79 (fun H locs hh hS => ?_)
  refine q_aload_n X dX8_init_82 rfl hl 0 rfl ?_
  refine lv_iconst (v := (0 : Int32)) X.1 X.2.1 dX8_init_83 (by decide) ?_
  obtain ⟨s84, e_s84, h⟩ := o_b h
  refine q_pI X hh hS fp_X8_29 (fun h => by cases h) rfl e_s84 dX8_init_84 (fun H locs hh hS => ?_)
  have ys84 : eq4 σ s84 := ((e_pR e_s79)).tr (e_pI e_s84)
  refine W.cs (cells' := s84.2.2.2.1 - n0) (slots' := s84.2.2.2.2 - s0) (by rw [show s84.2.2.2 = σ.2.2.2 from ys84]) (by rw [show s84.2.2.2 = σ.2.2.2 from ys84]) ?_
  have hn : n0 ≤ s84.2.2.2.1 ∧ s0 ≤ s84.2.2.2.2 := by rw [show s84.2.2.2 = σ.2.2.2 from ys84]; exact hn
  have hcl : s84.2.2.2.1 - n0 ≤ R.cells ∧ s84.2.2.2.2 - s0 ≤ R.slots := by rw [show s84.2.2.2 = σ.2.2.2 from ys84]; exact hcl
  cases h
  exact q_vret X hret hlk hh hS dX8_init_87
theorem mo_X8_init_70 {z : hp} {σ : hp} {t0 : Nat} {w0 : Option Nat} {w1 : Option Nat} {w2 : Option Nat} {w3 : Int32} {w4 : Option Nat} (h : S_X8_init_70 σ t0 w0 w1 w2 w3 w4 = some z) : le4 σ z := by
  unfold S_X8_init_70 at h
  obtain ⟨s70, e_s70, h⟩ := o_b h
  obtain ⟨s71, e_s71, h⟩ := o_b h
  obtain ⟨q77, e_q77, h⟩ := o_b h
  exact ((((e_stQ e_s70).le).tr (e_pR e_s71).le).tr (m_na e_q77)).tr (mo_X8_init_79 h)
set_option maxHeartbeats 4000000 in
set_option maxRecDepth 100000 in
theorem K_X8_init_70 {p : Program} {l : Launch} {e : Env} {R : Room} {s : State} {m : MethodId} {args : Array Value} {below : List Frame} {meth : Method} {c : Code} {D : va_G} {dA : Nat → ClassId} {base : Nat} {z : hp} (X : cx p s m args c cX8_init RX8 1 D dA) (hret : meth.sig.returnType = none) (hlk : meth.locks = false) (hR : 4 ≤ R.frames ∧ 84 ≤ R.locals) (hin : meth.name = "<init>") {n0 s0 : Nat} (hRc : z.2.2.2.1 ≤ n0 + R.cells ∧ z.2.2.2.2 ≤ s0 + R.slots) {σ : hp} {t0 : Nat} {w0 : Option Nat} {w1 : Option Nat} {w2 : Option Nat} {w3 : Int32} {w4 : Option Nat} {H : Heap} {locs : List Loc} {ls : Array Slot} (hn : n0 ≤ σ.2.2.2.1 ∧ s0 ≤ σ.2.2.2.2) (hh : hw D dA base σ H) (hS : hs base s.heap H locs) (hl : lk ls 1 [(0, .inr (some t0))]) (h : S_X8_init_70 σ t0 w0 w1 w2 w3 w4 = some z) : W p l e R s m args below meth c H locs (σ.2.2.2.1 - n0) (σ.2.2.2.2 - s0) (MQ below (qG D dA base none z) args s (z.2.2.2.1 - n0) (z.2.2.2.2 - s0) (fun q => base ≤ q)) (F0 m 70 ls [va_rf w4, .int w3, va_rf w2, va_rf w1, va_rf w0]) := by
  have hz0 := mo_X8_init_70 h
  have hcl : σ.2.2.2.1 - n0 ≤ R.cells ∧ σ.2.2.2.2 - s0 ≤ R.slots := by unfold le4 at hz0; omega
  unfold S_X8_init_70 at h
  obtain ⟨s70, e_s70, h⟩ := o_b h
  refine q_stQ (cN := 5) X hh hS (by decide) rfl rfl e_s70 dX8_init_70 (fun H locs hh hS => ?_)
  obtain ⟨s71, e_s71, h⟩ := o_b h
  refine q_pR X hh hS fp_X8_21 (fun _ => hin) rfl (Or.inr ⟨_, rfl⟩) e_s71 dX8_init_71 (fun H locs hh hS => ?_)
  refine q_aload_n X dX8_init_74 rfl hl 0 rfl ?_
  refine lv_bipush (v := (100 : Int32)) X.1 X.2.1 dX8_init_75 (by decide) ?_
  obtain ⟨q77, e_q77, h⟩ := o_b h
  have ys71 : eq4 σ s71 := ((e_stQ e_s70)).tr (e_pR e_s71)
  refine W.cs (cells' := s71.2.2.2.1 - n0) (slots' := s71.2.2.2.2 - s0) (by rw [show s71.2.2.2 = σ.2.2.2 from ys71]) (by rw [show s71.2.2.2 = σ.2.2.2 from ys71]) ?_
  have hn : n0 ≤ s71.2.2.2.1 ∧ s0 ≤ s71.2.2.2.2 := by rw [show s71.2.2.2 = σ.2.2.2 from ys71]; exact hn
  have hcl : s71.2.2.2.1 - n0 ≤ R.cells ∧ s71.2.2.2.2 - s0 ≤ R.slots := by rw [show s71.2.2.2 = σ.2.2.2 from ys71]; exact hcl
  have g77 := mo_X8_init_79 h
  have f77 := l_na e_q77
  unfold le4 at g77
  refine q_naI (t := 0) X hh hS (by decide) rfl rfl (fun _ _ => rfl) (by decide) (gm 43 (by decide +kernel) rfl) e_q77 dX8_init_77 (by omega) (by omega) (fun H hh hS => ?_)
  refine W.cs (cells' := q77.2.2.2.2.1 - n0) (slots' := q77.2.2.2.2.2 - s0) (by omega) (by omega) ?_
  have hn : n0 ≤ q77.2.2.2.2.1 ∧ s0 ≤ q77.2.2.2.2.2 := by omega
  exact K_X8_init_79 X hret hlk hR hin hRc hn hh hS (lk_sub hl [0] rfl) h
theorem mo_X8_init_59 {z : hp} {σ : hp} {t0 : Nat} {w0 : Option Nat} {w1 : Option Nat} {w2 : Option Nat} {w3 : Int32} {w4 : Option Nat} (h : S_X8_init_59 σ t0 w0 w1 w2 w3 w4 = some z) : le4 σ z := by
  unfold S_X8_init_59 at h
  obtain ⟨t62, e_t62, h⟩ := o_b h
  obtain ⟨t66, e_t66, h⟩ := o_b h
  obtain ⟨b67, e_b67, h⟩ := o_b h
  obtain ⟨q67, e_q67, h⟩ := o_b h
  exact ((mo_X5_init_0 e_q67)).tr (mo_X8_init_70 h)
set_option maxHeartbeats 4000000 in
set_option maxRecDepth 100000 in
theorem K_X8_init_59 {p : Program} {l : Launch} {e : Env} {R : Room} {s : State} {m : MethodId} {args : Array Value} {below : List Frame} {meth : Method} {c : Code} {D : va_G} {dA : Nat → ClassId} {base : Nat} {z : hp} (X : cx p s m args c cX8_init RX8 1 D dA) (hret : meth.sig.returnType = none) (hlk : meth.locks = false) (hR : 4 ≤ R.frames ∧ 84 ≤ R.locals) (hin : meth.name = "<init>") {n0 s0 : Nat} (hRc : z.2.2.2.1 ≤ n0 + R.cells ∧ z.2.2.2.2 ≤ s0 + R.slots) {σ : hp} {t0 : Nat} {w0 : Option Nat} {w1 : Option Nat} {w2 : Option Nat} {w3 : Int32} {w4 : Option Nat} {H : Heap} {locs : List Loc} {ls : Array Slot} (hn : n0 ≤ σ.2.2.2.1 ∧ s0 ≤ σ.2.2.2.2) (hh : hw D dA base σ H) (hS : hs base s.heap H locs) (hl : lk ls 1 [(0, .inr (some t0))]) (h : S_X8_init_59 σ t0 w0 w1 w2 w3 w4 = some z) : W p l e R s m args below meth c H locs (σ.2.2.2.1 - n0) (σ.2.2.2.2 - s0) (MQ below (qG D dA base none z) args s (z.2.2.2.1 - n0) (z.2.2.2.2 - s0) (fun q => base ≤ q)) (F0 m 59 ls [va_rf w4, .int w3, va_rf w2, va_rf w1, va_rf w0]) := by
  have hz0 := mo_X8_init_59 h
  have hcl : σ.2.2.2.1 - n0 ≤ R.cells ∧ σ.2.2.2.2 - s0 ≤ R.slots := by unfold le4 at hz0; omega
  unfold S_X8_init_59 at h
  refine lv_dup X.1 X.2.1 dX8_init_59 (vv_cat (.inr w4)) ?_
  refine lv_iconst (v := (1 : Int32)) X.1 X.2.1 dX8_init_60 (by decide) ?_
  refine q_aload_n X dX8_init_61 rfl hl 0 rfl ?_
  obtain ⟨t62, e_t62, h⟩ := o_b h
  refine q_gR X hh fa_X8_10 rfl e_t62 dX8_init_62 ?_
  refine lv_iconst (v := (1 : Int32)) X.1 X.2.1 dX8_init_65 (by decide) ?_
  obtain ⟨t66, e_t66, h⟩ := o_b h
  refine q_ldQ X hh (by decide) rfl e_t66 dX8_init_66 ?_
  obtain ⟨b67, e_b67, h⟩ := o_b h
  obtain ⟨q67, e_q67, h⟩ := o_b h
  have g67 := mo_X8_init_70 h
  have f67 := mo_X5_init_0 e_q67
  unfold le4 at g67 f67
  refine q_cI (As := [.int (1 : Int32), va_rf t66]) X hh hS hl cf_X8_18 e_b67 rfl (M_X5_init l D dA base σ b67 (1 : Int32) t66 e_q67) ⟨Nat.le_trans (by decide) hR.1, Nat.le_trans (by decide) hR.2⟩ (cat8 [.inr w4, .inl w3, .inr w2, .inr w1, .inr w0] (Nat.le_of_ble_eq_true rfl)) dX8_init_67 ⟨by omega, by omega⟩ rfl (fun H locs hh hS => ?_)
  refine W.cs (cells' := q67.2.2.2.1 - n0) (slots' := q67.2.2.2.2 - s0) (by omega) (by omega) ?_
  have hn : n0 ≤ q67.2.2.2.1 ∧ s0 ≤ q67.2.2.2.2 := by omega
  exact K_X8_init_70 X hret hlk hR hin hRc hn hh hS (lk_sub hl [0] rfl) h
theorem mo_X8_init_53 {z : hp} {σ : hp} {t0 : Nat} {w0 : Option Nat} {w1 : Option Nat} {w2 : Option Nat} {w3 : Int32} {w4 : Option Nat} (h : S_X8_init_53 σ t0 w0 w1 w2 w3 w4 = some z) : le4 σ z := by
  unfold S_X8_init_53 at h
  obtain ⟨s53, e_s53, h⟩ := o_b h
  obtain ⟨q56, e_q56, h⟩ := o_b h
  exact (((e_stQ e_s53).le).tr (m_nw e_q56)).tr (mo_X8_init_59 h)
set_option maxHeartbeats 4000000 in
set_option maxRecDepth 100000 in
theorem K_X8_init_53 {p : Program} {l : Launch} {e : Env} {R : Room} {s : State} {m : MethodId} {args : Array Value} {below : List Frame} {meth : Method} {c : Code} {D : va_G} {dA : Nat → ClassId} {base : Nat} {z : hp} (X : cx p s m args c cX8_init RX8 1 D dA) (hret : meth.sig.returnType = none) (hlk : meth.locks = false) (hR : 4 ≤ R.frames ∧ 84 ≤ R.locals) (hin : meth.name = "<init>") {n0 s0 : Nat} (hRc : z.2.2.2.1 ≤ n0 + R.cells ∧ z.2.2.2.2 ≤ s0 + R.slots) {σ : hp} {t0 : Nat} {w0 : Option Nat} {w1 : Option Nat} {w2 : Option Nat} {w3 : Int32} {w4 : Option Nat} {H : Heap} {locs : List Loc} {ls : Array Slot} (hn : n0 ≤ σ.2.2.2.1 ∧ s0 ≤ σ.2.2.2.2) (hh : hw D dA base σ H) (hS : hs base s.heap H locs) (hl : lk ls 1 [(0, .inr (some t0))]) (h : S_X8_init_53 σ t0 w0 w1 w2 w3 w4 = some z) : W p l e R s m args below meth c H locs (σ.2.2.2.1 - n0) (σ.2.2.2.2 - s0) (MQ below (qG D dA base none z) args s (z.2.2.2.1 - n0) (z.2.2.2.2 - s0) (fun q => base ≤ q)) (F0 m 53 ls [va_rf w4, .int w3, va_rf w2, va_rf w1, va_rf w0]) := by
  have hz0 := mo_X8_init_53 h
  have hcl : σ.2.2.2.1 - n0 ≤ R.cells ∧ σ.2.2.2.2 - s0 ≤ R.slots := by unfold le4 at hz0; omega
  unfold S_X8_init_53 at h
  obtain ⟨s53, e_s53, h⟩ := o_b h
  refine q_stQ (cN := 5) X hh hS (by decide) rfl rfl e_s53 dX8_init_53 (fun H locs hh hS => ?_)
  refine lv_dup X.1 X.2.1 dX8_init_54 (vv_cat (.inr w1)) ?_
  refine lv_iconst (v := (1 : Int32)) X.1 X.2.1 dX8_init_55 (by decide) ?_
  obtain ⟨q56, e_q56, h⟩ := o_b h
  have ys53 : eq4 σ s53 := (e_stQ e_s53)
  refine W.cs (cells' := s53.2.2.2.1 - n0) (slots' := s53.2.2.2.2 - s0) (by rw [show s53.2.2.2 = σ.2.2.2 from ys53]) (by rw [show s53.2.2.2 = σ.2.2.2 from ys53]) ?_
  have hn : n0 ≤ s53.2.2.2.1 ∧ s0 ≤ s53.2.2.2.2 := by rw [show s53.2.2.2 = σ.2.2.2 from ys53]; exact hn
  have hcl : s53.2.2.2.1 - n0 ≤ R.cells ∧ s53.2.2.2.2 - s0 ≤ R.slots := by rw [show s53.2.2.2 = σ.2.2.2 from ys53]; exact hcl
  have g56 := mo_X8_init_59 h
  have f56 := l_nw e_q56
  unfold le4 at g56
  refine q_nw X hh hS fn_X8_16 e_q56 dX8_init_56 (by omega) (by omega) (fun H hh hS => ?_)
  refine W.cs (cells' := q56.2.2.2.2.1 - n0) (slots' := q56.2.2.2.2.2 - s0) (by omega) (by omega) ?_
  have hn : n0 ≤ q56.2.2.2.2.1 ∧ s0 ≤ q56.2.2.2.2.2 := by omega
  exact K_X8_init_59 X hret hlk hR hin hRc hn hh hS (lk_sub hl [0] rfl) h
theorem mo_X8_init_42 {z : hp} {σ : hp} {t0 : Nat} {w0 : Option Nat} {w1 : Option Nat} {w2 : Option Nat} {w3 : Int32} {w4 : Option Nat} (h : S_X8_init_42 σ t0 w0 w1 w2 w3 w4 = some z) : le4 σ z := by
  unfold S_X8_init_42 at h
  obtain ⟨t45, e_t45, h⟩ := o_b h
  obtain ⟨t49, e_t49, h⟩ := o_b h
  obtain ⟨b50, e_b50, h⟩ := o_b h
  obtain ⟨q50, e_q50, h⟩ := o_b h
  exact ((mo_X5_init_0 e_q50)).tr (mo_X8_init_53 h)
set_option maxHeartbeats 4000000 in
set_option maxRecDepth 100000 in
theorem K_X8_init_42 {p : Program} {l : Launch} {e : Env} {R : Room} {s : State} {m : MethodId} {args : Array Value} {below : List Frame} {meth : Method} {c : Code} {D : va_G} {dA : Nat → ClassId} {base : Nat} {z : hp} (X : cx p s m args c cX8_init RX8 1 D dA) (hret : meth.sig.returnType = none) (hlk : meth.locks = false) (hR : 4 ≤ R.frames ∧ 84 ≤ R.locals) (hin : meth.name = "<init>") {n0 s0 : Nat} (hRc : z.2.2.2.1 ≤ n0 + R.cells ∧ z.2.2.2.2 ≤ s0 + R.slots) {σ : hp} {t0 : Nat} {w0 : Option Nat} {w1 : Option Nat} {w2 : Option Nat} {w3 : Int32} {w4 : Option Nat} {H : Heap} {locs : List Loc} {ls : Array Slot} (hn : n0 ≤ σ.2.2.2.1 ∧ s0 ≤ σ.2.2.2.2) (hh : hw D dA base σ H) (hS : hs base s.heap H locs) (hl : lk ls 1 [(0, .inr (some t0))]) (h : S_X8_init_42 σ t0 w0 w1 w2 w3 w4 = some z) : W p l e R s m args below meth c H locs (σ.2.2.2.1 - n0) (σ.2.2.2.2 - s0) (MQ below (qG D dA base none z) args s (z.2.2.2.1 - n0) (z.2.2.2.2 - s0) (fun q => base ≤ q)) (F0 m 42 ls [va_rf w4, .int w3, va_rf w2, va_rf w1, va_rf w0]) := by
  have hz0 := mo_X8_init_42 h
  have hcl : σ.2.2.2.1 - n0 ≤ R.cells ∧ σ.2.2.2.2 - s0 ≤ R.slots := by unfold le4 at hz0; omega
  unfold S_X8_init_42 at h
  refine lv_dup X.1 X.2.1 dX8_init_42 (vv_cat (.inr w4)) ?_
  refine lv_iconst (v := (0 : Int32)) X.1 X.2.1 dX8_init_43 (by decide) ?_
  refine q_aload_n X dX8_init_44 rfl hl 0 rfl ?_
  obtain ⟨t45, e_t45, h⟩ := o_b h
  refine q_gR X hh fa_X8_10 rfl e_t45 dX8_init_45 ?_
  refine lv_iconst (v := (0 : Int32)) X.1 X.2.1 dX8_init_48 (by decide) ?_
  obtain ⟨t49, e_t49, h⟩ := o_b h
  refine q_ldQ X hh (by decide) rfl e_t49 dX8_init_49 ?_
  obtain ⟨b50, e_b50, h⟩ := o_b h
  obtain ⟨q50, e_q50, h⟩ := o_b h
  have g50 := mo_X8_init_53 h
  have f50 := mo_X5_init_0 e_q50
  unfold le4 at g50 f50
  refine q_cI (As := [.int (0 : Int32), va_rf t49]) X hh hS hl cf_X8_18 e_b50 rfl (M_X5_init l D dA base σ b50 (0 : Int32) t49 e_q50) ⟨Nat.le_trans (by decide) hR.1, Nat.le_trans (by decide) hR.2⟩ (cat8 [.inr w4, .inl w3, .inr w2, .inr w1, .inr w0] (Nat.le_of_ble_eq_true rfl)) dX8_init_50 ⟨by omega, by omega⟩ rfl (fun H locs hh hS => ?_)
  refine W.cs (cells' := q50.2.2.2.1 - n0) (slots' := q50.2.2.2.2 - s0) (by omega) (by omega) ?_
  have hn : n0 ≤ q50.2.2.2.1 ∧ s0 ≤ q50.2.2.2.2 := by omega
  exact K_X8_init_53 X hret hlk hR hin hRc hn hh hS (lk_sub hl [0] rfl) h
theorem mo_X8_init_37 {z : hp} {σ : hp} {t0 : Nat} {w0 : Option Nat} {w1 : Option Nat} (h : S_X8_init_37 σ t0 w0 w1 = some z) : le4 σ z := by
  unfold S_X8_init_37 at h
  obtain ⟨q39, e_q39, h⟩ := o_b h
  exact ((m_nw e_q39)).tr (mo_X8_init_42 h)
set_option maxHeartbeats 4000000 in
set_option maxRecDepth 100000 in
theorem K_X8_init_37 {p : Program} {l : Launch} {e : Env} {R : Room} {s : State} {m : MethodId} {args : Array Value} {below : List Frame} {meth : Method} {c : Code} {D : va_G} {dA : Nat → ClassId} {base : Nat} {z : hp} (X : cx p s m args c cX8_init RX8 1 D dA) (hret : meth.sig.returnType = none) (hlk : meth.locks = false) (hR : 4 ≤ R.frames ∧ 84 ≤ R.locals) (hin : meth.name = "<init>") {n0 s0 : Nat} (hRc : z.2.2.2.1 ≤ n0 + R.cells ∧ z.2.2.2.2 ≤ s0 + R.slots) {σ : hp} {t0 : Nat} {w0 : Option Nat} {w1 : Option Nat} {H : Heap} {locs : List Loc} {ls : Array Slot} (hn : n0 ≤ σ.2.2.2.1 ∧ s0 ≤ σ.2.2.2.2) (hh : hw D dA base σ H) (hS : hs base s.heap H locs) (hl : lk ls 1 [(0, .inr (some t0))]) (h : S_X8_init_37 σ t0 w0 w1 = some z) : W p l e R s m args below meth c H locs (σ.2.2.2.1 - n0) (σ.2.2.2.2 - s0) (MQ below (qG D dA base none z) args s (z.2.2.2.1 - n0) (z.2.2.2.2 - s0) (fun q => base ≤ q)) (F0 m 37 ls [va_rf w1, va_rf w0]) := by
  have hz0 := mo_X8_init_37 h
  have hcl : σ.2.2.2.1 - n0 ≤ R.cells ∧ σ.2.2.2.2 - s0 ≤ R.slots := by unfold le4 at hz0; omega
  unfold S_X8_init_37 at h
  refine lv_dup X.1 X.2.1 dX8_init_37 (vv_cat (.inr w1)) ?_
  refine lv_iconst (v := (0 : Int32)) X.1 X.2.1 dX8_init_38 (by decide) ?_
  obtain ⟨q39, e_q39, h⟩ := o_b h
  have g39 := mo_X8_init_42 h
  have f39 := l_nw e_q39
  unfold le4 at g39
  refine q_nw X hh hS fn_X8_16 e_q39 dX8_init_39 (by omega) (by omega) (fun H hh hS => ?_)
  refine W.cs (cells' := q39.2.2.2.2.1 - n0) (slots' := q39.2.2.2.2.2 - s0) (by omega) (by omega) ?_
  have hn : n0 ≤ q39.2.2.2.2.1 ∧ s0 ≤ q39.2.2.2.2.2 := by omega
  exact K_X8_init_42 X hret hlk hR hin hRc hn hh hS (lk_sub hl [0] rfl) h
theorem mo_X8_init_28 {z : hp} {σ : hp} {t0 : Nat} {w0 : Option Nat} {w1 : Option Nat} {w2 : Option Nat} {w3 : Int32} {w4 : Option Nat} (h : S_X8_init_28 σ t0 w0 w1 w2 w3 w4 = some z) : le4 σ z := by
  unfold S_X8_init_28 at h
  obtain ⟨s28, e_s28, h⟩ := o_b h
  obtain ⟨s29, e_s29, h⟩ := o_b h
  obtain ⟨q34, e_q34, h⟩ := o_b h
  exact ((((e_stQ e_s28).le).tr (e_pR e_s29).le).tr (m_na e_q34)).tr (mo_X8_init_37 h)
set_option maxHeartbeats 4000000 in
set_option maxRecDepth 100000 in
theorem K_X8_init_28 {p : Program} {l : Launch} {e : Env} {R : Room} {s : State} {m : MethodId} {args : Array Value} {below : List Frame} {meth : Method} {c : Code} {D : va_G} {dA : Nat → ClassId} {base : Nat} {z : hp} (X : cx p s m args c cX8_init RX8 1 D dA) (hret : meth.sig.returnType = none) (hlk : meth.locks = false) (hR : 4 ≤ R.frames ∧ 84 ≤ R.locals) (hin : meth.name = "<init>") {n0 s0 : Nat} (hRc : z.2.2.2.1 ≤ n0 + R.cells ∧ z.2.2.2.2 ≤ s0 + R.slots) {σ : hp} {t0 : Nat} {w0 : Option Nat} {w1 : Option Nat} {w2 : Option Nat} {w3 : Int32} {w4 : Option Nat} {H : Heap} {locs : List Loc} {ls : Array Slot} (hn : n0 ≤ σ.2.2.2.1 ∧ s0 ≤ σ.2.2.2.2) (hh : hw D dA base σ H) (hS : hs base s.heap H locs) (hl : lk ls 1 [(0, .inr (some t0))]) (h : S_X8_init_28 σ t0 w0 w1 w2 w3 w4 = some z) : W p l e R s m args below meth c H locs (σ.2.2.2.1 - n0) (σ.2.2.2.2 - s0) (MQ below (qG D dA base none z) args s (z.2.2.2.1 - n0) (z.2.2.2.2 - s0) (fun q => base ≤ q)) (F0 m 28 ls [va_rf w4, .int w3, va_rf w2, va_rf w1, va_rf w0]) := by
  have hz0 := mo_X8_init_28 h
  have hcl : σ.2.2.2.1 - n0 ≤ R.cells ∧ σ.2.2.2.2 - s0 ≤ R.slots := by unfold le4 at hz0; omega
  unfold S_X8_init_28 at h
  obtain ⟨s28, e_s28, h⟩ := o_b h
  refine q_stQ (cN := 7) X hh hS (by decide) rfl rfl e_s28 dX8_init_28 (fun H locs hh hS => ?_)
  obtain ⟨s29, e_s29, h⟩ := o_b h
  refine q_pR X hh hS fp_X8_10 (fun _ => hin) rfl (Or.inr ⟨_, rfl⟩) e_s29 dX8_init_29 (fun H locs hh hS => ?_)
  refine q_aload_n X dX8_init_32 rfl hl 0 rfl ?_
  refine lv_iconst (v := (2 : Int32)) X.1 X.2.1 dX8_init_33 (by decide) ?_
  obtain ⟨q34, e_q34, h⟩ := o_b h
  have ys29 : eq4 σ s29 := ((e_stQ e_s28)).tr (e_pR e_s29)
  refine W.cs (cells' := s29.2.2.2.1 - n0) (slots' := s29.2.2.2.2 - s0) (by rw [show s29.2.2.2 = σ.2.2.2 from ys29]) (by rw [show s29.2.2.2 = σ.2.2.2 from ys29]) ?_
  have hn : n0 ≤ s29.2.2.2.1 ∧ s0 ≤ s29.2.2.2.2 := by rw [show s29.2.2.2 = σ.2.2.2 from ys29]; exact hn
  have hcl : s29.2.2.2.1 - n0 ≤ R.cells ∧ s29.2.2.2.2 - s0 ≤ R.slots := by rw [show s29.2.2.2 = σ.2.2.2 from ys29]; exact hcl
  have g34 := mo_X8_init_37 h
  have f34 := l_na e_q34
  unfold le4 at g34
  refine q_naQ (t := 4) X hh hS (by decide) rfl (gm 59 (by decide +kernel) rfl) (by decide) e_q34 dX8_init_34 (by omega) (by omega) (fun H hh hS => ?_)
  refine W.cs (cells' := q34.2.2.2.2.1 - n0) (slots' := q34.2.2.2.2.2 - s0) (by omega) (by omega) ?_
  have hn : n0 ≤ q34.2.2.2.2.1 ∧ s0 ≤ q34.2.2.2.2.2 := by omega
  exact K_X8_init_37 X hret hlk hR hin hRc hn hh hS (lk_sub hl [0] rfl) h
theorem mo_X8_init_24 {z : hp} {σ : hp} {t0 : Nat} {w0 : Option Nat} {w1 : Option Nat} {w2 : Option Nat} {w3 : Int32} {w4 : Option Nat} (h : S_X8_init_24 σ t0 w0 w1 w2 w3 w4 = some z) : le4 σ z := by
  unfold S_X8_init_24 at h
  obtain ⟨b25, e_b25, h⟩ := o_b h
  obtain ⟨q25, e_q25, h⟩ := o_b h
  exact ((mo_X7_init_0 e_q25)).tr (mo_X8_init_28 h)
set_option maxHeartbeats 4000000 in
set_option maxRecDepth 100000 in
theorem K_X8_init_24 {p : Program} {l : Launch} {e : Env} {R : Room} {s : State} {m : MethodId} {args : Array Value} {below : List Frame} {meth : Method} {c : Code} {D : va_G} {dA : Nat → ClassId} {base : Nat} {z : hp} (X : cx p s m args c cX8_init RX8 1 D dA) (hret : meth.sig.returnType = none) (hlk : meth.locks = false) (hR : 4 ≤ R.frames ∧ 84 ≤ R.locals) (hin : meth.name = "<init>") {n0 s0 : Nat} (hRc : z.2.2.2.1 ≤ n0 + R.cells ∧ z.2.2.2.2 ≤ s0 + R.slots) {σ : hp} {t0 : Nat} {w0 : Option Nat} {w1 : Option Nat} {w2 : Option Nat} {w3 : Int32} {w4 : Option Nat} {H : Heap} {locs : List Loc} {ls : Array Slot} (hn : n0 ≤ σ.2.2.2.1 ∧ s0 ≤ σ.2.2.2.2) (hh : hw D dA base σ H) (hS : hs base s.heap H locs) (hl : lk ls 1 [(0, .inr (some t0))]) (h : S_X8_init_24 σ t0 w0 w1 w2 w3 w4 = some z) : W p l e R s m args below meth c H locs (σ.2.2.2.1 - n0) (σ.2.2.2.2 - s0) (MQ below (qG D dA base none z) args s (z.2.2.2.1 - n0) (z.2.2.2.2 - s0) (fun q => base ≤ q)) (F0 m 24 ls [va_rf w4, .int w3, va_rf w2, va_rf w1, va_rf w0]) := by
  have hz0 := mo_X8_init_24 h
  have hcl : σ.2.2.2.1 - n0 ≤ R.cells ∧ σ.2.2.2.2 - s0 ≤ R.slots := by unfold le4 at hz0; omega
  unfold S_X8_init_24 at h
  refine lv_dup X.1 X.2.1 dX8_init_24 (vv_cat (.inr w4)) ?_
  obtain ⟨b25, e_b25, h⟩ := o_b h
  obtain ⟨q25, e_q25, h⟩ := o_b h
  have g25 := mo_X8_init_28 h
  have f25 := mo_X7_init_0 e_q25
  unfold le4 at g25 f25
  refine q_cI (As := []) X hh hS hl cf_X8_9 e_b25 rfl (M_X7_init l D dA base σ b25  e_q25) ⟨Nat.le_trans (by decide) hR.1, Nat.le_trans (by decide) hR.2⟩ (cat8 [.inr w4, .inl w3, .inr w2, .inr w1, .inr w0] (Nat.le_of_ble_eq_true rfl)) dX8_init_25 ⟨by omega, by omega⟩ rfl (fun H locs hh hS => ?_)
  refine W.cs (cells' := q25.2.2.2.1 - n0) (slots' := q25.2.2.2.2 - s0) (by omega) (by omega) ?_
  have hn : n0 ≤ q25.2.2.2.1 ∧ s0 ≤ q25.2.2.2.2 := by omega
  exact K_X8_init_28 X hret hlk hR hin hRc hn hh hS (lk_sub hl [0] rfl) h
theorem mo_X8_init_18 {z : hp} {σ : hp} {t0 : Nat} {w0 : Option Nat} {w1 : Option Nat} {w2 : Option Nat} {w3 : Int32} {w4 : Option Nat} (h : S_X8_init_18 σ t0 w0 w1 w2 w3 w4 = some z) : le4 σ z := by
  unfold S_X8_init_18 at h
  obtain ⟨s18, e_s18, h⟩ := o_b h
  obtain ⟨q21, e_q21, h⟩ := o_b h
  exact (((e_stQ e_s18).le).tr (m_nw e_q21)).tr (mo_X8_init_24 h)
set_option maxHeartbeats 4000000 in
set_option maxRecDepth 100000 in
theorem K_X8_init_18 {p : Program} {l : Launch} {e : Env} {R : Room} {s : State} {m : MethodId} {args : Array Value} {below : List Frame} {meth : Method} {c : Code} {D : va_G} {dA : Nat → ClassId} {base : Nat} {z : hp} (X : cx p s m args c cX8_init RX8 1 D dA) (hret : meth.sig.returnType = none) (hlk : meth.locks = false) (hR : 4 ≤ R.frames ∧ 84 ≤ R.locals) (hin : meth.name = "<init>") {n0 s0 : Nat} (hRc : z.2.2.2.1 ≤ n0 + R.cells ∧ z.2.2.2.2 ≤ s0 + R.slots) {σ : hp} {t0 : Nat} {w0 : Option Nat} {w1 : Option Nat} {w2 : Option Nat} {w3 : Int32} {w4 : Option Nat} {H : Heap} {locs : List Loc} {ls : Array Slot} (hn : n0 ≤ σ.2.2.2.1 ∧ s0 ≤ σ.2.2.2.2) (hh : hw D dA base σ H) (hS : hs base s.heap H locs) (hl : lk ls 1 [(0, .inr (some t0))]) (h : S_X8_init_18 σ t0 w0 w1 w2 w3 w4 = some z) : W p l e R s m args below meth c H locs (σ.2.2.2.1 - n0) (σ.2.2.2.2 - s0) (MQ below (qG D dA base none z) args s (z.2.2.2.1 - n0) (z.2.2.2.2 - s0) (fun q => base ≤ q)) (F0 m 18 ls [va_rf w4, .int w3, va_rf w2, va_rf w1, va_rf w0]) := by
  have hz0 := mo_X8_init_18 h
  have hcl : σ.2.2.2.1 - n0 ≤ R.cells ∧ σ.2.2.2.2 - s0 ≤ R.slots := by unfold le4 at hz0; omega
  unfold S_X8_init_18 at h
  obtain ⟨s18, e_s18, h⟩ := o_b h
  refine q_stQ (cN := 7) X hh hS (by decide) rfl rfl e_s18 dX8_init_18 (fun H locs hh hS => ?_)
  refine lv_dup X.1 X.2.1 dX8_init_19 (vv_cat (.inr w1)) ?_
  refine lv_iconst (v := (1 : Int32)) X.1 X.2.1 dX8_init_20 (by decide) ?_
  obtain ⟨q21, e_q21, h⟩ := o_b h
  have ys18 : eq4 σ s18 := (e_stQ e_s18)
  refine W.cs (cells' := s18.2.2.2.1 - n0) (slots' := s18.2.2.2.2 - s0) (by rw [show s18.2.2.2 = σ.2.2.2 from ys18]) (by rw [show s18.2.2.2 = σ.2.2.2 from ys18]) ?_
  have hn : n0 ≤ s18.2.2.2.1 ∧ s0 ≤ s18.2.2.2.2 := by rw [show s18.2.2.2 = σ.2.2.2 from ys18]; exact hn
  have hcl : s18.2.2.2.1 - n0 ≤ R.cells ∧ s18.2.2.2.2 - s0 ≤ R.slots := by rw [show s18.2.2.2 = σ.2.2.2 from ys18]; exact hcl
  have g21 := mo_X8_init_24 h
  have f21 := l_nw e_q21
  unfold le4 at g21
  refine q_nw X hh hS fn_X8_7 e_q21 dX8_init_21 (by omega) (by omega) (fun H hh hS => ?_)
  refine W.cs (cells' := q21.2.2.2.2.1 - n0) (slots' := q21.2.2.2.2.2 - s0) (by omega) (by omega) ?_
  have hn : n0 ≤ q21.2.2.2.2.1 ∧ s0 ≤ q21.2.2.2.2.2 := by omega
  exact K_X8_init_24 X hret hlk hR hin hRc hn hh hS (lk_sub hl [0] rfl) h
theorem mo_X8_init_14 {z : hp} {σ : hp} {t0 : Nat} {w0 : Option Nat} {w1 : Option Nat} {w2 : Option Nat} {w3 : Int32} {w4 : Option Nat} (h : S_X8_init_14 σ t0 w0 w1 w2 w3 w4 = some z) : le4 σ z := by
  unfold S_X8_init_14 at h
  obtain ⟨b15, e_b15, h⟩ := o_b h
  obtain ⟨q15, e_q15, h⟩ := o_b h
  exact ((mo_X7_init_0 e_q15)).tr (mo_X8_init_18 h)
set_option maxHeartbeats 4000000 in
set_option maxRecDepth 100000 in
theorem K_X8_init_14 {p : Program} {l : Launch} {e : Env} {R : Room} {s : State} {m : MethodId} {args : Array Value} {below : List Frame} {meth : Method} {c : Code} {D : va_G} {dA : Nat → ClassId} {base : Nat} {z : hp} (X : cx p s m args c cX8_init RX8 1 D dA) (hret : meth.sig.returnType = none) (hlk : meth.locks = false) (hR : 4 ≤ R.frames ∧ 84 ≤ R.locals) (hin : meth.name = "<init>") {n0 s0 : Nat} (hRc : z.2.2.2.1 ≤ n0 + R.cells ∧ z.2.2.2.2 ≤ s0 + R.slots) {σ : hp} {t0 : Nat} {w0 : Option Nat} {w1 : Option Nat} {w2 : Option Nat} {w3 : Int32} {w4 : Option Nat} {H : Heap} {locs : List Loc} {ls : Array Slot} (hn : n0 ≤ σ.2.2.2.1 ∧ s0 ≤ σ.2.2.2.2) (hh : hw D dA base σ H) (hS : hs base s.heap H locs) (hl : lk ls 1 [(0, .inr (some t0))]) (h : S_X8_init_14 σ t0 w0 w1 w2 w3 w4 = some z) : W p l e R s m args below meth c H locs (σ.2.2.2.1 - n0) (σ.2.2.2.2 - s0) (MQ below (qG D dA base none z) args s (z.2.2.2.1 - n0) (z.2.2.2.2 - s0) (fun q => base ≤ q)) (F0 m 14 ls [va_rf w4, .int w3, va_rf w2, va_rf w1, va_rf w0]) := by
  have hz0 := mo_X8_init_14 h
  have hcl : σ.2.2.2.1 - n0 ≤ R.cells ∧ σ.2.2.2.2 - s0 ≤ R.slots := by unfold le4 at hz0; omega
  unfold S_X8_init_14 at h
  refine lv_dup X.1 X.2.1 dX8_init_14 (vv_cat (.inr w4)) ?_
  obtain ⟨b15, e_b15, h⟩ := o_b h
  obtain ⟨q15, e_q15, h⟩ := o_b h
  have g15 := mo_X8_init_18 h
  have f15 := mo_X7_init_0 e_q15
  unfold le4 at g15 f15
  refine q_cI (As := []) X hh hS hl cf_X8_9 e_b15 rfl (M_X7_init l D dA base σ b15  e_q15) ⟨Nat.le_trans (by decide) hR.1, Nat.le_trans (by decide) hR.2⟩ (cat8 [.inr w4, .inl w3, .inr w2, .inr w1, .inr w0] (Nat.le_of_ble_eq_true rfl)) dX8_init_15 ⟨by omega, by omega⟩ rfl (fun H locs hh hS => ?_)
  refine W.cs (cells' := q15.2.2.2.1 - n0) (slots' := q15.2.2.2.2 - s0) (by omega) (by omega) ?_
  have hn : n0 ≤ q15.2.2.2.1 ∧ s0 ≤ q15.2.2.2.2 := by omega
  exact K_X8_init_18 X hret hlk hR hin hRc hn hh hS (lk_sub hl [0] rfl) h
theorem mo_X8_init_9 {z : hp} {σ : hp} {t0 : Nat} {w0 : Option Nat} {w1 : Option Nat} (h : S_X8_init_9 σ t0 w0 w1 = some z) : le4 σ z := by
  unfold S_X8_init_9 at h
  obtain ⟨q11, e_q11, h⟩ := o_b h
  exact ((m_nw e_q11)).tr (mo_X8_init_14 h)
set_option maxHeartbeats 4000000 in
set_option maxRecDepth 100000 in
theorem K_X8_init_9 {p : Program} {l : Launch} {e : Env} {R : Room} {s : State} {m : MethodId} {args : Array Value} {below : List Frame} {meth : Method} {c : Code} {D : va_G} {dA : Nat → ClassId} {base : Nat} {z : hp} (X : cx p s m args c cX8_init RX8 1 D dA) (hret : meth.sig.returnType = none) (hlk : meth.locks = false) (hR : 4 ≤ R.frames ∧ 84 ≤ R.locals) (hin : meth.name = "<init>") {n0 s0 : Nat} (hRc : z.2.2.2.1 ≤ n0 + R.cells ∧ z.2.2.2.2 ≤ s0 + R.slots) {σ : hp} {t0 : Nat} {w0 : Option Nat} {w1 : Option Nat} {H : Heap} {locs : List Loc} {ls : Array Slot} (hn : n0 ≤ σ.2.2.2.1 ∧ s0 ≤ σ.2.2.2.2) (hh : hw D dA base σ H) (hS : hs base s.heap H locs) (hl : lk ls 1 [(0, .inr (some t0))]) (h : S_X8_init_9 σ t0 w0 w1 = some z) : W p l e R s m args below meth c H locs (σ.2.2.2.1 - n0) (σ.2.2.2.2 - s0) (MQ below (qG D dA base none z) args s (z.2.2.2.1 - n0) (z.2.2.2.2 - s0) (fun q => base ≤ q)) (F0 m 9 ls [va_rf w1, va_rf w0]) := by
  have hz0 := mo_X8_init_9 h
  have hcl : σ.2.2.2.1 - n0 ≤ R.cells ∧ σ.2.2.2.2 - s0 ≤ R.slots := by unfold le4 at hz0; omega
  unfold S_X8_init_9 at h
  refine lv_dup X.1 X.2.1 dX8_init_9 (vv_cat (.inr w1)) ?_
  refine lv_iconst (v := (0 : Int32)) X.1 X.2.1 dX8_init_10 (by decide) ?_
  obtain ⟨q11, e_q11, h⟩ := o_b h
  have g11 := mo_X8_init_14 h
  have f11 := l_nw e_q11
  unfold le4 at g11
  refine q_nw X hh hS fn_X8_7 e_q11 dX8_init_11 (by omega) (by omega) (fun H hh hS => ?_)
  refine W.cs (cells' := q11.2.2.2.2.1 - n0) (slots' := q11.2.2.2.2.2 - s0) (by omega) (by omega) ?_
  have hn : n0 ≤ q11.2.2.2.2.1 ∧ s0 ≤ q11.2.2.2.2.2 := by omega
  exact K_X8_init_14 X hret hlk hR hin hRc hn hh hS (lk_sub hl [0] rfl) h
theorem mo_X8_init_0 {z : hp} {σ : hp} {t0 : Nat} (h : S_X8_init σ t0 = some z) : le4 σ z := by
  unfold S_X8_init at h
  obtain ⟨q6, e_q6, h⟩ := o_b h
  exact ((m_na e_q6)).tr (mo_X8_init_9 h)
set_option maxHeartbeats 4000000 in
set_option maxRecDepth 100000 in
theorem K_X8_init_0 {p : Program} {l : Launch} {e : Env} {R : Room} {s : State} {m : MethodId} {args : Array Value} {below : List Frame} {meth : Method} {c : Code} {D : va_G} {dA : Nat → ClassId} {base : Nat} {z : hp} (X : cx p s m args c cX8_init RX8 1 D dA) (hret : meth.sig.returnType = none) (hlk : meth.locks = false) (hR : 4 ≤ R.frames ∧ 84 ≤ R.locals) (hin : meth.name = "<init>") {n0 s0 : Nat} (hRc : z.2.2.2.1 ≤ n0 + R.cells ∧ z.2.2.2.2 ≤ s0 + R.slots) {σ : hp} {t0 : Nat} {H : Heap} {locs : List Loc} {ls : Array Slot} (hn : n0 ≤ σ.2.2.2.1 ∧ s0 ≤ σ.2.2.2.2) (hh : hw D dA base σ H) (hS : hs base s.heap H locs) (hl : lk ls 1 [(0, .inr (some t0))]) (h : S_X8_init σ t0 = some z) : W p l e R s m args below meth c H locs (σ.2.2.2.1 - n0) (σ.2.2.2.2 - s0) (MQ below (qG D dA base none z) args s (z.2.2.2.1 - n0) (z.2.2.2.2 - s0) (fun q => base ≤ q)) (F0 m 0 ls []) := by
  have hz0 := mo_X8_init_0 h
  have hcl : σ.2.2.2.1 - n0 ≤ R.cells ∧ σ.2.2.2.2 - s0 ≤ R.slots := by unfold le4 at hz0; omega
  unfold S_X8_init at h
  refine q_aload_n X dX8_init_0 rfl hl 0 rfl ?_
  refine q_objInit X hl cj_X8_1 gj_o1 gj_o2 dX8_init_1 ⟨Nat.le_trans (by decide) hR.1, Nat.le_trans (by decide) hR.2⟩ (cat8 [] (Nat.le_of_ble_eq_true rfl)) ?_
  refine q_aload_n X dX8_init_4 rfl hl 0 rfl ?_
  refine lv_iconst (v := (2 : Int32)) X.1 X.2.1 dX8_init_5 (by decide) ?_
  obtain ⟨q6, e_q6, h⟩ := o_b h
  have g6 := mo_X8_init_9 h
  have f6 := l_na e_q6
  unfold le4 at g6
  refine q_naQ (t := 2) X hh hS (by decide) rfl (gm 21 (by decide +kernel) rfl) (by decide) e_q6 dX8_init_6 (by omega) (by omega) (fun H hh hS => ?_)
  refine W.cs (cells' := q6.2.2.2.2.1 - n0) (slots' := q6.2.2.2.2.2 - s0) (by omega) (by omega) ?_
  have hn : n0 ≤ q6.2.2.2.2.1 ∧ s0 ≤ q6.2.2.2.2.2 := by omega
  exact K_X8_init_9 X hret hlk hR hin hRc hn hh hS (lk_sub hl [0] rfl) h
set_option maxRecDepth 100000 in
theorem M_X8_init (l : Launch) (D : va_G) (dA : Nat → ClassId) (base : Nat) (σ : hp) (t0 : Nat) {z : hp} (h : S_X8_init σ t0 = some z) : mt l yX8_init cX8_init 1 (none) 4 84 D dA base σ [.ref t0] none z (z.2.2.2.1 - σ.2.2.2.1) (z.2.2.2.2 - σ.2.2.2.2) := by
  have hzz := mo_X8_init_0 h
  unfold le4 at hzz
  refine Met.ofW (cc := cX8_init) (maxL := 1) (ret := none) (by decide) rfl ?_
  intro p e s m args below meth c s₁ B hml hv
  obtain ⟨rfl, hh, hK⟩ := hv
  have X : cx p s m ([.ref t0] : List Value).toArray c cX8_init RX8 1 D dA := ⟨B.exec, B.bytes, findClass_of_methodNamed B.named, hml, fun w hw => atoms_spec (ws := .code yX8_init cX8_init 1 (none) :: G) B.pre w (List.mem_cons_of_mem _ hw), hK⟩
  have hl := lk_entry [.inr (some t0)] (n := 1) (Nat.le_of_ble_eq_true rfl)
  rw [lg_entry_eq]
  have hl : lk ((lg_sl ([.ref t0] : List Value) ++ List.replicate (1 - (lg_sl ([.ref t0] : List Value)).length) Slot.unset).toArray) 1 [(0, .inr (some t0))] := hl
  generalize (lg_sl ([.ref t0] : List Value) ++ List.replicate (1 - (lg_sl ([.ref t0] : List Value)).length) Slot.unset).toArray = ls at hl ⊢
  refine W.cs (cells' := σ.2.2.2.1 - σ.2.2.2.1) (slots' := σ.2.2.2.2 - σ.2.2.2.2) (Nat.sub_self _).symm (Nat.sub_self _).symm ?_
  exact K_X8_init_0 X B.returns B.notSynchronized ⟨Nat.le_refl _, Nat.le_refl _⟩ (name_of_methodNamed B.named B.method).1 (n0 := σ.2.2.2.1) (s0 := σ.2.2.2.2) ⟨by show _ ≤ _ + (_ - _); omega, by show _ ≤ _ + (_ - _); omega⟩ ⟨Nat.le_refl _, Nat.le_refl _⟩ hh va_S.rf hl h
theorem ke_X8_put_20 {z : Int32 × hp} {σ : hp} (h : S_X8_put_20 σ = some z) : eq4 σ z.2 := by
  unfold S_X8_put_20 at h
  cases h
  show eq4 σ σ
  exact eq4.rf _
set_option maxHeartbeats 4000000 in
set_option maxRecDepth 100000 in
theorem K_X8_put_20 {p : Program} {l : Launch} {e : Env} {R : Room} {s : State} {m : MethodId} {args : Array Value} {below : List Frame} {meth : Method} {c : Code} {D : va_G} {dA : Nat → ClassId} {base : Nat} {z : Int32 × hp} (X : cx p s m args c cX8_put RX8 2 D dA) (hret : meth.sig.returnType = some .int) (hlk : meth.locks = false) (hR : 0 ≤ R.frames ∧ 0 ≤ R.locals) {σ : hp} {H : Heap} {locs : List Loc} {ls : Array Slot} (hh : hw D dA base σ H) (hS : hs base s.heap H locs) (hl : lk ls 2 []) (h : S_X8_put_20 σ = some z) : W p l e R s m args below meth c H locs 0 0 (MQ below (qG D dA base (some (.int z.1)) z.2) args s 0 0 (fun q => base ≤ q)) (F0 m 20 ls []) := by
  unfold S_X8_put_20 at h
  refine lv_iconst (v := (-1 : Int32)) X.1 X.2.1 dX8_put_20 (by decide) ?_
  cases h
  exact q_iret X hret hlk hh hS dX8_put_21
theorem ke_X8_put_0 {z : Int32 × hp} {σ : hp} {t0 : Nat} {v1 : Int32} (h : S_X8_put σ t0 v1 = some z) : eq4 σ z.2 := by
  unfold S_X8_put at h
  by_cases c1 : v1 < (0 : Int32)
  · rw [if_pos c1] at h
    exact (ke_X8_put_20 h)
  · rw [if_neg c1] at h
    by_cases c8 : (255 : Int32) < v1
    · rw [if_pos c8] at h
      exact (ke_X8_put_20 h)
    · rw [if_neg c8] at h
      obtain ⟨t12, e_t12, h⟩ := o_b h
      by_cases c17 : t12 < (100 : Int32)
      · rw [if_pos c17] at h
        obtain ⟨t23, e_t23, h⟩ := o_b h
        obtain ⟨t27, e_t27, h⟩ := o_b h
        obtain ⟨s31, e_s31, h⟩ := o_b h
        obtain ⟨t34, e_t34, h⟩ := o_b h
        obtain ⟨s39, e_s39, h⟩ := o_b h
        obtain ⟨t43, e_t43, h⟩ := o_b h
        cases h
        show eq4 σ s39
        exact ((e_stI e_s31)).tr (e_pI e_s39)
      · rw [if_neg c17] at h
        exact (ke_X8_put_20 h)
set_option maxHeartbeats 4000000 in
set_option maxRecDepth 100000 in
theorem K_X8_put_0 {p : Program} {l : Launch} {e : Env} {R : Room} {s : State} {m : MethodId} {args : Array Value} {below : List Frame} {meth : Method} {c : Code} {D : va_G} {dA : Nat → ClassId} {base : Nat} {z : Int32 × hp} (X : cx p s m args c cX8_put RX8 2 D dA) (hret : meth.sig.returnType = some .int) (hlk : meth.locks = false) (hR : 0 ≤ R.frames ∧ 0 ≤ R.locals) {σ : hp} {t0 : Nat} {v1 : Int32} {H : Heap} {locs : List Loc} {ls : Array Slot} (hh : hw D dA base σ H) (hS : hs base s.heap H locs) (hl : lk ls 2 [(0, .inr (some t0)), (1, .inl v1)]) (h : S_X8_put σ t0 v1 = some z) : W p l e R s m args below meth c H locs 0 0 (MQ below (qG D dA base (some (.int z.1)) z.2) args s 0 0 (fun q => base ≤ q)) (F0 m 0 ls []) := by
  unfold S_X8_put at h
  refine q_iload_n X dX8_put_0 rfl hl 1 rfl ?_
  refine lv_if_lt (tgt := 20) X.1 X.2.1 dX8_put_1 (by decide) (fun c1 => ?_) (fun c1 => ?_)
  · rw [if_pos c1] at h
    exact K_X8_put_20 X hret hlk hR hh hS (lk_sub hl [] rfl) h
  · rw [if_neg c1] at h
    refine q_iload_n X dX8_put_4 rfl hl 1 rfl ?_
    refine lv_sipush (v := (255 : Int32)) X.1 X.2.1 dX8_put_5 (by decide) ?_
    refine lv_icmp_gt (tgt := 20) X.1 X.2.1 dX8_put_8 (by decide) (fun c8 => ?_) (fun c8 => ?_)
    · rw [if_pos c8] at h
      exact K_X8_put_20 X hret hlk hR hh hS (lk_sub hl [] rfl) h
    · rw [if_neg c8] at h
      refine q_aload_n X dX8_put_11 rfl hl 0 rfl ?_
      obtain ⟨t12, e_t12, h⟩ := o_b h
      refine q_gI X hh fa_X8_29 rfl e_t12 dX8_put_12 ?_
      refine lv_bipush (v := (100 : Int32)) X.1 X.2.1 dX8_put_15 (by decide) ?_
      refine lv_icmp_lt (tgt := 22) X.1 X.2.1 dX8_put_17 (by decide) (fun c17 => ?_) (fun c17 => ?_)
      · rw [if_pos c17] at h
        refine q_aload_n X dX8_put_22 rfl hl 0 rfl ?_
        obtain ⟨t23, e_t23, h⟩ := o_b h
        refine q_gR X hh fa_X8_25 rfl e_t23 dX8_put_23 ?_
        refine q_aload_n X dX8_put_26 rfl hl 0 rfl ?_
        obtain ⟨t27, e_t27, h⟩ := o_b h
        refine q_gI X hh fa_X8_29 rfl e_t27 dX8_put_27 ?_
        refine q_iload_n X dX8_put_30 rfl hl 1 rfl ?_
        obtain ⟨s31, e_s31, h⟩ := o_b h
        refine q_stI X hh hS e_s31 dX8_put_31 (fun H locs hh hS => ?_)
        refine q_aload_n X dX8_put_32 rfl hl 0 rfl ?_
        refine lv_dup X.1 X.2.1 dX8_put_33 (vv_cat (.inr (some t0))) ?_
        obtain ⟨t34, e_t34, h⟩ := o_b h
        refine q_gI X hh fa_X8_29 rfl e_t34 dX8_put_34 ?_
        refine lv_iconst (v := (1 : Int32)) X.1 X.2.1 dX8_put_37 (by decide) ?_
        refine lv_iadd X.1 X.2.1 dX8_put_38 ?_
        obtain ⟨s39, e_s39, h⟩ := o_b h
        refine q_pI X hh hS fp_X8_29 (fun h => by cases h) rfl e_s39 dX8_put_39 (fun H locs hh hS => ?_)
        refine q_aload_n X dX8_put_42 rfl hl 0 rfl ?_
        obtain ⟨t43, e_t43, h⟩ := o_b h
        refine q_gI X hh fa_X8_29 rfl e_t43 dX8_put_43 ?_
        cases h
        exact q_iret X hret hlk hh hS dX8_put_46
      · rw [if_neg c17] at h
        exact K_X8_put_20 X hret hlk hR hh hS (lk_sub hl [] rfl) h
set_option maxRecDepth 100000 in
theorem M_X8_put (l : Launch) (D : va_G) (dA : Nat → ClassId) (base : Nat) (σ : hp) (t0 : Nat) (v1 : Int32) {z : Int32 × hp} (h : S_X8_put σ t0 v1 = some z) : mt l yX8_put cX8_put 2 (some .int) 0 0 D dA base σ [.ref t0, .int v1] (some (.int z.1)) z.2 0 0 := by
  refine Met.ofW (cc := cX8_put) (maxL := 2) (ret := some .int) (by decide) rfl ?_
  intro p e s m args below meth c s₁ B hml hv
  obtain ⟨rfl, hh, hK⟩ := hv
  have X : cx p s m ([.ref t0, .int v1] : List Value).toArray c cX8_put RX8 2 D dA := ⟨B.exec, B.bytes, findClass_of_methodNamed B.named, hml, fun w hw => atoms_spec (ws := .code yX8_put cX8_put 2 (some .int) :: G) B.pre w (List.mem_cons_of_mem _ hw), hK⟩
  have hl := lk_entry [.inr (some t0), .inl v1] (n := 2) (Nat.le_of_ble_eq_true rfl)
  rw [lg_entry_eq]
  have hl : lk ((lg_sl ([.ref t0, .int v1] : List Value) ++ List.replicate (2 - (lg_sl ([.ref t0, .int v1] : List Value)).length) Slot.unset).toArray) 2 [(0, .inr (some t0)), (1, .inl v1)] := hl
  generalize (lg_sl ([.ref t0, .int v1] : List Value) ++ List.replicate (2 - (lg_sl ([.ref t0, .int v1] : List Value)).length) Slot.unset).toArray = ls at hl ⊢
  exact K_X8_put_0 X B.returns B.notSynchronized ⟨Nat.le_refl _, Nat.le_refl _⟩ hh va_S.rf hl h
set_option maxHeartbeats 4000000 in
set_option maxRecDepth 100000 in
theorem K_X8_isSite_14 {p : Program} {l : Launch} {e : Env} {R : Room} {s : State} {m : MethodId} {args : Array Value} {below : List Frame} {meth : Method} {c : Code} {D : va_G} {dA : Nat → ClassId} {base : Nat} {z : Int32} (X : cx p s m args c cX8_isSite RX8 1 D dA) (hret : meth.sig.returnType = some .boolean) (hlk : meth.locks = false) (hR : 0 ≤ R.frames ∧ 0 ≤ R.locals) {σ : hp} {w0 : Int32} {H : Heap} {locs : List Loc} {ls : Array Slot} (hh : hw D dA base σ H) (hS : hs base s.heap H locs) (hl : lk ls 1 []) (h : S_X8_isSite_14 σ w0 = some z) : W p l e R s m args below meth c H locs 0 0 (MQ below (qG D dA base (some (.int z)) σ) args s 0 0 (fun q => base ≤ q)) (F0 m 14 ls [.int w0]) := by
  unfold S_X8_isSite_14 at h
  obtain ⟨z14, e_z14, h⟩ := o_b h
  cases h
  exact q_zret X hret hlk hh hS e_z14 dX8_isSite_14
set_option maxHeartbeats 4000000 in
set_option maxRecDepth 100000 in
theorem K_X8_isSite_9 {p : Program} {l : Launch} {e : Env} {R : Room} {s : State} {m : MethodId} {args : Array Value} {below : List Frame} {meth : Method} {c : Code} {D : va_G} {dA : Nat → ClassId} {base : Nat} {z : Int32} (X : cx p s m args c cX8_isSite RX8 1 D dA) (hret : meth.sig.returnType = some .boolean) (hlk : meth.locks = false) (hR : 0 ≤ R.frames ∧ 0 ≤ R.locals) {σ : hp} {H : Heap} {locs : List Loc} {ls : Array Slot} (hh : hw D dA base σ H) (hS : hs base s.heap H locs) (hl : lk ls 1 []) (h : S_X8_isSite_9 σ = some z) : W p l e R s m args below meth c H locs 0 0 (MQ below (qG D dA base (some (.int z)) σ) args s 0 0 (fun q => base ≤ q)) (F0 m 9 ls []) := by
  unfold S_X8_isSite_9 at h
  refine lv_iconst (v := (1 : Int32)) X.1 X.2.1 dX8_isSite_9 (by decide) ?_
  refine lv_goto (tgt := 14) X.1 X.2.1 dX8_isSite_10 (by decide) ?_
  exact K_X8_isSite_14 X hret hlk hR hh hS (lk_sub hl [] rfl) h
set_option maxHeartbeats 4000000 in
set_option maxRecDepth 100000 in
theorem K_X8_isSite_0 {p : Program} {l : Launch} {e : Env} {R : Room} {s : State} {m : MethodId} {args : Array Value} {below : List Frame} {meth : Method} {c : Code} {D : va_G} {dA : Nat → ClassId} {base : Nat} {z : Int32} (X : cx p s m args c cX8_isSite RX8 1 D dA) (hret : meth.sig.returnType = some .boolean) (hlk : meth.locks = false) (hR : 0 ≤ R.frames ∧ 0 ≤ R.locals) {σ : hp} {v0 : Int32} {H : Heap} {locs : List Loc} {ls : Array Slot} (hh : hw D dA base σ H) (hS : hs base s.heap H locs) (hl : lk ls 1 [(0, .inl v0)]) (h : S_X8_isSite σ v0 = some z) : W p l e R s m args below meth c H locs 0 0 (MQ below (qG D dA base (some (.int z)) σ) args s 0 0 (fun q => base ≤ q)) (F0 m 0 ls []) := by
  unfold S_X8_isSite at h
  refine q_iload_n X dX8_isSite_0 rfl hl 0 rfl ?_
  refine lv_if_eq (tgt := 9) X.1 X.2.1 dX8_isSite_1 (by decide) (fun c1 => ?_) (fun c1 => ?_)
  · rw [if_pos c1] at h
    exact K_X8_isSite_9 X hret hlk hR hh hS (lk_sub hl [] rfl) h
  · rw [if_neg c1] at h
    refine q_iload_n X dX8_isSite_4 rfl hl 0 rfl ?_
    refine lv_iconst (v := (1 : Int32)) X.1 X.2.1 dX8_isSite_5 (by decide) ?_
    refine lv_icmp_ne (tgt := 13) X.1 X.2.1 dX8_isSite_6 (by decide) (fun c6 => ?_) (fun c6 => ?_)
    · rw [if_neg c6] at h
      refine lv_iconst (v := (0 : Int32)) X.1 X.2.1 dX8_isSite_13 (by decide) ?_
      exact K_X8_isSite_14 X hret hlk hR hh hS (lk_sub hl [] rfl) h
    · rw [if_pos c6] at h
      exact K_X8_isSite_9 X hret hlk hR hh hS (lk_sub hl [] rfl) h
set_option maxRecDepth 100000 in
theorem M_X8_isSite (l : Launch) (D : va_G) (dA : Nat → ClassId) (base : Nat) (σ : hp) (v0 : Int32) {z : Int32} (h : S_X8_isSite σ v0 = some z) : mt l yX8_isSite cX8_isSite 1 (some .boolean) 0 0 D dA base σ [.int v0] (some (.int z)) σ 0 0 := by
  refine Met.ofW (cc := cX8_isSite) (maxL := 1) (ret := some .boolean) (by decide) rfl ?_
  intro p e s m args below meth c s₁ B hml hv
  obtain ⟨rfl, hh, hK⟩ := hv
  have X : cx p s m ([.int v0] : List Value).toArray c cX8_isSite RX8 1 D dA := ⟨B.exec, B.bytes, findClass_of_methodNamed B.named, hml, fun w hw => atoms_spec (ws := .code yX8_isSite cX8_isSite 1 (some .boolean) :: G) B.pre w (List.mem_cons_of_mem _ hw), hK⟩
  have hl := lk_entry [.inl v0] (n := 1) (Nat.le_of_ble_eq_true rfl)
  rw [lg_entry_eq]
  have hl : lk ((lg_sl ([.int v0] : List Value) ++ List.replicate (1 - (lg_sl ([.int v0] : List Value)).length) Slot.unset).toArray) 1 [(0, .inl v0)] := hl
  generalize (lg_sl ([.int v0] : List Value) ++ List.replicate (1 - (lg_sl ([.int v0] : List Value)).length) Slot.unset).toArray = ls at hl ⊢
  exact K_X8_isSite_0 X B.returns B.notSynchronized ⟨Nat.le_refl _, Nat.le_refl _⟩ hh va_S.rf hl h
theorem mo_X8_queue_40 {z : Int32 × hp} {σ : hp} {v2 : Int32} (h : S_X8_queue_40 σ v2 = some z) : le4 σ z.2 := by
  unfold S_X8_queue_40 at h
  cases h
  show le4 σ σ
  exact le4.rf _
set_option maxHeartbeats 4000000 in
set_option maxRecDepth 100000 in
theorem K_X8_queue_40 {p : Program} {l : Launch} {e : Env} {R : Room} {s : State} {m : MethodId} {args : Array Value} {below : List Frame} {meth : Method} {c : Code} {D : va_G} {dA : Nat → ClassId} {base : Nat} {z : Int32 × hp} (X : cx p s m args c cX8_queue RX8 3 D dA) (hret : meth.sig.returnType = some .int) (hlk : meth.locks = false) (hR : 3 ≤ R.frames ∧ 72 ≤ R.locals) {n0 s0 : Nat} (hRc : z.2.2.2.2.1 ≤ n0 + R.cells ∧ z.2.2.2.2.2 ≤ s0 + R.slots) {σ : hp} {v2 : Int32} {H : Heap} {locs : List Loc} {ls : Array Slot} (hn : n0 ≤ σ.2.2.2.1 ∧ s0 ≤ σ.2.2.2.2) (hh : hw D dA base σ H) (hS : hs base s.heap H locs) (hl : lk ls 3 [(2, .inl v2)]) (h : S_X8_queue_40 σ v2 = some z) : W p l e R s m args below meth c H locs (σ.2.2.2.1 - n0) (σ.2.2.2.2 - s0) (MQ below (qG D dA base (some (.int z.1)) z.2) args s (z.2.2.2.2.1 - n0) (z.2.2.2.2.2 - s0) (fun q => base ≤ q)) (F0 m 40 ls []) := by
  have hz0 := mo_X8_queue_40 h
  have hcl : σ.2.2.2.1 - n0 ≤ R.cells ∧ σ.2.2.2.2 - s0 ≤ R.slots := by unfold le4 at hz0; omega
  unfold S_X8_queue_40 at h
  refine q_iload_n X dX8_queue_40 rfl hl 0 rfl ?_
  cases h
  exact q_iret X hret hlk hh hS dX8_queue_41
theorem mo_X8_queue_29 {z : Int32 × hp} {σ : hp} {t0 : Nat} {w0 : Int32} (h : S_X8_queue_29 σ t0 w0 = some z) : le4 σ z.2 := by
  unfold S_X8_queue_29 at h
  by_cases c32 : w0 = (-1 : Int32)
  · rw [if_pos c32] at h
    exact (mo_X8_queue_40 h)
  · rw [if_neg c32] at h
    obtain ⟨s37, e_s37, h⟩ := o_b h
    exact ((e_pI e_s37).le).tr (mo_X8_queue_40 h)
set_option maxHeartbeats 4000000 in
set_option maxRecDepth 100000 in
theorem K_X8_queue_29 {p : Program} {l : Launch} {e : Env} {R : Room} {s : State} {m : MethodId} {args : Array Value} {below : List Frame} {meth : Method} {c : Code} {D : va_G} {dA : Nat → ClassId} {base : Nat} {z : Int32 × hp} (X : cx p s m args c cX8_queue RX8 3 D dA) (hret : meth.sig.returnType = some .int) (hlk : meth.locks = false) (hR : 3 ≤ R.frames ∧ 72 ≤ R.locals) {n0 s0 : Nat} (hRc : z.2.2.2.2.1 ≤ n0 + R.cells ∧ z.2.2.2.2.2 ≤ s0 + R.slots) {σ : hp} {t0 : Nat} {w0 : Int32} {H : Heap} {locs : List Loc} {ls : Array Slot} (hn : n0 ≤ σ.2.2.2.1 ∧ s0 ≤ σ.2.2.2.2) (hh : hw D dA base σ H) (hS : hs base s.heap H locs) (hl : lk ls 3 [(0, .inr (some t0))]) (h : S_X8_queue_29 σ t0 w0 = some z) : W p l e R s m args below meth c H locs (σ.2.2.2.1 - n0) (σ.2.2.2.2 - s0) (MQ below (qG D dA base (some (.int z.1)) z.2) args s (z.2.2.2.2.1 - n0) (z.2.2.2.2.2 - s0) (fun q => base ≤ q)) (F0 m 29 ls [.int w0]) := by
  have hz0 := mo_X8_queue_29 h
  have hcl : σ.2.2.2.1 - n0 ≤ R.cells ∧ σ.2.2.2.2 - s0 ≤ R.slots := by unfold le4 at hz0; omega
  unfold S_X8_queue_29 at h
  refine q_istore_n (lv' := [(2, .inl w0), (0, .inr (some t0))]) X dX8_queue_29 rfl hl (by decide) rfl (fun ls hl => ?_)
  refine q_iload_n X dX8_queue_30 rfl hl 0 rfl ?_
  refine lv_iconst (v := (-1 : Int32)) X.1 X.2.1 dX8_queue_31 (by decide) ?_
  refine lv_icmp_eq (tgt := 40) X.1 X.2.1 dX8_queue_32 (by decide) (fun c32 => ?_) (fun c32 => ?_)
  · rw [if_pos c32] at h
    exact K_X8_queue_40 X hret hlk hR hRc hn hh hS (lk_sub hl [0] rfl) h
  · rw [if_neg c32] at h
    refine q_aload_n X dX8_queue_35 rfl hl 1 rfl ?_
    refine lv_iconst (v := (0 : Int32)) X.1 X.2.1 dX8_queue_36 (by decide) ?_
    obtain ⟨s37, e_s37, h⟩ := o_b h
    refine q_pI X hh hS fp_X8_29 (fun h => by cases h) rfl e_s37 dX8_queue_37 (fun H locs hh hS => ?_)
    have ys37 : eq4 σ s37 := (e_pI e_s37)
    refine W.cs (cells' := s37.2.2.2.1 - n0) (slots' := s37.2.2.2.2 - s0) (by rw [show s37.2.2.2 = σ.2.2.2 from ys37]) (by rw [show s37.2.2.2 = σ.2.2.2 from ys37]) ?_
    have hn : n0 ≤ s37.2.2.2.1 ∧ s0 ≤ s37.2.2.2.2 := by rw [show s37.2.2.2 = σ.2.2.2 from ys37]; exact hn
    have hcl : s37.2.2.2.1 - n0 ≤ R.cells ∧ s37.2.2.2.2 - s0 ≤ R.slots := by rw [show s37.2.2.2 = σ.2.2.2 from ys37]; exact hcl
    exact K_X8_queue_40 X hret hlk hR hRc hn hh hS (lk_sub hl [0] rfl) h
theorem mo_X8_queue_0 {z : Int32 × hp} {σ : hp} {t0 : Nat} {v1 : Int32} (h : S_X8_queue σ t0 v1 = some z) : le4 σ z.2 := by
  unfold S_X8_queue at h
  obtain ⟨q1, e_q1, h⟩ := o_b h
  by_cases c4 : q1 = (0 : Int32)
  · rw [if_pos c4] at h
    cases h
    show le4 σ σ
    exact le4.rf _
  · rw [if_neg c4] at h
    obtain ⟨t10, e_t10, h⟩ := o_b h
    obtain ⟨t14, e_t14, h⟩ := o_b h
    obtain ⟨t15, e_t15, h⟩ := o_b h
    obtain ⟨t19, e_t19, h⟩ := o_b h
    obtain ⟨t23, e_t23, h⟩ := o_b h
    obtain ⟨b26, e_b26, h⟩ := o_b h
    obtain ⟨q26, e_q26, h⟩ := o_b h
    exact ((mo_X0_addJob_0 e_q26)).tr (mo_X8_queue_29 h)
set_option maxHeartbeats 4000000 in
set_option maxRecDepth 100000 in
theorem K_X8_queue_0 {p : Program} {l : Launch} {e : Env} {R : Room} {s : State} {m : MethodId} {args : Array Value} {below : List Frame} {meth : Method} {c : Code} {D : va_G} {dA : Nat → ClassId} {base : Nat} {z : Int32 × hp} (X : cx p s m args c cX8_queue RX8 3 D dA) (hret : meth.sig.returnType = some .int) (hlk : meth.locks = false) (hR : 3 ≤ R.frames ∧ 72 ≤ R.locals) {n0 s0 : Nat} (hRc : z.2.2.2.2.1 ≤ n0 + R.cells ∧ z.2.2.2.2.2 ≤ s0 + R.slots) {σ : hp} {t0 : Nat} {v1 : Int32} {H : Heap} {locs : List Loc} {ls : Array Slot} (hn : n0 ≤ σ.2.2.2.1 ∧ s0 ≤ σ.2.2.2.2) (hh : hw D dA base σ H) (hS : hs base s.heap H locs) (hl : lk ls 3 [(0, .inr (some t0)), (1, .inl v1)]) (h : S_X8_queue σ t0 v1 = some z) : W p l e R s m args below meth c H locs (σ.2.2.2.1 - n0) (σ.2.2.2.2 - s0) (MQ below (qG D dA base (some (.int z.1)) z.2) args s (z.2.2.2.2.1 - n0) (z.2.2.2.2.2 - s0) (fun q => base ≤ q)) (F0 m 0 ls []) := by
  have hz0 := mo_X8_queue_0 h
  have hcl : σ.2.2.2.1 - n0 ≤ R.cells ∧ σ.2.2.2.2 - s0 ≤ R.slots := by unfold le4 at hz0; omega
  unfold S_X8_queue at h
  refine q_iload_n X dX8_queue_0 rfl hl 1 rfl ?_
  obtain ⟨q1, e_q1, h⟩ := o_b h
  refine q_cS (As := [.int v1]) X hh hS hl cf_X8_33 rfl (M_X8_isSite l D dA base σ v1 e_q1) ⟨Nat.le_trans (by decide) hR.1, Nat.le_trans (by decide) hR.2⟩ (cat8 [] (Nat.le_of_ble_eq_true rfl)) dX8_queue_1 ⟨Nat.le_trans (Nat.le_of_eq (Nat.add_zero _)) hcl.1, Nat.le_trans (Nat.le_of_eq (Nat.add_zero _)) hcl.2⟩ rfl rfl (fun H locs hh hS => ?_)
  refine W.cs (cells' := σ.2.2.2.1 - n0) (slots' := σ.2.2.2.2 - s0) (Nat.add_zero _) (Nat.add_zero _) ?_
  refine lv_if_ne (tgt := 9) X.1 X.2.1 dX8_queue_4 (by decide) (fun c4 => ?_) (fun c4 => ?_)
  · rw [if_neg c4] at h
    refine q_aload_n X dX8_queue_9 rfl hl 0 rfl ?_
    obtain ⟨t10, e_t10, h⟩ := o_b h
    refine q_gR X hh fa_X8_21 rfl e_t10 dX8_queue_10 ?_
    refine q_iload_n X dX8_queue_13 rfl hl 1 rfl ?_
    obtain ⟨t14, e_t14, h⟩ := o_b h
    refine q_ldQ X hh (by decide) rfl e_t14 dX8_queue_14 ?_
    obtain ⟨t15, e_t15, h⟩ := o_b h
    refine q_gR X hh fa_X8_37 rfl e_t15 dX8_queue_15 ?_
    refine q_aload_n X dX8_queue_18 rfl hl 0 rfl ?_
    obtain ⟨t19, e_t19, h⟩ := o_b h
    refine q_gR X hh fa_X8_25 rfl e_t19 dX8_queue_19 ?_
    refine q_aload_n X dX8_queue_22 rfl hl 0 rfl ?_
    obtain ⟨t23, e_t23, h⟩ := o_b h
    refine q_gI X hh fa_X8_29 rfl e_t23 dX8_queue_23 ?_
    obtain ⟨b26, e_b26, h⟩ := o_b h
    obtain ⟨q26, e_q26, h⟩ := o_b h
    have g26 := mo_X8_queue_29 h
    have f26 := mo_X0_addJob_0 e_q26
    unfold le4 at g26 f26
    refine q_cV (As := [va_rf t19, .int t23]) X hh hS hl cf_X8_41 (cN := 0) rfl rfl e_b26 rfl (M_X0_addJob l D dA base σ b26 t19 t23 e_q26) ⟨Nat.le_trans (by decide) hR.1, Nat.le_trans (by decide) hR.2⟩ (cat8 [] (Nat.le_of_ble_eq_true rfl)) dX8_queue_26 ⟨by omega, by omega⟩ rfl rfl (fun H locs hh hS => ?_)
    refine W.cs (cells' := q26.2.2.2.2.1 - n0) (slots' := q26.2.2.2.2.2 - s0) (by omega) (by omega) ?_
    have hn : n0 ≤ q26.2.2.2.2.1 ∧ s0 ≤ q26.2.2.2.2.2 := by omega
    exact K_X8_queue_29 X hret hlk hR hRc hn hh hS (lk_sub hl [0] rfl) h
  · rw [if_pos c4] at h
    refine lv_iconst (v := (-1 : Int32)) X.1 X.2.1 dX8_queue_7 (by decide) ?_
    cases h
    exact q_iret X hret hlk hh hS dX8_queue_8
set_option maxRecDepth 100000 in
theorem M_X8_queue (l : Launch) (D : va_G) (dA : Nat → ClassId) (base : Nat) (σ : hp) (t0 : Nat) (v1 : Int32) {z : Int32 × hp} (h : S_X8_queue σ t0 v1 = some z) : mt l yX8_queue cX8_queue 3 (some .int) 3 72 D dA base σ [.ref t0, .int v1] (some (.int z.1)) z.2 (z.2.2.2.2.1 - σ.2.2.2.1) (z.2.2.2.2.2 - σ.2.2.2.2) := by
  have hzz := mo_X8_queue_0 h
  unfold le4 at hzz
  refine Met.ofW (cc := cX8_queue) (maxL := 3) (ret := some .int) (by decide) rfl ?_
  intro p e s m args below meth c s₁ B hml hv
  obtain ⟨rfl, hh, hK⟩ := hv
  have X : cx p s m ([.ref t0, .int v1] : List Value).toArray c cX8_queue RX8 3 D dA := ⟨B.exec, B.bytes, findClass_of_methodNamed B.named, hml, fun w hw => atoms_spec (ws := .code yX8_queue cX8_queue 3 (some .int) :: G) B.pre w (List.mem_cons_of_mem _ hw), hK⟩
  have hl := lk_entry [.inr (some t0), .inl v1] (n := 3) (Nat.le_of_ble_eq_true rfl)
  rw [lg_entry_eq]
  have hl : lk ((lg_sl ([.ref t0, .int v1] : List Value) ++ List.replicate (3 - (lg_sl ([.ref t0, .int v1] : List Value)).length) Slot.unset).toArray) 3 [(0, .inr (some t0)), (1, .inl v1)] := hl
  generalize (lg_sl ([.ref t0, .int v1] : List Value) ++ List.replicate (3 - (lg_sl ([.ref t0, .int v1] : List Value)).length) Slot.unset).toArray = ls at hl ⊢
  refine W.cs (cells' := σ.2.2.2.1 - σ.2.2.2.1) (slots' := σ.2.2.2.2 - σ.2.2.2.2) (Nat.sub_self _).symm (Nat.sub_self _).symm ?_
  exact K_X8_queue_0 X B.returns B.notSynchronized ⟨Nat.le_refl _, Nat.le_refl _⟩ (n0 := σ.2.2.2.1) (s0 := σ.2.2.2.2) ⟨by show _ ≤ _ + (_ - _); omega, by show _ ≤ _ + (_ - _); omega⟩ ⟨Nat.le_refl _, Nat.le_refl _⟩ hh va_S.rf hl h
theorem ke_X8_call_19 {z : Int32 × hp} {σ : hp} (h : S_X8_call_19 σ = some z) : eq4 σ z.2 := by
  unfold S_X8_call_19 at h
  cases h
  show eq4 σ σ
  exact eq4.rf _
set_option maxHeartbeats 4000000 in
set_option maxRecDepth 100000 in
theorem K_X8_call_19 {p : Program} {l : Launch} {e : Env} {R : Room} {s : State} {m : MethodId} {args : Array Value} {below : List Frame} {meth : Method} {c : Code} {D : va_G} {dA : Nat → ClassId} {base : Nat} {z : Int32 × hp} (X : cx p s m args c cX8_call RX8 2 D dA) (hret : meth.sig.returnType = some .boolean) (hlk : meth.locks = false) (hR : 3 ≤ R.frames ∧ 68 ≤ R.locals) {σ : hp} {H : Heap} {locs : List Loc} {ls : Array Slot} (hh : hw D dA base σ H) (hS : hs base s.heap H locs) (hl : lk ls 2 []) (h : S_X8_call_19 σ = some z) : W p l e R s m args below meth c H locs 0 0 (MQ below (qG D dA base (some (.int z.1)) z.2) args s 0 0 (fun q => base ≤ q)) (F0 m 19 ls []) := by
  unfold S_X8_call_19 at h
  refine lv_iconst (v := (0 : Int32)) X.1 X.2.1 dX8_call_19 (by decide) ?_
  cases h
  exact q_zret X hret hlk hh hS (by rfl) dX8_call_20
theorem ke_X8_call_0 {z : Int32 × hp} {σ : hp} {t0 : Nat} {v1 : Int32} (h : S_X8_call σ t0 v1 = some z) : eq4 σ z.2 := by
  unfold S_X8_call at h
  obtain ⟨q1, e_q1, h⟩ := o_b h
  by_cases c4 : q1 = (0 : Int32)
  · rw [if_pos c4] at h
    exact (ke_X8_call_19 h)
  · rw [if_neg c4] at h
    obtain ⟨t8, e_t8, h⟩ := o_b h
    obtain ⟨t12, e_t12, h⟩ := o_b h
    obtain ⟨t13, e_t13, h⟩ := o_b h
    by_cases c16 : t13 = (0 : Int32)
    · rw [if_pos c16] at h
      obtain ⟨t22, e_t22, h⟩ := o_b h
      obtain ⟨t26, e_t26, h⟩ := o_b h
      obtain ⟨b27, e_b27, h⟩ := o_b h
      obtain ⟨q27, e_q27, h⟩ := o_b h
      obtain ⟨t31, e_t31, h⟩ := o_b h
      obtain ⟨t35, e_t35, h⟩ := o_b h
      obtain ⟨b36, e_b36, h⟩ := o_b h
      obtain ⟨q36, e_q36, h⟩ := o_b h
      obtain ⟨t40, e_t40, h⟩ := o_b h
      obtain ⟨t44, e_t44, h⟩ := o_b h
      obtain ⟨b45, e_b45, h⟩ := o_b h
      obtain ⟨q45, e_q45, h⟩ := o_b h
      cases h
      show eq4 σ q45
      exact (((ke_X7_clear_0 e_q27)).tr (ke_X7_clear_0 e_q36)).tr (ke_X5_beginCall_0 e_q45)
    · rw [if_neg c16] at h
      exact (ke_X8_call_19 h)
set_option maxHeartbeats 4000000 in
set_option maxRecDepth 100000 in
theorem K_X8_call_0 {p : Program} {l : Launch} {e : Env} {R : Room} {s : State} {m : MethodId} {args : Array Value} {below : List Frame} {meth : Method} {c : Code} {D : va_G} {dA : Nat → ClassId} {base : Nat} {z : Int32 × hp} (X : cx p s m args c cX8_call RX8 2 D dA) (hret : meth.sig.returnType = some .boolean) (hlk : meth.locks = false) (hR : 3 ≤ R.frames ∧ 68 ≤ R.locals) {σ : hp} {t0 : Nat} {v1 : Int32} {H : Heap} {locs : List Loc} {ls : Array Slot} (hh : hw D dA base σ H) (hS : hs base s.heap H locs) (hl : lk ls 2 [(0, .inr (some t0)), (1, .inl v1)]) (h : S_X8_call σ t0 v1 = some z) : W p l e R s m args below meth c H locs 0 0 (MQ below (qG D dA base (some (.int z.1)) z.2) args s 0 0 (fun q => base ≤ q)) (F0 m 0 ls []) := by
  unfold S_X8_call at h
  refine q_iload_n X dX8_call_0 rfl hl 1 rfl ?_
  obtain ⟨q1, e_q1, h⟩ := o_b h
  refine q_cS (As := [.int v1]) X hh hS hl cf_X8_33 rfl (M_X8_isSite l D dA base σ v1 e_q1) ⟨Nat.le_trans (by decide) hR.1, Nat.le_trans (by decide) hR.2⟩ (cat8 [] (Nat.le_of_ble_eq_true rfl)) dX8_call_1 ⟨Nat.zero_le _, Nat.zero_le _⟩ rfl rfl (fun H locs hh hS => ?_)
  refine lv_if_eq (tgt := 19) X.1 X.2.1 dX8_call_4 (by decide) (fun c4 => ?_) (fun c4 => ?_)
  · rw [if_pos c4] at h
    exact K_X8_call_19 X hret hlk hR hh hS (lk_sub hl [] rfl) h
  · rw [if_neg c4] at h
    refine q_aload_n X dX8_call_7 rfl hl 0 rfl ?_
    obtain ⟨t8, e_t8, h⟩ := o_b h
    refine q_gR X hh fa_X8_21 rfl e_t8 dX8_call_8 ?_
    refine q_iload_n X dX8_call_11 rfl hl 1 rfl ?_
    obtain ⟨t12, e_t12, h⟩ := o_b h
    refine q_ldQ X hh (by decide) rfl e_t12 dX8_call_12 ?_
    obtain ⟨t13, e_t13, h⟩ := o_b h
    refine q_gI X hh fa_X8_47 rfl e_t13 dX8_call_13 ?_
    refine lv_if_eq (tgt := 21) X.1 X.2.1 dX8_call_16 (by decide) (fun c16 => ?_) (fun c16 => ?_)
    · rw [if_pos c16] at h
      refine q_aload_n X dX8_call_21 rfl hl 0 rfl ?_
      obtain ⟨t22, e_t22, h⟩ := o_b h
      refine q_gR X hh fa_X8_10 rfl e_t22 dX8_call_22 ?_
      refine lv_iconst (v := (0 : Int32)) X.1 X.2.1 dX8_call_25 (by decide) ?_
      obtain ⟨t26, e_t26, h⟩ := o_b h
      refine q_ldQ X hh (by decide) rfl e_t26 dX8_call_26 ?_
      obtain ⟨b27, e_b27, h⟩ := o_b h
      obtain ⟨q27, e_q27, h⟩ := o_b h
      refine q_cV (As := []) X hh hS hl cf_X8_50 (cN := 7) rfl rfl e_b27 rfl (M_X7_clear l D dA base σ b27  e_q27) ⟨Nat.le_trans (by decide) hR.1, Nat.le_trans (by decide) hR.2⟩ (cat8 [] (Nat.le_of_ble_eq_true rfl)) dX8_call_27 ⟨Nat.zero_le _, Nat.zero_le _⟩ rfl rfl (fun H locs hh hS => ?_)
      refine q_aload_n X dX8_call_30 rfl hl 0 rfl ?_
      obtain ⟨t31, e_t31, h⟩ := o_b h
      refine q_gR X hh fa_X8_10 rfl e_t31 dX8_call_31 ?_
      refine lv_iconst (v := (1 : Int32)) X.1 X.2.1 dX8_call_34 (by decide) ?_
      obtain ⟨t35, e_t35, h⟩ := o_b h
      refine q_ldQ X hh (by decide) rfl e_t35 dX8_call_35 ?_
      obtain ⟨b36, e_b36, h⟩ := o_b h
      obtain ⟨q36, e_q36, h⟩ := o_b h
      refine q_cV (As := []) X hh hS hl cf_X8_50 (cN := 7) rfl rfl e_b36 rfl (M_X7_clear l D dA base q27 b36  e_q36) ⟨Nat.le_trans (by decide) hR.1, Nat.le_trans (by decide) hR.2⟩ (cat8 [] (Nat.le_of_ble_eq_true rfl)) dX8_call_36 ⟨Nat.zero_le _, Nat.zero_le _⟩ rfl rfl (fun H locs hh hS => ?_)
      refine q_aload_n X dX8_call_39 rfl hl 0 rfl ?_
      obtain ⟨t40, e_t40, h⟩ := o_b h
      refine q_gR X hh fa_X8_21 rfl e_t40 dX8_call_40 ?_
      refine q_iload_n X dX8_call_43 rfl hl 1 rfl ?_
      obtain ⟨t44, e_t44, h⟩ := o_b h
      refine q_ldQ X hh (by decide) rfl e_t44 dX8_call_44 ?_
      obtain ⟨b45, e_b45, h⟩ := o_b h
      obtain ⟨q45, e_q45, h⟩ := o_b h
      refine q_cV (As := []) X hh hS hl cf_X8_53 (cN := 5) rfl rfl e_b45 rfl (M_X5_beginCall l D dA base q36 b45  e_q45) ⟨Nat.le_trans (by decide) hR.1, Nat.le_trans (by decide) hR.2⟩ (cat8 [] (Nat.le_of_ble_eq_true rfl)) dX8_call_45 ⟨Nat.zero_le _, Nat.zero_le _⟩ rfl rfl (fun H locs hh hS => ?_)
      refine lv_iconst (v := (1 : Int32)) X.1 X.2.1 dX8_call_48 (by decide) ?_
      cases h
      exact q_zret X hret hlk hh hS (by rfl) dX8_call_49
    · rw [if_neg c16] at h
      exact K_X8_call_19 X hret hlk hR hh hS (lk_sub hl [] rfl) h
set_option maxRecDepth 100000 in
theorem M_X8_call (l : Launch) (D : va_G) (dA : Nat → ClassId) (base : Nat) (σ : hp) (t0 : Nat) (v1 : Int32) {z : Int32 × hp} (h : S_X8_call σ t0 v1 = some z) : mt l yX8_call cX8_call 2 (some .boolean) 3 68 D dA base σ [.ref t0, .int v1] (some (.int z.1)) z.2 0 0 := by
  refine Met.ofW (cc := cX8_call) (maxL := 2) (ret := some .boolean) (by decide) rfl ?_
  intro p e s m args below meth c s₁ B hml hv
  obtain ⟨rfl, hh, hK⟩ := hv
  have X : cx p s m ([.ref t0, .int v1] : List Value).toArray c cX8_call RX8 2 D dA := ⟨B.exec, B.bytes, findClass_of_methodNamed B.named, hml, fun w hw => atoms_spec (ws := .code yX8_call cX8_call 2 (some .boolean) :: G) B.pre w (List.mem_cons_of_mem _ hw), hK⟩
  have hl := lk_entry [.inr (some t0), .inl v1] (n := 2) (Nat.le_of_ble_eq_true rfl)
  rw [lg_entry_eq]
  have hl : lk ((lg_sl ([.ref t0, .int v1] : List Value) ++ List.replicate (2 - (lg_sl ([.ref t0, .int v1] : List Value)).length) Slot.unset).toArray) 2 [(0, .inr (some t0)), (1, .inl v1)] := hl
  generalize (lg_sl ([.ref t0, .int v1] : List Value) ++ List.replicate (2 - (lg_sl ([.ref t0, .int v1] : List Value)).length) Slot.unset).toArray = ls at hl ⊢
  exact K_X8_call_0 X B.returns B.notSynchronized ⟨Nat.le_refl _, Nat.le_refl _⟩ hh va_S.rf hl h
theorem mo_X8_handOver_46 {z : Int32 × hp} {σ : hp} {w0 : Int32} (h : S_X8_handOver_46 σ w0 = some z) : le4 σ z.2 := by
  unfold S_X8_handOver_46 at h
  cases h
  show le4 σ σ
  exact le4.rf _
set_option maxHeartbeats 4000000 in
set_option maxRecDepth 100000 in
theorem K_X8_handOver_46 {p : Program} {l : Launch} {e : Env} {R : Room} {s : State} {m : MethodId} {args : Array Value} {below : List Frame} {meth : Method} {c : Code} {D : va_G} {dA : Nat → ClassId} {base : Nat} {z : Int32 × hp} (X : cx p s m args c cX8_handOver RX8 3 D dA) (hret : meth.sig.returnType = some .int) (hlk : meth.locks = false) (hR : 6 ≤ R.frames ∧ 132 ≤ R.locals) {n0 s0 : Nat} (hRc : z.2.2.2.2.1 ≤ n0 + R.cells ∧ z.2.2.2.2.2 ≤ s0 + R.slots) {σ : hp} {w0 : Int32} {H : Heap} {locs : List Loc} {ls : Array Slot} (hn : n0 ≤ σ.2.2.2.1 ∧ s0 ≤ σ.2.2.2.2) (hh : hw D dA base σ H) (hS : hs base s.heap H locs) (hl : lk ls 3 []) (h : S_X8_handOver_46 σ w0 = some z) : W p l e R s m args below meth c H locs (σ.2.2.2.1 - n0) (σ.2.2.2.2 - s0) (MQ below (qG D dA base (some (.int z.1)) z.2) args s (z.2.2.2.2.1 - n0) (z.2.2.2.2.2 - s0) (fun q => base ≤ q)) (F0 m 46 ls [.int w0]) := by
  have hz0 := mo_X8_handOver_46 h
  have hcl : σ.2.2.2.1 - n0 ≤ R.cells ∧ σ.2.2.2.2 - s0 ≤ R.slots := by unfold le4 at hz0; omega
  unfold S_X8_handOver_46 at h
  cases h
  exact q_iret X hret hlk hh hS dX8_handOver_46
theorem mo_X8_handOver_38 {z : Int32 × hp} {σ : hp} {w0 : Int32} (h : S_X8_handOver_38 σ w0 = some z) : le4 σ z.2 := by
  unfold S_X8_handOver_38 at h
  by_cases c38 : w0 = (0 : Int32)
  · rw [if_pos c38] at h
    exact (mo_X8_handOver_46 h)
  · rw [if_neg c38] at h
    exact (mo_X8_handOver_46 h)
set_option maxHeartbeats 4000000 in
set_option maxRecDepth 100000 in
theorem K_X8_handOver_38 {p : Program} {l : Launch} {e : Env} {R : Room} {s : State} {m : MethodId} {args : Array Value} {below : List Frame} {meth : Method} {c : Code} {D : va_G} {dA : Nat → ClassId} {base : Nat} {z : Int32 × hp} (X : cx p s m args c cX8_handOver RX8 3 D dA) (hret : meth.sig.returnType = some .int) (hlk : meth.locks = false) (hR : 6 ≤ R.frames ∧ 132 ≤ R.locals) {n0 s0 : Nat} (hRc : z.2.2.2.2.1 ≤ n0 + R.cells ∧ z.2.2.2.2.2 ≤ s0 + R.slots) {σ : hp} {w0 : Int32} {H : Heap} {locs : List Loc} {ls : Array Slot} (hn : n0 ≤ σ.2.2.2.1 ∧ s0 ≤ σ.2.2.2.2) (hh : hw D dA base σ H) (hS : hs base s.heap H locs) (hl : lk ls 3 []) (h : S_X8_handOver_38 σ w0 = some z) : W p l e R s m args below meth c H locs (σ.2.2.2.1 - n0) (σ.2.2.2.2 - s0) (MQ below (qG D dA base (some (.int z.1)) z.2) args s (z.2.2.2.2.1 - n0) (z.2.2.2.2.2 - s0) (fun q => base ≤ q)) (F0 m 38 ls [.int w0]) := by
  have hz0 := mo_X8_handOver_38 h
  have hcl : σ.2.2.2.1 - n0 ≤ R.cells ∧ σ.2.2.2.2 - s0 ≤ R.slots := by unfold le4 at hz0; omega
  unfold S_X8_handOver_38 at h
  refine lv_if_eq (tgt := 45) X.1 X.2.1 dX8_handOver_38 (by decide) (fun c38 => ?_) (fun c38 => ?_)
  · rw [if_pos c38] at h
    refine lv_iconst (v := (0 : Int32)) X.1 X.2.1 dX8_handOver_45 (by decide) ?_
    exact K_X8_handOver_46 X hret hlk hR hRc hn hh hS (lk_sub hl [] rfl) h
  · rw [if_neg c38] at h
    refine lv_iconst (v := (1 : Int32)) X.1 X.2.1 dX8_handOver_41 (by decide) ?_
    refine lv_goto (tgt := 46) X.1 X.2.1 dX8_handOver_42 (by decide) ?_
    exact K_X8_handOver_46 X hret hlk hR hRc hn hh hS (lk_sub hl [] rfl) h
theorem mo_X8_handOver_0 {z : Int32 × hp} {σ : hp} {t0 : Nat} {v1 : Int32} (h : S_X8_handOver σ t0 v1 = some z) : le4 σ z.2 := by
  unfold S_X8_handOver at h
  obtain ⟨t1, e_t1, h⟩ := o_b h
  obtain ⟨t5, e_t5, h⟩ := o_b h
  obtain ⟨b7, e_b7, h⟩ := o_b h
  obtain ⟨q7, e_q7, h⟩ := o_b h
  by_cases c12 : q7 = none
  · rw [if_pos c12] at h
    cases h
    show le4 σ σ
    exact le4.rf _
  · rw [if_neg c12] at h
    obtain ⟨t18, e_t18, h⟩ := o_b h
    obtain ⟨t22, e_t22, h⟩ := o_b h
    obtain ⟨b23, e_b23, h⟩ := o_b h
    obtain ⟨q23, e_q23, h⟩ := o_b h
    obtain ⟨t27, e_t27, h⟩ := o_b h
    obtain ⟨t33, e_t33, h⟩ := o_b h
    obtain ⟨b35, e_b35, h⟩ := o_b h
    obtain ⟨q35, e_q35, h⟩ := o_b h
    exact (((ke_X7_dropFirst_0 e_q23).le).tr (mo_X5_receive_0 e_q35)).tr (mo_X8_handOver_38 h)
set_option maxHeartbeats 4000000 in
set_option maxRecDepth 100000 in
theorem K_X8_handOver_0 {p : Program} {l : Launch} {e : Env} {R : Room} {s : State} {m : MethodId} {args : Array Value} {below : List Frame} {meth : Method} {c : Code} {D : va_G} {dA : Nat → ClassId} {base : Nat} {z : Int32 × hp} (X : cx p s m args c cX8_handOver RX8 3 D dA) (hret : meth.sig.returnType = some .int) (hlk : meth.locks = false) (hR : 6 ≤ R.frames ∧ 132 ≤ R.locals) {n0 s0 : Nat} (hRc : z.2.2.2.2.1 ≤ n0 + R.cells ∧ z.2.2.2.2.2 ≤ s0 + R.slots) {σ : hp} {t0 : Nat} {v1 : Int32} {H : Heap} {locs : List Loc} {ls : Array Slot} (hn : n0 ≤ σ.2.2.2.1 ∧ s0 ≤ σ.2.2.2.2) (hh : hw D dA base σ H) (hS : hs base s.heap H locs) (hl : lk ls 3 [(0, .inr (some t0)), (1, .inl v1)]) (h : S_X8_handOver σ t0 v1 = some z) : W p l e R s m args below meth c H locs (σ.2.2.2.1 - n0) (σ.2.2.2.2 - s0) (MQ below (qG D dA base (some (.int z.1)) z.2) args s (z.2.2.2.2.1 - n0) (z.2.2.2.2.2 - s0) (fun q => base ≤ q)) (F0 m 0 ls []) := by
  have hz0 := mo_X8_handOver_0 h
  have hcl : σ.2.2.2.1 - n0 ≤ R.cells ∧ σ.2.2.2.2 - s0 ≤ R.slots := by unfold le4 at hz0; omega
  unfold S_X8_handOver at h
  refine q_aload_n X dX8_handOver_0 rfl hl 0 rfl ?_
  obtain ⟨t1, e_t1, h⟩ := o_b h
  refine q_gR X hh fa_X8_10 rfl e_t1 dX8_handOver_1 ?_
  refine q_iload_n X dX8_handOver_4 rfl hl 1 rfl ?_
  obtain ⟨t5, e_t5, h⟩ := o_b h
  refine q_ldQ X hh (by decide) rfl e_t5 dX8_handOver_5 ?_
  refine lv_iconst (v := (0 : Int32)) X.1 X.2.1 dX8_handOver_6 (by decide) ?_
  obtain ⟨b7, e_b7, h⟩ := o_b h
  obtain ⟨q7, e_q7, h⟩ := o_b h
  refine q_cV (As := [.int (0 : Int32)]) X hh hS hl cf_X8_126 (cN := 7) rfl rfl e_b7 rfl (M_X7_packet l D dA base σ b7 (0 : Int32) e_q7) ⟨Nat.le_trans (by decide) hR.1, Nat.le_trans (by decide) hR.2⟩ (cat8 [] (Nat.le_of_ble_eq_true rfl)) dX8_handOver_7 ⟨Nat.le_trans (Nat.le_of_eq (Nat.add_zero _)) hcl.1, Nat.le_trans (Nat.le_of_eq (Nat.add_zero _)) hcl.2⟩ rfl rfl (fun H locs hh hS => ?_)
  refine W.cs (cells' := σ.2.2.2.1 - n0) (slots' := σ.2.2.2.2 - s0) (Nat.add_zero _) (Nat.add_zero _) ?_
  refine q_astore_n (lv' := [(2, .inr q7), (0, .inr (some t0)), (1, .inl v1)]) X dX8_handOver_10 rfl hl (by decide) rfl (fun ls hl => ?_)
  refine q_aload_n X dX8_handOver_11 rfl hl 0 rfl ?_
  refine q_ifnonnull (tgt := 17) X dX8_handOver_12 (by decide) (fun c12 => ?_) (fun c12 => ?_)
  · rw [if_neg c12] at h
    refine q_aload_n X dX8_handOver_17 rfl hl 1 rfl ?_
    obtain ⟨t18, e_t18, h⟩ := o_b h
    refine q_gR X hh fa_X8_10 rfl e_t18 dX8_handOver_18 ?_
    refine q_iload_n X dX8_handOver_21 rfl hl 2 rfl ?_
    obtain ⟨t22, e_t22, h⟩ := o_b h
    refine q_ldQ X hh (by decide) rfl e_t22 dX8_handOver_22 ?_
    obtain ⟨b23, e_b23, h⟩ := o_b h
    obtain ⟨q23, e_q23, h⟩ := o_b h
    have f23 := ke_X7_dropFirst_0 e_q23
    refine q_cV (As := []) X hh hS hl cf_X8_64 (cN := 7) rfl rfl e_b23 rfl (M_X7_dropFirst l D dA base σ b23  e_q23) ⟨Nat.le_trans (by decide) hR.1, Nat.le_trans (by decide) hR.2⟩ (cat8 [] (Nat.le_of_ble_eq_true rfl)) dX8_handOver_23 ⟨Nat.le_trans (Nat.le_of_eq (Nat.add_zero _)) hcl.1, Nat.le_trans (Nat.le_of_eq (Nat.add_zero _)) hcl.2⟩ rfl rfl (fun H locs hh hS => ?_)
    refine W.cs (cells' := σ.2.2.2.1 - n0) (slots' := σ.2.2.2.2 - s0) (Nat.add_zero _) (Nat.add_zero _) ?_
    refine q_aload_n X dX8_handOver_26 rfl hl 1 rfl ?_
    obtain ⟨t27, e_t27, h⟩ := o_b h
    refine q_gR X hh fa_X8_21 rfl e_t27 dX8_handOver_27 ?_
    refine lv_iconst (v := (1 : Int32)) X.1 X.2.1 dX8_handOver_30 (by decide) ?_
    refine q_iload_n X dX8_handOver_31 rfl hl 2 rfl ?_
    refine lv_isub X.1 X.2.1 dX8_handOver_32 ?_
    obtain ⟨t33, e_t33, h⟩ := o_b h
    refine q_ldQ X hh (by decide) rfl e_t33 dX8_handOver_33 ?_
    refine q_aload_n X dX8_handOver_34 rfl hl 0 rfl ?_
    obtain ⟨b35, e_b35, h⟩ := o_b h
    obtain ⟨q35, e_q35, h⟩ := o_b h
    have yq23 : eq4 σ q23 := f23
    refine W.cs (cells' := q23.2.2.2.1 - n0) (slots' := q23.2.2.2.2 - s0) (by rw [show q23.2.2.2 = σ.2.2.2 from yq23]) (by rw [show q23.2.2.2 = σ.2.2.2 from yq23]) ?_
    have hn : n0 ≤ q23.2.2.2.1 ∧ s0 ≤ q23.2.2.2.2 := by rw [show q23.2.2.2 = σ.2.2.2 from yq23]; exact hn
    have hcl : q23.2.2.2.1 - n0 ≤ R.cells ∧ q23.2.2.2.2 - s0 ≤ R.slots := by rw [show q23.2.2.2 = σ.2.2.2 from yq23]; exact hcl
    have g35 := mo_X8_handOver_38 h
    have f35 := mo_X5_receive_0 e_q35
    unfold le4 at g35 f35
    refine q_cV (As := [va_rf q7]) X hh hS hl cf_X8_133 (cN := 5) rfl rfl e_b35 rfl (M_X5_receive l D dA base q23 b35 q7 e_q35) ⟨Nat.le_trans (by decide) hR.1, Nat.le_trans (by decide) hR.2⟩ (cat8 [] (Nat.le_of_ble_eq_true rfl)) dX8_handOver_35 ⟨by omega, by omega⟩ rfl rfl (fun H locs hh hS => ?_)
    refine W.cs (cells' := q35.2.2.2.2.1 - n0) (slots' := q35.2.2.2.2.2 - s0) (by omega) (by omega) ?_
    have hn : n0 ≤ q35.2.2.2.2.1 ∧ s0 ≤ q35.2.2.2.2.2 := by omega
    exact K_X8_handOver_38 X hret hlk hR hRc hn hh hS (lk_sub hl [] rfl) h
  · rw [if_pos c12] at h
    refine lv_iconst (v := (-1 : Int32)) X.1 X.2.1 dX8_handOver_15 (by decide) ?_
    cases h
    exact q_iret X hret hlk hh hS dX8_handOver_16
set_option maxRecDepth 100000 in
theorem M_X8_handOver (l : Launch) (D : va_G) (dA : Nat → ClassId) (base : Nat) (σ : hp) (t0 : Nat) (v1 : Int32) {z : Int32 × hp} (h : S_X8_handOver σ t0 v1 = some z) : mt l yX8_handOver cX8_handOver 3 (some .int) 6 132 D dA base σ [.ref t0, .int v1] (some (.int z.1)) z.2 (z.2.2.2.2.1 - σ.2.2.2.1) (z.2.2.2.2.2 - σ.2.2.2.2) := by
  have hzz := mo_X8_handOver_0 h
  unfold le4 at hzz
  refine Met.ofW (cc := cX8_handOver) (maxL := 3) (ret := some .int) (by decide) rfl ?_
  intro p e s m args below meth c s₁ B hml hv
  obtain ⟨rfl, hh, hK⟩ := hv
  have X : cx p s m ([.ref t0, .int v1] : List Value).toArray c cX8_handOver RX8 3 D dA := ⟨B.exec, B.bytes, findClass_of_methodNamed B.named, hml, fun w hw => atoms_spec (ws := .code yX8_handOver cX8_handOver 3 (some .int) :: G) B.pre w (List.mem_cons_of_mem _ hw), hK⟩
  have hl := lk_entry [.inr (some t0), .inl v1] (n := 3) (Nat.le_of_ble_eq_true rfl)
  rw [lg_entry_eq]
  have hl : lk ((lg_sl ([.ref t0, .int v1] : List Value) ++ List.replicate (3 - (lg_sl ([.ref t0, .int v1] : List Value)).length) Slot.unset).toArray) 3 [(0, .inr (some t0)), (1, .inl v1)] := hl
  generalize (lg_sl ([.ref t0, .int v1] : List Value) ++ List.replicate (3 - (lg_sl ([.ref t0, .int v1] : List Value)).length) Slot.unset).toArray = ls at hl ⊢
  refine W.cs (cells' := σ.2.2.2.1 - σ.2.2.2.1) (slots' := σ.2.2.2.2 - σ.2.2.2.2) (Nat.sub_self _).symm (Nat.sub_self _).symm ?_
  exact K_X8_handOver_0 X B.returns B.notSynchronized ⟨Nat.le_refl _, Nat.le_refl _⟩ (n0 := σ.2.2.2.1) (s0 := σ.2.2.2.2) ⟨by show _ ≤ _ + (_ - _); omega, by show _ ≤ _ + (_ - _); omega⟩ ⟨Nat.le_refl _, Nat.le_refl _⟩ hh va_S.rf hl h
theorem mo_X8_deliver_16 {z : Int32 × hp} {σ : hp} {w0 : Int32} (h : S_X8_deliver_16 σ w0 = some z) : le4 σ z.2 := by
  unfold S_X8_deliver_16 at h
  cases h
  show le4 σ σ
  exact le4.rf _
set_option maxHeartbeats 4000000 in
set_option maxRecDepth 100000 in
theorem K_X8_deliver_16 {p : Program} {l : Launch} {e : Env} {R : Room} {s : State} {m : MethodId} {args : Array Value} {below : List Frame} {meth : Method} {c : Code} {D : va_G} {dA : Nat → ClassId} {base : Nat} {z : Int32 × hp} (X : cx p s m args c cX8_deliver RX8 2 D dA) (hret : meth.sig.returnType = some .int) (hlk : meth.locks = false) (hR : 7 ≤ R.frames ∧ 154 ≤ R.locals) {n0 s0 : Nat} (hRc : z.2.2.2.2.1 ≤ n0 + R.cells ∧ z.2.2.2.2.2 ≤ s0 + R.slots) {σ : hp} {w0 : Int32} {H : Heap} {locs : List Loc} {ls : Array Slot} (hn : n0 ≤ σ.2.2.2.1 ∧ s0 ≤ σ.2.2.2.2) (hh : hw D dA base σ H) (hS : hs base s.heap H locs) (hl : lk ls 2 []) (h : S_X8_deliver_16 σ w0 = some z) : W p l e R s m args below meth c H locs (σ.2.2.2.1 - n0) (σ.2.2.2.2 - s0) (MQ below (qG D dA base (some (.int z.1)) z.2) args s (z.2.2.2.2.1 - n0) (z.2.2.2.2.2 - s0) (fun q => base ≤ q)) (F0 m 16 ls [.int w0]) := by
  have hz0 := mo_X8_deliver_16 h
  have hcl : σ.2.2.2.1 - n0 ≤ R.cells ∧ σ.2.2.2.2 - s0 ≤ R.slots := by unfold le4 at hz0; omega
  unfold S_X8_deliver_16 at h
  cases h
  exact q_iret X hret hlk hh hS dX8_deliver_16
theorem mo_X8_deliver_12 {z : Int32 × hp} {σ : hp} {w0 : Int32} (h : S_X8_deliver_12 σ w0 = some z) : le4 σ z.2 := by
  unfold S_X8_deliver_12 at h
  exact (mo_X8_deliver_16 h)
set_option maxHeartbeats 4000000 in
set_option maxRecDepth 100000 in
theorem K_X8_deliver_12 {p : Program} {l : Launch} {e : Env} {R : Room} {s : State} {m : MethodId} {args : Array Value} {below : List Frame} {meth : Method} {c : Code} {D : va_G} {dA : Nat → ClassId} {base : Nat} {z : Int32 × hp} (X : cx p s m args c cX8_deliver RX8 2 D dA) (hret : meth.sig.returnType = some .int) (hlk : meth.locks = false) (hR : 7 ≤ R.frames ∧ 154 ≤ R.locals) {n0 s0 : Nat} (hRc : z.2.2.2.2.1 ≤ n0 + R.cells ∧ z.2.2.2.2.2 ≤ s0 + R.slots) {σ : hp} {w0 : Int32} {H : Heap} {locs : List Loc} {ls : Array Slot} (hn : n0 ≤ σ.2.2.2.1 ∧ s0 ≤ σ.2.2.2.2) (hh : hw D dA base σ H) (hS : hs base s.heap H locs) (hl : lk ls 2 []) (h : S_X8_deliver_12 σ w0 = some z) : W p l e R s m args below meth c H locs (σ.2.2.2.1 - n0) (σ.2.2.2.2 - s0) (MQ below (qG D dA base (some (.int z.1)) z.2) args s (z.2.2.2.2.1 - n0) (z.2.2.2.2.2 - s0) (fun q => base ≤ q)) (F0 m 12 ls [.int w0]) := by
  have hz0 := mo_X8_deliver_12 h
  have hcl : σ.2.2.2.1 - n0 ≤ R.cells ∧ σ.2.2.2.2 - s0 ≤ R.slots := by unfold le4 at hz0; omega
  unfold S_X8_deliver_12 at h
  refine lv_goto (tgt := 16) X.1 X.2.1 dX8_deliver_12 (by decide) ?_
  exact K_X8_deliver_16 X hret hlk hR hRc hn hh hS (lk_sub hl [] rfl) h
theorem mo_X8_deliver_0 {z : Int32 × hp} {σ : hp} {t0 : Nat} {v1 : Int32} (h : S_X8_deliver σ t0 v1 = some z) : le4 σ z.2 := by
  unfold S_X8_deliver at h
  obtain ⟨q1, e_q1, h⟩ := o_b h
  by_cases c4 : q1 = (0 : Int32)
  · rw [if_pos c4] at h
    exact (mo_X8_deliver_16 h)
  · rw [if_neg c4] at h
    obtain ⟨b9, e_b9, h⟩ := o_b h
    obtain ⟨q9, e_q9, h⟩ := o_b h
    exact ((mo_X8_handOver_0 e_q9)).tr (mo_X8_deliver_12 h)
set_option maxHeartbeats 4000000 in
set_option maxRecDepth 100000 in
theorem K_X8_deliver_0 {p : Program} {l : Launch} {e : Env} {R : Room} {s : State} {m : MethodId} {args : Array Value} {below : List Frame} {meth : Method} {c : Code} {D : va_G} {dA : Nat → ClassId} {base : Nat} {z : Int32 × hp} (X : cx p s m args c cX8_deliver RX8 2 D dA) (hret : meth.sig.returnType = some .int) (hlk : meth.locks = false) (hR : 7 ≤ R.frames ∧ 154 ≤ R.locals) {n0 s0 : Nat} (hRc : z.2.2.2.2.1 ≤ n0 + R.cells ∧ z.2.2.2.2.2 ≤ s0 + R.slots) {σ : hp} {t0 : Nat} {v1 : Int32} {H : Heap} {locs : List Loc} {ls : Array Slot} (hn : n0 ≤ σ.2.2.2.1 ∧ s0 ≤ σ.2.2.2.2) (hh : hw D dA base σ H) (hS : hs base s.heap H locs) (hl : lk ls 2 [(0, .inr (some t0)), (1, .inl v1)]) (h : S_X8_deliver σ t0 v1 = some z) : W p l e R s m args below meth c H locs (σ.2.2.2.1 - n0) (σ.2.2.2.2 - s0) (MQ below (qG D dA base (some (.int z.1)) z.2) args s (z.2.2.2.2.1 - n0) (z.2.2.2.2.2 - s0) (fun q => base ≤ q)) (F0 m 0 ls []) := by
  have hz0 := mo_X8_deliver_0 h
  have hcl : σ.2.2.2.1 - n0 ≤ R.cells ∧ σ.2.2.2.2 - s0 ≤ R.slots := by unfold le4 at hz0; omega
  unfold S_X8_deliver at h
  refine q_iload_n X dX8_deliver_0 rfl hl 1 rfl ?_
  obtain ⟨q1, e_q1, h⟩ := o_b h
  refine q_cS (As := [.int v1]) X hh hS hl cf_X8_33 rfl (M_X8_isSite l D dA base σ v1 e_q1) ⟨Nat.le_trans (by decide) hR.1, Nat.le_trans (by decide) hR.2⟩ (cat8 [] (Nat.le_of_ble_eq_true rfl)) dX8_deliver_1 ⟨Nat.le_trans (Nat.le_of_eq (Nat.add_zero _)) hcl.1, Nat.le_trans (Nat.le_of_eq (Nat.add_zero _)) hcl.2⟩ rfl rfl (fun H locs hh hS => ?_)
  refine W.cs (cells' := σ.2.2.2.1 - n0) (slots' := σ.2.2.2.2 - s0) (Nat.add_zero _) (Nat.add_zero _) ?_
  refine lv_if_eq (tgt := 15) X.1 X.2.1 dX8_deliver_4 (by decide) (fun c4 => ?_) (fun c4 => ?_)
  · rw [if_pos c4] at h
    refine lv_iconst (v := (-1 : Int32)) X.1 X.2.1 dX8_deliver_15 (by decide) ?_
    exact K_X8_deliver_16 X hret hlk hR hRc hn hh hS (lk_sub hl [] rfl) h
  · rw [if_neg c4] at h
    refine q_aload_n X dX8_deliver_7 rfl hl 0 rfl ?_
    refine q_iload_n X dX8_deliver_8 rfl hl 1 rfl ?_
    obtain ⟨b9, e_b9, h⟩ := o_b h
    obtain ⟨q9, e_q9, h⟩ := o_b h
    have g9 := mo_X8_deliver_12 h
    have f9 := mo_X8_handOver_0 e_q9
    unfold le4 at g9 f9
    refine q_cV (As := [.int v1]) X hh hS hl cf_X8_56 (cN := 8) rfl rfl e_b9 rfl (M_X8_handOver l D dA base σ b9 v1 e_q9) ⟨Nat.le_trans (by decide) hR.1, Nat.le_trans (by decide) hR.2⟩ (cat8 [] (Nat.le_of_ble_eq_true rfl)) dX8_deliver_9 ⟨by omega, by omega⟩ rfl rfl (fun H locs hh hS => ?_)
    refine W.cs (cells' := q9.2.2.2.2.1 - n0) (slots' := q9.2.2.2.2.2 - s0) (by omega) (by omega) ?_
    have hn : n0 ≤ q9.2.2.2.2.1 ∧ s0 ≤ q9.2.2.2.2.2 := by omega
    exact K_X8_deliver_12 X hret hlk hR hRc hn hh hS (lk_sub hl [] rfl) h
set_option maxRecDepth 100000 in
theorem M_X8_deliver (l : Launch) (D : va_G) (dA : Nat → ClassId) (base : Nat) (σ : hp) (t0 : Nat) (v1 : Int32) {z : Int32 × hp} (h : S_X8_deliver σ t0 v1 = some z) : mt l yX8_deliver cX8_deliver 2 (some .int) 7 154 D dA base σ [.ref t0, .int v1] (some (.int z.1)) z.2 (z.2.2.2.2.1 - σ.2.2.2.1) (z.2.2.2.2.2 - σ.2.2.2.2) := by
  have hzz := mo_X8_deliver_0 h
  unfold le4 at hzz
  refine Met.ofW (cc := cX8_deliver) (maxL := 2) (ret := some .int) (by decide) rfl ?_
  intro p e s m args below meth c s₁ B hml hv
  obtain ⟨rfl, hh, hK⟩ := hv
  have X : cx p s m ([.ref t0, .int v1] : List Value).toArray c cX8_deliver RX8 2 D dA := ⟨B.exec, B.bytes, findClass_of_methodNamed B.named, hml, fun w hw => atoms_spec (ws := .code yX8_deliver cX8_deliver 2 (some .int) :: G) B.pre w (List.mem_cons_of_mem _ hw), hK⟩
  have hl := lk_entry [.inr (some t0), .inl v1] (n := 2) (Nat.le_of_ble_eq_true rfl)
  rw [lg_entry_eq]
  have hl : lk ((lg_sl ([.ref t0, .int v1] : List Value) ++ List.replicate (2 - (lg_sl ([.ref t0, .int v1] : List Value)).length) Slot.unset).toArray) 2 [(0, .inr (some t0)), (1, .inl v1)] := hl
  generalize (lg_sl ([.ref t0, .int v1] : List Value) ++ List.replicate (2 - (lg_sl ([.ref t0, .int v1] : List Value)).length) Slot.unset).toArray = ls at hl ⊢
  refine W.cs (cells' := σ.2.2.2.1 - σ.2.2.2.1) (slots' := σ.2.2.2.2 - σ.2.2.2.2) (Nat.sub_self _).symm (Nat.sub_self _).symm ?_
  exact K_X8_deliver_0 X B.returns B.notSynchronized ⟨Nat.le_refl _, Nat.le_refl _⟩ (n0 := σ.2.2.2.1) (s0 := σ.2.2.2.2) ⟨by show _ ≤ _ + (_ - _); omega, by show _ ≤ _ + (_ - _); omega⟩ ⟨Nat.le_refl _, Nat.le_refl _⟩ hh va_S.rf hl h
set_option maxHeartbeats 4000000 in
set_option maxRecDepth 100000 in
theorem K_X8_packetOn_21 {p : Program} {l : Launch} {e : Env} {R : Room} {s : State} {m : MethodId} {args : Array Value} {below : List Frame} {meth : Method} {c : Code} {D : va_G} {dA : Nat → ClassId} {base : Nat} {z : Option Nat} (X : cx p s m args c cX8_packetOn RX8 3 D dA) (hret : meth.sig.returnType = some (.object "SpoolLink$Packet")) (hlk : meth.locks = false) (hR : 1 ≤ R.frames ∧ 21 ≤ R.locals) {σ : hp} {w0 : Option Nat} {H : Heap} {locs : List Loc} {ls : Array Slot} (hh : hw D dA base σ H) (hS : hs base s.heap H locs) (hl : lk ls 3 []) (h : S_X8_packetOn_21 σ w0 = some z) : W p l e R s m args below meth c H locs 0 0 (MQ below (qG D dA base (some (va_rf z)) σ) args s 0 0 (fun q => base ≤ q)) (F0 m 21 ls [va_rf w0]) := by
  unfold S_X8_packetOn_21 at h
  cases h
  exact q_aret X hret hlk hh hS dX8_packetOn_21
set_option maxHeartbeats 4000000 in
set_option maxRecDepth 100000 in
theorem K_X8_packetOn_0 {p : Program} {l : Launch} {e : Env} {R : Room} {s : State} {m : MethodId} {args : Array Value} {below : List Frame} {meth : Method} {c : Code} {D : va_G} {dA : Nat → ClassId} {base : Nat} {z : Option Nat} (X : cx p s m args c cX8_packetOn RX8 3 D dA) (hret : meth.sig.returnType = some (.object "SpoolLink$Packet")) (hlk : meth.locks = false) (hR : 1 ≤ R.frames ∧ 21 ≤ R.locals) {σ : hp} {t0 : Nat} {v1 : Int32} {v2 : Int32} {H : Heap} {locs : List Loc} {ls : Array Slot} (hh : hw D dA base σ H) (hS : hs base s.heap H locs) (hl : lk ls 3 [(0, .inr (some t0)), (1, .inl v1), (2, .inl v2)]) (h : S_X8_packetOn σ t0 v1 v2 = some z) : W p l e R s m args below meth c H locs 0 0 (MQ below (qG D dA base (some (va_rf z)) σ) args s 0 0 (fun q => base ≤ q)) (F0 m 0 ls []) := by
  unfold S_X8_packetOn at h
  refine q_iload_n X dX8_packetOn_0 rfl hl 1 rfl ?_
  obtain ⟨q1, e_q1, h⟩ := o_b h
  refine q_cS (As := [.int v1]) X hh hS hl cf_X8_33 rfl (M_X8_isSite l D dA base σ v1 e_q1) ⟨Nat.le_trans (by decide) hR.1, Nat.le_trans (by decide) hR.2⟩ (cat8 [] (Nat.le_of_ble_eq_true rfl)) dX8_packetOn_1 ⟨Nat.zero_le _, Nat.zero_le _⟩ rfl rfl (fun H locs hh hS => ?_)
  refine lv_if_eq (tgt := 20) X.1 X.2.1 dX8_packetOn_4 (by decide) (fun c4 => ?_) (fun c4 => ?_)
  · rw [if_pos c4] at h
    refine q_nul X dX8_packetOn_20 ?_
    exact K_X8_packetOn_21 X hret hlk hR hh hS (lk_sub hl [] rfl) h
  · rw [if_neg c4] at h
    refine q_aload_n X dX8_packetOn_7 rfl hl 0 rfl ?_
    obtain ⟨t8, e_t8, h⟩ := o_b h
    refine q_gR X hh fa_X8_10 rfl e_t8 dX8_packetOn_8 ?_
    refine q_iload_n X dX8_packetOn_11 rfl hl 1 rfl ?_
    obtain ⟨t12, e_t12, h⟩ := o_b h
    refine q_ldQ X hh (by decide) rfl e_t12 dX8_packetOn_12 ?_
    refine q_iload_n X dX8_packetOn_13 rfl hl 2 rfl ?_
    obtain ⟨b14, e_b14, h⟩ := o_b h
    obtain ⟨q14, e_q14, h⟩ := o_b h
    refine q_cV (As := [.int v2]) X hh hS hl cf_X8_126 (cN := 7) rfl rfl e_b14 rfl (M_X7_packet l D dA base σ b14 v2 e_q14) ⟨Nat.le_trans (by decide) hR.1, Nat.le_trans (by decide) hR.2⟩ (cat8 [] (Nat.le_of_ble_eq_true rfl)) dX8_packetOn_14 ⟨Nat.zero_le _, Nat.zero_le _⟩ rfl rfl (fun H locs hh hS => ?_)
    refine lv_goto (tgt := 21) X.1 X.2.1 dX8_packetOn_17 (by decide) ?_
    exact K_X8_packetOn_21 X hret hlk hR hh hS (lk_sub hl [] rfl) h
set_option maxRecDepth 100000 in
theorem M_X8_packetOn (l : Launch) (D : va_G) (dA : Nat → ClassId) (base : Nat) (σ : hp) (t0 : Nat) (v1 : Int32) (v2 : Int32) {z : Option Nat} (h : S_X8_packetOn σ t0 v1 v2 = some z) : mt l yX8_packetOn cX8_packetOn 3 (some (.object "SpoolLink$Packet")) 1 21 D dA base σ [.ref t0, .int v1, .int v2] (some (va_rf z)) σ 0 0 := by
  refine Met.ofW (cc := cX8_packetOn) (maxL := 3) (ret := some (.object "SpoolLink$Packet")) (by decide) rfl ?_
  intro p e s m args below meth c s₁ B hml hv
  obtain ⟨rfl, hh, hK⟩ := hv
  have X : cx p s m ([.ref t0, .int v1, .int v2] : List Value).toArray c cX8_packetOn RX8 3 D dA := ⟨B.exec, B.bytes, findClass_of_methodNamed B.named, hml, fun w hw => atoms_spec (ws := .code yX8_packetOn cX8_packetOn 3 (some (.object "SpoolLink$Packet")) :: G) B.pre w (List.mem_cons_of_mem _ hw), hK⟩
  have hl := lk_entry [.inr (some t0), .inl v1, .inl v2] (n := 3) (Nat.le_of_ble_eq_true rfl)
  rw [lg_entry_eq]
  have hl : lk ((lg_sl ([.ref t0, .int v1, .int v2] : List Value) ++ List.replicate (3 - (lg_sl ([.ref t0, .int v1, .int v2] : List Value)).length) Slot.unset).toArray) 3 [(0, .inr (some t0)), (1, .inl v1), (2, .inl v2)] := hl
  generalize (lg_sl ([.ref t0, .int v1, .int v2] : List Value) ++ List.replicate (3 - (lg_sl ([.ref t0, .int v1, .int v2] : List Value)).length) Slot.unset).toArray = ls at hl ⊢
  exact K_X8_packetOn_0 X B.returns B.notSynchronized ⟨Nat.le_refl _, Nat.le_refl _⟩ hh va_S.rf hl h
theorem ke_X8_lose_0 {z : Int32 × hp} {σ : hp} {t0 : Nat} {v1 : Int32} (h : S_X8_lose σ t0 v1 = some z) : eq4 σ z.2 := by
  unfold S_X8_lose at h
  obtain ⟨b3, e_b3, h⟩ := o_b h
  obtain ⟨q3, e_q3, h⟩ := o_b h
  by_cases c6 : q3 = none
  · rw [if_pos c6] at h
    cases h
    show eq4 σ σ
    exact eq4.rf _
  · rw [if_neg c6] at h
    obtain ⟨t12, e_t12, h⟩ := o_b h
    obtain ⟨t16, e_t16, h⟩ := o_b h
    obtain ⟨b17, e_b17, h⟩ := o_b h
    obtain ⟨q17, e_q17, h⟩ := o_b h
    cases h
    show eq4 σ q17
    exact (ke_X7_dropFirst_0 e_q17)
set_option maxHeartbeats 4000000 in
set_option maxRecDepth 100000 in
theorem K_X8_lose_0 {p : Program} {l : Launch} {e : Env} {R : Room} {s : State} {m : MethodId} {args : Array Value} {below : List Frame} {meth : Method} {c : Code} {D : va_G} {dA : Nat → ClassId} {base : Nat} {z : Int32 × hp} (X : cx p s m args c cX8_lose RX8 2 D dA) (hret : meth.sig.returnType = some .boolean) (hlk : meth.locks = false) (hR : 2 ≤ R.frames ∧ 43 ≤ R.locals) {σ : hp} {t0 : Nat} {v1 : Int32} {H : Heap} {locs : List Loc} {ls : Array Slot} (hh : hw D dA base σ H) (hS : hs base s.heap H locs) (hl : lk ls 2 [(0, .inr (some t0)), (1, .inl v1)]) (h : S_X8_lose σ t0 v1 = some z) : W p l e R s m args below meth c H locs 0 0 (MQ below (qG D dA base (some (.int z.1)) z.2) args s 0 0 (fun q => base ≤ q)) (F0 m 0 ls []) := by
  unfold S_X8_lose at h
  refine q_aload_n X dX8_lose_0 rfl hl 0 rfl ?_
  refine q_iload_n X dX8_lose_1 rfl hl 1 rfl ?_
  refine lv_iconst (v := (0 : Int32)) X.1 X.2.1 dX8_lose_2 (by decide) ?_
  obtain ⟨b3, e_b3, h⟩ := o_b h
  obtain ⟨q3, e_q3, h⟩ := o_b h
  refine q_cV (As := [.int v1, .int (0 : Int32)]) X hh hS hl cf_X8_60 (cN := 8) rfl rfl e_b3 rfl (M_X8_packetOn l D dA base σ b3 v1 (0 : Int32) e_q3) ⟨Nat.le_trans (by decide) hR.1, Nat.le_trans (by decide) hR.2⟩ (cat8 [] (Nat.le_of_ble_eq_true rfl)) dX8_lose_3 ⟨Nat.zero_le _, Nat.zero_le _⟩ rfl rfl (fun H locs hh hS => ?_)
  refine q_ifnonnull (tgt := 11) X dX8_lose_6 (by decide) (fun c6 => ?_) (fun c6 => ?_)
  · rw [if_neg c6] at h
    refine q_aload_n X dX8_lose_11 rfl hl 0 rfl ?_
    obtain ⟨t12, e_t12, h⟩ := o_b h
    refine q_gR X hh fa_X8_10 rfl e_t12 dX8_lose_12 ?_
    refine q_iload_n X dX8_lose_15 rfl hl 1 rfl ?_
    obtain ⟨t16, e_t16, h⟩ := o_b h
    refine q_ldQ X hh (by decide) rfl e_t16 dX8_lose_16 ?_
    obtain ⟨b17, e_b17, h⟩ := o_b h
    obtain ⟨q17, e_q17, h⟩ := o_b h
    refine q_cV (As := []) X hh hS hl cf_X8_64 (cN := 7) rfl rfl e_b17 rfl (M_X7_dropFirst l D dA base σ b17  e_q17) ⟨Nat.le_trans (by decide) hR.1, Nat.le_trans (by decide) hR.2⟩ (cat8 [] (Nat.le_of_ble_eq_true rfl)) dX8_lose_17 ⟨Nat.zero_le _, Nat.zero_le _⟩ rfl rfl (fun H locs hh hS => ?_)
    refine lv_iconst (v := (1 : Int32)) X.1 X.2.1 dX8_lose_20 (by decide) ?_
    cases h
    exact q_zret X hret hlk hh hS (by rfl) dX8_lose_21
  · rw [if_pos c6] at h
    refine lv_iconst (v := (0 : Int32)) X.1 X.2.1 dX8_lose_9 (by decide) ?_
    cases h
    exact q_zret X hret hlk hh hS (by rfl) dX8_lose_10
set_option maxRecDepth 100000 in
theorem M_X8_lose (l : Launch) (D : va_G) (dA : Nat → ClassId) (base : Nat) (σ : hp) (t0 : Nat) (v1 : Int32) {z : Int32 × hp} (h : S_X8_lose σ t0 v1 = some z) : mt l yX8_lose cX8_lose 2 (some .boolean) 2 43 D dA base σ [.ref t0, .int v1] (some (.int z.1)) z.2 0 0 := by
  refine Met.ofW (cc := cX8_lose) (maxL := 2) (ret := some .boolean) (by decide) rfl ?_
  intro p e s m args below meth c s₁ B hml hv
  obtain ⟨rfl, hh, hK⟩ := hv
  have X : cx p s m ([.ref t0, .int v1] : List Value).toArray c cX8_lose RX8 2 D dA := ⟨B.exec, B.bytes, findClass_of_methodNamed B.named, hml, fun w hw => atoms_spec (ws := .code yX8_lose cX8_lose 2 (some .boolean) :: G) B.pre w (List.mem_cons_of_mem _ hw), hK⟩
  have hl := lk_entry [.inr (some t0), .inl v1] (n := 2) (Nat.le_of_ble_eq_true rfl)
  rw [lg_entry_eq]
  have hl : lk ((lg_sl ([.ref t0, .int v1] : List Value) ++ List.replicate (2 - (lg_sl ([.ref t0, .int v1] : List Value)).length) Slot.unset).toArray) 2 [(0, .inr (some t0)), (1, .inl v1)] := hl
  generalize (lg_sl ([.ref t0, .int v1] : List Value) ++ List.replicate (2 - (lg_sl ([.ref t0, .int v1] : List Value)).length) Slot.unset).toArray = ls at hl ⊢
  exact K_X8_lose_0 X B.returns B.notSynchronized ⟨Nat.le_refl _, Nat.le_refl _⟩ hh va_S.rf hl h
theorem ke_X8_alter_38 {z : Int32 × hp} {σ : hp} (h : S_X8_alter_38 σ = some z) : eq4 σ z.2 := by
  unfold S_X8_alter_38 at h
  cases h
  show eq4 σ σ
  exact eq4.rf _
set_option maxHeartbeats 4000000 in
set_option maxRecDepth 100000 in
theorem K_X8_alter_38 {p : Program} {l : Launch} {e : Env} {R : Room} {s : State} {m : MethodId} {args : Array Value} {below : List Frame} {meth : Method} {c : Code} {D : va_G} {dA : Nat → ClassId} {base : Nat} {z : Int32 × hp} (X : cx p s m args c cX8_alter RX8 5 D dA) (hret : meth.sig.returnType = some .boolean) (hlk : meth.locks = false) (hR : 2 ≤ R.frames ∧ 43 ≤ R.locals) {σ : hp} {H : Heap} {locs : List Loc} {ls : Array Slot} (hh : hw D dA base σ H) (hS : hs base s.heap H locs) (hl : lk ls 5 []) (h : S_X8_alter_38 σ = some z) : W p l e R s m args below meth c H locs 0 0 (MQ below (qG D dA base (some (.int z.1)) z.2) args s 0 0 (fun q => base ≤ q)) (F0 m 38 ls []) := by
  unfold S_X8_alter_38 at h
  refine lv_iconst (v := (0 : Int32)) X.1 X.2.1 dX8_alter_38 (by decide) ?_
  cases h
  exact q_zret X hret hlk hh hS (by rfl) dX8_alter_39
theorem ke_X8_alter_0 {z : Int32 × hp} {σ : hp} {t0 : Nat} {v1 : Int32} {v2 : Int32} {v3 : Int32} (h : S_X8_alter σ t0 v1 v2 v3 = some z) : eq4 σ z.2 := by
  unfold S_X8_alter at h
  obtain ⟨b3, e_b3, h⟩ := o_b h
  obtain ⟨q3, e_q3, h⟩ := o_b h
  by_cases c10 : q3 = none
  · rw [if_pos c10] at h
    exact (ke_X8_alter_38 h)
  · rw [if_neg c10] at h
    by_cases c14 : v2 < (0 : Int32)
    · rw [if_pos c14] at h
      exact (ke_X8_alter_38 h)
    · rw [if_neg c14] at h
      obtain ⟨t20, e_t20, h⟩ := o_b h
      by_cases c23 : t20 ≤ v2
      · rw [if_pos c23] at h
        exact (ke_X8_alter_38 h)
      · rw [if_neg c23] at h
        by_cases c28 : v3 < (1 : Int32)
        · rw [if_pos c28] at h
          exact (ke_X8_alter_38 h)
        · rw [if_neg c28] at h
          by_cases c35 : v3 ≤ (255 : Int32)
          · rw [if_pos c35] at h
            obtain ⟨t42, e_t42, h⟩ := o_b h
            obtain ⟨t47, e_t47, h⟩ := o_b h
            obtain ⟨s50, e_s50, h⟩ := o_b h
            cases h
            show eq4 σ s50
            exact (e_stI e_s50)
          · rw [if_neg c35] at h
            exact (ke_X8_alter_38 h)
set_option maxHeartbeats 4000000 in
set_option maxRecDepth 100000 in
theorem K_X8_alter_0 {p : Program} {l : Launch} {e : Env} {R : Room} {s : State} {m : MethodId} {args : Array Value} {below : List Frame} {meth : Method} {c : Code} {D : va_G} {dA : Nat → ClassId} {base : Nat} {z : Int32 × hp} (X : cx p s m args c cX8_alter RX8 5 D dA) (hret : meth.sig.returnType = some .boolean) (hlk : meth.locks = false) (hR : 2 ≤ R.frames ∧ 43 ≤ R.locals) {σ : hp} {t0 : Nat} {v1 : Int32} {v2 : Int32} {v3 : Int32} {H : Heap} {locs : List Loc} {ls : Array Slot} (hh : hw D dA base σ H) (hS : hs base s.heap H locs) (hl : lk ls 5 [(0, .inr (some t0)), (1, .inl v1), (2, .inl v2), (3, .inl v3)]) (h : S_X8_alter σ t0 v1 v2 v3 = some z) : W p l e R s m args below meth c H locs 0 0 (MQ below (qG D dA base (some (.int z.1)) z.2) args s 0 0 (fun q => base ≤ q)) (F0 m 0 ls []) := by
  unfold S_X8_alter at h
  refine q_aload_n X dX8_alter_0 rfl hl 0 rfl ?_
  refine q_iload_n X dX8_alter_1 rfl hl 1 rfl ?_
  refine lv_iconst (v := (0 : Int32)) X.1 X.2.1 dX8_alter_2 (by decide) ?_
  obtain ⟨b3, e_b3, h⟩ := o_b h
  obtain ⟨q3, e_q3, h⟩ := o_b h
  refine q_cV (As := [.int v1, .int (0 : Int32)]) X hh hS hl cf_X8_60 (cN := 8) rfl rfl e_b3 rfl (M_X8_packetOn l D dA base σ b3 v1 (0 : Int32) e_q3) ⟨Nat.le_trans (by decide) hR.1, Nat.le_trans (by decide) hR.2⟩ (cat8 [] (Nat.le_of_ble_eq_true rfl)) dX8_alter_3 ⟨Nat.zero_le _, Nat.zero_le _⟩ rfl rfl (fun H locs hh hS => ?_)
  refine q_astore (lv' := [(4, .inr q3), (0, .inr (some t0)), (1, .inl v1), (2, .inl v2), (3, .inl v3)]) X dX8_alter_6 hl (by decide) rfl (fun ls hl => ?_)
  refine q_aload X dX8_alter_8 hl 0 rfl ?_
  refine q_ifnull (tgt := 38) X dX8_alter_10 (by decide) (fun c10 => ?_) (fun c10 => ?_)
  · rw [if_pos c10] at h
    exact K_X8_alter_38 X hret hlk hR hh hS (lk_sub hl [] rfl) h
  · rw [if_neg c10] at h
    refine q_iload_n X dX8_alter_13 rfl hl 3 rfl ?_
    refine lv_if_lt (tgt := 38) X.1 X.2.1 dX8_alter_14 (by decide) (fun c14 => ?_) (fun c14 => ?_)
    · rw [if_pos c14] at h
      exact K_X8_alter_38 X hret hlk hR hh hS (lk_sub hl [] rfl) h
    · rw [if_neg c14] at h
      refine q_iload_n X dX8_alter_17 rfl hl 3 rfl ?_
      refine q_aload X dX8_alter_18 hl 0 rfl ?_
      obtain ⟨t20, e_t20, h⟩ := o_b h
      refine q_gI X hh fa_X8_67 rfl e_t20 dX8_alter_20 ?_
      refine lv_icmp_ge (tgt := 38) X.1 X.2.1 dX8_alter_23 (by decide) (fun c23 => ?_) (fun c23 => ?_)
      · rw [if_pos c23] at h
        exact K_X8_alter_38 X hret hlk hR hh hS (lk_sub hl [] rfl) h
      · rw [if_neg c23] at h
        refine q_iload_n X dX8_alter_26 rfl hl 4 rfl ?_
        refine lv_iconst (v := (1 : Int32)) X.1 X.2.1 dX8_alter_27 (by decide) ?_
        refine lv_icmp_lt (tgt := 38) X.1 X.2.1 dX8_alter_28 (by decide) (fun c28 => ?_) (fun c28 => ?_)
        · rw [if_pos c28] at h
          exact K_X8_alter_38 X hret hlk hR hh hS (lk_sub hl [] rfl) h
        · rw [if_neg c28] at h
          refine q_iload_n X dX8_alter_31 rfl hl 4 rfl ?_
          refine lv_sipush (v := (255 : Int32)) X.1 X.2.1 dX8_alter_32 (by decide) ?_
          refine lv_icmp_le (tgt := 40) X.1 X.2.1 dX8_alter_35 (by decide) (fun c35 => ?_) (fun c35 => ?_)
          · rw [if_pos c35] at h
            refine q_aload X dX8_alter_40 hl 0 rfl ?_
            obtain ⟨t42, e_t42, h⟩ := o_b h
            refine q_gR X hh fa_X8_72 rfl e_t42 dX8_alter_42 ?_
            refine q_iload_n X dX8_alter_45 rfl hl 3 rfl ?_
            refine lv_dup2_11 X.1 X.2.1 dX8_alter_46 (vv_cat (.inl v2)) (vv_cat (.inr t42)) ?_
            obtain ⟨t47, e_t47, h⟩ := o_b h
            refine q_ldI X hh e_t47 dX8_alter_47 ?_
            refine q_iload_n X dX8_alter_48 rfl hl 4 rfl ?_
            refine lv_ixor X.1 X.2.1 dX8_alter_49 ?_
            obtain ⟨s50, e_s50, h⟩ := o_b h
            refine q_stI X hh hS e_s50 dX8_alter_50 (fun H locs hh hS => ?_)
            refine lv_iconst (v := (1 : Int32)) X.1 X.2.1 dX8_alter_51 (by decide) ?_
            cases h
            exact q_zret X hret hlk hh hS (by rfl) dX8_alter_52
          · rw [if_neg c35] at h
            exact K_X8_alter_38 X hret hlk hR hh hS (lk_sub hl [] rfl) h
set_option maxRecDepth 100000 in
theorem M_X8_alter (l : Launch) (D : va_G) (dA : Nat → ClassId) (base : Nat) (σ : hp) (t0 : Nat) (v1 : Int32) (v2 : Int32) (v3 : Int32) {z : Int32 × hp} (h : S_X8_alter σ t0 v1 v2 v3 = some z) : mt l yX8_alter cX8_alter 5 (some .boolean) 2 43 D dA base σ [.ref t0, .int v1, .int v2, .int v3] (some (.int z.1)) z.2 0 0 := by
  refine Met.ofW (cc := cX8_alter) (maxL := 5) (ret := some .boolean) (by decide) rfl ?_
  intro p e s m args below meth c s₁ B hml hv
  obtain ⟨rfl, hh, hK⟩ := hv
  have X : cx p s m ([.ref t0, .int v1, .int v2, .int v3] : List Value).toArray c cX8_alter RX8 5 D dA := ⟨B.exec, B.bytes, findClass_of_methodNamed B.named, hml, fun w hw => atoms_spec (ws := .code yX8_alter cX8_alter 5 (some .boolean) :: G) B.pre w (List.mem_cons_of_mem _ hw), hK⟩
  have hl := lk_entry [.inr (some t0), .inl v1, .inl v2, .inl v3] (n := 5) (Nat.le_of_ble_eq_true rfl)
  rw [lg_entry_eq]
  have hl : lk ((lg_sl ([.ref t0, .int v1, .int v2, .int v3] : List Value) ++ List.replicate (5 - (lg_sl ([.ref t0, .int v1, .int v2, .int v3] : List Value)).length) Slot.unset).toArray) 5 [(0, .inr (some t0)), (1, .inl v1), (2, .inl v2), (3, .inl v3)] := hl
  generalize (lg_sl ([.ref t0, .int v1, .int v2, .int v3] : List Value) ++ List.replicate (5 - (lg_sl ([.ref t0, .int v1, .int v2, .int v3] : List Value)).length) Slot.unset).toArray = ls at hl ⊢
  exact K_X8_alter_0 X B.returns B.notSynchronized ⟨Nat.le_refl _, Nat.le_refl _⟩ hh va_S.rf hl h
theorem ke_X8_tick_0 {z : Int32 × hp} {σ : hp} {t0 : Nat} (h : S_X8_tick σ t0 = some z) : eq4 σ z.2 := by
  unfold S_X8_tick at h
  obtain ⟨t1, e_t1, h⟩ := o_b h
  obtain ⟨t5, e_t5, h⟩ := o_b h
  obtain ⟨b6, e_b6, h⟩ := o_b h
  obtain ⟨q6, e_q6, h⟩ := o_b h
  obtain ⟨t11, e_t11, h⟩ := o_b h
  obtain ⟨t15, e_t15, h⟩ := o_b h
  obtain ⟨b16, e_b16, h⟩ := o_b h
  obtain ⟨q16, e_q16, h⟩ := o_b h
  cases h
  show eq4 σ q16.2
  exact ((ke_X5_passTick_0 e_q6)).tr (ke_X5_passTick_0 e_q16)
set_option maxHeartbeats 4000000 in
set_option maxRecDepth 100000 in
theorem K_X8_tick_0 {p : Program} {l : Launch} {e : Env} {R : Room} {s : State} {m : MethodId} {args : Array Value} {below : List Frame} {meth : Method} {c : Code} {D : va_G} {dA : Nat → ClassId} {base : Nat} {z : Int32 × hp} (X : cx p s m args c cX8_tick RX8 3 D dA) (hret : meth.sig.returnType = some .int) (hlk : meth.locks = false) (hR : 5 ≤ R.frames ∧ 111 ≤ R.locals) {σ : hp} {t0 : Nat} {H : Heap} {locs : List Loc} {ls : Array Slot} (hh : hw D dA base σ H) (hS : hs base s.heap H locs) (hl : lk ls 3 [(0, .inr (some t0))]) (h : S_X8_tick σ t0 = some z) : W p l e R s m args below meth c H locs 0 0 (MQ below (qG D dA base (some (.int z.1)) z.2) args s 0 0 (fun q => base ≤ q)) (F0 m 0 ls []) := by
  unfold S_X8_tick at h
  refine q_aload_n X dX8_tick_0 rfl hl 0 rfl ?_
  obtain ⟨t1, e_t1, h⟩ := o_b h
  refine q_gR X hh fa_X8_21 rfl e_t1 dX8_tick_1 ?_
  refine lv_iconst (v := (0 : Int32)) X.1 X.2.1 dX8_tick_4 (by decide) ?_
  obtain ⟨t5, e_t5, h⟩ := o_b h
  refine q_ldQ X hh (by decide) rfl e_t5 dX8_tick_5 ?_
  obtain ⟨b6, e_b6, h⟩ := o_b h
  obtain ⟨q6, e_q6, h⟩ := o_b h
  refine q_cV (As := []) X hh hS hl cf_X8_75 (cN := 5) rfl rfl e_b6 rfl (M_X5_passTick l D dA base σ b6  e_q6) ⟨Nat.le_trans (by decide) hR.1, Nat.le_trans (by decide) hR.2⟩ (cat8 [] (Nat.le_of_ble_eq_true rfl)) dX8_tick_6 ⟨Nat.zero_le _, Nat.zero_le _⟩ rfl rfl (fun H locs hh hS => ?_)
  refine q_istore_n (lv' := [(1, .inl q6.1), (0, .inr (some t0))]) X dX8_tick_9 rfl hl (by decide) rfl (fun ls hl => ?_)
  refine q_aload_n X dX8_tick_10 rfl hl 1 rfl ?_
  obtain ⟨t11, e_t11, h⟩ := o_b h
  refine q_gR X hh fa_X8_21 rfl e_t11 dX8_tick_11 ?_
  refine lv_iconst (v := (1 : Int32)) X.1 X.2.1 dX8_tick_14 (by decide) ?_
  obtain ⟨t15, e_t15, h⟩ := o_b h
  refine q_ldQ X hh (by decide) rfl e_t15 dX8_tick_15 ?_
  obtain ⟨b16, e_b16, h⟩ := o_b h
  obtain ⟨q16, e_q16, h⟩ := o_b h
  refine q_cV (As := []) X hh hS hl cf_X8_75 (cN := 5) rfl rfl e_b16 rfl (M_X5_passTick l D dA base q6.2 b16  e_q16) ⟨Nat.le_trans (by decide) hR.1, Nat.le_trans (by decide) hR.2⟩ (cat8 [] (Nat.le_of_ble_eq_true rfl)) dX8_tick_16 ⟨Nat.zero_le _, Nat.zero_le _⟩ rfl rfl (fun H locs hh hS => ?_)
  refine q_istore_n (lv' := [(2, .inl q16.1), (1, .inl q6.1), (0, .inr (some t0))]) X dX8_tick_19 rfl hl (by decide) rfl (fun ls hl => ?_)
  refine q_iload_n X dX8_tick_20 rfl hl 1 rfl ?_
  refine q_iload_n X dX8_tick_21 rfl hl 0 rfl ?_
  refine lv_iadd X.1 X.2.1 dX8_tick_22 ?_
  cases h
  exact q_iret X hret hlk hh hS dX8_tick_23
set_option maxRecDepth 100000 in
theorem M_X8_tick (l : Launch) (D : va_G) (dA : Nat → ClassId) (base : Nat) (σ : hp) (t0 : Nat) {z : Int32 × hp} (h : S_X8_tick σ t0 = some z) : mt l yX8_tick cX8_tick 3 (some .int) 5 111 D dA base σ [.ref t0] (some (.int z.1)) z.2 0 0 := by
  refine Met.ofW (cc := cX8_tick) (maxL := 3) (ret := some .int) (by decide) rfl ?_
  intro p e s m args below meth c s₁ B hml hv
  obtain ⟨rfl, hh, hK⟩ := hv
  have X : cx p s m ([.ref t0] : List Value).toArray c cX8_tick RX8 3 D dA := ⟨B.exec, B.bytes, findClass_of_methodNamed B.named, hml, fun w hw => atoms_spec (ws := .code yX8_tick cX8_tick 3 (some .int) :: G) B.pre w (List.mem_cons_of_mem _ hw), hK⟩
  have hl := lk_entry [.inr (some t0)] (n := 3) (Nat.le_of_ble_eq_true rfl)
  rw [lg_entry_eq]
  have hl : lk ((lg_sl ([.ref t0] : List Value) ++ List.replicate (3 - (lg_sl ([.ref t0] : List Value)).length) Slot.unset).toArray) 3 [(0, .inr (some t0))] := hl
  generalize (lg_sl ([.ref t0] : List Value) ++ List.replicate (3 - (lg_sl ([.ref t0] : List Value)).length) Slot.unset).toArray = ls at hl ⊢
  exact K_X8_tick_0 X B.returns B.notSynchronized ⟨Nat.le_refl _, Nat.le_refl _⟩ hh va_S.rf hl h
theorem ke_X8_crash_0 {z : Int32 × hp} {σ : hp} {t0 : Nat} {v1 : Int32} (h : S_X8_crash σ t0 v1 = some z) : eq4 σ z.2 := by
  unfold S_X8_crash at h
  obtain ⟨q1, e_q1, h⟩ := o_b h
  by_cases c4 : q1 = (0 : Int32)
  · rw [if_pos c4] at h
    cases h
    show eq4 σ σ
    exact eq4.rf _
  · rw [if_neg c4] at h
    obtain ⟨t10, e_t10, h⟩ := o_b h
    obtain ⟨t14, e_t14, h⟩ := o_b h
    obtain ⟨b16, e_b16, h⟩ := o_b h
    obtain ⟨q16, e_q16, h⟩ := o_b h
    cases h
    show eq4 σ q16
    exact (ke_X5_begin_0 e_q16)
set_option maxHeartbeats 4000000 in
set_option maxRecDepth 100000 in
theorem K_X8_crash_0 {p : Program} {l : Launch} {e : Env} {R : Room} {s : State} {m : MethodId} {args : Array Value} {below : List Frame} {meth : Method} {c : Code} {D : va_G} {dA : Nat → ClassId} {base : Nat} {z : Int32 × hp} (X : cx p s m args c cX8_crash RX8 2 D dA) (hret : meth.sig.returnType = some .boolean) (hlk : meth.locks = false) (hR : 2 ≤ R.frames ∧ 41 ≤ R.locals) {σ : hp} {t0 : Nat} {v1 : Int32} {H : Heap} {locs : List Loc} {ls : Array Slot} (hh : hw D dA base σ H) (hS : hs base s.heap H locs) (hl : lk ls 2 [(0, .inr (some t0)), (1, .inl v1)]) (h : S_X8_crash σ t0 v1 = some z) : W p l e R s m args below meth c H locs 0 0 (MQ below (qG D dA base (some (.int z.1)) z.2) args s 0 0 (fun q => base ≤ q)) (F0 m 0 ls []) := by
  unfold S_X8_crash at h
  refine q_iload_n X dX8_crash_0 rfl hl 1 rfl ?_
  obtain ⟨q1, e_q1, h⟩ := o_b h
  refine q_cS (As := [.int v1]) X hh hS hl cf_X8_33 rfl (M_X8_isSite l D dA base σ v1 e_q1) ⟨Nat.le_trans (by decide) hR.1, Nat.le_trans (by decide) hR.2⟩ (cat8 [] (Nat.le_of_ble_eq_true rfl)) dX8_crash_1 ⟨Nat.zero_le _, Nat.zero_le _⟩ rfl rfl (fun H locs hh hS => ?_)
  refine lv_if_ne (tgt := 9) X.1 X.2.1 dX8_crash_4 (by decide) (fun c4 => ?_) (fun c4 => ?_)
  · rw [if_neg c4] at h
    refine q_aload_n X dX8_crash_9 rfl hl 0 rfl ?_
    obtain ⟨t10, e_t10, h⟩ := o_b h
    refine q_gR X hh fa_X8_21 rfl e_t10 dX8_crash_10 ?_
    refine q_iload_n X dX8_crash_13 rfl hl 1 rfl ?_
    obtain ⟨t14, e_t14, h⟩ := o_b h
    refine q_ldQ X hh (by decide) rfl e_t14 dX8_crash_14 ?_
    refine lv_iconst (v := (0 : Int32)) X.1 X.2.1 dX8_crash_15 (by decide) ?_
    obtain ⟨b16, e_b16, h⟩ := o_b h
    obtain ⟨q16, e_q16, h⟩ := o_b h
    refine q_cV (As := [.int (0 : Int32)]) X hh hS hl cf_X8_79 (cN := 5) rfl rfl e_b16 rfl (M_X5_begin l D dA base σ b16 (0 : Int32) e_q16) ⟨Nat.le_trans (by decide) hR.1, Nat.le_trans (by decide) hR.2⟩ (cat8 [] (Nat.le_of_ble_eq_true rfl)) dX8_crash_16 ⟨Nat.zero_le _, Nat.zero_le _⟩ rfl rfl (fun H locs hh hS => ?_)
    refine lv_iconst (v := (1 : Int32)) X.1 X.2.1 dX8_crash_19 (by decide) ?_
    cases h
    exact q_zret X hret hlk hh hS (by rfl) dX8_crash_20
  · rw [if_pos c4] at h
    refine lv_iconst (v := (0 : Int32)) X.1 X.2.1 dX8_crash_7 (by decide) ?_
    cases h
    exact q_zret X hret hlk hh hS (by rfl) dX8_crash_8
set_option maxRecDepth 100000 in
theorem M_X8_crash (l : Launch) (D : va_G) (dA : Nat → ClassId) (base : Nat) (σ : hp) (t0 : Nat) (v1 : Int32) {z : Int32 × hp} (h : S_X8_crash σ t0 v1 = some z) : mt l yX8_crash cX8_crash 2 (some .boolean) 2 41 D dA base σ [.ref t0, .int v1] (some (.int z.1)) z.2 0 0 := by
  refine Met.ofW (cc := cX8_crash) (maxL := 2) (ret := some .boolean) (by decide) rfl ?_
  intro p e s m args below meth c s₁ B hml hv
  obtain ⟨rfl, hh, hK⟩ := hv
  have X : cx p s m ([.ref t0, .int v1] : List Value).toArray c cX8_crash RX8 2 D dA := ⟨B.exec, B.bytes, findClass_of_methodNamed B.named, hml, fun w hw => atoms_spec (ws := .code yX8_crash cX8_crash 2 (some .boolean) :: G) B.pre w (List.mem_cons_of_mem _ hw), hK⟩
  have hl := lk_entry [.inr (some t0), .inl v1] (n := 2) (Nat.le_of_ble_eq_true rfl)
  rw [lg_entry_eq]
  have hl : lk ((lg_sl ([.ref t0, .int v1] : List Value) ++ List.replicate (2 - (lg_sl ([.ref t0, .int v1] : List Value)).length) Slot.unset).toArray) 2 [(0, .inr (some t0)), (1, .inl v1)] := hl
  generalize (lg_sl ([.ref t0, .int v1] : List Value) ++ List.replicate (2 - (lg_sl ([.ref t0, .int v1] : List Value)).length) Slot.unset).toArray = ls at hl ⊢
  exact K_X8_crash_0 X B.returns B.notSynchronized ⟨Nat.le_refl _, Nat.le_refl _⟩ hh va_S.rf hl h
theorem mo_X8_settle_12 {z : Int32 × hp} {σ : hp} (h : S_X8_settle_12 σ = some z) : le4 σ z.2 := by
  unfold S_X8_settle_12 at h
  cases h
  show le4 σ σ
  exact le4.rf _
set_option maxHeartbeats 4000000 in
set_option maxRecDepth 100000 in
theorem K_X8_settle_12 {p : Program} {l : Launch} {e : Env} {R : Room} {s : State} {m : MethodId} {args : Array Value} {below : List Frame} {meth : Method} {c : Code} {D : va_G} {dA : Nat → ClassId} {base : Nat} {z : Int32 × hp} (X : cx p s m args c cX8_settle RX8 5 D dA) (hret : meth.sig.returnType = some .int) (hlk : meth.locks = false) (hR : 7 ≤ R.frames ∧ 154 ≤ R.locals) {n0 s0 : Nat} (hRc : z.2.2.2.2.1 ≤ n0 + R.cells ∧ z.2.2.2.2.2 ≤ s0 + R.slots) {σ : hp} {H : Heap} {locs : List Loc} {ls : Array Slot} (hn : n0 ≤ σ.2.2.2.1 ∧ s0 ≤ σ.2.2.2.2) (hh : hw D dA base σ H) (hS : hs base s.heap H locs) (hl : lk ls 5 []) (h : S_X8_settle_12 σ = some z) : W p l e R s m args below meth c H locs (σ.2.2.2.1 - n0) (σ.2.2.2.2 - s0) (MQ below (qG D dA base (some (.int z.1)) z.2) args s (z.2.2.2.2.1 - n0) (z.2.2.2.2.2 - s0) (fun q => base ≤ q)) (F0 m 12 ls []) := by
  have hz0 := mo_X8_settle_12 h
  have hcl : σ.2.2.2.1 - n0 ≤ R.cells ∧ σ.2.2.2.2 - s0 ≤ R.slots := by unfold le4 at hz0; omega
  unfold S_X8_settle_12 at h
  refine lv_iconst (v := (-1 : Int32)) X.1 X.2.1 dX8_settle_12 (by decide) ?_
  cases h
  exact q_iret X hret hlk hh hS dX8_settle_13
theorem mo_X8_settle_50 {rec18 : hp → Nat → Int32 → Int32 → Int32 → Option (Int32 × hp)} {z : Int32 × hp} (hm18 : ∀ (σ : hp) (t0 : Nat) (v1 : Int32) (v2 : Int32) (v3 : Int32), rec18 σ t0 v1 v2 v3 = some z → le4 σ z.2) {σ : hp} {t0 : Nat} {v1 : Int32} {v3 : Int32} {v4 : Int32} {w0 : Int32} (h : S_X8_settle_50 rec18 σ t0 v1 v3 v4 w0 = some z) : le4 σ z.2 := by
  unfold S_X8_settle_50 at h
  by_cases c51 : w0 = (-1 : Int32)
  · rw [if_pos c51] at h
    cases h
    show le4 σ σ
    exact le4.rf _
  · rw [if_neg c51] at h
    exact (hm18 _ _ _ _ _ h)
set_option maxHeartbeats 4000000 in
set_option maxRecDepth 100000 in
theorem K_X8_settle_50 {p : Program} {l : Launch} {e : Env} {R : Room} {s : State} {m : MethodId} {args : Array Value} {below : List Frame} {meth : Method} {c : Code} {D : va_G} {dA : Nat → ClassId} {base : Nat} {rec18 : hp → Nat → Int32 → Int32 → Int32 → Option (Int32 × hp)} {z : Int32 × hp} (X : cx p s m args c cX8_settle RX8 5 D dA) (hret : meth.sig.returnType = some .int) (hlk : meth.locks = false) (hR : 7 ≤ R.frames ∧ 154 ≤ R.locals) {n0 s0 : Nat} (hRc : z.2.2.2.2.1 ≤ n0 + R.cells ∧ z.2.2.2.2.2 ≤ s0 + R.slots) (hm18 : ∀ (σ : hp) (t0 : Nat) (v1 : Int32) (v2 : Int32) (v3 : Int32), rec18 σ t0 v1 v2 v3 = some z → le4 σ z.2) (hr18 : ∀ (σ : hp) (t0 : Nat) (v1 : Int32) (v2 : Int32) (v3 : Int32) (H : Heap) (locs : List Loc) (ls : Array Slot), n0 ≤ σ.2.2.2.1 ∧ s0 ≤ σ.2.2.2.2 → hw D dA base σ H → hs base s.heap H locs → lk ls 5 [(0, .inr (some t0)), (1, .inl v1), (2, .inl v2), (3, .inl v3)] → rec18 σ t0 v1 v2 v3 = some z → W p l e R s m args below meth c H locs (σ.2.2.2.1 - n0) (σ.2.2.2.2 - s0) (MQ below (qG D dA base (some (.int z.1)) z.2) args s (z.2.2.2.2.1 - n0) (z.2.2.2.2.2 - s0) (fun q => base ≤ q)) (F0 m 18 ls [])) {σ : hp} {t0 : Nat} {v1 : Int32} {v3 : Int32} {v4 : Int32} {w0 : Int32} {H : Heap} {locs : List Loc} {ls : Array Slot} (hn : n0 ≤ σ.2.2.2.1 ∧ s0 ≤ σ.2.2.2.2) (hh : hw D dA base σ H) (hS : hs base s.heap H locs) (hl : lk ls 5 [(0, .inr (some t0)), (1, .inl v1), (3, .inl v3), (4, .inl v4)]) (h : S_X8_settle_50 rec18 σ t0 v1 v3 v4 w0 = some z) : W p l e R s m args below meth c H locs (σ.2.2.2.1 - n0) (σ.2.2.2.2 - s0) (MQ below (qG D dA base (some (.int z.1)) z.2) args s (z.2.2.2.2.1 - n0) (z.2.2.2.2.2 - s0) (fun q => base ≤ q)) (F0 m 50 ls [.int w0]) := by
  have hz0 := mo_X8_settle_50 hm18 h
  have hcl : σ.2.2.2.1 - n0 ≤ R.cells ∧ σ.2.2.2.2 - s0 ≤ R.slots := by unfold le4 at hz0; omega
  unfold S_X8_settle_50 at h
  refine lv_iconst (v := (-1 : Int32)) X.1 X.2.1 dX8_settle_50 (by decide) ?_
  refine lv_icmp_ne (tgt := 56) X.1 X.2.1 dX8_settle_51 (by decide) (fun c51 => ?_) (fun c51 => ?_)
  · rw [if_neg c51] at h
    refine lv_iconst (v := (1 : Int32)) X.1 X.2.1 dX8_settle_56 (by decide) ?_
    refine q_iload X dX8_settle_57 hl 3 rfl ?_
    refine lv_isub X.1 X.2.1 dX8_settle_59 ?_
    refine q_istore_n (lv' := [(2, .inl ((1 : Int32) - v4)), (0, .inr (some t0)), (1, .inl v1), (3, .inl v3), (4, .inl v4)]) X dX8_settle_60 rfl hl (by decide) rfl (fun ls hl => ?_)
    refine q_iinc (v := (1 : Int32)) (lv' := [(3, .inl (v3 + (1 : Int32))), (2, .inl ((1 : Int32) - v4)), (0, .inr (some t0)), (1, .inl v1), (4, .inl v4)]) X dX8_settle_61 hl 3 rfl (by decide) (by decide) rfl (fun ls hl => ?_)
    refine lv_goto (tgt := 18) X.1 X.2.1 dX8_settle_64 (by decide) ?_
    exact hr18 _ _ _ _ _ _ _ _ hn hh hS (lk_sub hl [2, 3, 1, 0] rfl) h
  · rw [if_pos c51] at h
    refine q_iload_n X dX8_settle_54 rfl hl 2 rfl ?_
    cases h
    exact q_iret X hret hlk hh hS dX8_settle_55
theorem mo_X8_settle_42 {rec18 : hp → Nat → Int32 → Int32 → Int32 → Option (Int32 × hp)} {z : Int32 × hp} (hm18 : ∀ (σ : hp) (t0 : Nat) (v1 : Int32) (v2 : Int32) (v3 : Int32), rec18 σ t0 v1 v2 v3 = some z → le4 σ z.2) {σ : hp} {t0 : Nat} {v1 : Int32} {v3 : Int32} {w0 : Int32} (h : S_X8_settle_42 rec18 σ t0 v1 v3 w0 = some z) : le4 σ z.2 := by
  unfold S_X8_settle_42 at h
  obtain ⟨b47, e_b47, h⟩ := o_b h
  obtain ⟨q47, e_q47, h⟩ := o_b h
  exact ((mo_X8_handOver_0 e_q47)).tr (mo_X8_settle_50 hm18 h)
set_option maxHeartbeats 4000000 in
set_option maxRecDepth 100000 in
theorem K_X8_settle_42 {p : Program} {l : Launch} {e : Env} {R : Room} {s : State} {m : MethodId} {args : Array Value} {below : List Frame} {meth : Method} {c : Code} {D : va_G} {dA : Nat → ClassId} {base : Nat} {rec18 : hp → Nat → Int32 → Int32 → Int32 → Option (Int32 × hp)} {z : Int32 × hp} (X : cx p s m args c cX8_settle RX8 5 D dA) (hret : meth.sig.returnType = some .int) (hlk : meth.locks = false) (hR : 7 ≤ R.frames ∧ 154 ≤ R.locals) {n0 s0 : Nat} (hRc : z.2.2.2.2.1 ≤ n0 + R.cells ∧ z.2.2.2.2.2 ≤ s0 + R.slots) (hm18 : ∀ (σ : hp) (t0 : Nat) (v1 : Int32) (v2 : Int32) (v3 : Int32), rec18 σ t0 v1 v2 v3 = some z → le4 σ z.2) (hr18 : ∀ (σ : hp) (t0 : Nat) (v1 : Int32) (v2 : Int32) (v3 : Int32) (H : Heap) (locs : List Loc) (ls : Array Slot), n0 ≤ σ.2.2.2.1 ∧ s0 ≤ σ.2.2.2.2 → hw D dA base σ H → hs base s.heap H locs → lk ls 5 [(0, .inr (some t0)), (1, .inl v1), (2, .inl v2), (3, .inl v3)] → rec18 σ t0 v1 v2 v3 = some z → W p l e R s m args below meth c H locs (σ.2.2.2.1 - n0) (σ.2.2.2.2 - s0) (MQ below (qG D dA base (some (.int z.1)) z.2) args s (z.2.2.2.2.1 - n0) (z.2.2.2.2.2 - s0) (fun q => base ≤ q)) (F0 m 18 ls [])) {σ : hp} {t0 : Nat} {v1 : Int32} {v3 : Int32} {w0 : Int32} {H : Heap} {locs : List Loc} {ls : Array Slot} (hn : n0 ≤ σ.2.2.2.1 ∧ s0 ≤ σ.2.2.2.2) (hh : hw D dA base σ H) (hS : hs base s.heap H locs) (hl : lk ls 5 [(0, .inr (some t0)), (1, .inl v1), (3, .inl v3)]) (h : S_X8_settle_42 rec18 σ t0 v1 v3 w0 = some z) : W p l e R s m args below meth c H locs (σ.2.2.2.1 - n0) (σ.2.2.2.2 - s0) (MQ below (qG D dA base (some (.int z.1)) z.2) args s (z.2.2.2.2.1 - n0) (z.2.2.2.2.2 - s0) (fun q => base ≤ q)) (F0 m 42 ls [.int w0]) := by
  have hz0 := mo_X8_settle_42 hm18 h
  have hcl : σ.2.2.2.1 - n0 ≤ R.cells ∧ σ.2.2.2.2 - s0 ≤ R.slots := by unfold le4 at hz0; omega
  unfold S_X8_settle_42 at h
  refine q_istore (lv' := [(4, .inl w0), (0, .inr (some t0)), (1, .inl v1), (3, .inl v3)]) X dX8_settle_42 hl (by decide) rfl (fun ls hl => ?_)
  refine q_aload_n X dX8_settle_44 rfl hl 1 rfl ?_
  refine q_iload X dX8_settle_45 hl 0 rfl ?_
  obtain ⟨b47, e_b47, h⟩ := o_b h
  obtain ⟨q47, e_q47, h⟩ := o_b h
  have g47 := mo_X8_settle_50 hm18 h
  have f47 := mo_X8_handOver_0 e_q47
  unfold le4 at g47 f47
  refine q_cV (As := [.int w0]) X hh hS hl cf_X8_56 (cN := 8) rfl rfl e_b47 rfl (M_X8_handOver l D dA base σ b47 w0 e_q47) ⟨Nat.le_trans (by decide) hR.1, Nat.le_trans (by decide) hR.2⟩ (cat8 [] (Nat.le_of_ble_eq_true rfl)) dX8_settle_47 ⟨by omega, by omega⟩ rfl rfl (fun H locs hh hS => ?_)
  refine W.cs (cells' := q47.2.2.2.2.1 - n0) (slots' := q47.2.2.2.2.2 - s0) (by omega) (by omega) ?_
  have hn : n0 ≤ q47.2.2.2.2.1 ∧ s0 ≤ q47.2.2.2.2.2 := by omega
  exact K_X8_settle_50 X hret hlk hR hRc hm18 hr18 hn hh hS (lk_sub hl [1, 2, 3, 0] rfl) h
theorem mo_X8_settle_18_b {rec18 : hp → Nat → Int32 → Int32 → Int32 → Option (Int32 × hp)} {z : Int32 × hp} (hm18 : ∀ (σ : hp) (t0 : Nat) (v1 : Int32) (v2 : Int32) (v3 : Int32), rec18 σ t0 v1 v2 v3 = some z → le4 σ z.2) {σ : hp} {t0 : Nat} {v1 : Int32} {v2 : Int32} {v3 : Int32} (h : S_X8_settle_18_b rec18 σ t0 v1 v2 v3 = some z) : le4 σ z.2 := by
  unfold S_X8_settle_18_b at h
  by_cases c20 : v1 ≤ v3
  · rw [if_pos c20] at h
    cases h
    show le4 σ σ
    exact le4.rf _
  · rw [if_neg c20] at h
    obtain ⟨t24, e_t24, h⟩ := o_b h
    obtain ⟨t28, e_t28, h⟩ := o_b h
    obtain ⟨t29, e_t29, h⟩ := o_b h
    by_cases c32 : t29 ≤ (0 : Int32)
    · rw [if_pos c32] at h
      exact (mo_X8_settle_42 hm18 h)
    · rw [if_neg c32] at h
      exact (mo_X8_settle_42 hm18 h)
theorem mo_X8_settle_18 {z : Int32 × hp} : ∀ (n : Nat) (σ : hp) (t0 : Nat) (v1 : Int32) (v2 : Int32) (v3 : Int32), S_X8_settle_18 n σ t0 v1 v2 v3 = some z → le4 σ z.2 := by
  intro n
  induction n with
  | zero => intro σ t0 v1 v2 v3 h; cases h
  | succ n ih => intro σ t0 v1 v2 v3 h; exact mo_X8_settle_18_b ih h
set_option maxHeartbeats 4000000 in
set_option maxRecDepth 100000 in
theorem K_X8_settle_18_b {p : Program} {l : Launch} {e : Env} {R : Room} {s : State} {m : MethodId} {args : Array Value} {below : List Frame} {meth : Method} {c : Code} {D : va_G} {dA : Nat → ClassId} {base : Nat} {rec18 : hp → Nat → Int32 → Int32 → Int32 → Option (Int32 × hp)} {z : Int32 × hp} (X : cx p s m args c cX8_settle RX8 5 D dA) (hret : meth.sig.returnType = some .int) (hlk : meth.locks = false) (hR : 7 ≤ R.frames ∧ 154 ≤ R.locals) {n0 s0 : Nat} (hRc : z.2.2.2.2.1 ≤ n0 + R.cells ∧ z.2.2.2.2.2 ≤ s0 + R.slots) (hm18 : ∀ (σ : hp) (t0 : Nat) (v1 : Int32) (v2 : Int32) (v3 : Int32), rec18 σ t0 v1 v2 v3 = some z → le4 σ z.2) (hr18 : ∀ (σ : hp) (t0 : Nat) (v1 : Int32) (v2 : Int32) (v3 : Int32) (H : Heap) (locs : List Loc) (ls : Array Slot), n0 ≤ σ.2.2.2.1 ∧ s0 ≤ σ.2.2.2.2 → hw D dA base σ H → hs base s.heap H locs → lk ls 5 [(0, .inr (some t0)), (1, .inl v1), (2, .inl v2), (3, .inl v3)] → rec18 σ t0 v1 v2 v3 = some z → W p l e R s m args below meth c H locs (σ.2.2.2.1 - n0) (σ.2.2.2.2 - s0) (MQ below (qG D dA base (some (.int z.1)) z.2) args s (z.2.2.2.2.1 - n0) (z.2.2.2.2.2 - s0) (fun q => base ≤ q)) (F0 m 18 ls [])) {σ : hp} {t0 : Nat} {v1 : Int32} {v2 : Int32} {v3 : Int32} {H : Heap} {locs : List Loc} {ls : Array Slot} (hn : n0 ≤ σ.2.2.2.1 ∧ s0 ≤ σ.2.2.2.2) (hh : hw D dA base σ H) (hS : hs base s.heap H locs) (hl : lk ls 5 [(0, .inr (some t0)), (1, .inl v1), (2, .inl v2), (3, .inl v3)]) (h : S_X8_settle_18_b rec18 σ t0 v1 v2 v3 = some z) : W p l e R s m args below meth c H locs (σ.2.2.2.1 - n0) (σ.2.2.2.2 - s0) (MQ below (qG D dA base (some (.int z.1)) z.2) args s (z.2.2.2.2.1 - n0) (z.2.2.2.2.2 - s0) (fun q => base ≤ q)) (F0 m 18 ls []) := by
  have hz0 := mo_X8_settle_18_b hm18 h
  have hcl : σ.2.2.2.1 - n0 ≤ R.cells ∧ σ.2.2.2.2 - s0 ≤ R.slots := by unfold le4 at hz0; omega
  unfold S_X8_settle_18_b at h
  refine q_iload_n X dX8_settle_18 rfl hl 3 rfl ?_
  refine q_iload_n X dX8_settle_19 rfl hl 1 rfl ?_
  refine lv_icmp_ge (tgt := 67) X.1 X.2.1 dX8_settle_20 (by decide) (fun c20 => ?_) (fun c20 => ?_)
  · rw [if_pos c20] at h
    refine q_iload_n X dX8_settle_67 rfl hl 1 rfl ?_
    cases h
    exact q_iret X hret hlk hh hS dX8_settle_68
  · rw [if_neg c20] at h
    refine q_aload_n X dX8_settle_23 rfl hl 0 rfl ?_
    obtain ⟨t24, e_t24, h⟩ := o_b h
    refine q_gR X hh fa_X8_10 rfl e_t24 dX8_settle_24 ?_
    refine q_iload_n X dX8_settle_27 rfl hl 2 rfl ?_
    obtain ⟨t28, e_t28, h⟩ := o_b h
    refine q_ldQ X hh (by decide) rfl e_t28 dX8_settle_28 ?_
    obtain ⟨t29, e_t29, h⟩ := o_b h
    refine q_gI X hh fa_X8_83 rfl e_t29 dX8_settle_29 ?_
    refine lv_if_le (tgt := 39) X.1 X.2.1 dX8_settle_32 (by decide) (fun c32 => ?_) (fun c32 => ?_)
    · rw [if_pos c32] at h
      refine lv_iconst (v := (1 : Int32)) X.1 X.2.1 dX8_settle_39 (by decide) ?_
      refine q_iload_n X dX8_settle_40 rfl hl 2 rfl ?_
      refine lv_isub X.1 X.2.1 dX8_settle_41 ?_
      exact K_X8_settle_42 X hret hlk hR hRc hm18 hr18 hn hh hS (lk_sub hl [0, 1, 3] rfl) h
    · rw [if_neg c32] at h
      refine q_iload_n X dX8_settle_35 rfl hl 2 rfl ?_
      refine lv_goto (tgt := 42) X.1 X.2.1 dX8_settle_36 (by decide) ?_
      exact K_X8_settle_42 X hret hlk hR hRc hm18 hr18 hn hh hS (lk_sub hl [0, 1, 3] rfl) h
theorem K_X8_settle_18 {p : Program} {l : Launch} {e : Env} {R : Room} {s : State} {m : MethodId} {args : Array Value} {below : List Frame} {meth : Method} {c : Code} {D : va_G} {dA : Nat → ClassId} {base : Nat} {z : Int32 × hp} (X : cx p s m args c cX8_settle RX8 5 D dA) (hret : meth.sig.returnType = some .int) (hlk : meth.locks = false) (hR : 7 ≤ R.frames ∧ 154 ≤ R.locals) {n0 s0 : Nat} (hRc : z.2.2.2.2.1 ≤ n0 + R.cells ∧ z.2.2.2.2.2 ≤ s0 + R.slots) : ∀ (n : Nat) (σ : hp) (t0 : Nat) (v1 : Int32) (v2 : Int32) (v3 : Int32) (H : Heap) (locs : List Loc) (ls : Array Slot), n0 ≤ σ.2.2.2.1 ∧ s0 ≤ σ.2.2.2.2 → hw D dA base σ H → hs base s.heap H locs → lk ls 5 [(0, .inr (some t0)), (1, .inl v1), (2, .inl v2), (3, .inl v3)] → S_X8_settle_18 n σ t0 v1 v2 v3 = some z → W p l e R s m args below meth c H locs (σ.2.2.2.1 - n0) (σ.2.2.2.2 - s0) (MQ below (qG D dA base (some (.int z.1)) z.2) args s (z.2.2.2.2.1 - n0) (z.2.2.2.2.2 - s0) (fun q => base ≤ q)) (F0 m 18 ls []) := by
  intro n
  induction n with
  | zero => intro σ t0 v1 v2 v3 H locs ls hn hh hS hl h; cases h
  | succ n ih => intro σ t0 v1 v2 v3 H locs ls hn hh hS hl h; exact K_X8_settle_18_b X hret hlk hR hRc (mo_X8_settle_18 n) ih hn hh hS hl h
theorem mo_X8_settle_0 {z : Int32 × hp} {σ : hp} {t0 : Nat} {v1 : Int32} (h : S_X8_settle σ t0 v1 = some z) : le4 σ z.2 := by
  unfold S_X8_settle at h
  by_cases c2 : v1 < (1 : Int32)
  · rw [if_pos c2] at h
    exact (mo_X8_settle_12 h)
  · rw [if_neg c2] at h
    by_cases c9 : v1 ≤ (200 : Int32)
    · rw [if_pos c9] at h
      exact (mo_X8_settle_18 FU _ _ _ _ _ h)
    · rw [if_neg c9] at h
      exact (mo_X8_settle_12 h)
set_option maxHeartbeats 4000000 in
set_option maxRecDepth 100000 in
theorem K_X8_settle_0 {p : Program} {l : Launch} {e : Env} {R : Room} {s : State} {m : MethodId} {args : Array Value} {below : List Frame} {meth : Method} {c : Code} {D : va_G} {dA : Nat → ClassId} {base : Nat} {z : Int32 × hp} (X : cx p s m args c cX8_settle RX8 5 D dA) (hret : meth.sig.returnType = some .int) (hlk : meth.locks = false) (hR : 7 ≤ R.frames ∧ 154 ≤ R.locals) {n0 s0 : Nat} (hRc : z.2.2.2.2.1 ≤ n0 + R.cells ∧ z.2.2.2.2.2 ≤ s0 + R.slots) {σ : hp} {t0 : Nat} {v1 : Int32} {H : Heap} {locs : List Loc} {ls : Array Slot} (hn : n0 ≤ σ.2.2.2.1 ∧ s0 ≤ σ.2.2.2.2) (hh : hw D dA base σ H) (hS : hs base s.heap H locs) (hl : lk ls 5 [(0, .inr (some t0)), (1, .inl v1)]) (h : S_X8_settle σ t0 v1 = some z) : W p l e R s m args below meth c H locs (σ.2.2.2.1 - n0) (σ.2.2.2.2 - s0) (MQ below (qG D dA base (some (.int z.1)) z.2) args s (z.2.2.2.2.1 - n0) (z.2.2.2.2.2 - s0) (fun q => base ≤ q)) (F0 m 0 ls []) := by
  have hz0 := mo_X8_settle_0 h
  have hcl : σ.2.2.2.1 - n0 ≤ R.cells ∧ σ.2.2.2.2 - s0 ≤ R.slots := by unfold le4 at hz0; omega
  unfold S_X8_settle at h
  refine q_iload_n X dX8_settle_0 rfl hl 1 rfl ?_
  refine lv_iconst (v := (1 : Int32)) X.1 X.2.1 dX8_settle_1 (by decide) ?_
  refine lv_icmp_lt (tgt := 12) X.1 X.2.1 dX8_settle_2 (by decide) (fun c2 => ?_) (fun c2 => ?_)
  · rw [if_pos c2] at h
    exact K_X8_settle_12 X hret hlk hR hRc hn hh hS (lk_sub hl [] rfl) h
  · rw [if_neg c2] at h
    refine q_iload_n X dX8_settle_5 rfl hl 1 rfl ?_
    refine lv_sipush (v := (200 : Int32)) X.1 X.2.1 dX8_settle_6 (by decide) ?_
    refine lv_icmp_le (tgt := 14) X.1 X.2.1 dX8_settle_9 (by decide) (fun c9 => ?_) (fun c9 => ?_)
    · rw [if_pos c9] at h
      refine lv_iconst (v := (0 : Int32)) X.1 X.2.1 dX8_settle_14 (by decide) ?_
      refine q_istore_n (lv' := [(2, .inl (0 : Int32)), (0, .inr (some t0)), (1, .inl v1)]) X dX8_settle_15 rfl hl (by decide) rfl (fun ls hl => ?_)
      refine lv_iconst (v := (0 : Int32)) X.1 X.2.1 dX8_settle_16 (by decide) ?_
      refine q_istore_n (lv' := [(3, .inl (0 : Int32)), (2, .inl (0 : Int32)), (0, .inr (some t0)), (1, .inl v1)]) X dX8_settle_17 rfl hl (by decide) rfl (fun ls hl => ?_)
      exact K_X8_settle_18 X hret hlk hR hRc FU _ _ _ _ _ _ _ _ hn hh hS (lk_sub hl [2, 3, 1, 0] rfl) h
    · rw [if_neg c9] at h
      exact K_X8_settle_12 X hret hlk hR hRc hn hh hS (lk_sub hl [] rfl) h
set_option maxRecDepth 100000 in
theorem M_X8_settle (l : Launch) (D : va_G) (dA : Nat → ClassId) (base : Nat) (σ : hp) (t0 : Nat) (v1 : Int32) {z : Int32 × hp} (h : S_X8_settle σ t0 v1 = some z) : mt l yX8_settle cX8_settle 5 (some .int) 7 154 D dA base σ [.ref t0, .int v1] (some (.int z.1)) z.2 (z.2.2.2.2.1 - σ.2.2.2.1) (z.2.2.2.2.2 - σ.2.2.2.2) := by
  have hzz := mo_X8_settle_0 h
  unfold le4 at hzz
  refine Met.ofW (cc := cX8_settle) (maxL := 5) (ret := some .int) (by decide) rfl ?_
  intro p e s m args below meth c s₁ B hml hv
  obtain ⟨rfl, hh, hK⟩ := hv
  have X : cx p s m ([.ref t0, .int v1] : List Value).toArray c cX8_settle RX8 5 D dA := ⟨B.exec, B.bytes, findClass_of_methodNamed B.named, hml, fun w hw => atoms_spec (ws := .code yX8_settle cX8_settle 5 (some .int) :: G) B.pre w (List.mem_cons_of_mem _ hw), hK⟩
  have hl := lk_entry [.inr (some t0), .inl v1] (n := 5) (Nat.le_of_ble_eq_true rfl)
  rw [lg_entry_eq]
  have hl : lk ((lg_sl ([.ref t0, .int v1] : List Value) ++ List.replicate (5 - (lg_sl ([.ref t0, .int v1] : List Value)).length) Slot.unset).toArray) 5 [(0, .inr (some t0)), (1, .inl v1)] := hl
  generalize (lg_sl ([.ref t0, .int v1] : List Value) ++ List.replicate (5 - (lg_sl ([.ref t0, .int v1] : List Value)).length) Slot.unset).toArray = ls at hl ⊢
  refine W.cs (cells' := σ.2.2.2.1 - σ.2.2.2.1) (slots' := σ.2.2.2.2 - σ.2.2.2.2) (Nat.sub_self _).symm (Nat.sub_self _).symm ?_
  exact K_X8_settle_0 X B.returns B.notSynchronized ⟨Nat.le_refl _, Nat.le_refl _⟩ (n0 := σ.2.2.2.1) (s0 := σ.2.2.2.2) ⟨by show _ ≤ _ + (_ - _); omega, by show _ ≤ _ + (_ - _); omega⟩ ⟨Nat.le_refl _, Nat.le_refl _⟩ hh va_S.rf hl h
