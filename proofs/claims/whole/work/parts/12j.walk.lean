/-! Walks: written by wip/whole/gen/emit.py. X9_come X9_takeFirst X9_call -/
theorem ke_X9_come_135 {z : hp} {σ : hp} (h : S_X9_come_135 σ = some z) : eq4 σ z := by
  unfold S_X9_come_135 at h
  cases h
  exact eq4.rf _
set_option maxHeartbeats 4000000 in
set_option maxRecDepth 100000 in
theorem K_X9_come_135 {p : Program} {l : Launch} {e : Env} {R : Room} {s : State} {m : MethodId} {args : Array Value} {below : List Frame} {meth : Method} {c : Code} {D : va_G} {dA : Nat → ClassId} {base : Nat} {z : hp} (X : cx p s m args c cX9_come RX9 7 D dA) (hret : meth.sig.returnType = none) (hlk : meth.locks = false) (hR : 10 ≤ R.frames ∧ 227 ≤ R.locals) {σ : hp} {H : Heap} {locs : List Loc} {ls : Array Slot} (hh : hw D dA base σ H) (hS : hs base s.heap H locs) (hl : lk ls 7 []) (h : S_X9_come_135 σ = some z) : W p l e R s m args below meth c H locs 0 0 (MQ below (qG D dA base none z) args s 0 0 (fun q => base ≤ q)) (F0 m 135 ls []) := by
  unfold S_X9_come_135 at h
  cases h
  exact q_vret X hret hlk hh hS dX9_come_135
theorem ke_X9_come_108 {z : hp} {σ : hp} {t0 : Nat} {v1 : Int32} {v4 : Int32} {v6 : Int32} (h : S_X9_come_108 σ t0 v1 v4 v6 = some z) : eq4 σ z := by
  unfold S_X9_come_108 at h
  by_cases c110 : v6 = (0 : Int32)
  · rw [if_pos c110] at h
    obtain ⟨b116, e_b116, h⟩ := o_b h
    obtain ⟨q116, e_q116, h⟩ := o_b h
    obtain ⟨t120, e_t120, h⟩ := o_b h
    obtain ⟨s126, e_s126, h⟩ := o_b h
    obtain ⟨b132, e_b132, h⟩ := o_b h
    obtain ⟨q132, e_q132, h⟩ := o_b h
    exact ((((ke_X9_forget_0 e_q116)).tr (e_stI e_s126)).tr (ke_X9_control_0 e_q132)).tr (ke_X9_come_135 h)
  · rw [if_neg c110] at h
    exact (ke_X9_come_135 h)
set_option maxHeartbeats 4000000 in
set_option maxRecDepth 100000 in
theorem K_X9_come_108 {p : Program} {l : Launch} {e : Env} {R : Room} {s : State} {m : MethodId} {args : Array Value} {below : List Frame} {meth : Method} {c : Code} {D : va_G} {dA : Nat → ClassId} {base : Nat} {z : hp} (X : cx p s m args c cX9_come RX9 7 D dA) (hret : meth.sig.returnType = none) (hlk : meth.locks = false) (hR : 10 ≤ R.frames ∧ 227 ≤ R.locals) {σ : hp} {t0 : Nat} {v1 : Int32} {v4 : Int32} {v6 : Int32} {H : Heap} {locs : List Loc} {ls : Array Slot} (hh : hw D dA base σ H) (hS : hs base s.heap H locs) (hl : lk ls 7 [(0, .inr (some t0)), (1, .inl v1), (4, .inl v4), (6, .inl v6)]) (h : S_X9_come_108 σ t0 v1 v4 v6 = some z) : W p l e R s m args below meth c H locs 0 0 (MQ below (qG D dA base none z) args s 0 0 (fun q => base ≤ q)) (F0 m 108 ls []) := by
  unfold S_X9_come_108 at h
  refine q_iload X dX9_come_108 hl 3 rfl ?_
  refine lv_if_ne (tgt := 135) X.1 X.2.1 dX9_come_110 (by decide) (fun c110 => ?_) (fun c110 => ?_)
  · rw [if_neg c110] at h
    exact K_X9_come_135 X hret hlk hR hh hS (lk_sub hl [] rfl) h
  · rw [if_pos c110] at h
    refine q_aload_n X dX9_come_113 rfl hl 0 rfl ?_
    refine q_iload_n X dX9_come_114 rfl hl 1 rfl ?_
    refine lv_iconst (v := (2 : Int32)) X.1 X.2.1 dX9_come_115 (by decide) ?_
    obtain ⟨b116, e_b116, h⟩ := o_b h
    obtain ⟨q116, e_q116, h⟩ := o_b h
    refine q_cV (As := [.int v1, .int (2 : Int32)]) X hh hS hl cf_X9_176 (cN := 9) rfl rfl e_b116 rfl (M_X9_forget l D dA base σ b116 v1 (2 : Int32) e_q116) ⟨Nat.le_trans (by decide) hR.1, Nat.le_trans (by decide) hR.2⟩ (cat8 [] (Nat.le_of_ble_eq_true rfl)) dX9_come_116 ⟨Nat.zero_le _, Nat.zero_le _⟩ rfl rfl (fun H locs hh hS => ?_)
    refine q_aload_n X dX9_come_119 rfl hl 0 rfl ?_
    obtain ⟨t120, e_t120, h⟩ := o_b h
    refine q_gR X hh fa_X9_63 rfl e_t120 dX9_come_120 ?_
    refine q_iload_n X dX9_come_123 rfl hl 1 rfl ?_
    refine q_iload X dX9_come_124 hl 2 rfl ?_
    obtain ⟨s126, e_s126, h⟩ := o_b h
    refine q_stI X hh hS e_s126 dX9_come_126 (fun H locs hh hS => ?_)
    refine q_aload_n X dX9_come_127 rfl hl 0 rfl ?_
    refine q_iload_n X dX9_come_128 rfl hl 1 rfl ?_
    refine lv_iconst (v := (5 : Int32)) X.1 X.2.1 dX9_come_129 (by decide) ?_
    refine q_iload X dX9_come_130 hl 2 rfl ?_
    obtain ⟨b132, e_b132, h⟩ := o_b h
    obtain ⟨q132, e_q132, h⟩ := o_b h
    refine q_cV (As := [.int v1, .int (5 : Int32), .int v4]) X hh hS hl cf_X9_172 (cN := 9) rfl rfl e_b132 rfl (M_X9_control l D dA base s126 b132 v1 (5 : Int32) v4 e_q132) ⟨Nat.le_trans (by decide) hR.1, Nat.le_trans (by decide) hR.2⟩ (cat8 [] (Nat.le_of_ble_eq_true rfl)) dX9_come_132 ⟨Nat.zero_le _, Nat.zero_le _⟩ rfl rfl (fun H locs hh hS => ?_)
    exact K_X9_come_135 X hret hlk hR hh hS (lk_sub hl [] rfl) h
theorem ke_X9_come_92 {z : hp} {σ : hp} {t0 : Nat} {v1 : Int32} {v4 : Int32} {w0 : Int32} (h : S_X9_come_92 σ t0 v1 v4 w0 = some z) : eq4 σ z := by
  unfold S_X9_come_92 at h
  by_cases c95 : v1 = (0 : Int32)
  · rw [if_pos c95] at h
    obtain ⟨t99, e_t99, h⟩ := o_b h
    obtain ⟨t103, e_t103, h⟩ := o_b h
    by_cases c105 : t103 = (1 : Int32)
    · rw [if_pos c105] at h
      exact (ke_X9_come_135 h)
    · rw [if_neg c105] at h
      exact (ke_X9_come_108 h)
  · rw [if_neg c95] at h
    exact (ke_X9_come_108 h)
set_option maxHeartbeats 4000000 in
set_option maxRecDepth 100000 in
theorem K_X9_come_92 {p : Program} {l : Launch} {e : Env} {R : Room} {s : State} {m : MethodId} {args : Array Value} {below : List Frame} {meth : Method} {c : Code} {D : va_G} {dA : Nat → ClassId} {base : Nat} {z : hp} (X : cx p s m args c cX9_come RX9 7 D dA) (hret : meth.sig.returnType = none) (hlk : meth.locks = false) (hR : 10 ≤ R.frames ∧ 227 ≤ R.locals) {σ : hp} {t0 : Nat} {v1 : Int32} {v4 : Int32} {w0 : Int32} {H : Heap} {locs : List Loc} {ls : Array Slot} (hh : hw D dA base σ H) (hS : hs base s.heap H locs) (hl : lk ls 7 [(0, .inr (some t0)), (1, .inl v1), (4, .inl v4)]) (h : S_X9_come_92 σ t0 v1 v4 w0 = some z) : W p l e R s m args below meth c H locs 0 0 (MQ below (qG D dA base none z) args s 0 0 (fun q => base ≤ q)) (F0 m 92 ls [.int w0]) := by
  unfold S_X9_come_92 at h
  refine q_istore (lv' := [(6, .inl w0), (0, .inr (some t0)), (1, .inl v1), (4, .inl v4)]) X dX9_come_92 hl (by decide) rfl (fun ls hl => ?_)
  refine q_iload_n X dX9_come_94 rfl hl 2 rfl ?_
  refine lv_if_ne (tgt := 108) X.1 X.2.1 dX9_come_95 (by decide) (fun c95 => ?_) (fun c95 => ?_)
  · rw [if_neg c95] at h
    exact K_X9_come_108 X hret hlk hR hh hS (lk_sub hl [1, 2, 3, 0] rfl) h
  · rw [if_pos c95] at h
    refine q_aload_n X dX9_come_98 rfl hl 1 rfl ?_
    obtain ⟨t99, e_t99, h⟩ := o_b h
    refine q_gR X hh fa_X9_56 rfl e_t99 dX9_come_99 ?_
    refine q_iload_n X dX9_come_102 rfl hl 2 rfl ?_
    obtain ⟨t103, e_t103, h⟩ := o_b h
    refine q_ldI X hh e_t103 dX9_come_103 ?_
    refine lv_iconst (v := (1 : Int32)) X.1 X.2.1 dX9_come_104 (by decide) ?_
    refine lv_icmp_eq (tgt := 135) X.1 X.2.1 dX9_come_105 (by decide) (fun c105 => ?_) (fun c105 => ?_)
    · rw [if_pos c105] at h
      exact K_X9_come_135 X hret hlk hR hh hS (lk_sub hl [] rfl) h
    · rw [if_neg c105] at h
      exact K_X9_come_108 X hret hlk hR hh hS (lk_sub hl [1, 2, 3, 0] rfl) h
theorem ke_X9_come_91 {z : hp} {σ : hp} {t0 : Nat} {v1 : Int32} {v4 : Int32} (h : S_X9_come_91 σ t0 v1 v4 = some z) : eq4 σ z := by
  unfold S_X9_come_91 at h
  exact (ke_X9_come_92 h)
set_option maxHeartbeats 4000000 in
set_option maxRecDepth 100000 in
theorem K_X9_come_91 {p : Program} {l : Launch} {e : Env} {R : Room} {s : State} {m : MethodId} {args : Array Value} {below : List Frame} {meth : Method} {c : Code} {D : va_G} {dA : Nat → ClassId} {base : Nat} {z : hp} (X : cx p s m args c cX9_come RX9 7 D dA) (hret : meth.sig.returnType = none) (hlk : meth.locks = false) (hR : 10 ≤ R.frames ∧ 227 ≤ R.locals) {σ : hp} {t0 : Nat} {v1 : Int32} {v4 : Int32} {H : Heap} {locs : List Loc} {ls : Array Slot} (hh : hw D dA base σ H) (hS : hs base s.heap H locs) (hl : lk ls 7 [(0, .inr (some t0)), (1, .inl v1), (4, .inl v4)]) (h : S_X9_come_91 σ t0 v1 v4 = some z) : W p l e R s m args below meth c H locs 0 0 (MQ below (qG D dA base none z) args s 0 0 (fun q => base ≤ q)) (F0 m 91 ls []) := by
  unfold S_X9_come_91 at h
  refine lv_iconst (v := (0 : Int32)) X.1 X.2.1 dX9_come_91 (by decide) ?_
  exact K_X9_come_92 X hret hlk hR hh hS (lk_sub hl [0, 1, 2] rfl) h
theorem ke_X9_come_197 {z : hp} {σ : hp} (h : S_X9_come_197 σ = some z) : eq4 σ z := by
  unfold S_X9_come_197 at h
  cases h
  exact eq4.rf _
set_option maxHeartbeats 4000000 in
set_option maxRecDepth 100000 in
theorem K_X9_come_197 {p : Program} {l : Launch} {e : Env} {R : Room} {s : State} {m : MethodId} {args : Array Value} {below : List Frame} {meth : Method} {c : Code} {D : va_G} {dA : Nat → ClassId} {base : Nat} {z : hp} (X : cx p s m args c cX9_come RX9 7 D dA) (hret : meth.sig.returnType = none) (hlk : meth.locks = false) (hR : 10 ≤ R.frames ∧ 227 ≤ R.locals) {σ : hp} {H : Heap} {locs : List Loc} {ls : Array Slot} (hh : hw D dA base σ H) (hS : hs base s.heap H locs) (hl : lk ls 7 []) (h : S_X9_come_197 σ = some z) : W p l e R s m args below meth c H locs 0 0 (MQ below (qG D dA base none z) args s 0 0 (fun q => base ≤ q)) (F0 m 197 ls []) := by
  unfold S_X9_come_197 at h
  cases h
  exact q_vret X hret hlk hh hS dX9_come_197
theorem ke_X9_come_418 {z : hp} {σ : hp} (h : S_X9_come_418 σ = some z) : eq4 σ z := by
  unfold S_X9_come_418 at h
  cases h
  exact eq4.rf _
set_option maxHeartbeats 4000000 in
set_option maxRecDepth 100000 in
theorem K_X9_come_418 {p : Program} {l : Launch} {e : Env} {R : Room} {s : State} {m : MethodId} {args : Array Value} {below : List Frame} {meth : Method} {c : Code} {D : va_G} {dA : Nat → ClassId} {base : Nat} {z : hp} (X : cx p s m args c cX9_come RX9 7 D dA) (hret : meth.sig.returnType = none) (hlk : meth.locks = false) (hR : 10 ≤ R.frames ∧ 227 ≤ R.locals) {σ : hp} {H : Heap} {locs : List Loc} {ls : Array Slot} (hh : hw D dA base σ H) (hS : hs base s.heap H locs) (hl : lk ls 7 []) (h : S_X9_come_418 σ = some z) : W p l e R s m args below meth c H locs 0 0 (MQ below (qG D dA base none z) args s 0 0 (fun q => base ≤ q)) (F0 m 418 ls []) := by
  unfold S_X9_come_418 at h
  cases h
  exact q_vret X hret hlk hh hS dX9_come_418
theorem ke_X9_come_371_b {rec371 : hp → Nat → Int32 → Int32 → Option (hp)} {z : hp} (hm371 : ∀ (σ : hp) (t0 : Nat) (v1 : Int32) (v6 : Int32), rec371 σ t0 v1 v6 = some z → eq4 σ z) {σ : hp} {t0 : Nat} {v1 : Int32} {v6 : Int32} (h : S_X9_come_371_b rec371 σ t0 v1 v6 = some z) : eq4 σ z := by
  unfold S_X9_come_371_b at h
  by_cases c375 : (32 : Int32) ≤ v6
  · rw [if_pos c375] at h
    obtain ⟨b400, e_b400, h⟩ := o_b h
    obtain ⟨q400, e_q400, h⟩ := o_b h
    exact ((ke_X9_done_0 e_q400)).tr (ke_X9_come_418 h)
  · rw [if_neg c375] at h
    obtain ⟨t379, e_t379, h⟩ := o_b h
    obtain ⟨t385, e_t385, h⟩ := o_b h
    obtain ⟨t390, e_t390, h⟩ := o_b h
    obtain ⟨s391, e_s391, h⟩ := o_b h
    exact ((e_stI e_s391)).tr (hm371 _ _ _ _ h)
theorem ke_X9_come_371 {z : hp} : ∀ (n : Nat) (σ : hp) (t0 : Nat) (v1 : Int32) (v6 : Int32), S_X9_come_371 n σ t0 v1 v6 = some z → eq4 σ z := by
  intro n
  induction n with
  | zero => intro σ t0 v1 v6 h; cases h
  | succ n ih => intro σ t0 v1 v6 h; exact ke_X9_come_371_b ih h
set_option maxHeartbeats 4000000 in
set_option maxRecDepth 100000 in
theorem K_X9_come_371_b {p : Program} {l : Launch} {e : Env} {R : Room} {s : State} {m : MethodId} {args : Array Value} {below : List Frame} {meth : Method} {c : Code} {D : va_G} {dA : Nat → ClassId} {base : Nat} {rec371 : hp → Nat → Int32 → Int32 → Option (hp)} {z : hp} (X : cx p s m args c cX9_come RX9 7 D dA) (hret : meth.sig.returnType = none) (hlk : meth.locks = false) (hR : 10 ≤ R.frames ∧ 227 ≤ R.locals) (hr371 : ∀ (σ : hp) (t0 : Nat) (v1 : Int32) (v6 : Int32) (H : Heap) (locs : List Loc) (ls : Array Slot), hw D dA base σ H → hs base s.heap H locs → lk ls 7 [(0, .inr (some t0)), (1, .inl v1), (6, .inl v6)] → rec371 σ t0 v1 v6 = some z → W p l e R s m args below meth c H locs 0 0 (MQ below (qG D dA base none z) args s 0 0 (fun q => base ≤ q)) (F0 m 371 ls [])) {σ : hp} {t0 : Nat} {v1 : Int32} {v6 : Int32} {H : Heap} {locs : List Loc} {ls : Array Slot} (hh : hw D dA base σ H) (hS : hs base s.heap H locs) (hl : lk ls 7 [(0, .inr (some t0)), (1, .inl v1), (6, .inl v6)]) (h : S_X9_come_371_b rec371 σ t0 v1 v6 = some z) : W p l e R s m args below meth c H locs 0 0 (MQ below (qG D dA base none z) args s 0 0 (fun q => base ≤ q)) (F0 m 371 ls []) := by
  unfold S_X9_come_371_b at h
  refine q_iload X dX9_come_371 hl 2 rfl ?_
  refine lv_bipush (v := (32 : Int32)) X.1 X.2.1 dX9_come_373 (by decide) ?_
  refine lv_icmp_ge (tgt := 398) X.1 X.2.1 dX9_come_375 (by decide) (fun c375 => ?_) (fun c375 => ?_)
  · rw [if_pos c375] at h
    refine q_aload_n X dX9_come_398 rfl hl 0 rfl ?_
    refine q_iload_n X dX9_come_399 rfl hl 1 rfl ?_
    obtain ⟨b400, e_b400, h⟩ := o_b h
    obtain ⟨q400, e_q400, h⟩ := o_b h
    refine q_cV (As := [.int v1]) X hh hS hl cf_X9_195 (cN := 9) rfl rfl e_b400 rfl (M_X9_done l D dA base σ b400 v1 e_q400) ⟨Nat.le_trans (by decide) hR.1, Nat.le_trans (by decide) hR.2⟩ (cat8 [] (Nat.le_of_ble_eq_true rfl)) dX9_come_400 ⟨Nat.zero_le _, Nat.zero_le _⟩ rfl rfl (fun H locs hh hS => ?_)
    refine lv_goto (tgt := 418) X.1 X.2.1 dX9_come_403 (by decide) ?_
    exact K_X9_come_418 X hret hlk hR hh hS (lk_sub hl [] rfl) h
  · rw [if_neg c375] at h
    refine q_aload_n X dX9_come_378 rfl hl 0 rfl ?_
    obtain ⟨t379, e_t379, h⟩ := o_b h
    refine q_gR X hh fa_X9_111 rfl e_t379 dX9_come_379 ?_
    refine q_iload X dX9_come_382 hl 2 rfl ?_
    refine q_aload_n X dX9_come_384 rfl hl 0 rfl ?_
    obtain ⟨t385, e_t385, h⟩ := o_b h
    refine q_gR X hh fa_X9_114 rfl e_t385 dX9_come_385 ?_
    refine q_iload X dX9_come_388 hl 2 rfl ?_
    obtain ⟨t390, e_t390, h⟩ := o_b h
    refine q_ldI X hh e_t390 dX9_come_390 ?_
    obtain ⟨s391, e_s391, h⟩ := o_b h
    refine q_stI X hh hS e_s391 dX9_come_391 (fun H locs hh hS => ?_)
    refine q_iinc (v := (1 : Int32)) (lv' := [(6, .inl (v6 + (1 : Int32))), (0, .inr (some t0)), (1, .inl v1)]) X dX9_come_392 hl 2 rfl (by decide) (by decide) rfl (fun ls hl => ?_)
    refine lv_goto (tgt := 371) X.1 X.2.1 dX9_come_395 (by decide) ?_
    exact hr371 _ _ _ _ _ _ _ hh hS (lk_sub hl [1, 2, 0] rfl) h
theorem K_X9_come_371 {p : Program} {l : Launch} {e : Env} {R : Room} {s : State} {m : MethodId} {args : Array Value} {below : List Frame} {meth : Method} {c : Code} {D : va_G} {dA : Nat → ClassId} {base : Nat} {z : hp} (X : cx p s m args c cX9_come RX9 7 D dA) (hret : meth.sig.returnType = none) (hlk : meth.locks = false) (hR : 10 ≤ R.frames ∧ 227 ≤ R.locals) : ∀ (n : Nat) (σ : hp) (t0 : Nat) (v1 : Int32) (v6 : Int32) (H : Heap) (locs : List Loc) (ls : Array Slot), hw D dA base σ H → hs base s.heap H locs → lk ls 7 [(0, .inr (some t0)), (1, .inl v1), (6, .inl v6)] → S_X9_come_371 n σ t0 v1 v6 = some z → W p l e R s m args below meth c H locs 0 0 (MQ below (qG D dA base none z) args s 0 0 (fun q => base ≤ q)) (F0 m 371 ls []) := by
  intro n
  induction n with
  | zero => intro σ t0 v1 v6 H locs ls hh hS hl h; cases h
  | succ n ih => intro σ t0 v1 v6 H locs ls hh hS hl h; exact K_X9_come_371_b X hret hlk hR ih hh hS hl h
theorem ke_X9_come_300_b {rec300 : hp → Nat → Int32 → Int32 → Int32 → Option (hp)} {z : hp} (hm300 : ∀ (σ : hp) (t0 : Nat) (v1 : Int32) (v3 : Int32) (v6 : Int32), rec300 σ t0 v1 v3 v6 = some z → eq4 σ z) {σ : hp} {t0 : Nat} {v1 : Int32} {v3 : Int32} {v6 : Int32} (h : S_X9_come_300_b rec300 σ t0 v1 v3 v6 = some z) : eq4 σ z := by
  unfold S_X9_come_300_b at h
  by_cases c304 : (32 : Int32) ≤ v6
  · rw [if_pos c304] at h
    obtain ⟨b329, e_b329, h⟩ := o_b h
    obtain ⟨q329, e_q329, h⟩ := o_b h
    obtain ⟨t334, e_t334, h⟩ := o_b h
    obtain ⟨t338, e_t338, h⟩ := o_b h
    by_cases c344 : v3 = ((t338 + (1 : Int32)) - (t338 + (1 : Int32)) / (8 : Int32) * (8 : Int32))
    · rw [if_pos c344] at h
      obtain ⟨t348, e_t348, h⟩ := o_b h
      obtain ⟨s353, e_s353, h⟩ := o_b h
      obtain ⟨t355, e_t355, h⟩ := o_b h
      obtain ⟨z360, e_z360, h⟩ := o_b h
      obtain ⟨s360, e_s360, h⟩ := o_b h
      obtain ⟨b365, e_b365, h⟩ := o_b h
      obtain ⟨q365, e_q365, h⟩ := o_b h
      exact (((((ke_X9_flow_0 e_q329)).tr (e_stI e_s353)).tr (e_stI e_s360)).tr (ke_X9_control_0 e_q365)).tr (ke_X9_come_371 FU _ _ _ _ h)
    · rw [if_neg c344] at h
      obtain ⟨t410, e_t410, h⟩ := o_b h
      obtain ⟨t414, e_t414, h⟩ := o_b h
      obtain ⟨b415, e_b415, h⟩ := o_b h
      obtain ⟨q415, e_q415, h⟩ := o_b h
      exact (((ke_X9_flow_0 e_q329)).tr (ke_X9_control_0 e_q415)).tr (ke_X9_come_418 h)
  · rw [if_neg c304] at h
    obtain ⟨t308, e_t308, h⟩ := o_b h
    obtain ⟨t314, e_t314, h⟩ := o_b h
    obtain ⟨t319, e_t319, h⟩ := o_b h
    obtain ⟨s320, e_s320, h⟩ := o_b h
    exact ((e_stI e_s320)).tr (hm300 _ _ _ _ _ h)
theorem ke_X9_come_300 {z : hp} : ∀ (n : Nat) (σ : hp) (t0 : Nat) (v1 : Int32) (v3 : Int32) (v6 : Int32), S_X9_come_300 n σ t0 v1 v3 v6 = some z → eq4 σ z := by
  intro n
  induction n with
  | zero => intro σ t0 v1 v3 v6 h; cases h
  | succ n ih => intro σ t0 v1 v3 v6 h; exact ke_X9_come_300_b ih h
set_option maxHeartbeats 4000000 in
set_option maxRecDepth 100000 in
theorem K_X9_come_300_b {p : Program} {l : Launch} {e : Env} {R : Room} {s : State} {m : MethodId} {args : Array Value} {below : List Frame} {meth : Method} {c : Code} {D : va_G} {dA : Nat → ClassId} {base : Nat} {rec300 : hp → Nat → Int32 → Int32 → Int32 → Option (hp)} {z : hp} (X : cx p s m args c cX9_come RX9 7 D dA) (hret : meth.sig.returnType = none) (hlk : meth.locks = false) (hR : 10 ≤ R.frames ∧ 227 ≤ R.locals) (hr300 : ∀ (σ : hp) (t0 : Nat) (v1 : Int32) (v3 : Int32) (v6 : Int32) (H : Heap) (locs : List Loc) (ls : Array Slot), hw D dA base σ H → hs base s.heap H locs → lk ls 7 [(0, .inr (some t0)), (1, .inl v1), (3, .inl v3), (6, .inl v6)] → rec300 σ t0 v1 v3 v6 = some z → W p l e R s m args below meth c H locs 0 0 (MQ below (qG D dA base none z) args s 0 0 (fun q => base ≤ q)) (F0 m 300 ls [])) {σ : hp} {t0 : Nat} {v1 : Int32} {v3 : Int32} {v6 : Int32} {H : Heap} {locs : List Loc} {ls : Array Slot} (hh : hw D dA base σ H) (hS : hs base s.heap H locs) (hl : lk ls 7 [(0, .inr (some t0)), (1, .inl v1), (3, .inl v3), (6, .inl v6)]) (h : S_X9_come_300_b rec300 σ t0 v1 v3 v6 = some z) : W p l e R s m args below meth c H locs 0 0 (MQ below (qG D dA base none z) args s 0 0 (fun q => base ≤ q)) (F0 m 300 ls []) := by
  unfold S_X9_come_300_b at h
  refine q_iload X dX9_come_300 hl 3 rfl ?_
  refine lv_bipush (v := (32 : Int32)) X.1 X.2.1 dX9_come_302 (by decide) ?_
  refine lv_icmp_ge (tgt := 327) X.1 X.2.1 dX9_come_304 (by decide) (fun c304 => ?_) (fun c304 => ?_)
  · rw [if_pos c304] at h
    refine q_aload_n X dX9_come_327 rfl hl 0 rfl ?_
    refine q_iload_n X dX9_come_328 rfl hl 1 rfl ?_
    obtain ⟨b329, e_b329, h⟩ := o_b h
    obtain ⟨q329, e_q329, h⟩ := o_b h
    refine q_cV (As := [.int v1]) X hh hS hl cf_X9_148 (cN := 9) rfl rfl e_b329 rfl (M_X9_flow l D dA base σ b329 v1 e_q329) ⟨Nat.le_trans (by decide) hR.1, Nat.le_trans (by decide) hR.2⟩ (cat8 [] (Nat.le_of_ble_eq_true rfl)) dX9_come_329 ⟨Nat.zero_le _, Nat.zero_le _⟩ rfl rfl (fun H locs hh hS => ?_)
    refine q_iload_n X dX9_come_332 rfl hl 2 rfl ?_
    refine q_aload_n X dX9_come_333 rfl hl 0 rfl ?_
    obtain ⟨t334, e_t334, h⟩ := o_b h
    refine q_gR X hh fa_X9_69 rfl e_t334 dX9_come_334 ?_
    refine q_iload_n X dX9_come_337 rfl hl 1 rfl ?_
    obtain ⟨t338, e_t338, h⟩ := o_b h
    refine q_ldI X hh e_t338 dX9_come_338 ?_
    refine lv_iconst (v := (1 : Int32)) X.1 X.2.1 dX9_come_339 (by decide) ?_
    refine lv_iadd X.1 X.2.1 dX9_come_340 ?_
    refine lv_bipush (v := (8 : Int32)) X.1 X.2.1 dX9_come_341 (by decide) ?_
    refine lv_irem X.1 X.2.1 dX9_come_343 (by decide) ?_
    refine lv_icmp_ne (tgt := 406) X.1 X.2.1 dX9_come_344 (by decide) (fun c344 => ?_) (fun c344 => ?_)
    · rw [if_neg c344] at h
      refine q_aload_n X dX9_come_406 rfl hl 0 rfl ?_
      refine q_iload_n X dX9_come_407 rfl hl 1 rfl ?_
      refine lv_iconst (v := (4 : Int32)) X.1 X.2.1 dX9_come_408 (by decide) ?_
      refine q_aload_n X dX9_come_409 rfl hl 0 rfl ?_
      obtain ⟨t410, e_t410, h⟩ := o_b h
      refine q_gR X hh fa_X9_69 rfl e_t410 dX9_come_410 ?_
      refine q_iload_n X dX9_come_413 rfl hl 1 rfl ?_
      obtain ⟨t414, e_t414, h⟩ := o_b h
      refine q_ldI X hh e_t414 dX9_come_414 ?_
      obtain ⟨b415, e_b415, h⟩ := o_b h
      obtain ⟨q415, e_q415, h⟩ := o_b h
      refine q_cV (As := [.int v1, .int (4 : Int32), .int t414]) X hh hS hl cf_X9_172 (cN := 9) rfl rfl e_b415 rfl (M_X9_control l D dA base q329 b415 v1 (4 : Int32) t414 e_q415) ⟨Nat.le_trans (by decide) hR.1, Nat.le_trans (by decide) hR.2⟩ (cat8 [] (Nat.le_of_ble_eq_true rfl)) dX9_come_415 ⟨Nat.zero_le _, Nat.zero_le _⟩ rfl rfl (fun H locs hh hS => ?_)
      exact K_X9_come_418 X hret hlk hR hh hS (lk_sub hl [] rfl) h
    · rw [if_pos c344] at h
      refine q_aload_n X dX9_come_347 rfl hl 0 rfl ?_
      obtain ⟨t348, e_t348, h⟩ := o_b h
      refine q_gR X hh fa_X9_69 rfl e_t348 dX9_come_348 ?_
      refine q_iload_n X dX9_come_351 rfl hl 1 rfl ?_
      refine q_iload_n X dX9_come_352 rfl hl 2 rfl ?_
      obtain ⟨s353, e_s353, h⟩ := o_b h
      refine q_stI X hh hS e_s353 dX9_come_353 (fun H locs hh hS => ?_)
      refine q_aload_n X dX9_come_354 rfl hl 0 rfl ?_
      obtain ⟨t355, e_t355, h⟩ := o_b h
      refine q_gR X hh fa_X9_66 rfl e_t355 dX9_come_355 ?_
      refine q_iload_n X dX9_come_358 rfl hl 1 rfl ?_
      refine lv_iconst (v := (1 : Int32)) X.1 X.2.1 dX9_come_359 (by decide) ?_
      obtain ⟨z360, e_z360, h⟩ := o_b h
      obtain ⟨s360, e_s360, h⟩ := o_b h
      refine q_stZ X hh hS e_z360 e_s360 dX9_come_360 (fun H locs hh hS => ?_)
      refine q_aload_n X dX9_come_361 rfl hl 0 rfl ?_
      refine q_iload_n X dX9_come_362 rfl hl 1 rfl ?_
      refine lv_iconst (v := (4 : Int32)) X.1 X.2.1 dX9_come_363 (by decide) ?_
      refine q_iload_n X dX9_come_364 rfl hl 2 rfl ?_
      obtain ⟨b365, e_b365, h⟩ := o_b h
      obtain ⟨q365, e_q365, h⟩ := o_b h
      refine q_cV (As := [.int v1, .int (4 : Int32), .int v3]) X hh hS hl cf_X9_172 (cN := 9) rfl rfl e_b365 rfl (M_X9_control l D dA base s360 b365 v1 (4 : Int32) v3 e_q365) ⟨Nat.le_trans (by decide) hR.1, Nat.le_trans (by decide) hR.2⟩ (cat8 [] (Nat.le_of_ble_eq_true rfl)) dX9_come_365 ⟨Nat.zero_le _, Nat.zero_le _⟩ rfl rfl (fun H locs hh hS => ?_)
      refine lv_iconst (v := (0 : Int32)) X.1 X.2.1 dX9_come_368 (by decide) ?_
      refine q_istore (lv' := [(6, .inl (0 : Int32)), (0, .inr (some t0)), (1, .inl v1), (3, .inl v3)]) X dX9_come_369 hl (by decide) rfl (fun ls hl => ?_)
      exact K_X9_come_371 X hret hlk hR FU _ _ _ _ _ _ _ hh hS (lk_sub hl [1, 2, 0] rfl) h
  · rw [if_neg c304] at h
    refine q_aload_n X dX9_come_307 rfl hl 0 rfl ?_
    obtain ⟨t308, e_t308, h⟩ := o_b h
    refine q_gR X hh fa_X9_114 rfl e_t308 dX9_come_308 ?_
    refine q_iload X dX9_come_311 hl 3 rfl ?_
    refine q_aload_n X dX9_come_313 rfl hl 0 rfl ?_
    obtain ⟨t314, e_t314, h⟩ := o_b h
    refine q_gR X hh fa_X9_111 rfl e_t314 dX9_come_314 ?_
    refine q_iload X dX9_come_317 hl 3 rfl ?_
    obtain ⟨t319, e_t319, h⟩ := o_b h
    refine q_ldI X hh e_t319 dX9_come_319 ?_
    obtain ⟨s320, e_s320, h⟩ := o_b h
    refine q_stI X hh hS e_s320 dX9_come_320 (fun H locs hh hS => ?_)
    refine q_iinc (v := (1 : Int32)) (lv' := [(6, .inl (v6 + (1 : Int32))), (0, .inr (some t0)), (1, .inl v1), (3, .inl v3)]) X dX9_come_321 hl 3 rfl (by decide) (by decide) rfl (fun ls hl => ?_)
    refine lv_goto (tgt := 300) X.1 X.2.1 dX9_come_324 (by decide) ?_
    exact hr300 _ _ _ _ _ _ _ _ hh hS (lk_sub hl [1, 2, 3, 0] rfl) h
theorem K_X9_come_300 {p : Program} {l : Launch} {e : Env} {R : Room} {s : State} {m : MethodId} {args : Array Value} {below : List Frame} {meth : Method} {c : Code} {D : va_G} {dA : Nat → ClassId} {base : Nat} {z : hp} (X : cx p s m args c cX9_come RX9 7 D dA) (hret : meth.sig.returnType = none) (hlk : meth.locks = false) (hR : 10 ≤ R.frames ∧ 227 ≤ R.locals) : ∀ (n : Nat) (σ : hp) (t0 : Nat) (v1 : Int32) (v3 : Int32) (v6 : Int32) (H : Heap) (locs : List Loc) (ls : Array Slot), hw D dA base σ H → hs base s.heap H locs → lk ls 7 [(0, .inr (some t0)), (1, .inl v1), (3, .inl v3), (6, .inl v6)] → S_X9_come_300 n σ t0 v1 v3 v6 = some z → W p l e R s m args below meth c H locs 0 0 (MQ below (qG D dA base none z) args s 0 0 (fun q => base ≤ q)) (F0 m 300 ls []) := by
  intro n
  induction n with
  | zero => intro σ t0 v1 v3 v6 H locs ls hh hS hl h; cases h
  | succ n ih => intro σ t0 v1 v3 v6 H locs ls hh hS hl h; exact K_X9_come_300_b X hret hlk hR ih hh hS hl h
theorem ke_X9_come_286 {z : hp} {σ : hp} {t0 : Nat} {v1 : Int32} {v3 : Int32} {v5 : Int32} (h : S_X9_come_286 σ t0 v1 v3 v5 = some z) : eq4 σ z := by
  unfold S_X9_come_286 at h
  by_cases c288 : v5 = (0 : Int32)
  · rw [if_pos c288] at h
    obtain ⟨b293, e_b293, h⟩ := o_b h
    obtain ⟨q293, e_q293, h⟩ := o_b h
    cases h
    exact (ke_X9_flow_0 e_q293)
  · rw [if_neg c288] at h
    exact (ke_X9_come_300 FU _ _ _ _ _ h)
set_option maxHeartbeats 4000000 in
set_option maxRecDepth 100000 in
theorem K_X9_come_286 {p : Program} {l : Launch} {e : Env} {R : Room} {s : State} {m : MethodId} {args : Array Value} {below : List Frame} {meth : Method} {c : Code} {D : va_G} {dA : Nat → ClassId} {base : Nat} {z : hp} (X : cx p s m args c cX9_come RX9 7 D dA) (hret : meth.sig.returnType = none) (hlk : meth.locks = false) (hR : 10 ≤ R.frames ∧ 227 ≤ R.locals) {σ : hp} {t0 : Nat} {v1 : Int32} {v3 : Int32} {v5 : Int32} {H : Heap} {locs : List Loc} {ls : Array Slot} (hh : hw D dA base σ H) (hS : hs base s.heap H locs) (hl : lk ls 7 [(0, .inr (some t0)), (1, .inl v1), (3, .inl v3), (5, .inl v5)]) (h : S_X9_come_286 σ t0 v1 v3 v5 = some z) : W p l e R s m args below meth c H locs 0 0 (MQ below (qG D dA base none z) args s 0 0 (fun q => base ≤ q)) (F0 m 286 ls []) := by
  unfold S_X9_come_286 at h
  refine q_iload X dX9_come_286 hl 3 rfl ?_
  refine lv_if_ne (tgt := 297) X.1 X.2.1 dX9_come_288 (by decide) (fun c288 => ?_) (fun c288 => ?_)
  · rw [if_neg c288] at h
    refine lv_iconst (v := (0 : Int32)) X.1 X.2.1 dX9_come_297 (by decide) ?_
    refine q_istore (lv' := [(6, .inl (0 : Int32)), (0, .inr (some t0)), (1, .inl v1), (3, .inl v3), (5, .inl v5)]) X dX9_come_298 hl (by decide) rfl (fun ls hl => ?_)
    exact K_X9_come_300 X hret hlk hR FU _ _ _ _ _ _ _ _ hh hS (lk_sub hl [1, 2, 3, 0] rfl) h
  · rw [if_pos c288] at h
    refine q_aload_n X dX9_come_291 rfl hl 0 rfl ?_
    refine q_iload_n X dX9_come_292 rfl hl 1 rfl ?_
    obtain ⟨b293, e_b293, h⟩ := o_b h
    obtain ⟨q293, e_q293, h⟩ := o_b h
    refine q_cV (As := [.int v1]) X hh hS hl cf_X9_148 (cN := 9) rfl rfl e_b293 rfl (M_X9_flow l D dA base σ b293 v1 e_q293) ⟨Nat.le_trans (by decide) hR.1, Nat.le_trans (by decide) hR.2⟩ (cat8 [] (Nat.le_of_ble_eq_true rfl)) dX9_come_293 ⟨Nat.zero_le _, Nat.zero_le _⟩ rfl rfl (fun H locs hh hS => ?_)
    cases h
    exact q_vret X hret hlk hh hS dX9_come_296
theorem ke_X9_come_264 {z : hp} {σ : hp} {t0 : Nat} {v1 : Int32} {v3 : Int32} {v4 : Int32} {v5 : Int32} (h : S_X9_come_264 σ t0 v1 v3 v4 v5 = some z) : eq4 σ z := by
  unfold S_X9_come_264 at h
  obtain ⟨b268, e_b268, h⟩ := o_b h
  obtain ⟨q268, e_q268, h⟩ := o_b h
  by_cases c273 : v5 = (0 : Int32)
  · rw [if_pos c273] at h
    by_cases c278 : v3 = (2 : Int32)
    · rw [if_pos c278] at h
      obtain ⟨b283, e_b283, h⟩ := o_b h
      obtain ⟨q283, e_q283, h⟩ := o_b h
      exact (((ke_X9_acknowledge_0 e_q268)).tr (ke_X9_sendAgain_0 e_q283)).tr (ke_X9_come_286 h)
    · rw [if_neg c278] at h
      exact ((ke_X9_acknowledge_0 e_q268)).tr (ke_X9_come_286 h)
  · rw [if_neg c273] at h
    exact ((ke_X9_acknowledge_0 e_q268)).tr (ke_X9_come_286 h)
set_option maxHeartbeats 4000000 in
set_option maxRecDepth 100000 in
theorem K_X9_come_264 {p : Program} {l : Launch} {e : Env} {R : Room} {s : State} {m : MethodId} {args : Array Value} {below : List Frame} {meth : Method} {c : Code} {D : va_G} {dA : Nat → ClassId} {base : Nat} {z : hp} (X : cx p s m args c cX9_come RX9 7 D dA) (hret : meth.sig.returnType = none) (hlk : meth.locks = false) (hR : 10 ≤ R.frames ∧ 227 ≤ R.locals) {σ : hp} {t0 : Nat} {v1 : Int32} {v3 : Int32} {v4 : Int32} {v5 : Int32} {H : Heap} {locs : List Loc} {ls : Array Slot} (hh : hw D dA base σ H) (hS : hs base s.heap H locs) (hl : lk ls 7 [(0, .inr (some t0)), (1, .inl v1), (3, .inl v3), (4, .inl v4), (5, .inl v5)]) (h : S_X9_come_264 σ t0 v1 v3 v4 v5 = some z) : W p l e R s m args below meth c H locs 0 0 (MQ below (qG D dA base none z) args s 0 0 (fun q => base ≤ q)) (F0 m 264 ls []) := by
  unfold S_X9_come_264 at h
  refine q_aload_n X dX9_come_264 rfl hl 0 rfl ?_
  refine q_iload_n X dX9_come_265 rfl hl 1 rfl ?_
  refine q_iload X dX9_come_266 hl 3 rfl ?_
  obtain ⟨b268, e_b268, h⟩ := o_b h
  obtain ⟨q268, e_q268, h⟩ := o_b h
  refine q_cV (As := [.int v1, .int v4]) X hh hS hl cf_X9_189 (cN := 9) rfl rfl e_b268 rfl (M_X9_acknowledge l D dA base σ b268 v1 v4 e_q268) ⟨Nat.le_trans (by decide) hR.1, Nat.le_trans (by decide) hR.2⟩ (cat8 [] (Nat.le_of_ble_eq_true rfl)) dX9_come_268 ⟨Nat.zero_le _, Nat.zero_le _⟩ rfl rfl (fun H locs hh hS => ?_)
  refine q_iload X dX9_come_271 hl 4 rfl ?_
  refine lv_if_ne (tgt := 286) X.1 X.2.1 dX9_come_273 (by decide) (fun c273 => ?_) (fun c273 => ?_)
  · rw [if_neg c273] at h
    exact K_X9_come_286 X hret hlk hR hh hS (lk_sub hl [0, 1, 2, 4] rfl) h
  · rw [if_pos c273] at h
    refine q_iload_n X dX9_come_276 rfl hl 2 rfl ?_
    refine lv_iconst (v := (2 : Int32)) X.1 X.2.1 dX9_come_277 (by decide) ?_
    refine lv_icmp_ne (tgt := 286) X.1 X.2.1 dX9_come_278 (by decide) (fun c278 => ?_) (fun c278 => ?_)
    · rw [if_neg c278] at h
      exact K_X9_come_286 X hret hlk hR hh hS (lk_sub hl [0, 1, 2, 4] rfl) h
    · rw [if_pos c278] at h
      refine q_aload_n X dX9_come_281 rfl hl 0 rfl ?_
      refine q_iload_n X dX9_come_282 rfl hl 1 rfl ?_
      obtain ⟨b283, e_b283, h⟩ := o_b h
      obtain ⟨q283, e_q283, h⟩ := o_b h
      refine q_cV (As := [.int v1]) X hh hS hl cf_X9_192 (cN := 9) rfl rfl e_b283 rfl (M_X9_sendAgain l D dA base q268 b283 v1 e_q283) ⟨Nat.le_trans (by decide) hR.1, Nat.le_trans (by decide) hR.2⟩ (cat8 [] (Nat.le_of_ble_eq_true rfl)) dX9_come_283 ⟨Nat.zero_le _, Nat.zero_le _⟩ rfl rfl (fun H locs hh hS => ?_)
      exact K_X9_come_286 X hret hlk hR hh hS (lk_sub hl [0, 1, 2, 4] rfl) h
theorem ke_X9_come_229_b {rec229 : hp → Nat → Int32 → Int32 → Int32 → Int32 → Int32 → Option (hp)} {z : hp} (hm229 : ∀ (σ : hp) (t0 : Nat) (v1 : Int32) (v3 : Int32) (v4 : Int32) (v5 : Int32) (v6 : Int32), rec229 σ t0 v1 v3 v4 v5 v6 = some z → eq4 σ z) {σ : hp} {t0 : Nat} {v1 : Int32} {v3 : Int32} {v4 : Int32} {v5 : Int32} {v6 : Int32} (h : S_X9_come_229_b rec229 σ t0 v1 v3 v4 v5 v6 = some z) : eq4 σ z := by
  unfold S_X9_come_229_b at h
  by_cases c233 : (32 : Int32) ≤ v6
  · rw [if_pos c233] at h
    exact (ke_X9_come_264 h)
  · rw [if_neg c233] at h
    by_cases c238 : v5 = (0 : Int32)
    · rw [if_pos c238] at h
      exact (ke_X9_come_264 h)
    · rw [if_neg c238] at h
      obtain ⟨t242, e_t242, h⟩ := o_b h
      obtain ⟨t248, e_t248, h⟩ := o_b h
      obtain ⟨t256, e_t256, h⟩ := o_b h
      obtain ⟨s257, e_s257, h⟩ := o_b h
      exact ((e_stI e_s257)).tr (hm229 _ _ _ _ _ _ _ h)
theorem ke_X9_come_229 {z : hp} : ∀ (n : Nat) (σ : hp) (t0 : Nat) (v1 : Int32) (v3 : Int32) (v4 : Int32) (v5 : Int32) (v6 : Int32), S_X9_come_229 n σ t0 v1 v3 v4 v5 v6 = some z → eq4 σ z := by
  intro n
  induction n with
  | zero => intro σ t0 v1 v3 v4 v5 v6 h; cases h
  | succ n ih => intro σ t0 v1 v3 v4 v5 v6 h; exact ke_X9_come_229_b ih h
set_option maxHeartbeats 4000000 in
set_option maxRecDepth 100000 in
theorem K_X9_come_229_b {p : Program} {l : Launch} {e : Env} {R : Room} {s : State} {m : MethodId} {args : Array Value} {below : List Frame} {meth : Method} {c : Code} {D : va_G} {dA : Nat → ClassId} {base : Nat} {rec229 : hp → Nat → Int32 → Int32 → Int32 → Int32 → Int32 → Option (hp)} {z : hp} (X : cx p s m args c cX9_come RX9 7 D dA) (hret : meth.sig.returnType = none) (hlk : meth.locks = false) (hR : 10 ≤ R.frames ∧ 227 ≤ R.locals) (hr229 : ∀ (σ : hp) (t0 : Nat) (v1 : Int32) (v3 : Int32) (v4 : Int32) (v5 : Int32) (v6 : Int32) (H : Heap) (locs : List Loc) (ls : Array Slot), hw D dA base σ H → hs base s.heap H locs → lk ls 7 [(0, .inr (some t0)), (1, .inl v1), (3, .inl v3), (4, .inl v4), (5, .inl v5), (6, .inl v6)] → rec229 σ t0 v1 v3 v4 v5 v6 = some z → W p l e R s m args below meth c H locs 0 0 (MQ below (qG D dA base none z) args s 0 0 (fun q => base ≤ q)) (F0 m 229 ls [])) {σ : hp} {t0 : Nat} {v1 : Int32} {v3 : Int32} {v4 : Int32} {v5 : Int32} {v6 : Int32} {H : Heap} {locs : List Loc} {ls : Array Slot} (hh : hw D dA base σ H) (hS : hs base s.heap H locs) (hl : lk ls 7 [(0, .inr (some t0)), (1, .inl v1), (3, .inl v3), (4, .inl v4), (5, .inl v5), (6, .inl v6)]) (h : S_X9_come_229_b rec229 σ t0 v1 v3 v4 v5 v6 = some z) : W p l e R s m args below meth c H locs 0 0 (MQ below (qG D dA base none z) args s 0 0 (fun q => base ≤ q)) (F0 m 229 ls []) := by
  unfold S_X9_come_229_b at h
  refine q_iload X dX9_come_229 hl 5 rfl ?_
  refine lv_bipush (v := (32 : Int32)) X.1 X.2.1 dX9_come_231 (by decide) ?_
  refine lv_icmp_ge (tgt := 264) X.1 X.2.1 dX9_come_233 (by decide) (fun c233 => ?_) (fun c233 => ?_)
  · rw [if_pos c233] at h
    exact K_X9_come_264 X hret hlk hR hh hS (lk_sub hl [0, 1, 2, 3, 4] rfl) h
  · rw [if_neg c233] at h
    refine q_iload X dX9_come_236 hl 4 rfl ?_
    refine lv_if_eq (tgt := 264) X.1 X.2.1 dX9_come_238 (by decide) (fun c238 => ?_) (fun c238 => ?_)
    · rw [if_pos c238] at h
      exact K_X9_come_264 X hret hlk hR hh hS (lk_sub hl [0, 1, 2, 3, 4] rfl) h
    · rw [if_neg c238] at h
      refine q_aload_n X dX9_come_241 rfl hl 0 rfl ?_
      obtain ⟨t242, e_t242, h⟩ := o_b h
      refine q_gR X hh fa_X9_111 rfl e_t242 dX9_come_242 ?_
      refine q_iload X dX9_come_245 hl 5 rfl ?_
      refine q_aload_n X dX9_come_247 rfl hl 0 rfl ?_
      obtain ⟨t248, e_t248, h⟩ := o_b h
      refine q_gR X hh fa_X9_53 rfl e_t248 dX9_come_248 ?_
      refine lv_bipush (v := (6 : Int32)) X.1 X.2.1 dX9_come_251 (by decide) ?_
      refine q_iload X dX9_come_253 hl 5 rfl ?_
      refine lv_iadd X.1 X.2.1 dX9_come_255 ?_
      obtain ⟨t256, e_t256, h⟩ := o_b h
      refine q_ldI X hh e_t256 dX9_come_256 ?_
      obtain ⟨s257, e_s257, h⟩ := o_b h
      refine q_stI X hh hS e_s257 dX9_come_257 (fun H locs hh hS => ?_)
      refine q_iinc (v := (1 : Int32)) (lv' := [(6, .inl (v6 + (1 : Int32))), (0, .inr (some t0)), (1, .inl v1), (3, .inl v3), (4, .inl v4), (5, .inl v5)]) X dX9_come_258 hl 5 rfl (by decide) (by decide) rfl (fun ls hl => ?_)
      refine lv_goto (tgt := 229) X.1 X.2.1 dX9_come_261 (by decide) ?_
      exact hr229 _ _ _ _ _ _ _ _ _ _ hh hS (lk_sub hl [1, 2, 3, 4, 5, 0] rfl) h
theorem K_X9_come_229 {p : Program} {l : Launch} {e : Env} {R : Room} {s : State} {m : MethodId} {args : Array Value} {below : List Frame} {meth : Method} {c : Code} {D : va_G} {dA : Nat → ClassId} {base : Nat} {z : hp} (X : cx p s m args c cX9_come RX9 7 D dA) (hret : meth.sig.returnType = none) (hlk : meth.locks = false) (hR : 10 ≤ R.frames ∧ 227 ≤ R.locals) : ∀ (n : Nat) (σ : hp) (t0 : Nat) (v1 : Int32) (v3 : Int32) (v4 : Int32) (v5 : Int32) (v6 : Int32) (H : Heap) (locs : List Loc) (ls : Array Slot), hw D dA base σ H → hs base s.heap H locs → lk ls 7 [(0, .inr (some t0)), (1, .inl v1), (3, .inl v3), (4, .inl v4), (5, .inl v5), (6, .inl v6)] → S_X9_come_229 n σ t0 v1 v3 v4 v5 v6 = some z → W p l e R s m args below meth c H locs 0 0 (MQ below (qG D dA base none z) args s 0 0 (fun q => base ≤ q)) (F0 m 229 ls []) := by
  intro n
  induction n with
  | zero => intro σ t0 v1 v3 v4 v5 v6 H locs ls hh hS hl h; cases h
  | succ n ih => intro σ t0 v1 v3 v4 v5 v6 H locs ls hh hS hl h; exact K_X9_come_229_b X hret hlk hR ih hh hS hl h
theorem ke_X9_come_226 {z : hp} {σ : hp} {t0 : Nat} {v1 : Int32} {v3 : Int32} {v4 : Int32} {v5 : Int32} (h : S_X9_come_226 σ t0 v1 v3 v4 v5 = some z) : eq4 σ z := by
  unfold S_X9_come_226 at h
  exact (ke_X9_come_229 FU _ _ _ _ _ _ _ h)
set_option maxHeartbeats 4000000 in
set_option maxRecDepth 100000 in
theorem K_X9_come_226 {p : Program} {l : Launch} {e : Env} {R : Room} {s : State} {m : MethodId} {args : Array Value} {below : List Frame} {meth : Method} {c : Code} {D : va_G} {dA : Nat → ClassId} {base : Nat} {z : hp} (X : cx p s m args c cX9_come RX9 7 D dA) (hret : meth.sig.returnType = none) (hlk : meth.locks = false) (hR : 10 ≤ R.frames ∧ 227 ≤ R.locals) {σ : hp} {t0 : Nat} {v1 : Int32} {v3 : Int32} {v4 : Int32} {v5 : Int32} {H : Heap} {locs : List Loc} {ls : Array Slot} (hh : hw D dA base σ H) (hS : hs base s.heap H locs) (hl : lk ls 7 [(0, .inr (some t0)), (1, .inl v1), (3, .inl v3), (4, .inl v4), (5, .inl v5)]) (h : S_X9_come_226 σ t0 v1 v3 v4 v5 = some z) : W p l e R s m args below meth c H locs 0 0 (MQ below (qG D dA base none z) args s 0 0 (fun q => base ≤ q)) (F0 m 226 ls []) := by
  unfold S_X9_come_226 at h
  refine lv_iconst (v := (0 : Int32)) X.1 X.2.1 dX9_come_226 (by decide) ?_
  refine q_istore (lv' := [(6, .inl (0 : Int32)), (0, .inr (some t0)), (1, .inl v1), (3, .inl v3), (4, .inl v4), (5, .inl v5)]) X dX9_come_227 hl (by decide) rfl (fun ls hl => ?_)
  exact K_X9_come_229 X hret hlk hR FU _ _ _ _ _ _ _ _ _ _ hh hS (lk_sub hl [1, 2, 3, 4, 5, 0] rfl) h
theorem ke_X9_come_198 {z : hp} {σ : hp} {t0 : Nat} {v1 : Int32} {v3 : Int32} {v4 : Int32} {v5 : Int32} (h : S_X9_come_198 σ t0 v1 v3 v4 v5 = some z) : eq4 σ z := by
  unfold S_X9_come_198 at h
  obtain ⟨t199, e_t199, h⟩ := o_b h
  obtain ⟨t203, e_t203, h⟩ := o_b h
  by_cases c205 : t203 = (2 : Int32)
  · rw [if_pos c205] at h
    by_cases c211 : v5 = (0 : Int32)
    · rw [if_pos c211] at h
      by_cases c216 : v3 = (1 : Int32)
      · rw [if_pos c216] at h
        obtain ⟨b222, e_b222, h⟩ := o_b h
        obtain ⟨q222, e_q222, h⟩ := o_b h
        cases h
        exact (ke_X9_forget_0 e_q222)
      · rw [if_neg c216] at h
        exact (ke_X9_come_226 h)
    · rw [if_neg c211] at h
      exact (ke_X9_come_226 h)
  · rw [if_neg c205] at h
    cases h
    exact eq4.rf _
set_option maxHeartbeats 4000000 in
set_option maxRecDepth 100000 in
theorem K_X9_come_198 {p : Program} {l : Launch} {e : Env} {R : Room} {s : State} {m : MethodId} {args : Array Value} {below : List Frame} {meth : Method} {c : Code} {D : va_G} {dA : Nat → ClassId} {base : Nat} {z : hp} (X : cx p s m args c cX9_come RX9 7 D dA) (hret : meth.sig.returnType = none) (hlk : meth.locks = false) (hR : 10 ≤ R.frames ∧ 227 ≤ R.locals) {σ : hp} {t0 : Nat} {v1 : Int32} {v3 : Int32} {v4 : Int32} {v5 : Int32} {H : Heap} {locs : List Loc} {ls : Array Slot} (hh : hw D dA base σ H) (hS : hs base s.heap H locs) (hl : lk ls 7 [(0, .inr (some t0)), (1, .inl v1), (3, .inl v3), (4, .inl v4), (5, .inl v5)]) (h : S_X9_come_198 σ t0 v1 v3 v4 v5 = some z) : W p l e R s m args below meth c H locs 0 0 (MQ below (qG D dA base none z) args s 0 0 (fun q => base ≤ q)) (F0 m 198 ls []) := by
  unfold S_X9_come_198 at h
  refine q_aload_n X dX9_come_198 rfl hl 0 rfl ?_
  obtain ⟨t199, e_t199, h⟩ := o_b h
  refine q_gR X hh fa_X9_56 rfl e_t199 dX9_come_199 ?_
  refine q_iload_n X dX9_come_202 rfl hl 1 rfl ?_
  obtain ⟨t203, e_t203, h⟩ := o_b h
  refine q_ldI X hh e_t203 dX9_come_203 ?_
  refine lv_iconst (v := (2 : Int32)) X.1 X.2.1 dX9_come_204 (by decide) ?_
  refine lv_icmp_eq (tgt := 209) X.1 X.2.1 dX9_come_205 (by decide) (fun c205 => ?_) (fun c205 => ?_)
  · rw [if_pos c205] at h
    refine q_iload X dX9_come_209 hl 4 rfl ?_
    refine lv_if_ne (tgt := 226) X.1 X.2.1 dX9_come_211 (by decide) (fun c211 => ?_) (fun c211 => ?_)
    · rw [if_neg c211] at h
      exact K_X9_come_226 X hret hlk hR hh hS (lk_sub hl [0, 1, 2, 3, 4] rfl) h
    · rw [if_pos c211] at h
      refine q_iload_n X dX9_come_214 rfl hl 2 rfl ?_
      refine lv_iconst (v := (1 : Int32)) X.1 X.2.1 dX9_come_215 (by decide) ?_
      refine lv_icmp_ne (tgt := 226) X.1 X.2.1 dX9_come_216 (by decide) (fun c216 => ?_) (fun c216 => ?_)
      · rw [if_neg c216] at h
        exact K_X9_come_226 X hret hlk hR hh hS (lk_sub hl [0, 1, 2, 3, 4] rfl) h
      · rw [if_pos c216] at h
        refine q_aload_n X dX9_come_219 rfl hl 0 rfl ?_
        refine q_iload_n X dX9_come_220 rfl hl 1 rfl ?_
        refine lv_iconst (v := (0 : Int32)) X.1 X.2.1 dX9_come_221 (by decide) ?_
        obtain ⟨b222, e_b222, h⟩ := o_b h
        obtain ⟨q222, e_q222, h⟩ := o_b h
        refine q_cV (As := [.int v1, .int (0 : Int32)]) X hh hS hl cf_X9_176 (cN := 9) rfl rfl e_b222 rfl (M_X9_forget l D dA base σ b222 v1 (0 : Int32) e_q222) ⟨Nat.le_trans (by decide) hR.1, Nat.le_trans (by decide) hR.2⟩ (cat8 [] (Nat.le_of_ble_eq_true rfl)) dX9_come_222 ⟨Nat.zero_le _, Nat.zero_le _⟩ rfl rfl (fun H locs hh hS => ?_)
        cases h
        exact q_vret X hret hlk hh hS dX9_come_225
  · rw [if_neg c205] at h
    cases h
    exact q_vret X hret hlk hh hS dX9_come_208
theorem ke_X9_come_136 {z : hp} {σ : hp} {t0 : Nat} {v1 : Int32} {v3 : Int32} {v4 : Int32} {v5 : Int32} (h : S_X9_come_136 σ t0 v1 v3 v4 v5 = some z) : eq4 σ z := by
  unfold S_X9_come_136 at h
  by_cases c138 : v5 = (0 : Int32)
  · rw [if_pos c138] at h
    by_cases c143 : v3 = (5 : Int32)
    · rw [if_pos c143] at h
      obtain ⟨t147, e_t147, h⟩ := o_b h
      obtain ⟨t151, e_t151, h⟩ := o_b h
      by_cases c153 : t151 = (1 : Int32)
      · rw [if_pos c153] at h
        obtain ⟨t157, e_t157, h⟩ := o_b h
        obtain ⟨t161, e_t161, h⟩ := o_b h
        by_cases c169 : ((t161 - (1 : Int32)) - (t161 - (1 : Int32)) / (8 : Int32) * (8 : Int32)) = v4
        · rw [if_pos c169] at h
          obtain ⟨b175, e_b175, h⟩ := o_b h
          obtain ⟨q175, e_q175, h⟩ := o_b h
          obtain ⟨t179, e_t179, h⟩ := o_b h
          obtain ⟨z184, e_z184, h⟩ := o_b h
          obtain ⟨s184, e_s184, h⟩ := o_b h
          obtain ⟨t186, e_t186, h⟩ := o_b h
          obtain ⟨s191, e_s191, h⟩ := o_b h
          obtain ⟨b194, e_b194, h⟩ := o_b h
          obtain ⟨q194, e_q194, h⟩ := o_b h
          exact (((((ke_X9_forget_0 e_q175)).tr (e_stI e_s184)).tr (e_stI e_s191)).tr (ke_X9_goOn_0 e_q194)).tr (ke_X9_come_197 h)
        · rw [if_neg c169] at h
          exact (ke_X9_come_197 h)
      · rw [if_neg c153] at h
        exact (ke_X9_come_197 h)
    · rw [if_neg c143] at h
      exact (ke_X9_come_198 h)
  · rw [if_neg c138] at h
    exact (ke_X9_come_198 h)
set_option maxHeartbeats 4000000 in
set_option maxRecDepth 100000 in
theorem K_X9_come_136 {p : Program} {l : Launch} {e : Env} {R : Room} {s : State} {m : MethodId} {args : Array Value} {below : List Frame} {meth : Method} {c : Code} {D : va_G} {dA : Nat → ClassId} {base : Nat} {z : hp} (X : cx p s m args c cX9_come RX9 7 D dA) (hret : meth.sig.returnType = none) (hlk : meth.locks = false) (hR : 10 ≤ R.frames ∧ 227 ≤ R.locals) {σ : hp} {t0 : Nat} {v1 : Int32} {v3 : Int32} {v4 : Int32} {v5 : Int32} {H : Heap} {locs : List Loc} {ls : Array Slot} (hh : hw D dA base σ H) (hS : hs base s.heap H locs) (hl : lk ls 7 [(0, .inr (some t0)), (1, .inl v1), (3, .inl v3), (4, .inl v4), (5, .inl v5)]) (h : S_X9_come_136 σ t0 v1 v3 v4 v5 = some z) : W p l e R s m args below meth c H locs 0 0 (MQ below (qG D dA base none z) args s 0 0 (fun q => base ≤ q)) (F0 m 136 ls []) := by
  unfold S_X9_come_136 at h
  refine q_iload X dX9_come_136 hl 4 rfl ?_
  refine lv_if_ne (tgt := 198) X.1 X.2.1 dX9_come_138 (by decide) (fun c138 => ?_) (fun c138 => ?_)
  · rw [if_neg c138] at h
    exact K_X9_come_198 X hret hlk hR hh hS (lk_sub hl [0, 1, 2, 3, 4] rfl) h
  · rw [if_pos c138] at h
    refine q_iload_n X dX9_come_141 rfl hl 2 rfl ?_
    refine lv_iconst (v := (5 : Int32)) X.1 X.2.1 dX9_come_142 (by decide) ?_
    refine lv_icmp_ne (tgt := 198) X.1 X.2.1 dX9_come_143 (by decide) (fun c143 => ?_) (fun c143 => ?_)
    · rw [if_neg c143] at h
      exact K_X9_come_198 X hret hlk hR hh hS (lk_sub hl [0, 1, 2, 3, 4] rfl) h
    · rw [if_pos c143] at h
      refine q_aload_n X dX9_come_146 rfl hl 0 rfl ?_
      obtain ⟨t147, e_t147, h⟩ := o_b h
      refine q_gR X hh fa_X9_56 rfl e_t147 dX9_come_147 ?_
      refine q_iload_n X dX9_come_150 rfl hl 1 rfl ?_
      obtain ⟨t151, e_t151, h⟩ := o_b h
      refine q_ldI X hh e_t151 dX9_come_151 ?_
      refine lv_iconst (v := (1 : Int32)) X.1 X.2.1 dX9_come_152 (by decide) ?_
      refine lv_icmp_ne (tgt := 197) X.1 X.2.1 dX9_come_153 (by decide) (fun c153 => ?_) (fun c153 => ?_)
      · rw [if_neg c153] at h
        exact K_X9_come_197 X hret hlk hR hh hS (lk_sub hl [] rfl) h
      · rw [if_pos c153] at h
        refine q_aload_n X dX9_come_156 rfl hl 0 rfl ?_
        obtain ⟨t157, e_t157, h⟩ := o_b h
        refine q_gR X hh fa_X9_38 rfl e_t157 dX9_come_157 ?_
        refine q_iload_n X dX9_come_160 rfl hl 1 rfl ?_
        obtain ⟨t161, e_t161, h⟩ := o_b h
        refine q_ldI X hh e_t161 dX9_come_161 ?_
        refine lv_iconst (v := (1 : Int32)) X.1 X.2.1 dX9_come_162 (by decide) ?_
        refine lv_isub X.1 X.2.1 dX9_come_163 ?_
        refine lv_bipush (v := (8 : Int32)) X.1 X.2.1 dX9_come_164 (by decide) ?_
        refine lv_irem X.1 X.2.1 dX9_come_166 (by decide) ?_
        refine q_iload X dX9_come_167 hl 3 rfl ?_
        refine lv_icmp_ne (tgt := 197) X.1 X.2.1 dX9_come_169 (by decide) (fun c169 => ?_) (fun c169 => ?_)
        · rw [if_neg c169] at h
          exact K_X9_come_197 X hret hlk hR hh hS (lk_sub hl [] rfl) h
        · rw [if_pos c169] at h
          refine q_aload_n X dX9_come_172 rfl hl 0 rfl ?_
          refine q_iload_n X dX9_come_173 rfl hl 1 rfl ?_
          refine lv_iconst (v := (2 : Int32)) X.1 X.2.1 dX9_come_174 (by decide) ?_
          obtain ⟨b175, e_b175, h⟩ := o_b h
          obtain ⟨q175, e_q175, h⟩ := o_b h
          refine q_cV (As := [.int v1, .int (2 : Int32)]) X hh hS hl cf_X9_176 (cN := 9) rfl rfl e_b175 rfl (M_X9_forget l D dA base σ b175 v1 (2 : Int32) e_q175) ⟨Nat.le_trans (by decide) hR.1, Nat.le_trans (by decide) hR.2⟩ (cat8 [] (Nat.le_of_ble_eq_true rfl)) dX9_come_175 ⟨Nat.zero_le _, Nat.zero_le _⟩ rfl rfl (fun H locs hh hS => ?_)
          refine q_aload_n X dX9_come_178 rfl hl 0 rfl ?_
          obtain ⟨t179, e_t179, h⟩ := o_b h
          refine q_gR X hh fa_X9_59 rfl e_t179 dX9_come_179 ?_
          refine q_iload_n X dX9_come_182 rfl hl 1 rfl ?_
          refine lv_iconst (v := (1 : Int32)) X.1 X.2.1 dX9_come_183 (by decide) ?_
          obtain ⟨z184, e_z184, h⟩ := o_b h
          obtain ⟨s184, e_s184, h⟩ := o_b h
          refine q_stZ X hh hS e_z184 e_s184 dX9_come_184 (fun H locs hh hS => ?_)
          refine q_aload_n X dX9_come_185 rfl hl 0 rfl ?_
          obtain ⟨t186, e_t186, h⟩ := o_b h
          refine q_gR X hh fa_X9_63 rfl e_t186 dX9_come_186 ?_
          refine q_iload_n X dX9_come_189 rfl hl 1 rfl ?_
          refine lv_iconst (v := (-1 : Int32)) X.1 X.2.1 dX9_come_190 (by decide) ?_
          obtain ⟨s191, e_s191, h⟩ := o_b h
          refine q_stI X hh hS e_s191 dX9_come_191 (fun H locs hh hS => ?_)
          refine q_aload_n X dX9_come_192 rfl hl 0 rfl ?_
          refine q_iload_n X dX9_come_193 rfl hl 1 rfl ?_
          obtain ⟨b194, e_b194, h⟩ := o_b h
          obtain ⟨q194, e_q194, h⟩ := o_b h
          refine q_cV (As := [.int v1]) X hh hS hl cf_X9_166 (cN := 9) rfl rfl e_b194 rfl (M_X9_goOn l D dA base s191 b194 v1 e_q194) ⟨Nat.le_trans (by decide) hR.1, Nat.le_trans (by decide) hR.2⟩ (cat8 [] (Nat.le_of_ble_eq_true rfl)) dX9_come_194 ⟨Nat.zero_le _, Nat.zero_le _⟩ rfl rfl (fun H locs hh hS => ?_)
          exact K_X9_come_197 X hret hlk hR hh hS (lk_sub hl [] rfl) h
theorem ke_X9_come_35 {z : hp} {σ : hp} {t0 : Nat} {v1 : Int32} {v3 : Int32} {v4 : Int32} {w0 : Int32} (h : S_X9_come_35 σ t0 v1 v3 v4 w0 = some z) : eq4 σ z := by
  unfold S_X9_come_35 at h
  by_cases c39 : w0 = (0 : Int32)
  · rw [if_pos c39] at h
    by_cases c45 : v3 = (7 : Int32)
    · rw [if_pos c45] at h
      obtain ⟨t49, e_t49, h⟩ := o_b h
      obtain ⟨t53, e_t53, h⟩ := o_b h
      by_cases c55 : t53 = (2 : Int32)
      · rw [if_pos c55] at h
        obtain ⟨t59, e_t59, h⟩ := o_b h
        obtain ⟨t63, e_t63, h⟩ := o_b h
        by_cases c64 : t63 = (0 : Int32)
        · rw [if_pos c64] at h
          obtain ⟨t68, e_t68, h⟩ := o_b h
          obtain ⟨t72, e_t72, h⟩ := o_b h
          by_cases c75 : t72 = v4
          · rw [if_pos c75] at h
            obtain ⟨t79, e_t79, h⟩ := o_b h
            obtain ⟨t83, e_t83, h⟩ := o_b h
            by_cases c84 : t83 = (0 : Int32)
            · rw [if_pos c84] at h
              exact (ke_X9_come_91 h)
            · rw [if_neg c84] at h
              exact (ke_X9_come_92 h)
          · rw [if_neg c75] at h
            exact (ke_X9_come_91 h)
        · rw [if_neg c64] at h
          exact (ke_X9_come_91 h)
      · rw [if_neg c55] at h
        exact (ke_X9_come_91 h)
    · rw [if_neg c45] at h
      exact (ke_X9_come_136 h)
  · rw [if_neg c39] at h
    exact (ke_X9_come_136 h)
set_option maxHeartbeats 4000000 in
set_option maxRecDepth 100000 in
theorem K_X9_come_35 {p : Program} {l : Launch} {e : Env} {R : Room} {s : State} {m : MethodId} {args : Array Value} {below : List Frame} {meth : Method} {c : Code} {D : va_G} {dA : Nat → ClassId} {base : Nat} {z : hp} (X : cx p s m args c cX9_come RX9 7 D dA) (hret : meth.sig.returnType = none) (hlk : meth.locks = false) (hR : 10 ≤ R.frames ∧ 227 ≤ R.locals) {σ : hp} {t0 : Nat} {v1 : Int32} {v3 : Int32} {v4 : Int32} {w0 : Int32} {H : Heap} {locs : List Loc} {ls : Array Slot} (hh : hw D dA base σ H) (hS : hs base s.heap H locs) (hl : lk ls 7 [(0, .inr (some t0)), (1, .inl v1), (3, .inl v3), (4, .inl v4)]) (h : S_X9_come_35 σ t0 v1 v3 v4 w0 = some z) : W p l e R s m args below meth c H locs 0 0 (MQ below (qG D dA base none z) args s 0 0 (fun q => base ≤ q)) (F0 m 35 ls [.int w0]) := by
  unfold S_X9_come_35 at h
  refine q_istore (lv' := [(5, .inl w0), (0, .inr (some t0)), (1, .inl v1), (3, .inl v3), (4, .inl v4)]) X dX9_come_35 hl (by decide) rfl (fun ls hl => ?_)
  refine q_iload X dX9_come_37 hl 0 rfl ?_
  refine lv_if_ne (tgt := 136) X.1 X.2.1 dX9_come_39 (by decide) (fun c39 => ?_) (fun c39 => ?_)
  · rw [if_neg c39] at h
    exact K_X9_come_136 X hret hlk hR hh hS (lk_sub hl [1, 2, 3, 4, 0] rfl) h
  · rw [if_pos c39] at h
    refine q_iload_n X dX9_come_42 rfl hl 3 rfl ?_
    refine lv_bipush (v := (7 : Int32)) X.1 X.2.1 dX9_come_43 (by decide) ?_
    refine lv_icmp_ne (tgt := 136) X.1 X.2.1 dX9_come_45 (by decide) (fun c45 => ?_) (fun c45 => ?_)
    · rw [if_neg c45] at h
      exact K_X9_come_136 X hret hlk hR hh hS (lk_sub hl [1, 2, 3, 4, 0] rfl) h
    · rw [if_pos c45] at h
      refine q_aload_n X dX9_come_48 rfl hl 1 rfl ?_
      obtain ⟨t49, e_t49, h⟩ := o_b h
      refine q_gR X hh fa_X9_56 rfl e_t49 dX9_come_49 ?_
      refine q_iload_n X dX9_come_52 rfl hl 2 rfl ?_
      obtain ⟨t53, e_t53, h⟩ := o_b h
      refine q_ldI X hh e_t53 dX9_come_53 ?_
      refine lv_iconst (v := (2 : Int32)) X.1 X.2.1 dX9_come_54 (by decide) ?_
      refine lv_icmp_ne (tgt := 91) X.1 X.2.1 dX9_come_55 (by decide) (fun c55 => ?_) (fun c55 => ?_)
      · rw [if_neg c55] at h
        exact K_X9_come_91 X hret hlk hR hh hS (lk_sub hl [1, 2, 4] rfl) h
      · rw [if_pos c55] at h
        refine q_aload_n X dX9_come_58 rfl hl 1 rfl ?_
        obtain ⟨t59, e_t59, h⟩ := o_b h
        refine q_gR X hh fa_X9_59 rfl e_t59 dX9_come_59 ?_
        refine q_iload_n X dX9_come_62 rfl hl 2 rfl ?_
        obtain ⟨t63, e_t63, h⟩ := o_b h
        refine q_ldZ X hh e_t63 dX9_come_63 ?_
        refine lv_if_ne (tgt := 91) X.1 X.2.1 dX9_come_64 (by decide) (fun c64 => ?_) (fun c64 => ?_)
        · rw [if_neg c64] at h
          exact K_X9_come_91 X hret hlk hR hh hS (lk_sub hl [1, 2, 4] rfl) h
        · rw [if_pos c64] at h
          refine q_aload_n X dX9_come_67 rfl hl 1 rfl ?_
          obtain ⟨t68, e_t68, h⟩ := o_b h
          refine q_gR X hh fa_X9_63 rfl e_t68 dX9_come_68 ?_
          refine q_iload_n X dX9_come_71 rfl hl 2 rfl ?_
          obtain ⟨t72, e_t72, h⟩ := o_b h
          refine q_ldI X hh e_t72 dX9_come_72 ?_
          refine q_iload X dX9_come_73 hl 4 rfl ?_
          refine lv_icmp_ne (tgt := 91) X.1 X.2.1 dX9_come_75 (by decide) (fun c75 => ?_) (fun c75 => ?_)
          · rw [if_neg c75] at h
            exact K_X9_come_91 X hret hlk hR hh hS (lk_sub hl [1, 2, 4] rfl) h
          · rw [if_pos c75] at h
            refine q_aload_n X dX9_come_78 rfl hl 1 rfl ?_
            obtain ⟨t79, e_t79, h⟩ := o_b h
            refine q_gR X hh fa_X9_66 rfl e_t79 dX9_come_79 ?_
            refine q_iload_n X dX9_come_82 rfl hl 2 rfl ?_
            obtain ⟨t83, e_t83, h⟩ := o_b h
            refine q_ldZ X hh e_t83 dX9_come_83 ?_
            refine lv_if_eq (tgt := 91) X.1 X.2.1 dX9_come_84 (by decide) (fun c84 => ?_) (fun c84 => ?_)
            · rw [if_pos c84] at h
              exact K_X9_come_91 X hret hlk hR hh hS (lk_sub hl [1, 2, 4] rfl) h
            · rw [if_neg c84] at h
              refine lv_iconst (v := (1 : Int32)) X.1 X.2.1 dX9_come_87 (by decide) ?_
              refine lv_goto (tgt := 92) X.1 X.2.1 dX9_come_88 (by decide) ?_
              exact K_X9_come_92 X hret hlk hR hh hS (lk_sub hl [1, 2, 4] rfl) h
theorem ke_X9_come_0 {z : hp} {σ : hp} {t0 : Nat} {v1 : Int32} (h : S_X9_come σ t0 v1 = some z) : eq4 σ z := by
  unfold S_X9_come at h
  obtain ⟨t1, e_t1, h⟩ := o_b h
  obtain ⟨t5, e_t5, h⟩ := o_b h
  obtain ⟨t21, e_t21, h⟩ := o_b h
  obtain ⟨t25, e_t25, h⟩ := o_b h
  by_cases c27 : t25 = (1 : Int32)
  · rw [if_pos c27] at h
    exact (ke_X9_come_35 h)
  · rw [if_neg c27] at h
    exact (ke_X9_come_35 h)
set_option maxHeartbeats 4000000 in
set_option maxRecDepth 100000 in
theorem K_X9_come_0 {p : Program} {l : Launch} {e : Env} {R : Room} {s : State} {m : MethodId} {args : Array Value} {below : List Frame} {meth : Method} {c : Code} {D : va_G} {dA : Nat → ClassId} {base : Nat} {z : hp} (X : cx p s m args c cX9_come RX9 7 D dA) (hret : meth.sig.returnType = none) (hlk : meth.locks = false) (hR : 10 ≤ R.frames ∧ 227 ≤ R.locals) {σ : hp} {t0 : Nat} {v1 : Int32} {H : Heap} {locs : List Loc} {ls : Array Slot} (hh : hw D dA base σ H) (hS : hs base s.heap H locs) (hl : lk ls 7 [(0, .inr (some t0)), (1, .inl v1)]) (h : S_X9_come σ t0 v1 = some z) : W p l e R s m args below meth c H locs 0 0 (MQ below (qG D dA base none z) args s 0 0 (fun q => base ≤ q)) (F0 m 0 ls []) := by
  unfold S_X9_come at h
  refine q_aload_n X dX9_come_0 rfl hl 0 rfl ?_
  obtain ⟨t1, e_t1, h⟩ := o_b h
  refine q_gR X hh fa_X9_53 rfl e_t1 dX9_come_1 ?_
  refine lv_iconst (v := (4 : Int32)) X.1 X.2.1 dX9_come_4 (by decide) ?_
  obtain ⟨t5, e_t5, h⟩ := o_b h
  refine q_ldI X hh e_t5 dX9_come_5 ?_
  refine q_istore_n (lv' := [(2, .inl t5), (0, .inr (some t0)), (1, .inl v1)]) X dX9_come_6 rfl hl (by decide) rfl (fun ls hl => ?_)
  refine q_iload_n X dX9_come_7 rfl hl 0 rfl ?_
  refine lv_iconst (v := (3 : Int32)) X.1 X.2.1 dX9_come_8 (by decide) ?_
  refine lv_ishr X.1 X.2.1 dX9_come_9 ?_
  refine lv_bipush (v := (7 : Int32)) X.1 X.2.1 dX9_come_10 (by decide) ?_
  refine lv_iand X.1 X.2.1 dX9_come_12 ?_
  refine q_istore_n (lv' := [(3, .inl ((t5 >>> ((3 : Int32) &&& 31)) &&& (7 : Int32))), (2, .inl t5), (0, .inr (some t0)), (1, .inl v1)]) X dX9_come_13 rfl hl (by decide) rfl (fun ls hl => ?_)
  refine q_iload_n X dX9_come_14 rfl hl 1 rfl ?_
  refine lv_bipush (v := (7 : Int32)) X.1 X.2.1 dX9_come_15 (by decide) ?_
  refine lv_iand X.1 X.2.1 dX9_come_17 ?_
  refine q_istore (lv' := [(4, .inl (t5 &&& (7 : Int32))), (3, .inl ((t5 >>> ((3 : Int32) &&& 31)) &&& (7 : Int32))), (2, .inl t5), (0, .inr (some t0)), (1, .inl v1)]) X dX9_come_18 hl (by decide) rfl (fun ls hl => ?_)
  refine q_aload_n X dX9_come_20 rfl hl 3 rfl ?_
  obtain ⟨t21, e_t21, h⟩ := o_b h
  refine q_gR X hh fa_X9_53 rfl e_t21 dX9_come_21 ?_
  refine lv_iconst (v := (1 : Int32)) X.1 X.2.1 dX9_come_24 (by decide) ?_
  obtain ⟨t25, e_t25, h⟩ := o_b h
  refine q_ldI X hh e_t25 dX9_come_25 ?_
  refine lv_iconst (v := (1 : Int32)) X.1 X.2.1 dX9_come_26 (by decide) ?_
  refine lv_icmp_ne (tgt := 34) X.1 X.2.1 dX9_come_27 (by decide) (fun c27 => ?_) (fun c27 => ?_)
  · rw [if_neg c27] at h
    refine lv_iconst (v := (0 : Int32)) X.1 X.2.1 dX9_come_34 (by decide) ?_
    exact K_X9_come_35 X hret hlk hR hh hS (lk_sub hl [3, 4, 1, 0] rfl) h
  · rw [if_pos c27] at h
    refine lv_iconst (v := (1 : Int32)) X.1 X.2.1 dX9_come_30 (by decide) ?_
    refine lv_goto (tgt := 35) X.1 X.2.1 dX9_come_31 (by decide) ?_
    exact K_X9_come_35 X hret hlk hR hh hS (lk_sub hl [3, 4, 1, 0] rfl) h
set_option maxRecDepth 100000 in
theorem M_X9_come (l : Launch) (D : va_G) (dA : Nat → ClassId) (base : Nat) (σ : hp) (t0 : Nat) (v1 : Int32) {z : hp} (h : S_X9_come σ t0 v1 = some z) : mt l yX9_come cX9_come 7 (none) 10 227 D dA base σ [.ref t0, .int v1] none z 0 0 := by
  refine Met.ofW (cc := cX9_come) (maxL := 7) (ret := none) (by decide) rfl ?_
  intro p e s m args below meth c s₁ B hml hv
  obtain ⟨rfl, hh, hK⟩ := hv
  have X : cx p s m ([.ref t0, .int v1] : List Value).toArray c cX9_come RX9 7 D dA := ⟨B.exec, B.bytes, findClass_of_methodNamed B.named, hml, fun w hw => atoms_spec (ws := .code yX9_come cX9_come 7 (none) :: G) B.pre w (List.mem_cons_of_mem _ hw), hK⟩
  have hl := lk_entry [.inr (some t0), .inl v1] (n := 7) (Nat.le_of_ble_eq_true rfl)
  rw [lg_entry_eq]
  have hl : lk ((lg_sl ([.ref t0, .int v1] : List Value) ++ List.replicate (7 - (lg_sl ([.ref t0, .int v1] : List Value)).length) Slot.unset).toArray) 7 [(0, .inr (some t0)), (1, .inl v1)] := hl
  generalize (lg_sl ([.ref t0, .int v1] : List Value) ++ List.replicate (7 - (lg_sl ([.ref t0, .int v1] : List Value)).length) Slot.unset).toArray = ls at hl ⊢
  exact K_X9_come_0 X B.returns B.notSynchronized ⟨Nat.le_refl _, Nat.le_refl _⟩ hh va_S.rf hl h
theorem ke_X9_takeFirst_93_b {rec57 : hp → Nat → Int32 → Int32 → Option (hp)} {rec93 : hp → Nat → Int32 → Int32 → Int32 → Option (hp)} {z : hp} (hm57 : ∀ (σ : hp) (t0 : Nat) (v1 : Int32) (v2 : Int32), rec57 σ t0 v1 v2 = some z → eq4 σ z) (hm93 : ∀ (σ : hp) (t0 : Nat) (v1 : Int32) (v2 : Int32) (v3 : Int32), rec93 σ t0 v1 v2 v3 = some z → eq4 σ z) {σ : hp} {t0 : Nat} {v1 : Int32} {v2 : Int32} {v3 : Int32} (h : S_X9_takeFirst_93_b rec57 rec93 σ t0 v1 v2 v3 = some z) : eq4 σ z := by
  unfold S_X9_takeFirst_93_b at h
  by_cases c96 : (38 : Int32) ≤ v3
  · rw [if_pos c96] at h
    exact (hm57 _ _ _ _ h)
  · rw [if_neg c96] at h
    obtain ⟨t100, e_t100, h⟩ := o_b h
    obtain ⟨t116, e_t116, h⟩ := o_b h
    obtain ⟨t133, e_t133, h⟩ := o_b h
    obtain ⟨s134, e_s134, h⟩ := o_b h
    exact ((e_stI e_s134)).tr (hm93 _ _ _ _ _ h)
theorem ke_X9_takeFirst_93 {rec57 : hp → Nat → Int32 → Int32 → Option (hp)} {z : hp} (hm57 : ∀ (σ : hp) (t0 : Nat) (v1 : Int32) (v2 : Int32), rec57 σ t0 v1 v2 = some z → eq4 σ z) : ∀ (n : Nat) (σ : hp) (t0 : Nat) (v1 : Int32) (v2 : Int32) (v3 : Int32), S_X9_takeFirst_93 rec57 n σ t0 v1 v2 v3 = some z → eq4 σ z := by
  intro n
  induction n with
  | zero => intro σ t0 v1 v2 v3 h; cases h
  | succ n ih => intro σ t0 v1 v2 v3 h; exact ke_X9_takeFirst_93_b hm57 ih h
set_option maxHeartbeats 4000000 in
set_option maxRecDepth 100000 in
theorem K_X9_takeFirst_93_b {p : Program} {l : Launch} {e : Env} {R : Room} {s : State} {m : MethodId} {args : Array Value} {below : List Frame} {meth : Method} {c : Code} {D : va_G} {dA : Nat → ClassId} {base : Nat} {rec57 : hp → Nat → Int32 → Int32 → Option (hp)} {rec93 : hp → Nat → Int32 → Int32 → Int32 → Option (hp)} {z : hp} (X : cx p s m args c cX9_takeFirst RX9 4 D dA) (hret : meth.sig.returnType = none) (hlk : meth.locks = false) (hR : 0 ≤ R.frames ∧ 0 ≤ R.locals) (hr57 : ∀ (σ : hp) (t0 : Nat) (v1 : Int32) (v2 : Int32) (H : Heap) (locs : List Loc) (ls : Array Slot), hw D dA base σ H → hs base s.heap H locs → lk ls 4 [(0, .inr (some t0)), (1, .inl v1), (2, .inl v2)] → rec57 σ t0 v1 v2 = some z → W p l e R s m args below meth c H locs 0 0 (MQ below (qG D dA base none z) args s 0 0 (fun q => base ≤ q)) (F0 m 57 ls [])) (hr93 : ∀ (σ : hp) (t0 : Nat) (v1 : Int32) (v2 : Int32) (v3 : Int32) (H : Heap) (locs : List Loc) (ls : Array Slot), hw D dA base σ H → hs base s.heap H locs → lk ls 4 [(0, .inr (some t0)), (1, .inl v1), (2, .inl v2), (3, .inl v3)] → rec93 σ t0 v1 v2 v3 = some z → W p l e R s m args below meth c H locs 0 0 (MQ below (qG D dA base none z) args s 0 0 (fun q => base ≤ q)) (F0 m 93 ls [])) {σ : hp} {t0 : Nat} {v1 : Int32} {v2 : Int32} {v3 : Int32} {H : Heap} {locs : List Loc} {ls : Array Slot} (hh : hw D dA base σ H) (hS : hs base s.heap H locs) (hl : lk ls 4 [(0, .inr (some t0)), (1, .inl v1), (2, .inl v2), (3, .inl v3)]) (h : S_X9_takeFirst_93_b rec57 rec93 σ t0 v1 v2 v3 = some z) : W p l e R s m args below meth c H locs 0 0 (MQ below (qG D dA base none z) args s 0 0 (fun q => base ≤ q)) (F0 m 93 ls []) := by
  unfold S_X9_takeFirst_93_b at h
  refine q_iload_n X dX9_takeFirst_93 rfl hl 3 rfl ?_
  refine lv_bipush (v := (38 : Int32)) X.1 X.2.1 dX9_takeFirst_94 (by decide) ?_
  refine lv_icmp_ge (tgt := 141) X.1 X.2.1 dX9_takeFirst_96 (by decide) (fun c96 => ?_) (fun c96 => ?_)
  · rw [if_pos c96] at h
    refine q_iinc (v := (1 : Int32)) (lv' := [(2, .inl (v2 + (1 : Int32))), (0, .inr (some t0)), (1, .inl v1), (3, .inl v3)]) X dX9_takeFirst_141 hl 2 rfl (by decide) (by decide) rfl (fun ls hl => ?_)
    refine lv_goto (tgt := 57) X.1 X.2.1 dX9_takeFirst_144 (by decide) ?_
    exact hr57 _ _ _ _ _ _ _ hh hS (lk_sub hl [1, 2, 0] rfl) h
  · rw [if_neg c96] at h
    refine q_aload_n X dX9_takeFirst_99 rfl hl 0 rfl ?_
    obtain ⟨t100, e_t100, h⟩ := o_b h
    refine q_gR X hh fa_X9_47 rfl e_t100 dX9_takeFirst_100 ?_
    refine lv_sipush (v := (456 : Int32)) X.1 X.2.1 dX9_takeFirst_103 (by decide) ?_
    refine q_iload_n X dX9_takeFirst_106 rfl hl 1 rfl ?_
    refine lv_imul X.1 X.2.1 dX9_takeFirst_107 ?_
    refine lv_bipush (v := (38 : Int32)) X.1 X.2.1 dX9_takeFirst_108 (by decide) ?_
    refine q_iload_n X dX9_takeFirst_110 rfl hl 2 rfl ?_
    refine lv_imul X.1 X.2.1 dX9_takeFirst_111 ?_
    refine lv_iadd X.1 X.2.1 dX9_takeFirst_112 ?_
    refine q_iload_n X dX9_takeFirst_113 rfl hl 3 rfl ?_
    refine lv_iadd X.1 X.2.1 dX9_takeFirst_114 ?_
    refine q_aload_n X dX9_takeFirst_115 rfl hl 0 rfl ?_
    obtain ⟨t116, e_t116, h⟩ := o_b h
    refine q_gR X hh fa_X9_47 rfl e_t116 dX9_takeFirst_116 ?_
    refine lv_sipush (v := (456 : Int32)) X.1 X.2.1 dX9_takeFirst_119 (by decide) ?_
    refine q_iload_n X dX9_takeFirst_122 rfl hl 1 rfl ?_
    refine lv_imul X.1 X.2.1 dX9_takeFirst_123 ?_
    refine lv_bipush (v := (38 : Int32)) X.1 X.2.1 dX9_takeFirst_124 (by decide) ?_
    refine q_iload_n X dX9_takeFirst_126 rfl hl 2 rfl ?_
    refine lv_iconst (v := (1 : Int32)) X.1 X.2.1 dX9_takeFirst_127 (by decide) ?_
    refine lv_iadd X.1 X.2.1 dX9_takeFirst_128 ?_
    refine lv_imul X.1 X.2.1 dX9_takeFirst_129 ?_
    refine lv_iadd X.1 X.2.1 dX9_takeFirst_130 ?_
    refine q_iload_n X dX9_takeFirst_131 rfl hl 3 rfl ?_
    refine lv_iadd X.1 X.2.1 dX9_takeFirst_132 ?_
    obtain ⟨t133, e_t133, h⟩ := o_b h
    refine q_ldI X hh e_t133 dX9_takeFirst_133 ?_
    obtain ⟨s134, e_s134, h⟩ := o_b h
    refine q_stI X hh hS e_s134 dX9_takeFirst_134 (fun H locs hh hS => ?_)
    refine q_iinc (v := (1 : Int32)) (lv' := [(3, .inl (v3 + (1 : Int32))), (0, .inr (some t0)), (1, .inl v1), (2, .inl v2)]) X dX9_takeFirst_135 hl 3 rfl (by decide) (by decide) rfl (fun ls hl => ?_)
    refine lv_goto (tgt := 93) X.1 X.2.1 dX9_takeFirst_138 (by decide) ?_
    exact hr93 _ _ _ _ _ _ _ _ hh hS (lk_sub hl [1, 2, 3, 0] rfl) h
theorem K_X9_takeFirst_93 {p : Program} {l : Launch} {e : Env} {R : Room} {s : State} {m : MethodId} {args : Array Value} {below : List Frame} {meth : Method} {c : Code} {D : va_G} {dA : Nat → ClassId} {base : Nat} {rec57 : hp → Nat → Int32 → Int32 → Option (hp)} {z : hp} (X : cx p s m args c cX9_takeFirst RX9 4 D dA) (hret : meth.sig.returnType = none) (hlk : meth.locks = false) (hR : 0 ≤ R.frames ∧ 0 ≤ R.locals) (hr57 : ∀ (σ : hp) (t0 : Nat) (v1 : Int32) (v2 : Int32) (H : Heap) (locs : List Loc) (ls : Array Slot), hw D dA base σ H → hs base s.heap H locs → lk ls 4 [(0, .inr (some t0)), (1, .inl v1), (2, .inl v2)] → rec57 σ t0 v1 v2 = some z → W p l e R s m args below meth c H locs 0 0 (MQ below (qG D dA base none z) args s 0 0 (fun q => base ≤ q)) (F0 m 57 ls [])) : ∀ (n : Nat) (σ : hp) (t0 : Nat) (v1 : Int32) (v2 : Int32) (v3 : Int32) (H : Heap) (locs : List Loc) (ls : Array Slot), hw D dA base σ H → hs base s.heap H locs → lk ls 4 [(0, .inr (some t0)), (1, .inl v1), (2, .inl v2), (3, .inl v3)] → S_X9_takeFirst_93 rec57 n σ t0 v1 v2 v3 = some z → W p l e R s m args below meth c H locs 0 0 (MQ below (qG D dA base none z) args s 0 0 (fun q => base ≤ q)) (F0 m 93 ls []) := by
  intro n
  induction n with
  | zero => intro σ t0 v1 v2 v3 H locs ls hh hS hl h; cases h
  | succ n ih => intro σ t0 v1 v2 v3 H locs ls hh hS hl h; exact K_X9_takeFirst_93_b X hret hlk hR hr57 ih hh hS hl h
theorem ke_X9_takeFirst_57_b {rec57 : hp → Nat → Int32 → Int32 → Option (hp)} {z : hp} (hm57 : ∀ (σ : hp) (t0 : Nat) (v1 : Int32) (v2 : Int32), rec57 σ t0 v1 v2 = some z → eq4 σ z) {σ : hp} {t0 : Nat} {v1 : Int32} {v2 : Int32} (h : S_X9_takeFirst_57_b rec57 σ t0 v1 v2 = some z) : eq4 σ z := by
  unfold S_X9_takeFirst_57_b at h
  obtain ⟨t59, e_t59, h⟩ := o_b h
  obtain ⟨t63, e_t63, h⟩ := o_b h
  by_cases c64 : t63 ≤ v2
  · rw [if_pos c64] at h
    cases h
    exact eq4.rf _
  · rw [if_neg c64] at h
    obtain ⟨t68, e_t68, h⟩ := o_b h
    obtain ⟨t78, e_t78, h⟩ := o_b h
    obtain ⟨t89, e_t89, h⟩ := o_b h
    obtain ⟨s90, e_s90, h⟩ := o_b h
    exact ((e_stI e_s90)).tr (ke_X9_takeFirst_93 hm57 FU _ _ _ _ _ h)
theorem ke_X9_takeFirst_57 {z : hp} : ∀ (n : Nat) (σ : hp) (t0 : Nat) (v1 : Int32) (v2 : Int32), S_X9_takeFirst_57 n σ t0 v1 v2 = some z → eq4 σ z := by
  intro n
  induction n with
  | zero => intro σ t0 v1 v2 h; cases h
  | succ n ih => intro σ t0 v1 v2 h; exact ke_X9_takeFirst_57_b ih h
set_option maxHeartbeats 4000000 in
set_option maxRecDepth 100000 in
theorem K_X9_takeFirst_57_b {p : Program} {l : Launch} {e : Env} {R : Room} {s : State} {m : MethodId} {args : Array Value} {below : List Frame} {meth : Method} {c : Code} {D : va_G} {dA : Nat → ClassId} {base : Nat} {rec57 : hp → Nat → Int32 → Int32 → Option (hp)} {z : hp} (X : cx p s m args c cX9_takeFirst RX9 4 D dA) (hret : meth.sig.returnType = none) (hlk : meth.locks = false) (hR : 0 ≤ R.frames ∧ 0 ≤ R.locals) (hr57 : ∀ (σ : hp) (t0 : Nat) (v1 : Int32) (v2 : Int32) (H : Heap) (locs : List Loc) (ls : Array Slot), hw D dA base σ H → hs base s.heap H locs → lk ls 4 [(0, .inr (some t0)), (1, .inl v1), (2, .inl v2)] → rec57 σ t0 v1 v2 = some z → W p l e R s m args below meth c H locs 0 0 (MQ below (qG D dA base none z) args s 0 0 (fun q => base ≤ q)) (F0 m 57 ls [])) {σ : hp} {t0 : Nat} {v1 : Int32} {v2 : Int32} {H : Heap} {locs : List Loc} {ls : Array Slot} (hh : hw D dA base σ H) (hS : hs base s.heap H locs) (hl : lk ls 4 [(0, .inr (some t0)), (1, .inl v1), (2, .inl v2)]) (h : S_X9_takeFirst_57_b rec57 σ t0 v1 v2 = some z) : W p l e R s m args below meth c H locs 0 0 (MQ below (qG D dA base none z) args s 0 0 (fun q => base ≤ q)) (F0 m 57 ls []) := by
  unfold S_X9_takeFirst_57_b at h
  refine q_iload_n X dX9_takeFirst_57 rfl hl 2 rfl ?_
  refine q_aload_n X dX9_takeFirst_58 rfl hl 0 rfl ?_
  obtain ⟨t59, e_t59, h⟩ := o_b h
  refine q_gR X hh fa_X9_44 rfl e_t59 dX9_takeFirst_59 ?_
  refine q_iload_n X dX9_takeFirst_62 rfl hl 1 rfl ?_
  obtain ⟨t63, e_t63, h⟩ := o_b h
  refine q_ldI X hh e_t63 dX9_takeFirst_63 ?_
  refine lv_icmp_ge (tgt := 147) X.1 X.2.1 dX9_takeFirst_64 (by decide) (fun c64 => ?_) (fun c64 => ?_)
  · rw [if_pos c64] at h
    cases h
    exact q_vret X hret hlk hh hS dX9_takeFirst_147
  · rw [if_neg c64] at h
    refine q_aload_n X dX9_takeFirst_67 rfl hl 0 rfl ?_
    obtain ⟨t68, e_t68, h⟩ := o_b h
    refine q_gR X hh fa_X9_50 rfl e_t68 dX9_takeFirst_68 ?_
    refine lv_bipush (v := (12 : Int32)) X.1 X.2.1 dX9_takeFirst_71 (by decide) ?_
    refine q_iload_n X dX9_takeFirst_73 rfl hl 1 rfl ?_
    refine lv_imul X.1 X.2.1 dX9_takeFirst_74 ?_
    refine q_iload_n X dX9_takeFirst_75 rfl hl 2 rfl ?_
    refine lv_iadd X.1 X.2.1 dX9_takeFirst_76 ?_
    refine q_aload_n X dX9_takeFirst_77 rfl hl 0 rfl ?_
    obtain ⟨t78, e_t78, h⟩ := o_b h
    refine q_gR X hh fa_X9_50 rfl e_t78 dX9_takeFirst_78 ?_
    refine lv_bipush (v := (12 : Int32)) X.1 X.2.1 dX9_takeFirst_81 (by decide) ?_
    refine q_iload_n X dX9_takeFirst_83 rfl hl 1 rfl ?_
    refine lv_imul X.1 X.2.1 dX9_takeFirst_84 ?_
    refine q_iload_n X dX9_takeFirst_85 rfl hl 2 rfl ?_
    refine lv_iadd X.1 X.2.1 dX9_takeFirst_86 ?_
    refine lv_iconst (v := (1 : Int32)) X.1 X.2.1 dX9_takeFirst_87 (by decide) ?_
    refine lv_iadd X.1 X.2.1 dX9_takeFirst_88 ?_
    obtain ⟨t89, e_t89, h⟩ := o_b h
    refine q_ldI X hh e_t89 dX9_takeFirst_89 ?_
    obtain ⟨s90, e_s90, h⟩ := o_b h
    refine q_stI X hh hS e_s90 dX9_takeFirst_90 (fun H locs hh hS => ?_)
    refine lv_iconst (v := (0 : Int32)) X.1 X.2.1 dX9_takeFirst_91 (by decide) ?_
    refine q_istore_n (lv' := [(3, .inl (0 : Int32)), (0, .inr (some t0)), (1, .inl v1), (2, .inl v2)]) X dX9_takeFirst_92 rfl hl (by decide) rfl (fun ls hl => ?_)
    exact K_X9_takeFirst_93 X hret hlk hR hr57 FU _ _ _ _ _ _ _ _ hh hS (lk_sub hl [1, 2, 3, 0] rfl) h
theorem K_X9_takeFirst_57 {p : Program} {l : Launch} {e : Env} {R : Room} {s : State} {m : MethodId} {args : Array Value} {below : List Frame} {meth : Method} {c : Code} {D : va_G} {dA : Nat → ClassId} {base : Nat} {z : hp} (X : cx p s m args c cX9_takeFirst RX9 4 D dA) (hret : meth.sig.returnType = none) (hlk : meth.locks = false) (hR : 0 ≤ R.frames ∧ 0 ≤ R.locals) : ∀ (n : Nat) (σ : hp) (t0 : Nat) (v1 : Int32) (v2 : Int32) (H : Heap) (locs : List Loc) (ls : Array Slot), hw D dA base σ H → hs base s.heap H locs → lk ls 4 [(0, .inr (some t0)), (1, .inl v1), (2, .inl v2)] → S_X9_takeFirst_57 n σ t0 v1 v2 = some z → W p l e R s m args below meth c H locs 0 0 (MQ below (qG D dA base none z) args s 0 0 (fun q => base ≤ q)) (F0 m 57 ls []) := by
  intro n
  induction n with
  | zero => intro σ t0 v1 v2 H locs ls hh hS hl h; cases h
  | succ n ih => intro σ t0 v1 v2 H locs ls hh hS hl h; exact K_X9_takeFirst_57_b X hret hlk hR ih hh hS hl h
theorem ke_X9_takeFirst_15_b {rec15 : hp → Nat → Int32 → Int32 → Option (hp)} {z : hp} (hm15 : ∀ (σ : hp) (t0 : Nat) (v1 : Int32) (v2 : Int32), rec15 σ t0 v1 v2 = some z → eq4 σ z) {σ : hp} {t0 : Nat} {v1 : Int32} {v2 : Int32} (h : S_X9_takeFirst_15_b rec15 σ t0 v1 v2 = some z) : eq4 σ z := by
  unfold S_X9_takeFirst_15_b at h
  by_cases c18 : (38 : Int32) ≤ v2
  · rw [if_pos c18] at h
    obtain ⟨t46, e_t46, h⟩ := o_b h
    obtain ⟨t51, e_t51, h⟩ := o_b h
    obtain ⟨s54, e_s54, h⟩ := o_b h
    exact ((e_stI e_s54)).tr (ke_X9_takeFirst_57 FU _ _ _ _ h)
  · rw [if_neg c18] at h
    obtain ⟨t22, e_t22, h⟩ := o_b h
    obtain ⟨t27, e_t27, h⟩ := o_b h
    obtain ⟨t37, e_t37, h⟩ := o_b h
    obtain ⟨s38, e_s38, h⟩ := o_b h
    exact ((e_stI e_s38)).tr (hm15 _ _ _ _ h)
theorem ke_X9_takeFirst_15 {z : hp} : ∀ (n : Nat) (σ : hp) (t0 : Nat) (v1 : Int32) (v2 : Int32), S_X9_takeFirst_15 n σ t0 v1 v2 = some z → eq4 σ z := by
  intro n
  induction n with
  | zero => intro σ t0 v1 v2 h; cases h
  | succ n ih => intro σ t0 v1 v2 h; exact ke_X9_takeFirst_15_b ih h
set_option maxHeartbeats 4000000 in
set_option maxRecDepth 100000 in
theorem K_X9_takeFirst_15_b {p : Program} {l : Launch} {e : Env} {R : Room} {s : State} {m : MethodId} {args : Array Value} {below : List Frame} {meth : Method} {c : Code} {D : va_G} {dA : Nat → ClassId} {base : Nat} {rec15 : hp → Nat → Int32 → Int32 → Option (hp)} {z : hp} (X : cx p s m args c cX9_takeFirst RX9 4 D dA) (hret : meth.sig.returnType = none) (hlk : meth.locks = false) (hR : 0 ≤ R.frames ∧ 0 ≤ R.locals) (hr15 : ∀ (σ : hp) (t0 : Nat) (v1 : Int32) (v2 : Int32) (H : Heap) (locs : List Loc) (ls : Array Slot), hw D dA base σ H → hs base s.heap H locs → lk ls 4 [(0, .inr (some t0)), (1, .inl v1), (2, .inl v2)] → rec15 σ t0 v1 v2 = some z → W p l e R s m args below meth c H locs 0 0 (MQ below (qG D dA base none z) args s 0 0 (fun q => base ≤ q)) (F0 m 15 ls [])) {σ : hp} {t0 : Nat} {v1 : Int32} {v2 : Int32} {H : Heap} {locs : List Loc} {ls : Array Slot} (hh : hw D dA base σ H) (hS : hs base s.heap H locs) (hl : lk ls 4 [(0, .inr (some t0)), (1, .inl v1), (2, .inl v2)]) (h : S_X9_takeFirst_15_b rec15 σ t0 v1 v2 = some z) : W p l e R s m args below meth c H locs 0 0 (MQ below (qG D dA base none z) args s 0 0 (fun q => base ≤ q)) (F0 m 15 ls []) := by
  unfold S_X9_takeFirst_15_b at h
  refine q_iload_n X dX9_takeFirst_15 rfl hl 2 rfl ?_
  refine lv_bipush (v := (38 : Int32)) X.1 X.2.1 dX9_takeFirst_16 (by decide) ?_
  refine lv_icmp_ge (tgt := 45) X.1 X.2.1 dX9_takeFirst_18 (by decide) (fun c18 => ?_) (fun c18 => ?_)
  · rw [if_pos c18] at h
    refine q_aload_n X dX9_takeFirst_45 rfl hl 0 rfl ?_
    obtain ⟨t46, e_t46, h⟩ := o_b h
    refine q_gR X hh fa_X9_44 rfl e_t46 dX9_takeFirst_46 ?_
    refine q_iload_n X dX9_takeFirst_49 rfl hl 1 rfl ?_
    refine lv_dup2_11 X.1 X.2.1 dX9_takeFirst_50 (vv_cat (.inl v1)) (vv_cat (.inr t46)) ?_
    obtain ⟨t51, e_t51, h⟩ := o_b h
    refine q_ldI X hh e_t51 dX9_takeFirst_51 ?_
    refine lv_iconst (v := (1 : Int32)) X.1 X.2.1 dX9_takeFirst_52 (by decide) ?_
    refine lv_isub X.1 X.2.1 dX9_takeFirst_53 ?_
    obtain ⟨s54, e_s54, h⟩ := o_b h
    refine q_stI X hh hS e_s54 dX9_takeFirst_54 (fun H locs hh hS => ?_)
    refine lv_iconst (v := (0 : Int32)) X.1 X.2.1 dX9_takeFirst_55 (by decide) ?_
    refine q_istore_n (lv' := [(2, .inl (0 : Int32)), (0, .inr (some t0)), (1, .inl v1)]) X dX9_takeFirst_56 rfl hl (by decide) rfl (fun ls hl => ?_)
    exact K_X9_takeFirst_57 X hret hlk hR FU _ _ _ _ _ _ _ hh hS (lk_sub hl [1, 2, 0] rfl) h
  · rw [if_neg c18] at h
    refine q_aload_n X dX9_takeFirst_21 rfl hl 0 rfl ?_
    obtain ⟨t22, e_t22, h⟩ := o_b h
    refine q_gR X hh fa_X9_53 rfl e_t22 dX9_takeFirst_22 ?_
    refine q_iload_n X dX9_takeFirst_25 rfl hl 2 rfl ?_
    refine q_aload_n X dX9_takeFirst_26 rfl hl 0 rfl ?_
    obtain ⟨t27, e_t27, h⟩ := o_b h
    refine q_gR X hh fa_X9_47 rfl e_t27 dX9_takeFirst_27 ?_
    refine lv_sipush (v := (456 : Int32)) X.1 X.2.1 dX9_takeFirst_30 (by decide) ?_
    refine q_iload_n X dX9_takeFirst_33 rfl hl 1 rfl ?_
    refine lv_imul X.1 X.2.1 dX9_takeFirst_34 ?_
    refine q_iload_n X dX9_takeFirst_35 rfl hl 2 rfl ?_
    refine lv_iadd X.1 X.2.1 dX9_takeFirst_36 ?_
    obtain ⟨t37, e_t37, h⟩ := o_b h
    refine q_ldI X hh e_t37 dX9_takeFirst_37 ?_
    obtain ⟨s38, e_s38, h⟩ := o_b h
    refine q_stI X hh hS e_s38 dX9_takeFirst_38 (fun H locs hh hS => ?_)
    refine q_iinc (v := (1 : Int32)) (lv' := [(2, .inl (v2 + (1 : Int32))), (0, .inr (some t0)), (1, .inl v1)]) X dX9_takeFirst_39 hl 2 rfl (by decide) (by decide) rfl (fun ls hl => ?_)
    refine lv_goto (tgt := 15) X.1 X.2.1 dX9_takeFirst_42 (by decide) ?_
    exact hr15 _ _ _ _ _ _ _ hh hS (lk_sub hl [1, 2, 0] rfl) h
theorem K_X9_takeFirst_15 {p : Program} {l : Launch} {e : Env} {R : Room} {s : State} {m : MethodId} {args : Array Value} {below : List Frame} {meth : Method} {c : Code} {D : va_G} {dA : Nat → ClassId} {base : Nat} {z : hp} (X : cx p s m args c cX9_takeFirst RX9 4 D dA) (hret : meth.sig.returnType = none) (hlk : meth.locks = false) (hR : 0 ≤ R.frames ∧ 0 ≤ R.locals) : ∀ (n : Nat) (σ : hp) (t0 : Nat) (v1 : Int32) (v2 : Int32) (H : Heap) (locs : List Loc) (ls : Array Slot), hw D dA base σ H → hs base s.heap H locs → lk ls 4 [(0, .inr (some t0)), (1, .inl v1), (2, .inl v2)] → S_X9_takeFirst_15 n σ t0 v1 v2 = some z → W p l e R s m args below meth c H locs 0 0 (MQ below (qG D dA base none z) args s 0 0 (fun q => base ≤ q)) (F0 m 15 ls []) := by
  intro n
  induction n with
  | zero => intro σ t0 v1 v2 H locs ls hh hS hl h; cases h
  | succ n ih => intro σ t0 v1 v2 H locs ls hh hS hl h; exact K_X9_takeFirst_15_b X hret hlk hR ih hh hS hl h
theorem ke_X9_takeFirst_0 {z : hp} {σ : hp} {t0 : Nat} {v1 : Int32} (h : S_X9_takeFirst σ t0 v1 = some z) : eq4 σ z := by
  unfold S_X9_takeFirst at h
  obtain ⟨t2, e_t2, h⟩ := o_b h
  obtain ⟨t9, e_t9, h⟩ := o_b h
  obtain ⟨s10, e_s10, h⟩ := o_b h
  exact ((e_pI e_s10)).tr (ke_X9_takeFirst_15 FU _ _ _ _ h)
set_option maxHeartbeats 4000000 in
set_option maxRecDepth 100000 in
theorem K_X9_takeFirst_0 {p : Program} {l : Launch} {e : Env} {R : Room} {s : State} {m : MethodId} {args : Array Value} {below : List Frame} {meth : Method} {c : Code} {D : va_G} {dA : Nat → ClassId} {base : Nat} {z : hp} (X : cx p s m args c cX9_takeFirst RX9 4 D dA) (hret : meth.sig.returnType = none) (hlk : meth.locks = false) (hR : 0 ≤ R.frames ∧ 0 ≤ R.locals) {σ : hp} {t0 : Nat} {v1 : Int32} {H : Heap} {locs : List Loc} {ls : Array Slot} (hh : hw D dA base σ H) (hS : hs base s.heap H locs) (hl : lk ls 4 [(0, .inr (some t0)), (1, .inl v1)]) (h : S_X9_takeFirst σ t0 v1 = some z) : W p l e R s m args below meth c H locs 0 0 (MQ below (qG D dA base none z) args s 0 0 (fun q => base ≤ q)) (F0 m 0 ls []) := by
  unfold S_X9_takeFirst at h
  refine q_aload_n X dX9_takeFirst_0 rfl hl 0 rfl ?_
  refine q_aload_n X dX9_takeFirst_1 rfl hl 0 rfl ?_
  obtain ⟨t2, e_t2, h⟩ := o_b h
  refine q_gR X hh fa_X9_50 rfl e_t2 dX9_takeFirst_2 ?_
  refine lv_bipush (v := (12 : Int32)) X.1 X.2.1 dX9_takeFirst_5 (by decide) ?_
  refine q_iload_n X dX9_takeFirst_7 rfl hl 1 rfl ?_
  refine lv_imul X.1 X.2.1 dX9_takeFirst_8 ?_
  obtain ⟨t9, e_t9, h⟩ := o_b h
  refine q_ldI X hh e_t9 dX9_takeFirst_9 ?_
  obtain ⟨s10, e_s10, h⟩ := o_b h
  refine q_pI X hh hS fp_X9_134 (fun h => by cases h) rfl e_s10 dX9_takeFirst_10 (fun H locs hh hS => ?_)
  refine lv_iconst (v := (0 : Int32)) X.1 X.2.1 dX9_takeFirst_13 (by decide) ?_
  refine q_istore_n (lv' := [(2, .inl (0 : Int32)), (0, .inr (some t0)), (1, .inl v1)]) X dX9_takeFirst_14 rfl hl (by decide) rfl (fun ls hl => ?_)
  exact K_X9_takeFirst_15 X hret hlk hR FU _ _ _ _ _ _ _ hh hS (lk_sub hl [1, 2, 0] rfl) h
set_option maxRecDepth 100000 in
theorem M_X9_takeFirst (l : Launch) (D : va_G) (dA : Nat → ClassId) (base : Nat) (σ : hp) (t0 : Nat) (v1 : Int32) {z : hp} (h : S_X9_takeFirst σ t0 v1 = some z) : mt l yX9_takeFirst cX9_takeFirst 4 (none) 0 0 D dA base σ [.ref t0, .int v1] none z 0 0 := by
  refine Met.ofW (cc := cX9_takeFirst) (maxL := 4) (ret := none) (by decide) rfl ?_
  intro p e s m args below meth c s₁ B hml hv
  obtain ⟨rfl, hh, hK⟩ := hv
  have X : cx p s m ([.ref t0, .int v1] : List Value).toArray c cX9_takeFirst RX9 4 D dA := ⟨B.exec, B.bytes, findClass_of_methodNamed B.named, hml, fun w hw => atoms_spec (ws := .code yX9_takeFirst cX9_takeFirst 4 (none) :: G) B.pre w (List.mem_cons_of_mem _ hw), hK⟩
  have hl := lk_entry [.inr (some t0), .inl v1] (n := 4) (Nat.le_of_ble_eq_true rfl)
  rw [lg_entry_eq]
  have hl : lk ((lg_sl ([.ref t0, .int v1] : List Value) ++ List.replicate (4 - (lg_sl ([.ref t0, .int v1] : List Value)).length) Slot.unset).toArray) 4 [(0, .inr (some t0)), (1, .inl v1)] := hl
  generalize (lg_sl ([.ref t0, .int v1] : List Value) ++ List.replicate (4 - (lg_sl ([.ref t0, .int v1] : List Value)).length) Slot.unset).toArray = ls at hl ⊢
  exact K_X9_takeFirst_0 X B.returns B.notSynchronized ⟨Nat.le_refl _, Nat.le_refl _⟩ hh va_S.rf hl h
theorem ke_X9_call_16 {z : Int32 × hp} {σ : hp} (h : S_X9_call_16 σ = some z) : eq4 σ z.2 := by
  unfold S_X9_call_16 at h
  cases h
  show eq4 σ σ
  exact eq4.rf _
set_option maxHeartbeats 4000000 in
set_option maxRecDepth 100000 in
theorem K_X9_call_16 {p : Program} {l : Launch} {e : Env} {R : Room} {s : State} {m : MethodId} {args : Array Value} {below : List Frame} {meth : Method} {c : Code} {D : va_G} {dA : Nat → ClassId} {base : Nat} {z : Int32 × hp} (X : cx p s m args c cX9_call RX9 2 D dA) (hret : meth.sig.returnType = some .boolean) (hlk : meth.locks = false) (hR : 4 ≤ R.frames ∧ 91 ≤ R.locals) {σ : hp} {H : Heap} {locs : List Loc} {ls : Array Slot} (hh : hw D dA base σ H) (hS : hs base s.heap H locs) (hl : lk ls 2 []) (h : S_X9_call_16 σ = some z) : W p l e R s m args below meth c H locs 0 0 (MQ below (qG D dA base (some (.int z.1)) z.2) args s 0 0 (fun q => base ≤ q)) (F0 m 16 ls []) := by
  unfold S_X9_call_16 at h
  refine lv_iconst (v := (0 : Int32)) X.1 X.2.1 dX9_call_16 (by decide) ?_
  cases h
  exact q_zret X hret hlk hh hS (by rfl) dX9_call_17
theorem ke_X9_call_0 {z : Int32 × hp} {σ : hp} {t0 : Nat} {v1 : Int32} (h : S_X9_call σ t0 v1 = some z) : eq4 σ z.2 := by
  unfold S_X9_call at h
  obtain ⟨q1, e_q1, h⟩ := o_b h
  by_cases c4 : q1 = (0 : Int32)
  · rw [if_pos c4] at h
    exact (ke_X9_call_16 h)
  · rw [if_neg c4] at h
    obtain ⟨t8, e_t8, h⟩ := o_b h
    obtain ⟨t12, e_t12, h⟩ := o_b h
    by_cases c13 : t12 = (0 : Int32)
    · rw [if_pos c13] at h
      obtain ⟨t19, e_t19, h⟩ := o_b h
      obtain ⟨s24, e_s24, h⟩ := o_b h
      obtain ⟨t26, e_t26, h⟩ := o_b h
      obtain ⟨s31, e_s31, h⟩ := o_b h
      obtain ⟨b35, e_b35, h⟩ := o_b h
      obtain ⟨q35, e_q35, h⟩ := o_b h
      obtain ⟨t43, e_t43, h⟩ := o_b h
      obtain ⟨t47, e_t47, h⟩ := o_b h
      obtain ⟨b51, e_b51, h⟩ := o_b h
      obtain ⟨q51, e_q51, h⟩ := o_b h
      obtain ⟨t55, e_t55, h⟩ := o_b h
      obtain ⟨t60, e_t60, h⟩ := o_b h
      obtain ⟨s63, e_s63, h⟩ := o_b h
      cases h
      show eq4 σ s63
      exact (((((e_stI e_s24)).tr (e_stI e_s31)).tr (ke_X9_forget_0 e_q35)).tr (ke_X9_control_0 e_q51)).tr (e_stI e_s63)
    · rw [if_neg c13] at h
      exact (ke_X9_call_16 h)
set_option maxHeartbeats 4000000 in
set_option maxRecDepth 100000 in
theorem K_X9_call_0 {p : Program} {l : Launch} {e : Env} {R : Room} {s : State} {m : MethodId} {args : Array Value} {below : List Frame} {meth : Method} {c : Code} {D : va_G} {dA : Nat → ClassId} {base : Nat} {z : Int32 × hp} (X : cx p s m args c cX9_call RX9 2 D dA) (hret : meth.sig.returnType = some .boolean) (hlk : meth.locks = false) (hR : 4 ≤ R.frames ∧ 91 ≤ R.locals) {σ : hp} {t0 : Nat} {v1 : Int32} {H : Heap} {locs : List Loc} {ls : Array Slot} (hh : hw D dA base σ H) (hS : hs base s.heap H locs) (hl : lk ls 2 [(0, .inr (some t0)), (1, .inl v1)]) (h : S_X9_call σ t0 v1 = some z) : W p l e R s m args below meth c H locs 0 0 (MQ below (qG D dA base (some (.int z.1)) z.2) args s 0 0 (fun q => base ≤ q)) (F0 m 0 ls []) := by
  unfold S_X9_call at h
  refine q_iload_n X dX9_call_0 rfl hl 1 rfl ?_
  obtain ⟨q1, e_q1, h⟩ := o_b h
  refine q_cS (As := [.int v1]) X hh hS hl cf_X9_121 rfl (M_X9_isSite l D dA base σ v1 e_q1) ⟨Nat.le_trans (by decide) hR.1, Nat.le_trans (by decide) hR.2⟩ (cat8 [] (Nat.le_of_ble_eq_true rfl)) dX9_call_1 ⟨Nat.zero_le _, Nat.zero_le _⟩ rfl rfl (fun H locs hh hS => ?_)
  refine lv_if_eq (tgt := 16) X.1 X.2.1 dX9_call_4 (by decide) (fun c4 => ?_) (fun c4 => ?_)
  · rw [if_pos c4] at h
    exact K_X9_call_16 X hret hlk hR hh hS (lk_sub hl [] rfl) h
  · rw [if_neg c4] at h
    refine q_aload_n X dX9_call_7 rfl hl 0 rfl ?_
    obtain ⟨t8, e_t8, h⟩ := o_b h
    refine q_gR X hh fa_X9_56 rfl e_t8 dX9_call_8 ?_
    refine q_iload_n X dX9_call_11 rfl hl 1 rfl ?_
    obtain ⟨t12, e_t12, h⟩ := o_b h
    refine q_ldI X hh e_t12 dX9_call_12 ?_
    refine lv_if_eq (tgt := 18) X.1 X.2.1 dX9_call_13 (by decide) (fun c13 => ?_) (fun c13 => ?_)
    · rw [if_pos c13] at h
      refine q_aload_n X dX9_call_18 rfl hl 0 rfl ?_
      obtain ⟨t19, e_t19, h⟩ := o_b h
      refine q_gR X hh fa_X9_44 rfl e_t19 dX9_call_19 ?_
      refine lv_iconst (v := (0 : Int32)) X.1 X.2.1 dX9_call_22 (by decide) ?_
      refine lv_iconst (v := (0 : Int32)) X.1 X.2.1 dX9_call_23 (by decide) ?_
      obtain ⟨s24, e_s24, h⟩ := o_b h
      refine q_stI X hh hS e_s24 dX9_call_24 (fun H locs hh hS => ?_)
      refine q_aload_n X dX9_call_25 rfl hl 0 rfl ?_
      obtain ⟨t26, e_t26, h⟩ := o_b h
      refine q_gR X hh fa_X9_44 rfl e_t26 dX9_call_26 ?_
      refine lv_iconst (v := (1 : Int32)) X.1 X.2.1 dX9_call_29 (by decide) ?_
      refine lv_iconst (v := (0 : Int32)) X.1 X.2.1 dX9_call_30 (by decide) ?_
      obtain ⟨s31, e_s31, h⟩ := o_b h
      refine q_stI X hh hS e_s31 dX9_call_31 (fun H locs hh hS => ?_)
      refine q_aload_n X dX9_call_32 rfl hl 0 rfl ?_
      refine q_iload_n X dX9_call_33 rfl hl 1 rfl ?_
      refine lv_iconst (v := (1 : Int32)) X.1 X.2.1 dX9_call_34 (by decide) ?_
      obtain ⟨b35, e_b35, h⟩ := o_b h
      obtain ⟨q35, e_q35, h⟩ := o_b h
      refine q_cV (As := [.int v1, .int (1 : Int32)]) X hh hS hl cf_X9_176 (cN := 9) rfl rfl e_b35 rfl (M_X9_forget l D dA base s31 b35 v1 (1 : Int32) e_q35) ⟨Nat.le_trans (by decide) hR.1, Nat.le_trans (by decide) hR.2⟩ (cat8 [] (Nat.le_of_ble_eq_true rfl)) dX9_call_35 ⟨Nat.zero_le _, Nat.zero_le _⟩ rfl rfl (fun H locs hh hS => ?_)
      refine q_aload_n X dX9_call_38 rfl hl 0 rfl ?_
      refine q_iload_n X dX9_call_39 rfl hl 1 rfl ?_
      refine lv_bipush (v := (7 : Int32)) X.1 X.2.1 dX9_call_40 (by decide) ?_
      refine q_aload_n X dX9_call_42 rfl hl 0 rfl ?_
      obtain ⟨t43, e_t43, h⟩ := o_b h
      refine q_gR X hh fa_X9_38 rfl e_t43 dX9_call_43 ?_
      refine q_iload_n X dX9_call_46 rfl hl 1 rfl ?_
      obtain ⟨t47, e_t47, h⟩ := o_b h
      refine q_ldI X hh e_t47 dX9_call_47 ?_
      refine lv_bipush (v := (8 : Int32)) X.1 X.2.1 dX9_call_48 (by decide) ?_
      refine lv_irem X.1 X.2.1 dX9_call_50 (by decide) ?_
      obtain ⟨b51, e_b51, h⟩ := o_b h
      obtain ⟨q51, e_q51, h⟩ := o_b h
      refine q_cV (As := [.int v1, .int (7 : Int32), .int (t47 - t47 / (8 : Int32) * (8 : Int32))]) X hh hS hl cf_X9_172 (cN := 9) rfl rfl e_b51 rfl (M_X9_control l D dA base q35 b51 v1 (7 : Int32) (t47 - t47 / (8 : Int32) * (8 : Int32)) e_q51) ⟨Nat.le_trans (by decide) hR.1, Nat.le_trans (by decide) hR.2⟩ (cat8 [] (Nat.le_of_ble_eq_true rfl)) dX9_call_51 ⟨Nat.zero_le _, Nat.zero_le _⟩ rfl rfl (fun H locs hh hS => ?_)
      refine q_aload_n X dX9_call_54 rfl hl 0 rfl ?_
      obtain ⟨t55, e_t55, h⟩ := o_b h
      refine q_gR X hh fa_X9_38 rfl e_t55 dX9_call_55 ?_
      refine q_iload_n X dX9_call_58 rfl hl 1 rfl ?_
      refine lv_dup2_11 X.1 X.2.1 dX9_call_59 (vv_cat (.inl v1)) (vv_cat (.inr t55)) ?_
      obtain ⟨t60, e_t60, h⟩ := o_b h
      refine q_ldI X hh e_t60 dX9_call_60 ?_
      refine lv_iconst (v := (1 : Int32)) X.1 X.2.1 dX9_call_61 (by decide) ?_
      refine lv_iadd X.1 X.2.1 dX9_call_62 ?_
      obtain ⟨s63, e_s63, h⟩ := o_b h
      refine q_stI X hh hS e_s63 dX9_call_63 (fun H locs hh hS => ?_)
      refine lv_iconst (v := (1 : Int32)) X.1 X.2.1 dX9_call_64 (by decide) ?_
      cases h
      exact q_zret X hret hlk hh hS (by rfl) dX9_call_65
    · rw [if_neg c13] at h
      exact K_X9_call_16 X hret hlk hR hh hS (lk_sub hl [] rfl) h
set_option maxRecDepth 100000 in
theorem M_X9_call (l : Launch) (D : va_G) (dA : Nat → ClassId) (base : Nat) (σ : hp) (t0 : Nat) (v1 : Int32) {z : Int32 × hp} (h : S_X9_call σ t0 v1 = some z) : mt l yX9_call cX9_call 2 (some .boolean) 4 91 D dA base σ [.ref t0, .int v1] (some (.int z.1)) z.2 0 0 := by
  refine Met.ofW (cc := cX9_call) (maxL := 2) (ret := some .boolean) (by decide) rfl ?_
  intro p e s m args below meth c s₁ B hml hv
  obtain ⟨rfl, hh, hK⟩ := hv
  have X : cx p s m ([.ref t0, .int v1] : List Value).toArray c cX9_call RX9 2 D dA := ⟨B.exec, B.bytes, findClass_of_methodNamed B.named, hml, fun w hw => atoms_spec (ws := .code yX9_call cX9_call 2 (some .boolean) :: G) B.pre w (List.mem_cons_of_mem _ hw), hK⟩
  have hl := lk_entry [.inr (some t0), .inl v1] (n := 2) (Nat.le_of_ble_eq_true rfl)
  rw [lg_entry_eq]
  have hl : lk ((lg_sl ([.ref t0, .int v1] : List Value) ++ List.replicate (2 - (lg_sl ([.ref t0, .int v1] : List Value)).length) Slot.unset).toArray) 2 [(0, .inr (some t0)), (1, .inl v1)] := hl
  generalize (lg_sl ([.ref t0, .int v1] : List Value) ++ List.replicate (2 - (lg_sl ([.ref t0, .int v1] : List Value)).length) Slot.unset).toArray = ls at hl ⊢
  exact K_X9_call_0 X B.returns B.notSynchronized ⟨Nat.le_refl _, Nat.le_refl _⟩ hh va_S.rf hl h
