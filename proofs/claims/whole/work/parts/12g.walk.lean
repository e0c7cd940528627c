/-! Walks: written by wip/whole/gen/emit.py. X9_leave X9_isExecuted X9_left X9_sum X9_head X9_lay X9_control X9_data X9_isGood -/
theorem ke_X9_leave_12_b {rec12 : hp → Nat → Int32 → Int32 → Option (hp)} {z : hp} (hm12 : ∀ (σ : hp) (t0 : Nat) (v1 : Int32) (v2 : Int32), rec12 σ t0 v1 v2 = some z → eq4 σ z) {σ : hp} {t0 : Nat} {v1 : Int32} {v2 : Int32} (h : S_X9_leave_12_b rec12 σ t0 v1 v2 = some z) : eq4 σ z := by
  unfold S_X9_leave_12_b at h
  obtain ⟨t14, e_t14, h⟩ := o_b h
  obtain ⟨t18, e_t18, h⟩ := o_b h
  by_cases c19 : t18 ≤ v2
  · rw [if_pos c19] at h
    cases h
    exact eq4.rf _
  · rw [if_neg c19] at h
    obtain ⟨t23, e_t23, h⟩ := o_b h
    obtain ⟨t33, e_t33, h⟩ := o_b h
    obtain ⟨t44, e_t44, h⟩ := o_b h
    obtain ⟨s45, e_s45, h⟩ := o_b h
    exact ((e_stI e_s45)).tr (hm12 _ _ _ _ h)
theorem ke_X9_leave_12 {z : hp} : ∀ (n : Nat) (σ : hp) (t0 : Nat) (v1 : Int32) (v2 : Int32), S_X9_leave_12 n σ t0 v1 v2 = some z → eq4 σ z := by
  intro n
  induction n with
  | zero => intro σ t0 v1 v2 h; cases h
  | succ n ih => intro σ t0 v1 v2 h; exact ke_X9_leave_12_b ih h
set_option maxHeartbeats 4000000 in
set_option maxRecDepth 100000 in
theorem K_X9_leave_12_b {p : Program} {l : Launch} {e : Env} {R : Room} {s : State} {m : MethodId} {args : Array Value} {below : List Frame} {meth : Method} {c : Code} {D : va_G} {dA : Nat → ClassId} {base : Nat} {rec12 : hp → Nat → Int32 → Int32 → Option (hp)} {z : hp} (X : cx p s m args c cX9_leave RX9 3 D dA) (hret : meth.sig.returnType = none) (hlk : meth.locks = false) (hR : 0 ≤ R.frames ∧ 0 ≤ R.locals) (hr12 : ∀ (σ : hp) (t0 : Nat) (v1 : Int32) (v2 : Int32) (H : Heap) (locs : List Loc) (ls : Array Slot), hw D dA base σ H → hs base s.heap H locs → lk ls 3 [(0, .inr (some t0)), (1, .inl v1), (2, .inl v2)] → rec12 σ t0 v1 v2 = some z → W p l e R s m args below meth c H locs 0 0 (MQ below (qG D dA base none z) args s 0 0 (fun q => base ≤ q)) (F0 m 12 ls [])) {σ : hp} {t0 : Nat} {v1 : Int32} {v2 : Int32} {H : Heap} {locs : List Loc} {ls : Array Slot} (hh : hw D dA base σ H) (hS : hs base s.heap H locs) (hl : lk ls 3 [(0, .inr (some t0)), (1, .inl v1), (2, .inl v2)]) (h : S_X9_leave_12_b rec12 σ t0 v1 v2 = some z) : W p l e R s m args below meth c H locs 0 0 (MQ below (qG D dA base none z) args s 0 0 (fun q => base ≤ q)) (F0 m 12 ls []) := by
  unfold S_X9_leave_12_b at h
  refine q_iload_n X dX9_leave_12 rfl hl 2 rfl ?_
  refine q_aload_n X dX9_leave_13 rfl hl 0 rfl ?_
  obtain ⟨t14, e_t14, h⟩ := o_b h
  refine q_gR X hh fa_X9_19 rfl e_t14 dX9_leave_14 ?_
  refine q_iload_n X dX9_leave_17 rfl hl 1 rfl ?_
  obtain ⟨t18, e_t18, h⟩ := o_b h
  refine q_ldI X hh e_t18 dX9_leave_18 ?_
  refine lv_icmp_ge (tgt := 52) X.1 X.2.1 dX9_leave_19 (by decide) (fun c19 => ?_) (fun c19 => ?_)
  · rw [if_pos c19] at h
    cases h
    exact q_vret X hret hlk hh hS dX9_leave_52
  · rw [if_neg c19] at h
    refine q_aload_n X dX9_leave_22 rfl hl 0 rfl ?_
    obtain ⟨t23, e_t23, h⟩ := o_b h
    refine q_gR X hh fa_X9_22 rfl e_t23 dX9_leave_23 ?_
    refine lv_bipush (v := (30 : Int32)) X.1 X.2.1 dX9_leave_26 (by decide) ?_
    refine q_iload_n X dX9_leave_28 rfl hl 1 rfl ?_
    refine lv_imul X.1 X.2.1 dX9_leave_29 ?_
    refine q_iload_n X dX9_leave_30 rfl hl 2 rfl ?_
    refine lv_iadd X.1 X.2.1 dX9_leave_31 ?_
    refine q_aload_n X dX9_leave_32 rfl hl 0 rfl ?_
    obtain ⟨t33, e_t33, h⟩ := o_b h
    refine q_gR X hh fa_X9_22 rfl e_t33 dX9_leave_33 ?_
    refine lv_bipush (v := (30 : Int32)) X.1 X.2.1 dX9_leave_36 (by decide) ?_
    refine q_iload_n X dX9_leave_38 rfl hl 1 rfl ?_
    refine lv_imul X.1 X.2.1 dX9_leave_39 ?_
    refine q_iload_n X dX9_leave_40 rfl hl 2 rfl ?_
    refine lv_iadd X.1 X.2.1 dX9_leave_41 ?_
    refine lv_iconst (v := (1 : Int32)) X.1 X.2.1 dX9_leave_42 (by decide) ?_
    refine lv_iadd X.1 X.2.1 dX9_leave_43 ?_
    obtain ⟨t44, e_t44, h⟩ := o_b h
    refine q_ldI X hh e_t44 dX9_leave_44 ?_
    obtain ⟨s45, e_s45, h⟩ := o_b h
    refine q_stI X hh hS e_s45 dX9_leave_45 (fun H locs hh hS => ?_)
    refine q_iinc (v := (1 : Int32)) (lv' := [(2, .inl (v2 + (1 : Int32))), (0, .inr (some t0)), (1, .inl v1)]) X dX9_leave_46 hl 2 rfl (by decide) (by decide) rfl (fun ls hl => ?_)
    refine lv_goto (tgt := 12) X.1 X.2.1 dX9_leave_49 (by decide) ?_
    exact hr12 _ _ _ _ _ _ _ hh hS (lk_sub hl [1, 2, 0] rfl) h
theorem K_X9_leave_12 {p : Program} {l : Launch} {e : Env} {R : Room} {s : State} {m : MethodId} {args : Array Value} {below : List Frame} {meth : Method} {c : Code} {D : va_G} {dA : Nat → ClassId} {base : Nat} {z : hp} (X : cx p s m args c cX9_leave RX9 3 D dA) (hret : meth.sig.returnType = none) (hlk : meth.locks = false) (hR : 0 ≤ R.frames ∧ 0 ≤ R.locals) : ∀ (n : Nat) (σ : hp) (t0 : Nat) (v1 : Int32) (v2 : Int32) (H : Heap) (locs : List Loc) (ls : Array Slot), hw D dA base σ H → hs base s.heap H locs → lk ls 3 [(0, .inr (some t0)), (1, .inl v1), (2, .inl v2)] → S_X9_leave_12 n σ t0 v1 v2 = some z → W p l e R s m args below meth c H locs 0 0 (MQ below (qG D dA base none z) args s 0 0 (fun q => base ≤ q)) (F0 m 12 ls []) := by
  intro n
  induction n with
  | zero => intro σ t0 v1 v2 H locs ls hh hS hl h; cases h
  | succ n ih => intro σ t0 v1 v2 H locs ls hh hS hl h; exact K_X9_leave_12_b X hret hlk hR ih hh hS hl h
theorem ke_X9_leave_0 {z : hp} {σ : hp} {t0 : Nat} {v1 : Int32} (h : S_X9_leave σ t0 v1 = some z) : eq4 σ z := by
  unfold S_X9_leave at h
  obtain ⟨t1, e_t1, h⟩ := o_b h
  obtain ⟨t6, e_t6, h⟩ := o_b h
  obtain ⟨s9, e_s9, h⟩ := o_b h
  exact ((e_stI e_s9)).tr (ke_X9_leave_12 FU _ _ _ _ h)
set_option maxHeartbeats 4000000 in
set_option maxRecDepth 100000 in
theorem K_X9_leave_0 {p : Program} {l : Launch} {e : Env} {R : Room} {s : State} {m : MethodId} {args : Array Value} {below : List Frame} {meth : Method} {c : Code} {D : va_G} {dA : Nat → ClassId} {base : Nat} {z : hp} (X : cx p s m args c cX9_leave RX9 3 D dA) (hret : meth.sig.returnType = none) (hlk : meth.locks = false) (hR : 0 ≤ R.frames ∧ 0 ≤ R.locals) {σ : hp} {t0 : Nat} {v1 : Int32} {H : Heap} {locs : List Loc} {ls : Array Slot} (hh : hw D dA base σ H) (hS : hs base s.heap H locs) (hl : lk ls 3 [(0, .inr (some t0)), (1, .inl v1)]) (h : S_X9_leave σ t0 v1 = some z) : W p l e R s m args below meth c H locs 0 0 (MQ below (qG D dA base none z) args s 0 0 (fun q => base ≤ q)) (F0 m 0 ls []) := by
  unfold S_X9_leave at h
  refine q_aload_n X dX9_leave_0 rfl hl 0 rfl ?_
  obtain ⟨t1, e_t1, h⟩ := o_b h
  refine q_gR X hh fa_X9_19 rfl e_t1 dX9_leave_1 ?_
  refine q_iload_n X dX9_leave_4 rfl hl 1 rfl ?_
  refine lv_dup2_11 X.1 X.2.1 dX9_leave_5 (vv_cat (.inl v1)) (vv_cat (.inr t1)) ?_
  obtain ⟨t6, e_t6, h⟩ := o_b h
  refine q_ldI X hh e_t6 dX9_leave_6 ?_
  refine lv_iconst (v := (1 : Int32)) X.1 X.2.1 dX9_leave_7 (by decide) ?_
  refine lv_isub X.1 X.2.1 dX9_leave_8 ?_
  obtain ⟨s9, e_s9, h⟩ := o_b h
  refine q_stI X hh hS e_s9 dX9_leave_9 (fun H locs hh hS => ?_)
  refine lv_iconst (v := (0 : Int32)) X.1 X.2.1 dX9_leave_10 (by decide) ?_
  refine q_istore_n (lv' := [(2, .inl (0 : Int32)), (0, .inr (some t0)), (1, .inl v1)]) X dX9_leave_11 rfl hl (by decide) rfl (fun ls hl => ?_)
  exact K_X9_leave_12 X hret hlk hR FU _ _ _ _ _ _ _ hh hS (lk_sub hl [1, 2, 0] rfl) h
set_option maxRecDepth 100000 in
theorem M_X9_leave (l : Launch) (D : va_G) (dA : Nat → ClassId) (base : Nat) (σ : hp) (t0 : Nat) (v1 : Int32) {z : hp} (h : S_X9_leave σ t0 v1 = some z) : mt l yX9_leave cX9_leave 3 (none) 0 0 D dA base σ [.ref t0, .int v1] none z 0 0 := by
  refine Met.ofW (cc := cX9_leave) (maxL := 3) (ret := none) (by decide) rfl ?_
  intro p e s m args below meth c s₁ B hml hv
  obtain ⟨rfl, hh, hK⟩ := hv
  have X : cx p s m ([.ref t0, .int v1] : List Value).toArray c cX9_leave RX9 3 D dA := ⟨B.exec, B.bytes, findClass_of_methodNamed B.named, hml, fun w hw => atoms_spec (ws := .code yX9_leave cX9_leave 3 (none) :: G) B.pre w (List.mem_cons_of_mem _ hw), hK⟩
  have hl := lk_entry [.inr (some t0), .inl v1] (n := 3) (Nat.le_of_ble_eq_true rfl)
  rw [lg_entry_eq]
  have hl : lk ((lg_sl ([.ref t0, .int v1] : List Value) ++ List.replicate (3 - (lg_sl ([.ref t0, .int v1] : List Value)).length) Slot.unset).toArray) 3 [(0, .inr (some t0)), (1, .inl v1)] := hl
  generalize (lg_sl ([.ref t0, .int v1] : List Value) ++ List.replicate (3 - (lg_sl ([.ref t0, .int v1] : List Value)).length) Slot.unset).toArray = ls at hl ⊢
  exact K_X9_leave_0 X B.returns B.notSynchronized ⟨Nat.le_refl _, Nat.le_refl _⟩ hh va_S.rf hl h
set_option maxHeartbeats 4000000 in
set_option maxRecDepth 100000 in
theorem K_X9_isExecuted_42 {p : Program} {l : Launch} {e : Env} {R : Room} {s : State} {m : MethodId} {args : Array Value} {below : List Frame} {meth : Method} {c : Code} {D : va_G} {dA : Nat → ClassId} {base : Nat} {rec5 : hp → Nat → Int32 → Int32 → Int32 → Int32 → Option (Int32)} {z : Int32} (X : cx p s m args c cX9_isExecuted RX9 5 D dA) (hret : meth.sig.returnType = some .boolean) (hlk : meth.locks = false) (hR : 0 ≤ R.frames ∧ 0 ≤ R.locals) (hr5 : ∀ (σ : hp) (t0 : Nat) (v1 : Int32) (v2 : Int32) (v3 : Int32) (v4 : Int32) (H : Heap) (locs : List Loc) (ls : Array Slot), hw D dA base σ H → hs base s.heap H locs → lk ls 5 [(0, .inr (some t0)), (1, .inl v1), (2, .inl v2), (3, .inl v3), (4, .inl v4)] → rec5 σ t0 v1 v2 v3 v4 = some z → W p l e R s m args below meth c H locs 0 0 (MQ below (qG D dA base (some (.int z)) σ) args s 0 0 (fun q => base ≤ q)) (F0 m 5 ls [])) {σ : hp} {t0 : Nat} {v1 : Int32} {v2 : Int32} {v4 : Int32} {w0 : Int32} {H : Heap} {locs : List Loc} {ls : Array Slot} (hh : hw D dA base σ H) (hS : hs base s.heap H locs) (hl : lk ls 5 [(0, .inr (some t0)), (1, .inl v1), (2, .inl v2), (4, .inl v4)]) (h : S_X9_isExecuted_42 rec5 σ t0 v1 v2 v4 w0 = some z) : W p l e R s m args below meth c H locs 0 0 (MQ below (qG D dA base (some (.int z)) σ) args s 0 0 (fun q => base ≤ q)) (F0 m 42 ls [.int w0]) := by
  unfold S_X9_isExecuted_42 at h
  refine q_istore_n (lv' := [(3, .inl w0), (0, .inr (some t0)), (1, .inl v1), (2, .inl v2), (4, .inl v4)]) X dX9_isExecuted_42 rfl hl (by decide) rfl (fun ls hl => ?_)
  refine q_iinc (v := (1 : Int32)) (lv' := [(4, .inl (v4 + (1 : Int32))), (3, .inl w0), (0, .inr (some t0)), (1, .inl v1), (2, .inl v2)]) X dX9_isExecuted_43 hl 4 rfl (by decide) (by decide) rfl (fun ls hl => ?_)
  refine lv_goto (tgt := 5) X.1 X.2.1 dX9_isExecuted_46 (by decide) ?_
  exact hr5 _ _ _ _ _ _ _ _ _ hh hS (lk_sub hl [2, 3, 4, 1, 0] rfl) h
set_option maxHeartbeats 4000000 in
set_option maxRecDepth 100000 in
theorem K_X9_isExecuted_37 {p : Program} {l : Launch} {e : Env} {R : Room} {s : State} {m : MethodId} {args : Array Value} {below : List Frame} {meth : Method} {c : Code} {D : va_G} {dA : Nat → ClassId} {base : Nat} {rec5 : hp → Nat → Int32 → Int32 → Int32 → Int32 → Option (Int32)} {z : Int32} (X : cx p s m args c cX9_isExecuted RX9 5 D dA) (hret : meth.sig.returnType = some .boolean) (hlk : meth.locks = false) (hR : 0 ≤ R.frames ∧ 0 ≤ R.locals) (hr5 : ∀ (σ : hp) (t0 : Nat) (v1 : Int32) (v2 : Int32) (v3 : Int32) (v4 : Int32) (H : Heap) (locs : List Loc) (ls : Array Slot), hw D dA base σ H → hs base s.heap H locs → lk ls 5 [(0, .inr (some t0)), (1, .inl v1), (2, .inl v2), (3, .inl v3), (4, .inl v4)] → rec5 σ t0 v1 v2 v3 v4 = some z → W p l e R s m args below meth c H locs 0 0 (MQ below (qG D dA base (some (.int z)) σ) args s 0 0 (fun q => base ≤ q)) (F0 m 5 ls [])) {σ : hp} {t0 : Nat} {v1 : Int32} {v2 : Int32} {v4 : Int32} {H : Heap} {locs : List Loc} {ls : Array Slot} (hh : hw D dA base σ H) (hS : hs base s.heap H locs) (hl : lk ls 5 [(0, .inr (some t0)), (1, .inl v1), (2, .inl v2), (4, .inl v4)]) (h : S_X9_isExecuted_37 rec5 σ t0 v1 v2 v4 = some z) : W p l e R s m args below meth c H locs 0 0 (MQ below (qG D dA base (some (.int z)) σ) args s 0 0 (fun q => base ≤ q)) (F0 m 37 ls []) := by
  unfold S_X9_isExecuted_37 at h
  refine lv_iconst (v := (1 : Int32)) X.1 X.2.1 dX9_isExecuted_37 (by decide) ?_
  refine lv_goto (tgt := 42) X.1 X.2.1 dX9_isExecuted_38 (by decide) ?_
  exact K_X9_isExecuted_42 X hret hlk hR hr5 hh hS (lk_sub hl [0, 1, 2, 3] rfl) h
set_option maxHeartbeats 4000000 in
set_option maxRecDepth 100000 in
theorem K_X9_isExecuted_5_b {p : Program} {l : Launch} {e : Env} {R : Room} {s : State} {m : MethodId} {args : Array Value} {below : List Frame} {meth : Method} {c : Code} {D : va_G} {dA : Nat → ClassId} {base : Nat} {rec5 : hp → Nat → Int32 → Int32 → Int32 → Int32 → Option (Int32)} {z : Int32} (X : cx p s m args c cX9_isExecuted RX9 5 D dA) (hret : meth.sig.returnType = some .boolean) (hlk : meth.locks = false) (hR : 0 ≤ R.frames ∧ 0 ≤ R.locals) (hr5 : ∀ (σ : hp) (t0 : Nat) (v1 : Int32) (v2 : Int32) (v3 : Int32) (v4 : Int32) (H : Heap) (locs : List Loc) (ls : Array Slot), hw D dA base σ H → hs base s.heap H locs → lk ls 5 [(0, .inr (some t0)), (1, .inl v1), (2, .inl v2), (3, .inl v3), (4, .inl v4)] → rec5 σ t0 v1 v2 v3 v4 = some z → W p l e R s m args below meth c H locs 0 0 (MQ below (qG D dA base (some (.int z)) σ) args s 0 0 (fun q => base ≤ q)) (F0 m 5 ls [])) {σ : hp} {t0 : Nat} {v1 : Int32} {v2 : Int32} {v3 : Int32} {v4 : Int32} {H : Heap} {locs : List Loc} {ls : Array Slot} (hh : hw D dA base σ H) (hS : hs base s.heap H locs) (hl : lk ls 5 [(0, .inr (some t0)), (1, .inl v1), (2, .inl v2), (3, .inl v3), (4, .inl v4)]) (h : S_X9_isExecuted_5_b rec5 σ t0 v1 v2 v3 v4 = some z) : W p l e R s m args below meth c H locs 0 0 (MQ below (qG D dA base (some (.int z)) σ) args s 0 0 (fun q => base ≤ q)) (F0 m 5 ls []) := by
  unfold S_X9_isExecuted_5_b at h
  refine q_iload X dX9_isExecuted_5 hl 4 rfl ?_
  refine q_aload_n X dX9_isExecuted_7 rfl hl 0 rfl ?_
  obtain ⟨t8, e_t8, h⟩ := o_b h
  refine q_gR X hh fa_X9_25 rfl e_t8 dX9_isExecuted_8 ?_
  refine q_iload_n X dX9_isExecuted_11 rfl hl 1 rfl ?_
  obtain ⟨t12, e_t12, h⟩ := o_b h
  refine q_ldI X hh e_t12 dX9_isExecuted_12 ?_
  refine lv_icmp_ge (tgt := 49) X.1 X.2.1 dX9_isExecuted_13 (by decide) (fun c13 => ?_) (fun c13 => ?_)
  · rw [if_pos c13] at h
    refine q_iload_n X dX9_isExecuted_49 rfl hl 3 rfl ?_
    obtain ⟨z50, e_z50, h⟩ := o_b h
    cases h
    exact q_zret X hret hlk hh hS e_z50 dX9_isExecuted_50
  · rw [if_neg c13] at h
    refine q_iload_n X dX9_isExecuted_16 rfl hl 3 rfl ?_
    refine lv_if_ne (tgt := 37) X.1 X.2.1 dX9_isExecuted_17 (by decide) (fun c17 => ?_) (fun c17 => ?_)
    · rw [if_neg c17] at h
      exact K_X9_isExecuted_37 X hret hlk hR hr5 hh hS (lk_sub hl [0, 1, 2, 4] rfl) h
    · rw [if_pos c17] at h
      refine q_aload_n X dX9_isExecuted_20 rfl hl 0 rfl ?_
      obtain ⟨t21, e_t21, h⟩ := o_b h
      refine q_gR X hh fa_X9_28 rfl e_t21 dX9_isExecuted_21 ?_
      refine lv_sipush (v := (256 : Int32)) X.1 X.2.1 dX9_isExecuted_24 (by decide) ?_
      refine q_iload_n X dX9_isExecuted_27 rfl hl 1 rfl ?_
      refine lv_imul X.1 X.2.1 dX9_isExecuted_28 ?_
      refine q_iload X dX9_isExecuted_29 hl 4 rfl ?_
      refine lv_iadd X.1 X.2.1 dX9_isExecuted_31 ?_
      obtain ⟨t32, e_t32, h⟩ := o_b h
      refine q_ldI X hh e_t32 dX9_isExecuted_32 ?_
      refine q_iload_n X dX9_isExecuted_33 rfl hl 2 rfl ?_
      refine lv_icmp_ne (tgt := 41) X.1 X.2.1 dX9_isExecuted_34 (by decide) (fun c34 => ?_) (fun c34 => ?_)
      · rw [if_neg c34] at h
        refine lv_iconst (v := (0 : Int32)) X.1 X.2.1 dX9_isExecuted_41 (by decide) ?_
        exact K_X9_isExecuted_42 X hret hlk hR hr5 hh hS (lk_sub hl [0, 1, 2, 4] rfl) h
      · rw [if_pos c34] at h
        exact K_X9_isExecuted_37 X hret hlk hR hr5 hh hS (lk_sub hl [0, 1, 2, 4] rfl) h
theorem K_X9_isExecuted_5 {p : Program} {l : Launch} {e : Env} {R : Room} {s : State} {m : MethodId} {args : Array Value} {below : List Frame} {meth : Method} {c : Code} {D : va_G} {dA : Nat → ClassId} {base : Nat} {z : Int32} (X : cx p s m args c cX9_isExecuted RX9 5 D dA) (hret : meth.sig.returnType = some .boolean) (hlk : meth.locks = false) (hR : 0 ≤ R.frames ∧ 0 ≤ R.locals) : ∀ (n : Nat) (σ : hp) (t0 : Nat) (v1 : Int32) (v2 : Int32) (v3 : Int32) (v4 : Int32) (H : Heap) (locs : List Loc) (ls : Array Slot), hw D dA base σ H → hs base s.heap H locs → lk ls 5 [(0, .inr (some t0)), (1, .inl v1), (2, .inl v2), (3, .inl v3), (4, .inl v4)] → S_X9_isExecuted_5 n σ t0 v1 v2 v3 v4 = some z → W p l e R s m args below meth c H locs 0 0 (MQ below (qG D dA base (some (.int z)) σ) args s 0 0 (fun q => base ≤ q)) (F0 m 5 ls []) := by
  intro n
  induction n with
  | zero => intro σ t0 v1 v2 v3 v4 H locs ls hh hS hl h; cases h
  | succ n ih => intro σ t0 v1 v2 v3 v4 H locs ls hh hS hl h; exact K_X9_isExecuted_5_b X hret hlk hR ih hh hS hl h
set_option maxHeartbeats 4000000 in
set_option maxRecDepth 100000 in
theorem K_X9_isExecuted_0 {p : Program} {l : Launch} {e : Env} {R : Room} {s : State} {m : MethodId} {args : Array Value} {below : List Frame} {meth : Method} {c : Code} {D : va_G} {dA : Nat → ClassId} {base : Nat} {z : Int32} (X : cx p s m args c cX9_isExecuted RX9 5 D dA) (hret : meth.sig.returnType = some .boolean) (hlk : meth.locks = false) (hR : 0 ≤ R.frames ∧ 0 ≤ R.locals) {σ : hp} {t0 : Nat} {v1 : Int32} {v2 : Int32} {H : Heap} {locs : List Loc} {ls : Array Slot} (hh : hw D dA base σ H) (hS : hs base s.heap H locs) (hl : lk ls 5 [(0, .inr (some t0)), (1, .inl v1), (2, .inl v2)]) (h : S_X9_isExecuted σ t0 v1 v2 = some z) : W p l e R s m args below meth c H locs 0 0 (MQ below (qG D dA base (some (.int z)) σ) args s 0 0 (fun q => base ≤ q)) (F0 m 0 ls []) := by
  unfold S_X9_isExecuted at h
  refine lv_iconst (v := (0 : Int32)) X.1 X.2.1 dX9_isExecuted_0 (by decide) ?_
  refine q_istore_n (lv' := [(3, .inl (0 : Int32)), (0, .inr (some t0)), (1, .inl v1), (2, .inl v2)]) X dX9_isExecuted_1 rfl hl (by decide) rfl (fun ls hl => ?_)
  refine lv_iconst (v := (0 : Int32)) X.1 X.2.1 dX9_isExecuted_2 (by decide) ?_
  refine q_istore (lv' := [(4, .inl (0 : Int32)), (3, .inl (0 : Int32)), (0, .inr (some t0)), (1, .inl v1), (2, .inl v2)]) X dX9_isExecuted_3 hl (by decide) rfl (fun ls hl => ?_)
  exact K_X9_isExecuted_5 X hret hlk hR FU _ _ _ _ _ _ _ _ _ hh hS (lk_sub hl [2, 3, 4, 1, 0] rfl) h
set_option maxRecDepth 100000 in
theorem M_X9_isExecuted (l : Launch) (D : va_G) (dA : Nat → ClassId) (base : Nat) (σ : hp) (t0 : Nat) (v1 : Int32) (v2 : Int32) {z : Int32} (h : S_X9_isExecuted σ t0 v1 v2 = some z) : mt l yX9_isExecuted cX9_isExecuted 5 (some .boolean) 0 0 D dA base σ [.ref t0, .int v1, .int v2] (some (.int z)) σ 0 0 := by
  refine Met.ofW (cc := cX9_isExecuted) (maxL := 5) (ret := some .boolean) (by decide) rfl ?_
  intro p e s m args below meth c s₁ B hml hv
  obtain ⟨rfl, hh, hK⟩ := hv
  have X : cx p s m ([.ref t0, .int v1, .int v2] : List Value).toArray c cX9_isExecuted RX9 5 D dA := ⟨B.exec, B.bytes, findClass_of_methodNamed B.named, hml, fun w hw => atoms_spec (ws := .code yX9_isExecuted cX9_isExecuted 5 (some .boolean) :: G) B.pre w (List.mem_cons_of_mem _ hw), hK⟩
  have hl := lk_entry [.inr (some t0), .inl v1, .inl v2] (n := 5) (Nat.le_of_ble_eq_true rfl)
  rw [lg_entry_eq]
  have hl : lk ((lg_sl ([.ref t0, .int v1, .int v2] : List Value) ++ List.replicate (5 - (lg_sl ([.ref t0, .int v1, .int v2] : List Value)).length) Slot.unset).toArray) 5 [(0, .inr (some t0)), (1, .inl v1), (2, .inl v2)] := hl
  generalize (lg_sl ([.ref t0, .int v1, .int v2] : List Value) ++ List.replicate (5 - (lg_sl ([.ref t0, .int v1, .int v2] : List Value)).length) Slot.unset).toArray = ls at hl ⊢
  exact K_X9_isExecuted_0 X B.returns B.notSynchronized ⟨Nat.le_refl _, Nat.le_refl _⟩ hh va_S.rf hl h
set_option maxHeartbeats 4000000 in
set_option maxRecDepth 100000 in
theorem K_X9_left_0 {p : Program} {l : Launch} {e : Env} {R : Room} {s : State} {m : MethodId} {args : Array Value} {below : List Frame} {meth : Method} {c : Code} {D : va_G} {dA : Nat → ClassId} {base : Nat} {z : Int32} (X : cx p s m args c cX9_left RX9 1 D dA) (hret : meth.sig.returnType = some .int) (hlk : meth.locks = false) (hR : 0 ≤ R.frames ∧ 0 ≤ R.locals) {σ : hp} {v0 : Int32} {H : Heap} {locs : List Loc} {ls : Array Slot} (hh : hw D dA base σ H) (hS : hs base s.heap H locs) (hl : lk ls 1 [(0, .inl v0)]) (h : S_X9_left σ v0 = some z) : W p l e R s m args below meth c H locs 0 0 (MQ below (qG D dA base (some (.int z)) σ) args s 0 0 (fun q => base ≤ q)) (F0 m 0 ls []) := by
  unfold S_X9_left at h
  refine q_iload_n X dX9_left_0 rfl hl 0 rfl ?_
  refine lv_iconst (v := (1 : Int32)) X.1 X.2.1 dX9_left_1 (by decide) ?_
  refine lv_ishl X.1 X.2.1 dX9_left_2 ?_
  refine q_iload_n X dX9_left_3 rfl hl 0 rfl ?_
  refine lv_bipush (v := (15 : Int32)) X.1 X.2.1 dX9_left_4 (by decide) ?_
  refine lv_ishr X.1 X.2.1 dX9_left_6 ?_
  refine lv_ior X.1 X.2.1 dX9_left_7 ?_
  refine q_ldc X ck_X9_125 dX9_left_8 ?_
  refine lv_iand X.1 X.2.1 dX9_left_10 ?_
  cases h
  exact q_iret X hret hlk hh hS dX9_left_11
set_option maxRecDepth 100000 in
theorem M_X9_left (l : Launch) (D : va_G) (dA : Nat → ClassId) (base : Nat) (σ : hp) (v0 : Int32) {z : Int32} (h : S_X9_left σ v0 = some z) : mt l yX9_left cX9_left 1 (some .int) 0 0 D dA base σ [.int v0] (some (.int z)) σ 0 0 := by
  refine Met.ofW (cc := cX9_left) (maxL := 1) (ret := some .int) (by decide) rfl ?_
  intro p e s m args below meth c s₁ B hml hv
  obtain ⟨rfl, hh, hK⟩ := hv
  have X : cx p s m ([.int v0] : List Value).toArray c cX9_left RX9 1 D dA := ⟨B.exec, B.bytes, findClass_of_methodNamed B.named, hml, fun w hw => atoms_spec (ws := .code yX9_left cX9_left 1 (some .int) :: G) B.pre w (List.mem_cons_of_mem _ hw), hK⟩
  have hl := lk_entry [.inl v0] (n := 1) (Nat.le_of_ble_eq_true rfl)
  rw [lg_entry_eq]
  have hl : lk ((lg_sl ([.int v0] : List Value) ++ List.replicate (1 - (lg_sl ([.int v0] : List Value)).length) Slot.unset).toArray) 1 [(0, .inl v0)] := hl
  generalize (lg_sl ([.int v0] : List Value) ++ List.replicate (1 - (lg_sl ([.int v0] : List Value)).length) Slot.unset).toArray = ls at hl ⊢
  exact K_X9_left_0 X B.returns B.notSynchronized ⟨Nat.le_refl _, Nat.le_refl _⟩ hh va_S.rf hl h
set_option maxHeartbeats 4000000 in
set_option maxRecDepth 100000 in
theorem K_X9_sum_62 {p : Program} {l : Launch} {e : Env} {R : Room} {s : State} {m : MethodId} {args : Array Value} {below : List Frame} {meth : Method} {c : Code} {D : va_G} {dA : Nat → ClassId} {base : Nat} {rec8 : hp → Nat → Int32 → Int32 → Int32 → Int32 → Option (Int32)} {z : Int32} (X : cx p s m args c cX9_sum RX9 6 D dA) (hret : meth.sig.returnType = some .int) (hlk : meth.locks = false) (hR : 1 ≤ R.frames ∧ 20 ≤ R.locals) (hr8 : ∀ (σ : hp) (t0 : Nat) (v1 : Int32) (v2 : Int32) (v3 : Int32) (v4 : Int32) (H : Heap) (locs : List Loc) (ls : Array Slot), hw D dA base σ H → hs base s.heap H locs → lk ls 6 [(0, .inr (some t0)), (1, .inl v1), (2, .inl v2), (3, .inl v3), (4, .inl v4)] → rec8 σ t0 v1 v2 v3 v4 = some z → W p l e R s m args below meth c H locs 0 0 (MQ below (qG D dA base (some (.int z)) σ) args s 0 0 (fun q => base ≤ q)) (F0 m 8 ls [])) {σ : hp} {t0 : Nat} {v1 : Int32} {v3 : Int32} {v4 : Int32} {w0 : Int32} {H : Heap} {locs : List Loc} {ls : Array Slot} (hh : hw D dA base σ H) (hS : hs base s.heap H locs) (hl : lk ls 6 [(0, .inr (some t0)), (1, .inl v1), (3, .inl v3), (4, .inl v4)]) (h : S_X9_sum_62 rec8 σ t0 v1 v3 v4 w0 = some z) : W p l e R s m args below meth c H locs 0 0 (MQ below (qG D dA base (some (.int z)) σ) args s 0 0 (fun q => base ≤ q)) (F0 m 62 ls [.int w0]) := by
  unfold S_X9_sum_62 at h
  refine q_istore_n (lv' := [(2, .inl w0), (0, .inr (some t0)), (1, .inl v1), (3, .inl v3), (4, .inl v4)]) X dX9_sum_62 rfl hl (by decide) rfl (fun ls hl => ?_)
  refine q_iinc (v := (1 : Int32)) (lv' := [(4, .inl (v4 + (1 : Int32))), (2, .inl w0), (0, .inr (some t0)), (1, .inl v1), (3, .inl v3)]) X dX9_sum_63 hl 4 rfl (by decide) (by decide) rfl (fun ls hl => ?_)
  refine lv_goto (tgt := 8) X.1 X.2.1 dX9_sum_66 (by decide) ?_
  exact hr8 _ _ _ _ _ _ _ _ _ hh hS (lk_sub hl [2, 3, 1, 4, 0] rfl) h
set_option maxHeartbeats 4000000 in
set_option maxRecDepth 100000 in
theorem K_X9_sum_8_b {p : Program} {l : Launch} {e : Env} {R : Room} {s : State} {m : MethodId} {args : Array Value} {below : List Frame} {meth : Method} {c : Code} {D : va_G} {dA : Nat → ClassId} {base : Nat} {rec8 : hp → Nat → Int32 → Int32 → Int32 → Int32 → Option (Int32)} {z : Int32} (X : cx p s m args c cX9_sum RX9 6 D dA) (hret : meth.sig.returnType = some .int) (hlk : meth.locks = false) (hR : 1 ≤ R.frames ∧ 20 ≤ R.locals) (hr8 : ∀ (σ : hp) (t0 : Nat) (v1 : Int32) (v2 : Int32) (v3 : Int32) (v4 : Int32) (H : Heap) (locs : List Loc) (ls : Array Slot), hw D dA base σ H → hs base s.heap H locs → lk ls 6 [(0, .inr (some t0)), (1, .inl v1), (2, .inl v2), (3, .inl v3), (4, .inl v4)] → rec8 σ t0 v1 v2 v3 v4 = some z → W p l e R s m args below meth c H locs 0 0 (MQ below (qG D dA base (some (.int z)) σ) args s 0 0 (fun q => base ≤ q)) (F0 m 8 ls [])) {σ : hp} {t0 : Nat} {v1 : Int32} {v2 : Int32} {v3 : Int32} {v4 : Int32} {H : Heap} {locs : List Loc} {ls : Array Slot} (hh : hw D dA base σ H) (hS : hs base s.heap H locs) (hl : lk ls 6 [(0, .inr (some t0)), (1, .inl v1), (2, .inl v2), (3, .inl v3), (4, .inl v4)]) (h : S_X9_sum_8_b rec8 σ t0 v1 v2 v3 v4 = some z) : W p l e R s m args below meth c H locs 0 0 (MQ below (qG D dA base (some (.int z)) σ) args s 0 0 (fun q => base ≤ q)) (F0 m 8 ls []) := by
  unfold S_X9_sum_8_b at h
  refine q_iload X dX9_sum_8 hl 4 rfl ?_
  refine lv_bipush (v := (32 : Int32)) X.1 X.2.1 dX9_sum_10 (by decide) ?_
  refine lv_icmp_ge (tgt := 69) X.1 X.2.1 dX9_sum_12 (by decide) (fun c12 => ?_) (fun c12 => ?_)
  · rw [if_pos c12] at h
    refine q_iload_n X dX9_sum_69 rfl hl 2 rfl ?_
    cases h
    exact q_iret X hret hlk hh hS dX9_sum_70
  · rw [if_neg c12] at h
    refine q_iload_n X dX9_sum_15 rfl hl 2 rfl ?_
    refine q_istore (lv' := [(5, .inl v2), (0, .inr (some t0)), (1, .inl v1), (2, .inl v2), (3, .inl v3), (4, .inl v4)]) X dX9_sum_16 hl (by decide) rfl (fun ls hl => ?_)
    refine q_iload_n X dX9_sum_18 rfl hl 3 rfl ?_
    obtain ⟨q19, e_q19, h⟩ := o_b h
    refine q_cS (As := [.int v2]) X hh hS hl cf_X9_126 rfl (M_X9_left l D dA base σ v2 e_q19) ⟨Nat.le_trans (by decide) hR.1, Nat.le_trans (by decide) hR.2⟩ (cat8 [] (Nat.le_of_ble_eq_true rfl)) dX9_sum_19 ⟨Nat.zero_le _, Nat.zero_le _⟩ rfl rfl (fun H locs hh hS => ?_)
    refine q_aload_n X dX9_sum_22 rfl hl 1 rfl ?_
    obtain ⟨t23, e_t23, h⟩ := o_b h
    refine q_gR X hh fa_X9_53 rfl e_t23 dX9_sum_23 ?_
    refine q_iload_n X dX9_sum_26 rfl hl 2 rfl ?_
    refine q_iload X dX9_sum_27 hl 5 rfl ?_
    refine lv_iadd X.1 X.2.1 dX9_sum_29 ?_
    obtain ⟨t30, e_t30, h⟩ := o_b h
    refine q_ldI X hh e_t30 dX9_sum_30 ?_
    refine lv_iadd X.1 X.2.1 dX9_sum_31 ?_
    refine q_ldc X ck_X9_125 dX9_sum_32 ?_
    refine lv_iand X.1 X.2.1 dX9_sum_34 ?_
    refine q_istore_n (lv' := [(2, .inl ((q19 + t30) &&& (65535 : Int32))), (5, .inl v2), (0, .inr (some t0)), (1, .inl v1), (3, .inl v3), (4, .inl v4)]) X dX9_sum_35 rfl hl (by decide) rfl (fun ls hl => ?_)
    refine q_iload_n X dX9_sum_36 rfl hl 4 rfl ?_
    refine q_iload_n X dX9_sum_37 rfl hl 0 rfl ?_
    refine lv_bipush (v := (32 : Int32)) X.1 X.2.1 dX9_sum_38 (by decide) ?_
    refine q_iload X dX9_sum_40 hl 5 rfl ?_
    refine lv_isub X.1 X.2.1 dX9_sum_42 ?_
    refine lv_ixor X.1 X.2.1 dX9_sum_43 ?_
    refine lv_iadd X.1 X.2.1 dX9_sum_44 ?_
    refine q_ldc X ck_X9_125 dX9_sum_45 ?_
    refine lv_iand X.1 X.2.1 dX9_sum_47 ?_
    refine q_istore_n (lv' := [(3, .inl ((v3 + (((q19 + t30) &&& (65535 : Int32)) ^^^ ((32 : Int32) - v4))) &&& (65535 : Int32))), (2, .inl ((q19 + t30) &&& (65535 : Int32))), (5, .inl v2), (0, .inr (some t0)), (1, .inl v1), (4, .inl v4)]) X dX9_sum_48 rfl hl (by decide) rfl (fun ls hl => ?_)
    refine q_iload_n X dX9_sum_49 rfl hl 1 rfl ?_
    refine q_iload X dX9_sum_50 hl 2 rfl ?_
    refine lv_icmp_le (tgt := 59) X.1 X.2.1 dX9_sum_52 (by decide) (fun c52 => ?_) (fun c52 => ?_)
    · rw [if_pos c52] at h
      refine q_iload_n X dX9_sum_59 rfl hl 1 rfl ?_
      refine q_iload_n X dX9_sum_60 rfl hl 0 rfl ?_
      refine lv_ixor X.1 X.2.1 dX9_sum_61 ?_
      exact K_X9_sum_62 X hret hlk hR hr8 hh hS (lk_sub hl [3, 4, 0, 5] rfl) h
    · rw [if_neg c52] at h
      refine q_iload_n X dX9_sum_55 rfl hl 1 rfl ?_
      refine lv_goto (tgt := 62) X.1 X.2.1 dX9_sum_56 (by decide) ?_
      exact K_X9_sum_62 X hret hlk hR hr8 hh hS (lk_sub hl [3, 4, 0, 5] rfl) h
theorem K_X9_sum_8 {p : Program} {l : Launch} {e : Env} {R : Room} {s : State} {m : MethodId} {args : Array Value} {below : List Frame} {meth : Method} {c : Code} {D : va_G} {dA : Nat → ClassId} {base : Nat} {z : Int32} (X : cx p s m args c cX9_sum RX9 6 D dA) (hret : meth.sig.returnType = some .int) (hlk : meth.locks = false) (hR : 1 ≤ R.frames ∧ 20 ≤ R.locals) : ∀ (n : Nat) (σ : hp) (t0 : Nat) (v1 : Int32) (v2 : Int32) (v3 : Int32) (v4 : Int32) (H : Heap) (locs : List Loc) (ls : Array Slot), hw D dA base σ H → hs base s.heap H locs → lk ls 6 [(0, .inr (some t0)), (1, .inl v1), (2, .inl v2), (3, .inl v3), (4, .inl v4)] → S_X9_sum_8 n σ t0 v1 v2 v3 v4 = some z → W p l e R s m args below meth c H locs 0 0 (MQ below (qG D dA base (some (.int z)) σ) args s 0 0 (fun q => base ≤ q)) (F0 m 8 ls []) := by
  intro n
  induction n with
  | zero => intro σ t0 v1 v2 v3 v4 H locs ls hh hS hl h; cases h
  | succ n ih => intro σ t0 v1 v2 v3 v4 H locs ls hh hS hl h; exact K_X9_sum_8_b X hret hlk hR ih hh hS hl h
set_option maxHeartbeats 4000000 in
set_option maxRecDepth 100000 in
theorem K_X9_sum_0 {p : Program} {l : Launch} {e : Env} {R : Room} {s : State} {m : MethodId} {args : Array Value} {below : List Frame} {meth : Method} {c : Code} {D : va_G} {dA : Nat → ClassId} {base : Nat} {z : Int32} (X : cx p s m args c cX9_sum RX9 6 D dA) (hret : meth.sig.returnType = some .int) (hlk : meth.locks = false) (hR : 1 ≤ R.frames ∧ 20 ≤ R.locals) {σ : hp} {t0 : Nat} {v1 : Int32} {H : Heap} {locs : List Loc} {ls : Array Slot} (hh : hw D dA base σ H) (hS : hs base s.heap H locs) (hl : lk ls 6 [(0, .inr (some t0)), (1, .inl v1)]) (h : S_X9_sum σ t0 v1 = some z) : W p l e R s m args below meth c H locs 0 0 (MQ below (qG D dA base (some (.int z)) σ) args s 0 0 (fun q => base ≤ q)) (F0 m 0 ls []) := by
  unfold S_X9_sum at h
  refine q_ldc X ck_X9_125 dX9_sum_0 ?_
  refine q_istore_n (lv' := [(2, .inl (65535 : Int32)), (0, .inr (some t0)), (1, .inl v1)]) X dX9_sum_2 rfl hl (by decide) rfl (fun ls hl => ?_)
  refine lv_iconst (v := (0 : Int32)) X.1 X.2.1 dX9_sum_3 (by decide) ?_
  refine q_istore_n (lv' := [(3, .inl (0 : Int32)), (2, .inl (65535 : Int32)), (0, .inr (some t0)), (1, .inl v1)]) X dX9_sum_4 rfl hl (by decide) rfl (fun ls hl => ?_)
  refine lv_iconst (v := (0 : Int32)) X.1 X.2.1 dX9_sum_5 (by decide) ?_
  refine q_istore (lv' := [(4, .inl (0 : Int32)), (3, .inl (0 : Int32)), (2, .inl (65535 : Int32)), (0, .inr (some t0)), (1, .inl v1)]) X dX9_sum_6 hl (by decide) rfl (fun ls hl => ?_)
  exact K_X9_sum_8 X hret hlk hR FU _ _ _ _ _ _ _ _ _ hh hS (lk_sub hl [3, 4, 2, 1, 0] rfl) h
set_option maxRecDepth 100000 in
theorem M_X9_sum (l : Launch) (D : va_G) (dA : Nat → ClassId) (base : Nat) (σ : hp) (t0 : Nat) (v1 : Int32) {z : Int32} (h : S_X9_sum σ t0 v1 = some z) : mt l yX9_sum cX9_sum 6 (some .int) 1 20 D dA base σ [.ref t0, .int v1] (some (.int z)) σ 0 0 := by
  refine Met.ofW (cc := cX9_sum) (maxL := 6) (ret := some .int) (by decide) rfl ?_
  intro p e s m args below meth c s₁ B hml hv
  obtain ⟨rfl, hh, hK⟩ := hv
  have X : cx p s m ([.ref t0, .int v1] : List Value).toArray c cX9_sum RX9 6 D dA := ⟨B.exec, B.bytes, findClass_of_methodNamed B.named, hml, fun w hw => atoms_spec (ws := .code yX9_sum cX9_sum 6 (some .int) :: G) B.pre w (List.mem_cons_of_mem _ hw), hK⟩
  have hl := lk_entry [.inr (some t0), .inl v1] (n := 6) (Nat.le_of_ble_eq_true rfl)
  rw [lg_entry_eq]
  have hl : lk ((lg_sl ([.ref t0, .int v1] : List Value) ++ List.replicate (6 - (lg_sl ([.ref t0, .int v1] : List Value)).length) Slot.unset).toArray) 6 [(0, .inr (some t0)), (1, .inl v1)] := hl
  generalize (lg_sl ([.ref t0, .int v1] : List Value) ++ List.replicate (6 - (lg_sl ([.ref t0, .int v1] : List Value)).length) Slot.unset).toArray = ls at hl ⊢
  exact K_X9_sum_0 X B.returns B.notSynchronized ⟨Nat.le_refl _, Nat.le_refl _⟩ hh va_S.rf hl h
theorem ke_X9_head_111 {z : hp} {σ : hp} {w0 : Option Nat} {w1 : Int32} (h : S_X9_head_111 σ w0 w1 = some z) : eq4 σ z := by
  unfold S_X9_head_111 at h
  obtain ⟨s111, e_s111, h⟩ := o_b h
  cases h
  exact (e_pI e_s111)
set_option maxHeartbeats 4000000 in
set_option maxRecDepth 100000 in
theorem K_X9_head_111 {p : Program} {l : Launch} {e : Env} {R : Room} {s : State} {m : MethodId} {args : Array Value} {below : List Frame} {meth : Method} {c : Code} {D : va_G} {dA : Nat → ClassId} {base : Nat} {z : hp} (X : cx p s m args c cX9_head RX9 4 D dA) (hret : meth.sig.returnType = none) (hlk : meth.locks = false) (hR : 2 ≤ R.frames ∧ 45 ≤ R.locals) {σ : hp} {w0 : Option Nat} {w1 : Int32} {H : Heap} {locs : List Loc} {ls : Array Slot} (hh : hw D dA base σ H) (hS : hs base s.heap H locs) (hl : lk ls 4 []) (h : S_X9_head_111 σ w0 w1 = some z) : W p l e R s m args below meth c H locs 0 0 (MQ below (qG D dA base none z) args s 0 0 (fun q => base ≤ q)) (F0 m 111 ls [.int w1, va_rf w0]) := by
  unfold S_X9_head_111 at h
  obtain ⟨s111, e_s111, h⟩ := o_b h
  refine q_pI X hh hS fp_X9_134 (fun h => by cases h) rfl e_s111 dX9_head_111 (fun H locs hh hS => ?_)
  cases h
  exact q_vret X hret hlk hh hS dX9_head_114
theorem ke_X9_head_30 {z : hp} {σ : hp} {t0 : Nat} {v1 : Int32} {v2 : Int32} {w0 : Int32} (h : S_X9_head_30 σ t0 v1 v2 w0 = some z) : eq4 σ z := by
  unfold S_X9_head_30 at h
  obtain ⟨t32, e_t32, h⟩ := o_b h
  obtain ⟨s38, e_s38, h⟩ := o_b h
  obtain ⟨t40, e_t40, h⟩ := o_b h
  obtain ⟨s45, e_s45, h⟩ := o_b h
  obtain ⟨t47, e_t47, h⟩ := o_b h
  obtain ⟨s56, e_s56, h⟩ := o_b h
  obtain ⟨t58, e_t58, h⟩ := o_b h
  obtain ⟨s66, e_s66, h⟩ := o_b h
  obtain ⟨t68, e_t68, h⟩ := o_b h
  obtain ⟨s73, e_s73, h⟩ := o_b h
  obtain ⟨t75, e_t75, h⟩ := o_b h
  obtain ⟨t81, e_t81, h⟩ := o_b h
  obtain ⟨t85, e_t85, h⟩ := o_b h
  obtain ⟨t88, e_t88, h⟩ := o_b h
  obtain ⟨t92, e_t92, h⟩ := o_b h
  obtain ⟨s96, e_s96, h⟩ := o_b h
  by_cases c101 : v1 = (9 : Int32)
  · rw [if_pos c101] at h
    exact (((((((e_stI e_s38)).tr (e_stI e_s45)).tr (e_stI e_s56)).tr (e_stI e_s66)).tr (e_stI e_s73)).tr (e_stI e_s96)).tr (ke_X9_head_111 h)
  · rw [if_neg c101] at h
    exact (((((((e_stI e_s38)).tr (e_stI e_s45)).tr (e_stI e_s56)).tr (e_stI e_s66)).tr (e_stI e_s73)).tr (e_stI e_s96)).tr (ke_X9_head_111 h)
set_option maxHeartbeats 4000000 in
set_option maxRecDepth 100000 in
theorem K_X9_head_30 {p : Program} {l : Launch} {e : Env} {R : Room} {s : State} {m : MethodId} {args : Array Value} {below : List Frame} {meth : Method} {c : Code} {D : va_G} {dA : Nat → ClassId} {base : Nat} {z : hp} (X : cx p s m args c cX9_head RX9 4 D dA) (hret : meth.sig.returnType = none) (hlk : meth.locks = false) (hR : 2 ≤ R.frames ∧ 45 ≤ R.locals) {σ : hp} {t0 : Nat} {v1 : Int32} {v2 : Int32} {w0 : Int32} {H : Heap} {locs : List Loc} {ls : Array Slot} (hh : hw D dA base σ H) (hS : hs base s.heap H locs) (hl : lk ls 4 [(0, .inr (some t0)), (1, .inl v1), (2, .inl v2)]) (h : S_X9_head_30 σ t0 v1 v2 w0 = some z) : W p l e R s m args below meth c H locs 0 0 (MQ below (qG D dA base none z) args s 0 0 (fun q => base ≤ q)) (F0 m 30 ls [.int w0]) := by
  unfold S_X9_head_30 at h
  refine q_istore_n (lv' := [(3, .inl w0), (0, .inr (some t0)), (1, .inl v1), (2, .inl v2)]) X dX9_head_30 rfl hl (by decide) rfl (fun ls hl => ?_)
  refine q_aload_n X dX9_head_31 rfl hl 1 rfl ?_
  obtain ⟨t32, e_t32, h⟩ := o_b h
  refine q_gR X hh fa_X9_53 rfl e_t32 dX9_head_32 ?_
  refine lv_iconst (v := (0 : Int32)) X.1 X.2.1 dX9_head_35 (by decide) ?_
  refine lv_bipush (v := (16 : Int32)) X.1 X.2.1 dX9_head_36 (by decide) ?_
  obtain ⟨s38, e_s38, h⟩ := o_b h
  refine q_stI X hh hS e_s38 dX9_head_38 (fun H locs hh hS => ?_)
  refine q_aload_n X dX9_head_39 rfl hl 1 rfl ?_
  obtain ⟨t40, e_t40, h⟩ := o_b h
  refine q_gR X hh fa_X9_53 rfl e_t40 dX9_head_40 ?_
  refine lv_iconst (v := (1 : Int32)) X.1 X.2.1 dX9_head_43 (by decide) ?_
  refine q_iload_n X dX9_head_44 rfl hl 2 rfl ?_
  obtain ⟨s45, e_s45, h⟩ := o_b h
  refine q_stI X hh hS e_s45 dX9_head_45 (fun H locs hh hS => ?_)
  refine q_aload_n X dX9_head_46 rfl hl 1 rfl ?_
  obtain ⟨t47, e_t47, h⟩ := o_b h
  refine q_gR X hh fa_X9_53 rfl e_t47 dX9_head_47 ?_
  refine lv_iconst (v := (2 : Int32)) X.1 X.2.1 dX9_head_50 (by decide) ?_
  refine q_iload_n X dX9_head_51 rfl hl 0 rfl ?_
  refine lv_sipush (v := (255 : Int32)) X.1 X.2.1 dX9_head_52 (by decide) ?_
  refine lv_iand X.1 X.2.1 dX9_head_55 ?_
  obtain ⟨s56, e_s56, h⟩ := o_b h
  refine q_stI X hh hS e_s56 dX9_head_56 (fun H locs hh hS => ?_)
  refine q_aload_n X dX9_head_57 rfl hl 1 rfl ?_
  obtain ⟨t58, e_t58, h⟩ := o_b h
  refine q_gR X hh fa_X9_53 rfl e_t58 dX9_head_58 ?_
  refine lv_iconst (v := (3 : Int32)) X.1 X.2.1 dX9_head_61 (by decide) ?_
  refine q_iload_n X dX9_head_62 rfl hl 0 rfl ?_
  refine lv_bipush (v := (8 : Int32)) X.1 X.2.1 dX9_head_63 (by decide) ?_
  refine lv_ishr X.1 X.2.1 dX9_head_65 ?_
  obtain ⟨s66, e_s66, h⟩ := o_b h
  refine q_stI X hh hS e_s66 dX9_head_66 (fun H locs hh hS => ?_)
  refine q_aload_n X dX9_head_67 rfl hl 1 rfl ?_
  obtain ⟨t68, e_t68, h⟩ := o_b h
  refine q_gR X hh fa_X9_53 rfl e_t68 dX9_head_68 ?_
  refine lv_iconst (v := (4 : Int32)) X.1 X.2.1 dX9_head_71 (by decide) ?_
  refine q_iload_n X dX9_head_72 rfl hl 3 rfl ?_
  obtain ⟨s73, e_s73, h⟩ := o_b h
  refine q_stI X hh hS e_s73 dX9_head_73 (fun H locs hh hS => ?_)
  refine q_aload_n X dX9_head_74 rfl hl 1 rfl ?_
  obtain ⟨t75, e_t75, h⟩ := o_b h
  refine q_gR X hh fa_X9_53 rfl e_t75 dX9_head_75 ?_
  refine lv_iconst (v := (5 : Int32)) X.1 X.2.1 dX9_head_78 (by decide) ?_
  refine q_iload_n X dX9_head_79 rfl hl 2 rfl ?_
  refine q_aload_n X dX9_head_80 rfl hl 1 rfl ?_
  obtain ⟨t81, e_t81, h⟩ := o_b h
  refine q_gR X hh fa_X9_53 rfl e_t81 dX9_head_81 ?_
  refine lv_iconst (v := (2 : Int32)) X.1 X.2.1 dX9_head_84 (by decide) ?_
  obtain ⟨t85, e_t85, h⟩ := o_b h
  refine q_ldI X hh e_t85 dX9_head_85 ?_
  refine lv_ixor X.1 X.2.1 dX9_head_86 ?_
  refine q_aload_n X dX9_head_87 rfl hl 1 rfl ?_
  obtain ⟨t88, e_t88, h⟩ := o_b h
  refine q_gR X hh fa_X9_53 rfl e_t88 dX9_head_88 ?_
  refine lv_iconst (v := (3 : Int32)) X.1 X.2.1 dX9_head_91 (by decide) ?_
  obtain ⟨t92, e_t92, h⟩ := o_b h
  refine q_ldI X hh e_t92 dX9_head_92 ?_
  refine lv_ixor X.1 X.2.1 dX9_head_93 ?_
  refine q_iload_n X dX9_head_94 rfl hl 3 rfl ?_
  refine lv_ixor X.1 X.2.1 dX9_head_95 ?_
  obtain ⟨s96, e_s96, h⟩ := o_b h
  refine q_stI X hh hS e_s96 dX9_head_96 (fun H locs hh hS => ?_)
  refine q_aload_n X dX9_head_97 rfl hl 1 rfl ?_
  refine q_iload_n X dX9_head_98 rfl hl 2 rfl ?_
  refine lv_bipush (v := (9 : Int32)) X.1 X.2.1 dX9_head_99 (by decide) ?_
  refine lv_icmp_ne (tgt := 109) X.1 X.2.1 dX9_head_101 (by decide) (fun c101 => ?_) (fun c101 => ?_)
  · rw [if_neg c101] at h
    refine lv_bipush (v := (38 : Int32)) X.1 X.2.1 dX9_head_109 (by decide) ?_
    exact K_X9_head_111 X hret hlk hR hh hS (lk_sub hl [] rfl) h
  · rw [if_pos c101] at h
    refine lv_bipush (v := (6 : Int32)) X.1 X.2.1 dX9_head_104 (by decide) ?_
    refine lv_goto (tgt := 111) X.1 X.2.1 dX9_head_106 (by decide) ?_
    exact K_X9_head_111 X hret hlk hR hh hS (lk_sub hl [] rfl) h
theorem ke_X9_head_0 {z : hp} {σ : hp} {t0 : Nat} {v1 : Int32} {v2 : Int32} (h : S_X9_head σ t0 v1 v2 = some z) : eq4 σ z := by
  unfold S_X9_head at h
  by_cases c3 : v1 = (9 : Int32)
  · rw [if_pos c3] at h
    exact (ke_X9_head_30 h)
  · rw [if_neg c3] at h
    obtain ⟨b21, e_b21, h⟩ := o_b h
    obtain ⟨q21, e_q21, h⟩ := o_b h
    exact (ke_X9_head_30 h)
set_option maxHeartbeats 4000000 in
set_option maxRecDepth 100000 in
theorem K_X9_head_0 {p : Program} {l : Launch} {e : Env} {R : Room} {s : State} {m : MethodId} {args : Array Value} {below : List Frame} {meth : Method} {c : Code} {D : va_G} {dA : Nat → ClassId} {base : Nat} {z : hp} (X : cx p s m args c cX9_head RX9 4 D dA) (hret : meth.sig.returnType = none) (hlk : meth.locks = false) (hR : 2 ≤ R.frames ∧ 45 ≤ R.locals) {σ : hp} {t0 : Nat} {v1 : Int32} {v2 : Int32} {H : Heap} {locs : List Loc} {ls : Array Slot} (hh : hw D dA base σ H) (hS : hs base s.heap H locs) (hl : lk ls 4 [(0, .inr (some t0)), (1, .inl v1), (2, .inl v2)]) (h : S_X9_head σ t0 v1 v2 = some z) : W p l e R s m args below meth c H locs 0 0 (MQ below (qG D dA base none z) args s 0 0 (fun q => base ≤ q)) (F0 m 0 ls []) := by
  unfold S_X9_head at h
  refine q_iload_n X dX9_head_0 rfl hl 1 rfl ?_
  refine lv_bipush (v := (9 : Int32)) X.1 X.2.1 dX9_head_1 (by decide) ?_
  refine lv_icmp_ne (tgt := 16) X.1 X.2.1 dX9_head_3 (by decide) (fun c3 => ?_) (fun c3 => ?_)
  · rw [if_neg c3] at h
    refine q_ldc X ck_X9_130 dX9_head_16 ?_
    refine q_aload_n X dX9_head_18 rfl hl 0 rfl ?_
    refine lv_bipush (v := (6 : Int32)) X.1 X.2.1 dX9_head_19 (by decide) ?_
    obtain ⟨b21, e_b21, h⟩ := o_b h
    obtain ⟨q21, e_q21, h⟩ := o_b h
    refine q_cV (As := [.int (6 : Int32)]) X hh hS hl cf_X9_131 (cN := 9) rfl rfl e_b21 rfl (M_X9_sum l D dA base σ b21 (6 : Int32) e_q21) ⟨Nat.le_trans (by decide) hR.1, Nat.le_trans (by decide) hR.2⟩ (cat8 [.inl (43690 : Int32)] (Nat.le_of_ble_eq_true rfl)) dX9_head_21 ⟨Nat.zero_le _, Nat.zero_le _⟩ rfl rfl (fun H locs hh hS => ?_)
    refine q_iload_n X dX9_head_24 rfl hl 2 rfl ?_
    refine lv_ixor X.1 X.2.1 dX9_head_25 ?_
    refine lv_isub X.1 X.2.1 dX9_head_26 ?_
    refine q_ldc X ck_X9_125 dX9_head_27 ?_
    refine lv_iand X.1 X.2.1 dX9_head_29 ?_
    exact K_X9_head_30 X hret hlk hR hh hS (lk_sub hl [0, 1, 2] rfl) h
  · rw [if_pos c3] at h
    refine q_ldc X ck_X9_130 dX9_head_6 ?_
    refine q_iload_n X dX9_head_8 rfl hl 2 rfl ?_
    refine lv_isub X.1 X.2.1 dX9_head_9 ?_
    refine q_ldc X ck_X9_125 dX9_head_10 ?_
    refine lv_iand X.1 X.2.1 dX9_head_12 ?_
    refine lv_goto (tgt := 30) X.1 X.2.1 dX9_head_13 (by decide) ?_
    exact K_X9_head_30 X hret hlk hR hh hS (lk_sub hl [0, 1, 2] rfl) h
set_option maxRecDepth 100000 in
theorem M_X9_head (l : Launch) (D : va_G) (dA : Nat → ClassId) (base : Nat) (σ : hp) (t0 : Nat) (v1 : Int32) (v2 : Int32) {z : hp} (h : S_X9_head σ t0 v1 v2 = some z) : mt l yX9_head cX9_head 4 (none) 2 45 D dA base σ [.ref t0, .int v1, .int v2] none z 0 0 := by
  refine Met.ofW (cc := cX9_head) (maxL := 4) (ret := none) (by decide) rfl ?_
  intro p e s m args below meth c s₁ B hml hv
  obtain ⟨rfl, hh, hK⟩ := hv
  have X : cx p s m ([.ref t0, .int v1, .int v2] : List Value).toArray c cX9_head RX9 4 D dA := ⟨B.exec, B.bytes, findClass_of_methodNamed B.named, hml, fun w hw => atoms_spec (ws := .code yX9_head cX9_head 4 (none) :: G) B.pre w (List.mem_cons_of_mem _ hw), hK⟩
  have hl := lk_entry [.inr (some t0), .inl v1, .inl v2] (n := 4) (Nat.le_of_ble_eq_true rfl)
  rw [lg_entry_eq]
  have hl : lk ((lg_sl ([.ref t0, .int v1, .int v2] : List Value) ++ List.replicate (4 - (lg_sl ([.ref t0, .int v1, .int v2] : List Value)).length) Slot.unset).toArray) 4 [(0, .inr (some t0)), (1, .inl v1), (2, .inl v2)] := hl
  generalize (lg_sl ([.ref t0, .int v1, .int v2] : List Value) ++ List.replicate (4 - (lg_sl ([.ref t0, .int v1, .int v2] : List Value)).length) Slot.unset).toArray = ls at hl ⊢
  exact K_X9_head_0 X B.returns B.notSynchronized ⟨Nat.le_refl _, Nat.le_refl _⟩ hh va_S.rf hl h
theorem ke_X9_lay_70 {rec36 : hp → Nat → Int32 → Int32 → Int32 → Option (hp)} {z : hp} (hm36 : ∀ (σ : hp) (t0 : Nat) (v1 : Int32) (v2 : Int32) (v3 : Int32), rec36 σ t0 v1 v2 v3 = some z → eq4 σ z) {σ : hp} {t0 : Nat} {v1 : Int32} {v2 : Int32} {v3 : Int32} {w0 : Option Nat} {w1 : Int32} {w2 : Int32} (h : S_X9_lay_70 rec36 σ t0 v1 v2 v3 w0 w1 w2 = some z) : eq4 σ z := by
  unfold S_X9_lay_70 at h
  obtain ⟨s70, e_s70, h⟩ := o_b h
  exact ((e_stI e_s70)).tr (hm36 _ _ _ _ _ h)
set_option maxHeartbeats 4000000 in
set_option maxRecDepth 100000 in
theorem K_X9_lay_70 {p : Program} {l : Launch} {e : Env} {R : Room} {s : State} {m : MethodId} {args : Array Value} {below : List Frame} {meth : Method} {c : Code} {D : va_G} {dA : Nat → ClassId} {base : Nat} {rec36 : hp → Nat → Int32 → Int32 → Int32 → Option (hp)} {z : hp} (X : cx p s m args c cX9_lay RX9 4 D dA) (hret : meth.sig.returnType = none) (hlk : meth.locks = false) (hR : 0 ≤ R.frames ∧ 0 ≤ R.locals) (hr36 : ∀ (σ : hp) (t0 : Nat) (v1 : Int32) (v2 : Int32) (v3 : Int32) (H : Heap) (locs : List Loc) (ls : Array Slot), hw D dA base σ H → hs base s.heap H locs → lk ls 4 [(0, .inr (some t0)), (1, .inl v1), (2, .inl v2), (3, .inl v3)] → rec36 σ t0 v1 v2 v3 = some z → W p l e R s m args below meth c H locs 0 0 (MQ below (qG D dA base none z) args s 0 0 (fun q => base ≤ q)) (F0 m 36 ls [])) {σ : hp} {t0 : Nat} {v1 : Int32} {v2 : Int32} {v3 : Int32} {w0 : Option Nat} {w1 : Int32} {w2 : Int32} {H : Heap} {locs : List Loc} {ls : Array Slot} (hh : hw D dA base σ H) (hS : hs base s.heap H locs) (hl : lk ls 4 [(0, .inr (some t0)), (1, .inl v1), (2, .inl v2), (3, .inl v3)]) (h : S_X9_lay_70 rec36 σ t0 v1 v2 v3 w0 w1 w2 = some z) : W p l e R s m args below meth c H locs 0 0 (MQ below (qG D dA base none z) args s 0 0 (fun q => base ≤ q)) (F0 m 70 ls [.int w2, .int w1, va_rf w0]) := by
  unfold S_X9_lay_70 at h
  obtain ⟨s70, e_s70, h⟩ := o_b h
  refine q_stI X hh hS e_s70 dX9_lay_70 (fun H locs hh hS => ?_)
  refine q_iinc (v := (1 : Int32)) (lv' := [(3, .inl (v3 + (1 : Int32))), (0, .inr (some t0)), (1, .inl v1), (2, .inl v2)]) X dX9_lay_71 hl 3 rfl (by decide) (by decide) rfl (fun ls hl => ?_)
  refine lv_goto (tgt := 36) X.1 X.2.1 dX9_lay_74 (by decide) ?_
  exact hr36 _ _ _ _ _ _ _ _ hh hS (lk_sub hl [1, 2, 3, 0] rfl) h
theorem ke_X9_lay_36_b {rec36 : hp → Nat → Int32 → Int32 → Int32 → Option (hp)} {z : hp} (hm36 : ∀ (σ : hp) (t0 : Nat) (v1 : Int32) (v2 : Int32) (v3 : Int32), rec36 σ t0 v1 v2 v3 = some z → eq4 σ z) {σ : hp} {t0 : Nat} {v1 : Int32} {v2 : Int32} {v3 : Int32} (h : S_X9_lay_36_b rec36 σ t0 v1 v2 v3 = some z) : eq4 σ z := by
  unfold S_X9_lay_36_b at h
  by_cases c39 : (38 : Int32) ≤ v3
  · rw [if_pos c39] at h
    obtain ⟨t78, e_t78, h⟩ := o_b h
    obtain ⟨t83, e_t83, h⟩ := o_b h
    obtain ⟨s86, e_s86, h⟩ := o_b h
    cases h
    exact (e_stI e_s86)
  · rw [if_neg c39] at h
    obtain ⟨t43, e_t43, h⟩ := o_b h
    obtain ⟨t54, e_t54, h⟩ := o_b h
    by_cases c57 : t54 ≤ v3
    · rw [if_pos c57] at h
      exact (ke_X9_lay_70 hm36 h)
    · rw [if_neg c57] at h
      obtain ⟨t61, e_t61, h⟩ := o_b h
      obtain ⟨t65, e_t65, h⟩ := o_b h
      exact (ke_X9_lay_70 hm36 h)
theorem ke_X9_lay_36 {z : hp} : ∀ (n : Nat) (σ : hp) (t0 : Nat) (v1 : Int32) (v2 : Int32) (v3 : Int32), S_X9_lay_36 n σ t0 v1 v2 v3 = some z → eq4 σ z := by
  intro n
  induction n with
  | zero => intro σ t0 v1 v2 v3 h; cases h
  | succ n ih => intro σ t0 v1 v2 v3 h; exact ke_X9_lay_36_b ih h
set_option maxHeartbeats 4000000 in
set_option maxRecDepth 100000 in
theorem K_X9_lay_36_b {p : Program} {l : Launch} {e : Env} {R : Room} {s : State} {m : MethodId} {args : Array Value} {below : List Frame} {meth : Method} {c : Code} {D : va_G} {dA : Nat → ClassId} {base : Nat} {rec36 : hp → Nat → Int32 → Int32 → Int32 → Option (hp)} {z : hp} (X : cx p s m args c cX9_lay RX9 4 D dA) (hret : meth.sig.returnType = none) (hlk : meth.locks = false) (hR : 0 ≤ R.frames ∧ 0 ≤ R.locals) (hr36 : ∀ (σ : hp) (t0 : Nat) (v1 : Int32) (v2 : Int32) (v3 : Int32) (H : Heap) (locs : List Loc) (ls : Array Slot), hw D dA base σ H → hs base s.heap H locs → lk ls 4 [(0, .inr (some t0)), (1, .inl v1), (2, .inl v2), (3, .inl v3)] → rec36 σ t0 v1 v2 v3 = some z → W p l e R s m args below meth c H locs 0 0 (MQ below (qG D dA base none z) args s 0 0 (fun q => base ≤ q)) (F0 m 36 ls [])) {σ : hp} {t0 : Nat} {v1 : Int32} {v2 : Int32} {v3 : Int32} {H : Heap} {locs : List Loc} {ls : Array Slot} (hh : hw D dA base σ H) (hS : hs base s.heap H locs) (hl : lk ls 4 [(0, .inr (some t0)), (1, .inl v1), (2, .inl v2), (3, .inl v3)]) (h : S_X9_lay_36_b rec36 σ t0 v1 v2 v3 = some z) : W p l e R s m args below meth c H locs 0 0 (MQ below (qG D dA base none z) args s 0 0 (fun q => base ≤ q)) (F0 m 36 ls []) := by
  unfold S_X9_lay_36_b at h
  refine q_iload_n X dX9_lay_36 rfl hl 3 rfl ?_
  refine lv_bipush (v := (38 : Int32)) X.1 X.2.1 dX9_lay_37 (by decide) ?_
  refine lv_icmp_ge (tgt := 77) X.1 X.2.1 dX9_lay_39 (by decide) (fun c39 => ?_) (fun c39 => ?_)
  · rw [if_pos c39] at h
    refine q_aload_n X dX9_lay_77 rfl hl 0 rfl ?_
    obtain ⟨t78, e_t78, h⟩ := o_b h
    refine q_gR X hh fa_X9_44 rfl e_t78 dX9_lay_78 ?_
    refine q_iload_n X dX9_lay_81 rfl hl 1 rfl ?_
    refine lv_dup2_11 X.1 X.2.1 dX9_lay_82 (vv_cat (.inl v1)) (vv_cat (.inr t78)) ?_
    obtain ⟨t83, e_t83, h⟩ := o_b h
    refine q_ldI X hh e_t83 dX9_lay_83 ?_
    refine lv_iconst (v := (1 : Int32)) X.1 X.2.1 dX9_lay_84 (by decide) ?_
    refine lv_iadd X.1 X.2.1 dX9_lay_85 ?_
    obtain ⟨s86, e_s86, h⟩ := o_b h
    refine q_stI X hh hS e_s86 dX9_lay_86 (fun H locs hh hS => ?_)
    cases h
    exact q_vret X hret hlk hh hS dX9_lay_87
  · rw [if_neg c39] at h
    refine q_aload_n X dX9_lay_42 rfl hl 0 rfl ?_
    obtain ⟨t43, e_t43, h⟩ := o_b h
    refine q_gR X hh fa_X9_47 rfl e_t43 dX9_lay_43 ?_
    refine lv_bipush (v := (38 : Int32)) X.1 X.2.1 dX9_lay_46 (by decide) ?_
    refine q_iload_n X dX9_lay_48 rfl hl 2 rfl ?_
    refine lv_imul X.1 X.2.1 dX9_lay_49 ?_
    refine q_iload_n X dX9_lay_50 rfl hl 3 rfl ?_
    refine lv_iadd X.1 X.2.1 dX9_lay_51 ?_
    refine q_iload_n X dX9_lay_52 rfl hl 3 rfl ?_
    refine q_aload_n X dX9_lay_53 rfl hl 0 rfl ?_
    obtain ⟨t54, e_t54, h⟩ := o_b h
    refine q_gI X hh fa_X9_134 rfl e_t54 dX9_lay_54 ?_
    refine lv_icmp_ge (tgt := 69) X.1 X.2.1 dX9_lay_57 (by decide) (fun c57 => ?_) (fun c57 => ?_)
    · rw [if_pos c57] at h
      refine lv_iconst (v := (0 : Int32)) X.1 X.2.1 dX9_lay_69 (by decide) ?_
      exact K_X9_lay_70 X hret hlk hR hr36 hh hS (lk_sub hl [0, 1, 2, 3] rfl) h
    · rw [if_neg c57] at h
      refine q_aload_n X dX9_lay_60 rfl hl 0 rfl ?_
      obtain ⟨t61, e_t61, h⟩ := o_b h
      refine q_gR X hh fa_X9_53 rfl e_t61 dX9_lay_61 ?_
      refine q_iload_n X dX9_lay_64 rfl hl 3 rfl ?_
      obtain ⟨t65, e_t65, h⟩ := o_b h
      refine q_ldI X hh e_t65 dX9_lay_65 ?_
      refine lv_goto (tgt := 70) X.1 X.2.1 dX9_lay_66 (by decide) ?_
      exact K_X9_lay_70 X hret hlk hR hr36 hh hS (lk_sub hl [0, 1, 2, 3] rfl) h
theorem K_X9_lay_36 {p : Program} {l : Launch} {e : Env} {R : Room} {s : State} {m : MethodId} {args : Array Value} {below : List Frame} {meth : Method} {c : Code} {D : va_G} {dA : Nat → ClassId} {base : Nat} {z : hp} (X : cx p s m args c cX9_lay RX9 4 D dA) (hret : meth.sig.returnType = none) (hlk : meth.locks = false) (hR : 0 ≤ R.frames ∧ 0 ≤ R.locals) : ∀ (n : Nat) (σ : hp) (t0 : Nat) (v1 : Int32) (v2 : Int32) (v3 : Int32) (H : Heap) (locs : List Loc) (ls : Array Slot), hw D dA base σ H → hs base s.heap H locs → lk ls 4 [(0, .inr (some t0)), (1, .inl v1), (2, .inl v2), (3, .inl v3)] → S_X9_lay_36 n σ t0 v1 v2 v3 = some z → W p l e R s m args below meth c H locs 0 0 (MQ below (qG D dA base none z) args s 0 0 (fun q => base ≤ q)) (F0 m 36 ls []) := by
  intro n
  induction n with
  | zero => intro σ t0 v1 v2 v3 H locs ls hh hS hl h; cases h
  | succ n ih => intro σ t0 v1 v2 v3 H locs ls hh hS hl h; exact K_X9_lay_36_b X hret hlk hR ih hh hS hl h
theorem ke_X9_lay_0 {z : hp} {σ : hp} {t0 : Nat} {v1 : Int32} (h : S_X9_lay σ t0 v1 = some z) : eq4 σ z := by
  unfold S_X9_lay at h
  obtain ⟨t1, e_t1, h⟩ := o_b h
  obtain ⟨t5, e_t5, h⟩ := o_b h
  by_cases c8 : t5 = (12 : Int32)
  · rw [if_pos c8] at h
    cases h
    exact eq4.rf _
  · rw [if_neg c8] at h
    obtain ⟨t17, e_t17, h⟩ := o_b h
    obtain ⟨t21, e_t21, h⟩ := o_b h
    obtain ⟨t25, e_t25, h⟩ := o_b h
    obtain ⟨t30, e_t30, h⟩ := o_b h
    obtain ⟨s33, e_s33, h⟩ := o_b h
    exact ((e_stI e_s33)).tr (ke_X9_lay_36 FU _ _ _ _ _ h)
set_option maxHeartbeats 4000000 in
set_option maxRecDepth 100000 in
theorem K_X9_lay_0 {p : Program} {l : Launch} {e : Env} {R : Room} {s : State} {m : MethodId} {args : Array Value} {below : List Frame} {meth : Method} {c : Code} {D : va_G} {dA : Nat → ClassId} {base : Nat} {z : hp} (X : cx p s m args c cX9_lay RX9 4 D dA) (hret : meth.sig.returnType = none) (hlk : meth.locks = false) (hR : 0 ≤ R.frames ∧ 0 ≤ R.locals) {σ : hp} {t0 : Nat} {v1 : Int32} {H : Heap} {locs : List Loc} {ls : Array Slot} (hh : hw D dA base σ H) (hS : hs base s.heap H locs) (hl : lk ls 4 [(0, .inr (some t0)), (1, .inl v1)]) (h : S_X9_lay σ t0 v1 = some z) : W p l e R s m args below meth c H locs 0 0 (MQ below (qG D dA base none z) args s 0 0 (fun q => base ≤ q)) (F0 m 0 ls []) := by
  unfold S_X9_lay at h
  refine q_aload_n X dX9_lay_0 rfl hl 0 rfl ?_
  obtain ⟨t1, e_t1, h⟩ := o_b h
  refine q_gR X hh fa_X9_44 rfl e_t1 dX9_lay_1 ?_
  refine q_iload_n X dX9_lay_4 rfl hl 1 rfl ?_
  obtain ⟨t5, e_t5, h⟩ := o_b h
  refine q_ldI X hh e_t5 dX9_lay_5 ?_
  refine lv_bipush (v := (12 : Int32)) X.1 X.2.1 dX9_lay_6 (by decide) ?_
  refine lv_icmp_ne (tgt := 12) X.1 X.2.1 dX9_lay_8 (by decide) (fun c8 => ?_) (fun c8 => ?_)
  · rw [if_neg c8] at h
    refine lv_bipush (v := (12 : Int32)) X.1 X.2.1 dX9_lay_12 (by decide) ?_
    refine q_iload_n X dX9_lay_14 rfl hl 1 rfl ?_
    refine lv_imul X.1 X.2.1 dX9_lay_15 ?_
    refine q_aload_n X dX9_lay_16 rfl hl 0 rfl ?_
    obtain ⟨t17, e_t17, h⟩ := o_b h
    refine q_gR X hh fa_X9_44 rfl e_t17 dX9_lay_17 ?_
    refine q_iload_n X dX9_lay_20 rfl hl 1 rfl ?_
    obtain ⟨t21, e_t21, h⟩ := o_b h
    refine q_ldI X hh e_t21 dX9_lay_21 ?_
    refine lv_iadd X.1 X.2.1 dX9_lay_22 ?_
    refine q_istore_n (lv' := [(2, .inl (((12 : Int32) * v1) + t21)), (0, .inr (some t0)), (1, .inl v1)]) X dX9_lay_23 rfl hl (by decide) rfl (fun ls hl => ?_)
    refine q_aload_n X dX9_lay_24 rfl hl 1 rfl ?_
    obtain ⟨t25, e_t25, h⟩ := o_b h
    refine q_gR X hh fa_X9_50 rfl e_t25 dX9_lay_25 ?_
    refine q_iload_n X dX9_lay_28 rfl hl 0 rfl ?_
    refine q_aload_n X dX9_lay_29 rfl hl 1 rfl ?_
    obtain ⟨t30, e_t30, h⟩ := o_b h
    refine q_gI X hh fa_X9_134 rfl e_t30 dX9_lay_30 ?_
    obtain ⟨s33, e_s33, h⟩ := o_b h
    refine q_stI X hh hS e_s33 dX9_lay_33 (fun H locs hh hS => ?_)
    refine lv_iconst (v := (0 : Int32)) X.1 X.2.1 dX9_lay_34 (by decide) ?_
    refine q_istore_n (lv' := [(3, .inl (0 : Int32)), (2, .inl (((12 : Int32) * v1) + t21)), (0, .inr (some t0)), (1, .inl v1)]) X dX9_lay_35 rfl hl (by decide) rfl (fun ls hl => ?_)
    exact K_X9_lay_36 X hret hlk hR FU _ _ _ _ _ _ _ _ hh hS (lk_sub hl [2, 3, 1, 0] rfl) h
  · rw [if_pos c8] at h
    cases h
    exact q_vret X hret hlk hh hS dX9_lay_11
set_option maxRecDepth 100000 in
theorem M_X9_lay (l : Launch) (D : va_G) (dA : Nat → ClassId) (base : Nat) (σ : hp) (t0 : Nat) (v1 : Int32) {z : hp} (h : S_X9_lay σ t0 v1 = some z) : mt l yX9_lay cX9_lay 4 (none) 0 0 D dA base σ [.ref t0, .int v1] none z 0 0 := by
  refine Met.ofW (cc := cX9_lay) (maxL := 4) (ret := none) (by decide) rfl ?_
  intro p e s m args below meth c s₁ B hml hv
  obtain ⟨rfl, hh, hK⟩ := hv
  have X : cx p s m ([.ref t0, .int v1] : List Value).toArray c cX9_lay RX9 4 D dA := ⟨B.exec, B.bytes, findClass_of_methodNamed B.named, hml, fun w hw => atoms_spec (ws := .code yX9_lay cX9_lay 4 (none) :: G) B.pre w (List.mem_cons_of_mem _ hw), hK⟩
  have hl := lk_entry [.inr (some t0), .inl v1] (n := 4) (Nat.le_of_ble_eq_true rfl)
  rw [lg_entry_eq]
  have hl : lk ((lg_sl ([.ref t0, .int v1] : List Value) ++ List.replicate (4 - (lg_sl ([.ref t0, .int v1] : List Value)).length) Slot.unset).toArray) 4 [(0, .inr (some t0)), (1, .inl v1)] := hl
  generalize (lg_sl ([.ref t0, .int v1] : List Value) ++ List.replicate (4 - (lg_sl ([.ref t0, .int v1] : List Value)).length) Slot.unset).toArray = ls at hl ⊢
  exact K_X9_lay_0 X B.returns B.notSynchronized ⟨Nat.le_refl _, Nat.le_refl _⟩ hh va_S.rf hl h
theorem ke_X9_control_0 {z : hp} {σ : hp} {t0 : Nat} {v1 : Int32} {v2 : Int32} {v3 : Int32} (h : S_X9_control σ t0 v1 v2 v3 = some z) : eq4 σ z := by
  unfold S_X9_control at h
  obtain ⟨b9, e_b9, h⟩ := o_b h
  obtain ⟨q9, e_q9, h⟩ := o_b h
  obtain ⟨b14, e_b14, h⟩ := o_b h
  obtain ⟨q14, e_q14, h⟩ := o_b h
  cases h
  exact ((ke_X9_head_0 e_q9)).tr (ke_X9_lay_0 e_q14)
set_option maxHeartbeats 4000000 in
set_option maxRecDepth 100000 in
theorem K_X9_control_0 {p : Program} {l : Launch} {e : Env} {R : Room} {s : State} {m : MethodId} {args : Array Value} {below : List Frame} {meth : Method} {c : Code} {D : va_G} {dA : Nat → ClassId} {base : Nat} {z : hp} (X : cx p s m args c cX9_control RX9 4 D dA) (hret : meth.sig.returnType = none) (hlk : meth.locks = false) (hR : 3 ≤ R.frames ∧ 68 ≤ R.locals) {σ : hp} {t0 : Nat} {v1 : Int32} {v2 : Int32} {v3 : Int32} {H : Heap} {locs : List Loc} {ls : Array Slot} (hh : hw D dA base σ H) (hS : hs base s.heap H locs) (hl : lk ls 4 [(0, .inr (some t0)), (1, .inl v1), (2, .inl v2), (3, .inl v3)]) (h : S_X9_control σ t0 v1 v2 v3 = some z) : W p l e R s m args below meth c H locs 0 0 (MQ below (qG D dA base none z) args s 0 0 (fun q => base ≤ q)) (F0 m 0 ls []) := by
  unfold S_X9_control at h
  refine q_aload_n X dX9_control_0 rfl hl 0 rfl ?_
  refine lv_bipush (v := (9 : Int32)) X.1 X.2.1 dX9_control_1 (by decide) ?_
  refine lv_bipush (v := (8 : Int32)) X.1 X.2.1 dX9_control_3 (by decide) ?_
  refine q_iload_n X dX9_control_5 rfl hl 2 rfl ?_
  refine lv_imul X.1 X.2.1 dX9_control_6 ?_
  refine q_iload_n X dX9_control_7 rfl hl 3 rfl ?_
  refine lv_iadd X.1 X.2.1 dX9_control_8 ?_
  obtain ⟨b9, e_b9, h⟩ := o_b h
  obtain ⟨q9, e_q9, h⟩ := o_b h
  refine q_cV (As := [.int (9 : Int32), .int (((8 : Int32) * v2) + v3)]) X hh hS hl cf_X9_137 (cN := 9) rfl rfl e_b9 rfl (M_X9_head l D dA base σ b9 (9 : Int32) (((8 : Int32) * v2) + v3) e_q9) ⟨Nat.le_trans (by decide) hR.1, Nat.le_trans (by decide) hR.2⟩ (cat8 [] (Nat.le_of_ble_eq_true rfl)) dX9_control_9 ⟨Nat.zero_le _, Nat.zero_le _⟩ rfl rfl (fun H locs hh hS => ?_)
  refine q_aload_n X dX9_control_12 rfl hl 0 rfl ?_
  refine q_iload_n X dX9_control_13 rfl hl 1 rfl ?_
  obtain ⟨b14, e_b14, h⟩ := o_b h
  obtain ⟨q14, e_q14, h⟩ := o_b h
  refine q_cV (As := [.int v1]) X hh hS hl cf_X9_141 (cN := 9) rfl rfl e_b14 rfl (M_X9_lay l D dA base q9 b14 v1 e_q14) ⟨Nat.le_trans (by decide) hR.1, Nat.le_trans (by decide) hR.2⟩ (cat8 [] (Nat.le_of_ble_eq_true rfl)) dX9_control_14 ⟨Nat.zero_le _, Nat.zero_le _⟩ rfl rfl (fun H locs hh hS => ?_)
  cases h
  exact q_vret X hret hlk hh hS dX9_control_17
set_option maxRecDepth 100000 in
theorem M_X9_control (l : Launch) (D : va_G) (dA : Nat → ClassId) (base : Nat) (σ : hp) (t0 : Nat) (v1 : Int32) (v2 : Int32) (v3 : Int32) {z : hp} (h : S_X9_control σ t0 v1 v2 v3 = some z) : mt l yX9_control cX9_control 4 (none) 3 68 D dA base σ [.ref t0, .int v1, .int v2, .int v3] none z 0 0 := by
  refine Met.ofW (cc := cX9_control) (maxL := 4) (ret := none) (by decide) rfl ?_
  intro p e s m args below meth c s₁ B hml hv
  obtain ⟨rfl, hh, hK⟩ := hv
  have X : cx p s m ([.ref t0, .int v1, .int v2, .int v3] : List Value).toArray c cX9_control RX9 4 D dA := ⟨B.exec, B.bytes, findClass_of_methodNamed B.named, hml, fun w hw => atoms_spec (ws := .code yX9_control cX9_control 4 (none) :: G) B.pre w (List.mem_cons_of_mem _ hw), hK⟩
  have hl := lk_entry [.inr (some t0), .inl v1, .inl v2, .inl v3] (n := 4) (Nat.le_of_ble_eq_true rfl)
  rw [lg_entry_eq]
  have hl : lk ((lg_sl ([.ref t0, .int v1, .int v2, .int v3] : List Value) ++ List.replicate (4 - (lg_sl ([.ref t0, .int v1, .int v2, .int v3] : List Value)).length) Slot.unset).toArray) 4 [(0, .inr (some t0)), (1, .inl v1), (2, .inl v2), (3, .inl v3)] := hl
  generalize (lg_sl ([.ref t0, .int v1, .int v2, .int v3] : List Value) ++ List.replicate (4 - (lg_sl ([.ref t0, .int v1, .int v2, .int v3] : List Value)).length) Slot.unset).toArray = ls at hl ⊢
  exact K_X9_control_0 X B.returns B.notSynchronized ⟨Nat.le_refl _, Nat.le_refl _⟩ hh va_S.rf hl h
theorem ke_X9_data_2_b {rec2 : hp → Nat → Int32 → Int32 → Int32 → Option (hp)} {z : hp} (hm2 : ∀ (σ : hp) (t0 : Nat) (v1 : Int32) (v2 : Int32) (v3 : Int32), rec2 σ t0 v1 v2 v3 = some z → eq4 σ z) {σ : hp} {t0 : Nat} {v1 : Int32} {v2 : Int32} {v3 : Int32} (h : S_X9_data_2_b rec2 σ t0 v1 v2 v3 = some z) : eq4 σ z := by
  unfold S_X9_data_2_b at h
  by_cases c5 : (32 : Int32) ≤ v3
  · rw [if_pos c5] at h
    obtain ⟨t47, e_t47, h⟩ := o_b h
    obtain ⟨t55, e_t55, h⟩ := o_b h
    obtain ⟨t59, e_t59, h⟩ := o_b h
    obtain ⟨t63, e_t63, h⟩ := o_b h
    obtain ⟨b65, e_b65, h⟩ := o_b h
    obtain ⟨q65, e_q65, h⟩ := o_b h
    obtain ⟨b70, e_b70, h⟩ := o_b h
    obtain ⟨q70, e_q70, h⟩ := o_b h
    cases h
    exact ((ke_X9_head_0 e_q65)).tr (ke_X9_lay_0 e_q70)
  · rw [if_neg c5] at h
    obtain ⟨t9, e_t9, h⟩ := o_b h
    obtain ⟨t17, e_t17, h⟩ := o_b h
    obtain ⟨t31, e_t31, h⟩ := o_b h
    obtain ⟨s32, e_s32, h⟩ := o_b h
    exact ((e_stI e_s32)).tr (hm2 _ _ _ _ _ h)
theorem ke_X9_data_2 {z : hp} : ∀ (n : Nat) (σ : hp) (t0 : Nat) (v1 : Int32) (v2 : Int32) (v3 : Int32), S_X9_data_2 n σ t0 v1 v2 v3 = some z → eq4 σ z := by
  intro n
  induction n with
  | zero => intro σ t0 v1 v2 v3 h; cases h
  | succ n ih => intro σ t0 v1 v2 v3 h; exact ke_X9_data_2_b ih h
set_option maxHeartbeats 4000000 in
set_option maxRecDepth 100000 in
theorem K_X9_data_2_b {p : Program} {l : Launch} {e : Env} {R : Room} {s : State} {m : MethodId} {args : Array Value} {below : List Frame} {meth : Method} {c : Code} {D : va_G} {dA : Nat → ClassId} {base : Nat} {rec2 : hp → Nat → Int32 → Int32 → Int32 → Option (hp)} {z : hp} (X : cx p s m args c cX9_data RX9 4 D dA) (hret : meth.sig.returnType = none) (hlk : meth.locks = false) (hR : 3 ≤ R.frames ∧ 68 ≤ R.locals) (hr2 : ∀ (σ : hp) (t0 : Nat) (v1 : Int32) (v2 : Int32) (v3 : Int32) (H : Heap) (locs : List Loc) (ls : Array Slot), hw D dA base σ H → hs base s.heap H locs → lk ls 4 [(0, .inr (some t0)), (1, .inl v1), (2, .inl v2), (3, .inl v3)] → rec2 σ t0 v1 v2 v3 = some z → W p l e R s m args below meth c H locs 0 0 (MQ below (qG D dA base none z) args s 0 0 (fun q => base ≤ q)) (F0 m 2 ls [])) {σ : hp} {t0 : Nat} {v1 : Int32} {v2 : Int32} {v3 : Int32} {H : Heap} {locs : List Loc} {ls : Array Slot} (hh : hw D dA base σ H) (hS : hs base s.heap H locs) (hl : lk ls 4 [(0, .inr (some t0)), (1, .inl v1), (2, .inl v2), (3, .inl v3)]) (h : S_X9_data_2_b rec2 σ t0 v1 v2 v3 = some z) : W p l e R s m args below meth c H locs 0 0 (MQ below (qG D dA base none z) args s 0 0 (fun q => base ≤ q)) (F0 m 2 ls []) := by
  unfold S_X9_data_2_b at h
  refine q_iload_n X dX9_data_2 rfl hl 3 rfl ?_
  refine lv_bipush (v := (32 : Int32)) X.1 X.2.1 dX9_data_3 (by decide) ?_
  refine lv_icmp_ge (tgt := 39) X.1 X.2.1 dX9_data_5 (by decide) (fun c5 => ?_) (fun c5 => ?_)
  · rw [if_pos c5] at h
    refine q_aload_n X dX9_data_39 rfl hl 0 rfl ?_
    refine lv_iconst (v := (1 : Int32)) X.1 X.2.1 dX9_data_40 (by decide) ?_
    refine lv_sipush (v := (128 : Int32)) X.1 X.2.1 dX9_data_41 (by decide) ?_
    refine lv_bipush (v := (8 : Int32)) X.1 X.2.1 dX9_data_44 (by decide) ?_
    refine q_aload_n X dX9_data_46 rfl hl 0 rfl ?_
    obtain ⟨t47, e_t47, h⟩ := o_b h
    refine q_gR X hh fa_X9_78 rfl e_t47 dX9_data_47 ?_
    refine lv_iconst (v := (3 : Int32)) X.1 X.2.1 dX9_data_50 (by decide) ?_
    refine q_iload_n X dX9_data_51 rfl hl 1 rfl ?_
    refine lv_imul X.1 X.2.1 dX9_data_52 ?_
    refine q_iload_n X dX9_data_53 rfl hl 2 rfl ?_
    refine lv_iadd X.1 X.2.1 dX9_data_54 ?_
    obtain ⟨t55, e_t55, h⟩ := o_b h
    refine q_ldI X hh e_t55 dX9_data_55 ?_
    refine lv_imul X.1 X.2.1 dX9_data_56 ?_
    refine lv_iadd X.1 X.2.1 dX9_data_57 ?_
    refine q_aload_n X dX9_data_58 rfl hl 0 rfl ?_
    obtain ⟨t59, e_t59, h⟩ := o_b h
    refine q_gR X hh fa_X9_69 rfl e_t59 dX9_data_59 ?_
    refine q_iload_n X dX9_data_62 rfl hl 1 rfl ?_
    obtain ⟨t63, e_t63, h⟩ := o_b h
    refine q_ldI X hh e_t63 dX9_data_63 ?_
    refine lv_iadd X.1 X.2.1 dX9_data_64 ?_
    obtain ⟨b65, e_b65, h⟩ := o_b h
    obtain ⟨q65, e_q65, h⟩ := o_b h
    refine q_cV (As := [.int (1 : Int32), .int (((128 : Int32) + ((8 : Int32) * t55)) + t63)]) X hh hS hl cf_X9_137 (cN := 9) rfl rfl e_b65 rfl (M_X9_head l D dA base σ b65 (1 : Int32) (((128 : Int32) + ((8 : Int32) * t55)) + t63) e_q65) ⟨Nat.le_trans (by decide) hR.1, Nat.le_trans (by decide) hR.2⟩ (cat8 [] (Nat.le_of_ble_eq_true rfl)) dX9_data_65 ⟨Nat.zero_le _, Nat.zero_le _⟩ rfl rfl (fun H locs hh hS => ?_)
    refine q_aload_n X dX9_data_68 rfl hl 0 rfl ?_
    refine q_iload_n X dX9_data_69 rfl hl 1 rfl ?_
    obtain ⟨b70, e_b70, h⟩ := o_b h
    obtain ⟨q70, e_q70, h⟩ := o_b h
    refine q_cV (As := [.int v1]) X hh hS hl cf_X9_141 (cN := 9) rfl rfl e_b70 rfl (M_X9_lay l D dA base q65 b70 v1 e_q70) ⟨Nat.le_trans (by decide) hR.1, Nat.le_trans (by decide) hR.2⟩ (cat8 [] (Nat.le_of_ble_eq_true rfl)) dX9_data_70 ⟨Nat.zero_le _, Nat.zero_le _⟩ rfl rfl (fun H locs hh hS => ?_)
    cases h
    exact q_vret X hret hlk hh hS dX9_data_73
  · rw [if_neg c5] at h
    refine q_aload_n X dX9_data_8 rfl hl 0 rfl ?_
    obtain ⟨t9, e_t9, h⟩ := o_b h
    refine q_gR X hh fa_X9_53 rfl e_t9 dX9_data_9 ?_
    refine lv_bipush (v := (6 : Int32)) X.1 X.2.1 dX9_data_12 (by decide) ?_
    refine q_iload_n X dX9_data_14 rfl hl 3 rfl ?_
    refine lv_iadd X.1 X.2.1 dX9_data_15 ?_
    refine q_aload_n X dX9_data_16 rfl hl 0 rfl ?_
    obtain ⟨t17, e_t17, h⟩ := o_b h
    refine q_gR X hh fa_X9_81 rfl e_t17 dX9_data_17 ?_
    refine lv_bipush (v := (96 : Int32)) X.1 X.2.1 dX9_data_20 (by decide) ?_
    refine q_iload_n X dX9_data_22 rfl hl 1 rfl ?_
    refine lv_imul X.1 X.2.1 dX9_data_23 ?_
    refine lv_bipush (v := (32 : Int32)) X.1 X.2.1 dX9_data_24 (by decide) ?_
    refine q_iload_n X dX9_data_26 rfl hl 2 rfl ?_
    refine lv_imul X.1 X.2.1 dX9_data_27 ?_
    refine lv_iadd X.1 X.2.1 dX9_data_28 ?_
    refine q_iload_n X dX9_data_29 rfl hl 3 rfl ?_
    refine lv_iadd X.1 X.2.1 dX9_data_30 ?_
    obtain ⟨t31, e_t31, h⟩ := o_b h
    refine q_ldI X hh e_t31 dX9_data_31 ?_
    obtain ⟨s32, e_s32, h⟩ := o_b h
    refine q_stI X hh hS e_s32 dX9_data_32 (fun H locs hh hS => ?_)
    refine q_iinc (v := (1 : Int32)) (lv' := [(3, .inl (v3 + (1 : Int32))), (0, .inr (some t0)), (1, .inl v1), (2, .inl v2)]) X dX9_data_33 hl 3 rfl (by decide) (by decide) rfl (fun ls hl => ?_)
    refine lv_goto (tgt := 2) X.1 X.2.1 dX9_data_36 (by decide) ?_
    exact hr2 _ _ _ _ _ _ _ _ hh hS (lk_sub hl [1, 2, 3, 0] rfl) h
theorem K_X9_data_2 {p : Program} {l : Launch} {e : Env} {R : Room} {s : State} {m : MethodId} {args : Array Value} {below : List Frame} {meth : Method} {c : Code} {D : va_G} {dA : Nat → ClassId} {base : Nat} {z : hp} (X : cx p s m args c cX9_data RX9 4 D dA) (hret : meth.sig.returnType = none) (hlk : meth.locks = false) (hR : 3 ≤ R.frames ∧ 68 ≤ R.locals) : ∀ (n : Nat) (σ : hp) (t0 : Nat) (v1 : Int32) (v2 : Int32) (v3 : Int32) (H : Heap) (locs : List Loc) (ls : Array Slot), hw D dA base σ H → hs base s.heap H locs → lk ls 4 [(0, .inr (some t0)), (1, .inl v1), (2, .inl v2), (3, .inl v3)] → S_X9_data_2 n σ t0 v1 v2 v3 = some z → W p l e R s m args below meth c H locs 0 0 (MQ below (qG D dA base none z) args s 0 0 (fun q => base ≤ q)) (F0 m 2 ls []) := by
  intro n
  induction n with
  | zero => intro σ t0 v1 v2 v3 H locs ls hh hS hl h; cases h
  | succ n ih => intro σ t0 v1 v2 v3 H locs ls hh hS hl h; exact K_X9_data_2_b X hret hlk hR ih hh hS hl h
theorem ke_X9_data_0 {z : hp} {σ : hp} {t0 : Nat} {v1 : Int32} {v2 : Int32} (h : S_X9_data σ t0 v1 v2 = some z) : eq4 σ z := by
  unfold S_X9_data at h
  exact (ke_X9_data_2 FU _ _ _ _ _ h)
set_option maxHeartbeats 4000000 in
set_option maxRecDepth 100000 in
theorem K_X9_data_0 {p : Program} {l : Launch} {e : Env} {R : Room} {s : State} {m : MethodId} {args : Array Value} {below : List Frame} {meth : Method} {c : Code} {D : va_G} {dA : Nat → ClassId} {base : Nat} {z : hp} (X : cx p s m args c cX9_data RX9 4 D dA) (hret : meth.sig.returnType = none) (hlk : meth.locks = false) (hR : 3 ≤ R.frames ∧ 68 ≤ R.locals) {σ : hp} {t0 : Nat} {v1 : Int32} {v2 : Int32} {H : Heap} {locs : List Loc} {ls : Array Slot} (hh : hw D dA base σ H) (hS : hs base s.heap H locs) (hl : lk ls 4 [(0, .inr (some t0)), (1, .inl v1), (2, .inl v2)]) (h : S_X9_data σ t0 v1 v2 = some z) : W p l e R s m args below meth c H locs 0 0 (MQ below (qG D dA base none z) args s 0 0 (fun q => base ≤ q)) (F0 m 0 ls []) := by
  unfold S_X9_data at h
  refine lv_iconst (v := (0 : Int32)) X.1 X.2.1 dX9_data_0 (by decide) ?_
  refine q_istore_n (lv' := [(3, .inl (0 : Int32)), (0, .inr (some t0)), (1, .inl v1), (2, .inl v2)]) X dX9_data_1 rfl hl (by decide) rfl (fun ls hl => ?_)
  exact K_X9_data_2 X hret hlk hR FU _ _ _ _ _ _ _ _ hh hS (lk_sub hl [1, 2, 3, 0] rfl) h
set_option maxRecDepth 100000 in
theorem M_X9_data (l : Launch) (D : va_G) (dA : Nat → ClassId) (base : Nat) (σ : hp) (t0 : Nat) (v1 : Int32) (v2 : Int32) {z : hp} (h : S_X9_data σ t0 v1 v2 = some z) : mt l yX9_data cX9_data 4 (none) 3 68 D dA base σ [.ref t0, .int v1, .int v2] none z 0 0 := by
  refine Met.ofW (cc := cX9_data) (maxL := 4) (ret := none) (by decide) rfl ?_
  intro p e s m args below meth c s₁ B hml hv
  obtain ⟨rfl, hh, hK⟩ := hv
  have X : cx p s m ([.ref t0, .int v1, .int v2] : List Value).toArray c cX9_data RX9 4 D dA := ⟨B.exec, B.bytes, findClass_of_methodNamed B.named, hml, fun w hw => atoms_spec (ws := .code yX9_data cX9_data 4 (none) :: G) B.pre w (List.mem_cons_of_mem _ hw), hK⟩
  have hl := lk_entry [.inr (some t0), .inl v1, .inl v2] (n := 4) (Nat.le_of_ble_eq_true rfl)
  rw [lg_entry_eq]
  have hl : lk ((lg_sl ([.ref t0, .int v1, .int v2] : List Value) ++ List.replicate (4 - (lg_sl ([.ref t0, .int v1, .int v2] : List Value)).length) Slot.unset).toArray) 4 [(0, .inr (some t0)), (1, .inl v1), (2, .inl v2)] := hl
  generalize (lg_sl ([.ref t0, .int v1, .int v2] : List Value) ++ List.replicate (4 - (lg_sl ([.ref t0, .int v1, .int v2] : List Value)).length) Slot.unset).toArray = ls at hl ⊢
  exact K_X9_data_0 X B.returns B.notSynchronized ⟨Nat.le_refl _, Nat.le_refl _⟩ hh va_S.rf hl h
set_option maxHeartbeats 4000000 in
set_option maxRecDepth 100000 in
theorem K_X9_isGood_82 {p : Program} {l : Launch} {e : Env} {R : Room} {s : State} {m : MethodId} {args : Array Value} {below : List Frame} {meth : Method} {c : Code} {D : va_G} {dA : Nat → ClassId} {base : Nat} {z : Int32} (X : cx p s m args c cX9_isGood RX9 8 D dA) (hret : meth.sig.returnType = some .boolean) (hlk : meth.locks = false) (hR : 2 ≤ R.frames ∧ 45 ≤ R.locals) {σ : hp} {H : Heap} {locs : List Loc} {ls : Array Slot} (hh : hw D dA base σ H) (hS : hs base s.heap H locs) (hl : lk ls 8 []) (h : S_X9_isGood_82 σ = some z) : W p l e R s m args below meth c H locs 0 0 (MQ below (qG D dA base (some (.int z)) σ) args s 0 0 (fun q => base ≤ q)) (F0 m 82 ls []) := by
  unfold S_X9_isGood_82 at h
  refine lv_iconst (v := (0 : Int32)) X.1 X.2.1 dX9_isGood_82 (by decide) ?_
  cases h
  exact q_zret X hret hlk hh hS (by rfl) dX9_isGood_83
set_option maxHeartbeats 4000000 in
set_option maxRecDepth 100000 in
theorem K_X9_isGood_168 {p : Program} {l : Launch} {e : Env} {R : Room} {s : State} {m : MethodId} {args : Array Value} {below : List Frame} {meth : Method} {c : Code} {D : va_G} {dA : Nat → ClassId} {base : Nat} {z : Int32} (X : cx p s m args c cX9_isGood RX9 8 D dA) (hret : meth.sig.returnType = some .boolean) (hlk : meth.locks = false) (hR : 2 ≤ R.frames ∧ 45 ≤ R.locals) {σ : hp} {w0 : Int32} {H : Heap} {locs : List Loc} {ls : Array Slot} (hh : hw D dA base σ H) (hS : hs base s.heap H locs) (hl : lk ls 8 []) (h : S_X9_isGood_168 σ w0 = some z) : W p l e R s m args below meth c H locs 0 0 (MQ below (qG D dA base (some (.int z)) σ) args s 0 0 (fun q => base ≤ q)) (F0 m 168 ls [.int w0]) := by
  unfold S_X9_isGood_168 at h
  obtain ⟨z168, e_z168, h⟩ := o_b h
  cases h
  exact q_zret X hret hlk hh hS e_z168 dX9_isGood_168
set_option maxHeartbeats 4000000 in
set_option maxRecDepth 100000 in
theorem K_X9_isGood_167 {p : Program} {l : Launch} {e : Env} {R : Room} {s : State} {m : MethodId} {args : Array Value} {below : List Frame} {meth : Method} {c : Code} {D : va_G} {dA : Nat → ClassId} {base : Nat} {z : Int32} (X : cx p s m args c cX9_isGood RX9 8 D dA) (hret : meth.sig.returnType = some .boolean) (hlk : meth.locks = false) (hR : 2 ≤ R.frames ∧ 45 ≤ R.locals) {σ : hp} {H : Heap} {locs : List Loc} {ls : Array Slot} (hh : hw D dA base σ H) (hS : hs base s.heap H locs) (hl : lk ls 8 []) (h : S_X9_isGood_167 σ = some z) : W p l e R s m args below meth c H locs 0 0 (MQ below (qG D dA base (some (.int z)) σ) args s 0 0 (fun q => base ≤ q)) (F0 m 167 ls []) := by
  unfold S_X9_isGood_167 at h
  refine lv_iconst (v := (0 : Int32)) X.1 X.2.1 dX9_isGood_167 (by decide) ?_
  exact K_X9_isGood_168 X hret hlk hR hh hS (lk_sub hl [] rfl) h
set_option maxHeartbeats 4000000 in
set_option maxRecDepth 100000 in
theorem K_X9_isGood_152 {p : Program} {l : Launch} {e : Env} {R : Room} {s : State} {m : MethodId} {args : Array Value} {below : List Frame} {meth : Method} {c : Code} {D : va_G} {dA : Nat → ClassId} {base : Nat} {z : Int32} (X : cx p s m args c cX9_isGood RX9 8 D dA) (hret : meth.sig.returnType = some .boolean) (hlk : meth.locks = false) (hR : 2 ≤ R.frames ∧ 45 ≤ R.locals) {σ : hp} {v2 : Int32} {v3 : Int32} {H : Heap} {locs : List Loc} {ls : Array Slot} (hh : hw D dA base σ H) (hS : hs base s.heap H locs) (hl : lk ls 8 [(2, .inl v2), (3, .inl v3)]) (h : S_X9_isGood_152 σ v2 v3 = some z) : W p l e R s m args below meth c H locs 0 0 (MQ below (qG D dA base (some (.int z)) σ) args s 0 0 (fun q => base ≤ q)) (F0 m 152 ls []) := by
  unfold S_X9_isGood_152 at h
  refine q_iload_n X dX9_isGood_152 rfl hl 1 rfl ?_
  refine q_ldc X ck_X9_130 dX9_isGood_153 ?_
  refine q_iload_n X dX9_isGood_155 rfl hl 0 rfl ?_
  refine lv_isub X.1 X.2.1 dX9_isGood_156 ?_
  refine q_ldc X ck_X9_125 dX9_isGood_157 ?_
  refine lv_iand X.1 X.2.1 dX9_isGood_159 ?_
  refine lv_icmp_ne (tgt := 167) X.1 X.2.1 dX9_isGood_160 (by decide) (fun c160 => ?_) (fun c160 => ?_)
  · rw [if_neg c160] at h
    exact K_X9_isGood_167 X hret hlk hR hh hS (lk_sub hl [] rfl) h
  · rw [if_pos c160] at h
    refine lv_iconst (v := (1 : Int32)) X.1 X.2.1 dX9_isGood_163 (by decide) ?_
    refine lv_goto (tgt := 168) X.1 X.2.1 dX9_isGood_164 (by decide) ?_
    exact K_X9_isGood_168 X hret hlk hR hh hS (lk_sub hl [] rfl) h
set_option maxHeartbeats 4000000 in
set_option maxRecDepth 100000 in
theorem K_X9_isGood_258 {p : Program} {l : Launch} {e : Env} {R : Room} {s : State} {m : MethodId} {args : Array Value} {below : List Frame} {meth : Method} {c : Code} {D : va_G} {dA : Nat → ClassId} {base : Nat} {rec231 : hp → Nat → Int32 → Int32 → Option (Int32)} {z : Int32} (X : cx p s m args c cX9_isGood RX9 8 D dA) (hret : meth.sig.returnType = some .boolean) (hlk : meth.locks = false) (hR : 2 ≤ R.frames ∧ 45 ≤ R.locals) (hr231 : ∀ (σ : hp) (t0 : Nat) (v6 : Int32) (v7 : Int32) (H : Heap) (locs : List Loc) (ls : Array Slot), hw D dA base σ H → hs base s.heap H locs → lk ls 8 [(0, .inr (some t0)), (6, .inl v6), (7, .inl v7)] → rec231 σ t0 v6 v7 = some z → W p l e R s m args below meth c H locs 0 0 (MQ below (qG D dA base (some (.int z)) σ) args s 0 0 (fun q => base ≤ q)) (F0 m 231 ls [])) {σ : hp} {t0 : Nat} {v7 : Int32} {w0 : Int32} {H : Heap} {locs : List Loc} {ls : Array Slot} (hh : hw D dA base σ H) (hS : hs base s.heap H locs) (hl : lk ls 8 [(0, .inr (some t0)), (7, .inl v7)]) (h : S_X9_isGood_258 rec231 σ t0 v7 w0 = some z) : W p l e R s m args below meth c H locs 0 0 (MQ below (qG D dA base (some (.int z)) σ) args s 0 0 (fun q => base ≤ q)) (F0 m 258 ls [.int w0]) := by
  unfold S_X9_isGood_258 at h
  refine q_istore (lv' := [(6, .inl w0), (0, .inr (some t0)), (7, .inl v7)]) X dX9_isGood_258 hl (by decide) rfl (fun ls hl => ?_)
  refine q_iinc (v := (1 : Int32)) (lv' := [(7, .inl (v7 + (1 : Int32))), (6, .inl w0), (0, .inr (some t0))]) X dX9_isGood_260 hl 2 rfl (by decide) (by decide) rfl (fun ls hl => ?_)
  refine lv_goto (tgt := 231) X.1 X.2.1 dX9_isGood_263 (by decide) ?_
  exact hr231 _ _ _ _ _ _ _ hh hS (lk_sub hl [2, 1, 0] rfl) h
set_option maxHeartbeats 4000000 in
set_option maxRecDepth 100000 in
theorem K_X9_isGood_266 {p : Program} {l : Launch} {e : Env} {R : Room} {s : State} {m : MethodId} {args : Array Value} {below : List Frame} {meth : Method} {c : Code} {D : va_G} {dA : Nat → ClassId} {base : Nat} {z : Int32} (X : cx p s m args c cX9_isGood RX9 8 D dA) (hret : meth.sig.returnType = some .boolean) (hlk : meth.locks = false) (hR : 2 ≤ R.frames ∧ 45 ≤ R.locals) {σ : hp} {v6 : Int32} {H : Heap} {locs : List Loc} {ls : Array Slot} (hh : hw D dA base σ H) (hS : hs base s.heap H locs) (hl : lk ls 8 [(6, .inl v6)]) (h : S_X9_isGood_266 σ v6 = some z) : W p l e R s m args below meth c H locs 0 0 (MQ below (qG D dA base (some (.int z)) σ) args s 0 0 (fun q => base ≤ q)) (F0 m 266 ls []) := by
  unfold S_X9_isGood_266 at h
  refine q_iload X dX9_isGood_266 hl 0 rfl ?_
  obtain ⟨z268, e_z268, h⟩ := o_b h
  cases h
  exact q_zret X hret hlk hh hS e_z268 dX9_isGood_268
set_option maxHeartbeats 4000000 in
set_option maxRecDepth 100000 in
theorem K_X9_isGood_231_b {p : Program} {l : Launch} {e : Env} {R : Room} {s : State} {m : MethodId} {args : Array Value} {below : List Frame} {meth : Method} {c : Code} {D : va_G} {dA : Nat → ClassId} {base : Nat} {rec231 : hp → Nat → Int32 → Int32 → Option (Int32)} {z : Int32} (X : cx p s m args c cX9_isGood RX9 8 D dA) (hret : meth.sig.returnType = some .boolean) (hlk : meth.locks = false) (hR : 2 ≤ R.frames ∧ 45 ≤ R.locals) (hr231 : ∀ (σ : hp) (t0 : Nat) (v6 : Int32) (v7 : Int32) (H : Heap) (locs : List Loc) (ls : Array Slot), hw D dA base σ H → hs base s.heap H locs → lk ls 8 [(0, .inr (some t0)), (6, .inl v6), (7, .inl v7)] → rec231 σ t0 v6 v7 = some z → W p l e R s m args below meth c H locs 0 0 (MQ below (qG D dA base (some (.int z)) σ) args s 0 0 (fun q => base ≤ q)) (F0 m 231 ls [])) {σ : hp} {t0 : Nat} {v6 : Int32} {v7 : Int32} {H : Heap} {locs : List Loc} {ls : Array Slot} (hh : hw D dA base σ H) (hS : hs base s.heap H locs) (hl : lk ls 8 [(0, .inr (some t0)), (6, .inl v6), (7, .inl v7)]) (h : S_X9_isGood_231_b rec231 σ t0 v6 v7 = some z) : W p l e R s m args below meth c H locs 0 0 (MQ below (qG D dA base (some (.int z)) σ) args s 0 0 (fun q => base ≤ q)) (F0 m 231 ls []) := by
  unfold S_X9_isGood_231_b at h
  refine q_iload X dX9_isGood_231 hl 2 rfl ?_
  refine lv_bipush (v := (38 : Int32)) X.1 X.2.1 dX9_isGood_233 (by decide) ?_
  refine lv_icmp_ge (tgt := 266) X.1 X.2.1 dX9_isGood_235 (by decide) (fun c235 => ?_) (fun c235 => ?_)
  · rw [if_pos c235] at h
    exact K_X9_isGood_266 X hret hlk hR hh hS (lk_sub hl [1] rfl) h
  · rw [if_neg c235] at h
    refine q_iload X dX9_isGood_238 hl 1 rfl ?_
    refine lv_if_eq (tgt := 266) X.1 X.2.1 dX9_isGood_240 (by decide) (fun c240 => ?_) (fun c240 => ?_)
    · rw [if_pos c240] at h
      exact K_X9_isGood_266 X hret hlk hR hh hS (lk_sub hl [1] rfl) h
    · rw [if_neg c240] at h
      refine q_aload_n X dX9_isGood_243 rfl hl 0 rfl ?_
      obtain ⟨t244, e_t244, h⟩ := o_b h
      refine q_gR X hh fa_X9_53 rfl e_t244 dX9_isGood_244 ?_
      refine q_iload X dX9_isGood_247 hl 2 rfl ?_
      obtain ⟨t249, e_t249, h⟩ := o_b h
      refine q_ldI X hh e_t249 dX9_isGood_249 ?_
      refine lv_if_ne (tgt := 257) X.1 X.2.1 dX9_isGood_250 (by decide) (fun c250 => ?_) (fun c250 => ?_)
      · rw [if_neg c250] at h
        refine lv_iconst (v := (0 : Int32)) X.1 X.2.1 dX9_isGood_257 (by decide) ?_
        exact K_X9_isGood_258 X hret hlk hR hr231 hh hS (lk_sub hl [0, 2] rfl) h
      · rw [if_pos c250] at h
        refine lv_iconst (v := (1 : Int32)) X.1 X.2.1 dX9_isGood_253 (by decide) ?_
        refine lv_goto (tgt := 258) X.1 X.2.1 dX9_isGood_254 (by decide) ?_
        exact K_X9_isGood_258 X hret hlk hR hr231 hh hS (lk_sub hl [0, 2] rfl) h
theorem K_X9_isGood_231 {p : Program} {l : Launch} {e : Env} {R : Room} {s : State} {m : MethodId} {args : Array Value} {below : List Frame} {meth : Method} {c : Code} {D : va_G} {dA : Nat → ClassId} {base : Nat} {z : Int32} (X : cx p s m args c cX9_isGood RX9 8 D dA) (hret : meth.sig.returnType = some .boolean) (hlk : meth.locks = false) (hR : 2 ≤ R.frames ∧ 45 ≤ R.locals) : ∀ (n : Nat) (σ : hp) (t0 : Nat) (v6 : Int32) (v7 : Int32) (H : Heap) (locs : List Loc) (ls : Array Slot), hw D dA base σ H → hs base s.heap H locs → lk ls 8 [(0, .inr (some t0)), (6, .inl v6), (7, .inl v7)] → S_X9_isGood_231 n σ t0 v6 v7 = some z → W p l e R s m args below meth c H locs 0 0 (MQ below (qG D dA base (some (.int z)) σ) args s 0 0 (fun q => base ≤ q)) (F0 m 231 ls []) := by
  intro n
  induction n with
  | zero => intro σ t0 v6 v7 H locs ls hh hS hl h; cases h
  | succ n ih => intro σ t0 v6 v7 H locs ls hh hS hl h; exact K_X9_isGood_231_b X hret hlk hR ih hh hS hl h
set_option maxHeartbeats 4000000 in
set_option maxRecDepth 100000 in
theorem K_X9_isGood_222 {p : Program} {l : Launch} {e : Env} {R : Room} {s : State} {m : MethodId} {args : Array Value} {below : List Frame} {meth : Method} {c : Code} {D : va_G} {dA : Nat → ClassId} {base : Nat} {z : Int32} (X : cx p s m args c cX9_isGood RX9 8 D dA) (hret : meth.sig.returnType = some .boolean) (hlk : meth.locks = false) (hR : 2 ≤ R.frames ∧ 45 ≤ R.locals) {σ : hp} {t0 : Nat} {v5 : Int32} {w0 : Int32} {H : Heap} {locs : List Loc} {ls : Array Slot} (hh : hw D dA base σ H) (hS : hs base s.heap H locs) (hl : lk ls 8 [(0, .inr (some t0)), (5, .inl v5)]) (h : S_X9_isGood_222 σ t0 v5 w0 = some z) : W p l e R s m args below meth c H locs 0 0 (MQ below (qG D dA base (some (.int z)) σ) args s 0 0 (fun q => base ≤ q)) (F0 m 222 ls [.int w0]) := by
  unfold S_X9_isGood_222 at h
  refine q_istore (lv' := [(6, .inl w0), (0, .inr (some t0)), (5, .inl v5)]) X dX9_isGood_222 hl (by decide) rfl (fun ls hl => ?_)
  refine lv_bipush (v := (7 : Int32)) X.1 X.2.1 dX9_isGood_224 (by decide) ?_
  refine q_iload X dX9_isGood_226 hl 2 rfl ?_
  refine lv_iadd X.1 X.2.1 dX9_isGood_228 ?_
  refine q_istore (lv' := [(7, .inl ((7 : Int32) + v5)), (6, .inl w0), (0, .inr (some t0)), (5, .inl v5)]) X dX9_isGood_229 hl (by decide) rfl (fun ls hl => ?_)
  exact K_X9_isGood_231 X hret hlk hR FU _ _ _ _ _ _ _ hh hS (lk_sub hl [2, 1, 0] rfl) h
set_option maxHeartbeats 4000000 in
set_option maxRecDepth 100000 in
theorem K_X9_isGood_221 {p : Program} {l : Launch} {e : Env} {R : Room} {s : State} {m : MethodId} {args : Array Value} {below : List Frame} {meth : Method} {c : Code} {D : va_G} {dA : Nat → ClassId} {base : Nat} {z : Int32} (X : cx p s m args c cX9_isGood RX9 8 D dA) (hret : meth.sig.returnType = some .boolean) (hlk : meth.locks = false) (hR : 2 ≤ R.frames ∧ 45 ≤ R.locals) {σ : hp} {t0 : Nat} {v5 : Int32} {H : Heap} {locs : List Loc} {ls : Array Slot} (hh : hw D dA base σ H) (hS : hs base s.heap H locs) (hl : lk ls 8 [(0, .inr (some t0)), (5, .inl v5)]) (h : S_X9_isGood_221 σ t0 v5 = some z) : W p l e R s m args below meth c H locs 0 0 (MQ below (qG D dA base (some (.int z)) σ) args s 0 0 (fun q => base ≤ q)) (F0 m 221 ls []) := by
  unfold S_X9_isGood_221 at h
  refine lv_iconst (v := (0 : Int32)) X.1 X.2.1 dX9_isGood_221 (by decide) ?_
  exact K_X9_isGood_222 X hret hlk hR hh hS (lk_sub hl [0, 1] rfl) h
set_option maxHeartbeats 4000000 in
set_option maxRecDepth 100000 in
theorem K_X9_isGood_56 {p : Program} {l : Launch} {e : Env} {R : Room} {s : State} {m : MethodId} {args : Array Value} {below : List Frame} {meth : Method} {c : Code} {D : va_G} {dA : Nat → ClassId} {base : Nat} {z : Int32} (X : cx p s m args c cX9_isGood RX9 8 D dA) (hret : meth.sig.returnType = some .boolean) (hlk : meth.locks = false) (hR : 2 ≤ R.frames ∧ 45 ≤ R.locals) {σ : hp} {t0 : Nat} {v1 : Int32} {v2 : Int32} {H : Heap} {locs : List Loc} {ls : Array Slot} (hh : hw D dA base σ H) (hS : hs base s.heap H locs) (hl : lk ls 8 [(0, .inr (some t0)), (1, .inl v1), (2, .inl v2)]) (h : S_X9_isGood_56 σ t0 v1 v2 = some z) : W p l e R s m args below meth c H locs 0 0 (MQ below (qG D dA base (some (.int z)) σ) args s 0 0 (fun q => base ≤ q)) (F0 m 56 ls []) := by
  unfold S_X9_isGood_56 at h
  refine q_aload_n X dX9_isGood_56 rfl hl 0 rfl ?_
  obtain ⟨t57, e_t57, h⟩ := o_b h
  refine q_gR X hh fa_X9_53 rfl e_t57 dX9_isGood_57 ?_
  refine lv_iconst (v := (5 : Int32)) X.1 X.2.1 dX9_isGood_60 (by decide) ?_
  obtain ⟨t61, e_t61, h⟩ := o_b h
  refine q_ldI X hh e_t61 dX9_isGood_61 ?_
  refine q_iload_n X dX9_isGood_62 rfl hl 1 rfl ?_
  refine q_aload_n X dX9_isGood_63 rfl hl 0 rfl ?_
  obtain ⟨t64, e_t64, h⟩ := o_b h
  refine q_gR X hh fa_X9_53 rfl e_t64 dX9_isGood_64 ?_
  refine lv_iconst (v := (2 : Int32)) X.1 X.2.1 dX9_isGood_67 (by decide) ?_
  obtain ⟨t68, e_t68, h⟩ := o_b h
  refine q_ldI X hh e_t68 dX9_isGood_68 ?_
  refine lv_ixor X.1 X.2.1 dX9_isGood_69 ?_
  refine q_aload_n X dX9_isGood_70 rfl hl 0 rfl ?_
  obtain ⟨t71, e_t71, h⟩ := o_b h
  refine q_gR X hh fa_X9_53 rfl e_t71 dX9_isGood_71 ?_
  refine lv_iconst (v := (3 : Int32)) X.1 X.2.1 dX9_isGood_74 (by decide) ?_
  obtain ⟨t75, e_t75, h⟩ := o_b h
  refine q_ldI X hh e_t75 dX9_isGood_75 ?_
  refine lv_ixor X.1 X.2.1 dX9_isGood_76 ?_
  refine q_iload_n X dX9_isGood_77 rfl hl 2 rfl ?_
  refine lv_ixor X.1 X.2.1 dX9_isGood_78 ?_
  refine lv_icmp_eq (tgt := 84) X.1 X.2.1 dX9_isGood_79 (by decide) (fun c79 => ?_) (fun c79 => ?_)
  · rw [if_pos c79] at h
    refine q_aload_n X dX9_isGood_84 rfl hl 0 rfl ?_
    obtain ⟨t85, e_t85, h⟩ := o_b h
    refine q_gR X hh fa_X9_53 rfl e_t85 dX9_isGood_85 ?_
    refine lv_iconst (v := (2 : Int32)) X.1 X.2.1 dX9_isGood_88 (by decide) ?_
    obtain ⟨t89, e_t89, h⟩ := o_b h
    refine q_ldI X hh e_t89 dX9_isGood_89 ?_
    refine q_aload_n X dX9_isGood_90 rfl hl 0 rfl ?_
    obtain ⟨t91, e_t91, h⟩ := o_b h
    refine q_gR X hh fa_X9_53 rfl e_t91 dX9_isGood_91 ?_
    refine lv_iconst (v := (3 : Int32)) X.1 X.2.1 dX9_isGood_94 (by decide) ?_
    obtain ⟨t95, e_t95, h⟩ := o_b h
    refine q_ldI X hh e_t95 dX9_isGood_95 ?_
    refine lv_bipush (v := (8 : Int32)) X.1 X.2.1 dX9_isGood_96 (by decide) ?_
    refine lv_ishl X.1 X.2.1 dX9_isGood_98 ?_
    refine lv_ior X.1 X.2.1 dX9_isGood_99 ?_
    refine q_istore_n (lv' := [(3, .inl (t89 ||| (t95 <<< ((8 : Int32) &&& 31)))), (0, .inr (some t0)), (1, .inl v1), (2, .inl v2)]) X dX9_isGood_100 rfl hl (by decide) rfl (fun ls hl => ?_)
    refine q_iload_n X dX9_isGood_101 rfl hl 3 rfl ?_
    refine lv_iconst (v := (3 : Int32)) X.1 X.2.1 dX9_isGood_102 (by decide) ?_
    refine lv_ishr X.1 X.2.1 dX9_isGood_103 ?_
    refine lv_bipush (v := (7 : Int32)) X.1 X.2.1 dX9_isGood_104 (by decide) ?_
    refine lv_iand X.1 X.2.1 dX9_isGood_106 ?_
    refine q_istore (lv' := [(4, .inl ((v2 >>> ((3 : Int32) &&& 31)) &&& (7 : Int32))), (3, .inl (t89 ||| (t95 <<< ((8 : Int32) &&& 31)))), (0, .inr (some t0)), (1, .inl v1), (2, .inl v2)]) X dX9_isGood_107 hl (by decide) rfl (fun ls hl => ?_)
    refine q_iload_n X dX9_isGood_109 rfl hl 3 rfl ?_
    refine lv_bipush (v := (9 : Int32)) X.1 X.2.1 dX9_isGood_110 (by decide) ?_
    refine lv_icmp_ne (tgt := 169) X.1 X.2.1 dX9_isGood_112 (by decide) (fun c112 => ?_) (fun c112 => ?_)
    · rw [if_neg c112] at h
      refine q_aload_n X dX9_isGood_169 rfl hl 2 rfl ?_
      obtain ⟨t170, e_t170, h⟩ := o_b h
      refine q_gR X hh fa_X9_53 rfl e_t170 dX9_isGood_170 ?_
      refine lv_bipush (v := (6 : Int32)) X.1 X.2.1 dX9_isGood_173 (by decide) ?_
      obtain ⟨t175, e_t175, h⟩ := o_b h
      refine q_ldI X hh e_t175 dX9_isGood_175 ?_
      refine q_istore (lv' := [(5, .inl t175), (4, .inl ((v2 >>> ((3 : Int32) &&& 31)) &&& (7 : Int32))), (3, .inl (t89 ||| (t95 <<< ((8 : Int32) &&& 31)))), (0, .inr (some t0)), (1, .inl v1), (2, .inl v2)]) X dX9_isGood_176 hl (by decide) rfl (fun ls hl => ?_)
      refine q_iload_n X dX9_isGood_178 rfl hl 5 rfl ?_
      refine lv_bipush (v := (6 : Int32)) X.1 X.2.1 dX9_isGood_179 (by decide) ?_
      refine lv_ishr X.1 X.2.1 dX9_isGood_181 ?_
      refine lv_iconst (v := (2 : Int32)) X.1 X.2.1 dX9_isGood_182 (by decide) ?_
      refine lv_icmp_ne (tgt := 221) X.1 X.2.1 dX9_isGood_183 (by decide) (fun c183 => ?_) (fun c183 => ?_)
      · rw [if_neg c183] at h
        exact K_X9_isGood_221 X hret hlk hR hh hS (lk_sub hl [3, 0] rfl) h
      · rw [if_pos c183] at h
        refine q_iload_n X dX9_isGood_186 rfl hl 2 rfl ?_
        refine q_ldc X ck_X9_130 dX9_isGood_187 ?_
        refine q_aload_n X dX9_isGood_189 rfl hl 3 rfl ?_
        refine lv_bipush (v := (6 : Int32)) X.1 X.2.1 dX9_isGood_190 (by decide) ?_
        obtain ⟨b192, e_b192, h⟩ := o_b h
        obtain ⟨q192, e_q192, h⟩ := o_b h
        refine q_cV (As := [.int (6 : Int32)]) X hh hS hl cf_X9_131 (cN := 9) rfl rfl e_b192 rfl (M_X9_sum l D dA base σ b192 (6 : Int32) e_q192) ⟨Nat.le_trans (by decide) hR.1, Nat.le_trans (by decide) hR.2⟩ (cat8 [.inl (43690 : Int32), .inl (t89 ||| (t95 <<< ((8 : Int32) &&& 31)))] (Nat.le_of_ble_eq_true rfl)) dX9_isGood_192 ⟨Nat.zero_le _, Nat.zero_le _⟩ rfl rfl (fun H locs hh hS => ?_)
        refine q_iload_n X dX9_isGood_195 rfl hl 5 rfl ?_
        refine lv_ixor X.1 X.2.1 dX9_isGood_196 ?_
        refine lv_isub X.1 X.2.1 dX9_isGood_197 ?_
        refine q_ldc X ck_X9_125 dX9_isGood_198 ?_
        refine lv_iand X.1 X.2.1 dX9_isGood_200 ?_
        refine lv_icmp_ne (tgt := 221) X.1 X.2.1 dX9_isGood_201 (by decide) (fun c201 => ?_) (fun c201 => ?_)
        · rw [if_neg c201] at h
          exact K_X9_isGood_221 X hret hlk hR hh hS (lk_sub hl [3, 0] rfl) h
        · rw [if_pos c201] at h
          refine q_iload X dX9_isGood_204 hl 0 rfl ?_
          refine lv_iconst (v := (1 : Int32)) X.1 X.2.1 dX9_isGood_206 (by decide) ?_
          refine lv_icmp_lt (tgt := 221) X.1 X.2.1 dX9_isGood_207 (by decide) (fun c207 => ?_) (fun c207 => ?_)
          · rw [if_pos c207] at h
            exact K_X9_isGood_221 X hret hlk hR hh hS (lk_sub hl [3, 0] rfl) h
          · rw [if_neg c207] at h
            refine q_iload X dX9_isGood_210 hl 0 rfl ?_
            refine lv_bipush (v := (31 : Int32)) X.1 X.2.1 dX9_isGood_212 (by decide) ?_
            refine lv_icmp_gt (tgt := 221) X.1 X.2.1 dX9_isGood_214 (by decide) (fun c214 => ?_) (fun c214 => ?_)
            · rw [if_pos c214] at h
              exact K_X9_isGood_221 X hret hlk hR hh hS (lk_sub hl [3, 0] rfl) h
            · rw [if_neg c214] at h
              refine lv_iconst (v := (1 : Int32)) X.1 X.2.1 dX9_isGood_217 (by decide) ?_
              refine lv_goto (tgt := 222) X.1 X.2.1 dX9_isGood_218 (by decide) ?_
              exact K_X9_isGood_222 X hret hlk hR hh hS (lk_sub hl [3, 0] rfl) h
    · rw [if_pos c112] at h
      refine q_iload_n X dX9_isGood_115 rfl hl 4 rfl ?_
      refine lv_bipush (v := (64 : Int32)) X.1 X.2.1 dX9_isGood_116 (by decide) ?_
      refine lv_icmp_ge (tgt := 167) X.1 X.2.1 dX9_isGood_118 (by decide) (fun c118 => ?_) (fun c118 => ?_)
      · rw [if_pos c118] at h
        exact K_X9_isGood_167 X hret hlk hR hh hS (lk_sub hl [] rfl) h
      · rw [if_neg c118] at h
        refine q_iload X dX9_isGood_121 hl 0 rfl ?_
        refine lv_iconst (v := (1 : Int32)) X.1 X.2.1 dX9_isGood_123 (by decide) ?_
        refine lv_icmp_eq (tgt := 152) X.1 X.2.1 dX9_isGood_124 (by decide) (fun c124 => ?_) (fun c124 => ?_)
        · rw [if_pos c124] at h
          exact K_X9_isGood_152 X hret hlk hR hh hS (lk_sub hl [4, 1] rfl) h
        · rw [if_neg c124] at h
          refine q_iload X dX9_isGood_127 hl 0 rfl ?_
          refine lv_iconst (v := (2 : Int32)) X.1 X.2.1 dX9_isGood_129 (by decide) ?_
          refine lv_icmp_eq (tgt := 152) X.1 X.2.1 dX9_isGood_130 (by decide) (fun c130 => ?_) (fun c130 => ?_)
          · rw [if_pos c130] at h
            exact K_X9_isGood_152 X hret hlk hR hh hS (lk_sub hl [4, 1] rfl) h
          · rw [if_neg c130] at h
            refine q_iload X dX9_isGood_133 hl 0 rfl ?_
            refine lv_iconst (v := (4 : Int32)) X.1 X.2.1 dX9_isGood_135 (by decide) ?_
            refine lv_icmp_eq (tgt := 152) X.1 X.2.1 dX9_isGood_136 (by decide) (fun c136 => ?_) (fun c136 => ?_)
            · rw [if_pos c136] at h
              exact K_X9_isGood_152 X hret hlk hR hh hS (lk_sub hl [4, 1] rfl) h
            · rw [if_neg c136] at h
              refine q_iload X dX9_isGood_139 hl 0 rfl ?_
              refine lv_iconst (v := (5 : Int32)) X.1 X.2.1 dX9_isGood_141 (by decide) ?_
              refine lv_icmp_eq (tgt := 152) X.1 X.2.1 dX9_isGood_142 (by decide) (fun c142 => ?_) (fun c142 => ?_)
              · rw [if_pos c142] at h
                exact K_X9_isGood_152 X hret hlk hR hh hS (lk_sub hl [4, 1] rfl) h
              · rw [if_neg c142] at h
                refine q_iload X dX9_isGood_145 hl 0 rfl ?_
                refine lv_bipush (v := (7 : Int32)) X.1 X.2.1 dX9_isGood_147 (by decide) ?_
                refine lv_icmp_ne (tgt := 167) X.1 X.2.1 dX9_isGood_149 (by decide) (fun c149 => ?_) (fun c149 => ?_)
                · rw [if_neg c149] at h
                  exact K_X9_isGood_167 X hret hlk hR hh hS (lk_sub hl [] rfl) h
                · rw [if_pos c149] at h
                  exact K_X9_isGood_152 X hret hlk hR hh hS (lk_sub hl [4, 1] rfl) h
  · rw [if_neg c79] at h
    exact K_X9_isGood_82 X hret hlk hR hh hS (lk_sub hl [] rfl) h
set_option maxHeartbeats 4000000 in
set_option maxRecDepth 100000 in
theorem K_X9_isGood_42 {p : Program} {l : Launch} {e : Env} {R : Room} {s : State} {m : MethodId} {args : Array Value} {below : List Frame} {meth : Method} {c : Code} {D : va_G} {dA : Nat → ClassId} {base : Nat} {z : Int32} (X : cx p s m args c cX9_isGood RX9 8 D dA) (hret : meth.sig.returnType = some .boolean) (hlk : meth.locks = false) (hR : 2 ≤ R.frames ∧ 45 ≤ R.locals) {σ : hp} {t0 : Nat} {v1 : Int32} {v2 : Int32} {w0 : Int32} {w1 : Int32} {H : Heap} {locs : List Loc} {ls : Array Slot} (hh : hw D dA base σ H) (hS : hs base s.heap H locs) (hl : lk ls 8 [(0, .inr (some t0)), (1, .inl v1), (2, .inl v2)]) (h : S_X9_isGood_42 σ t0 v1 v2 w0 w1 = some z) : W p l e R s m args below meth c H locs 0 0 (MQ below (qG D dA base (some (.int z)) σ) args s 0 0 (fun q => base ≤ q)) (F0 m 42 ls [.int w1, .int w0]) := by
  unfold S_X9_isGood_42 at h
  refine lv_icmp_ne (tgt := 82) X.1 X.2.1 dX9_isGood_42 (by decide) (fun c42 => ?_) (fun c42 => ?_)
  · rw [if_neg c42] at h
    exact K_X9_isGood_82 X hret hlk hR hh hS (lk_sub hl [] rfl) h
  · rw [if_pos c42] at h
    refine q_iload_n X dX9_isGood_45 rfl hl 1 rfl ?_
    refine lv_bipush (v := (9 : Int32)) X.1 X.2.1 dX9_isGood_46 (by decide) ?_
    refine lv_icmp_eq (tgt := 56) X.1 X.2.1 dX9_isGood_48 (by decide) (fun c48 => ?_) (fun c48 => ?_)
    · rw [if_pos c48] at h
      exact K_X9_isGood_56 X hret hlk hR hh hS (lk_sub hl [0, 1, 2] rfl) h
    · rw [if_neg c48] at h
      refine q_iload_n X dX9_isGood_51 rfl hl 1 rfl ?_
      refine lv_iconst (v := (1 : Int32)) X.1 X.2.1 dX9_isGood_52 (by decide) ?_
      refine lv_icmp_ne (tgt := 82) X.1 X.2.1 dX9_isGood_53 (by decide) (fun c53 => ?_) (fun c53 => ?_)
      · rw [if_neg c53] at h
        exact K_X9_isGood_82 X hret hlk hR hh hS (lk_sub hl [] rfl) h
      · rw [if_pos c53] at h
        exact K_X9_isGood_56 X hret hlk hR hh hS (lk_sub hl [0, 1, 2] rfl) h
set_option maxHeartbeats 4000000 in
set_option maxRecDepth 100000 in
theorem K_X9_isGood_0 {p : Program} {l : Launch} {e : Env} {R : Room} {s : State} {m : MethodId} {args : Array Value} {below : List Frame} {meth : Method} {c : Code} {D : va_G} {dA : Nat → ClassId} {base : Nat} {z : Int32} (X : cx p s m args c cX9_isGood RX9 8 D dA) (hret : meth.sig.returnType = some .boolean) (hlk : meth.locks = false) (hR : 2 ≤ R.frames ∧ 45 ≤ R.locals) {σ : hp} {t0 : Nat} {H : Heap} {locs : List Loc} {ls : Array Slot} (hh : hw D dA base σ H) (hS : hs base s.heap H locs) (hl : lk ls 8 [(0, .inr (some t0))]) (h : S_X9_isGood σ t0 = some z) : W p l e R s m args below meth c H locs 0 0 (MQ below (qG D dA base (some (.int z)) σ) args s 0 0 (fun q => base ≤ q)) (F0 m 0 ls []) := by
  unfold S_X9_isGood at h
  refine q_aload_n X dX9_isGood_0 rfl hl 0 rfl ?_
  obtain ⟨t1, e_t1, h⟩ := o_b h
  refine q_gR X hh fa_X9_53 rfl e_t1 dX9_isGood_1 ?_
  refine lv_iconst (v := (1 : Int32)) X.1 X.2.1 dX9_isGood_4 (by decide) ?_
  obtain ⟨t5, e_t5, h⟩ := o_b h
  refine q_ldI X hh e_t5 dX9_isGood_5 ?_
  refine q_istore_n (lv' := [(1, .inl t5), (0, .inr (some t0))]) X dX9_isGood_6 rfl hl (by decide) rfl (fun ls hl => ?_)
  refine q_aload_n X dX9_isGood_7 rfl hl 1 rfl ?_
  obtain ⟨t8, e_t8, h⟩ := o_b h
  refine q_gR X hh fa_X9_53 rfl e_t8 dX9_isGood_8 ?_
  refine lv_iconst (v := (4 : Int32)) X.1 X.2.1 dX9_isGood_11 (by decide) ?_
  obtain ⟨t12, e_t12, h⟩ := o_b h
  refine q_ldI X hh e_t12 dX9_isGood_12 ?_
  refine q_istore_n (lv' := [(2, .inl t12), (1, .inl t5), (0, .inr (some t0))]) X dX9_isGood_13 rfl hl (by decide) rfl (fun ls hl => ?_)
  refine q_aload_n X dX9_isGood_14 rfl hl 2 rfl ?_
  obtain ⟨t15, e_t15, h⟩ := o_b h
  refine q_gR X hh fa_X9_53 rfl e_t15 dX9_isGood_15 ?_
  refine lv_iconst (v := (0 : Int32)) X.1 X.2.1 dX9_isGood_18 (by decide) ?_
  obtain ⟨t19, e_t19, h⟩ := o_b h
  refine q_ldI X hh e_t19 dX9_isGood_19 ?_
  refine lv_bipush (v := (16 : Int32)) X.1 X.2.1 dX9_isGood_20 (by decide) ?_
  refine lv_icmp_ne (tgt := 82) X.1 X.2.1 dX9_isGood_22 (by decide) (fun c22 => ?_) (fun c22 => ?_)
  · rw [if_neg c22] at h
    exact K_X9_isGood_82 X hret hlk hR hh hS (lk_sub hl [] rfl) h
  · rw [if_pos c22] at h
    refine q_aload_n X dX9_isGood_25 rfl hl 2 rfl ?_
    obtain ⟨t26, e_t26, h⟩ := o_b h
    refine q_gI X hh fa_X9_134 rfl e_t26 dX9_isGood_26 ?_
    refine q_iload_n X dX9_isGood_29 rfl hl 1 rfl ?_
    refine lv_bipush (v := (9 : Int32)) X.1 X.2.1 dX9_isGood_30 (by decide) ?_
    refine lv_icmp_ne (tgt := 40) X.1 X.2.1 dX9_isGood_32 (by decide) (fun c32 => ?_) (fun c32 => ?_)
    · rw [if_neg c32] at h
      refine lv_bipush (v := (38 : Int32)) X.1 X.2.1 dX9_isGood_40 (by decide) ?_
      exact K_X9_isGood_42 X hret hlk hR hh hS (lk_sub hl [2, 1, 0] rfl) h
    · rw [if_pos c32] at h
      refine lv_bipush (v := (6 : Int32)) X.1 X.2.1 dX9_isGood_35 (by decide) ?_
      refine lv_goto (tgt := 42) X.1 X.2.1 dX9_isGood_37 (by decide) ?_
      exact K_X9_isGood_42 X hret hlk hR hh hS (lk_sub hl [2, 1, 0] rfl) h
set_option maxRecDepth 100000 in
theorem M_X9_isGood (l : Launch) (D : va_G) (dA : Nat → ClassId) (base : Nat) (σ : hp) (t0 : Nat) {z : Int32} (h : S_X9_isGood σ t0 = some z) : mt l yX9_isGood cX9_isGood 8 (some .boolean) 2 45 D dA base σ [.ref t0] (some (.int z)) σ 0 0 := by
  refine Met.ofW (cc := cX9_isGood) (maxL := 8) (ret := some .boolean) (by decide) rfl ?_
  intro p e s m args below meth c s₁ B hml hv
  obtain ⟨rfl, hh, hK⟩ := hv
  have X : cx p s m ([.ref t0] : List Value).toArray c cX9_isGood RX9 8 D dA := ⟨B.exec, B.bytes, findClass_of_methodNamed B.named, hml, fun w hw => atoms_spec (ws := .code yX9_isGood cX9_isGood 8 (some .boolean) :: G) B.pre w (List.mem_cons_of_mem _ hw), hK⟩
  have hl := lk_entry [.inr (some t0)] (n := 8) (Nat.le_of_ble_eq_true rfl)
  rw [lg_entry_eq]
  have hl : lk ((lg_sl ([.ref t0] : List Value) ++ List.replicate (8 - (lg_sl ([.ref t0] : List Value)).length) Slot.unset).toArray) 8 [(0, .inr (some t0))] := hl
  generalize (lg_sl ([.ref t0] : List Value) ++ List.replicate (8 - (lg_sl ([.ref t0] : List Value)).length) Slot.unset).toArray = ls at hl ⊢
  exact K_X9_isGood_0 X B.returns B.notSynchronized ⟨Nat.le_refl _, Nat.le_refl _⟩ hh va_S.rf hl h
