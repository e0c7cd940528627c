/-! Walks: written by wip/whole/gen/emit.py. X9_queued X9_executed X9_file X9_times -/
set_option maxHeartbeats 4000000 in
set_option maxRecDepth 100000 in
theorem K_X9_queued_36 {p : Program} {l : Launch} {e : Env} {R : Room} {s : State} {m : MethodId} {args : Array Value} {below : List Frame} {meth : Method} {c : Code} {D : va_G} {dA : Nat → ClassId} {base : Nat} {z : Int32} (X : cx p s m args c cX9_queued RX9 3 D dA) (hret : meth.sig.returnType = some .int) (hlk : meth.locks = false) (hR : 1 ≤ R.frames ∧ 20 ≤ R.locals) {σ : hp} {w0 : Int32} {H : Heap} {locs : List Loc} {ls : Array Slot} (hh : hw D dA base σ H) (hS : hs base s.heap H locs) (hl : lk ls 3 []) (h : S_X9_queued_36 σ w0 = some z) : W p l e R s m args below meth c H locs 0 0 (MQ below (qG D dA base (some (.int z)) σ) args s 0 0 (fun q => base ≤ q)) (F0 m 36 ls [.int w0]) := by
  unfold S_X9_queued_36 at h
  cases h
  exact q_iret X hret hlk hh hS dX9_queued_36
set_option maxHeartbeats 4000000 in
set_option maxRecDepth 100000 in
theorem K_X9_queued_21 {p : Program} {l : Launch} {e : Env} {R : Room} {s : State} {m : MethodId} {args : Array Value} {below : List Frame} {meth : Method} {c : Code} {D : va_G} {dA : Nat → ClassId} {base : Nat} {z : Int32} (X : cx p s m args c cX9_queued RX9 3 D dA) (hret : meth.sig.returnType = some .int) (hlk : meth.locks = false) (hR : 1 ≤ R.frames ∧ 20 ≤ R.locals) {σ : hp} {H : Heap} {locs : List Loc} {ls : Array Slot} (hh : hw D dA base σ H) (hS : hs base s.heap H locs) (hl : lk ls 3 []) (h : S_X9_queued_21 σ = some z) : W p l e R s m args below meth c H locs 0 0 (MQ below (qG D dA base (some (.int z)) σ) args s 0 0 (fun q => base ≤ q)) (F0 m 21 ls []) := by
  unfold S_X9_queued_21 at h
  refine lv_iconst (v := (-1 : Int32)) X.1 X.2.1 dX9_queued_21 (by decide) ?_
  refine lv_goto (tgt := 36) X.1 X.2.1 dX9_queued_22 (by decide) ?_
  exact K_X9_queued_36 X hret hlk hR hh hS (lk_sub hl [] rfl) h
set_option maxHeartbeats 4000000 in
set_option maxRecDepth 100000 in
theorem K_X9_queued_0 {p : Program} {l : Launch} {e : Env} {R : Room} {s : State} {m : MethodId} {args : Array Value} {below : List Frame} {meth : Method} {c : Code} {D : va_G} {dA : Nat → ClassId} {base : Nat} {z : Int32} (X : cx p s m args c cX9_queued RX9 3 D dA) (hret : meth.sig.returnType = some .int) (hlk : meth.locks = false) (hR : 1 ≤ R.frames ∧ 20 ≤ R.locals) {σ : hp} {t0 : Nat} {v1 : Int32} {v2 : Int32} {H : Heap} {locs : List Loc} {ls : Array Slot} (hh : hw D dA base σ H) (hS : hs base s.heap H locs) (hl : lk ls 3 [(0, .inr (some t0)), (1, .inl v1), (2, .inl v2)]) (h : S_X9_queued σ t0 v1 v2 = some z) : W p l e R s m args below meth c H locs 0 0 (MQ below (qG D dA base (some (.int z)) σ) args s 0 0 (fun q => base ≤ q)) (F0 m 0 ls []) := by
  unfold S_X9_queued at h
  refine q_iload_n X dX9_queued_0 rfl hl 1 rfl ?_
  obtain ⟨q1, e_q1, h⟩ := o_b h
  refine q_cS (As := [.int v1]) X hh hS hl cf_X9_121 rfl (M_X9_isSite l D dA base σ v1 e_q1) ⟨Nat.le_trans (by decide) hR.1, Nat.le_trans (by decide) hR.2⟩ (cat8 [] (Nat.le_of_ble_eq_true rfl)) dX9_queued_1 ⟨Nat.zero_le _, Nat.zero_le _⟩ rfl rfl (fun H locs hh hS => ?_)
  refine lv_if_eq (tgt := 21) X.1 X.2.1 dX9_queued_4 (by decide) (fun c4 => ?_) (fun c4 => ?_)
  · rw [if_pos c4] at h
    exact K_X9_queued_21 X hret hlk hR hh hS (lk_sub hl [] rfl) h
  · rw [if_neg c4] at h
    refine q_iload_n X dX9_queued_7 rfl hl 2 rfl ?_
    refine lv_if_lt (tgt := 21) X.1 X.2.1 dX9_queued_8 (by decide) (fun c8 => ?_) (fun c8 => ?_)
    · rw [if_pos c8] at h
      exact K_X9_queued_21 X hret hlk hR hh hS (lk_sub hl [] rfl) h
    · rw [if_neg c8] at h
      refine q_iload_n X dX9_queued_11 rfl hl 2 rfl ?_
      refine q_aload_n X dX9_queued_12 rfl hl 0 rfl ?_
      obtain ⟨t13, e_t13, h⟩ := o_b h
      refine q_gR X hh fa_X9_19 rfl e_t13 dX9_queued_13 ?_
      refine q_iload_n X dX9_queued_16 rfl hl 1 rfl ?_
      obtain ⟨t17, e_t17, h⟩ := o_b h
      refine q_ldI X hh e_t17 dX9_queued_17 ?_
      refine lv_icmp_lt (tgt := 25) X.1 X.2.1 dX9_queued_18 (by decide) (fun c18 => ?_) (fun c18 => ?_)
      · rw [if_pos c18] at h
        refine q_aload_n X dX9_queued_25 rfl hl 0 rfl ?_
        obtain ⟨t26, e_t26, h⟩ := o_b h
        refine q_gR X hh fa_X9_22 rfl e_t26 dX9_queued_26 ?_
        refine lv_bipush (v := (30 : Int32)) X.1 X.2.1 dX9_queued_29 (by decide) ?_
        refine q_iload_n X dX9_queued_31 rfl hl 1 rfl ?_
        refine lv_imul X.1 X.2.1 dX9_queued_32 ?_
        refine q_iload_n X dX9_queued_33 rfl hl 2 rfl ?_
        refine lv_iadd X.1 X.2.1 dX9_queued_34 ?_
        obtain ⟨t35, e_t35, h⟩ := o_b h
        refine q_ldI X hh e_t35 dX9_queued_35 ?_
        exact K_X9_queued_36 X hret hlk hR hh hS (lk_sub hl [] rfl) h
      · rw [if_neg c18] at h
        exact K_X9_queued_21 X hret hlk hR hh hS (lk_sub hl [] rfl) h
set_option maxRecDepth 100000 in
theorem M_X9_queued (l : Launch) (D : va_G) (dA : Nat → ClassId) (base : Nat) (σ : hp) (t0 : Nat) (v1 : Int32) (v2 : Int32) {z : Int32} (h : S_X9_queued σ t0 v1 v2 = some z) : mt l yX9_queued cX9_queued 3 (some .int) 1 20 D dA base σ [.ref t0, .int v1, .int v2] (some (.int z)) σ 0 0 := by
  refine Met.ofW (cc := cX9_queued) (maxL := 3) (ret := some .int) (by decide) rfl ?_
  intro p e s m args below meth c s₁ B hml hv
  obtain ⟨rfl, hh, hK⟩ := hv
  have X : cx p s m ([.ref t0, .int v1, .int v2] : List Value).toArray c cX9_queued RX9 3 D dA := ⟨B.exec, B.bytes, findClass_of_methodNamed B.named, hml, fun w hw => atoms_spec (ws := .code yX9_queued cX9_queued 3 (some .int) :: G) B.pre w (List.mem_cons_of_mem _ hw), hK⟩
  have hl := lk_entry [.inr (some t0), .inl v1, .inl v2] (n := 3) (Nat.le_of_ble_eq_true rfl)
  rw [lg_entry_eq]
  have hl : lk ((lg_sl ([.ref t0, .int v1, .int v2] : List Value) ++ List.replicate (3 - (lg_sl ([.ref t0, .int v1, .int v2] : List Value)).length) Slot.unset).toArray) 3 [(0, .inr (some t0)), (1, .inl v1), (2, .inl v2)] := hl
  generalize (lg_sl ([.ref t0, .int v1, .int v2] : List Value) ++ List.replicate (3 - (lg_sl ([.ref t0, .int v1, .int v2] : List Value)).length) Slot.unset).toArray = ls at hl ⊢
  exact K_X9_queued_0 X B.returns B.notSynchronized ⟨Nat.le_refl _, Nat.le_refl _⟩ hh va_S.rf hl h
set_option maxHeartbeats 4000000 in
set_option maxRecDepth 100000 in
theorem K_X9_executed_37 {p : Program} {l : Launch} {e : Env} {R : Room} {s : State} {m : MethodId} {args : Array Value} {below : List Frame} {meth : Method} {c : Code} {D : va_G} {dA : Nat → ClassId} {base : Nat} {z : Int32} (X : cx p s m args c cX9_executed RX9 3 D dA) (hret : meth.sig.returnType = some .int) (hlk : meth.locks = false) (hR : 1 ≤ R.frames ∧ 20 ≤ R.locals) {σ : hp} {w0 : Int32} {H : Heap} {locs : List Loc} {ls : Array Slot} (hh : hw D dA base σ H) (hS : hs base s.heap H locs) (hl : lk ls 3 []) (h : S_X9_executed_37 σ w0 = some z) : W p l e R s m args below meth c H locs 0 0 (MQ below (qG D dA base (some (.int z)) σ) args s 0 0 (fun q => base ≤ q)) (F0 m 37 ls [.int w0]) := by
  unfold S_X9_executed_37 at h
  cases h
  exact q_iret X hret hlk hh hS dX9_executed_37
set_option maxHeartbeats 4000000 in
set_option maxRecDepth 100000 in
theorem K_X9_executed_21 {p : Program} {l : Launch} {e : Env} {R : Room} {s : State} {m : MethodId} {args : Array Value} {below : List Frame} {meth : Method} {c : Code} {D : va_G} {dA : Nat → ClassId} {base : Nat} {z : Int32} (X : cx p s m args c cX9_executed RX9 3 D dA) (hret : meth.sig.returnType = some .int) (hlk : meth.locks = false) (hR : 1 ≤ R.frames ∧ 20 ≤ R.locals) {σ : hp} {H : Heap} {locs : List Loc} {ls : Array Slot} (hh : hw D dA base σ H) (hS : hs base s.heap H locs) (hl : lk ls 3 []) (h : S_X9_executed_21 σ = some z) : W p l e R s m args below meth c H locs 0 0 (MQ below (qG D dA base (some (.int z)) σ) args s 0 0 (fun q => base ≤ q)) (F0 m 21 ls []) := by
  unfold S_X9_executed_21 at h
  refine lv_iconst (v := (-1 : Int32)) X.1 X.2.1 dX9_executed_21 (by decide) ?_
  refine lv_goto (tgt := 37) X.1 X.2.1 dX9_executed_22 (by decide) ?_
  exact K_X9_executed_37 X hret hlk hR hh hS (lk_sub hl [] rfl) h
set_option maxHeartbeats 4000000 in
set_option maxRecDepth 100000 in
theorem K_X9_executed_0 {p : Program} {l : Launch} {e : Env} {R : Room} {s : State} {m : MethodId} {args : Array Value} {below : List Frame} {meth : Method} {c : Code} {D : va_G} {dA : Nat → ClassId} {base : Nat} {z : Int32} (X : cx p s m args c cX9_executed RX9 3 D dA) (hret : meth.sig.returnType = some .int) (hlk : meth.locks = false) (hR : 1 ≤ R.frames ∧ 20 ≤ R.locals) {σ : hp} {t0 : Nat} {v1 : Int32} {v2 : Int32} {H : Heap} {locs : List Loc} {ls : Array Slot} (hh : hw D dA base σ H) (hS : hs base s.heap H locs) (hl : lk ls 3 [(0, .inr (some t0)), (1, .inl v1), (2, .inl v2)]) (h : S_X9_executed σ t0 v1 v2 = some z) : W p l e R s m args below meth c H locs 0 0 (MQ below (qG D dA base (some (.int z)) σ) args s 0 0 (fun q => base ≤ q)) (F0 m 0 ls []) := by
  unfold S_X9_executed at h
  refine q_iload_n X dX9_executed_0 rfl hl 1 rfl ?_
  obtain ⟨q1, e_q1, h⟩ := o_b h
  refine q_cS (As := [.int v1]) X hh hS hl cf_X9_121 rfl (M_X9_isSite l D dA base σ v1 e_q1) ⟨Nat.le_trans (by decide) hR.1, Nat.le_trans (by decide) hR.2⟩ (cat8 [] (Nat.le_of_ble_eq_true rfl)) dX9_executed_1 ⟨Nat.zero_le _, Nat.zero_le _⟩ rfl rfl (fun H locs hh hS => ?_)
  refine lv_if_eq (tgt := 21) X.1 X.2.1 dX9_executed_4 (by decide) (fun c4 => ?_) (fun c4 => ?_)
  · rw [if_pos c4] at h
    exact K_X9_executed_21 X hret hlk hR hh hS (lk_sub hl [] rfl) h
  · rw [if_neg c4] at h
    refine q_iload_n X dX9_executed_7 rfl hl 2 rfl ?_
    refine lv_if_lt (tgt := 21) X.1 X.2.1 dX9_executed_8 (by decide) (fun c8 => ?_) (fun c8 => ?_)
    · rw [if_pos c8] at h
      exact K_X9_executed_21 X hret hlk hR hh hS (lk_sub hl [] rfl) h
    · rw [if_neg c8] at h
      refine q_iload_n X dX9_executed_11 rfl hl 2 rfl ?_
      refine q_aload_n X dX9_executed_12 rfl hl 0 rfl ?_
      obtain ⟨t13, e_t13, h⟩ := o_b h
      refine q_gR X hh fa_X9_25 rfl e_t13 dX9_executed_13 ?_
      refine q_iload_n X dX9_executed_16 rfl hl 1 rfl ?_
      obtain ⟨t17, e_t17, h⟩ := o_b h
      refine q_ldI X hh e_t17 dX9_executed_17 ?_
      refine lv_icmp_lt (tgt := 25) X.1 X.2.1 dX9_executed_18 (by decide) (fun c18 => ?_) (fun c18 => ?_)
      · rw [if_pos c18] at h
        refine q_aload_n X dX9_executed_25 rfl hl 0 rfl ?_
        obtain ⟨t26, e_t26, h⟩ := o_b h
        refine q_gR X hh fa_X9_28 rfl e_t26 dX9_executed_26 ?_
        refine lv_sipush (v := (256 : Int32)) X.1 X.2.1 dX9_executed_29 (by decide) ?_
        refine q_iload_n X dX9_executed_32 rfl hl 1 rfl ?_
        refine lv_imul X.1 X.2.1 dX9_executed_33 ?_
        refine q_iload_n X dX9_executed_34 rfl hl 2 rfl ?_
        refine lv_iadd X.1 X.2.1 dX9_executed_35 ?_
        obtain ⟨t36, e_t36, h⟩ := o_b h
        refine q_ldI X hh e_t36 dX9_executed_36 ?_
        exact K_X9_executed_37 X hret hlk hR hh hS (lk_sub hl [] rfl) h
      · rw [if_neg c18] at h
        exact K_X9_executed_21 X hret hlk hR hh hS (lk_sub hl [] rfl) h
set_option maxRecDepth 100000 in
theorem M_X9_executed (l : Launch) (D : va_G) (dA : Nat → ClassId) (base : Nat) (σ : hp) (t0 : Nat) (v1 : Int32) (v2 : Int32) {z : Int32} (h : S_X9_executed σ t0 v1 v2 = some z) : mt l yX9_executed cX9_executed 3 (some .int) 1 20 D dA base σ [.ref t0, .int v1, .int v2] (some (.int z)) σ 0 0 := by
  refine Met.ofW (cc := cX9_executed) (maxL := 3) (ret := some .int) (by decide) rfl ?_
  intro p e s m args below meth c s₁ B hml hv
  obtain ⟨rfl, hh, hK⟩ := hv
  have X : cx p s m ([.ref t0, .int v1, .int v2] : List Value).toArray c cX9_executed RX9 3 D dA := ⟨B.exec, B.bytes, findClass_of_methodNamed B.named, hml, fun w hw => atoms_spec (ws := .code yX9_executed cX9_executed 3 (some .int) :: G) B.pre w (List.mem_cons_of_mem _ hw), hK⟩
  have hl := lk_entry [.inr (some t0), .inl v1, .inl v2] (n := 3) (Nat.le_of_ble_eq_true rfl)
  rw [lg_entry_eq]
  have hl : lk ((lg_sl ([.ref t0, .int v1, .int v2] : List Value) ++ List.replicate (3 - (lg_sl ([.ref t0, .int v1, .int v2] : List Value)).length) Slot.unset).toArray) 3 [(0, .inr (some t0)), (1, .inl v1), (2, .inl v2)] := hl
  generalize (lg_sl ([.ref t0, .int v1, .int v2] : List Value) ++ List.replicate (3 - (lg_sl ([.ref t0, .int v1, .int v2] : List Value)).length) Slot.unset).toArray = ls at hl ⊢
  exact K_X9_executed_0 X B.returns B.notSynchronized ⟨Nat.le_refl _, Nat.le_refl _⟩ hh va_S.rf hl h
set_option maxHeartbeats 4000000 in
set_option maxRecDepth 100000 in
theorem K_X9_file_51 {p : Program} {l : Launch} {e : Env} {R : Room} {s : State} {m : MethodId} {args : Array Value} {below : List Frame} {meth : Method} {c : Code} {D : va_G} {dA : Nat → ClassId} {base : Nat} {z : Int32} (X : cx p s m args c cX9_file RX9 4 D dA) (hret : meth.sig.returnType = some .int) (hlk : meth.locks = false) (hR : 2 ≤ R.frames ∧ 42 ≤ R.locals) {σ : hp} {w0 : Int32} {H : Heap} {locs : List Loc} {ls : Array Slot} (hh : hw D dA base σ H) (hS : hs base s.heap H locs) (hl : lk ls 4 []) (h : S_X9_file_51 σ w0 = some z) : W p l e R s m args below meth c H locs 0 0 (MQ below (qG D dA base (some (.int z)) σ) args s 0 0 (fun q => base ≤ q)) (F0 m 51 ls [.int w0]) := by
  unfold S_X9_file_51 at h
  cases h
  exact q_iret X hret hlk hh hS dX9_file_51
set_option maxHeartbeats 4000000 in
set_option maxRecDepth 100000 in
theorem K_X9_file_30 {p : Program} {l : Launch} {e : Env} {R : Room} {s : State} {m : MethodId} {args : Array Value} {below : List Frame} {meth : Method} {c : Code} {D : va_G} {dA : Nat → ClassId} {base : Nat} {z : Int32} (X : cx p s m args c cX9_file RX9 4 D dA) (hret : meth.sig.returnType = some .int) (hlk : meth.locks = false) (hR : 2 ≤ R.frames ∧ 42 ≤ R.locals) {σ : hp} {H : Heap} {locs : List Loc} {ls : Array Slot} (hh : hw D dA base σ H) (hS : hs base s.heap H locs) (hl : lk ls 4 []) (h : S_X9_file_30 σ = some z) : W p l e R s m args below meth c H locs 0 0 (MQ below (qG D dA base (some (.int z)) σ) args s 0 0 (fun q => base ≤ q)) (F0 m 30 ls []) := by
  unfold S_X9_file_30 at h
  refine lv_iconst (v := (-1 : Int32)) X.1 X.2.1 dX9_file_30 (by decide) ?_
  refine lv_goto (tgt := 51) X.1 X.2.1 dX9_file_31 (by decide) ?_
  exact K_X9_file_51 X hret hlk hR hh hS (lk_sub hl [] rfl) h
set_option maxHeartbeats 4000000 in
set_option maxRecDepth 100000 in
theorem K_X9_file_0 {p : Program} {l : Launch} {e : Env} {R : Room} {s : State} {m : MethodId} {args : Array Value} {below : List Frame} {meth : Method} {c : Code} {D : va_G} {dA : Nat → ClassId} {base : Nat} {z : Int32} (X : cx p s m args c cX9_file RX9 4 D dA) (hret : meth.sig.returnType = some .int) (hlk : meth.locks = false) (hR : 2 ≤ R.frames ∧ 42 ≤ R.locals) {σ : hp} {t0 : Nat} {v1 : Int32} {v2 : Int32} {v3 : Int32} {H : Heap} {locs : List Loc} {ls : Array Slot} (hh : hw D dA base σ H) (hS : hs base s.heap H locs) (hl : lk ls 4 [(0, .inr (some t0)), (1, .inl v1), (2, .inl v2), (3, .inl v3)]) (h : S_X9_file σ t0 v1 v2 v3 = some z) : W p l e R s m args below meth c H locs 0 0 (MQ below (qG D dA base (some (.int z)) σ) args s 0 0 (fun q => base ≤ q)) (F0 m 0 ls []) := by
  unfold S_X9_file at h
  refine q_aload_n X dX9_file_0 rfl hl 0 rfl ?_
  refine q_iload_n X dX9_file_1 rfl hl 1 rfl ?_
  refine q_iload_n X dX9_file_2 rfl hl 2 rfl ?_
  obtain ⟨b3, e_b3, h⟩ := o_b h
  obtain ⟨q3, e_q3, h⟩ := o_b h
  refine q_cV (As := [.int v1, .int v2]) X hh hS hl cf_X9_214 (cN := 9) rfl rfl e_b3 rfl (M_X9_executed l D dA base σ b3 v1 v2 e_q3) ⟨Nat.le_trans (by decide) hR.1, Nat.le_trans (by decide) hR.2⟩ (cat8 [] (Nat.le_of_ble_eq_true rfl)) dX9_file_3 ⟨Nat.zero_le _, Nat.zero_le _⟩ rfl rfl (fun H locs hh hS => ?_)
  refine lv_iconst (v := (-1 : Int32)) X.1 X.2.1 dX9_file_6 (by decide) ?_
  refine lv_icmp_eq (tgt := 30) X.1 X.2.1 dX9_file_7 (by decide) (fun c7 => ?_) (fun c7 => ?_)
  · rw [if_pos c7] at h
    exact K_X9_file_30 X hret hlk hR hh hS (lk_sub hl [] rfl) h
  · rw [if_neg c7] at h
    refine q_iload_n X dX9_file_10 rfl hl 3 rfl ?_
    refine lv_if_lt (tgt := 30) X.1 X.2.1 dX9_file_11 (by decide) (fun c11 => ?_) (fun c11 => ?_)
    · rw [if_pos c11] at h
      exact K_X9_file_30 X hret hlk hR hh hS (lk_sub hl [] rfl) h
    · rw [if_neg c11] at h
      refine q_iload_n X dX9_file_14 rfl hl 3 rfl ?_
      refine q_aload_n X dX9_file_15 rfl hl 0 rfl ?_
      obtain ⟨t16, e_t16, h⟩ := o_b h
      refine q_gR X hh fa_X9_31 rfl e_t16 dX9_file_16 ?_
      refine lv_sipush (v := (256 : Int32)) X.1 X.2.1 dX9_file_19 (by decide) ?_
      refine q_iload_n X dX9_file_22 rfl hl 1 rfl ?_
      refine lv_imul X.1 X.2.1 dX9_file_23 ?_
      refine q_iload_n X dX9_file_24 rfl hl 2 rfl ?_
      refine lv_iadd X.1 X.2.1 dX9_file_25 ?_
      obtain ⟨t26, e_t26, h⟩ := o_b h
      refine q_ldI X hh e_t26 dX9_file_26 ?_
      refine lv_icmp_lt (tgt := 34) X.1 X.2.1 dX9_file_27 (by decide) (fun c27 => ?_) (fun c27 => ?_)
      · rw [if_pos c27] at h
        refine q_aload_n X dX9_file_34 rfl hl 0 rfl ?_
        obtain ⟨t35, e_t35, h⟩ := o_b h
        refine q_gR X hh fa_X9_35 rfl e_t35 dX9_file_35 ?_
        refine lv_bipush (v := (100 : Int32)) X.1 X.2.1 dX9_file_38 (by decide) ?_
        refine lv_sipush (v := (256 : Int32)) X.1 X.2.1 dX9_file_40 (by decide) ?_
        refine q_iload_n X dX9_file_43 rfl hl 1 rfl ?_
        refine lv_imul X.1 X.2.1 dX9_file_44 ?_
        refine q_iload_n X dX9_file_45 rfl hl 2 rfl ?_
        refine lv_iadd X.1 X.2.1 dX9_file_46 ?_
        refine lv_imul X.1 X.2.1 dX9_file_47 ?_
        refine q_iload_n X dX9_file_48 rfl hl 3 rfl ?_
        refine lv_iadd X.1 X.2.1 dX9_file_49 ?_
        obtain ⟨t50, e_t50, h⟩ := o_b h
        refine q_ldI X hh e_t50 dX9_file_50 ?_
        exact K_X9_file_51 X hret hlk hR hh hS (lk_sub hl [] rfl) h
      · rw [if_neg c27] at h
        exact K_X9_file_30 X hret hlk hR hh hS (lk_sub hl [] rfl) h
set_option maxRecDepth 100000 in
theorem M_X9_file (l : Launch) (D : va_G) (dA : Nat → ClassId) (base : Nat) (σ : hp) (t0 : Nat) (v1 : Int32) (v2 : Int32) (v3 : Int32) {z : Int32} (h : S_X9_file σ t0 v1 v2 v3 = some z) : mt l yX9_file cX9_file 4 (some .int) 2 42 D dA base σ [.ref t0, .int v1, .int v2, .int v3] (some (.int z)) σ 0 0 := by
  refine Met.ofW (cc := cX9_file) (maxL := 4) (ret := some .int) (by decide) rfl ?_
  intro p e s m args below meth c s₁ B hml hv
  obtain ⟨rfl, hh, hK⟩ := hv
  have X : cx p s m ([.ref t0, .int v1, .int v2, .int v3] : List Value).toArray c cX9_file RX9 4 D dA := ⟨B.exec, B.bytes, findClass_of_methodNamed B.named, hml, fun w hw => atoms_spec (ws := .code yX9_file cX9_file 4 (some .int) :: G) B.pre w (List.mem_cons_of_mem _ hw), hK⟩
  have hl := lk_entry [.inr (some t0), .inl v1, .inl v2, .inl v3] (n := 4) (Nat.le_of_ble_eq_true rfl)
  rw [lg_entry_eq]
  have hl : lk ((lg_sl ([.ref t0, .int v1, .int v2, .int v3] : List Value) ++ List.replicate (4 - (lg_sl ([.ref t0, .int v1, .int v2, .int v3] : List Value)).length) Slot.unset).toArray) 4 [(0, .inr (some t0)), (1, .inl v1), (2, .inl v2), (3, .inl v3)] := hl
  generalize (lg_sl ([.ref t0, .int v1, .int v2, .int v3] : List Value) ++ List.replicate (4 - (lg_sl ([.ref t0, .int v1, .int v2, .int v3] : List Value)).length) Slot.unset).toArray = ls at hl ⊢
  exact K_X9_file_0 X B.returns B.notSynchronized ⟨Nat.le_refl _, Nat.le_refl _⟩ hh va_S.rf hl h
set_option maxHeartbeats 4000000 in
set_option maxRecDepth 100000 in
theorem K_X9_times_21 {p : Program} {l : Launch} {e : Env} {R : Room} {s : State} {m : MethodId} {args : Array Value} {below : List Frame} {meth : Method} {c : Code} {D : va_G} {dA : Nat → ClassId} {base : Nat} {z : Int32} (X : cx p s m args c cX9_times RX9 5 D dA) (hret : meth.sig.returnType = some .int) (hlk : meth.locks = false) (hR : 1 ≤ R.frames ∧ 20 ≤ R.locals) {σ : hp} {H : Heap} {locs : List Loc} {ls : Array Slot} (hh : hw D dA base σ H) (hS : hs base s.heap H locs) (hl : lk ls 5 []) (h : S_X9_times_21 σ = some z) : W p l e R s m args below meth c H locs 0 0 (MQ below (qG D dA base (some (.int z)) σ) args s 0 0 (fun q => base ≤ q)) (F0 m 21 ls []) := by
  unfold S_X9_times_21 at h
  refine lv_iconst (v := (-1 : Int32)) X.1 X.2.1 dX9_times_21 (by decide) ?_
  cases h
  exact q_iret X hret hlk hh hS dX9_times_22
set_option maxHeartbeats 4000000 in
set_option maxRecDepth 100000 in
theorem K_X9_times_66 {p : Program} {l : Launch} {e : Env} {R : Room} {s : State} {m : MethodId} {args : Array Value} {below : List Frame} {meth : Method} {c : Code} {D : va_G} {dA : Nat → ClassId} {base : Nat} {rec28 : hp → Nat → Int32 → Int32 → Int32 → Int32 → Option (Int32)} {z : Int32} (X : cx p s m args c cX9_times RX9 5 D dA) (hret : meth.sig.returnType = some .int) (hlk : meth.locks = false) (hR : 1 ≤ R.frames ∧ 20 ≤ R.locals) (hr28 : ∀ (σ : hp) (t0 : Nat) (v1 : Int32) (v2 : Int32) (v3 : Int32) (v4 : Int32) (H : Heap) (locs : List Loc) (ls : Array Slot), hw D dA base σ H → hs base s.heap H locs → lk ls 5 [(0, .inr (some t0)), (1, .inl v1), (2, .inl v2), (3, .inl v3), (4, .inl v4)] → rec28 σ t0 v1 v2 v3 v4 = some z → W p l e R s m args below meth c H locs 0 0 (MQ below (qG D dA base (some (.int z)) σ) args s 0 0 (fun q => base ≤ q)) (F0 m 28 ls [])) {σ : hp} {t0 : Nat} {v1 : Int32} {v2 : Int32} {v4 : Int32} {w0 : Int32} {w1 : Int32} {H : Heap} {locs : List Loc} {ls : Array Slot} (hh : hw D dA base σ H) (hS : hs base s.heap H locs) (hl : lk ls 5 [(0, .inr (some t0)), (1, .inl v1), (2, .inl v2), (4, .inl v4)]) (h : S_X9_times_66 rec28 σ t0 v1 v2 v4 w0 w1 = some z) : W p l e R s m args below meth c H locs 0 0 (MQ below (qG D dA base (some (.int z)) σ) args s 0 0 (fun q => base ≤ q)) (F0 m 66 ls [.int w1, .int w0]) := by
  unfold S_X9_times_66 at h
  refine lv_iadd X.1 X.2.1 dX9_times_66 ?_
  refine q_istore_n (lv' := [(3, .inl (w0 + w1)), (0, .inr (some t0)), (1, .inl v1), (2, .inl v2), (4, .inl v4)]) X dX9_times_67 rfl hl (by decide) rfl (fun ls hl => ?_)
  refine q_iinc (v := (1 : Int32)) (lv' := [(4, .inl (v4 + (1 : Int32))), (3, .inl (w0 + w1)), (0, .inr (some t0)), (1, .inl v1), (2, .inl v2)]) X dX9_times_68 hl 4 rfl (by decide) (by decide) rfl (fun ls hl => ?_)
  refine lv_goto (tgt := 28) X.1 X.2.1 dX9_times_71 (by decide) ?_
  exact hr28 _ _ _ _ _ _ _ _ _ hh hS (lk_sub hl [2, 3, 4, 1, 0] rfl) h
set_option maxHeartbeats 4000000 in
set_option maxRecDepth 100000 in
theorem K_X9_times_28_b {p : Program} {l : Launch} {e : Env} {R : Room} {s : State} {m : MethodId} {args : Array Value} {below : List Frame} {meth : Method} {c : Code} {D : va_G} {dA : Nat → ClassId} {base : Nat} {rec28 : hp → Nat → Int32 → Int32 → Int32 → Int32 → Option (Int32)} {z : Int32} (X : cx p s m args c cX9_times RX9 5 D dA) (hret : meth.sig.returnType = some .int) (hlk : meth.locks = false) (hR : 1 ≤ R.frames ∧ 20 ≤ R.locals) (hr28 : ∀ (σ : hp) (t0 : Nat) (v1 : Int32) (v2 : Int32) (v3 : Int32) (v4 : Int32) (H : Heap) (locs : List Loc) (ls : Array Slot), hw D dA base σ H → hs base s.heap H locs → lk ls 5 [(0, .inr (some t0)), (1, .inl v1), (2, .inl v2), (3, .inl v3), (4, .inl v4)] → rec28 σ t0 v1 v2 v3 v4 = some z → W p l e R s m args below meth c H locs 0 0 (MQ below (qG D dA base (some (.int z)) σ) args s 0 0 (fun q => base ≤ q)) (F0 m 28 ls [])) {σ : hp} {t0 : Nat} {v1 : Int32} {v2 : Int32} {v3 : Int32} {v4 : Int32} {H : Heap} {locs : List Loc} {ls : Array Slot} (hh : hw D dA base σ H) (hS : hs base s.heap H locs) (hl : lk ls 5 [(0, .inr (some t0)), (1, .inl v1), (2, .inl v2), (3, .inl v3), (4, .inl v4)]) (h : S_X9_times_28_b rec28 σ t0 v1 v2 v3 v4 = some z) : W p l e R s m args below meth c H locs 0 0 (MQ below (qG D dA base (some (.int z)) σ) args s 0 0 (fun q => base ≤ q)) (F0 m 28 ls []) := by
  unfold S_X9_times_28_b at h
  refine q_iload X dX9_times_28 hl 4 rfl ?_
  refine q_aload_n X dX9_times_30 rfl hl 0 rfl ?_
  obtain ⟨t31, e_t31, h⟩ := o_b h
  refine q_gR X hh fa_X9_25 rfl e_t31 dX9_times_31 ?_
  refine lv_iconst (v := (1 : Int32)) X.1 X.2.1 dX9_times_34 (by decide) ?_
  refine q_iload_n X dX9_times_35 rfl hl 1 rfl ?_
  refine lv_isub X.1 X.2.1 dX9_times_36 ?_
  obtain ⟨t37, e_t37, h⟩ := o_b h
  refine q_ldI X hh e_t37 dX9_times_37 ?_
  refine lv_icmp_ge (tgt := 74) X.1 X.2.1 dX9_times_38 (by decide) (fun c38 => ?_) (fun c38 => ?_)
  · rw [if_pos c38] at h
    refine q_iload_n X dX9_times_74 rfl hl 3 rfl ?_
    cases h
    exact q_iret X hret hlk hh hS dX9_times_75
  · rw [if_neg c38] at h
    refine q_iload_n X dX9_times_41 rfl hl 3 rfl ?_
    refine q_aload_n X dX9_times_42 rfl hl 0 rfl ?_
    obtain ⟨t43, e_t43, h⟩ := o_b h
    refine q_gR X hh fa_X9_28 rfl e_t43 dX9_times_43 ?_
    refine lv_sipush (v := (256 : Int32)) X.1 X.2.1 dX9_times_46 (by decide) ?_
    refine lv_iconst (v := (1 : Int32)) X.1 X.2.1 dX9_times_49 (by decide) ?_
    refine q_iload_n X dX9_times_50 rfl hl 1 rfl ?_
    refine lv_isub X.1 X.2.1 dX9_times_51 ?_
    refine lv_imul X.1 X.2.1 dX9_times_52 ?_
    refine q_iload X dX9_times_53 hl 4 rfl ?_
    refine lv_iadd X.1 X.2.1 dX9_times_55 ?_
    obtain ⟨t56, e_t56, h⟩ := o_b h
    refine q_ldI X hh e_t56 dX9_times_56 ?_
    refine q_iload_n X dX9_times_57 rfl hl 2 rfl ?_
    refine lv_icmp_ne (tgt := 65) X.1 X.2.1 dX9_times_58 (by decide) (fun c58 => ?_) (fun c58 => ?_)
    · rw [if_neg c58] at h
      refine lv_iconst (v := (0 : Int32)) X.1 X.2.1 dX9_times_65 (by decide) ?_
      exact K_X9_times_66 X hret hlk hR hr28 hh hS (lk_sub hl [0, 1, 2, 4] rfl) h
    · rw [if_pos c58] at h
      refine lv_iconst (v := (1 : Int32)) X.1 X.2.1 dX9_times_61 (by decide) ?_
      refine lv_goto (tgt := 66) X.1 X.2.1 dX9_times_62 (by decide) ?_
      exact K_X9_times_66 X hret hlk hR hr28 hh hS (lk_sub hl [0, 1, 2, 4] rfl) h
theorem K_X9_times_28 {p : Program} {l : Launch} {e : Env} {R : Room} {s : State} {m : MethodId} {args : Array Value} {below : List Frame} {meth : Method} {c : Code} {D : va_G} {dA : Nat → ClassId} {base : Nat} {z : Int32} (X : cx p s m args c cX9_times RX9 5 D dA) (hret : meth.sig.returnType = some .int) (hlk : meth.locks = false) (hR : 1 ≤ R.frames ∧ 20 ≤ R.locals) : ∀ (n : Nat) (σ : hp) (t0 : Nat) (v1 : Int32) (v2 : Int32) (v3 : Int32) (v4 : Int32) (H : Heap) (locs : List Loc) (ls : Array Slot), hw D dA base σ H → hs base s.heap H locs → lk ls 5 [(0, .inr (some t0)), (1, .inl v1), (2, .inl v2), (3, .inl v3), (4, .inl v4)] → S_X9_times_28 n σ t0 v1 v2 v3 v4 = some z → W p l e R s m args below meth c H locs 0 0 (MQ below (qG D dA base (some (.int z)) σ) args s 0 0 (fun q => base ≤ q)) (F0 m 28 ls []) := by
  intro n
  induction n with
  | zero => intro σ t0 v1 v2 v3 v4 H locs ls hh hS hl h; cases h
  | succ n ih => intro σ t0 v1 v2 v3 v4 H locs ls hh hS hl h; exact K_X9_times_28_b X hret hlk hR ih hh hS hl h
set_option maxHeartbeats 4000000 in
set_option maxRecDepth 100000 in
theorem K_X9_times_0 {p : Program} {l : Launch} {e : Env} {R : Room} {s : State} {m : MethodId} {args : Array Value} {below : List Frame} {meth : Method} {c : Code} {D : va_G} {dA : Nat → ClassId} {base : Nat} {z : Int32} (X : cx p s m args c cX9_times RX9 5 D dA) (hret : meth.sig.returnType = some .int) (hlk : meth.locks = false) (hR : 1 ≤ R.frames ∧ 20 ≤ R.locals) {σ : hp} {t0 : Nat} {v1 : Int32} {v2 : Int32} {H : Heap} {locs : List Loc} {ls : Array Slot} (hh : hw D dA base σ H) (hS : hs base s.heap H locs) (hl : lk ls 5 [(0, .inr (some t0)), (1, .inl v1), (2, .inl v2)]) (h : S_X9_times σ t0 v1 v2 = some z) : W p l e R s m args below meth c H locs 0 0 (MQ below (qG D dA base (some (.int z)) σ) args s 0 0 (fun q => base ≤ q)) (F0 m 0 ls []) := by
  unfold S_X9_times at h
  refine q_iload_n X dX9_times_0 rfl hl 1 rfl ?_
  obtain ⟨q1, e_q1, h⟩ := o_b h
  refine q_cS (As := [.int v1]) X hh hS hl cf_X9_121 rfl (M_X9_isSite l D dA base σ v1 e_q1) ⟨Nat.le_trans (by decide) hR.1, Nat.le_trans (by decide) hR.2⟩ (cat8 [] (Nat.le_of_ble_eq_true rfl)) dX9_times_1 ⟨Nat.zero_le _, Nat.zero_le _⟩ rfl rfl (fun H locs hh hS => ?_)
  refine lv_if_eq (tgt := 21) X.1 X.2.1 dX9_times_4 (by decide) (fun c4 => ?_) (fun c4 => ?_)
  · rw [if_pos c4] at h
    exact K_X9_times_21 X hret hlk hR hh hS (lk_sub hl [] rfl) h
  · rw [if_neg c4] at h
    refine q_iload_n X dX9_times_7 rfl hl 2 rfl ?_
    refine lv_if_lt (tgt := 21) X.1 X.2.1 dX9_times_8 (by decide) (fun c8 => ?_) (fun c8 => ?_)
    · rw [if_pos c8] at h
      exact K_X9_times_21 X hret hlk hR hh hS (lk_sub hl [] rfl) h
    · rw [if_neg c8] at h
      refine q_iload_n X dX9_times_11 rfl hl 2 rfl ?_
      refine q_aload_n X dX9_times_12 rfl hl 0 rfl ?_
      obtain ⟨t13, e_t13, h⟩ := o_b h
      refine q_gR X hh fa_X9_7 rfl e_t13 dX9_times_13 ?_
      refine q_iload_n X dX9_times_16 rfl hl 1 rfl ?_
      obtain ⟨t17, e_t17, h⟩ := o_b h
      refine q_ldI X hh e_t17 dX9_times_17 ?_
      refine lv_icmp_lt (tgt := 23) X.1 X.2.1 dX9_times_18 (by decide) (fun c18 => ?_) (fun c18 => ?_)
      · rw [if_pos c18] at h
        refine lv_iconst (v := (0 : Int32)) X.1 X.2.1 dX9_times_23 (by decide) ?_
        refine q_istore_n (lv' := [(3, .inl (0 : Int32)), (0, .inr (some t0)), (1, .inl v1), (2, .inl v2)]) X dX9_times_24 rfl hl (by decide) rfl (fun ls hl => ?_)
        refine lv_iconst (v := (0 : Int32)) X.1 X.2.1 dX9_times_25 (by decide) ?_
        refine q_istore (lv' := [(4, .inl (0 : Int32)), (3, .inl (0 : Int32)), (0, .inr (some t0)), (1, .inl v1), (2, .inl v2)]) X dX9_times_26 hl (by decide) rfl (fun ls hl => ?_)
        exact K_X9_times_28 X hret hlk hR FU _ _ _ _ _ _ _ _ _ hh hS (lk_sub hl [2, 3, 4, 1, 0] rfl) h
      · rw [if_neg c18] at h
        exact K_X9_times_21 X hret hlk hR hh hS (lk_sub hl [] rfl) h
set_option maxRecDepth 100000 in
theorem M_X9_times (l : Launch) (D : va_G) (dA : Nat → ClassId) (base : Nat) (σ : hp) (t0 : Nat) (v1 : Int32) (v2 : Int32) {z : Int32} (h : S_X9_times σ t0 v1 v2 = some z) : mt l yX9_times cX9_times 5 (some .int) 1 20 D dA base σ [.ref t0, .int v1, .int v2] (some (.int z)) σ 0 0 := by
  refine Met.ofW (cc := cX9_times) (maxL := 5) (ret := some .int) (by decide) rfl ?_
  intro p e s m args below meth c s₁ B hml hv
  obtain ⟨rfl, hh, hK⟩ := hv
  have X : cx p s m ([.ref t0, .int v1, .int v2] : List Value).toArray c cX9_times RX9 5 D dA := ⟨B.exec, B.bytes, findClass_of_methodNamed B.named, hml, fun w hw => atoms_spec (ws := .code yX9_times cX9_times 5 (some .int) :: G) B.pre w (List.mem_cons_of_mem _ hw), hK⟩
  have hl := lk_entry [.inr (some t0), .inl v1, .inl v2] (n := 5) (Nat.le_of_ble_eq_true rfl)
  rw [lg_entry_eq]
  have hl : lk ((lg_sl ([.ref t0, .int v1, .int v2] : List Value) ++ List.replicate (5 - (lg_sl ([.ref t0, .int v1, .int v2] : List Value)).length) Slot.unset).toArray) 5 [(0, .inr (some t0)), (1, .inl v1), (2, .inl v2)] := hl
  generalize (lg_sl ([.ref t0, .int v1, .int v2] : List Value) ++ List.replicate (5 - (lg_sl ([.ref t0, .int v1, .int v2] : List Value)).length) Slot.unset).toArray = ls at hl ⊢
  exact K_X9_times_0 X B.returns B.notSynchronized ⟨Nat.le_refl _, Nat.le_refl _⟩ hh va_S.rf hl h
