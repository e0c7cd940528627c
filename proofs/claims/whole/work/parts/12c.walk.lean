/-! Walks: written by wip/whole/gen/emit.py. X6_clear X5_begin X7_add X5_beginCall X6_number X6_message X5_sendOutFrom X5_passTickUnanswered X5_isOpen X5_passTick X6_acknowledge X5_takeAcknowledgement X6_letOut X6_add X5_goOn -/
theorem ke_X6_clear_0 {z : hp} {σ : hp} {t0 : Nat} (h : S_X6_clear σ t0 = some z) : eq4 σ z := by
  unfold S_X6_clear at h
  obtain ⟨s2, e_s2, h⟩ := o_b h
  obtain ⟨s7, e_s7, h⟩ := o_b h
  obtain ⟨s12, e_s12, h⟩ := o_b h
  cases h
  exact (((e_pI e_s2)).tr (e_pI e_s7)).tr (e_pI e_s12)
set_option maxHeartbeats 4000000 in
set_option maxRecDepth 100000 in
theorem K_X6_clear_0 {p : Program} {l : Launch} {e : Env} {R : Room} {s : State} {m : MethodId} {args : Array Value} {below : List Frame} {meth : Method} {c : Code} {D : va_G} {dA : Nat → ClassId} {base : Nat} {z : hp} (X : cx p s m args c cX6_clear RX6 1 D dA) (hret : meth.sig.returnType = none) (hlk : meth.locks = false) (hR : 0 ≤ R.frames ∧ 0 ≤ R.locals) {σ : hp} {t0 : Nat} {H : Heap} {locs : List Loc} {ls : Array Slot} (hh : hw D dA base σ H) (hS : hs base s.heap H locs) (hl : lk ls 1 [(0, .inr (some t0))]) (h : S_X6_clear σ t0 = some z) : W p l e R s m args below meth c H locs 0 0 (MQ below (qG D dA base none z) args s 0 0 (fun q => base ≤ q)) (F0 m 0 ls []) := by
  unfold S_X6_clear at h
  refine q_aload_n X dX6_clear_0 rfl hl 0 rfl ?_
  refine lv_iconst (v := (1 : Int32)) X.1 X.2.1 dX6_clear_1 (by decide) ?_
  obtain ⟨s2, e_s2, h⟩ := o_b h
  refine q_pI X hh hS fp_X6_13 (fun h => by cases h) rfl e_s2 dX6_clear_2 (fun H locs hh hS => ?_)
  refine q_aload_n X dX6_clear_5 rfl hl 0 rfl ?_
  refine lv_iconst (v := (0 : Int32)) X.1 X.2.1 dX6_clear_6 (by decide) ?_
  obtain ⟨s7, e_s7, h⟩ := o_b h
  refine q_pI X hh hS fp_X6_16 (fun h => by cases h) rfl e_s7 dX6_clear_7 (fun H locs hh hS => ?_)
  refine q_aload_n X dX6_clear_10 rfl hl 0 rfl ?_
  refine lv_iconst (v := (0 : Int32)) X.1 X.2.1 dX6_clear_11 (by decide) ?_
  obtain ⟨s12, e_s12, h⟩ := o_b h
  refine q_pI X hh hS fp_X6_19 (fun h => by cases h) rfl e_s12 dX6_clear_12 (fun H locs hh hS => ?_)
  cases h
  exact q_vret X hret hlk hh hS dX6_clear_15
set_option maxRecDepth 100000 in
theorem M_X6_clear (l : Launch) (D : va_G) (dA : Nat → ClassId) (base : Nat) (σ : hp) (t0 : Nat) {z : hp} (h : S_X6_clear σ t0 = some z) : mt l yX6_clear cX6_clear 1 (none) 0 0 D dA base σ [.ref t0] none z 0 0 := by
  refine Met.ofW (cc := cX6_clear) (maxL := 1) (ret := none) (by decide) rfl ?_
  intro p e s m args below meth c s₁ B hml hv
  obtain ⟨rfl, hh, hK⟩ := hv
  have X : cx p s m ([.ref t0] : List Value).toArray c cX6_clear RX6 1 D dA := ⟨B.exec, B.bytes, findClass_of_methodNamed B.named, hml, fun w hw => atoms_spec (ws := .code yX6_clear cX6_clear 1 (none) :: G) B.pre w (List.mem_cons_of_mem _ hw), hK⟩
  have hl := lk_entry [.inr (some t0)] (n := 1) (Nat.le_of_ble_eq_true rfl)
  rw [lg_entry_eq]
  have hl : lk ((lg_sl ([.ref t0] : List Value) ++ List.replicate (1 - (lg_sl ([.ref t0] : List Value)).length) Slot.unset).toArray) 1 [(0, .inr (some t0))] := hl
  generalize (lg_sl ([.ref t0] : List Value) ++ List.replicate (1 - (lg_sl ([.ref t0] : List Value)).length) Slot.unset).toArray = ls at hl ⊢
  exact K_X6_clear_0 X B.returns B.notSynchronized ⟨Nat.le_refl _, Nat.le_refl _⟩ hh va_S.rf hl h
theorem ke_X5_begin_0 {z : hp} {σ : hp} {t0 : Nat} {v1 : Int32} (h : S_X5_begin σ t0 v1 = some z) : eq4 σ z := by
  unfold S_X5_begin at h
  obtain ⟨s2, e_s2, h⟩ := o_b h
  obtain ⟨t6, e_t6, h⟩ := o_b h
  obtain ⟨b9, e_b9, h⟩ := o_b h
  obtain ⟨q9, e_q9, h⟩ := o_b h
  obtain ⟨t13, e_t13, h⟩ := o_b h
  obtain ⟨b16, e_b16, h⟩ := o_b h
  obtain ⟨q16, e_q16, h⟩ := o_b h
  obtain ⟨s21, e_s21, h⟩ := o_b h
  obtain ⟨s26, e_s26, h⟩ := o_b h
  obtain ⟨z31, e_z31, h⟩ := o_b h
  obtain ⟨s31, e_s31, h⟩ := o_b h
  obtain ⟨s36, e_s36, h⟩ := o_b h
  obtain ⟨s41, e_s41, h⟩ := o_b h
  obtain ⟨s46, e_s46, h⟩ := o_b h
  cases h
  exact (((((((((e_pI e_s2)).tr (ke_X6_clear_0 e_q9)).tr (ke_X1_forget_0 e_q16)).tr (e_pI e_s21)).tr (e_pI e_s26)).tr (e_pI e_s31)).tr (e_pI e_s36)).tr (e_pI e_s41)).tr (e_pI e_s46)
set_option maxHeartbeats 4000000 in
set_option maxRecDepth 100000 in
theorem K_X5_begin_0 {p : Program} {l : Launch} {e : Env} {R : Room} {s : State} {m : MethodId} {args : Array Value} {below : List Frame} {meth : Method} {c : Code} {D : va_G} {dA : Nat → ClassId} {base : Nat} {z : hp} (X : cx p s m args c cX5_begin RX5 2 D dA) (hret : meth.sig.returnType = none) (hlk : meth.locks = false) (hR : 1 ≤ R.frames ∧ 20 ≤ R.locals) {σ : hp} {t0 : Nat} {v1 : Int32} {H : Heap} {locs : List Loc} {ls : Array Slot} (hh : hw D dA base σ H) (hS : hs base s.heap H locs) (hl : lk ls 2 [(0, .inr (some t0)), (1, .inl v1)]) (h : S_X5_begin σ t0 v1 = some z) : W p l e R s m args below meth c H locs 0 0 (MQ below (qG D dA base none z) args s 0 0 (fun q => base ≤ q)) (F0 m 0 ls []) := by
  unfold S_X5_begin at h
  refine q_aload_n X dX5_begin_0 rfl hl 0 rfl ?_
  refine q_iload_n X dX5_begin_1 rfl hl 1 rfl ?_
  obtain ⟨s2, e_s2, h⟩ := o_b h
  refine q_pI X hh hS fp_X5_32 (fun h => by cases h) rfl e_s2 dX5_begin_2 (fun H locs hh hS => ?_)
  refine q_aload_n X dX5_begin_5 rfl hl 0 rfl ?_
  obtain ⟨t6, e_t6, h⟩ := o_b h
  refine q_gR X hh fa_X5_21 rfl e_t6 dX5_begin_6 ?_
  obtain ⟨b9, e_b9, h⟩ := o_b h
  obtain ⟨q9, e_q9, h⟩ := o_b h
  refine q_cV (As := []) X hh hS hl cf_X5_65 (cN := 6) rfl rfl e_b9 rfl (M_X6_clear l D dA base s2 b9  e_q9) ⟨Nat.le_trans (by decide) hR.1, Nat.le_trans (by decide) hR.2⟩ (cat8 [] (Nat.le_of_ble_eq_true rfl)) dX5_begin_9 ⟨Nat.zero_le _, Nat.zero_le _⟩ rfl rfl (fun H locs hh hS => ?_)
  refine q_aload_n X dX5_begin_12 rfl hl 0 rfl ?_
  obtain ⟨t13, e_t13, h⟩ := o_b h
  refine q_gR X hh fa_X5_28 rfl e_t13 dX5_begin_13 ?_
  obtain ⟨b16, e_b16, h⟩ := o_b h
  obtain ⟨q16, e_q16, h⟩ := o_b h
  refine q_cV (As := []) X hh hS hl cf_X5_68 (cN := 1) rfl rfl e_b16 rfl (M_X1_forget l D dA base q9 b16  e_q16) ⟨Nat.le_trans (by decide) hR.1, Nat.le_trans (by decide) hR.2⟩ (cat8 [] (Nat.le_of_ble_eq_true rfl)) dX5_begin_16 ⟨Nat.zero_le _, Nat.zero_le _⟩ rfl rfl (fun H locs hh hS => ?_)
  refine q_aload_n X dX5_begin_19 rfl hl 0 rfl ?_
  refine lv_iconst (v := (-1 : Int32)) X.1 X.2.1 dX5_begin_20 (by decide) ?_
  obtain ⟨s21, e_s21, h⟩ := o_b h
  refine q_pI X hh hS fp_X5_39 (fun h => by cases h) rfl e_s21 dX5_begin_21 (fun H locs hh hS => ?_)
  refine q_aload_n X dX5_begin_24 rfl hl 0 rfl ?_
  refine lv_iconst (v := (0 : Int32)) X.1 X.2.1 dX5_begin_25 (by decide) ?_
  obtain ⟨s26, e_s26, h⟩ := o_b h
  refine q_pI X hh hS fp_X5_42 (fun h => by cases h) rfl e_s26 dX5_begin_26 (fun H locs hh hS => ?_)
  refine q_aload_n X dX5_begin_29 rfl hl 0 rfl ?_
  refine lv_iconst (v := (0 : Int32)) X.1 X.2.1 dX5_begin_30 (by decide) ?_
  obtain ⟨z31, e_z31, h⟩ := o_b h
  obtain ⟨s31, e_s31, h⟩ := o_b h
  refine q_pZ X hh hS fp_X5_45 (fun h => by cases h) rfl e_z31 e_s31 dX5_begin_31 (fun H locs hh hS => ?_)
  refine q_aload_n X dX5_begin_34 rfl hl 0 rfl ?_
  refine lv_iconst (v := (0 : Int32)) X.1 X.2.1 dX5_begin_35 (by decide) ?_
  obtain ⟨s36, e_s36, h⟩ := o_b h
  refine q_pI X hh hS fp_X5_49 (fun h => by cases h) rfl e_s36 dX5_begin_36 (fun H locs hh hS => ?_)
  refine q_aload_n X dX5_begin_39 rfl hl 0 rfl ?_
  refine lv_iconst (v := (0 : Int32)) X.1 X.2.1 dX5_begin_40 (by decide) ?_
  obtain ⟨s41, e_s41, h⟩ := o_b h
  refine q_pI X hh hS fp_X5_52 (fun h => by cases h) rfl e_s41 dX5_begin_41 (fun H locs hh hS => ?_)
  refine q_aload_n X dX5_begin_44 rfl hl 0 rfl ?_
  refine lv_iconst (v := (0 : Int32)) X.1 X.2.1 dX5_begin_45 (by decide) ?_
  obtain ⟨s46, e_s46, h⟩ := o_b h
  refine q_pI X hh hS fp_X5_55 (fun h => by cases h) rfl e_s46 dX5_begin_46 (fun H locs hh hS => ?_)
  cases h
  exact q_vret X hret hlk hh hS dX5_begin_49
set_option maxRecDepth 100000 in
theorem M_X5_begin (l : Launch) (D : va_G) (dA : Nat → ClassId) (base : Nat) (σ : hp) (t0 : Nat) (v1 : Int32) {z : hp} (h : S_X5_begin σ t0 v1 = some z) : mt l yX5_begin cX5_begin 2 (none) 1 20 D dA base σ [.ref t0, .int v1] none z 0 0 := by
  refine Met.ofW (cc := cX5_begin) (maxL := 2) (ret := none) (by decide) rfl ?_
  intro p e s m args below meth c s₁ B hml hv
  obtain ⟨rfl, hh, hK⟩ := hv
  have X : cx p s m ([.ref t0, .int v1] : List Value).toArray c cX5_begin RX5 2 D dA := ⟨B.exec, B.bytes, findClass_of_methodNamed B.named, hml, fun w hw => atoms_spec (ws := .code yX5_begin cX5_begin 2 (none) :: G) B.pre w (List.mem_cons_of_mem _ hw), hK⟩
  have hl := lk_entry [.inr (some t0), .inl v1] (n := 2) (Nat.le_of_ble_eq_true rfl)
  rw [lg_entry_eq]
  have hl : lk ((lg_sl ([.ref t0, .int v1] : List Value) ++ List.replicate (2 - (lg_sl ([.ref t0, .int v1] : List Value)).length) Slot.unset).toArray) 2 [(0, .inr (some t0)), (1, .inl v1)] := hl
  generalize (lg_sl ([.ref t0, .int v1] : List Value) ++ List.replicate (2 - (lg_sl ([.ref t0, .int v1] : List Value)).length) Slot.unset).toArray = ls at hl ⊢
  exact K_X5_begin_0 X B.returns B.notSynchronized ⟨Nat.le_refl _, Nat.le_refl _⟩ hh va_S.rf hl h
theorem ke_X7_add_0 {z : Option Nat × hp} {σ : hp} {t0 : Nat} (h : S_X7_add σ t0 = some z) : eq4 σ z.2 := by
  unfold S_X7_add at h
  obtain ⟨t1, e_t1, h⟩ := o_b h
  by_cases c6 : t1 < (12 : Int32)
  · rw [if_pos c6] at h
    obtain ⟨t16, e_t16, h⟩ := o_b h
    obtain ⟨s21, e_s21, h⟩ := o_b h
    obtain ⟨t25, e_t25, h⟩ := o_b h
    obtain ⟨t29, e_t29, h⟩ := o_b h
    obtain ⟨t33, e_t33, h⟩ := o_b h
    obtain ⟨t42, e_t42, h⟩ := o_b h
    cases h
    show eq4 σ s21
    exact (e_pI e_s21)
  · rw [if_neg c6] at h
    obtain ⟨t10, e_t10, h⟩ := o_b h
    cases h
    show eq4 σ σ
    exact eq4.rf _
set_option maxHeartbeats 4000000 in
set_option maxRecDepth 100000 in
theorem K_X7_add_0 {p : Program} {l : Launch} {e : Env} {R : Room} {s : State} {m : MethodId} {args : Array Value} {below : List Frame} {meth : Method} {c : Code} {D : va_G} {dA : Nat → ClassId} {base : Nat} {z : Option Nat × hp} (X : cx p s m args c cX7_add RX7 1 D dA) (hret : meth.sig.returnType = some (.object "SpoolLink$Packet")) (hlk : meth.locks = false) (hR : 0 ≤ R.frames ∧ 0 ≤ R.locals) {σ : hp} {t0 : Nat} {H : Heap} {locs : List Loc} {ls : Array Slot} (hh : hw D dA base σ H) (hS : hs base s.heap H locs) (hl : lk ls 1 [(0, .inr (some t0))]) (h : S_X7_add σ t0 = some z) : W p l e R s m args below meth c H locs 0 0 (MQ below (qG D dA base (some (va_rf z.1)) z.2) args s 0 0 (fun q => base ≤ q)) (F0 m 0 ls []) := by
  unfold S_X7_add at h
  refine q_aload_n X dX7_add_0 rfl hl 0 rfl ?_
  obtain ⟨t1, e_t1, h⟩ := o_b h
  refine q_gI X hh fa_X7_20 rfl e_t1 dX7_add_1 ?_
  refine lv_bipush (v := (12 : Int32)) X.1 X.2.1 dX7_add_4 (by decide) ?_
  refine lv_icmp_lt (tgt := 14) X.1 X.2.1 dX7_add_6 (by decide) (fun c6 => ?_) (fun c6 => ?_)
  · rw [if_pos c6] at h
    refine q_aload_n X dX7_add_14 rfl hl 0 rfl ?_
    refine lv_dup X.1 X.2.1 dX7_add_15 (vv_cat (.inr (some t0))) ?_
    obtain ⟨t16, e_t16, h⟩ := o_b h
    refine q_gI X hh fa_X7_20 rfl e_t16 dX7_add_16 ?_
    refine lv_iconst (v := (1 : Int32)) X.1 X.2.1 dX7_add_19 (by decide) ?_
    refine lv_iadd X.1 X.2.1 dX7_add_20 ?_
    obtain ⟨s21, e_s21, h⟩ := o_b h
    refine q_pI X hh hS fp_X7_20 (fun h => by cases h) rfl e_s21 dX7_add_21 (fun H locs hh hS => ?_)
    refine q_aload_n X dX7_add_24 rfl hl 0 rfl ?_
    obtain ⟨t25, e_t25, h⟩ := o_b h
    refine q_gR X hh fa_X7_23 rfl e_t25 dX7_add_25 ?_
    refine q_aload_n X dX7_add_28 rfl hl 0 rfl ?_
    obtain ⟨t29, e_t29, h⟩ := o_b h
    refine q_gI X hh fa_X7_16 rfl e_t29 dX7_add_29 ?_
    refine q_aload_n X dX7_add_32 rfl hl 0 rfl ?_
    obtain ⟨t33, e_t33, h⟩ := o_b h
    refine q_gI X hh fa_X7_20 rfl e_t33 dX7_add_33 ?_
    refine lv_iadd X.1 X.2.1 dX7_add_36 ?_
    refine lv_iconst (v := (1 : Int32)) X.1 X.2.1 dX7_add_37 (by decide) ?_
    refine lv_isub X.1 X.2.1 dX7_add_38 ?_
    refine lv_bipush (v := (12 : Int32)) X.1 X.2.1 dX7_add_39 (by decide) ?_
    refine lv_irem X.1 X.2.1 dX7_add_41 (by decide) ?_
    obtain ⟨t42, e_t42, h⟩ := o_b h
    refine q_ldQ X hh (by decide) rfl e_t42 dX7_add_42 ?_
    cases h
    exact q_aret X hret hlk hh hS dX7_add_43
  · rw [if_neg c6] at h
    refine q_aload_n X dX7_add_9 rfl hl 0 rfl ?_
    obtain ⟨t10, e_t10, h⟩ := o_b h
    refine q_gR X hh fa_X7_10 rfl e_t10 dX7_add_10 ?_
    cases h
    exact q_aret X hret hlk hh hS dX7_add_13
set_option maxRecDepth 100000 in
theorem M_X7_add (l : Launch) (D : va_G) (dA : Nat → ClassId) (base : Nat) (σ : hp) (t0 : Nat) {z : Option Nat × hp} (h : S_X7_add σ t0 = some z) : mt l yX7_add cX7_add 1 (some (.object "SpoolLink$Packet")) 0 0 D dA base σ [.ref t0] (some (va_rf z.1)) z.2 0 0 := by
  refine Met.ofW (cc := cX7_add) (maxL := 1) (ret := some (.object "SpoolLink$Packet")) (by decide) rfl ?_
  intro p e s m args below meth c s₁ B hml hv
  obtain ⟨rfl, hh, hK⟩ := hv
  have X : cx p s m ([.ref t0] : List Value).toArray c cX7_add RX7 1 D dA := ⟨B.exec, B.bytes, findClass_of_methodNamed B.named, hml, fun w hw => atoms_spec (ws := .code yX7_add cX7_add 1 (some (.object "SpoolLink$Packet")) :: G) B.pre w (List.mem_cons_of_mem _ hw), hK⟩
  have hl := lk_entry [.inr (some t0)] (n := 1) (Nat.le_of_ble_eq_true rfl)
  rw [lg_entry_eq]
  have hl : lk ((lg_sl ([.ref t0] : List Value) ++ List.replicate (1 - (lg_sl ([.ref t0] : List Value)).length) Slot.unset).toArray) 1 [(0, .inr (some t0))] := hl
  generalize (lg_sl ([.ref t0] : List Value) ++ List.replicate (1 - (lg_sl ([.ref t0] : List Value)).length) Slot.unset).toArray = ls at hl ⊢
  exact K_X7_add_0 X B.returns B.notSynchronized ⟨Nat.le_refl _, Nat.le_refl _⟩ hh va_S.rf hl h
theorem ke_X5_beginCall_0 {z : hp} {σ : hp} {t0 : Nat} (h : S_X5_beginCall σ t0 = some z) : eq4 σ z := by
  unfold S_X5_beginCall at h
  obtain ⟨b2, e_b2, h⟩ := o_b h
  obtain ⟨q2, e_q2, h⟩ := o_b h
  obtain ⟨t7, e_t7, h⟩ := o_b h
  obtain ⟨t10, e_t10, h⟩ := o_b h
  obtain ⟨s16, e_s16, h⟩ := o_b h
  obtain ⟨t20, e_t20, h⟩ := o_b h
  obtain ⟨t24, e_t24, h⟩ := o_b h
  obtain ⟨s29, e_s29, h⟩ := o_b h
  obtain ⟨t33, e_t33, h⟩ := o_b h
  obtain ⟨b36, e_b36, h⟩ := o_b h
  obtain ⟨q36, e_q36, h⟩ := o_b h
  obtain ⟨t42, e_t42, h⟩ := o_b h
  obtain ⟨b45, e_b45, h⟩ := o_b h
  obtain ⟨q45, e_q45, h⟩ := o_b h
  cases h
  exact (((((ke_X5_begin_0 e_q2)).tr (e_pI e_s16)).tr (e_pI e_s29)).tr (ke_X7_add_0 e_q36)).tr (ke_X4_fillControl_0 e_q45)
set_option maxHeartbeats 4000000 in
set_option maxRecDepth 100000 in
theorem K_X5_beginCall_0 {p : Program} {l : Launch} {e : Env} {R : Room} {s : State} {m : MethodId} {args : Array Value} {below : List Frame} {meth : Method} {c : Code} {D : va_G} {dA : Nat → ClassId} {base : Nat} {z : hp} (X : cx p s m args c cX5_beginCall RX5 1 D dA) (hret : meth.sig.returnType = none) (hlk : meth.locks = false) (hR : 2 ≤ R.frames ∧ 48 ≤ R.locals) {σ : hp} {t0 : Nat} {H : Heap} {locs : List Loc} {ls : Array Slot} (hh : hw D dA base σ H) (hS : hs base s.heap H locs) (hl : lk ls 1 [(0, .inr (some t0))]) (h : S_X5_beginCall σ t0 = some z) : W p l e R s m args below meth c H locs 0 0 (MQ below (qG D dA base none z) args s 0 0 (fun q => base ≤ q)) (F0 m 0 ls []) := by
  unfold S_X5_beginCall at h
  refine q_aload_n X dX5_beginCall_0 rfl hl 0 rfl ?_
  refine lv_iconst (v := (1 : Int32)) X.1 X.2.1 dX5_beginCall_1 (by decide) ?_
  obtain ⟨b2, e_b2, h⟩ := o_b h
  obtain ⟨q2, e_q2, h⟩ := o_b h
  refine q_cV (As := [.int (1 : Int32)]) X hh hS hl cf_X5_71 (cN := 5) rfl rfl e_b2 rfl (M_X5_begin l D dA base σ b2 (1 : Int32) e_q2) ⟨Nat.le_trans (by decide) hR.1, Nat.le_trans (by decide) hR.2⟩ (cat8 [] (Nat.le_of_ble_eq_true rfl)) dX5_beginCall_2 ⟨Nat.zero_le _, Nat.zero_le _⟩ rfl rfl (fun H locs hh hS => ?_)
  refine q_aload_n X dX5_beginCall_5 rfl hl 0 rfl ?_
  refine q_aload_n X dX5_beginCall_6 rfl hl 0 rfl ?_
  obtain ⟨t7, e_t7, h⟩ := o_b h
  refine q_gR X hh fa_X5_12 rfl e_t7 dX5_beginCall_7 ?_
  obtain ⟨t10, e_t10, h⟩ := o_b h
  refine q_gI X hh fa_X5_75 rfl e_t10 dX5_beginCall_10 ?_
  refine lv_bipush (v := (7 : Int32)) X.1 X.2.1 dX5_beginCall_13 (by decide) ?_
  refine lv_iand X.1 X.2.1 dX5_beginCall_15 ?_
  obtain ⟨s16, e_s16, h⟩ := o_b h
  refine q_pI X hh hS fp_X5_36 (fun h => by cases h) rfl e_s16 dX5_beginCall_16 (fun H locs hh hS => ?_)
  refine q_aload_n X dX5_beginCall_19 rfl hl 0 rfl ?_
  obtain ⟨t20, e_t20, h⟩ := o_b h
  refine q_gR X hh fa_X5_12 rfl e_t20 dX5_beginCall_20 ?_
  refine lv_dup X.1 X.2.1 dX5_beginCall_23 (vv_cat (.inr t20)) ?_
  obtain ⟨t24, e_t24, h⟩ := o_b h
  refine q_gI X hh fa_X5_75 rfl e_t24 dX5_beginCall_24 ?_
  refine lv_iconst (v := (1 : Int32)) X.1 X.2.1 dX5_beginCall_27 (by decide) ?_
  refine lv_iadd X.1 X.2.1 dX5_beginCall_28 ?_
  obtain ⟨s29, e_s29, h⟩ := o_b h
  refine q_pI X hh hS fp_X5_75 (fun h => by cases h) rfl e_s29 dX5_beginCall_29 (fun H locs hh hS => ?_)
  refine q_aload_n X dX5_beginCall_32 rfl hl 0 rfl ?_
  obtain ⟨t33, e_t33, h⟩ := o_b h
  refine q_gR X hh fa_X5_61 rfl e_t33 dX5_beginCall_33 ?_
  obtain ⟨b36, e_b36, h⟩ := o_b h
  obtain ⟨q36, e_q36, h⟩ := o_b h
  refine q_cV (As := []) X hh hS hl cf_X5_78 (cN := 7) rfl rfl e_b36 rfl (M_X7_add l D dA base s29 b36  e_q36) ⟨Nat.le_trans (by decide) hR.1, Nat.le_trans (by decide) hR.2⟩ (cat8 [] (Nat.le_of_ble_eq_true rfl)) dX5_beginCall_36 ⟨Nat.zero_le _, Nat.zero_le _⟩ rfl rfl (fun H locs hh hS => ?_)
  refine lv_bipush (v := (7 : Int32)) X.1 X.2.1 dX5_beginCall_39 (by decide) ?_
  refine q_aload_n X dX5_beginCall_41 rfl hl 0 rfl ?_
  obtain ⟨t42, e_t42, h⟩ := o_b h
  refine q_gI X hh fa_X5_36 rfl e_t42 dX5_beginCall_42 ?_
  obtain ⟨b45, e_b45, h⟩ := o_b h
  obtain ⟨q45, e_q45, h⟩ := o_b h
  refine q_cV (As := [.int (7 : Int32), .int t42]) X hh hS hl cf_X5_86 (cN := 4) rfl rfl e_b45 rfl (M_X4_fillControl l D dA base q36.2 b45 (7 : Int32) t42 e_q45) ⟨Nat.le_trans (by decide) hR.1, Nat.le_trans (by decide) hR.2⟩ (cat8 [] (Nat.le_of_ble_eq_true rfl)) dX5_beginCall_45 ⟨Nat.zero_le _, Nat.zero_le _⟩ rfl rfl (fun H locs hh hS => ?_)
  cases h
  exact q_vret X hret hlk hh hS dX5_beginCall_48
set_option maxRecDepth 100000 in
theorem M_X5_beginCall (l : Launch) (D : va_G) (dA : Nat → ClassId) (base : Nat) (σ : hp) (t0 : Nat) {z : hp} (h : S_X5_beginCall σ t0 = some z) : mt l yX5_beginCall cX5_beginCall 1 (none) 2 48 D dA base σ [.ref t0] none z 0 0 := by
  refine Met.ofW (cc := cX5_beginCall) (maxL := 1) (ret := none) (by decide) rfl ?_
  intro p e s m args below meth c s₁ B hml hv
  obtain ⟨rfl, hh, hK⟩ := hv
  have X : cx p s m ([.ref t0] : List Value).toArray c cX5_beginCall RX5 1 D dA := ⟨B.exec, B.bytes, findClass_of_methodNamed B.named, hml, fun w hw => atoms_spec (ws := .code yX5_beginCall cX5_beginCall 1 (none) :: G) B.pre w (List.mem_cons_of_mem _ hw), hK⟩
  have hl := lk_entry [.inr (some t0)] (n := 1) (Nat.le_of_ble_eq_true rfl)
  rw [lg_entry_eq]
  have hl : lk ((lg_sl ([.ref t0] : List Value) ++ List.replicate (1 - (lg_sl ([.ref t0] : List Value)).length) Slot.unset).toArray) 1 [(0, .inr (some t0))] := hl
  generalize (lg_sl ([.ref t0] : List Value) ++ List.replicate (1 - (lg_sl ([.ref t0] : List Value)).length) Slot.unset).toArray = ls at hl ⊢
  exact K_X5_beginCall_0 X B.returns B.notSynchronized ⟨Nat.le_refl _, Nat.le_refl _⟩ hh va_S.rf hl h
set_option maxHeartbeats 4000000 in
set_option maxRecDepth 100000 in
theorem K_X6_number_0 {p : Program} {l : Launch} {e : Env} {R : Room} {s : State} {m : MethodId} {args : Array Value} {below : List Frame} {meth : Method} {c : Code} {D : va_G} {dA : Nat → ClassId} {base : Nat} {z : Int32} (X : cx p s m args c cX6_number RX6 2 D dA) (hret : meth.sig.returnType = some .int) (hlk : meth.locks = false) (hR : 0 ≤ R.frames ∧ 0 ≤ R.locals) {σ : hp} {t0 : Nat} {v1 : Int32} {H : Heap} {locs : List Loc} {ls : Array Slot} (hh : hw D dA base σ H) (hS : hs base s.heap H locs) (hl : lk ls 2 [(0, .inr (some t0)), (1, .inl v1)]) (h : S_X6_number σ t0 v1 = some z) : W p l e R s m args below meth c H locs 0 0 (MQ below (qG D dA base (some (.int z)) σ) args s 0 0 (fun q => base ≤ q)) (F0 m 0 ls []) := by
  unfold S_X6_number at h
  refine q_aload_n X dX6_number_0 rfl hl 0 rfl ?_
  obtain ⟨t1, e_t1, h⟩ := o_b h
  refine q_gI X hh fa_X6_13 rfl e_t1 dX6_number_1 ?_
  refine q_iload_n X dX6_number_4 rfl hl 1 rfl ?_
  refine lv_iadd X.1 X.2.1 dX6_number_5 ?_
  refine lv_bipush (v := (7 : Int32)) X.1 X.2.1 dX6_number_6 (by decide) ?_
  refine lv_iand X.1 X.2.1 dX6_number_8 ?_
  cases h
  exact q_iret X hret hlk hh hS dX6_number_9
set_option maxRecDepth 100000 in
theorem M_X6_number (l : Launch) (D : va_G) (dA : Nat → ClassId) (base : Nat) (σ : hp) (t0 : Nat) (v1 : Int32) {z : Int32} (h : S_X6_number σ t0 v1 = some z) : mt l yX6_number cX6_number 2 (some .int) 0 0 D dA base σ [.ref t0, .int v1] (some (.int z)) σ 0 0 := by
  refine Met.ofW (cc := cX6_number) (maxL := 2) (ret := some .int) (by decide) rfl ?_
  intro p e s m args below meth c s₁ B hml hv
  obtain ⟨rfl, hh, hK⟩ := hv
  have X : cx p s m ([.ref t0, .int v1] : List Value).toArray c cX6_number RX6 2 D dA := ⟨B.exec, B.bytes, findClass_of_methodNamed B.named, hml, fun w hw => atoms_spec (ws := .code yX6_number cX6_number 2 (some .int) :: G) B.pre w (List.mem_cons_of_mem _ hw), hK⟩
  have hl := lk_entry [.inr (some t0), .inl v1] (n := 2) (Nat.le_of_ble_eq_true rfl)
  rw [lg_entry_eq]
  have hl : lk ((lg_sl ([.ref t0, .int v1] : List Value) ++ List.replicate (2 - (lg_sl ([.ref t0, .int v1] : List Value)).length) Slot.unset).toArray) 2 [(0, .inr (some t0)), (1, .inl v1)] := hl
  generalize (lg_sl ([.ref t0, .int v1] : List Value) ++ List.replicate (2 - (lg_sl ([.ref t0, .int v1] : List Value)).length) Slot.unset).toArray = ls at hl ⊢
  exact K_X6_number_0 X B.returns B.notSynchronized ⟨Nat.le_refl _, Nat.le_refl _⟩ hh va_S.rf hl h
set_option maxHeartbeats 4000000 in
set_option maxRecDepth 100000 in
theorem K_X6_message_0 {p : Program} {l : Launch} {e : Env} {R : Room} {s : State} {m : MethodId} {args : Array Value} {below : List Frame} {meth : Method} {c : Code} {D : va_G} {dA : Nat → ClassId} {base : Nat} {z : Option Nat} (X : cx p s m args c cX6_message RX6 2 D dA) (hret : meth.sig.returnType = some (.object "SpoolLink$Message")) (hlk : meth.locks = false) (hR : 0 ≤ R.frames ∧ 0 ≤ R.locals) {σ : hp} {t0 : Nat} {v1 : Int32} {H : Heap} {locs : List Loc} {ls : Array Slot} (hh : hw D dA base σ H) (hS : hs base s.heap H locs) (hl : lk ls 2 [(0, .inr (some t0)), (1, .inl v1)]) (h : S_X6_message σ t0 v1 = some z) : W p l e R s m args below meth c H locs 0 0 (MQ below (qG D dA base (some (va_rf z)) σ) args s 0 0 (fun q => base ≤ q)) (F0 m 0 ls []) := by
  unfold S_X6_message at h
  refine q_aload_n X dX6_message_0 rfl hl 0 rfl ?_
  obtain ⟨t1, e_t1, h⟩ := o_b h
  refine q_gR X hh fa_X6_24 rfl e_t1 dX6_message_1 ?_
  refine q_aload_n X dX6_message_4 rfl hl 0 rfl ?_
  obtain ⟨t5, e_t5, h⟩ := o_b h
  refine q_gI X hh fa_X6_9 rfl e_t5 dX6_message_5 ?_
  refine q_iload_n X dX6_message_8 rfl hl 1 rfl ?_
  refine lv_iadd X.1 X.2.1 dX6_message_9 ?_
  refine lv_bipush (v := (20 : Int32)) X.1 X.2.1 dX6_message_10 (by decide) ?_
  refine lv_irem X.1 X.2.1 dX6_message_12 (by decide) ?_
  obtain ⟨t13, e_t13, h⟩ := o_b h
  refine q_ldQ X hh (by decide) rfl e_t13 dX6_message_13 ?_
  cases h
  exact q_aret X hret hlk hh hS dX6_message_14
set_option maxRecDepth 100000 in
theorem M_X6_message (l : Launch) (D : va_G) (dA : Nat → ClassId) (base : Nat) (σ : hp) (t0 : Nat) (v1 : Int32) {z : Option Nat} (h : S_X6_message σ t0 v1 = some z) : mt l yX6_message cX6_message 2 (some (.object "SpoolLink$Message")) 0 0 D dA base σ [.ref t0, .int v1] (some (va_rf z)) σ 0 0 := by
  refine Met.ofW (cc := cX6_message) (maxL := 2) (ret := some (.object "SpoolLink$Message")) (by decide) rfl ?_
  intro p e s m args below meth c s₁ B hml hv
  obtain ⟨rfl, hh, hK⟩ := hv
  have X : cx p s m ([.ref t0, .int v1] : List Value).toArray c cX6_message RX6 2 D dA := ⟨B.exec, B.bytes, findClass_of_methodNamed B.named, hml, fun w hw => atoms_spec (ws := .code yX6_message cX6_message 2 (some (.object "SpoolLink$Message")) :: G) B.pre w (List.mem_cons_of_mem _ hw), hK⟩
  have hl := lk_entry [.inr (some t0), .inl v1] (n := 2) (Nat.le_of_ble_eq_true rfl)
  rw [lg_entry_eq]
  have hl : lk ((lg_sl ([.ref t0, .int v1] : List Value) ++ List.replicate (2 - (lg_sl ([.ref t0, .int v1] : List Value)).length) Slot.unset).toArray) 2 [(0, .inr (some t0)), (1, .inl v1)] := hl
  generalize (lg_sl ([.ref t0, .int v1] : List Value) ++ List.replicate (2 - (lg_sl ([.ref t0, .int v1] : List Value)).length) Slot.unset).toArray = ls at hl ⊢
  exact K_X6_message_0 X B.returns B.notSynchronized ⟨Nat.le_refl _, Nat.le_refl _⟩ hh va_S.rf hl h
theorem ke_X5_sendOutFrom_2_b {rec2 : hp → Nat → Int32 → Option (hp)} {z : hp} (hm2 : ∀ (σ : hp) (t0 : Nat) (v2 : Int32), rec2 σ t0 v2 = some z → eq4 σ z) {σ : hp} {t0 : Nat} {v2 : Int32} (h : S_X5_sendOutFrom_2_b rec2 σ t0 v2 = some z) : eq4 σ z := by
  unfold S_X5_sendOutFrom_2_b at h
  obtain ⟨t4, e_t4, h⟩ := o_b h
  obtain ⟨t7, e_t7, h⟩ := o_b h
  by_cases c10 : t7 ≤ v2
  · rw [if_pos c10] at h
    cases h
    exact eq4.rf _
  · rw [if_neg c10] at h
    obtain ⟨t14, e_t14, h⟩ := o_b h
    obtain ⟨b17, e_b17, h⟩ := o_b h
    obtain ⟨q17, e_q17, h⟩ := o_b h
    obtain ⟨t21, e_t21, h⟩ := o_b h
    obtain ⟨b25, e_b25, h⟩ := o_b h
    obtain ⟨q25, e_q25, h⟩ := o_b h
    obtain ⟨t29, e_t29, h⟩ := o_b h
    obtain ⟨t33, e_t33, h⟩ := o_b h
    obtain ⟨b37, e_b37, h⟩ := o_b h
    obtain ⟨q37, e_q37, h⟩ := o_b h
    obtain ⟨b40, e_b40, h⟩ := o_b h
    obtain ⟨q40, e_q40, h⟩ := o_b h
    exact (((ke_X7_add_0 e_q17)).tr (ke_X4_fillData_0 e_q40)).tr (hm2 _ _ _ h)
theorem ke_X5_sendOutFrom_2 {z : hp} : ∀ (n : Nat) (σ : hp) (t0 : Nat) (v2 : Int32), S_X5_sendOutFrom_2 n σ t0 v2 = some z → eq4 σ z := by
  intro n
  induction n with
  | zero => intro σ t0 v2 h; cases h
  | succ n ih => intro σ t0 v2 h; exact ke_X5_sendOutFrom_2_b ih h
set_option maxHeartbeats 4000000 in
set_option maxRecDepth 100000 in
theorem K_X5_sendOutFrom_2_b {p : Program} {l : Launch} {e : Env} {R : Room} {s : State} {m : MethodId} {args : Array Value} {below : List Frame} {meth : Method} {c : Code} {D : va_G} {dA : Nat → ClassId} {base : Nat} {rec2 : hp → Nat → Int32 → Option (hp)} {z : hp} (X : cx p s m args c cX5_sendOutFrom RX5 3 D dA) (hret : meth.sig.returnType = none) (hlk : meth.locks = false) (hR : 2 ≤ R.frames ∧ 49 ≤ R.locals) (hr2 : ∀ (σ : hp) (t0 : Nat) (v2 : Int32) (H : Heap) (locs : List Loc) (ls : Array Slot), hw D dA base σ H → hs base s.heap H locs → lk ls 3 [(0, .inr (some t0)), (2, .inl v2)] → rec2 σ t0 v2 = some z → W p l e R s m args below meth c H locs 0 0 (MQ below (qG D dA base none z) args s 0 0 (fun q => base ≤ q)) (F0 m 2 ls [])) {σ : hp} {t0 : Nat} {v2 : Int32} {H : Heap} {locs : List Loc} {ls : Array Slot} (hh : hw D dA base σ H) (hS : hs base s.heap H locs) (hl : lk ls 3 [(0, .inr (some t0)), (2, .inl v2)]) (h : S_X5_sendOutFrom_2_b rec2 σ t0 v2 = some z) : W p l e R s m args below meth c H locs 0 0 (MQ below (qG D dA base none z) args s 0 0 (fun q => base ≤ q)) (F0 m 2 ls []) := by
  unfold S_X5_sendOutFrom_2_b at h
  refine q_iload_n X dX5_sendOutFrom_2 rfl hl 1 rfl ?_
  refine q_aload_n X dX5_sendOutFrom_3 rfl hl 0 rfl ?_
  obtain ⟨t4, e_t4, h⟩ := o_b h
  refine q_gR X hh fa_X5_21 rfl e_t4 dX5_sendOutFrom_4 ?_
  obtain ⟨t7, e_t7, h⟩ := o_b h
  refine q_gI X hh fa_X5_90 rfl e_t7 dX5_sendOutFrom_7 ?_
  refine lv_icmp_ge (tgt := 49) X.1 X.2.1 dX5_sendOutFrom_10 (by decide) (fun c10 => ?_) (fun c10 => ?_)
  · rw [if_pos c10] at h
    cases h
    exact q_vret X hret hlk hh hS dX5_sendOutFrom_49
  · rw [if_neg c10] at h
    refine q_aload_n X dX5_sendOutFrom_13 rfl hl 0 rfl ?_
    obtain ⟨t14, e_t14, h⟩ := o_b h
    refine q_gR X hh fa_X5_61 rfl e_t14 dX5_sendOutFrom_14 ?_
    obtain ⟨b17, e_b17, h⟩ := o_b h
    obtain ⟨q17, e_q17, h⟩ := o_b h
    refine q_cV (As := []) X hh hS hl cf_X5_78 (cN := 7) rfl rfl e_b17 rfl (M_X7_add l D dA base σ b17  e_q17) ⟨Nat.le_trans (by decide) hR.1, Nat.le_trans (by decide) hR.2⟩ (cat8 [] (Nat.le_of_ble_eq_true rfl)) dX5_sendOutFrom_17 ⟨Nat.zero_le _, Nat.zero_le _⟩ rfl rfl (fun H locs hh hS => ?_)
    refine q_aload_n X dX5_sendOutFrom_20 rfl hl 0 rfl ?_
    obtain ⟨t21, e_t21, h⟩ := o_b h
    refine q_gR X hh fa_X5_21 rfl e_t21 dX5_sendOutFrom_21 ?_
    refine q_iload_n X dX5_sendOutFrom_24 rfl hl 1 rfl ?_
    obtain ⟨b25, e_b25, h⟩ := o_b h
    obtain ⟨q25, e_q25, h⟩ := o_b h
    refine q_cV (As := [.int v2]) X hh hS hl cf_X5_132 (cN := 6) rfl rfl e_b25 rfl (M_X6_number l D dA base q17.2 b25 v2 e_q25) ⟨Nat.le_trans (by decide) hR.1, Nat.le_trans (by decide) hR.2⟩ (cat8 [.inr q17.1] (Nat.le_of_ble_eq_true rfl)) dX5_sendOutFrom_25 ⟨Nat.zero_le _, Nat.zero_le _⟩ rfl rfl (fun H locs hh hS => ?_)
    refine q_aload_n X dX5_sendOutFrom_28 rfl hl 0 rfl ?_
    obtain ⟨t29, e_t29, h⟩ := o_b h
    refine q_gI X hh fa_X5_42 rfl e_t29 dX5_sendOutFrom_29 ?_
    refine q_aload_n X dX5_sendOutFrom_32 rfl hl 0 rfl ?_
    obtain ⟨t33, e_t33, h⟩ := o_b h
    refine q_gR X hh fa_X5_21 rfl e_t33 dX5_sendOutFrom_33 ?_
    refine q_iload_n X dX5_sendOutFrom_36 rfl hl 1 rfl ?_
    obtain ⟨b37, e_b37, h⟩ := o_b h
    obtain ⟨q37, e_q37, h⟩ := o_b h
    refine q_cV (As := [.int v2]) X hh hS hl cf_X5_136 (cN := 6) rfl rfl e_b37 rfl (M_X6_message l D dA base q17.2 b37 v2 e_q37) ⟨Nat.le_trans (by decide) hR.1, Nat.le_trans (by decide) hR.2⟩ (cat8 [.inl t29, .inl q25, .inr q17.1] (Nat.le_of_ble_eq_true rfl)) dX5_sendOutFrom_37 ⟨Nat.zero_le _, Nat.zero_le _⟩ rfl rfl (fun H locs hh hS => ?_)
    obtain ⟨b40, e_b40, h⟩ := o_b h
    obtain ⟨q40, e_q40, h⟩ := o_b h
    refine q_cV (As := [.int q25, .int t29, va_rf q37]) X hh hS hl cf_X5_140 (cN := 4) rfl rfl e_b40 rfl (M_X4_fillData l D dA base q17.2 b40 q25 t29 q37 e_q40) ⟨Nat.le_trans (by decide) hR.1, Nat.le_trans (by decide) hR.2⟩ (cat8 [] (Nat.le_of_ble_eq_true rfl)) dX5_sendOutFrom_40 ⟨Nat.zero_le _, Nat.zero_le _⟩ rfl rfl (fun H locs hh hS => ?_)
    refine q_iinc (v := (1 : Int32)) (lv' := [(2, .inl (v2 + (1 : Int32))), (0, .inr (some t0))]) X dX5_sendOutFrom_43 hl 1 rfl (by decide) (by decide) rfl (fun ls hl => ?_)
    refine lv_goto (tgt := 2) X.1 X.2.1 dX5_sendOutFrom_46 (by decide) ?_
    exact hr2 _ _ _ _ _ _ hh hS (lk_sub hl [1, 0] rfl) h
theorem K_X5_sendOutFrom_2 {p : Program} {l : Launch} {e : Env} {R : Room} {s : State} {m : MethodId} {args : Array Value} {below : List Frame} {meth : Method} {c : Code} {D : va_G} {dA : Nat → ClassId} {base : Nat} {z : hp} (X : cx p s m args c cX5_sendOutFrom RX5 3 D dA) (hret : meth.sig.returnType = none) (hlk : meth.locks = false) (hR : 2 ≤ R.frames ∧ 49 ≤ R.locals) : ∀ (n : Nat) (σ : hp) (t0 : Nat) (v2 : Int32) (H : Heap) (locs : List Loc) (ls : Array Slot), hw D dA base σ H → hs base s.heap H locs → lk ls 3 [(0, .inr (some t0)), (2, .inl v2)] → S_X5_sendOutFrom_2 n σ t0 v2 = some z → W p l e R s m args below meth c H locs 0 0 (MQ below (qG D dA base none z) args s 0 0 (fun q => base ≤ q)) (F0 m 2 ls []) := by
  intro n
  induction n with
  | zero => intro σ t0 v2 H locs ls hh hS hl h; cases h
  | succ n ih => intro σ t0 v2 H locs ls hh hS hl h; exact K_X5_sendOutFrom_2_b X hret hlk hR ih hh hS hl h
theorem ke_X5_sendOutFrom_0 {z : hp} {σ : hp} {t0 : Nat} {v1 : Int32} (h : S_X5_sendOutFrom σ t0 v1 = some z) : eq4 σ z := by
  unfold S_X5_sendOutFrom at h
  exact (ke_X5_sendOutFrom_2 FU _ _ _ h)
set_option maxHeartbeats 4000000 in
set_option maxRecDepth 100000 in
theorem K_X5_sendOutFrom_0 {p : Program} {l : Launch} {e : Env} {R : Room} {s : State} {m : MethodId} {args : Array Value} {below : List Frame} {meth : Method} {c : Code} {D : va_G} {dA : Nat → ClassId} {base : Nat} {z : hp} (X : cx p s m args c cX5_sendOutFrom RX5 3 D dA) (hret : meth.sig.returnType = none) (hlk : meth.locks = false) (hR : 2 ≤ R.frames ∧ 49 ≤ R.locals) {σ : hp} {t0 : Nat} {v1 : Int32} {H : Heap} {locs : List Loc} {ls : Array Slot} (hh : hw D dA base σ H) (hS : hs base s.heap H locs) (hl : lk ls 3 [(0, .inr (some t0)), (1, .inl v1)]) (h : S_X5_sendOutFrom σ t0 v1 = some z) : W p l e R s m args below meth c H locs 0 0 (MQ below (qG D dA base none z) args s 0 0 (fun q => base ≤ q)) (F0 m 0 ls []) := by
  unfold S_X5_sendOutFrom at h
  refine q_iload_n X dX5_sendOutFrom_0 rfl hl 1 rfl ?_
  refine q_istore_n (lv' := [(2, .inl v1), (0, .inr (some t0)), (1, .inl v1)]) X dX5_sendOutFrom_1 rfl hl (by decide) rfl (fun ls hl => ?_)
  exact K_X5_sendOutFrom_2 X hret hlk hR FU _ _ _ _ _ _ hh hS (lk_sub hl [1, 0] rfl) h
set_option maxRecDepth 100000 in
theorem M_X5_sendOutFrom (l : Launch) (D : va_G) (dA : Nat → ClassId) (base : Nat) (σ : hp) (t0 : Nat) (v1 : Int32) {z : hp} (h : S_X5_sendOutFrom σ t0 v1 = some z) : mt l yX5_sendOutFrom cX5_sendOutFrom 3 (none) 2 49 D dA base σ [.ref t0, .int v1] none z 0 0 := by
  refine Met.ofW (cc := cX5_sendOutFrom) (maxL := 3) (ret := none) (by decide) rfl ?_
  intro p e s m args below meth c s₁ B hml hv
  obtain ⟨rfl, hh, hK⟩ := hv
  have X : cx p s m ([.ref t0, .int v1] : List Value).toArray c cX5_sendOutFrom RX5 3 D dA := ⟨B.exec, B.bytes, findClass_of_methodNamed B.named, hml, fun w hw => atoms_spec (ws := .code yX5_sendOutFrom cX5_sendOutFrom 3 (none) :: G) B.pre w (List.mem_cons_of_mem _ hw), hK⟩
  have hl := lk_entry [.inr (some t0), .inl v1] (n := 3) (Nat.le_of_ble_eq_true rfl)
  rw [lg_entry_eq]
  have hl : lk ((lg_sl ([.ref t0, .int v1] : List Value) ++ List.replicate (3 - (lg_sl ([.ref t0, .int v1] : List Value)).length) Slot.unset).toArray) 3 [(0, .inr (some t0)), (1, .inl v1)] := hl
  generalize (lg_sl ([.ref t0, .int v1] : List Value) ++ List.replicate (3 - (lg_sl ([.ref t0, .int v1] : List Value)).length) Slot.unset).toArray = ls at hl ⊢
  exact K_X5_sendOutFrom_0 X B.returns B.notSynchronized ⟨Nat.le_refl _, Nat.le_refl _⟩ hh va_S.rf hl h
theorem ke_X5_passTickUnanswered_0 {z : Int32 × hp} {σ : hp} {t0 : Nat} (h : S_X5_passTickUnanswered σ t0 = some z) : eq4 σ z.2 := by
  unfold S_X5_passTickUnanswered at h
  obtain ⟨t2, e_t2, h⟩ := o_b h
  obtain ⟨s7, e_s7, h⟩ := o_b h
  obtain ⟨t11, e_t11, h⟩ := o_b h
  by_cases c15 : (4 : Int32) ≤ t11
  · rw [if_pos c15] at h
    obtain ⟨t21, e_t21, h⟩ := o_b h
    by_cases c25 : t21 < (5 : Int32)
    · rw [if_pos c25] at h
      obtain ⟨t37, e_t37, h⟩ := o_b h
      obtain ⟨s42, e_s42, h⟩ := o_b h
      obtain ⟨s47, e_s47, h⟩ := o_b h
      obtain ⟨t51, e_t51, h⟩ := o_b h
      by_cases c55 : t51 = (1 : Int32)
      · rw [if_pos c55] at h
        obtain ⟨t59, e_t59, h⟩ := o_b h
        obtain ⟨b62, e_b62, h⟩ := o_b h
        obtain ⟨q62, e_q62, h⟩ := o_b h
        obtain ⟨t68, e_t68, h⟩ := o_b h
        obtain ⟨b71, e_b71, h⟩ := o_b h
        obtain ⟨q71, e_q71, h⟩ := o_b h
        cases h
        show eq4 σ q71
        exact (((((e_pI e_s7)).tr (e_pI e_s42)).tr (e_pI e_s47)).tr (ke_X7_add_0 e_q62)).tr (ke_X4_fillControl_0 e_q71)
      · rw [if_neg c55] at h
        obtain ⟨b78, e_b78, h⟩ := o_b h
        obtain ⟨q78, e_q78, h⟩ := o_b h
        obtain ⟨t82, e_t82, h⟩ := o_b h
        obtain ⟨t85, e_t85, h⟩ := o_b h
        cases h
        show eq4 σ q78
        exact ((((e_pI e_s7)).tr (e_pI e_s42)).tr (e_pI e_s47)).tr (ke_X5_sendOutFrom_0 e_q78)
    · rw [if_neg c25] at h
      obtain ⟨b30, e_b30, h⟩ := o_b h
      obtain ⟨q30, e_q30, h⟩ := o_b h
      cases h
      show eq4 σ q30
      exact ((e_pI e_s7)).tr (ke_X5_begin_0 e_q30)
  · rw [if_neg c15] at h
    cases h
    show eq4 σ s7
    exact (e_pI e_s7)
set_option maxHeartbeats 4000000 in
set_option maxRecDepth 100000 in
theorem K_X5_passTickUnanswered_0 {p : Program} {l : Launch} {e : Env} {R : Room} {s : State} {m : MethodId} {args : Array Value} {below : List Frame} {meth : Method} {c : Code} {D : va_G} {dA : Nat → ClassId} {base : Nat} {z : Int32 × hp} (X : cx p s m args c cX5_passTickUnanswered RX5 1 D dA) (hret : meth.sig.returnType = some .int) (hlk : meth.locks = false) (hR : 3 ≤ R.frames ∧ 71 ≤ R.locals) {σ : hp} {t0 : Nat} {H : Heap} {locs : List Loc} {ls : Array Slot} (hh : hw D dA base σ H) (hS : hs base s.heap H locs) (hl : lk ls 1 [(0, .inr (some t0))]) (h : S_X5_passTickUnanswered σ t0 = some z) : W p l e R s m args below meth c H locs 0 0 (MQ below (qG D dA base (some (.int z.1)) z.2) args s 0 0 (fun q => base ≤ q)) (F0 m 0 ls []) := by
  unfold S_X5_passTickUnanswered at h
  refine q_aload_n X dX5_passTickUnanswered_0 rfl hl 0 rfl ?_
  refine lv_dup X.1 X.2.1 dX5_passTickUnanswered_1 (vv_cat (.inr (some t0))) ?_
  obtain ⟨t2, e_t2, h⟩ := o_b h
  refine q_gI X hh fa_X5_49 rfl e_t2 dX5_passTickUnanswered_2 ?_
  refine lv_iconst (v := (1 : Int32)) X.1 X.2.1 dX5_passTickUnanswered_5 (by decide) ?_
  refine lv_iadd X.1 X.2.1 dX5_passTickUnanswered_6 ?_
  obtain ⟨s7, e_s7, h⟩ := o_b h
  refine q_pI X hh hS fp_X5_49 (fun h => by cases h) rfl e_s7 dX5_passTickUnanswered_7 (fun H locs hh hS => ?_)
  refine q_aload_n X dX5_passTickUnanswered_10 rfl hl 0 rfl ?_
  obtain ⟨t11, e_t11, h⟩ := o_b h
  refine q_gI X hh fa_X5_49 rfl e_t11 dX5_passTickUnanswered_11 ?_
  refine lv_iconst (v := (4 : Int32)) X.1 X.2.1 dX5_passTickUnanswered_14 (by decide) ?_
  refine lv_icmp_ge (tgt := 20) X.1 X.2.1 dX5_passTickUnanswered_15 (by decide) (fun c15 => ?_) (fun c15 => ?_)
  · rw [if_pos c15] at h
    refine q_aload_n X dX5_passTickUnanswered_20 rfl hl 0 rfl ?_
    obtain ⟨t21, e_t21, h⟩ := o_b h
    refine q_gI X hh fa_X5_52 rfl e_t21 dX5_passTickUnanswered_21 ?_
    refine lv_iconst (v := (5 : Int32)) X.1 X.2.1 dX5_passTickUnanswered_24 (by decide) ?_
    refine lv_icmp_lt (tgt := 35) X.1 X.2.1 dX5_passTickUnanswered_25 (by decide) (fun c25 => ?_) (fun c25 => ?_)
    · rw [if_pos c25] at h
      refine q_aload_n X dX5_passTickUnanswered_35 rfl hl 0 rfl ?_
      refine lv_dup X.1 X.2.1 dX5_passTickUnanswered_36 (vv_cat (.inr (some t0))) ?_
      obtain ⟨t37, e_t37, h⟩ := o_b h
      refine q_gI X hh fa_X5_52 rfl e_t37 dX5_passTickUnanswered_37 ?_
      refine lv_iconst (v := (1 : Int32)) X.1 X.2.1 dX5_passTickUnanswered_40 (by decide) ?_
      refine lv_iadd X.1 X.2.1 dX5_passTickUnanswered_41 ?_
      obtain ⟨s42, e_s42, h⟩ := o_b h
      refine q_pI X hh hS fp_X5_52 (fun h => by cases h) rfl e_s42 dX5_passTickUnanswered_42 (fun H locs hh hS => ?_)
      refine q_aload_n X dX5_passTickUnanswered_45 rfl hl 0 rfl ?_
      refine lv_iconst (v := (0 : Int32)) X.1 X.2.1 dX5_passTickUnanswered_46 (by decide) ?_
      obtain ⟨s47, e_s47, h⟩ := o_b h
      refine q_pI X hh hS fp_X5_49 (fun h => by cases h) rfl e_s47 dX5_passTickUnanswered_47 (fun H locs hh hS => ?_)
      refine q_aload_n X dX5_passTickUnanswered_50 rfl hl 0 rfl ?_
      obtain ⟨t51, e_t51, h⟩ := o_b h
      refine q_gI X hh fa_X5_32 rfl e_t51 dX5_passTickUnanswered_51 ?_
      refine lv_iconst (v := (1 : Int32)) X.1 X.2.1 dX5_passTickUnanswered_54 (by decide) ?_
      refine lv_icmp_ne (tgt := 76) X.1 X.2.1 dX5_passTickUnanswered_55 (by decide) (fun c55 => ?_) (fun c55 => ?_)
      · rw [if_neg c55] at h
        refine q_aload_n X dX5_passTickUnanswered_76 rfl hl 0 rfl ?_
        refine lv_iconst (v := (0 : Int32)) X.1 X.2.1 dX5_passTickUnanswered_77 (by decide) ?_
        obtain ⟨b78, e_b78, h⟩ := o_b h
        obtain ⟨q78, e_q78, h⟩ := o_b h
        refine q_cV (As := [.int (0 : Int32)]) X hh hS hl cf_X5_129 (cN := 5) rfl rfl e_b78 rfl (M_X5_sendOutFrom l D dA base s47 b78 (0 : Int32) e_q78) ⟨Nat.le_trans (by decide) hR.1, Nat.le_trans (by decide) hR.2⟩ (cat8 [] (Nat.le_of_ble_eq_true rfl)) dX5_passTickUnanswered_78 ⟨Nat.zero_le _, Nat.zero_le _⟩ rfl rfl (fun H locs hh hS => ?_)
        refine q_aload_n X dX5_passTickUnanswered_81 rfl hl 0 rfl ?_
        obtain ⟨t82, e_t82, h⟩ := o_b h
        refine q_gR X hh fa_X5_21 rfl e_t82 dX5_passTickUnanswered_82 ?_
        obtain ⟨t85, e_t85, h⟩ := o_b h
        refine q_gI X hh fa_X5_90 rfl e_t85 dX5_passTickUnanswered_85 ?_
        cases h
        exact q_iret X hret hlk hh hS dX5_passTickUnanswered_88
      · rw [if_pos c55] at h
        refine q_aload_n X dX5_passTickUnanswered_58 rfl hl 0 rfl ?_
        obtain ⟨t59, e_t59, h⟩ := o_b h
        refine q_gR X hh fa_X5_61 rfl e_t59 dX5_passTickUnanswered_59 ?_
        obtain ⟨b62, e_b62, h⟩ := o_b h
        obtain ⟨q62, e_q62, h⟩ := o_b h
        refine q_cV (As := []) X hh hS hl cf_X5_78 (cN := 7) rfl rfl e_b62 rfl (M_X7_add l D dA base s47 b62  e_q62) ⟨Nat.le_trans (by decide) hR.1, Nat.le_trans (by decide) hR.2⟩ (cat8 [] (Nat.le_of_ble_eq_true rfl)) dX5_passTickUnanswered_62 ⟨Nat.zero_le _, Nat.zero_le _⟩ rfl rfl (fun H locs hh hS => ?_)
        refine lv_bipush (v := (7 : Int32)) X.1 X.2.1 dX5_passTickUnanswered_65 (by decide) ?_
        refine q_aload_n X dX5_passTickUnanswered_67 rfl hl 0 rfl ?_
        obtain ⟨t68, e_t68, h⟩ := o_b h
        refine q_gI X hh fa_X5_36 rfl e_t68 dX5_passTickUnanswered_68 ?_
        obtain ⟨b71, e_b71, h⟩ := o_b h
        obtain ⟨q71, e_q71, h⟩ := o_b h
        refine q_cV (As := [.int (7 : Int32), .int t68]) X hh hS hl cf_X5_86 (cN := 4) rfl rfl e_b71 rfl (M_X4_fillControl l D dA base q62.2 b71 (7 : Int32) t68 e_q71) ⟨Nat.le_trans (by decide) hR.1, Nat.le_trans (by decide) hR.2⟩ (cat8 [] (Nat.le_of_ble_eq_true rfl)) dX5_passTickUnanswered_71 ⟨Nat.zero_le _, Nat.zero_le _⟩ rfl rfl (fun H locs hh hS => ?_)
        refine lv_iconst (v := (1 : Int32)) X.1 X.2.1 dX5_passTickUnanswered_74 (by decide) ?_
        cases h
        exact q_iret X hret hlk hh hS dX5_passTickUnanswered_75
    · rw [if_neg c25] at h
      refine q_aload_n X dX5_passTickUnanswered_28 rfl hl 0 rfl ?_
      refine lv_iconst (v := (0 : Int32)) X.1 X.2.1 dX5_passTickUnanswered_29 (by decide) ?_
      obtain ⟨b30, e_b30, h⟩ := o_b h
      obtain ⟨q30, e_q30, h⟩ := o_b h
      refine q_cV (As := [.int (0 : Int32)]) X hh hS hl cf_X5_71 (cN := 5) rfl rfl e_b30 rfl (M_X5_begin l D dA base s7 b30 (0 : Int32) e_q30) ⟨Nat.le_trans (by decide) hR.1, Nat.le_trans (by decide) hR.2⟩ (cat8 [] (Nat.le_of_ble_eq_true rfl)) dX5_passTickUnanswered_30 ⟨Nat.zero_le _, Nat.zero_le _⟩ rfl rfl (fun H locs hh hS => ?_)
      refine lv_iconst (v := (0 : Int32)) X.1 X.2.1 dX5_passTickUnanswered_33 (by decide) ?_
      cases h
      exact q_iret X hret hlk hh hS dX5_passTickUnanswered_34
  · rw [if_neg c15] at h
    refine lv_iconst (v := (0 : Int32)) X.1 X.2.1 dX5_passTickUnanswered_18 (by decide) ?_
    cases h
    exact q_iret X hret hlk hh hS dX5_passTickUnanswered_19
set_option maxRecDepth 100000 in
theorem M_X5_passTickUnanswered (l : Launch) (D : va_G) (dA : Nat → ClassId) (base : Nat) (σ : hp) (t0 : Nat) {z : Int32 × hp} (h : S_X5_passTickUnanswered σ t0 = some z) : mt l yX5_passTickUnanswered cX5_passTickUnanswered 1 (some .int) 3 71 D dA base σ [.ref t0] (some (.int z.1)) z.2 0 0 := by
  refine Met.ofW (cc := cX5_passTickUnanswered) (maxL := 1) (ret := some .int) (by decide) rfl ?_
  intro p e s m args below meth c s₁ B hml hv
  obtain ⟨rfl, hh, hK⟩ := hv
  have X : cx p s m ([.ref t0] : List Value).toArray c cX5_passTickUnanswered RX5 1 D dA := ⟨B.exec, B.bytes, findClass_of_methodNamed B.named, hml, fun w hw => atoms_spec (ws := .code yX5_passTickUnanswered cX5_passTickUnanswered 1 (some .int) :: G) B.pre w (List.mem_cons_of_mem _ hw), hK⟩
  have hl := lk_entry [.inr (some t0)] (n := 1) (Nat.le_of_ble_eq_true rfl)
  rw [lg_entry_eq]
  have hl : lk ((lg_sl ([.ref t0] : List Value) ++ List.replicate (1 - (lg_sl ([.ref t0] : List Value)).length) Slot.unset).toArray) 1 [(0, .inr (some t0))] := hl
  generalize (lg_sl ([.ref t0] : List Value) ++ List.replicate (1 - (lg_sl ([.ref t0] : List Value)).length) Slot.unset).toArray = ls at hl ⊢
  exact K_X5_passTickUnanswered_0 X B.returns B.notSynchronized ⟨Nat.le_refl _, Nat.le_refl _⟩ hh va_S.rf hl h
set_option maxHeartbeats 4000000 in
set_option maxRecDepth 100000 in
theorem K_X5_isOpen_21 {p : Program} {l : Launch} {e : Env} {R : Room} {s : State} {m : MethodId} {args : Array Value} {below : List Frame} {meth : Method} {c : Code} {D : va_G} {dA : Nat → ClassId} {base : Nat} {z : Int32} (X : cx p s m args c cX5_isOpen RX5 1 D dA) (hret : meth.sig.returnType = some .boolean) (hlk : meth.locks = false) (hR : 0 ≤ R.frames ∧ 0 ≤ R.locals) {σ : hp} {w0 : Int32} {H : Heap} {locs : List Loc} {ls : Array Slot} (hh : hw D dA base σ H) (hS : hs base s.heap H locs) (hl : lk ls 1 []) (h : S_X5_isOpen_21 σ w0 = some z) : W p l e R s m args below meth c H locs 0 0 (MQ below (qG D dA base (some (.int z)) σ) args s 0 0 (fun q => base ≤ q)) (F0 m 21 ls [.int w0]) := by
  unfold S_X5_isOpen_21 at h
  obtain ⟨z21, e_z21, h⟩ := o_b h
  cases h
  exact q_zret X hret hlk hh hS e_z21 dX5_isOpen_21
set_option maxHeartbeats 4000000 in
set_option maxRecDepth 100000 in
theorem K_X5_isOpen_16 {p : Program} {l : Launch} {e : Env} {R : Room} {s : State} {m : MethodId} {args : Array Value} {below : List Frame} {meth : Method} {c : Code} {D : va_G} {dA : Nat → ClassId} {base : Nat} {z : Int32} (X : cx p s m args c cX5_isOpen RX5 1 D dA) (hret : meth.sig.returnType = some .boolean) (hlk : meth.locks = false) (hR : 0 ≤ R.frames ∧ 0 ≤ R.locals) {σ : hp} {H : Heap} {locs : List Loc} {ls : Array Slot} (hh : hw D dA base σ H) (hS : hs base s.heap H locs) (hl : lk ls 1 []) (h : S_X5_isOpen_16 σ = some z) : W p l e R s m args below meth c H locs 0 0 (MQ below (qG D dA base (some (.int z)) σ) args s 0 0 (fun q => base ≤ q)) (F0 m 16 ls []) := by
  unfold S_X5_isOpen_16 at h
  refine lv_iconst (v := (1 : Int32)) X.1 X.2.1 dX5_isOpen_16 (by decide) ?_
  refine lv_goto (tgt := 21) X.1 X.2.1 dX5_isOpen_17 (by decide) ?_
  exact K_X5_isOpen_21 X hret hlk hR hh hS (lk_sub hl [] rfl) h
set_option maxHeartbeats 4000000 in
set_option maxRecDepth 100000 in
theorem K_X5_isOpen_0 {p : Program} {l : Launch} {e : Env} {R : Room} {s : State} {m : MethodId} {args : Array Value} {below : List Frame} {meth : Method} {c : Code} {D : va_G} {dA : Nat → ClassId} {base : Nat} {z : Int32} (X : cx p s m args c cX5_isOpen RX5 1 D dA) (hret : meth.sig.returnType = some .boolean) (hlk : meth.locks = false) (hR : 0 ≤ R.frames ∧ 0 ≤ R.locals) {σ : hp} {t0 : Nat} {H : Heap} {locs : List Loc} {ls : Array Slot} (hh : hw D dA base σ H) (hS : hs base s.heap H locs) (hl : lk ls 1 [(0, .inr (some t0))]) (h : S_X5_isOpen σ t0 = some z) : W p l e R s m args below meth c H locs 0 0 (MQ below (qG D dA base (some (.int z)) σ) args s 0 0 (fun q => base ≤ q)) (F0 m 0 ls []) := by
  unfold S_X5_isOpen at h
  refine q_aload_n X dX5_isOpen_0 rfl hl 0 rfl ?_
  obtain ⟨t1, e_t1, h⟩ := o_b h
  refine q_gI X hh fa_X5_32 rfl e_t1 dX5_isOpen_1 ?_
  refine lv_iconst (v := (2 : Int32)) X.1 X.2.1 dX5_isOpen_4 (by decide) ?_
  refine lv_icmp_eq (tgt := 16) X.1 X.2.1 dX5_isOpen_5 (by decide) (fun c5 => ?_) (fun c5 => ?_)
  · rw [if_pos c5] at h
    exact K_X5_isOpen_16 X hret hlk hR hh hS (lk_sub hl [] rfl) h
  · rw [if_neg c5] at h
    refine q_aload_n X dX5_isOpen_8 rfl hl 0 rfl ?_
    obtain ⟨t9, e_t9, h⟩ := o_b h
    refine q_gI X hh fa_X5_32 rfl e_t9 dX5_isOpen_9 ?_
    refine lv_iconst (v := (3 : Int32)) X.1 X.2.1 dX5_isOpen_12 (by decide) ?_
    refine lv_icmp_ne (tgt := 20) X.1 X.2.1 dX5_isOpen_13 (by decide) (fun c13 => ?_) (fun c13 => ?_)
    · rw [if_neg c13] at h
      refine lv_iconst (v := (0 : Int32)) X.1 X.2.1 dX5_isOpen_20 (by decide) ?_
      exact K_X5_isOpen_21 X hret hlk hR hh hS (lk_sub hl [] rfl) h
    · rw [if_pos c13] at h
      exact K_X5_isOpen_16 X hret hlk hR hh hS (lk_sub hl [] rfl) h
set_option maxRecDepth 100000 in
theorem M_X5_isOpen (l : Launch) (D : va_G) (dA : Nat → ClassId) (base : Nat) (σ : hp) (t0 : Nat) {z : Int32} (h : S_X5_isOpen σ t0 = some z) : mt l yX5_isOpen cX5_isOpen 1 (some .boolean) 0 0 D dA base σ [.ref t0] (some (.int z)) σ 0 0 := by
  refine Met.ofW (cc := cX5_isOpen) (maxL := 1) (ret := some .boolean) (by decide) rfl ?_
  intro p e s m args below meth c s₁ B hml hv
  obtain ⟨rfl, hh, hK⟩ := hv
  have X : cx p s m ([.ref t0] : List Value).toArray c cX5_isOpen RX5 1 D dA := ⟨B.exec, B.bytes, findClass_of_methodNamed B.named, hml, fun w hw => atoms_spec (ws := .code yX5_isOpen cX5_isOpen 1 (some .boolean) :: G) B.pre w (List.mem_cons_of_mem _ hw), hK⟩
  have hl := lk_entry [.inr (some t0)] (n := 1) (Nat.le_of_ble_eq_true rfl)
  rw [lg_entry_eq]
  have hl : lk ((lg_sl ([.ref t0] : List Value) ++ List.replicate (1 - (lg_sl ([.ref t0] : List Value)).length) Slot.unset).toArray) 1 [(0, .inr (some t0))] := hl
  generalize (lg_sl ([.ref t0] : List Value) ++ List.replicate (1 - (lg_sl ([.ref t0] : List Value)).length) Slot.unset).toArray = ls at hl ⊢
  exact K_X5_isOpen_0 X B.returns B.notSynchronized ⟨Nat.le_refl _, Nat.le_refl _⟩ hh va_S.rf hl h
theorem ke_X5_passTick_18 {z : Int32 × hp} {σ : hp} {t0 : Nat} (h : S_X5_passTick_18 σ t0 = some z) : eq4 σ z.2 := by
  unfold S_X5_passTick_18 at h
  obtain ⟨b19, e_b19, h⟩ := o_b h
  obtain ⟨q19, e_q19, h⟩ := o_b h
  cases h
  show eq4 σ q19.2
  exact (ke_X5_passTickUnanswered_0 e_q19)
set_option maxHeartbeats 4000000 in
set_option maxRecDepth 100000 in
theorem K_X5_passTick_18 {p : Program} {l : Launch} {e : Env} {R : Room} {s : State} {m : MethodId} {args : Array Value} {below : List Frame} {meth : Method} {c : Code} {D : va_G} {dA : Nat → ClassId} {base : Nat} {z : Int32 × hp} (X : cx p s m args c cX5_passTick RX5 1 D dA) (hret : meth.sig.returnType = some .int) (hlk : meth.locks = false) (hR : 4 ≤ R.frames ∧ 91 ≤ R.locals) {σ : hp} {t0 : Nat} {H : Heap} {locs : List Loc} {ls : Array Slot} (hh : hw D dA base σ H) (hS : hs base s.heap H locs) (hl : lk ls 1 [(0, .inr (some t0))]) (h : S_X5_passTick_18 σ t0 = some z) : W p l e R s m args below meth c H locs 0 0 (MQ below (qG D dA base (some (.int z.1)) z.2) args s 0 0 (fun q => base ≤ q)) (F0 m 18 ls []) := by
  unfold S_X5_passTick_18 at h
  refine q_aload_n X dX5_passTick_18 rfl hl 0 rfl ?_
  obtain ⟨b19, e_b19, h⟩ := o_b h
  obtain ⟨q19, e_q19, h⟩ := o_b h
  refine q_cV (As := []) X hh hS hl cf_X5_93 (cN := 5) rfl rfl e_b19 rfl (M_X5_passTickUnanswered l D dA base σ b19  e_q19) ⟨Nat.le_trans (by decide) hR.1, Nat.le_trans (by decide) hR.2⟩ (cat8 [] (Nat.le_of_ble_eq_true rfl)) dX5_passTick_19 ⟨Nat.zero_le _, Nat.zero_le _⟩ rfl rfl (fun H locs hh hS => ?_)
  cases h
  exact q_iret X hret hlk hh hS dX5_passTick_22
theorem ke_X5_passTick_54 {z : Int32 × hp} {σ : hp} (h : S_X5_passTick_54 σ = some z) : eq4 σ z.2 := by
  unfold S_X5_passTick_54 at h
  cases h
  show eq4 σ σ
  exact eq4.rf _
set_option maxHeartbeats 4000000 in
set_option maxRecDepth 100000 in
theorem K_X5_passTick_54 {p : Program} {l : Launch} {e : Env} {R : Room} {s : State} {m : MethodId} {args : Array Value} {below : List Frame} {meth : Method} {c : Code} {D : va_G} {dA : Nat → ClassId} {base : Nat} {z : Int32 × hp} (X : cx p s m args c cX5_passTick RX5 1 D dA) (hret : meth.sig.returnType = some .int) (hlk : meth.locks = false) (hR : 4 ≤ R.frames ∧ 91 ≤ R.locals) {σ : hp} {H : Heap} {locs : List Loc} {ls : Array Slot} (hh : hw D dA base σ H) (hS : hs base s.heap H locs) (hl : lk ls 1 []) (h : S_X5_passTick_54 σ = some z) : W p l e R s m args below meth c H locs 0 0 (MQ below (qG D dA base (some (.int z.1)) z.2) args s 0 0 (fun q => base ≤ q)) (F0 m 54 ls []) := by
  unfold S_X5_passTick_54 at h
  refine lv_iconst (v := (0 : Int32)) X.1 X.2.1 dX5_passTick_54 (by decide) ?_
  cases h
  exact q_iret X hret hlk hh hS dX5_passTick_55
theorem ke_X5_passTick_0 {z : Int32 × hp} {σ : hp} {t0 : Nat} (h : S_X5_passTick σ t0 = some z) : eq4 σ z.2 := by
  unfold S_X5_passTick at h
  obtain ⟨t1, e_t1, h⟩ := o_b h
  by_cases c5 : t1 = (1 : Int32)
  · rw [if_pos c5] at h
    exact (ke_X5_passTick_18 h)
  · rw [if_neg c5] at h
    obtain ⟨t9, e_t9, h⟩ := o_b h
    obtain ⟨t12, e_t12, h⟩ := o_b h
    by_cases c15 : t12 ≤ (0 : Int32)
    · rw [if_pos c15] at h
      obtain ⟨b24, e_b24, h⟩ := o_b h
      obtain ⟨q24, e_q24, h⟩ := o_b h
      by_cases c27 : q24 = (0 : Int32)
      · rw [if_pos c27] at h
        exact (ke_X5_passTick_54 h)
      · rw [if_neg c27] at h
        obtain ⟨t32, e_t32, h⟩ := o_b h
        obtain ⟨s37, e_s37, h⟩ := o_b h
        obtain ⟨t41, e_t41, h⟩ := o_b h
        by_cases c46 : t41 < (41 : Int32)
        · rw [if_pos c46] at h
          exact ((e_pI e_s37)).tr (ke_X5_passTick_54 h)
        · rw [if_neg c46] at h
          obtain ⟨b51, e_b51, h⟩ := o_b h
          obtain ⟨q51, e_q51, h⟩ := o_b h
          exact (((e_pI e_s37)).tr (ke_X5_begin_0 e_q51)).tr (ke_X5_passTick_54 h)
    · rw [if_neg c15] at h
      exact (ke_X5_passTick_18 h)
set_option maxHeartbeats 4000000 in
set_option maxRecDepth 100000 in
theorem K_X5_passTick_0 {p : Program} {l : Launch} {e : Env} {R : Room} {s : State} {m : MethodId} {args : Array Value} {below : List Frame} {meth : Method} {c : Code} {D : va_G} {dA : Nat → ClassId} {base : Nat} {z : Int32 × hp} (X : cx p s m args c cX5_passTick RX5 1 D dA) (hret : meth.sig.returnType = some .int) (hlk : meth.locks = false) (hR : 4 ≤ R.frames ∧ 91 ≤ R.locals) {σ : hp} {t0 : Nat} {H : Heap} {locs : List Loc} {ls : Array Slot} (hh : hw D dA base σ H) (hS : hs base s.heap H locs) (hl : lk ls 1 [(0, .inr (some t0))]) (h : S_X5_passTick σ t0 = some z) : W p l e R s m args below meth c H locs 0 0 (MQ below (qG D dA base (some (.int z.1)) z.2) args s 0 0 (fun q => base ≤ q)) (F0 m 0 ls []) := by
  unfold S_X5_passTick at h
  refine q_aload_n X dX5_passTick_0 rfl hl 0 rfl ?_
  obtain ⟨t1, e_t1, h⟩ := o_b h
  refine q_gI X hh fa_X5_32 rfl e_t1 dX5_passTick_1 ?_
  refine lv_iconst (v := (1 : Int32)) X.1 X.2.1 dX5_passTick_4 (by decide) ?_
  refine lv_icmp_eq (tgt := 18) X.1 X.2.1 dX5_passTick_5 (by decide) (fun c5 => ?_) (fun c5 => ?_)
  · rw [if_pos c5] at h
    exact K_X5_passTick_18 X hret hlk hR hh hS (lk_sub hl [0] rfl) h
  · rw [if_neg c5] at h
    refine q_aload_n X dX5_passTick_8 rfl hl 0 rfl ?_
    obtain ⟨t9, e_t9, h⟩ := o_b h
    refine q_gR X hh fa_X5_21 rfl e_t9 dX5_passTick_9 ?_
    obtain ⟨t12, e_t12, h⟩ := o_b h
    refine q_gI X hh fa_X5_90 rfl e_t12 dX5_passTick_12 ?_
    refine lv_if_le (tgt := 23) X.1 X.2.1 dX5_passTick_15 (by decide) (fun c15 => ?_) (fun c15 => ?_)
    · rw [if_pos c15] at h
      refine q_aload_n X dX5_passTick_23 rfl hl 0 rfl ?_
      obtain ⟨b24, e_b24, h⟩ := o_b h
      obtain ⟨q24, e_q24, h⟩ := o_b h
      refine q_cV (As := []) X hh hS hl cf_X5_97 (cN := 5) rfl rfl e_b24 rfl (M_X5_isOpen l D dA base σ b24  e_q24) ⟨Nat.le_trans (by decide) hR.1, Nat.le_trans (by decide) hR.2⟩ (cat8 [] (Nat.le_of_ble_eq_true rfl)) dX5_passTick_24 ⟨Nat.zero_le _, Nat.zero_le _⟩ rfl rfl (fun H locs hh hS => ?_)
      refine lv_if_eq (tgt := 54) X.1 X.2.1 dX5_passTick_27 (by decide) (fun c27 => ?_) (fun c27 => ?_)
      · rw [if_pos c27] at h
        exact K_X5_passTick_54 X hret hlk hR hh hS (lk_sub hl [] rfl) h
      · rw [if_neg c27] at h
        refine q_aload_n X dX5_passTick_30 rfl hl 0 rfl ?_
        refine lv_dup X.1 X.2.1 dX5_passTick_31 (vv_cat (.inr (some t0))) ?_
        obtain ⟨t32, e_t32, h⟩ := o_b h
        refine q_gI X hh fa_X5_55 rfl e_t32 dX5_passTick_32 ?_
        refine lv_iconst (v := (1 : Int32)) X.1 X.2.1 dX5_passTick_35 (by decide) ?_
        refine lv_iadd X.1 X.2.1 dX5_passTick_36 ?_
        obtain ⟨s37, e_s37, h⟩ := o_b h
        refine q_pI X hh hS fp_X5_55 (fun h => by cases h) rfl e_s37 dX5_passTick_37 (fun H locs hh hS => ?_)
        refine q_aload_n X dX5_passTick_40 rfl hl 0 rfl ?_
        obtain ⟨t41, e_t41, h⟩ := o_b h
        refine q_gI X hh fa_X5_55 rfl e_t41 dX5_passTick_41 ?_
        refine lv_bipush (v := (41 : Int32)) X.1 X.2.1 dX5_passTick_44 (by decide) ?_
        refine lv_icmp_lt (tgt := 54) X.1 X.2.1 dX5_passTick_46 (by decide) (fun c46 => ?_) (fun c46 => ?_)
        · rw [if_pos c46] at h
          exact K_X5_passTick_54 X hret hlk hR hh hS (lk_sub hl [] rfl) h
        · rw [if_neg c46] at h
          refine q_aload_n X dX5_passTick_49 rfl hl 0 rfl ?_
          refine lv_iconst (v := (0 : Int32)) X.1 X.2.1 dX5_passTick_50 (by decide) ?_
          obtain ⟨b51, e_b51, h⟩ := o_b h
          obtain ⟨q51, e_q51, h⟩ := o_b h
          refine q_cV (As := [.int (0 : Int32)]) X hh hS hl cf_X5_71 (cN := 5) rfl rfl e_b51 rfl (M_X5_begin l D dA base s37 b51 (0 : Int32) e_q51) ⟨Nat.le_trans (by decide) hR.1, Nat.le_trans (by decide) hR.2⟩ (cat8 [] (Nat.le_of_ble_eq_true rfl)) dX5_passTick_51 ⟨Nat.zero_le _, Nat.zero_le _⟩ rfl rfl (fun H locs hh hS => ?_)
          exact K_X5_passTick_54 X hret hlk hR hh hS (lk_sub hl [] rfl) h
    · rw [if_neg c15] at h
      exact K_X5_passTick_18 X hret hlk hR hh hS (lk_sub hl [0] rfl) h
set_option maxRecDepth 100000 in
theorem M_X5_passTick (l : Launch) (D : va_G) (dA : Nat → ClassId) (base : Nat) (σ : hp) (t0 : Nat) {z : Int32 × hp} (h : S_X5_passTick σ t0 = some z) : mt l yX5_passTick cX5_passTick 1 (some .int) 4 91 D dA base σ [.ref t0] (some (.int z.1)) z.2 0 0 := by
  refine Met.ofW (cc := cX5_passTick) (maxL := 1) (ret := some .int) (by decide) rfl ?_
  intro p e s m args below meth c s₁ B hml hv
  obtain ⟨rfl, hh, hK⟩ := hv
  have X : cx p s m ([.ref t0] : List Value).toArray c cX5_passTick RX5 1 D dA := ⟨B.exec, B.bytes, findClass_of_methodNamed B.named, hml, fun w hw => atoms_spec (ws := .code yX5_passTick cX5_passTick 1 (some .int) :: G) B.pre w (List.mem_cons_of_mem _ hw), hK⟩
  have hl := lk_entry [.inr (some t0)] (n := 1) (Nat.le_of_ble_eq_true rfl)
  rw [lg_entry_eq]
  have hl : lk ((lg_sl ([.ref t0] : List Value) ++ List.replicate (1 - (lg_sl ([.ref t0] : List Value)).length) Slot.unset).toArray) 1 [(0, .inr (some t0))] := hl
  generalize (lg_sl ([.ref t0] : List Value) ++ List.replicate (1 - (lg_sl ([.ref t0] : List Value)).length) Slot.unset).toArray = ls at hl ⊢
  exact K_X5_passTick_0 X B.returns B.notSynchronized ⟨Nat.le_refl _, Nat.le_refl _⟩ hh va_S.rf hl h
theorem ke_X6_acknowledge_0 {z : Int32 × hp} {σ : hp} {t0 : Nat} {v1 : Int32} (h : S_X6_acknowledge σ t0 v1 = some z) : eq4 σ z.2 := by
  unfold S_X6_acknowledge at h
  obtain ⟨t2, e_t2, h⟩ := o_b h
  obtain ⟨t14, e_t14, h⟩ := o_b h
  by_cases c17 : (((v1 - t2) &&& (7 : Int32)) + (1 : Int32)) ≤ t14
  · rw [if_pos c17] at h
    obtain ⟨t24, e_t24, h⟩ := o_b h
    obtain ⟨s32, e_s32, h⟩ := o_b h
    obtain ⟨t37, e_t37, h⟩ := o_b h
    obtain ⟨s45, e_s45, h⟩ := o_b h
    obtain ⟨t50, e_t50, h⟩ := o_b h
    obtain ⟨s55, e_s55, h⟩ := o_b h
    cases h
    show eq4 σ s55
    exact (((e_pI e_s32)).tr (e_pI e_s45)).tr (e_pI e_s55)
  · rw [if_neg c17] at h
    cases h
    show eq4 σ σ
    exact eq4.rf _
set_option maxHeartbeats 4000000 in
set_option maxRecDepth 100000 in
theorem K_X6_acknowledge_0 {p : Program} {l : Launch} {e : Env} {R : Room} {s : State} {m : MethodId} {args : Array Value} {below : List Frame} {meth : Method} {c : Code} {D : va_G} {dA : Nat → ClassId} {base : Nat} {z : Int32 × hp} (X : cx p s m args c cX6_acknowledge RX6 3 D dA) (hret : meth.sig.returnType = some .boolean) (hlk : meth.locks = false) (hR : 0 ≤ R.frames ∧ 0 ≤ R.locals) {σ : hp} {t0 : Nat} {v1 : Int32} {H : Heap} {locs : List Loc} {ls : Array Slot} (hh : hw D dA base σ H) (hS : hs base s.heap H locs) (hl : lk ls 3 [(0, .inr (some t0)), (1, .inl v1)]) (h : S_X6_acknowledge σ t0 v1 = some z) : W p l e R s m args below meth c H locs 0 0 (MQ below (qG D dA base (some (.int z.1)) z.2) args s 0 0 (fun q => base ≤ q)) (F0 m 0 ls []) := by
  unfold S_X6_acknowledge at h
  refine q_iload_n X dX6_acknowledge_0 rfl hl 1 rfl ?_
  refine q_aload_n X dX6_acknowledge_1 rfl hl 0 rfl ?_
  obtain ⟨t2, e_t2, h⟩ := o_b h
  refine q_gI X hh fa_X6_13 rfl e_t2 dX6_acknowledge_2 ?_
  refine lv_isub X.1 X.2.1 dX6_acknowledge_5 ?_
  refine lv_bipush (v := (7 : Int32)) X.1 X.2.1 dX6_acknowledge_6 (by decide) ?_
  refine lv_iand X.1 X.2.1 dX6_acknowledge_8 ?_
  refine lv_iconst (v := (1 : Int32)) X.1 X.2.1 dX6_acknowledge_9 (by decide) ?_
  refine lv_iadd X.1 X.2.1 dX6_acknowledge_10 ?_
  refine q_istore_n (lv' := [(2, .inl (((v1 - t2) &&& (7 : Int32)) + (1 : Int32))), (0, .inr (some t0)), (1, .inl v1)]) X dX6_acknowledge_11 rfl hl (by decide) rfl (fun ls hl => ?_)
  refine q_iload_n X dX6_acknowledge_12 rfl hl 0 rfl ?_
  refine q_aload_n X dX6_acknowledge_13 rfl hl 1 rfl ?_
  obtain ⟨t14, e_t14, h⟩ := o_b h
  refine q_gI X hh fa_X6_16 rfl e_t14 dX6_acknowledge_14 ?_
  refine lv_icmp_le (tgt := 22) X.1 X.2.1 dX6_acknowledge_17 (by decide) (fun c17 => ?_) (fun c17 => ?_)
  · rw [if_pos c17] at h
    refine q_aload_n X dX6_acknowledge_22 rfl hl 1 rfl ?_
    refine q_aload_n X dX6_acknowledge_23 rfl hl 1 rfl ?_
    obtain ⟨t24, e_t24, h⟩ := o_b h
    refine q_gI X hh fa_X6_9 rfl e_t24 dX6_acknowledge_24 ?_
    refine q_iload_n X dX6_acknowledge_27 rfl hl 0 rfl ?_
    refine lv_iadd X.1 X.2.1 dX6_acknowledge_28 ?_
    refine lv_bipush (v := (20 : Int32)) X.1 X.2.1 dX6_acknowledge_29 (by decide) ?_
    refine lv_irem X.1 X.2.1 dX6_acknowledge_31 (by decide) ?_
    obtain ⟨s32, e_s32, h⟩ := o_b h
    refine q_pI X hh hS fp_X6_9 (fun h => by cases h) rfl e_s32 dX6_acknowledge_32 (fun H locs hh hS => ?_)
    refine q_aload_n X dX6_acknowledge_35 rfl hl 1 rfl ?_
    refine q_aload_n X dX6_acknowledge_36 rfl hl 1 rfl ?_
    obtain ⟨t37, e_t37, h⟩ := o_b h
    refine q_gI X hh fa_X6_13 rfl e_t37 dX6_acknowledge_37 ?_
    refine q_iload_n X dX6_acknowledge_40 rfl hl 0 rfl ?_
    refine lv_iadd X.1 X.2.1 dX6_acknowledge_41 ?_
    refine lv_bipush (v := (7 : Int32)) X.1 X.2.1 dX6_acknowledge_42 (by decide) ?_
    refine lv_iand X.1 X.2.1 dX6_acknowledge_44 ?_
    obtain ⟨s45, e_s45, h⟩ := o_b h
    refine q_pI X hh hS fp_X6_13 (fun h => by cases h) rfl e_s45 dX6_acknowledge_45 (fun H locs hh hS => ?_)
    refine q_aload_n X dX6_acknowledge_48 rfl hl 1 rfl ?_
    refine lv_dup X.1 X.2.1 dX6_acknowledge_49 (vv_cat (.inr (some t0))) ?_
    obtain ⟨t50, e_t50, h⟩ := o_b h
    refine q_gI X hh fa_X6_16 rfl e_t50 dX6_acknowledge_50 ?_
    refine q_iload_n X dX6_acknowledge_53 rfl hl 0 rfl ?_
    refine lv_isub X.1 X.2.1 dX6_acknowledge_54 ?_
    obtain ⟨s55, e_s55, h⟩ := o_b h
    refine q_pI X hh hS fp_X6_16 (fun h => by cases h) rfl e_s55 dX6_acknowledge_55 (fun H locs hh hS => ?_)
    refine lv_iconst (v := (1 : Int32)) X.1 X.2.1 dX6_acknowledge_58 (by decide) ?_
    cases h
    exact q_zret X hret hlk hh hS (by rfl) dX6_acknowledge_59
  · rw [if_neg c17] at h
    refine lv_iconst (v := (0 : Int32)) X.1 X.2.1 dX6_acknowledge_20 (by decide) ?_
    cases h
    exact q_zret X hret hlk hh hS (by rfl) dX6_acknowledge_21
set_option maxRecDepth 100000 in
theorem M_X6_acknowledge (l : Launch) (D : va_G) (dA : Nat → ClassId) (base : Nat) (σ : hp) (t0 : Nat) (v1 : Int32) {z : Int32 × hp} (h : S_X6_acknowledge σ t0 v1 = some z) : mt l yX6_acknowledge cX6_acknowledge 3 (some .boolean) 0 0 D dA base σ [.ref t0, .int v1] (some (.int z.1)) z.2 0 0 := by
  refine Met.ofW (cc := cX6_acknowledge) (maxL := 3) (ret := some .boolean) (by decide) rfl ?_
  intro p e s m args below meth c s₁ B hml hv
  obtain ⟨rfl, hh, hK⟩ := hv
  have X : cx p s m ([.ref t0, .int v1] : List Value).toArray c cX6_acknowledge RX6 3 D dA := ⟨B.exec, B.bytes, findClass_of_methodNamed B.named, hml, fun w hw => atoms_spec (ws := .code yX6_acknowledge cX6_acknowledge 3 (some .boolean) :: G) B.pre w (List.mem_cons_of_mem _ hw), hK⟩
  have hl := lk_entry [.inr (some t0), .inl v1] (n := 3) (Nat.le_of_ble_eq_true rfl)
  rw [lg_entry_eq]
  have hl : lk ((lg_sl ([.ref t0, .int v1] : List Value) ++ List.replicate (3 - (lg_sl ([.ref t0, .int v1] : List Value)).length) Slot.unset).toArray) 3 [(0, .inr (some t0)), (1, .inl v1)] := hl
  generalize (lg_sl ([.ref t0, .int v1] : List Value) ++ List.replicate (3 - (lg_sl ([.ref t0, .int v1] : List Value)).length) Slot.unset).toArray = ls at hl ⊢
  exact K_X6_acknowledge_0 X B.returns B.notSynchronized ⟨Nat.le_refl _, Nat.le_refl _⟩ hh va_S.rf hl h
theorem ke_X5_takeAcknowledgement_21 {z : hp} {σ : hp} (h : S_X5_takeAcknowledgement_21 σ = some z) : eq4 σ z := by
  unfold S_X5_takeAcknowledgement_21 at h
  cases h
  exact eq4.rf _
set_option maxHeartbeats 4000000 in
set_option maxRecDepth 100000 in
theorem K_X5_takeAcknowledgement_21 {p : Program} {l : Launch} {e : Env} {R : Room} {s : State} {m : MethodId} {args : Array Value} {below : List Frame} {meth : Method} {c : Code} {D : va_G} {dA : Nat → ClassId} {base : Nat} {z : hp} (X : cx p s m args c cX5_takeAcknowledgement RX5 2 D dA) (hret : meth.sig.returnType = none) (hlk : meth.locks = false) (hR : 1 ≤ R.frames ∧ 22 ≤ R.locals) {σ : hp} {H : Heap} {locs : List Loc} {ls : Array Slot} (hh : hw D dA base σ H) (hS : hs base s.heap H locs) (hl : lk ls 2 []) (h : S_X5_takeAcknowledgement_21 σ = some z) : W p l e R s m args below meth c H locs 0 0 (MQ below (qG D dA base none z) args s 0 0 (fun q => base ≤ q)) (F0 m 21 ls []) := by
  unfold S_X5_takeAcknowledgement_21 at h
  cases h
  exact q_vret X hret hlk hh hS dX5_takeAcknowledgement_21
theorem ke_X5_takeAcknowledgement_0 {z : hp} {σ : hp} {t0 : Nat} {v1 : Int32} (h : S_X5_takeAcknowledgement σ t0 v1 = some z) : eq4 σ z := by
  unfold S_X5_takeAcknowledgement at h
  obtain ⟨t1, e_t1, h⟩ := o_b h
  obtain ⟨b5, e_b5, h⟩ := o_b h
  obtain ⟨q5, e_q5, h⟩ := o_b h
  by_cases c8 : q5.1 = (0 : Int32)
  · rw [if_pos c8] at h
    exact ((ke_X6_acknowledge_0 e_q5)).tr (ke_X5_takeAcknowledgement_21 h)
  · rw [if_neg c8] at h
    obtain ⟨s13, e_s13, h⟩ := o_b h
    obtain ⟨s18, e_s18, h⟩ := o_b h
    exact ((((ke_X6_acknowledge_0 e_q5)).tr (e_pI e_s13)).tr (e_pI e_s18)).tr (ke_X5_takeAcknowledgement_21 h)
set_option maxHeartbeats 4000000 in
set_option maxRecDepth 100000 in
theorem K_X5_takeAcknowledgement_0 {p : Program} {l : Launch} {e : Env} {R : Room} {s : State} {m : MethodId} {args : Array Value} {below : List Frame} {meth : Method} {c : Code} {D : va_G} {dA : Nat → ClassId} {base : Nat} {z : hp} (X : cx p s m args c cX5_takeAcknowledgement RX5 2 D dA) (hret : meth.sig.returnType = none) (hlk : meth.locks = false) (hR : 1 ≤ R.frames ∧ 22 ≤ R.locals) {σ : hp} {t0 : Nat} {v1 : Int32} {H : Heap} {locs : List Loc} {ls : Array Slot} (hh : hw D dA base σ H) (hS : hs base s.heap H locs) (hl : lk ls 2 [(0, .inr (some t0)), (1, .inl v1)]) (h : S_X5_takeAcknowledgement σ t0 v1 = some z) : W p l e R s m args below meth c H locs 0 0 (MQ below (qG D dA base none z) args s 0 0 (fun q => base ≤ q)) (F0 m 0 ls []) := by
  unfold S_X5_takeAcknowledgement at h
  refine q_aload_n X dX5_takeAcknowledgement_0 rfl hl 0 rfl ?_
  obtain ⟨t1, e_t1, h⟩ := o_b h
  refine q_gR X hh fa_X5_21 rfl e_t1 dX5_takeAcknowledgement_1 ?_
  refine q_iload_n X dX5_takeAcknowledgement_4 rfl hl 1 rfl ?_
  obtain ⟨b5, e_b5, h⟩ := o_b h
  obtain ⟨q5, e_q5, h⟩ := o_b h
  refine q_cV (As := [.int v1]) X hh hS hl cf_X5_150 (cN := 6) rfl rfl e_b5 rfl (M_X6_acknowledge l D dA base σ b5 v1 e_q5) ⟨Nat.le_trans (by decide) hR.1, Nat.le_trans (by decide) hR.2⟩ (cat8 [] (Nat.le_of_ble_eq_true rfl)) dX5_takeAcknowledgement_5 ⟨Nat.zero_le _, Nat.zero_le _⟩ rfl rfl (fun H locs hh hS => ?_)
  refine lv_if_eq (tgt := 21) X.1 X.2.1 dX5_takeAcknowledgement_8 (by decide) (fun c8 => ?_) (fun c8 => ?_)
  · rw [if_pos c8] at h
    exact K_X5_takeAcknowledgement_21 X hret hlk hR hh hS (lk_sub hl [] rfl) h
  · rw [if_neg c8] at h
    refine q_aload_n X dX5_takeAcknowledgement_11 rfl hl 0 rfl ?_
    refine lv_iconst (v := (0 : Int32)) X.1 X.2.1 dX5_takeAcknowledgement_12 (by decide) ?_
    obtain ⟨s13, e_s13, h⟩ := o_b h
    refine q_pI X hh hS fp_X5_49 (fun h => by cases h) rfl e_s13 dX5_takeAcknowledgement_13 (fun H locs hh hS => ?_)
    refine q_aload_n X dX5_takeAcknowledgement_16 rfl hl 0 rfl ?_
    refine lv_iconst (v := (0 : Int32)) X.1 X.2.1 dX5_takeAcknowledgement_17 (by decide) ?_
    obtain ⟨s18, e_s18, h⟩ := o_b h
    refine q_pI X hh hS fp_X5_52 (fun h => by cases h) rfl e_s18 dX5_takeAcknowledgement_18 (fun H locs hh hS => ?_)
    exact K_X5_takeAcknowledgement_21 X hret hlk hR hh hS (lk_sub hl [] rfl) h
set_option maxRecDepth 100000 in
theorem M_X5_takeAcknowledgement (l : Launch) (D : va_G) (dA : Nat → ClassId) (base : Nat) (σ : hp) (t0 : Nat) (v1 : Int32) {z : hp} (h : S_X5_takeAcknowledgement σ t0 v1 = some z) : mt l yX5_takeAcknowledgement cX5_takeAcknowledgement 2 (none) 1 22 D dA base σ [.ref t0, .int v1] none z 0 0 := by
  refine Met.ofW (cc := cX5_takeAcknowledgement) (maxL := 2) (ret := none) (by decide) rfl ?_
  intro p e s m args below meth c s₁ B hml hv
  obtain ⟨rfl, hh, hK⟩ := hv
  have X : cx p s m ([.ref t0, .int v1] : List Value).toArray c cX5_takeAcknowledgement RX5 2 D dA := ⟨B.exec, B.bytes, findClass_of_methodNamed B.named, hml, fun w hw => atoms_spec (ws := .code yX5_takeAcknowledgement cX5_takeAcknowledgement 2 (none) :: G) B.pre w (List.mem_cons_of_mem _ hw), hK⟩
  have hl := lk_entry [.inr (some t0), .inl v1] (n := 2) (Nat.le_of_ble_eq_true rfl)
  rw [lg_entry_eq]
  have hl : lk ((lg_sl ([.ref t0, .int v1] : List Value) ++ List.replicate (2 - (lg_sl ([.ref t0, .int v1] : List Value)).length) Slot.unset).toArray) 2 [(0, .inr (some t0)), (1, .inl v1)] := hl
  generalize (lg_sl ([.ref t0, .int v1] : List Value) ++ List.replicate (2 - (lg_sl ([.ref t0, .int v1] : List Value)).length) Slot.unset).toArray = ls at hl ⊢
  exact K_X5_takeAcknowledgement_0 X B.returns B.notSynchronized ⟨Nat.le_refl _, Nat.le_refl _⟩ hh va_S.rf hl h
theorem ke_X6_letOut_0 {z : Int32 × hp} {σ : hp} {t0 : Nat} (h : S_X6_letOut σ t0 = some z) : eq4 σ z.2 := by
  unfold S_X6_letOut at h
  obtain ⟨t1, e_t1, h⟩ := o_b h
  obtain ⟨t6, e_t6, h⟩ := o_b h
  obtain ⟨t11, e_t11, h⟩ := o_b h
  obtain ⟨t21, e_t21, h⟩ := o_b h
  obtain ⟨s26, e_s26, h⟩ := o_b h
  obtain ⟨t31, e_t31, h⟩ := o_b h
  obtain ⟨s36, e_s36, h⟩ := o_b h
  cases h
  show eq4 σ s36
  exact ((e_pI e_s26)).tr (e_pI e_s36)
set_option maxHeartbeats 4000000 in
set_option maxRecDepth 100000 in
theorem K_X6_letOut_0 {p : Program} {l : Launch} {e : Env} {R : Room} {s : State} {m : MethodId} {args : Array Value} {below : List Frame} {meth : Method} {c : Code} {D : va_G} {dA : Nat → ClassId} {base : Nat} {z : Int32 × hp} (X : cx p s m args c cX6_letOut RX6 3 D dA) (hret : meth.sig.returnType = some .int) (hlk : meth.locks = false) (hR : 1 ≤ R.frames ∧ 21 ≤ R.locals) {σ : hp} {t0 : Nat} {H : Heap} {locs : List Loc} {ls : Array Slot} (hh : hw D dA base σ H) (hS : hs base s.heap H locs) (hl : lk ls 3 [(0, .inr (some t0))]) (h : S_X6_letOut σ t0 = some z) : W p l e R s m args below meth c H locs 0 0 (MQ below (qG D dA base (some (.int z.1)) z.2) args s 0 0 (fun q => base ≤ q)) (F0 m 0 ls []) := by
  unfold S_X6_letOut at h
  refine q_aload_n X dX6_letOut_0 rfl hl 0 rfl ?_
  obtain ⟨t1, e_t1, h⟩ := o_b h
  refine q_gI X hh fa_X6_16 rfl e_t1 dX6_letOut_1 ?_
  refine q_istore_n (lv' := [(1, .inl t1), (0, .inr (some t0))]) X dX6_letOut_4 rfl hl (by decide) rfl (fun ls hl => ?_)
  refine q_aload_n X dX6_letOut_5 rfl hl 1 rfl ?_
  obtain ⟨t6, e_t6, h⟩ := o_b h
  refine q_gI X hh fa_X6_19 rfl e_t6 dX6_letOut_6 ?_
  refine lv_iconst (v := (3 : Int32)) X.1 X.2.1 dX6_letOut_9 (by decide) ?_
  refine q_aload_n X dX6_letOut_10 rfl hl 1 rfl ?_
  obtain ⟨t11, e_t11, h⟩ := o_b h
  refine q_gI X hh fa_X6_16 rfl e_t11 dX6_letOut_11 ?_
  refine lv_isub X.1 X.2.1 dX6_letOut_14 ?_
  refine q_min X hl cj_X6_36 gj_m1 gj_m2 gj_m3 ⟨Nat.le_trans (by decide) hR.1, Nat.le_trans (by decide) hR.2⟩ (cat8 [] (Nat.le_of_ble_eq_true rfl)) (Nat.zero_le _) (Nat.zero_le _) dX6_letOut_15 ?_
  refine q_istore_n (lv' := [(2, .inl (if ((3 : Int32) - t11) < t6 then ((3 : Int32) - t11) else t6)), (1, .inl t1), (0, .inr (some t0))]) X dX6_letOut_18 rfl hl (by decide) rfl (fun ls hl => ?_)
  refine q_aload_n X dX6_letOut_19 rfl hl 2 rfl ?_
  refine lv_dup X.1 X.2.1 dX6_letOut_20 (vv_cat (.inr (some t0))) ?_
  obtain ⟨t21, e_t21, h⟩ := o_b h
  refine q_gI X hh fa_X6_16 rfl e_t21 dX6_letOut_21 ?_
  refine q_iload_n X dX6_letOut_24 rfl hl 0 rfl ?_
  refine lv_iadd X.1 X.2.1 dX6_letOut_25 ?_
  obtain ⟨s26, e_s26, h⟩ := o_b h
  refine q_pI X hh hS fp_X6_16 (fun h => by cases h) rfl e_s26 dX6_letOut_26 (fun H locs hh hS => ?_)
  refine q_aload_n X dX6_letOut_29 rfl hl 2 rfl ?_
  refine lv_dup X.1 X.2.1 dX6_letOut_30 (vv_cat (.inr (some t0))) ?_
  obtain ⟨t31, e_t31, h⟩ := o_b h
  refine q_gI X hh fa_X6_19 rfl e_t31 dX6_letOut_31 ?_
  refine q_iload_n X dX6_letOut_34 rfl hl 0 rfl ?_
  refine lv_isub X.1 X.2.1 dX6_letOut_35 ?_
  obtain ⟨s36, e_s36, h⟩ := o_b h
  refine q_pI X hh hS fp_X6_19 (fun h => by cases h) rfl e_s36 dX6_letOut_36 (fun H locs hh hS => ?_)
  refine q_iload_n X dX6_letOut_39 rfl hl 1 rfl ?_
  cases h
  exact q_iret X hret hlk hh hS dX6_letOut_40
set_option maxRecDepth 100000 in
theorem M_X6_letOut (l : Launch) (D : va_G) (dA : Nat → ClassId) (base : Nat) (σ : hp) (t0 : Nat) {z : Int32 × hp} (h : S_X6_letOut σ t0 = some z) : mt l yX6_letOut cX6_letOut 3 (some .int) 1 21 D dA base σ [.ref t0] (some (.int z.1)) z.2 0 0 := by
  refine Met.ofW (cc := cX6_letOut) (maxL := 3) (ret := some .int) (by decide) rfl ?_
  intro p e s m args below meth c s₁ B hml hv
  obtain ⟨rfl, hh, hK⟩ := hv
  have X : cx p s m ([.ref t0] : List Value).toArray c cX6_letOut RX6 3 D dA := ⟨B.exec, B.bytes, findClass_of_methodNamed B.named, hml, fun w hw => atoms_spec (ws := .code yX6_letOut cX6_letOut 3 (some .int) :: G) B.pre w (List.mem_cons_of_mem _ hw), hK⟩
  have hl := lk_entry [.inr (some t0)] (n := 3) (Nat.le_of_ble_eq_true rfl)
  rw [lg_entry_eq]
  have hl : lk ((lg_sl ([.ref t0] : List Value) ++ List.replicate (3 - (lg_sl ([.ref t0] : List Value)).length) Slot.unset).toArray) 3 [(0, .inr (some t0))] := hl
  generalize (lg_sl ([.ref t0] : List Value) ++ List.replicate (3 - (lg_sl ([.ref t0] : List Value)).length) Slot.unset).toArray = ls at hl ⊢
  exact K_X6_letOut_0 X B.returns B.notSynchronized ⟨Nat.le_refl _, Nat.le_refl _⟩ hh va_S.rf hl h
theorem ke_X6_add_59 {z : Option Nat × hp} {σ : hp} {v2 : Option Nat} (h : S_X6_add_59 σ v2 = some z) : eq4 σ z.2 := by
  unfold S_X6_add_59 at h
  cases h
  show eq4 σ σ
  exact eq4.rf _
set_option maxHeartbeats 4000000 in
set_option maxRecDepth 100000 in
theorem K_X6_add_59 {p : Program} {l : Launch} {e : Env} {R : Room} {s : State} {m : MethodId} {args : Array Value} {below : List Frame} {meth : Method} {c : Code} {D : va_G} {dA : Nat → ClassId} {base : Nat} {z : Option Nat × hp} (X : cx p s m args c cX6_add RX6 3 D dA) (hret : meth.sig.returnType = some (.object "SpoolLink$Message")) (hlk : meth.locks = false) (hR : 0 ≤ R.frames ∧ 0 ≤ R.locals) {σ : hp} {v2 : Option Nat} {H : Heap} {locs : List Loc} {ls : Array Slot} (hh : hw D dA base σ H) (hS : hs base s.heap H locs) (hl : lk ls 3 [(2, .inr v2)]) (h : S_X6_add_59 σ v2 = some z) : W p l e R s m args below meth c H locs 0 0 (MQ below (qG D dA base (some (va_rf z.1)) z.2) args s 0 0 (fun q => base ≤ q)) (F0 m 59 ls []) := by
  unfold S_X6_add_59 at h
  refine q_aload_n X dX6_add_59 rfl hl 0 rfl ?_
  cases h
  exact q_aret X hret hlk hh hS dX6_add_60
theorem ke_X6_add_0 {z : Option Nat × hp} {σ : hp} {t0 : Nat} {v1 : Int32} (h : S_X6_add σ t0 v1 = some z) : eq4 σ z.2 := by
  unfold S_X6_add at h
  obtain ⟨t1, e_t1, h⟩ := o_b h
  obtain ⟨t5, e_t5, h⟩ := o_b h
  obtain ⟨t9, e_t9, h⟩ := o_b h
  obtain ⟨t14, e_t14, h⟩ := o_b h
  obtain ⟨t21, e_t21, h⟩ := o_b h
  obtain ⟨t24, e_t24, h⟩ := o_b h
  obtain ⟨s29, e_s29, h⟩ := o_b h
  obtain ⟨s32, e_s32, h⟩ := o_b h
  obtain ⟨t36, e_t36, h⟩ := o_b h
  obtain ⟨t40, e_t40, h⟩ := o_b h
  by_cases c46 : (19 : Int32) ≤ (t36 + t40)
  · rw [if_pos c46] at h
    exact (((e_stI e_s29)).tr (e_pI e_s32)).tr (ke_X6_add_59 h)
  · rw [if_neg c46] at h
    obtain ⟨t51, e_t51, h⟩ := o_b h
    obtain ⟨s56, e_s56, h⟩ := o_b h
    exact ((((e_stI e_s29)).tr (e_pI e_s32)).tr (e_pI e_s56)).tr (ke_X6_add_59 h)
set_option maxHeartbeats 4000000 in
set_option maxRecDepth 100000 in
theorem K_X6_add_0 {p : Program} {l : Launch} {e : Env} {R : Room} {s : State} {m : MethodId} {args : Array Value} {below : List Frame} {meth : Method} {c : Code} {D : va_G} {dA : Nat → ClassId} {base : Nat} {z : Option Nat × hp} (X : cx p s m args c cX6_add RX6 3 D dA) (hret : meth.sig.returnType = some (.object "SpoolLink$Message")) (hlk : meth.locks = false) (hR : 0 ≤ R.frames ∧ 0 ≤ R.locals) {σ : hp} {t0 : Nat} {v1 : Int32} {H : Heap} {locs : List Loc} {ls : Array Slot} (hh : hw D dA base σ H) (hS : hs base s.heap H locs) (hl : lk ls 3 [(0, .inr (some t0)), (1, .inl v1)]) (h : S_X6_add σ t0 v1 = some z) : W p l e R s m args below meth c H locs 0 0 (MQ below (qG D dA base (some (va_rf z.1)) z.2) args s 0 0 (fun q => base ≤ q)) (F0 m 0 ls []) := by
  unfold S_X6_add at h
  refine q_aload_n X dX6_add_0 rfl hl 0 rfl ?_
  obtain ⟨t1, e_t1, h⟩ := o_b h
  refine q_gR X hh fa_X6_24 rfl e_t1 dX6_add_1 ?_
  refine q_aload_n X dX6_add_4 rfl hl 0 rfl ?_
  obtain ⟨t5, e_t5, h⟩ := o_b h
  refine q_gI X hh fa_X6_9 rfl e_t5 dX6_add_5 ?_
  refine q_aload_n X dX6_add_8 rfl hl 0 rfl ?_
  obtain ⟨t9, e_t9, h⟩ := o_b h
  refine q_gI X hh fa_X6_16 rfl e_t9 dX6_add_9 ?_
  refine lv_iadd X.1 X.2.1 dX6_add_12 ?_
  refine q_aload_n X dX6_add_13 rfl hl 0 rfl ?_
  obtain ⟨t14, e_t14, h⟩ := o_b h
  refine q_gI X hh fa_X6_19 rfl e_t14 dX6_add_14 ?_
  refine lv_iadd X.1 X.2.1 dX6_add_17 ?_
  refine lv_bipush (v := (20 : Int32)) X.1 X.2.1 dX6_add_18 (by decide) ?_
  refine lv_irem X.1 X.2.1 dX6_add_20 (by decide) ?_
  obtain ⟨t21, e_t21, h⟩ := o_b h
  refine q_ldQ X hh (by decide) rfl e_t21 dX6_add_21 ?_
  refine q_astore_n (lv' := [(2, .inr t21), (0, .inr (some t0)), (1, .inl v1)]) X dX6_add_22 rfl hl (by decide) rfl (fun ls hl => ?_)
  refine q_aload_n X dX6_add_23 rfl hl 0 rfl ?_
  obtain ⟨t24, e_t24, h⟩ := o_b h
  refine q_gR X hh fa_X6_29 rfl e_t24 dX6_add_24 ?_
  refine lv_iconst (v := (0 : Int32)) X.1 X.2.1 dX6_add_27 (by decide) ?_
  refine q_iload_n X dX6_add_28 rfl hl 2 rfl ?_
  obtain ⟨s29, e_s29, h⟩ := o_b h
  refine q_stI X hh hS e_s29 dX6_add_29 (fun H locs hh hS => ?_)
  refine q_aload_n X dX6_add_30 rfl hl 0 rfl ?_
  refine lv_iconst (v := (1 : Int32)) X.1 X.2.1 dX6_add_31 (by decide) ?_
  obtain ⟨s32, e_s32, h⟩ := o_b h
  refine q_pI X hh hS fp_X6_33 (fun h => by cases h) rfl e_s32 dX6_add_32 (fun H locs hh hS => ?_)
  refine q_aload_n X dX6_add_35 rfl hl 1 rfl ?_
  obtain ⟨t36, e_t36, h⟩ := o_b h
  refine q_gI X hh fa_X6_16 rfl e_t36 dX6_add_36 ?_
  refine q_aload_n X dX6_add_39 rfl hl 1 rfl ?_
  obtain ⟨t40, e_t40, h⟩ := o_b h
  refine q_gI X hh fa_X6_19 rfl e_t40 dX6_add_40 ?_
  refine lv_iadd X.1 X.2.1 dX6_add_43 ?_
  refine lv_bipush (v := (19 : Int32)) X.1 X.2.1 dX6_add_44 (by decide) ?_
  refine lv_icmp_ge (tgt := 59) X.1 X.2.1 dX6_add_46 (by decide) (fun c46 => ?_) (fun c46 => ?_)
  · rw [if_pos c46] at h
    exact K_X6_add_59 X hret hlk hR hh hS (lk_sub hl [0] rfl) h
  · rw [if_neg c46] at h
    refine q_aload_n X dX6_add_49 rfl hl 1 rfl ?_
    refine lv_dup X.1 X.2.1 dX6_add_50 (vv_cat (.inr (some t0))) ?_
    obtain ⟨t51, e_t51, h⟩ := o_b h
    refine q_gI X hh fa_X6_19 rfl e_t51 dX6_add_51 ?_
    refine lv_iconst (v := (1 : Int32)) X.1 X.2.1 dX6_add_54 (by decide) ?_
    refine lv_iadd X.1 X.2.1 dX6_add_55 ?_
    obtain ⟨s56, e_s56, h⟩ := o_b h
    refine q_pI X hh hS fp_X6_19 (fun h => by cases h) rfl e_s56 dX6_add_56 (fun H locs hh hS => ?_)
    exact K_X6_add_59 X hret hlk hR hh hS (lk_sub hl [0] rfl) h
set_option maxRecDepth 100000 in
theorem M_X6_add (l : Launch) (D : va_G) (dA : Nat → ClassId) (base : Nat) (σ : hp) (t0 : Nat) (v1 : Int32) {z : Option Nat × hp} (h : S_X6_add σ t0 v1 = some z) : mt l yX6_add cX6_add 3 (some (.object "SpoolLink$Message")) 0 0 D dA base σ [.ref t0, .int v1] (some (va_rf z.1)) z.2 0 0 := by
  refine Met.ofW (cc := cX6_add) (maxL := 3) (ret := some (.object "SpoolLink$Message")) (by decide) rfl ?_
  intro p e s m args below meth c s₁ B hml hv
  obtain ⟨rfl, hh, hK⟩ := hv
  have X : cx p s m ([.ref t0, .int v1] : List Value).toArray c cX6_add RX6 3 D dA := ⟨B.exec, B.bytes, findClass_of_methodNamed B.named, hml, fun w hw => atoms_spec (ws := .code yX6_add cX6_add 3 (some (.object "SpoolLink$Message")) :: G) B.pre w (List.mem_cons_of_mem _ hw), hK⟩
  have hl := lk_entry [.inr (some t0), .inl v1] (n := 3) (Nat.le_of_ble_eq_true rfl)
  rw [lg_entry_eq]
  have hl : lk ((lg_sl ([.ref t0, .int v1] : List Value) ++ List.replicate (3 - (lg_sl ([.ref t0, .int v1] : List Value)).length) Slot.unset).toArray) 3 [(0, .inr (some t0)), (1, .inl v1)] := hl
  generalize (lg_sl ([.ref t0, .int v1] : List Value) ++ List.replicate (3 - (lg_sl ([.ref t0, .int v1] : List Value)).length) Slot.unset).toArray = ls at hl ⊢
  exact K_X6_add_0 X B.returns B.notSynchronized ⟨Nat.le_refl _, Nat.le_refl _⟩ hh va_S.rf hl h
theorem ke_X5_goOn_0 {z : hp} {σ : hp} {t0 : Nat} (h : S_X5_goOn σ t0 = some z) : eq4 σ z := by
  unfold S_X5_goOn at h
  obtain ⟨t1, e_t1, h⟩ := o_b h
  obtain ⟨b4, e_b4, h⟩ := o_b h
  obtain ⟨q4, e_q4, h⟩ := o_b h
  by_cases c9 : q4 = none
  · rw [if_pos c9] at h
    obtain ⟨t13, e_t13, h⟩ := o_b h
    obtain ⟨b18, e_b18, h⟩ := o_b h
    obtain ⟨q18, e_q18, h⟩ := o_b h
    cases h
    exact (ke_X6_add_0 e_q18)
  · rw [if_neg c9] at h
    obtain ⟨t24, e_t24, h⟩ := o_b h
    obtain ⟨b29, e_b29, h⟩ := o_b h
    obtain ⟨q29, e_q29, h⟩ := o_b h
    obtain ⟨t35, e_t35, h⟩ := o_b h
    obtain ⟨b38, e_b38, h⟩ := o_b h
    obtain ⟨q38, e_q38, h⟩ := o_b h
    obtain ⟨t43, e_t43, h⟩ := o_b h
    obtain ⟨t46, e_t46, h⟩ := o_b h
    obtain ⟨b47, e_b47, h⟩ := o_b h
    obtain ⟨q47, e_q47, h⟩ := o_b h
    cases h
    exact (((ke_X6_add_0 e_q29)).tr (ke_X3_append_0 e_q38)).tr (ke_X3_append_0 e_q47)
set_option maxHeartbeats 4000000 in
set_option maxRecDepth 100000 in
theorem K_X5_goOn_0 {p : Program} {l : Launch} {e : Env} {R : Room} {s : State} {m : MethodId} {args : Array Value} {below : List Frame} {meth : Method} {c : Code} {D : va_G} {dA : Nat → ClassId} {base : Nat} {z : hp} (X : cx p s m args c cX5_goOn RX5 3 D dA) (hret : meth.sig.returnType = none) (hlk : meth.locks = false) (hR : 1 ≤ R.frames ∧ 22 ≤ R.locals) {σ : hp} {t0 : Nat} {H : Heap} {locs : List Loc} {ls : Array Slot} (hh : hw D dA base σ H) (hS : hs base s.heap H locs) (hl : lk ls 3 [(0, .inr (some t0))]) (h : S_X5_goOn σ t0 = some z) : W p l e R s m args below meth c H locs 0 0 (MQ below (qG D dA base none z) args s 0 0 (fun q => base ≤ q)) (F0 m 0 ls []) := by
  unfold S_X5_goOn at h
  refine q_aload_n X dX5_goOn_0 rfl hl 0 rfl ?_
  obtain ⟨t1, e_t1, h⟩ := o_b h
  refine q_gR X hh fa_X5_12 rfl e_t1 dX5_goOn_1 ?_
  obtain ⟨b4, e_b4, h⟩ := o_b h
  obtain ⟨q4, e_q4, h⟩ := o_b h
  refine q_cV (As := []) X hh hS hl cf_X5_205 (cN := 0) rfl rfl e_b4 rfl (M_X0_firstJob l D dA base σ b4  e_q4) ⟨Nat.le_trans (by decide) hR.1, Nat.le_trans (by decide) hR.2⟩ (cat8 [] (Nat.le_of_ble_eq_true rfl)) dX5_goOn_4 ⟨Nat.zero_le _, Nat.zero_le _⟩ rfl rfl (fun H locs hh hS => ?_)
  refine q_astore_n (lv' := [(1, .inr q4), (0, .inr (some t0))]) X dX5_goOn_7 rfl hl (by decide) rfl (fun ls hl => ?_)
  refine q_aload_n X dX5_goOn_8 rfl hl 0 rfl ?_
  refine q_ifnonnull (tgt := 23) X dX5_goOn_9 (by decide) (fun c9 => ?_) (fun c9 => ?_)
  · rw [if_neg c9] at h
    refine q_aload_n X dX5_goOn_23 rfl hl 1 rfl ?_
    obtain ⟨t24, e_t24, h⟩ := o_b h
    refine q_gR X hh fa_X5_21 rfl e_t24 dX5_goOn_24 ?_
    refine lv_bipush (v := (83 : Int32)) X.1 X.2.1 dX5_goOn_27 (by decide) ?_
    obtain ⟨b29, e_b29, h⟩ := o_b h
    obtain ⟨q29, e_q29, h⟩ := o_b h
    refine q_cV (As := [.int (83 : Int32)]) X hh hS hl cf_X5_187 (cN := 6) rfl rfl e_b29 rfl (M_X6_add l D dA base σ b29 (83 : Int32) e_q29) ⟨Nat.le_trans (by decide) hR.1, Nat.le_trans (by decide) hR.2⟩ (cat8 [] (Nat.le_of_ble_eq_true rfl)) dX5_goOn_29 ⟨Nat.zero_le _, Nat.zero_le _⟩ rfl rfl (fun H locs hh hS => ?_)
    refine q_astore_n (lv' := [(2, .inr q29.1), (1, .inr q4), (0, .inr (some t0))]) X dX5_goOn_32 rfl hl (by decide) rfl (fun ls hl => ?_)
    refine q_aload_n X dX5_goOn_33 rfl hl 0 rfl ?_
    refine q_aload_n X dX5_goOn_34 rfl hl 1 rfl ?_
    obtain ⟨t35, e_t35, h⟩ := o_b h
    refine q_gI X hh fa_X5_208 rfl e_t35 dX5_goOn_35 ?_
    obtain ⟨b38, e_b38, h⟩ := o_b h
    obtain ⟨q38, e_q38, h⟩ := o_b h
    refine q_cV (As := [.int t35]) X hh hS hl cf_X5_212 (cN := 3) rfl rfl e_b38 rfl (M_X3_append l D dA base q29.2 b38 t35 e_q38) ⟨Nat.le_trans (by decide) hR.1, Nat.le_trans (by decide) hR.2⟩ (cat8 [] (Nat.le_of_ble_eq_true rfl)) dX5_goOn_38 ⟨Nat.zero_le _, Nat.zero_le _⟩ rfl rfl (fun H locs hh hS => ?_)
    refine q_aload_n X dX5_goOn_41 rfl hl 0 rfl ?_
    refine q_aload_n X dX5_goOn_42 rfl hl 1 rfl ?_
    obtain ⟨t43, e_t43, h⟩ := o_b h
    refine q_gR X hh fa_X5_217 rfl e_t43 dX5_goOn_43 ?_
    obtain ⟨t46, e_t46, h⟩ := o_b h
    refine q_len X hh (t := 0) rfl e_t46 dX5_goOn_46 ?_
    obtain ⟨b47, e_b47, h⟩ := o_b h
    obtain ⟨q47, e_q47, h⟩ := o_b h
    refine q_cV (As := [.int t46]) X hh hS hl cf_X5_212 (cN := 3) rfl rfl e_b47 rfl (M_X3_append l D dA base q38 b47 t46 e_q47) ⟨Nat.le_trans (by decide) hR.1, Nat.le_trans (by decide) hR.2⟩ (cat8 [] (Nat.le_of_ble_eq_true rfl)) dX5_goOn_47 ⟨Nat.zero_le _, Nat.zero_le _⟩ rfl rfl (fun H locs hh hS => ?_)
    cases h
    exact q_vret X hret hlk hh hS dX5_goOn_50
  · rw [if_pos c9] at h
    refine q_aload_n X dX5_goOn_12 rfl hl 1 rfl ?_
    obtain ⟨t13, e_t13, h⟩ := o_b h
    refine q_gR X hh fa_X5_21 rfl e_t13 dX5_goOn_13 ?_
    refine lv_bipush (v := (72 : Int32)) X.1 X.2.1 dX5_goOn_16 (by decide) ?_
    obtain ⟨b18, e_b18, h⟩ := o_b h
    obtain ⟨q18, e_q18, h⟩ := o_b h
    refine q_cV (As := [.int (72 : Int32)]) X hh hS hl cf_X5_187 (cN := 6) rfl rfl e_b18 rfl (M_X6_add l D dA base σ b18 (72 : Int32) e_q18) ⟨Nat.le_trans (by decide) hR.1, Nat.le_trans (by decide) hR.2⟩ (cat8 [] (Nat.le_of_ble_eq_true rfl)) dX5_goOn_18 ⟨Nat.zero_le _, Nat.zero_le _⟩ rfl rfl (fun H locs hh hS => ?_)
    refine lv_pop X.1 X.2.1 dX5_goOn_21 (vv_cat (.inr q18.1)) ?_
    cases h
    exact q_vret X hret hlk hh hS dX5_goOn_22
set_option maxRecDepth 100000 in
theorem M_X5_goOn (l : Launch) (D : va_G) (dA : Nat → ClassId) (base : Nat) (σ : hp) (t0 : Nat) {z : hp} (h : S_X5_goOn σ t0 = some z) : mt l yX5_goOn cX5_goOn 3 (none) 1 22 D dA base σ [.ref t0] none z 0 0 := by
  refine Met.ofW (cc := cX5_goOn) (maxL := 3) (ret := none) (by decide) rfl ?_
  intro p e s m args below meth c s₁ B hml hv
  obtain ⟨rfl, hh, hK⟩ := hv
  have X : cx p s m ([.ref t0] : List Value).toArray c cX5_goOn RX5 3 D dA := ⟨B.exec, B.bytes, findClass_of_methodNamed B.named, hml, fun w hw => atoms_spec (ws := .code yX5_goOn cX5_goOn 3 (none) :: G) B.pre w (List.mem_cons_of_mem _ hw), hK⟩
  have hl := lk_entry [.inr (some t0)] (n := 3) (Nat.le_of_ble_eq_true rfl)
  rw [lg_entry_eq]
  have hl : lk ((lg_sl ([.ref t0] : List Value) ++ List.replicate (3 - (lg_sl ([.ref t0] : List Value)).length) Slot.unset).toArray) 3 [(0, .inr (some t0))] := hl
  generalize (lg_sl ([.ref t0] : List Value) ++ List.replicate (3 - (lg_sl ([.ref t0] : List Value)).length) Slot.unset).toArray = ls at hl ⊢
  exact K_X5_goOn_0 X B.returns B.notSynchronized ⟨Nat.le_refl _, Nat.le_refl _⟩ hh va_S.rf hl h
