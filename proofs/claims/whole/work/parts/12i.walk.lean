/-! Walks: written by wip/whole/gen/emit.py. X9_execute X9_acknowledge X9_sendAgain X9_offered X9_done -/
theorem ke_X9_execute_39_b {rec39 : hp → Nat → Int32 → Int32 → Int32 → Option (hp)} {z : hp} (hm39 : ∀ (σ : hp) (t0 : Nat) (v1 : Int32) (v2 : Int32) (v3 : Int32), rec39 σ t0 v1 v2 v3 = some z → eq4 σ z) {σ : hp} {t0 : Nat} {v1 : Int32} {v2 : Int32} {v3 : Int32} (h : S_X9_execute_39_b rec39 σ t0 v1 v2 v3 = some z) : eq4 σ z := by
  unfold S_X9_execute_39_b at h
  obtain ⟨t41, e_t41, h⟩ := o_b h
  obtain ⟨t45, e_t45, h⟩ := o_b h
  by_cases c46 : t45 ≤ v3
  · rw [if_pos c46] at h
    obtain ⟨t78, e_t78, h⟩ := o_b h
    obtain ⟨t83, e_t83, h⟩ := o_b h
    obtain ⟨s86, e_s86, h⟩ := o_b h
    obtain ⟨t88, e_t88, h⟩ := o_b h
    obtain ⟨z93, e_z93, h⟩ := o_b h
    obtain ⟨s93, e_s93, h⟩ := o_b h
    obtain ⟨b98, e_b98, h⟩ := o_b h
    obtain ⟨q98, e_q98, h⟩ := o_b h
    cases h
    exact (((e_stI e_s86)).tr (e_stI e_s93)).tr (ke_X9_say_0 e_q98)
  · rw [if_neg c46] at h
    obtain ⟨t50, e_t50, h⟩ := o_b h
    obtain ⟨t60, e_t60, h⟩ := o_b h
    obtain ⟨t69, e_t69, h⟩ := o_b h
    obtain ⟨s70, e_s70, h⟩ := o_b h
    exact ((e_stI e_s70)).tr (hm39 _ _ _ _ _ h)
theorem ke_X9_execute_39 {z : hp} : ∀ (n : Nat) (σ : hp) (t0 : Nat) (v1 : Int32) (v2 : Int32) (v3 : Int32), S_X9_execute_39 n σ t0 v1 v2 v3 = some z → eq4 σ z := by
  intro n
  induction n with
  | zero => intro σ t0 v1 v2 v3 h; cases h
  | succ n ih => intro σ t0 v1 v2 v3 h; exact ke_X9_execute_39_b ih h
set_option maxHeartbeats 4000000 in
set_option maxRecDepth 100000 in
theorem K_X9_execute_39_b {p : Program} {l : Launch} {e : Env} {R : Room} {s : State} {m : MethodId} {args : Array Value} {below : List Frame} {meth : Method} {c : Code} {D : va_G} {dA : Nat → ClassId} {base : Nat} {rec39 : hp → Nat → Int32 → Int32 → Int32 → Option (hp)} {z : hp} (X : cx p s m args c cX9_execute RX9 4 D dA) (hret : meth.sig.returnType = none) (hlk : meth.locks = false) (hR : 7 ≤ R.frames ∧ 157 ≤ R.locals) (hr39 : ∀ (σ : hp) (t0 : Nat) (v1 : Int32) (v2 : Int32) (v3 : Int32) (H : Heap) (locs : List Loc) (ls : Array Slot), hw D dA base σ H → hs base s.heap H locs → lk ls 4 [(0, .inr (some t0)), (1, .inl v1), (2, .inl v2), (3, .inl v3)] → rec39 σ t0 v1 v2 v3 = some z → W p l e R s m args below meth c H locs 0 0 (MQ below (qG D dA base none z) args s 0 0 (fun q => base ≤ q)) (F0 m 39 ls [])) {σ : hp} {t0 : Nat} {v1 : Int32} {v2 : Int32} {v3 : Int32} {H : Heap} {locs : List Loc} {ls : Array Slot} (hh : hw D dA base σ H) (hS : hs base s.heap H locs) (hl : lk ls 4 [(0, .inr (some t0)), (1, .inl v1), (2, .inl v2), (3, .inl v3)]) (h : S_X9_execute_39_b rec39 σ t0 v1 v2 v3 = some z) : W p l e R s m args below meth c H locs 0 0 (MQ below (qG D dA base none z) args s 0 0 (fun q => base ≤ q)) (F0 m 39 ls []) := by
  unfold S_X9_execute_39_b at h
  refine q_iload_n X dX9_execute_39 rfl hl 3 rfl ?_
  refine q_aload_n X dX9_execute_40 rfl hl 0 rfl ?_
  obtain ⟨t41, e_t41, h⟩ := o_b h
  refine q_gR X hh fa_X9_96 rfl e_t41 dX9_execute_41 ?_
  refine q_iload_n X dX9_execute_44 rfl hl 1 rfl ?_
  obtain ⟨t45, e_t45, h⟩ := o_b h
  refine q_ldI X hh e_t45 dX9_execute_45 ?_
  refine lv_icmp_ge (tgt := 77) X.1 X.2.1 dX9_execute_46 (by decide) (fun c46 => ?_) (fun c46 => ?_)
  · rw [if_pos c46] at h
    refine q_aload_n X dX9_execute_77 rfl hl 0 rfl ?_
    obtain ⟨t78, e_t78, h⟩ := o_b h
    refine q_gR X hh fa_X9_25 rfl e_t78 dX9_execute_78 ?_
    refine q_iload_n X dX9_execute_81 rfl hl 1 rfl ?_
    refine lv_dup2_11 X.1 X.2.1 dX9_execute_82 (vv_cat (.inl v1)) (vv_cat (.inr t78)) ?_
    obtain ⟨t83, e_t83, h⟩ := o_b h
    refine q_ldI X hh e_t83 dX9_execute_83 ?_
    refine lv_iconst (v := (1 : Int32)) X.1 X.2.1 dX9_execute_84 (by decide) ?_
    refine lv_iadd X.1 X.2.1 dX9_execute_85 ?_
    obtain ⟨s86, e_s86, h⟩ := o_b h
    refine q_stI X hh hS e_s86 dX9_execute_86 (fun H locs hh hS => ?_)
    refine q_aload_n X dX9_execute_87 rfl hl 0 rfl ?_
    obtain ⟨t88, e_t88, h⟩ := o_b h
    refine q_gR X hh fa_X9_90 rfl e_t88 dX9_execute_88 ?_
    refine q_iload_n X dX9_execute_91 rfl hl 1 rfl ?_
    refine lv_iconst (v := (0 : Int32)) X.1 X.2.1 dX9_execute_92 (by decide) ?_
    obtain ⟨z93, e_z93, h⟩ := o_b h
    obtain ⟨s93, e_s93, h⟩ := o_b h
    refine q_stZ X hh hS e_z93 e_s93 dX9_execute_93 (fun H locs hh hS => ?_)
    refine q_aload_n X dX9_execute_94 rfl hl 0 rfl ?_
    refine q_iload_n X dX9_execute_95 rfl hl 1 rfl ?_
    refine lv_bipush (v := (67 : Int32)) X.1 X.2.1 dX9_execute_96 (by decide) ?_
    obtain ⟨b98, e_b98, h⟩ := o_b h
    obtain ⟨q98, e_q98, h⟩ := o_b h
    refine q_cV (As := [.int v1, .int (67 : Int32)]) X hh hS hl cf_X9_157 (cN := 9) rfl rfl e_b98 rfl (M_X9_say l D dA base s93 b98 v1 (67 : Int32) e_q98) ⟨Nat.le_trans (by decide) hR.1, Nat.le_trans (by decide) hR.2⟩ (cat8 [] (Nat.le_of_ble_eq_true rfl)) dX9_execute_98 ⟨Nat.zero_le _, Nat.zero_le _⟩ rfl rfl (fun H locs hh hS => ?_)
    cases h
    exact q_vret X hret hlk hh hS dX9_execute_101
  · rw [if_neg c46] at h
    refine q_aload_n X dX9_execute_49 rfl hl 0 rfl ?_
    obtain ⟨t50, e_t50, h⟩ := o_b h
    refine q_gR X hh fa_X9_35 rfl e_t50 dX9_execute_50 ?_
    refine lv_bipush (v := (100 : Int32)) X.1 X.2.1 dX9_execute_53 (by decide) ?_
    refine q_iload_n X dX9_execute_55 rfl hl 2 rfl ?_
    refine lv_imul X.1 X.2.1 dX9_execute_56 ?_
    refine q_iload_n X dX9_execute_57 rfl hl 3 rfl ?_
    refine lv_iadd X.1 X.2.1 dX9_execute_58 ?_
    refine q_aload_n X dX9_execute_59 rfl hl 0 rfl ?_
    obtain ⟨t60, e_t60, h⟩ := o_b h
    refine q_gR X hh fa_X9_102 rfl e_t60 dX9_execute_60 ?_
    refine lv_bipush (v := (100 : Int32)) X.1 X.2.1 dX9_execute_63 (by decide) ?_
    refine q_iload_n X dX9_execute_65 rfl hl 1 rfl ?_
    refine lv_imul X.1 X.2.1 dX9_execute_66 ?_
    refine q_iload_n X dX9_execute_67 rfl hl 3 rfl ?_
    refine lv_iadd X.1 X.2.1 dX9_execute_68 ?_
    obtain ⟨t69, e_t69, h⟩ := o_b h
    refine q_ldI X hh e_t69 dX9_execute_69 ?_
    obtain ⟨s70, e_s70, h⟩ := o_b h
    refine q_stI X hh hS e_s70 dX9_execute_70 (fun H locs hh hS => ?_)
    refine q_iinc (v := (1 : Int32)) (lv' := [(3, .inl (v3 + (1 : Int32))), (0, .inr (some t0)), (1, .inl v1), (2, .inl v2)]) X dX9_execute_71 hl 3 rfl (by decide) (by decide) rfl (fun ls hl => ?_)
    refine lv_goto (tgt := 39) X.1 X.2.1 dX9_execute_74 (by decide) ?_
    exact hr39 _ _ _ _ _ _ _ _ hh hS (lk_sub hl [1, 2, 3, 0] rfl) h
theorem K_X9_execute_39 {p : Program} {l : Launch} {e : Env} {R : Room} {s : State} {m : MethodId} {args : Array Value} {below : List Frame} {meth : Method} {c : Code} {D : va_G} {dA : Nat → ClassId} {base : Nat} {z : hp} (X : cx p s m args c cX9_execute RX9 4 D dA) (hret : meth.sig.returnType = none) (hlk : meth.locks = false) (hR : 7 ≤ R.frames ∧ 157 ≤ R.locals) : ∀ (n : Nat) (σ : hp) (t0 : Nat) (v1 : Int32) (v2 : Int32) (v3 : Int32) (H : Heap) (locs : List Loc) (ls : Array Slot), hw D dA base σ H → hs base s.heap H locs → lk ls 4 [(0, .inr (some t0)), (1, .inl v1), (2, .inl v2), (3, .inl v3)] → S_X9_execute_39 n σ t0 v1 v2 v3 = some z → W p l e R s m args below meth c H locs 0 0 (MQ below (qG D dA base none z) args s 0 0 (fun q => base ≤ q)) (F0 m 39 ls []) := by
  intro n
  induction n with
  | zero => intro σ t0 v1 v2 v3 H locs ls hh hS hl h; cases h
  | succ n ih => intro σ t0 v1 v2 v3 H locs ls hh hS hl h; exact K_X9_execute_39_b X hret hlk hR ih hh hS hl h
theorem ke_X9_execute_0 {z : hp} {σ : hp} {t0 : Nat} {v1 : Int32} (h : S_X9_execute σ t0 v1 = some z) : eq4 σ z := by
  unfold S_X9_execute at h
  obtain ⟨t6, e_t6, h⟩ := o_b h
  obtain ⟨t10, e_t10, h⟩ := o_b h
  obtain ⟨t14, e_t14, h⟩ := o_b h
  obtain ⟨t19, e_t19, h⟩ := o_b h
  obtain ⟨t23, e_t23, h⟩ := o_b h
  obtain ⟨s24, e_s24, h⟩ := o_b h
  obtain ⟨t26, e_t26, h⟩ := o_b h
  obtain ⟨t31, e_t31, h⟩ := o_b h
  obtain ⟨t35, e_t35, h⟩ := o_b h
  obtain ⟨s36, e_s36, h⟩ := o_b h
  exact (((e_stI e_s24)).tr (e_stI e_s36)).tr (ke_X9_execute_39 FU _ _ _ _ _ h)
set_option maxHeartbeats 4000000 in
set_option maxRecDepth 100000 in
theorem K_X9_execute_0 {p : Program} {l : Launch} {e : Env} {R : Room} {s : State} {m : MethodId} {args : Array Value} {below : List Frame} {meth : Method} {c : Code} {D : va_G} {dA : Nat → ClassId} {base : Nat} {z : hp} (X : cx p s m args c cX9_execute RX9 4 D dA) (hret : meth.sig.returnType = none) (hlk : meth.locks = false) (hR : 7 ≤ R.frames ∧ 157 ≤ R.locals) {σ : hp} {t0 : Nat} {v1 : Int32} {H : Heap} {locs : List Loc} {ls : Array Slot} (hh : hw D dA base σ H) (hS : hs base s.heap H locs) (hl : lk ls 4 [(0, .inr (some t0)), (1, .inl v1)]) (h : S_X9_execute σ t0 v1 = some z) : W p l e R s m args below meth c H locs 0 0 (MQ below (qG D dA base none z) args s 0 0 (fun q => base ≤ q)) (F0 m 0 ls []) := by
  unfold S_X9_execute at h
  refine lv_sipush (v := (256 : Int32)) X.1 X.2.1 dX9_execute_0 (by decide) ?_
  refine q_iload_n X dX9_execute_3 rfl hl 1 rfl ?_
  refine lv_imul X.1 X.2.1 dX9_execute_4 ?_
  refine q_aload_n X dX9_execute_5 rfl hl 0 rfl ?_
  obtain ⟨t6, e_t6, h⟩ := o_b h
  refine q_gR X hh fa_X9_25 rfl e_t6 dX9_execute_6 ?_
  refine q_iload_n X dX9_execute_9 rfl hl 1 rfl ?_
  obtain ⟨t10, e_t10, h⟩ := o_b h
  refine q_ldI X hh e_t10 dX9_execute_10 ?_
  refine lv_iadd X.1 X.2.1 dX9_execute_11 ?_
  refine q_istore_n (lv' := [(2, .inl (((256 : Int32) * v1) + t10)), (0, .inr (some t0)), (1, .inl v1)]) X dX9_execute_12 rfl hl (by decide) rfl (fun ls hl => ?_)
  refine q_aload_n X dX9_execute_13 rfl hl 1 rfl ?_
  obtain ⟨t14, e_t14, h⟩ := o_b h
  refine q_gR X hh fa_X9_28 rfl e_t14 dX9_execute_14 ?_
  refine q_iload_n X dX9_execute_17 rfl hl 0 rfl ?_
  refine q_aload_n X dX9_execute_18 rfl hl 1 rfl ?_
  obtain ⟨t19, e_t19, h⟩ := o_b h
  refine q_gR X hh fa_X9_93 rfl e_t19 dX9_execute_19 ?_
  refine q_iload_n X dX9_execute_22 rfl hl 2 rfl ?_
  obtain ⟨t23, e_t23, h⟩ := o_b h
  refine q_ldI X hh e_t23 dX9_execute_23 ?_
  obtain ⟨s24, e_s24, h⟩ := o_b h
  refine q_stI X hh hS e_s24 dX9_execute_24 (fun H locs hh hS => ?_)
  refine q_aload_n X dX9_execute_25 rfl hl 1 rfl ?_
  obtain ⟨t26, e_t26, h⟩ := o_b h
  refine q_gR X hh fa_X9_31 rfl e_t26 dX9_execute_26 ?_
  refine q_iload_n X dX9_execute_29 rfl hl 0 rfl ?_
  refine q_aload_n X dX9_execute_30 rfl hl 1 rfl ?_
  obtain ⟨t31, e_t31, h⟩ := o_b h
  refine q_gR X hh fa_X9_96 rfl e_t31 dX9_execute_31 ?_
  refine q_iload_n X dX9_execute_34 rfl hl 2 rfl ?_
  obtain ⟨t35, e_t35, h⟩ := o_b h
  refine q_ldI X hh e_t35 dX9_execute_35 ?_
  obtain ⟨s36, e_s36, h⟩ := o_b h
  refine q_stI X hh hS e_s36 dX9_execute_36 (fun H locs hh hS => ?_)
  refine lv_iconst (v := (0 : Int32)) X.1 X.2.1 dX9_execute_37 (by decide) ?_
  refine q_istore_n (lv' := [(3, .inl (0 : Int32)), (2, .inl (((256 : Int32) * v1) + t10)), (0, .inr (some t0)), (1, .inl v1)]) X dX9_execute_38 rfl hl (by decide) rfl (fun ls hl => ?_)
  exact K_X9_execute_39 X hret hlk hR FU _ _ _ _ _ _ _ _ hh hS (lk_sub hl [2, 3, 1, 0] rfl) h
set_option maxRecDepth 100000 in
theorem M_X9_execute (l : Launch) (D : va_G) (dA : Nat → ClassId) (base : Nat) (σ : hp) (t0 : Nat) (v1 : Int32) {z : hp} (h : S_X9_execute σ t0 v1 = some z) : mt l yX9_execute cX9_execute 4 (none) 7 157 D dA base σ [.ref t0, .int v1] none z 0 0 := by
  refine Met.ofW (cc := cX9_execute) (maxL := 4) (ret := none) (by decide) rfl ?_
  intro p e s m args below meth c s₁ B hml hv
  obtain ⟨rfl, hh, hK⟩ := hv
  have X : cx p s m ([.ref t0, .int v1] : List Value).toArray c cX9_execute RX9 4 D dA := ⟨B.exec, B.bytes, findClass_of_methodNamed B.named, hml, fun w hw => atoms_spec (ws := .code yX9_execute cX9_execute 4 (none) :: G) B.pre w (List.mem_cons_of_mem _ hw), hK⟩
  have hl := lk_entry [.inr (some t0), .inl v1] (n := 4) (Nat.le_of_ble_eq_true rfl)
  rw [lg_entry_eq]
  have hl : lk ((lg_sl ([.ref t0, .int v1] : List Value) ++ List.replicate (4 - (lg_sl ([.ref t0, .int v1] : List Value)).length) Slot.unset).toArray) 4 [(0, .inr (some t0)), (1, .inl v1)] := hl
  generalize (lg_sl ([.ref t0, .int v1] : List Value) ++ List.replicate (4 - (lg_sl ([.ref t0, .int v1] : List Value)).length) Slot.unset).toArray = ls at hl ⊢
  exact K_X9_execute_0 X B.returns B.notSynchronized ⟨Nat.le_refl _, Nat.le_refl _⟩ hh va_S.rf hl h
theorem ke_X9_acknowledge_37 {rec5 : hp → Nat → Int32 → Int32 → Int32 → Int32 → Option (hp)} {z : hp} (hm5 : ∀ (σ : hp) (t0 : Nat) (v1 : Int32) (v2 : Int32) (v3 : Int32) (v4 : Int32), rec5 σ t0 v1 v2 v3 v4 = some z → eq4 σ z) {σ : hp} {t0 : Nat} {v1 : Int32} {v2 : Int32} {v4 : Int32} {w0 : Int32} (h : S_X9_acknowledge_37 rec5 σ t0 v1 v2 v4 w0 = some z) : eq4 σ z := by
  unfold S_X9_acknowledge_37 at h
  exact (hm5 _ _ _ _ _ _ h)
set_option maxHeartbeats 4000000 in
set_option maxRecDepth 100000 in
theorem K_X9_acknowledge_37 {p : Program} {l : Launch} {e : Env} {R : Room} {s : State} {m : MethodId} {args : Array Value} {below : List Frame} {meth : Method} {c : Code} {D : va_G} {dA : Nat → ClassId} {base : Nat} {rec5 : hp → Nat → Int32 → Int32 → Int32 → Int32 → Option (hp)} {z : hp} (X : cx p s m args c cX9_acknowledge RX9 7 D dA) (hret : meth.sig.returnType = none) (hlk : meth.locks = false) (hR : 0 ≤ R.frames ∧ 0 ≤ R.locals) (hr5 : ∀ (σ : hp) (t0 : Nat) (v1 : Int32) (v2 : Int32) (v3 : Int32) (v4 : Int32) (H : Heap) (locs : List Loc) (ls : Array Slot), hw D dA base σ H → hs base s.heap H locs → lk ls 7 [(0, .inr (some t0)), (1, .inl v1), (2, .inl v2), (3, .inl v3), (4, .inl v4)] → rec5 σ t0 v1 v2 v3 v4 = some z → W p l e R s m args below meth c H locs 0 0 (MQ below (qG D dA base none z) args s 0 0 (fun q => base ≤ q)) (F0 m 5 ls [])) {σ : hp} {t0 : Nat} {v1 : Int32} {v2 : Int32} {v4 : Int32} {w0 : Int32} {H : Heap} {locs : List Loc} {ls : Array Slot} (hh : hw D dA base σ H) (hS : hs base s.heap H locs) (hl : lk ls 7 [(0, .inr (some t0)), (1, .inl v1), (2, .inl v2), (4, .inl v4)]) (h : S_X9_acknowledge_37 rec5 σ t0 v1 v2 v4 w0 = some z) : W p l e R s m args below meth c H locs 0 0 (MQ below (qG D dA base none z) args s 0 0 (fun q => base ≤ q)) (F0 m 37 ls [.int w0]) := by
  unfold S_X9_acknowledge_37 at h
  refine q_istore_n (lv' := [(3, .inl w0), (0, .inr (some t0)), (1, .inl v1), (2, .inl v2), (4, .inl v4)]) X dX9_acknowledge_37 rfl hl (by decide) rfl (fun ls hl => ?_)
  refine q_iinc (v := (1 : Int32)) (lv' := [(4, .inl (v4 + (1 : Int32))), (3, .inl w0), (0, .inr (some t0)), (1, .inl v1), (2, .inl v2)]) X dX9_acknowledge_38 hl 4 rfl (by decide) (by decide) rfl (fun ls hl => ?_)
  refine lv_goto (tgt := 5) X.1 X.2.1 dX9_acknowledge_41 (by decide) ?_
  exact hr5 _ _ _ _ _ _ _ _ _ hh hS (lk_sub hl [2, 3, 4, 1, 0] rfl) h
theorem ke_X9_acknowledge_108_b {rec69 : hp → Nat → Int32 → Int32 → Int32 → Option (hp)} {rec108 : hp → Nat → Int32 → Int32 → Int32 → Int32 → Option (hp)} {z : hp} (hm69 : ∀ (σ : hp) (t0 : Nat) (v1 : Int32) (v4 : Int32) (v5 : Int32), rec69 σ t0 v1 v4 v5 = some z → eq4 σ z) (hm108 : ∀ (σ : hp) (t0 : Nat) (v1 : Int32) (v4 : Int32) (v5 : Int32) (v6 : Int32), rec108 σ t0 v1 v4 v5 v6 = some z → eq4 σ z) {σ : hp} {t0 : Nat} {v1 : Int32} {v4 : Int32} {v5 : Int32} {v6 : Int32} (h : S_X9_acknowledge_108_b rec69 rec108 σ t0 v1 v4 v5 v6 = some z) : eq4 σ z := by
  unfold S_X9_acknowledge_108_b at h
  by_cases c112 : (32 : Int32) ≤ v6
  · rw [if_pos c112] at h
    exact (hm69 _ _ _ _ _ h)
  · rw [if_neg c112] at h
    obtain ⟨t116, e_t116, h⟩ := o_b h
    obtain ⟨t133, e_t133, h⟩ := o_b h
    obtain ⟨t152, e_t152, h⟩ := o_b h
    obtain ⟨s153, e_s153, h⟩ := o_b h
    exact ((e_stI e_s153)).tr (hm108 _ _ _ _ _ _ h)
theorem ke_X9_acknowledge_108 {rec69 : hp → Nat → Int32 → Int32 → Int32 → Option (hp)} {z : hp} (hm69 : ∀ (σ : hp) (t0 : Nat) (v1 : Int32) (v4 : Int32) (v5 : Int32), rec69 σ t0 v1 v4 v5 = some z → eq4 σ z) : ∀ (n : Nat) (σ : hp) (t0 : Nat) (v1 : Int32) (v4 : Int32) (v5 : Int32) (v6 : Int32), S_X9_acknowledge_108 rec69 n σ t0 v1 v4 v5 v6 = some z → eq4 σ z := by
  intro n
  induction n with
  | zero => intro σ t0 v1 v4 v5 v6 h; cases h
  | succ n ih => intro σ t0 v1 v4 v5 v6 h; exact ke_X9_acknowledge_108_b hm69 ih h
set_option maxHeartbeats 4000000 in
set_option maxRecDepth 100000 in
theorem K_X9_acknowledge_108_b {p : Program} {l : Launch} {e : Env} {R : Room} {s : State} {m : MethodId} {args : Array Value} {below : List Frame} {meth : Method} {c : Code} {D : va_G} {dA : Nat → ClassId} {base : Nat} {rec69 : hp → Nat → Int32 → Int32 → Int32 → Option (hp)} {rec108 : hp → Nat → Int32 → Int32 → Int32 → Int32 → Option (hp)} {z : hp} (X : cx p s m args c cX9_acknowledge RX9 7 D dA) (hret : meth.sig.returnType = none) (hlk : meth.locks = false) (hR : 0 ≤ R.frames ∧ 0 ≤ R.locals) (hr69 : ∀ (σ : hp) (t0 : Nat) (v1 : Int32) (v4 : Int32) (v5 : Int32) (H : Heap) (locs : List Loc) (ls : Array Slot), hw D dA base σ H → hs base s.heap H locs → lk ls 7 [(0, .inr (some t0)), (1, .inl v1), (4, .inl v4), (5, .inl v5)] → rec69 σ t0 v1 v4 v5 = some z → W p l e R s m args below meth c H locs 0 0 (MQ below (qG D dA base none z) args s 0 0 (fun q => base ≤ q)) (F0 m 69 ls [])) (hr108 : ∀ (σ : hp) (t0 : Nat) (v1 : Int32) (v4 : Int32) (v5 : Int32) (v6 : Int32) (H : Heap) (locs : List Loc) (ls : Array Slot), hw D dA base σ H → hs base s.heap H locs → lk ls 7 [(0, .inr (some t0)), (1, .inl v1), (4, .inl v4), (5, .inl v5), (6, .inl v6)] → rec108 σ t0 v1 v4 v5 v6 = some z → W p l e R s m args below meth c H locs 0 0 (MQ below (qG D dA base none z) args s 0 0 (fun q => base ≤ q)) (F0 m 108 ls [])) {σ : hp} {t0 : Nat} {v1 : Int32} {v4 : Int32} {v5 : Int32} {v6 : Int32} {H : Heap} {locs : List Loc} {ls : Array Slot} (hh : hw D dA base σ H) (hS : hs base s.heap H locs) (hl : lk ls 7 [(0, .inr (some t0)), (1, .inl v1), (4, .inl v4), (5, .inl v5), (6, .inl v6)]) (h : S_X9_acknowledge_108_b rec69 rec108 σ t0 v1 v4 v5 v6 = some z) : W p l e R s m args below meth c H locs 0 0 (MQ below (qG D dA base none z) args s 0 0 (fun q => base ≤ q)) (F0 m 108 ls []) := by
  unfold S_X9_acknowledge_108_b at h
  refine q_iload X dX9_acknowledge_108 hl 4 rfl ?_
  refine lv_bipush (v := (32 : Int32)) X.1 X.2.1 dX9_acknowledge_110 (by decide) ?_
  refine lv_icmp_ge (tgt := 160) X.1 X.2.1 dX9_acknowledge_112 (by decide) (fun c112 => ?_) (fun c112 => ?_)
  · rw [if_pos c112] at h
    refine q_iinc (v := (1 : Int32)) (lv' := [(5, .inl (v5 + (1 : Int32))), (0, .inr (some t0)), (1, .inl v1), (4, .inl v4), (6, .inl v6)]) X dX9_acknowledge_160 hl 3 rfl (by decide) (by decide) rfl (fun ls hl => ?_)
    refine lv_goto (tgt := 69) X.1 X.2.1 dX9_acknowledge_163 (by decide) ?_
    exact hr69 _ _ _ _ _ _ _ _ hh hS (lk_sub hl [1, 2, 3, 0] rfl) h
  · rw [if_neg c112] at h
    refine q_aload_n X dX9_acknowledge_115 rfl hl 0 rfl ?_
    obtain ⟨t116, e_t116, h⟩ := o_b h
    refine q_gR X hh fa_X9_81 rfl e_t116 dX9_acknowledge_116 ?_
    refine lv_bipush (v := (96 : Int32)) X.1 X.2.1 dX9_acknowledge_119 (by decide) ?_
    refine q_iload_n X dX9_acknowledge_121 rfl hl 1 rfl ?_
    refine lv_imul X.1 X.2.1 dX9_acknowledge_122 ?_
    refine lv_bipush (v := (32 : Int32)) X.1 X.2.1 dX9_acknowledge_123 (by decide) ?_
    refine q_iload X dX9_acknowledge_125 hl 3 rfl ?_
    refine lv_imul X.1 X.2.1 dX9_acknowledge_127 ?_
    refine lv_iadd X.1 X.2.1 dX9_acknowledge_128 ?_
    refine q_iload X dX9_acknowledge_129 hl 4 rfl ?_
    refine lv_iadd X.1 X.2.1 dX9_acknowledge_131 ?_
    refine q_aload_n X dX9_acknowledge_132 rfl hl 0 rfl ?_
    obtain ⟨t133, e_t133, h⟩ := o_b h
    refine q_gR X hh fa_X9_81 rfl e_t133 dX9_acknowledge_133 ?_
    refine lv_bipush (v := (96 : Int32)) X.1 X.2.1 dX9_acknowledge_136 (by decide) ?_
    refine q_iload_n X dX9_acknowledge_138 rfl hl 1 rfl ?_
    refine lv_imul X.1 X.2.1 dX9_acknowledge_139 ?_
    refine lv_bipush (v := (32 : Int32)) X.1 X.2.1 dX9_acknowledge_140 (by decide) ?_
    refine q_iload X dX9_acknowledge_142 hl 3 rfl ?_
    refine q_iload X dX9_acknowledge_144 hl 2 rfl ?_
    refine lv_iadd X.1 X.2.1 dX9_acknowledge_146 ?_
    refine lv_imul X.1 X.2.1 dX9_acknowledge_147 ?_
    refine lv_iadd X.1 X.2.1 dX9_acknowledge_148 ?_
    refine q_iload X dX9_acknowledge_149 hl 4 rfl ?_
    refine lv_iadd X.1 X.2.1 dX9_acknowledge_151 ?_
    obtain ⟨t152, e_t152, h⟩ := o_b h
    refine q_ldI X hh e_t152 dX9_acknowledge_152 ?_
    obtain ⟨s153, e_s153, h⟩ := o_b h
    refine q_stI X hh hS e_s153 dX9_acknowledge_153 (fun H locs hh hS => ?_)
    refine q_iinc (v := (1 : Int32)) (lv' := [(6, .inl (v6 + (1 : Int32))), (0, .inr (some t0)), (1, .inl v1), (4, .inl v4), (5, .inl v5)]) X dX9_acknowledge_154 hl 4 rfl (by decide) (by decide) rfl (fun ls hl => ?_)
    refine lv_goto (tgt := 108) X.1 X.2.1 dX9_acknowledge_157 (by decide) ?_
    exact hr108 _ _ _ _ _ _ _ _ _ hh hS (lk_sub hl [1, 2, 3, 4, 0] rfl) h
theorem K_X9_acknowledge_108 {p : Program} {l : Launch} {e : Env} {R : Room} {s : State} {m : MethodId} {args : Array Value} {below : List Frame} {meth : Method} {c : Code} {D : va_G} {dA : Nat → ClassId} {base : Nat} {rec69 : hp → Nat → Int32 → Int32 → Int32 → Option (hp)} {z : hp} (X : cx p s m args c cX9_acknowledge RX9 7 D dA) (hret : meth.sig.returnType = none) (hlk : meth.locks = false) (hR : 0 ≤ R.frames ∧ 0 ≤ R.locals) (hr69 : ∀ (σ : hp) (t0 : Nat) (v1 : Int32) (v4 : Int32) (v5 : Int32) (H : Heap) (locs : List Loc) (ls : Array Slot), hw D dA base σ H → hs base s.heap H locs → lk ls 7 [(0, .inr (some t0)), (1, .inl v1), (4, .inl v4), (5, .inl v5)] → rec69 σ t0 v1 v4 v5 = some z → W p l e R s m args below meth c H locs 0 0 (MQ below (qG D dA base none z) args s 0 0 (fun q => base ≤ q)) (F0 m 69 ls [])) : ∀ (n : Nat) (σ : hp) (t0 : Nat) (v1 : Int32) (v4 : Int32) (v5 : Int32) (v6 : Int32) (H : Heap) (locs : List Loc) (ls : Array Slot), hw D dA base σ H → hs base s.heap H locs → lk ls 7 [(0, .inr (some t0)), (1, .inl v1), (4, .inl v4), (5, .inl v5), (6, .inl v6)] → S_X9_acknowledge_108 rec69 n σ t0 v1 v4 v5 v6 = some z → W p l e R s m args below meth c H locs 0 0 (MQ below (qG D dA base none z) args s 0 0 (fun q => base ≤ q)) (F0 m 108 ls []) := by
  intro n
  induction n with
  | zero => intro σ t0 v1 v4 v5 v6 H locs ls hh hS hl h; cases h
  | succ n ih => intro σ t0 v1 v4 v5 v6 H locs ls hh hS hl h; exact K_X9_acknowledge_108_b X hret hlk hR hr69 ih hh hS hl h
theorem ke_X9_acknowledge_69_b {rec69 : hp → Nat → Int32 → Int32 → Int32 → Option (hp)} {z : hp} (hm69 : ∀ (σ : hp) (t0 : Nat) (v1 : Int32) (v4 : Int32) (v5 : Int32), rec69 σ t0 v1 v4 v5 = some z → eq4 σ z) {σ : hp} {t0 : Nat} {v1 : Int32} {v4 : Int32} {v5 : Int32} (h : S_X9_acknowledge_69_b rec69 σ t0 v1 v4 v5 = some z) : eq4 σ z := by
  unfold S_X9_acknowledge_69_b at h
  obtain ⟨t72, e_t72, h⟩ := o_b h
  obtain ⟨t76, e_t76, h⟩ := o_b h
  by_cases c77 : t76 ≤ v5
  · rw [if_pos c77] at h
    obtain ⟨t167, e_t167, h⟩ := o_b h
    obtain ⟨s172, e_s172, h⟩ := o_b h
    obtain ⟨t174, e_t174, h⟩ := o_b h
    obtain ⟨s179, e_s179, h⟩ := o_b h
    cases h
    exact ((e_stI e_s172)).tr (e_stI e_s179)
  · rw [if_neg c77] at h
    obtain ⟨t81, e_t81, h⟩ := o_b h
    obtain ⟨t91, e_t91, h⟩ := o_b h
    obtain ⟨t103, e_t103, h⟩ := o_b h
    obtain ⟨s104, e_s104, h⟩ := o_b h
    exact ((e_stI e_s104)).tr (ke_X9_acknowledge_108 hm69 FU _ _ _ _ _ _ h)
theorem ke_X9_acknowledge_69 {z : hp} : ∀ (n : Nat) (σ : hp) (t0 : Nat) (v1 : Int32) (v4 : Int32) (v5 : Int32), S_X9_acknowledge_69 n σ t0 v1 v4 v5 = some z → eq4 σ z := by
  intro n
  induction n with
  | zero => intro σ t0 v1 v4 v5 h; cases h
  | succ n ih => intro σ t0 v1 v4 v5 h; exact ke_X9_acknowledge_69_b ih h
set_option maxHeartbeats 4000000 in
set_option maxRecDepth 100000 in
theorem K_X9_acknowledge_69_b {p : Program} {l : Launch} {e : Env} {R : Room} {s : State} {m : MethodId} {args : Array Value} {below : List Frame} {meth : Method} {c : Code} {D : va_G} {dA : Nat → ClassId} {base : Nat} {rec69 : hp → Nat → Int32 → Int32 → Int32 → Option (hp)} {z : hp} (X : cx p s m args c cX9_acknowledge RX9 7 D dA) (hret : meth.sig.returnType = none) (hlk : meth.locks = false) (hR : 0 ≤ R.frames ∧ 0 ≤ R.locals) (hr69 : ∀ (σ : hp) (t0 : Nat) (v1 : Int32) (v4 : Int32) (v5 : Int32) (H : Heap) (locs : List Loc) (ls : Array Slot), hw D dA base σ H → hs base s.heap H locs → lk ls 7 [(0, .inr (some t0)), (1, .inl v1), (4, .inl v4), (5, .inl v5)] → rec69 σ t0 v1 v4 v5 = some z → W p l e R s m args below meth c H locs 0 0 (MQ below (qG D dA base none z) args s 0 0 (fun q => base ≤ q)) (F0 m 69 ls [])) {σ : hp} {t0 : Nat} {v1 : Int32} {v4 : Int32} {v5 : Int32} {H : Heap} {locs : List Loc} {ls : Array Slot} (hh : hw D dA base σ H) (hS : hs base s.heap H locs) (hl : lk ls 7 [(0, .inr (some t0)), (1, .inl v1), (4, .inl v4), (5, .inl v5)]) (h : S_X9_acknowledge_69_b rec69 σ t0 v1 v4 v5 = some z) : W p l e R s m args below meth c H locs 0 0 (MQ below (qG D dA base none z) args s 0 0 (fun q => base ≤ q)) (F0 m 69 ls []) := by
  unfold S_X9_acknowledge_69_b at h
  refine q_iload X dX9_acknowledge_69 hl 3 rfl ?_
  refine q_aload_n X dX9_acknowledge_71 rfl hl 0 rfl ?_
  obtain ⟨t72, e_t72, h⟩ := o_b h
  refine q_gR X hh fa_X9_75 rfl e_t72 dX9_acknowledge_72 ?_
  refine q_iload_n X dX9_acknowledge_75 rfl hl 1 rfl ?_
  obtain ⟨t76, e_t76, h⟩ := o_b h
  refine q_ldI X hh e_t76 dX9_acknowledge_76 ?_
  refine lv_icmp_ge (tgt := 166) X.1 X.2.1 dX9_acknowledge_77 (by decide) (fun c77 => ?_) (fun c77 => ?_)
  · rw [if_pos c77] at h
    refine q_aload_n X dX9_acknowledge_166 rfl hl 0 rfl ?_
    obtain ⟨t167, e_t167, h⟩ := o_b h
    refine q_gR X hh fa_X9_105 rfl e_t167 dX9_acknowledge_167 ?_
    refine q_iload_n X dX9_acknowledge_170 rfl hl 1 rfl ?_
    refine lv_iconst (v := (0 : Int32)) X.1 X.2.1 dX9_acknowledge_171 (by decide) ?_
    obtain ⟨s172, e_s172, h⟩ := o_b h
    refine q_stI X hh hS e_s172 dX9_acknowledge_172 (fun H locs hh hS => ?_)
    refine q_aload_n X dX9_acknowledge_173 rfl hl 0 rfl ?_
    obtain ⟨t174, e_t174, h⟩ := o_b h
    refine q_gR X hh fa_X9_108 rfl e_t174 dX9_acknowledge_174 ?_
    refine q_iload_n X dX9_acknowledge_177 rfl hl 1 rfl ?_
    refine lv_iconst (v := (0 : Int32)) X.1 X.2.1 dX9_acknowledge_178 (by decide) ?_
    obtain ⟨s179, e_s179, h⟩ := o_b h
    refine q_stI X hh hS e_s179 dX9_acknowledge_179 (fun H locs hh hS => ?_)
    cases h
    exact q_vret X hret hlk hh hS dX9_acknowledge_180
  · rw [if_neg c77] at h
    refine q_aload_n X dX9_acknowledge_80 rfl hl 0 rfl ?_
    obtain ⟨t81, e_t81, h⟩ := o_b h
    refine q_gR X hh fa_X9_78 rfl e_t81 dX9_acknowledge_81 ?_
    refine lv_iconst (v := (3 : Int32)) X.1 X.2.1 dX9_acknowledge_84 (by decide) ?_
    refine q_iload_n X dX9_acknowledge_85 rfl hl 1 rfl ?_
    refine lv_imul X.1 X.2.1 dX9_acknowledge_86 ?_
    refine q_iload X dX9_acknowledge_87 hl 3 rfl ?_
    refine lv_iadd X.1 X.2.1 dX9_acknowledge_89 ?_
    refine q_aload_n X dX9_acknowledge_90 rfl hl 0 rfl ?_
    obtain ⟨t91, e_t91, h⟩ := o_b h
    refine q_gR X hh fa_X9_78 rfl e_t91 dX9_acknowledge_91 ?_
    refine lv_iconst (v := (3 : Int32)) X.1 X.2.1 dX9_acknowledge_94 (by decide) ?_
    refine q_iload_n X dX9_acknowledge_95 rfl hl 1 rfl ?_
    refine lv_imul X.1 X.2.1 dX9_acknowledge_96 ?_
    refine q_iload X dX9_acknowledge_97 hl 3 rfl ?_
    refine lv_iadd X.1 X.2.1 dX9_acknowledge_99 ?_
    refine q_iload X dX9_acknowledge_100 hl 2 rfl ?_
    refine lv_iadd X.1 X.2.1 dX9_acknowledge_102 ?_
    obtain ⟨t103, e_t103, h⟩ := o_b h
    refine q_ldI X hh e_t103 dX9_acknowledge_103 ?_
    obtain ⟨s104, e_s104, h⟩ := o_b h
    refine q_stI X hh hS e_s104 dX9_acknowledge_104 (fun H locs hh hS => ?_)
    refine lv_iconst (v := (0 : Int32)) X.1 X.2.1 dX9_acknowledge_105 (by decide) ?_
    refine q_istore (lv' := [(6, .inl (0 : Int32)), (0, .inr (some t0)), (1, .inl v1), (4, .inl v4), (5, .inl v5)]) X dX9_acknowledge_106 hl (by decide) rfl (fun ls hl => ?_)
    exact K_X9_acknowledge_108 X hret hlk hR hr69 FU _ _ _ _ _ _ _ _ _ hh hS (lk_sub hl [1, 2, 3, 4, 0] rfl) h
theorem K_X9_acknowledge_69 {p : Program} {l : Launch} {e : Env} {R : Room} {s : State} {m : MethodId} {args : Array Value} {below : List Frame} {meth : Method} {c : Code} {D : va_G} {dA : Nat → ClassId} {base : Nat} {z : hp} (X : cx p s m args c cX9_acknowledge RX9 7 D dA) (hret : meth.sig.returnType = none) (hlk : meth.locks = false) (hR : 0 ≤ R.frames ∧ 0 ≤ R.locals) : ∀ (n : Nat) (σ : hp) (t0 : Nat) (v1 : Int32) (v4 : Int32) (v5 : Int32) (H : Heap) (locs : List Loc) (ls : Array Slot), hw D dA base σ H → hs base s.heap H locs → lk ls 7 [(0, .inr (some t0)), (1, .inl v1), (4, .inl v4), (5, .inl v5)] → S_X9_acknowledge_69 n σ t0 v1 v4 v5 = some z → W p l e R s m args below meth c H locs 0 0 (MQ below (qG D dA base none z) args s 0 0 (fun q => base ≤ q)) (F0 m 69 ls []) := by
  intro n
  induction n with
  | zero => intro σ t0 v1 v4 v5 H locs ls hh hS hl h; cases h
  | succ n ih => intro σ t0 v1 v4 v5 H locs ls hh hS hl h; exact K_X9_acknowledge_69_b X hret hlk hR ih hh hS hl h
theorem ke_X9_acknowledge_5_b {rec5 : hp → Nat → Int32 → Int32 → Int32 → Int32 → Option (hp)} {z : hp} (hm5 : ∀ (σ : hp) (t0 : Nat) (v1 : Int32) (v2 : Int32) (v3 : Int32) (v4 : Int32), rec5 σ t0 v1 v2 v3 v4 = some z → eq4 σ z) {σ : hp} {t0 : Nat} {v1 : Int32} {v2 : Int32} {v3 : Int32} {v4 : Int32} (h : S_X9_acknowledge_5_b rec5 σ t0 v1 v2 v3 v4 = some z) : eq4 σ z := by
  unfold S_X9_acknowledge_5_b at h
  obtain ⟨t8, e_t8, h⟩ := o_b h
  obtain ⟨t12, e_t12, h⟩ := o_b h
  by_cases c13 : t12 ≤ v4
  · rw [if_pos c13] at h
    by_cases c46 : v3 = (-1 : Int32)
    · rw [if_pos c46] at h
      cases h
      exact eq4.rf _
    · rw [if_neg c46] at h
      obtain ⟨t56, e_t56, h⟩ := o_b h
      obtain ⟨t61, e_t61, h⟩ := o_b h
      obtain ⟨s65, e_s65, h⟩ := o_b h
      exact ((e_stI e_s65)).tr (ke_X9_acknowledge_69 FU _ _ _ _ _ h)
  · rw [if_neg c13] at h
    obtain ⟨t17, e_t17, h⟩ := o_b h
    obtain ⟨t26, e_t26, h⟩ := o_b h
    by_cases c28 : t26 = v2
    · rw [if_pos c28] at h
      exact (ke_X9_acknowledge_37 hm5 h)
    · rw [if_neg c28] at h
      exact (ke_X9_acknowledge_37 hm5 h)
theorem ke_X9_acknowledge_5 {z : hp} : ∀ (n : Nat) (σ : hp) (t0 : Nat) (v1 : Int32) (v2 : Int32) (v3 : Int32) (v4 : Int32), S_X9_acknowledge_5 n σ t0 v1 v2 v3 v4 = some z → eq4 σ z := by
  intro n
  induction n with
  | zero => intro σ t0 v1 v2 v3 v4 h; cases h
  | succ n ih => intro σ t0 v1 v2 v3 v4 h; exact ke_X9_acknowledge_5_b ih h
set_option maxHeartbeats 4000000 in
set_option maxRecDepth 100000 in
theorem K_X9_acknowledge_5_b {p : Program} {l : Launch} {e : Env} {R : Room} {s : State} {m : MethodId} {args : Array Value} {below : List Frame} {meth : Method} {c : Code} {D : va_G} {dA : Nat → ClassId} {base : Nat} {rec5 : hp → Nat → Int32 → Int32 → Int32 → Int32 → Option (hp)} {z : hp} (X : cx p s m args c cX9_acknowledge RX9 7 D dA) (hret : meth.sig.returnType = none) (hlk : meth.locks = false) (hR : 0 ≤ R.frames ∧ 0 ≤ R.locals) (hr5 : ∀ (σ : hp) (t0 : Nat) (v1 : Int32) (v2 : Int32) (v3 : Int32) (v4 : Int32) (H : Heap) (locs : List Loc) (ls : Array Slot), hw D dA base σ H → hs base s.heap H locs → lk ls 7 [(0, .inr (some t0)), (1, .inl v1), (2, .inl v2), (3, .inl v3), (4, .inl v4)] → rec5 σ t0 v1 v2 v3 v4 = some z → W p l e R s m args below meth c H locs 0 0 (MQ below (qG D dA base none z) args s 0 0 (fun q => base ≤ q)) (F0 m 5 ls [])) {σ : hp} {t0 : Nat} {v1 : Int32} {v2 : Int32} {v3 : Int32} {v4 : Int32} {H : Heap} {locs : List Loc} {ls : Array Slot} (hh : hw D dA base σ H) (hS : hs base s.heap H locs) (hl : lk ls 7 [(0, .inr (some t0)), (1, .inl v1), (2, .inl v2), (3, .inl v3), (4, .inl v4)]) (h : S_X9_acknowledge_5_b rec5 σ t0 v1 v2 v3 v4 = some z) : W p l e R s m args below meth c H locs 0 0 (MQ below (qG D dA base none z) args s 0 0 (fun q => base ≤ q)) (F0 m 5 ls []) := by
  unfold S_X9_acknowledge_5_b at h
  refine q_iload X dX9_acknowledge_5 hl 4 rfl ?_
  refine q_aload_n X dX9_acknowledge_7 rfl hl 0 rfl ?_
  obtain ⟨t8, e_t8, h⟩ := o_b h
  refine q_gR X hh fa_X9_75 rfl e_t8 dX9_acknowledge_8 ?_
  refine q_iload_n X dX9_acknowledge_11 rfl hl 1 rfl ?_
  obtain ⟨t12, e_t12, h⟩ := o_b h
  refine q_ldI X hh e_t12 dX9_acknowledge_12 ?_
  refine lv_icmp_ge (tgt := 44) X.1 X.2.1 dX9_acknowledge_13 (by decide) (fun c13 => ?_) (fun c13 => ?_)
  · rw [if_pos c13] at h
    refine q_iload_n X dX9_acknowledge_44 rfl hl 3 rfl ?_
    refine lv_iconst (v := (-1 : Int32)) X.1 X.2.1 dX9_acknowledge_45 (by decide) ?_
    refine lv_icmp_ne (tgt := 50) X.1 X.2.1 dX9_acknowledge_46 (by decide) (fun c46 => ?_) (fun c46 => ?_)
    · rw [if_neg c46] at h
      refine q_iload_n X dX9_acknowledge_50 rfl hl 3 rfl ?_
      refine lv_iconst (v := (1 : Int32)) X.1 X.2.1 dX9_acknowledge_51 (by decide) ?_
      refine lv_iadd X.1 X.2.1 dX9_acknowledge_52 ?_
      refine q_istore (lv' := [(4, .inl (v3 + (1 : Int32))), (0, .inr (some t0)), (1, .inl v1), (2, .inl v2), (3, .inl v3)]) X dX9_acknowledge_53 hl (by decide) rfl (fun ls hl => ?_)
      refine q_aload_n X dX9_acknowledge_55 rfl hl 1 rfl ?_
      obtain ⟨t56, e_t56, h⟩ := o_b h
      refine q_gR X hh fa_X9_75 rfl e_t56 dX9_acknowledge_56 ?_
      refine q_iload_n X dX9_acknowledge_59 rfl hl 2 rfl ?_
      refine lv_dup2_11 X.1 X.2.1 dX9_acknowledge_60 (vv_cat (.inl v1)) (vv_cat (.inr t56)) ?_
      obtain ⟨t61, e_t61, h⟩ := o_b h
      refine q_ldI X hh e_t61 dX9_acknowledge_61 ?_
      refine q_iload X dX9_acknowledge_62 hl 0 rfl ?_
      refine lv_isub X.1 X.2.1 dX9_acknowledge_64 ?_
      obtain ⟨s65, e_s65, h⟩ := o_b h
      refine q_stI X hh hS e_s65 dX9_acknowledge_65 (fun H locs hh hS => ?_)
      refine lv_iconst (v := (0 : Int32)) X.1 X.2.1 dX9_acknowledge_66 (by decide) ?_
      refine q_istore (lv' := [(5, .inl (0 : Int32)), (4, .inl (v3 + (1 : Int32))), (0, .inr (some t0)), (1, .inl v1), (2, .inl v2), (3, .inl v3)]) X dX9_acknowledge_67 hl (by decide) rfl (fun ls hl => ?_)
      exact K_X9_acknowledge_69 X hret hlk hR FU _ _ _ _ _ _ _ _ hh hS (lk_sub hl [2, 3, 1, 0] rfl) h
    · rw [if_pos c46] at h
      cases h
      exact q_vret X hret hlk hh hS dX9_acknowledge_49
  · rw [if_neg c13] at h
    refine q_aload_n X dX9_acknowledge_16 rfl hl 0 rfl ?_
    obtain ⟨t17, e_t17, h⟩ := o_b h
    refine q_gR X hh fa_X9_78 rfl e_t17 dX9_acknowledge_17 ?_
    refine lv_iconst (v := (3 : Int32)) X.1 X.2.1 dX9_acknowledge_20 (by decide) ?_
    refine q_iload_n X dX9_acknowledge_21 rfl hl 1 rfl ?_
    refine lv_imul X.1 X.2.1 dX9_acknowledge_22 ?_
    refine q_iload X dX9_acknowledge_23 hl 4 rfl ?_
    refine lv_iadd X.1 X.2.1 dX9_acknowledge_25 ?_
    obtain ⟨t26, e_t26, h⟩ := o_b h
    refine q_ldI X hh e_t26 dX9_acknowledge_26 ?_
    refine q_iload_n X dX9_acknowledge_27 rfl hl 2 rfl ?_
    refine lv_icmp_ne (tgt := 36) X.1 X.2.1 dX9_acknowledge_28 (by decide) (fun c28 => ?_) (fun c28 => ?_)
    · rw [if_neg c28] at h
      refine q_iload_n X dX9_acknowledge_36 rfl hl 3 rfl ?_
      exact K_X9_acknowledge_37 X hret hlk hR hr5 hh hS (lk_sub hl [0, 1, 2, 4] rfl) h
    · rw [if_pos c28] at h
      refine q_iload X dX9_acknowledge_31 hl 4 rfl ?_
      refine lv_goto (tgt := 37) X.1 X.2.1 dX9_acknowledge_33 (by decide) ?_
      exact K_X9_acknowledge_37 X hret hlk hR hr5 hh hS (lk_sub hl [0, 1, 2, 4] rfl) h
theorem K_X9_acknowledge_5 {p : Program} {l : Launch} {e : Env} {R : Room} {s : State} {m : MethodId} {args : Array Value} {below : List Frame} {meth : Method} {c : Code} {D : va_G} {dA : Nat → ClassId} {base : Nat} {z : hp} (X : cx p s m args c cX9_acknowledge RX9 7 D dA) (hret : meth.sig.returnType = none) (hlk : meth.locks = false) (hR : 0 ≤ R.frames ∧ 0 ≤ R.locals) : ∀ (n : Nat) (σ : hp) (t0 : Nat) (v1 : Int32) (v2 : Int32) (v3 : Int32) (v4 : Int32) (H : Heap) (locs : List Loc) (ls : Array Slot), hw D dA base σ H → hs base s.heap H locs → lk ls 7 [(0, .inr (some t0)), (1, .inl v1), (2, .inl v2), (3, .inl v3), (4, .inl v4)] → S_X9_acknowledge_5 n σ t0 v1 v2 v3 v4 = some z → W p l e R s m args below meth c H locs 0 0 (MQ below (qG D dA base none z) args s 0 0 (fun q => base ≤ q)) (F0 m 5 ls []) := by
  intro n
  induction n with
  | zero => intro σ t0 v1 v2 v3 v4 H locs ls hh hS hl h; cases h
  | succ n ih => intro σ t0 v1 v2 v3 v4 H locs ls hh hS hl h; exact K_X9_acknowledge_5_b X hret hlk hR ih hh hS hl h
theorem ke_X9_acknowledge_0 {z : hp} {σ : hp} {t0 : Nat} {v1 : Int32} {v2 : Int32} (h : S_X9_acknowledge σ t0 v1 v2 = some z) : eq4 σ z := by
  unfold S_X9_acknowledge at h
  exact (ke_X9_acknowledge_5 FU _ _ _ _ _ _ h)
set_option maxHeartbeats 4000000 in
set_option maxRecDepth 100000 in
theorem K_X9_acknowledge_0 {p : Program} {l : Launch} {e : Env} {R : Room} {s : State} {m : MethodId} {args : Array Value} {below : List Frame} {meth : Method} {c : Code} {D : va_G} {dA : Nat → ClassId} {base : Nat} {z : hp} (X : cx p s m args c cX9_acknowledge RX9 7 D dA) (hret : meth.sig.returnType = none) (hlk : meth.locks = false) (hR : 0 ≤ R.frames ∧ 0 ≤ R.locals) {σ : hp} {t0 : Nat} {v1 : Int32} {v2 : Int32} {H : Heap} {locs : List Loc} {ls : Array Slot} (hh : hw D dA base σ H) (hS : hs base s.heap H locs) (hl : lk ls 7 [(0, .inr (some t0)), (1, .inl v1), (2, .inl v2)]) (h : S_X9_acknowledge σ t0 v1 v2 = some z) : W p l e R s m args below meth c H locs 0 0 (MQ below (qG D dA base none z) args s 0 0 (fun q => base ≤ q)) (F0 m 0 ls []) := by
  unfold S_X9_acknowledge at h
  refine lv_iconst (v := (-1 : Int32)) X.1 X.2.1 dX9_acknowledge_0 (by decide) ?_
  refine q_istore_n (lv' := [(3, .inl (-1 : Int32)), (0, .inr (some t0)), (1, .inl v1), (2, .inl v2)]) X dX9_acknowledge_1 rfl hl (by decide) rfl (fun ls hl => ?_)
  refine lv_iconst (v := (0 : Int32)) X.1 X.2.1 dX9_acknowledge_2 (by decide) ?_
  refine q_istore (lv' := [(4, .inl (0 : Int32)), (3, .inl (-1 : Int32)), (0, .inr (some t0)), (1, .inl v1), (2, .inl v2)]) X dX9_acknowledge_3 hl (by decide) rfl (fun ls hl => ?_)
  exact K_X9_acknowledge_5 X hret hlk hR FU _ _ _ _ _ _ _ _ _ hh hS (lk_sub hl [2, 3, 4, 1, 0] rfl) h
set_option maxRecDepth 100000 in
theorem M_X9_acknowledge (l : Launch) (D : va_G) (dA : Nat → ClassId) (base : Nat) (σ : hp) (t0 : Nat) (v1 : Int32) (v2 : Int32) {z : hp} (h : S_X9_acknowledge σ t0 v1 v2 = some z) : mt l yX9_acknowledge cX9_acknowledge 7 (none) 0 0 D dA base σ [.ref t0, .int v1, .int v2] none z 0 0 := by
  refine Met.ofW (cc := cX9_acknowledge) (maxL := 7) (ret := none) (by decide) rfl ?_
  intro p e s m args below meth c s₁ B hml hv
  obtain ⟨rfl, hh, hK⟩ := hv
  have X : cx p s m ([.ref t0, .int v1, .int v2] : List Value).toArray c cX9_acknowledge RX9 7 D dA := ⟨B.exec, B.bytes, findClass_of_methodNamed B.named, hml, fun w hw => atoms_spec (ws := .code yX9_acknowledge cX9_acknowledge 7 (none) :: G) B.pre w (List.mem_cons_of_mem _ hw), hK⟩
  have hl := lk_entry [.inr (some t0), .inl v1, .inl v2] (n := 7) (Nat.le_of_ble_eq_true rfl)
  rw [lg_entry_eq]
  have hl : lk ((lg_sl ([.ref t0, .int v1, .int v2] : List Value) ++ List.replicate (7 - (lg_sl ([.ref t0, .int v1, .int v2] : List Value)).length) Slot.unset).toArray) 7 [(0, .inr (some t0)), (1, .inl v1), (2, .inl v2)] := hl
  generalize (lg_sl ([.ref t0, .int v1, .int v2] : List Value) ++ List.replicate (7 - (lg_sl ([.ref t0, .int v1, .int v2] : List Value)).length) Slot.unset).toArray = ls at hl ⊢
  exact K_X9_acknowledge_0 X B.returns B.notSynchronized ⟨Nat.le_refl _, Nat.le_refl _⟩ hh va_S.rf hl h
theorem ke_X9_sendAgain_48 {z : hp} {σ : hp} {w0 : Option Nat} {w1 : Int32} {w2 : Int32} (h : S_X9_sendAgain_48 σ w0 w1 w2 = some z) : eq4 σ z := by
  unfold S_X9_sendAgain_48 at h
  obtain ⟨s48, e_s48, h⟩ := o_b h
  cases h
  exact (e_stI e_s48)
set_option maxHeartbeats 4000000 in
set_option maxRecDepth 100000 in
theorem K_X9_sendAgain_48 {p : Program} {l : Launch} {e : Env} {R : Room} {s : State} {m : MethodId} {args : Array Value} {below : List Frame} {meth : Method} {c : Code} {D : va_G} {dA : Nat → ClassId} {base : Nat} {z : hp} (X : cx p s m args c cX9_sendAgain RX9 3 D dA) (hret : meth.sig.returnType = none) (hlk : meth.locks = false) (hR : 4 ≤ R.frames ∧ 91 ≤ R.locals) {σ : hp} {w0 : Option Nat} {w1 : Int32} {w2 : Int32} {H : Heap} {locs : List Loc} {ls : Array Slot} (hh : hw D dA base σ H) (hS : hs base s.heap H locs) (hl : lk ls 3 []) (h : S_X9_sendAgain_48 σ w0 w1 w2 = some z) : W p l e R s m args below meth c H locs 0 0 (MQ below (qG D dA base none z) args s 0 0 (fun q => base ≤ q)) (F0 m 48 ls [.int w2, .int w1, va_rf w0]) := by
  unfold S_X9_sendAgain_48 at h
  obtain ⟨s48, e_s48, h⟩ := o_b h
  refine q_stI X hh hS e_s48 dX9_sendAgain_48 (fun H locs hh hS => ?_)
  cases h
  exact q_vret X hret hlk hh hS dX9_sendAgain_49
theorem ke_X9_sendAgain_2_b {rec2 : hp → Nat → Int32 → Int32 → Option (hp)} {z : hp} (hm2 : ∀ (σ : hp) (t0 : Nat) (v1 : Int32) (v2 : Int32), rec2 σ t0 v1 v2 = some z → eq4 σ z) {σ : hp} {t0 : Nat} {v1 : Int32} {v2 : Int32} (h : S_X9_sendAgain_2_b rec2 σ t0 v1 v2 = some z) : eq4 σ z := by
  unfold S_X9_sendAgain_2_b at h
  obtain ⟨t4, e_t4, h⟩ := o_b h
  obtain ⟨t8, e_t8, h⟩ := o_b h
  by_cases c9 : t8 ≤ v2
  · rw [if_pos c9] at h
    obtain ⟨t25, e_t25, h⟩ := o_b h
    obtain ⟨t30, e_t30, h⟩ := o_b h
    obtain ⟨t34, e_t34, h⟩ := o_b h
    by_cases c35 : t34 ≤ (0 : Int32)
    · rw [if_pos c35] at h
      obtain ⟨t43, e_t43, h⟩ := o_b h
      obtain ⟨t47, e_t47, h⟩ := o_b h
      exact (ke_X9_sendAgain_48 h)
    · rw [if_neg c35] at h
      exact (ke_X9_sendAgain_48 h)
  · rw [if_neg c9] at h
    obtain ⟨b15, e_b15, h⟩ := o_b h
    obtain ⟨q15, e_q15, h⟩ := o_b h
    exact ((ke_X9_data_0 e_q15)).tr (hm2 _ _ _ _ h)
theorem ke_X9_sendAgain_2 {z : hp} : ∀ (n : Nat) (σ : hp) (t0 : Nat) (v1 : Int32) (v2 : Int32), S_X9_sendAgain_2 n σ t0 v1 v2 = some z → eq4 σ z := by
  intro n
  induction n with
  | zero => intro σ t0 v1 v2 h; cases h
  | succ n ih => intro σ t0 v1 v2 h; exact ke_X9_sendAgain_2_b ih h
set_option maxHeartbeats 4000000 in
set_option maxRecDepth 100000 in
theorem K_X9_sendAgain_2_b {p : Program} {l : Launch} {e : Env} {R : Room} {s : State} {m : MethodId} {args : Array Value} {below : List Frame} {meth : Method} {c : Code} {D : va_G} {dA : Nat → ClassId} {base : Nat} {rec2 : hp → Nat → Int32 → Int32 → Option (hp)} {z : hp} (X : cx p s m args c cX9_sendAgain RX9 3 D dA) (hret : meth.sig.returnType = none) (hlk : meth.locks = false) (hR : 4 ≤ R.frames ∧ 91 ≤ R.locals) (hr2 : ∀ (σ : hp) (t0 : Nat) (v1 : Int32) (v2 : Int32) (H : Heap) (locs : List Loc) (ls : Array Slot), hw D dA base σ H → hs base s.heap H locs → lk ls 3 [(0, .inr (some t0)), (1, .inl v1), (2, .inl v2)] → rec2 σ t0 v1 v2 = some z → W p l e R s m args below meth c H locs 0 0 (MQ below (qG D dA base none z) args s 0 0 (fun q => base ≤ q)) (F0 m 2 ls [])) {σ : hp} {t0 : Nat} {v1 : Int32} {v2 : Int32} {H : Heap} {locs : List Loc} {ls : Array Slot} (hh : hw D dA base σ H) (hS : hs base s.heap H locs) (hl : lk ls 3 [(0, .inr (some t0)), (1, .inl v1), (2, .inl v2)]) (h : S_X9_sendAgain_2_b rec2 σ t0 v1 v2 = some z) : W p l e R s m args below meth c H locs 0 0 (MQ below (qG D dA base none z) args s 0 0 (fun q => base ≤ q)) (F0 m 2 ls []) := by
  unfold S_X9_sendAgain_2_b at h
  refine q_iload_n X dX9_sendAgain_2 rfl hl 2 rfl ?_
  refine q_aload_n X dX9_sendAgain_3 rfl hl 0 rfl ?_
  obtain ⟨t4, e_t4, h⟩ := o_b h
  refine q_gR X hh fa_X9_75 rfl e_t4 dX9_sendAgain_4 ?_
  refine q_iload_n X dX9_sendAgain_7 rfl hl 1 rfl ?_
  obtain ⟨t8, e_t8, h⟩ := o_b h
  refine q_ldI X hh e_t8 dX9_sendAgain_8 ?_
  refine lv_icmp_ge (tgt := 24) X.1 X.2.1 dX9_sendAgain_9 (by decide) (fun c9 => ?_) (fun c9 => ?_)
  · rw [if_pos c9] at h
    refine q_aload_n X dX9_sendAgain_24 rfl hl 0 rfl ?_
    obtain ⟨t25, e_t25, h⟩ := o_b h
    refine q_gR X hh fa_X9_105 rfl e_t25 dX9_sendAgain_25 ?_
    refine q_iload_n X dX9_sendAgain_28 rfl hl 1 rfl ?_
    refine q_aload_n X dX9_sendAgain_29 rfl hl 0 rfl ?_
    obtain ⟨t30, e_t30, h⟩ := o_b h
    refine q_gR X hh fa_X9_75 rfl e_t30 dX9_sendAgain_30 ?_
    refine q_iload_n X dX9_sendAgain_33 rfl hl 1 rfl ?_
    obtain ⟨t34, e_t34, h⟩ := o_b h
    refine q_ldI X hh e_t34 dX9_sendAgain_34 ?_
    refine lv_if_le (tgt := 42) X.1 X.2.1 dX9_sendAgain_35 (by decide) (fun c35 => ?_) (fun c35 => ?_)
    · rw [if_pos c35] at h
      refine q_aload_n X dX9_sendAgain_42 rfl hl 0 rfl ?_
      obtain ⟨t43, e_t43, h⟩ := o_b h
      refine q_gR X hh fa_X9_105 rfl e_t43 dX9_sendAgain_43 ?_
      refine q_iload_n X dX9_sendAgain_46 rfl hl 1 rfl ?_
      obtain ⟨t47, e_t47, h⟩ := o_b h
      refine q_ldI X hh e_t47 dX9_sendAgain_47 ?_
      exact K_X9_sendAgain_48 X hret hlk hR hh hS (lk_sub hl [] rfl) h
    · rw [if_neg c35] at h
      refine lv_iconst (v := (0 : Int32)) X.1 X.2.1 dX9_sendAgain_38 (by decide) ?_
      refine lv_goto (tgt := 48) X.1 X.2.1 dX9_sendAgain_39 (by decide) ?_
      exact K_X9_sendAgain_48 X hret hlk hR hh hS (lk_sub hl [] rfl) h
  · rw [if_neg c9] at h
    refine q_aload_n X dX9_sendAgain_12 rfl hl 0 rfl ?_
    refine q_iload_n X dX9_sendAgain_13 rfl hl 1 rfl ?_
    refine q_iload_n X dX9_sendAgain_14 rfl hl 2 rfl ?_
    obtain ⟨b15, e_b15, h⟩ := o_b h
    obtain ⟨q15, e_q15, h⟩ := o_b h
    refine q_cV (As := [.int v1, .int v2]) X hh hS hl cf_X9_145 (cN := 9) rfl rfl e_b15 rfl (M_X9_data l D dA base σ b15 v1 v2 e_q15) ⟨Nat.le_trans (by decide) hR.1, Nat.le_trans (by decide) hR.2⟩ (cat8 [] (Nat.le_of_ble_eq_true rfl)) dX9_sendAgain_15 ⟨Nat.zero_le _, Nat.zero_le _⟩ rfl rfl (fun H locs hh hS => ?_)
    refine q_iinc (v := (1 : Int32)) (lv' := [(2, .inl (v2 + (1 : Int32))), (0, .inr (some t0)), (1, .inl v1)]) X dX9_sendAgain_18 hl 2 rfl (by decide) (by decide) rfl (fun ls hl => ?_)
    refine lv_goto (tgt := 2) X.1 X.2.1 dX9_sendAgain_21 (by decide) ?_
    exact hr2 _ _ _ _ _ _ _ hh hS (lk_sub hl [1, 2, 0] rfl) h
theorem K_X9_sendAgain_2 {p : Program} {l : Launch} {e : Env} {R : Room} {s : State} {m : MethodId} {args : Array Value} {below : List Frame} {meth : Method} {c : Code} {D : va_G} {dA : Nat → ClassId} {base : Nat} {z : hp} (X : cx p s m args c cX9_sendAgain RX9 3 D dA) (hret : meth.sig.returnType = none) (hlk : meth.locks = false) (hR : 4 ≤ R.frames ∧ 91 ≤ R.locals) : ∀ (n : Nat) (σ : hp) (t0 : Nat) (v1 : Int32) (v2 : Int32) (H : Heap) (locs : List Loc) (ls : Array Slot), hw D dA base σ H → hs base s.heap H locs → lk ls 3 [(0, .inr (some t0)), (1, .inl v1), (2, .inl v2)] → S_X9_sendAgain_2 n σ t0 v1 v2 = some z → W p l e R s m args below meth c H locs 0 0 (MQ below (qG D dA base none z) args s 0 0 (fun q => base ≤ q)) (F0 m 2 ls []) := by
  intro n
  induction n with
  | zero => intro σ t0 v1 v2 H locs ls hh hS hl h; cases h
  | succ n ih => intro σ t0 v1 v2 H locs ls hh hS hl h; exact K_X9_sendAgain_2_b X hret hlk hR ih hh hS hl h
theorem ke_X9_sendAgain_0 {z : hp} {σ : hp} {t0 : Nat} {v1 : Int32} (h : S_X9_sendAgain σ t0 v1 = some z) : eq4 σ z := by
  unfold S_X9_sendAgain at h
  exact (ke_X9_sendAgain_2 FU _ _ _ _ h)
set_option maxHeartbeats 4000000 in
set_option maxRecDepth 100000 in
theorem K_X9_sendAgain_0 {p : Program} {l : Launch} {e : Env} {R : Room} {s : State} {m : MethodId} {args : Array Value} {below : List Frame} {meth : Method} {c : Code} {D : va_G} {dA : Nat → ClassId} {base : Nat} {z : hp} (X : cx p s m args c cX9_sendAgain RX9 3 D dA) (hret : meth.sig.returnType = none) (hlk : meth.locks = false) (hR : 4 ≤ R.frames ∧ 91 ≤ R.locals) {σ : hp} {t0 : Nat} {v1 : Int32} {H : Heap} {locs : List Loc} {ls : Array Slot} (hh : hw D dA base σ H) (hS : hs base s.heap H locs) (hl : lk ls 3 [(0, .inr (some t0)), (1, .inl v1)]) (h : S_X9_sendAgain σ t0 v1 = some z) : W p l e R s m args below meth c H locs 0 0 (MQ below (qG D dA base none z) args s 0 0 (fun q => base ≤ q)) (F0 m 0 ls []) := by
  unfold S_X9_sendAgain at h
  refine lv_iconst (v := (0 : Int32)) X.1 X.2.1 dX9_sendAgain_0 (by decide) ?_
  refine q_istore_n (lv' := [(2, .inl (0 : Int32)), (0, .inr (some t0)), (1, .inl v1)]) X dX9_sendAgain_1 rfl hl (by decide) rfl (fun ls hl => ?_)
  exact K_X9_sendAgain_2 X hret hlk hR FU _ _ _ _ _ _ _ hh hS (lk_sub hl [1, 2, 0] rfl) h
set_option maxRecDepth 100000 in
theorem M_X9_sendAgain (l : Launch) (D : va_G) (dA : Nat → ClassId) (base : Nat) (σ : hp) (t0 : Nat) (v1 : Int32) {z : hp} (h : S_X9_sendAgain σ t0 v1 = some z) : mt l yX9_sendAgain cX9_sendAgain 3 (none) 4 91 D dA base σ [.ref t0, .int v1] none z 0 0 := by
  refine Met.ofW (cc := cX9_sendAgain) (maxL := 3) (ret := none) (by decide) rfl ?_
  intro p e s m args below meth c s₁ B hml hv
  obtain ⟨rfl, hh, hK⟩ := hv
  have X : cx p s m ([.ref t0, .int v1] : List Value).toArray c cX9_sendAgain RX9 3 D dA := ⟨B.exec, B.bytes, findClass_of_methodNamed B.named, hml, fun w hw => atoms_spec (ws := .code yX9_sendAgain cX9_sendAgain 3 (none) :: G) B.pre w (List.mem_cons_of_mem _ hw), hK⟩
  have hl := lk_entry [.inr (some t0), .inl v1] (n := 3) (Nat.le_of_ble_eq_true rfl)
  rw [lg_entry_eq]
  have hl : lk ((lg_sl ([.ref t0, .int v1] : List Value) ++ List.replicate (3 - (lg_sl ([.ref t0, .int v1] : List Value)).length) Slot.unset).toArray) 3 [(0, .inr (some t0)), (1, .inl v1)] := hl
  generalize (lg_sl ([.ref t0, .int v1] : List Value) ++ List.replicate (3 - (lg_sl ([.ref t0, .int v1] : List Value)).length) Slot.unset).toArray = ls at hl ⊢
  exact K_X9_sendAgain_0 X B.returns B.notSynchronized ⟨Nat.le_refl _, Nat.le_refl _⟩ hh va_S.rf hl h
theorem ke_X9_offered_61 {z : hp} {σ : hp} (h : S_X9_offered_61 σ = some z) : eq4 σ z := by
  unfold S_X9_offered_61 at h
  cases h
  exact eq4.rf _
set_option maxHeartbeats 4000000 in
set_option maxRecDepth 100000 in
theorem K_X9_offered_61 {p : Program} {l : Launch} {e : Env} {R : Room} {s : State} {m : MethodId} {args : Array Value} {below : List Frame} {meth : Method} {c : Code} {D : va_G} {dA : Nat → ClassId} {base : Nat} {z : hp} (X : cx p s m args c cX9_offered RX9 4 D dA) (hret : meth.sig.returnType = none) (hlk : meth.locks = false) (hR : 8 ≤ R.frames ∧ 180 ≤ R.locals) {σ : hp} {H : Heap} {locs : List Loc} {ls : Array Slot} (hh : hw D dA base σ H) (hS : hs base s.heap H locs) (hl : lk ls 4 []) (h : S_X9_offered_61 σ = some z) : W p l e R s m args below meth c H locs 0 0 (MQ below (qG D dA base none z) args s 0 0 (fun q => base ≤ q)) (F0 m 61 ls []) := by
  unfold S_X9_offered_61 at h
  cases h
  exact q_vret X hret hlk hh hS dX9_offered_61
theorem ke_X9_offered_0 {z : hp} {σ : hp} {t0 : Nat} {v1 : Int32} {v2 : Int32} {v3 : Int32} (h : S_X9_offered σ t0 v1 v2 v3 = some z) : eq4 σ z := by
  unfold S_X9_offered at h
  obtain ⟨b3, e_b3, h⟩ := o_b h
  obtain ⟨q3, e_q3, h⟩ := o_b h
  by_cases c6 : q3 = (0 : Int32)
  · rw [if_pos c6] at h
    obtain ⟨b21, e_b21, h⟩ := o_b h
    obtain ⟨q21, e_q21, h⟩ := o_b h
    obtain ⟨t25, e_t25, h⟩ := o_b h
    obtain ⟨z30, e_z30, h⟩ := o_b h
    obtain ⟨s30, e_s30, h⟩ := o_b h
    obtain ⟨t32, e_t32, h⟩ := o_b h
    obtain ⟨s37, e_s37, h⟩ := o_b h
    obtain ⟨t39, e_t39, h⟩ := o_b h
    obtain ⟨s44, e_s44, h⟩ := o_b h
    obtain ⟨t46, e_t46, h⟩ := o_b h
    obtain ⟨s51, e_s51, h⟩ := o_b h
    by_cases c53 : v3 = (0 : Int32)
    · rw [if_pos c53] at h
      obtain ⟨b58, e_b58, h⟩ := o_b h
      obtain ⟨q58, e_q58, h⟩ := o_b h
      exact (((((((ke_X9_say_0 e_q21)).tr (e_stI e_s30)).tr (e_stI e_s37)).tr (e_stI e_s44)).tr (e_stI e_s51)).tr (ke_X9_execute_0 e_q58)).tr (ke_X9_offered_61 h)
    · rw [if_neg c53] at h
      exact ((((((ke_X9_say_0 e_q21)).tr (e_stI e_s30)).tr (e_stI e_s37)).tr (e_stI e_s44)).tr (e_stI e_s51)).tr (ke_X9_offered_61 h)
  · rw [if_neg c6] at h
    obtain ⟨b13, e_b13, h⟩ := o_b h
    obtain ⟨q13, e_q13, h⟩ := o_b h
    cases h
    exact (ke_X9_say_0 e_q13)
set_option maxHeartbeats 4000000 in
set_option maxRecDepth 100000 in
theorem K_X9_offered_0 {p : Program} {l : Launch} {e : Env} {R : Room} {s : State} {m : MethodId} {args : Array Value} {below : List Frame} {meth : Method} {c : Code} {D : va_G} {dA : Nat → ClassId} {base : Nat} {z : hp} (X : cx p s m args c cX9_offered RX9 4 D dA) (hret : meth.sig.returnType = none) (hlk : meth.locks = false) (hR : 8 ≤ R.frames ∧ 180 ≤ R.locals) {σ : hp} {t0 : Nat} {v1 : Int32} {v2 : Int32} {v3 : Int32} {H : Heap} {locs : List Loc} {ls : Array Slot} (hh : hw D dA base σ H) (hS : hs base s.heap H locs) (hl : lk ls 4 [(0, .inr (some t0)), (1, .inl v1), (2, .inl v2), (3, .inl v3)]) (h : S_X9_offered σ t0 v1 v2 v3 = some z) : W p l e R s m args below meth c H locs 0 0 (MQ below (qG D dA base none z) args s 0 0 (fun q => base ≤ q)) (F0 m 0 ls []) := by
  unfold S_X9_offered at h
  refine q_aload_n X dX9_offered_0 rfl hl 0 rfl ?_
  refine q_iload_n X dX9_offered_1 rfl hl 1 rfl ?_
  refine q_iload_n X dX9_offered_2 rfl hl 2 rfl ?_
  obtain ⟨b3, e_b3, h⟩ := o_b h
  obtain ⟨q3, e_q3, h⟩ := o_b h
  refine q_cV (As := [.int v1, .int v2]) X hh hS hl cf_X9_185 (cN := 9) rfl rfl e_b3 rfl (M_X9_isExecuted l D dA base σ b3 v1 v2 e_q3) ⟨Nat.le_trans (by decide) hR.1, Nat.le_trans (by decide) hR.2⟩ (cat8 [] (Nat.le_of_ble_eq_true rfl)) dX9_offered_3 ⟨Nat.zero_le _, Nat.zero_le _⟩ rfl rfl (fun H locs hh hS => ?_)
  refine lv_if_eq (tgt := 17) X.1 X.2.1 dX9_offered_6 (by decide) (fun c6 => ?_) (fun c6 => ?_)
  · rw [if_pos c6] at h
    refine q_aload_n X dX9_offered_17 rfl hl 0 rfl ?_
    refine q_iload_n X dX9_offered_18 rfl hl 1 rfl ?_
    refine lv_bipush (v := (89 : Int32)) X.1 X.2.1 dX9_offered_19 (by decide) ?_
    obtain ⟨b21, e_b21, h⟩ := o_b h
    obtain ⟨q21, e_q21, h⟩ := o_b h
    refine q_cV (As := [.int v1, .int (89 : Int32)]) X hh hS hl cf_X9_157 (cN := 9) rfl rfl e_b21 rfl (M_X9_say l D dA base σ b21 v1 (89 : Int32) e_q21) ⟨Nat.le_trans (by decide) hR.1, Nat.le_trans (by decide) hR.2⟩ (cat8 [] (Nat.le_of_ble_eq_true rfl)) dX9_offered_21 ⟨Nat.zero_le _, Nat.zero_le _⟩ rfl rfl (fun H locs hh hS => ?_)
    refine q_aload_n X dX9_offered_24 rfl hl 0 rfl ?_
    obtain ⟨t25, e_t25, h⟩ := o_b h
    refine q_gR X hh fa_X9_90 rfl e_t25 dX9_offered_25 ?_
    refine q_iload_n X dX9_offered_28 rfl hl 1 rfl ?_
    refine lv_iconst (v := (1 : Int32)) X.1 X.2.1 dX9_offered_29 (by decide) ?_
    obtain ⟨z30, e_z30, h⟩ := o_b h
    obtain ⟨s30, e_s30, h⟩ := o_b h
    refine q_stZ X hh hS e_z30 e_s30 dX9_offered_30 (fun H locs hh hS => ?_)
    refine q_aload_n X dX9_offered_31 rfl hl 0 rfl ?_
    obtain ⟨t32, e_t32, h⟩ := o_b h
    refine q_gR X hh fa_X9_93 rfl e_t32 dX9_offered_32 ?_
    refine q_iload_n X dX9_offered_35 rfl hl 1 rfl ?_
    refine q_iload_n X dX9_offered_36 rfl hl 2 rfl ?_
    obtain ⟨s37, e_s37, h⟩ := o_b h
    refine q_stI X hh hS e_s37 dX9_offered_37 (fun H locs hh hS => ?_)
    refine q_aload_n X dX9_offered_38 rfl hl 0 rfl ?_
    obtain ⟨t39, e_t39, h⟩ := o_b h
    refine q_gR X hh fa_X9_96 rfl e_t39 dX9_offered_39 ?_
    refine q_iload_n X dX9_offered_42 rfl hl 1 rfl ?_
    refine q_iload_n X dX9_offered_43 rfl hl 3 rfl ?_
    obtain ⟨s44, e_s44, h⟩ := o_b h
    refine q_stI X hh hS e_s44 dX9_offered_44 (fun H locs hh hS => ?_)
    refine q_aload_n X dX9_offered_45 rfl hl 0 rfl ?_
    obtain ⟨t46, e_t46, h⟩ := o_b h
    refine q_gR X hh fa_X9_99 rfl e_t46 dX9_offered_46 ?_
    refine q_iload_n X dX9_offered_49 rfl hl 1 rfl ?_
    refine lv_iconst (v := (0 : Int32)) X.1 X.2.1 dX9_offered_50 (by decide) ?_
    obtain ⟨s51, e_s51, h⟩ := o_b h
    refine q_stI X hh hS e_s51 dX9_offered_51 (fun H locs hh hS => ?_)
    refine q_iload_n X dX9_offered_52 rfl hl 3 rfl ?_
    refine lv_if_ne (tgt := 61) X.1 X.2.1 dX9_offered_53 (by decide) (fun c53 => ?_) (fun c53 => ?_)
    · rw [if_neg c53] at h
      exact K_X9_offered_61 X hret hlk hR hh hS (lk_sub hl [] rfl) h
    · rw [if_pos c53] at h
      refine q_aload_n X dX9_offered_56 rfl hl 0 rfl ?_
      refine q_iload_n X dX9_offered_57 rfl hl 1 rfl ?_
      obtain ⟨b58, e_b58, h⟩ := o_b h
      obtain ⟨q58, e_q58, h⟩ := o_b h
      refine q_cV (As := [.int v1]) X hh hS hl cf_X9_182 (cN := 9) rfl rfl e_b58 rfl (M_X9_execute l D dA base s51 b58 v1 e_q58) ⟨Nat.le_trans (by decide) hR.1, Nat.le_trans (by decide) hR.2⟩ (cat8 [] (Nat.le_of_ble_eq_true rfl)) dX9_offered_58 ⟨Nat.zero_le _, Nat.zero_le _⟩ rfl rfl (fun H locs hh hS => ?_)
      exact K_X9_offered_61 X hret hlk hR hh hS (lk_sub hl [] rfl) h
  · rw [if_neg c6] at h
    refine q_aload_n X dX9_offered_9 rfl hl 0 rfl ?_
    refine q_iload_n X dX9_offered_10 rfl hl 1 rfl ?_
    refine lv_bipush (v := (78 : Int32)) X.1 X.2.1 dX9_offered_11 (by decide) ?_
    obtain ⟨b13, e_b13, h⟩ := o_b h
    obtain ⟨q13, e_q13, h⟩ := o_b h
    refine q_cV (As := [.int v1, .int (78 : Int32)]) X hh hS hl cf_X9_157 (cN := 9) rfl rfl e_b13 rfl (M_X9_say l D dA base σ b13 v1 (78 : Int32) e_q13) ⟨Nat.le_trans (by decide) hR.1, Nat.le_trans (by decide) hR.2⟩ (cat8 [] (Nat.le_of_ble_eq_true rfl)) dX9_offered_13 ⟨Nat.zero_le _, Nat.zero_le _⟩ rfl rfl (fun H locs hh hS => ?_)
    cases h
    exact q_vret X hret hlk hh hS dX9_offered_16
set_option maxRecDepth 100000 in
theorem M_X9_offered (l : Launch) (D : va_G) (dA : Nat → ClassId) (base : Nat) (σ : hp) (t0 : Nat) (v1 : Int32) (v2 : Int32) (v3 : Int32) {z : hp} (h : S_X9_offered σ t0 v1 v2 v3 = some z) : mt l yX9_offered cX9_offered 4 (none) 8 180 D dA base σ [.ref t0, .int v1, .int v2, .int v3] none z 0 0 := by
  refine Met.ofW (cc := cX9_offered) (maxL := 4) (ret := none) (by decide) rfl ?_
  intro p e s m args below meth c s₁ B hml hv
  obtain ⟨rfl, hh, hK⟩ := hv
  have X : cx p s m ([.ref t0, .int v1, .int v2, .int v3] : List Value).toArray c cX9_offered RX9 4 D dA := ⟨B.exec, B.bytes, findClass_of_methodNamed B.named, hml, fun w hw => atoms_spec (ws := .code yX9_offered cX9_offered 4 (none) :: G) B.pre w (List.mem_cons_of_mem _ hw), hK⟩
  have hl := lk_entry [.inr (some t0), .inl v1, .inl v2, .inl v3] (n := 4) (Nat.le_of_ble_eq_true rfl)
  rw [lg_entry_eq]
  have hl : lk ((lg_sl ([.ref t0, .int v1, .int v2, .int v3] : List Value) ++ List.replicate (4 - (lg_sl ([.ref t0, .int v1, .int v2, .int v3] : List Value)).length) Slot.unset).toArray) 4 [(0, .inr (some t0)), (1, .inl v1), (2, .inl v2), (3, .inl v3)] := hl
  generalize (lg_sl ([.ref t0, .int v1, .int v2, .int v3] : List Value) ++ List.replicate (4 - (lg_sl ([.ref t0, .int v1, .int v2, .int v3] : List Value)).length) Slot.unset).toArray = ls at hl ⊢
  exact K_X9_offered_0 X B.returns B.notSynchronized ⟨Nat.le_refl _, Nat.le_refl _⟩ hh va_S.rf hl h
theorem ke_X9_done_49 {z : hp} {σ : hp} (h : S_X9_done_49 σ = some z) : eq4 σ z := by
  unfold S_X9_done_49 at h
  cases h
  exact eq4.rf _
set_option maxHeartbeats 4000000 in
set_option maxRecDepth 100000 in
theorem K_X9_done_49 {p : Program} {l : Launch} {e : Env} {R : Room} {s : State} {m : MethodId} {args : Array Value} {below : List Frame} {meth : Method} {c : Code} {D : va_G} {dA : Nat → ClassId} {base : Nat} {z : hp} (X : cx p s m args c cX9_done RX9 5 D dA) (hret : meth.sig.returnType = none) (hlk : meth.locks = false) (hR : 9 ≤ R.frames ∧ 203 ≤ R.locals) {σ : hp} {H : Heap} {locs : List Loc} {ls : Array Slot} (hh : hw D dA base σ H) (hS : hs base s.heap H locs) (hl : lk ls 5 []) (h : S_X9_done_49 σ = some z) : W p l e R s m args below meth c H locs 0 0 (MQ below (qG D dA base none z) args s 0 0 (fun q => base ≤ q)) (F0 m 49 ls []) := by
  unfold S_X9_done_49 at h
  cases h
  exact q_vret X hret hlk hh hS dX9_done_49
theorem ke_X9_done_147 {z : hp} {σ : hp} (h : S_X9_done_147 σ = some z) : eq4 σ z := by
  unfold S_X9_done_147 at h
  cases h
  exact eq4.rf _
set_option maxHeartbeats 4000000 in
set_option maxRecDepth 100000 in
theorem K_X9_done_147 {p : Program} {l : Launch} {e : Env} {R : Room} {s : State} {m : MethodId} {args : Array Value} {below : List Frame} {meth : Method} {c : Code} {D : va_G} {dA : Nat → ClassId} {base : Nat} {z : hp} (X : cx p s m args c cX9_done RX9 5 D dA) (hret : meth.sig.returnType = none) (hlk : meth.locks = false) (hR : 9 ≤ R.frames ∧ 203 ≤ R.locals) {σ : hp} {H : Heap} {locs : List Loc} {ls : Array Slot} (hh : hw D dA base σ H) (hS : hs base s.heap H locs) (hl : lk ls 5 []) (h : S_X9_done_147 σ = some z) : W p l e R s m args below meth c H locs 0 0 (MQ below (qG D dA base none z) args s 0 0 (fun q => base ≤ q)) (F0 m 147 ls []) := by
  unfold S_X9_done_147 at h
  cases h
  exact q_vret X hret hlk hh hS dX9_done_147
theorem ke_X9_done_100 {z : hp} {σ : hp} {t0 : Nat} {v1 : Int32} (h : S_X9_done_100 σ t0 v1 = some z) : eq4 σ z := by
  unfold S_X9_done_100 at h
  obtain ⟨b102, e_b102, h⟩ := o_b h
  obtain ⟨q102, e_q102, h⟩ := o_b h
  obtain ⟨b107, e_b107, h⟩ := o_b h
  obtain ⟨q107, e_q107, h⟩ := o_b h
  exact (((ke_X9_leave_0 e_q102)).tr (ke_X9_goOn_0 e_q107)).tr (ke_X9_done_147 h)
set_option maxHeartbeats 4000000 in
set_option maxRecDepth 100000 in
theorem K_X9_done_100 {p : Program} {l : Launch} {e : Env} {R : Room} {s : State} {m : MethodId} {args : Array Value} {below : List Frame} {meth : Method} {c : Code} {D : va_G} {dA : Nat → ClassId} {base : Nat} {z : hp} (X : cx p s m args c cX9_done RX9 5 D dA) (hret : meth.sig.returnType = none) (hlk : meth.locks = false) (hR : 9 ≤ R.frames ∧ 203 ≤ R.locals) {σ : hp} {t0 : Nat} {v1 : Int32} {H : Heap} {locs : List Loc} {ls : Array Slot} (hh : hw D dA base σ H) (hS : hs base s.heap H locs) (hl : lk ls 5 [(0, .inr (some t0)), (1, .inl v1)]) (h : S_X9_done_100 σ t0 v1 = some z) : W p l e R s m args below meth c H locs 0 0 (MQ below (qG D dA base none z) args s 0 0 (fun q => base ≤ q)) (F0 m 100 ls []) := by
  unfold S_X9_done_100 at h
  refine q_aload_n X dX9_done_100 rfl hl 0 rfl ?_
  refine q_iload_n X dX9_done_101 rfl hl 1 rfl ?_
  obtain ⟨b102, e_b102, h⟩ := o_b h
  obtain ⟨q102, e_q102, h⟩ := o_b h
  refine q_cV (As := [.int v1]) X hh hS hl cf_X9_163 (cN := 9) rfl rfl e_b102 rfl (M_X9_leave l D dA base σ b102 v1 e_q102) ⟨Nat.le_trans (by decide) hR.1, Nat.le_trans (by decide) hR.2⟩ (cat8 [] (Nat.le_of_ble_eq_true rfl)) dX9_done_102 ⟨Nat.zero_le _, Nat.zero_le _⟩ rfl rfl (fun H locs hh hS => ?_)
  refine q_aload_n X dX9_done_105 rfl hl 0 rfl ?_
  refine q_iload_n X dX9_done_106 rfl hl 1 rfl ?_
  obtain ⟨b107, e_b107, h⟩ := o_b h
  obtain ⟨q107, e_q107, h⟩ := o_b h
  refine q_cV (As := [.int v1]) X hh hS hl cf_X9_166 (cN := 9) rfl rfl e_b107 rfl (M_X9_goOn l D dA base q102 b107 v1 e_q107) ⟨Nat.le_trans (by decide) hR.1, Nat.le_trans (by decide) hR.2⟩ (cat8 [] (Nat.le_of_ble_eq_true rfl)) dX9_done_107 ⟨Nat.zero_le _, Nat.zero_le _⟩ rfl rfl (fun H locs hh hS => ?_)
  refine lv_goto (tgt := 147) X.1 X.2.1 dX9_done_110 (by decide) ?_
  exact K_X9_done_147 X hret hlk hR hh hS (lk_sub hl [] rfl) h
theorem ke_X9_done_50 {z : hp} {σ : hp} {t0 : Nat} {v1 : Int32} {v3 : Int32} (h : S_X9_done_50 σ t0 v1 v3 = some z) : eq4 σ z := by
  unfold S_X9_done_50 at h
  by_cases c51_67 : v3 = (67 : Int32)
  · rw [if_pos c51_67] at h
    exact (ke_X9_done_100 h)
  · rw [if_neg c51_67] at h
    by_cases c51_72 : v3 = (72 : Int32)
    · rw [if_pos c51_72] at h
      obtain ⟨b125, e_b125, h⟩ := o_b h
      obtain ⟨q125, e_q125, h⟩ := o_b h
      obtain ⟨b131, e_b131, h⟩ := o_b h
      obtain ⟨q131, e_q131, h⟩ := o_b h
      exact (((ke_X9_control_0 e_q125)).tr (ke_X9_forget_0 e_q131)).tr (ke_X9_done_147 h)
    · rw [if_neg c51_72] at h
      by_cases c51_78 : v3 = (78 : Int32)
      · rw [if_pos c51_78] at h
        exact (ke_X9_done_100 h)
      · rw [if_neg c51_78] at h
        by_cases c51_84 : v3 = (84 : Int32)
        · rw [if_pos c51_84] at h
          obtain ⟨t138, e_t138, h⟩ := o_b h
          obtain ⟨z143, e_z143, h⟩ := o_b h
          obtain ⟨s143, e_s143, h⟩ := o_b h
          exact ((e_stI e_s143)).tr (ke_X9_done_147 h)
        · rw [if_neg c51_84] at h
          by_cases c51_89 : v3 = (89 : Int32)
          · rw [if_pos c51_89] at h
            obtain ⟨b115, e_b115, h⟩ := o_b h
            obtain ⟨q115, e_q115, h⟩ := o_b h
            exact ((ke_X9_sendFile_0 e_q115)).tr (ke_X9_done_147 h)
          · rw [if_neg c51_89] at h
            exact (ke_X9_done_147 h)
set_option maxHeartbeats 4000000 in
set_option maxRecDepth 100000 in
theorem K_X9_done_50 {p : Program} {l : Launch} {e : Env} {R : Room} {s : State} {m : MethodId} {args : Array Value} {below : List Frame} {meth : Method} {c : Code} {D : va_G} {dA : Nat → ClassId} {base : Nat} {z : hp} (X : cx p s m args c cX9_done RX9 5 D dA) (hret : meth.sig.returnType = none) (hlk : meth.locks = false) (hR : 9 ≤ R.frames ∧ 203 ≤ R.locals) {σ : hp} {t0 : Nat} {v1 : Int32} {v3 : Int32} {H : Heap} {locs : List Loc} {ls : Array Slot} (hh : hw D dA base σ H) (hS : hs base s.heap H locs) (hl : lk ls 5 [(0, .inr (some t0)), (1, .inl v1), (3, .inl v3)]) (h : S_X9_done_50 σ t0 v1 v3 = some z) : W p l e R s m args below meth c H locs 0 0 (MQ below (qG D dA base none z) args s 0 0 (fun q => base ≤ q)) (F0 m 50 ls []) := by
  unfold S_X9_done_50 at h
  refine q_iload_n X dX9_done_50 rfl hl 2 rfl ?_
  by_cases c51_67 : v3 = (67 : Int32)
  · rw [if_pos c51_67] at h
    refine q_lin (tgt := 100) X dX9_done_51 c51_67 (by decide) rfl (by decide) ?_
    exact K_X9_done_100 X hret hlk hR hh hS (lk_sub hl [0, 1] rfl) h
  · rw [if_neg c51_67] at h
    by_cases c51_72 : v3 = (72 : Int32)
    · rw [if_pos c51_72] at h
      refine q_lin (tgt := 121) X dX9_done_51 c51_72 (by decide) rfl (by decide) ?_
      refine q_aload_n X dX9_done_121 rfl hl 0 rfl ?_
      refine q_iload_n X dX9_done_122 rfl hl 1 rfl ?_
      refine lv_iconst (v := (1 : Int32)) X.1 X.2.1 dX9_done_123 (by decide) ?_
      refine lv_iconst (v := (0 : Int32)) X.1 X.2.1 dX9_done_124 (by decide) ?_
      obtain ⟨b125, e_b125, h⟩ := o_b h
      obtain ⟨q125, e_q125, h⟩ := o_b h
      refine q_cV (As := [.int v1, .int (1 : Int32), .int (0 : Int32)]) X hh hS hl cf_X9_172 (cN := 9) rfl rfl e_b125 rfl (M_X9_control l D dA base σ b125 v1 (1 : Int32) (0 : Int32) e_q125) ⟨Nat.le_trans (by decide) hR.1, Nat.le_trans (by decide) hR.2⟩ (cat8 [] (Nat.le_of_ble_eq_true rfl)) dX9_done_125 ⟨Nat.zero_le _, Nat.zero_le _⟩ rfl rfl (fun H locs hh hS => ?_)
      refine q_aload_n X dX9_done_128 rfl hl 0 rfl ?_
      refine q_iload_n X dX9_done_129 rfl hl 1 rfl ?_
      refine lv_iconst (v := (0 : Int32)) X.1 X.2.1 dX9_done_130 (by decide) ?_
      obtain ⟨b131, e_b131, h⟩ := o_b h
      obtain ⟨q131, e_q131, h⟩ := o_b h
      refine q_cV (As := [.int v1, .int (0 : Int32)]) X hh hS hl cf_X9_176 (cN := 9) rfl rfl e_b131 rfl (M_X9_forget l D dA base q125 b131 v1 (0 : Int32) e_q131) ⟨Nat.le_trans (by decide) hR.1, Nat.le_trans (by decide) hR.2⟩ (cat8 [] (Nat.le_of_ble_eq_true rfl)) dX9_done_131 ⟨Nat.zero_le _, Nat.zero_le _⟩ rfl rfl (fun H locs hh hS => ?_)
      refine lv_goto (tgt := 147) X.1 X.2.1 dX9_done_134 (by decide) ?_
      exact K_X9_done_147 X hret hlk hR hh hS (lk_sub hl [] rfl) h
    · rw [if_neg c51_72] at h
      by_cases c51_78 : v3 = (78 : Int32)
      · rw [if_pos c51_78] at h
        refine q_lin (tgt := 100) X dX9_done_51 c51_78 (by decide) rfl (by decide) ?_
        exact K_X9_done_100 X hret hlk hR hh hS (lk_sub hl [0, 1] rfl) h
      · rw [if_neg c51_78] at h
        by_cases c51_84 : v3 = (84 : Int32)
        · rw [if_pos c51_84] at h
          refine q_lin (tgt := 137) X dX9_done_51 c51_84 (by decide) rfl (by decide) ?_
          refine q_aload_n X dX9_done_137 rfl hl 0 rfl ?_
          obtain ⟨t138, e_t138, h⟩ := o_b h
          refine q_gR X hh fa_X9_59 rfl e_t138 dX9_done_138 ?_
          refine q_iload_n X dX9_done_141 rfl hl 1 rfl ?_
          refine lv_iconst (v := (0 : Int32)) X.1 X.2.1 dX9_done_142 (by decide) ?_
          obtain ⟨z143, e_z143, h⟩ := o_b h
          obtain ⟨s143, e_s143, h⟩ := o_b h
          refine q_stZ X hh hS e_z143 e_s143 dX9_done_143 (fun H locs hh hS => ?_)
          refine lv_goto (tgt := 147) X.1 X.2.1 dX9_done_144 (by decide) ?_
          exact K_X9_done_147 X hret hlk hR hh hS (lk_sub hl [] rfl) h
        · rw [if_neg c51_84] at h
          by_cases c51_89 : v3 = (89 : Int32)
          · rw [if_pos c51_89] at h
            refine q_lin (tgt := 113) X dX9_done_51 c51_89 (by decide) rfl (by decide) ?_
            refine q_aload_n X dX9_done_113 rfl hl 0 rfl ?_
            refine q_iload_n X dX9_done_114 rfl hl 1 rfl ?_
            obtain ⟨b115, e_b115, h⟩ := o_b h
            obtain ⟨q115, e_q115, h⟩ := o_b h
            refine q_cV (As := [.int v1]) X hh hS hl cf_X9_169 (cN := 9) rfl rfl e_b115 rfl (M_X9_sendFile l D dA base σ b115 v1 e_q115) ⟨Nat.le_trans (by decide) hR.1, Nat.le_trans (by decide) hR.2⟩ (cat8 [] (Nat.le_of_ble_eq_true rfl)) dX9_done_115 ⟨Nat.zero_le _, Nat.zero_le _⟩ rfl rfl (fun H locs hh hS => ?_)
            refine lv_goto (tgt := 147) X.1 X.2.1 dX9_done_118 (by decide) ?_
            exact K_X9_done_147 X hret hlk hR hh hS (lk_sub hl [] rfl) h
          · rw [if_neg c51_89] at h
            refine lv_lookup (tgt := 147) X.1 X.2.1 dX9_done_51 (by decide) (by show Op.lookupswitch.offset [(67, 49), (72, 70), (78, 49), (84, 86), (89, 62)] 96 _ = 96; rw [lv_osw c51_67 (by decide), lv_osw c51_72 (by decide), lv_osw c51_78 (by decide), lv_osw c51_84 (by decide), lv_osw c51_89 (by decide)]; rfl) (by decide) ?_
            exact K_X9_done_147 X hret hlk hR hh hS (lk_sub hl [] rfl) h
theorem ke_X9_done_345 {z : hp} {σ : hp} (h : S_X9_done_345 σ = some z) : eq4 σ z := by
  unfold S_X9_done_345 at h
  cases h
  exact eq4.rf _
set_option maxHeartbeats 4000000 in
set_option maxRecDepth 100000 in
theorem K_X9_done_345 {p : Program} {l : Launch} {e : Env} {R : Room} {s : State} {m : MethodId} {args : Array Value} {below : List Frame} {meth : Method} {c : Code} {D : va_G} {dA : Nat → ClassId} {base : Nat} {z : hp} (X : cx p s m args c cX9_done RX9 5 D dA) (hret : meth.sig.returnType = none) (hlk : meth.locks = false) (hR : 9 ≤ R.frames ∧ 203 ≤ R.locals) {σ : hp} {H : Heap} {locs : List Loc} {ls : Array Slot} (hh : hw D dA base σ H) (hS : hs base s.heap H locs) (hl : lk ls 5 []) (h : S_X9_done_345 σ = some z) : W p l e R s m args below meth c H locs 0 0 (MQ below (qG D dA base none z) args s 0 0 (fun q => base ≤ q)) (F0 m 345 ls []) := by
  unfold S_X9_done_345 at h
  cases h
  exact q_vret X hret hlk hh hS dX9_done_345
theorem ke_X9_done_273 {z : hp} {σ : hp} {t0 : Nat} {v1 : Int32} (h : S_X9_done_273 σ t0 v1 = some z) : eq4 σ z := by
  unfold S_X9_done_273 at h
  obtain ⟨t274, e_t274, h⟩ := o_b h
  obtain ⟨t278, e_t278, h⟩ := o_b h
  obtain ⟨t280, e_t280, h⟩ := o_b h
  obtain ⟨t284, e_t284, h⟩ := o_b h
  by_cases c285 : t278 = t284
  · rw [if_pos c285] at h
    obtain ⟨b290, e_b290, h⟩ := o_b h
    obtain ⟨q290, e_q290, h⟩ := o_b h
    exact ((ke_X9_execute_0 e_q290)).tr (ke_X9_done_345 h)
  · rw [if_neg c285] at h
    exact (ke_X9_done_345 h)
set_option maxHeartbeats 4000000 in
set_option maxRecDepth 100000 in
theorem K_X9_done_273 {p : Program} {l : Launch} {e : Env} {R : Room} {s : State} {m : MethodId} {args : Array Value} {below : List Frame} {meth : Method} {c : Code} {D : va_G} {dA : Nat → ClassId} {base : Nat} {z : hp} (X : cx p s m args c cX9_done RX9 5 D dA) (hret : meth.sig.returnType = none) (hlk : meth.locks = false) (hR : 9 ≤ R.frames ∧ 203 ≤ R.locals) {σ : hp} {t0 : Nat} {v1 : Int32} {H : Heap} {locs : List Loc} {ls : Array Slot} (hh : hw D dA base σ H) (hS : hs base s.heap H locs) (hl : lk ls 5 [(0, .inr (some t0)), (1, .inl v1)]) (h : S_X9_done_273 σ t0 v1 = some z) : W p l e R s m args below meth c H locs 0 0 (MQ below (qG D dA base none z) args s 0 0 (fun q => base ≤ q)) (F0 m 273 ls []) := by
  unfold S_X9_done_273 at h
  refine q_aload_n X dX9_done_273 rfl hl 0 rfl ?_
  obtain ⟨t274, e_t274, h⟩ := o_b h
  refine q_gR X hh fa_X9_99 rfl e_t274 dX9_done_274 ?_
  refine q_iload_n X dX9_done_277 rfl hl 1 rfl ?_
  obtain ⟨t278, e_t278, h⟩ := o_b h
  refine q_ldI X hh e_t278 dX9_done_278 ?_
  refine q_aload_n X dX9_done_279 rfl hl 0 rfl ?_
  obtain ⟨t280, e_t280, h⟩ := o_b h
  refine q_gR X hh fa_X9_96 rfl e_t280 dX9_done_280 ?_
  refine q_iload_n X dX9_done_283 rfl hl 1 rfl ?_
  obtain ⟨t284, e_t284, h⟩ := o_b h
  refine q_ldI X hh e_t284 dX9_done_284 ?_
  refine lv_icmp_ne (tgt := 345) X.1 X.2.1 dX9_done_285 (by decide) (fun c285 => ?_) (fun c285 => ?_)
  · rw [if_neg c285] at h
    exact K_X9_done_345 X hret hlk hR hh hS (lk_sub hl [] rfl) h
  · rw [if_pos c285] at h
    refine q_aload_n X dX9_done_288 rfl hl 0 rfl ?_
    refine q_iload_n X dX9_done_289 rfl hl 1 rfl ?_
    obtain ⟨b290, e_b290, h⟩ := o_b h
    obtain ⟨q290, e_q290, h⟩ := o_b h
    refine q_cV (As := [.int v1]) X hh hS hl cf_X9_182 (cN := 9) rfl rfl e_b290 rfl (M_X9_execute l D dA base σ b290 v1 e_q290) ⟨Nat.le_trans (by decide) hR.1, Nat.le_trans (by decide) hR.2⟩ (cat8 [] (Nat.le_of_ble_eq_true rfl)) dX9_done_290 ⟨Nat.zero_le _, Nat.zero_le _⟩ rfl rfl (fun H locs hh hS => ?_)
    refine lv_goto (tgt := 345) X.1 X.2.1 dX9_done_293 (by decide) ?_
    exact K_X9_done_345 X hret hlk hR hh hS (lk_sub hl [] rfl) h
theorem ke_X9_done_213_b {rec213 : hp → Nat → Int32 → Int32 → Int32 → Option (hp)} {z : hp} (hm213 : ∀ (σ : hp) (t0 : Nat) (v1 : Int32) (v2 : Int32) (v4 : Int32), rec213 σ t0 v1 v2 v4 = some z → eq4 σ z) {σ : hp} {t0 : Nat} {v1 : Int32} {v2 : Int32} {v4 : Int32} (h : S_X9_done_213_b rec213 σ t0 v1 v2 v4 = some z) : eq4 σ z := by
  unfold S_X9_done_213_b at h
  by_cases c216 : v2 < v4
  · rw [if_pos c216] at h
    exact (ke_X9_done_273 h)
  · rw [if_neg c216] at h
    obtain ⟨t220, e_t220, h⟩ := o_b h
    obtain ⟨t224, e_t224, h⟩ := o_b h
    obtain ⟨t226, e_t226, h⟩ := o_b h
    obtain ⟨t230, e_t230, h⟩ := o_b h
    by_cases c231 : t230 ≤ t224
    · rw [if_pos c231] at h
      exact (ke_X9_done_273 h)
    · rw [if_neg c231] at h
      obtain ⟨t235, e_t235, h⟩ := o_b h
      obtain ⟨t243, e_t243, h⟩ := o_b h
      obtain ⟨t247, e_t247, h⟩ := o_b h
      obtain ⟨t250, e_t250, h⟩ := o_b h
      obtain ⟨t255, e_t255, h⟩ := o_b h
      obtain ⟨s256, e_s256, h⟩ := o_b h
      obtain ⟨t258, e_t258, h⟩ := o_b h
      obtain ⟨t263, e_t263, h⟩ := o_b h
      obtain ⟨s266, e_s266, h⟩ := o_b h
      exact (((e_stI e_s256)).tr (e_stI e_s266)).tr (hm213 _ _ _ _ _ h)
theorem ke_X9_done_213 {z : hp} : ∀ (n : Nat) (σ : hp) (t0 : Nat) (v1 : Int32) (v2 : Int32) (v4 : Int32), S_X9_done_213 n σ t0 v1 v2 v4 = some z → eq4 σ z := by
  intro n
  induction n with
  | zero => intro σ t0 v1 v2 v4 h; cases h
  | succ n ih => intro σ t0 v1 v2 v4 h; exact ke_X9_done_213_b ih h
set_option maxHeartbeats 4000000 in
set_option maxRecDepth 100000 in
theorem K_X9_done_213_b {p : Program} {l : Launch} {e : Env} {R : Room} {s : State} {m : MethodId} {args : Array Value} {below : List Frame} {meth : Method} {c : Code} {D : va_G} {dA : Nat → ClassId} {base : Nat} {rec213 : hp → Nat → Int32 → Int32 → Int32 → Option (hp)} {z : hp} (X : cx p s m args c cX9_done RX9 5 D dA) (hret : meth.sig.returnType = none) (hlk : meth.locks = false) (hR : 9 ≤ R.frames ∧ 203 ≤ R.locals) (hr213 : ∀ (σ : hp) (t0 : Nat) (v1 : Int32) (v2 : Int32) (v4 : Int32) (H : Heap) (locs : List Loc) (ls : Array Slot), hw D dA base σ H → hs base s.heap H locs → lk ls 5 [(0, .inr (some t0)), (1, .inl v1), (2, .inl v2), (4, .inl v4)] → rec213 σ t0 v1 v2 v4 = some z → W p l e R s m args below meth c H locs 0 0 (MQ below (qG D dA base none z) args s 0 0 (fun q => base ≤ q)) (F0 m 213 ls [])) {σ : hp} {t0 : Nat} {v1 : Int32} {v2 : Int32} {v4 : Int32} {H : Heap} {locs : List Loc} {ls : Array Slot} (hh : hw D dA base σ H) (hS : hs base s.heap H locs) (hl : lk ls 5 [(0, .inr (some t0)), (1, .inl v1), (2, .inl v2), (4, .inl v4)]) (h : S_X9_done_213_b rec213 σ t0 v1 v2 v4 = some z) : W p l e R s m args below meth c H locs 0 0 (MQ below (qG D dA base none z) args s 0 0 (fun q => base ≤ q)) (F0 m 213 ls []) := by
  unfold S_X9_done_213_b at h
  refine q_iload X dX9_done_213 hl 3 rfl ?_
  refine q_iload_n X dX9_done_215 rfl hl 2 rfl ?_
  refine lv_icmp_gt (tgt := 273) X.1 X.2.1 dX9_done_216 (by decide) (fun c216 => ?_) (fun c216 => ?_)
  · rw [if_pos c216] at h
    exact K_X9_done_273 X hret hlk hR hh hS (lk_sub hl [0, 1] rfl) h
  · rw [if_neg c216] at h
    refine q_aload_n X dX9_done_219 rfl hl 0 rfl ?_
    obtain ⟨t220, e_t220, h⟩ := o_b h
    refine q_gR X hh fa_X9_99 rfl e_t220 dX9_done_220 ?_
    refine q_iload_n X dX9_done_223 rfl hl 1 rfl ?_
    obtain ⟨t224, e_t224, h⟩ := o_b h
    refine q_ldI X hh e_t224 dX9_done_224 ?_
    refine q_aload_n X dX9_done_225 rfl hl 0 rfl ?_
    obtain ⟨t226, e_t226, h⟩ := o_b h
    refine q_gR X hh fa_X9_96 rfl e_t226 dX9_done_226 ?_
    refine q_iload_n X dX9_done_229 rfl hl 1 rfl ?_
    obtain ⟨t230, e_t230, h⟩ := o_b h
    refine q_ldI X hh e_t230 dX9_done_230 ?_
    refine lv_icmp_ge (tgt := 273) X.1 X.2.1 dX9_done_231 (by decide) (fun c231 => ?_) (fun c231 => ?_)
    · rw [if_pos c231] at h
      exact K_X9_done_273 X hret hlk hR hh hS (lk_sub hl [0, 1] rfl) h
    · rw [if_neg c231] at h
      refine q_aload_n X dX9_done_234 rfl hl 0 rfl ?_
      obtain ⟨t235, e_t235, h⟩ := o_b h
      refine q_gR X hh fa_X9_102 rfl e_t235 dX9_done_235 ?_
      refine lv_bipush (v := (100 : Int32)) X.1 X.2.1 dX9_done_238 (by decide) ?_
      refine q_iload_n X dX9_done_240 rfl hl 1 rfl ?_
      refine lv_imul X.1 X.2.1 dX9_done_241 ?_
      refine q_aload_n X dX9_done_242 rfl hl 0 rfl ?_
      obtain ⟨t243, e_t243, h⟩ := o_b h
      refine q_gR X hh fa_X9_99 rfl e_t243 dX9_done_243 ?_
      refine q_iload_n X dX9_done_246 rfl hl 1 rfl ?_
      obtain ⟨t247, e_t247, h⟩ := o_b h
      refine q_ldI X hh e_t247 dX9_done_247 ?_
      refine lv_iadd X.1 X.2.1 dX9_done_248 ?_
      refine q_aload_n X dX9_done_249 rfl hl 0 rfl ?_
      obtain ⟨t250, e_t250, h⟩ := o_b h
      refine q_gR X hh fa_X9_111 rfl e_t250 dX9_done_250 ?_
      refine q_iload X dX9_done_253 hl 3 rfl ?_
      obtain ⟨t255, e_t255, h⟩ := o_b h
      refine q_ldI X hh e_t255 dX9_done_255 ?_
      obtain ⟨s256, e_s256, h⟩ := o_b h
      refine q_stI X hh hS e_s256 dX9_done_256 (fun H locs hh hS => ?_)
      refine q_aload_n X dX9_done_257 rfl hl 0 rfl ?_
      obtain ⟨t258, e_t258, h⟩ := o_b h
      refine q_gR X hh fa_X9_99 rfl e_t258 dX9_done_258 ?_
      refine q_iload_n X dX9_done_261 rfl hl 1 rfl ?_
      refine lv_dup2_11 X.1 X.2.1 dX9_done_262 (vv_cat (.inl v1)) (vv_cat (.inr t258)) ?_
      obtain ⟨t263, e_t263, h⟩ := o_b h
      refine q_ldI X hh e_t263 dX9_done_263 ?_
      refine lv_iconst (v := (1 : Int32)) X.1 X.2.1 dX9_done_264 (by decide) ?_
      refine lv_iadd X.1 X.2.1 dX9_done_265 ?_
      obtain ⟨s266, e_s266, h⟩ := o_b h
      refine q_stI X hh hS e_s266 dX9_done_266 (fun H locs hh hS => ?_)
      refine q_iinc (v := (1 : Int32)) (lv' := [(4, .inl (v4 + (1 : Int32))), (0, .inr (some t0)), (1, .inl v1), (2, .inl v2)]) X dX9_done_267 hl 3 rfl (by decide) (by decide) rfl (fun ls hl => ?_)
      refine lv_goto (tgt := 213) X.1 X.2.1 dX9_done_270 (by decide) ?_
      exact hr213 _ _ _ _ _ _ _ _ hh hS (lk_sub hl [1, 2, 3, 0] rfl) h
theorem K_X9_done_213 {p : Program} {l : Launch} {e : Env} {R : Room} {s : State} {m : MethodId} {args : Array Value} {below : List Frame} {meth : Method} {c : Code} {D : va_G} {dA : Nat → ClassId} {base : Nat} {z : hp} (X : cx p s m args c cX9_done RX9 5 D dA) (hret : meth.sig.returnType = none) (hlk : meth.locks = false) (hR : 9 ≤ R.frames ∧ 203 ≤ R.locals) : ∀ (n : Nat) (σ : hp) (t0 : Nat) (v1 : Int32) (v2 : Int32) (v4 : Int32) (H : Heap) (locs : List Loc) (ls : Array Slot), hw D dA base σ H → hs base s.heap H locs → lk ls 5 [(0, .inr (some t0)), (1, .inl v1), (2, .inl v2), (4, .inl v4)] → S_X9_done_213 n σ t0 v1 v2 v4 = some z → W p l e R s m args below meth c H locs 0 0 (MQ below (qG D dA base none z) args s 0 0 (fun q => base ≤ q)) (F0 m 213 ls []) := by
  intro n
  induction n with
  | zero => intro σ t0 v1 v2 v4 H locs ls hh hS hl h; cases h
  | succ n ih => intro σ t0 v1 v2 v4 H locs ls hh hS hl h; exact K_X9_done_213_b X hret hlk hR ih hh hS hl h
theorem ke_X9_done_296 {z : hp} {σ : hp} {t0 : Nat} {v1 : Int32} {v2 : Int32} {v3 : Int32} (h : S_X9_done_296 σ t0 v1 v2 v3 = some z) : eq4 σ z := by
  unfold S_X9_done_296 at h
  by_cases c299 : v3 = (72 : Int32)
  · rw [if_pos c299] at h
    by_cases c304 : v2 = (1 : Int32)
    · rw [if_pos c304] at h
      obtain ⟨t308, e_t308, h⟩ := o_b h
      obtain ⟨t312, e_t312, h⟩ := o_b h
      by_cases c313 : t312 = (0 : Int32)
      · rw [if_pos c313] at h
        obtain ⟨b320, e_b320, h⟩ := o_b h
        obtain ⟨q320, e_q320, h⟩ := o_b h
        exact ((ke_X9_say_0 e_q320)).tr (ke_X9_done_345 h)
      · rw [if_neg c313] at h
        obtain ⟨b330, e_b330, h⟩ := o_b h
        obtain ⟨q330, e_q330, h⟩ := o_b h
        obtain ⟨t334, e_t334, h⟩ := o_b h
        obtain ⟨z339, e_z339, h⟩ := o_b h
        obtain ⟨s339, e_s339, h⟩ := o_b h
        obtain ⟨b342, e_b342, h⟩ := o_b h
        obtain ⟨q342, e_q342, h⟩ := o_b h
        exact ((((ke_X9_say_0 e_q330)).tr (e_stI e_s339)).tr (ke_X9_goOn_0 e_q342)).tr (ke_X9_done_345 h)
    · rw [if_neg c304] at h
      exact (ke_X9_done_345 h)
  · rw [if_neg c299] at h
    exact (ke_X9_done_345 h)
set_option maxHeartbeats 4000000 in
set_option maxRecDepth 100000 in
theorem K_X9_done_296 {p : Program} {l : Launch} {e : Env} {R : Room} {s : State} {m : MethodId} {args : Array Value} {below : List Frame} {meth : Method} {c : Code} {D : va_G} {dA : Nat → ClassId} {base : Nat} {z : hp} (X : cx p s m args c cX9_done RX9 5 D dA) (hret : meth.sig.returnType = none) (hlk : meth.locks = false) (hR : 9 ≤ R.frames ∧ 203 ≤ R.locals) {σ : hp} {t0 : Nat} {v1 : Int32} {v2 : Int32} {v3 : Int32} {H : Heap} {locs : List Loc} {ls : Array Slot} (hh : hw D dA base σ H) (hS : hs base s.heap H locs) (hl : lk ls 5 [(0, .inr (some t0)), (1, .inl v1), (2, .inl v2), (3, .inl v3)]) (h : S_X9_done_296 σ t0 v1 v2 v3 = some z) : W p l e R s m args below meth c H locs 0 0 (MQ below (qG D dA base none z) args s 0 0 (fun q => base ≤ q)) (F0 m 296 ls []) := by
  unfold S_X9_done_296 at h
  refine q_iload_n X dX9_done_296 rfl hl 3 rfl ?_
  refine lv_bipush (v := (72 : Int32)) X.1 X.2.1 dX9_done_297 (by decide) ?_
  refine lv_icmp_ne (tgt := 345) X.1 X.2.1 dX9_done_299 (by decide) (fun c299 => ?_) (fun c299 => ?_)
  · rw [if_neg c299] at h
    exact K_X9_done_345 X hret hlk hR hh hS (lk_sub hl [] rfl) h
  · rw [if_pos c299] at h
    refine q_iload_n X dX9_done_302 rfl hl 2 rfl ?_
    refine lv_iconst (v := (1 : Int32)) X.1 X.2.1 dX9_done_303 (by decide) ?_
    refine lv_icmp_ne (tgt := 345) X.1 X.2.1 dX9_done_304 (by decide) (fun c304 => ?_) (fun c304 => ?_)
    · rw [if_neg c304] at h
      exact K_X9_done_345 X hret hlk hR hh hS (lk_sub hl [] rfl) h
    · rw [if_pos c304] at h
      refine q_aload_n X dX9_done_307 rfl hl 0 rfl ?_
      obtain ⟨t308, e_t308, h⟩ := o_b h
      refine q_gR X hh fa_X9_19 rfl e_t308 dX9_done_308 ?_
      refine q_iload_n X dX9_done_311 rfl hl 1 rfl ?_
      obtain ⟨t312, e_t312, h⟩ := o_b h
      refine q_ldI X hh e_t312 dX9_done_312 ?_
      refine lv_if_ne (tgt := 326) X.1 X.2.1 dX9_done_313 (by decide) (fun c313 => ?_) (fun c313 => ?_)
      · rw [if_neg c313] at h
        refine q_aload_n X dX9_done_326 rfl hl 0 rfl ?_
        refine q_iload_n X dX9_done_327 rfl hl 1 rfl ?_
        refine lv_bipush (v := (84 : Int32)) X.1 X.2.1 dX9_done_328 (by decide) ?_
        obtain ⟨b330, e_b330, h⟩ := o_b h
        obtain ⟨q330, e_q330, h⟩ := o_b h
        refine q_cV (As := [.int v1, .int (84 : Int32)]) X hh hS hl cf_X9_157 (cN := 9) rfl rfl e_b330 rfl (M_X9_say l D dA base σ b330 v1 (84 : Int32) e_q330) ⟨Nat.le_trans (by decide) hR.1, Nat.le_trans (by decide) hR.2⟩ (cat8 [] (Nat.le_of_ble_eq_true rfl)) dX9_done_330 ⟨Nat.zero_le _, Nat.zero_le _⟩ rfl rfl (fun H locs hh hS => ?_)
        refine q_aload_n X dX9_done_333 rfl hl 0 rfl ?_
        obtain ⟨t334, e_t334, h⟩ := o_b h
        refine q_gR X hh fa_X9_59 rfl e_t334 dX9_done_334 ?_
        refine q_iload_n X dX9_done_337 rfl hl 1 rfl ?_
        refine lv_iconst (v := (1 : Int32)) X.1 X.2.1 dX9_done_338 (by decide) ?_
        obtain ⟨z339, e_z339, h⟩ := o_b h
        obtain ⟨s339, e_s339, h⟩ := o_b h
        refine q_stZ X hh hS e_z339 e_s339 dX9_done_339 (fun H locs hh hS => ?_)
        refine q_aload_n X dX9_done_340 rfl hl 0 rfl ?_
        refine q_iload_n X dX9_done_341 rfl hl 1 rfl ?_
        obtain ⟨b342, e_b342, h⟩ := o_b h
        obtain ⟨q342, e_q342, h⟩ := o_b h
        refine q_cV (As := [.int v1]) X hh hS hl cf_X9_166 (cN := 9) rfl rfl e_b342 rfl (M_X9_goOn l D dA base s339 b342 v1 e_q342) ⟨Nat.le_trans (by decide) hR.1, Nat.le_trans (by decide) hR.2⟩ (cat8 [] (Nat.le_of_ble_eq_true rfl)) dX9_done_342 ⟨Nat.zero_le _, Nat.zero_le _⟩ rfl rfl (fun H locs hh hS => ?_)
        exact K_X9_done_345 X hret hlk hR hh hS (lk_sub hl [] rfl) h
      · rw [if_pos c313] at h
        refine q_aload_n X dX9_done_316 rfl hl 0 rfl ?_
        refine q_iload_n X dX9_done_317 rfl hl 1 rfl ?_
        refine lv_bipush (v := (72 : Int32)) X.1 X.2.1 dX9_done_318 (by decide) ?_
        obtain ⟨b320, e_b320, h⟩ := o_b h
        obtain ⟨q320, e_q320, h⟩ := o_b h
        refine q_cV (As := [.int v1, .int (72 : Int32)]) X hh hS hl cf_X9_157 (cN := 9) rfl rfl e_b320 rfl (M_X9_say l D dA base σ b320 v1 (72 : Int32) e_q320) ⟨Nat.le_trans (by decide) hR.1, Nat.le_trans (by decide) hR.2⟩ (cat8 [] (Nat.le_of_ble_eq_true rfl)) dX9_done_320 ⟨Nat.zero_le _, Nat.zero_le _⟩ rfl rfl (fun H locs hh hS => ?_)
        refine lv_goto (tgt := 345) X.1 X.2.1 dX9_done_323 (by decide) ?_
        exact K_X9_done_345 X hret hlk hR hh hS (lk_sub hl [] rfl) h
theorem ke_X9_done_190 {z : hp} {σ : hp} {t0 : Nat} {v1 : Int32} {v2 : Int32} {v3 : Int32} (h : S_X9_done_190 σ t0 v1 v2 v3 = some z) : eq4 σ z := by
  unfold S_X9_done_190 at h
  by_cases c193 : v3 = (68 : Int32)
  · rw [if_pos c193] at h
    by_cases c198 : v2 ≤ (1 : Int32)
    · rw [if_pos c198] at h
      exact (ke_X9_done_296 h)
    · rw [if_neg c198] at h
      obtain ⟨t202, e_t202, h⟩ := o_b h
      obtain ⟨t206, e_t206, h⟩ := o_b h
      by_cases c207 : t206 = (0 : Int32)
      · rw [if_pos c207] at h
        exact (ke_X9_done_296 h)
      · rw [if_neg c207] at h
        exact (ke_X9_done_213 FU _ _ _ _ _ h)
  · rw [if_neg c193] at h
    exact (ke_X9_done_296 h)
set_option maxHeartbeats 4000000 in
set_option maxRecDepth 100000 in
theorem K_X9_done_190 {p : Program} {l : Launch} {e : Env} {R : Room} {s : State} {m : MethodId} {args : Array Value} {below : List Frame} {meth : Method} {c : Code} {D : va_G} {dA : Nat → ClassId} {base : Nat} {z : hp} (X : cx p s m args c cX9_done RX9 5 D dA) (hret : meth.sig.returnType = none) (hlk : meth.locks = false) (hR : 9 ≤ R.frames ∧ 203 ≤ R.locals) {σ : hp} {t0 : Nat} {v1 : Int32} {v2 : Int32} {v3 : Int32} {H : Heap} {locs : List Loc} {ls : Array Slot} (hh : hw D dA base σ H) (hS : hs base s.heap H locs) (hl : lk ls 5 [(0, .inr (some t0)), (1, .inl v1), (2, .inl v2), (3, .inl v3)]) (h : S_X9_done_190 σ t0 v1 v2 v3 = some z) : W p l e R s m args below meth c H locs 0 0 (MQ below (qG D dA base none z) args s 0 0 (fun q => base ≤ q)) (F0 m 190 ls []) := by
  unfold S_X9_done_190 at h
  refine q_iload_n X dX9_done_190 rfl hl 3 rfl ?_
  refine lv_bipush (v := (68 : Int32)) X.1 X.2.1 dX9_done_191 (by decide) ?_
  refine lv_icmp_ne (tgt := 296) X.1 X.2.1 dX9_done_193 (by decide) (fun c193 => ?_) (fun c193 => ?_)
  · rw [if_neg c193] at h
    exact K_X9_done_296 X hret hlk hR hh hS (lk_sub hl [0, 1, 2, 3] rfl) h
  · rw [if_pos c193] at h
    refine q_iload_n X dX9_done_196 rfl hl 2 rfl ?_
    refine lv_iconst (v := (1 : Int32)) X.1 X.2.1 dX9_done_197 (by decide) ?_
    refine lv_icmp_le (tgt := 296) X.1 X.2.1 dX9_done_198 (by decide) (fun c198 => ?_) (fun c198 => ?_)
    · rw [if_pos c198] at h
      exact K_X9_done_296 X hret hlk hR hh hS (lk_sub hl [0, 1, 2, 3] rfl) h
    · rw [if_neg c198] at h
      refine q_aload_n X dX9_done_201 rfl hl 0 rfl ?_
      obtain ⟨t202, e_t202, h⟩ := o_b h
      refine q_gR X hh fa_X9_90 rfl e_t202 dX9_done_202 ?_
      refine q_iload_n X dX9_done_205 rfl hl 1 rfl ?_
      obtain ⟨t206, e_t206, h⟩ := o_b h
      refine q_ldZ X hh e_t206 dX9_done_206 ?_
      refine lv_if_eq (tgt := 296) X.1 X.2.1 dX9_done_207 (by decide) (fun c207 => ?_) (fun c207 => ?_)
      · rw [if_pos c207] at h
        exact K_X9_done_296 X hret hlk hR hh hS (lk_sub hl [0, 1, 2, 3] rfl) h
      · rw [if_neg c207] at h
        refine lv_iconst (v := (2 : Int32)) X.1 X.2.1 dX9_done_210 (by decide) ?_
        refine q_istore (lv' := [(4, .inl (2 : Int32)), (0, .inr (some t0)), (1, .inl v1), (2, .inl v2), (3, .inl v3)]) X dX9_done_211 hl (by decide) rfl (fun ls hl => ?_)
        exact K_X9_done_213 X hret hlk hR FU _ _ _ _ _ _ _ _ hh hS (lk_sub hl [1, 2, 3, 0] rfl) h
theorem ke_X9_done_0 {z : hp} {σ : hp} {t0 : Nat} {v1 : Int32} (h : S_X9_done σ t0 v1 = some z) : eq4 σ z := by
  unfold S_X9_done at h
  obtain ⟨t1, e_t1, h⟩ := o_b h
  obtain ⟨t5, e_t5, h⟩ := o_b h
  obtain ⟨t8, e_t8, h⟩ := o_b h
  obtain ⟨t12, e_t12, h⟩ := o_b h
  obtain ⟨t15, e_t15, h⟩ := o_b h
  obtain ⟨t19, e_t19, h⟩ := o_b h
  by_cases c20 : t19 = (0 : Int32)
  · rw [if_pos c20] at h
    by_cases c151 : t12 = (83 : Int32)
    · rw [if_pos c151] at h
      by_cases c156 : t5 = (3 : Int32)
      · rw [if_pos c156] at h
        obtain ⟨t160, e_t160, h⟩ := o_b h
        obtain ⟨t164, e_t164, h⟩ := o_b h
        by_cases c167 : (100 : Int32) < t164
        · rw [if_pos c167] at h
          exact (ke_X9_done_345 h)
        · rw [if_neg c167] at h
          obtain ⟨t173, e_t173, h⟩ := o_b h
          obtain ⟨t177, e_t177, h⟩ := o_b h
          obtain ⟨t179, e_t179, h⟩ := o_b h
          obtain ⟨t183, e_t183, h⟩ := o_b h
          obtain ⟨b184, e_b184, h⟩ := o_b h
          obtain ⟨q184, e_q184, h⟩ := o_b h
          exact ((ke_X9_offered_0 e_q184)).tr (ke_X9_done_345 h)
      · rw [if_neg c156] at h
        exact (ke_X9_done_190 h)
    · rw [if_neg c151] at h
      exact (ke_X9_done_190 h)
  · rw [if_neg c20] at h
    by_cases c25 : t5 = (1 : Int32)
    · rw [if_pos c25] at h
      by_cases c31 : t12 = (72 : Int32)
      · rw [if_pos c31] at h
        exact (ke_X9_done_50 h)
      · rw [if_neg c31] at h
        by_cases c37 : t12 = (84 : Int32)
        · rw [if_pos c37] at h
          exact (ke_X9_done_50 h)
        · rw [if_neg c37] at h
          obtain ⟨t41, e_t41, h⟩ := o_b h
          obtain ⟨t45, e_t45, h⟩ := o_b h
          by_cases c46 : t45 = (0 : Int32)
          · rw [if_pos c46] at h
            exact (ke_X9_done_49 h)
          · rw [if_neg c46] at h
            exact (ke_X9_done_50 h)
    · rw [if_neg c25] at h
      exact (ke_X9_done_49 h)
set_option maxHeartbeats 4000000 in
set_option maxRecDepth 100000 in
theorem K_X9_done_0 {p : Program} {l : Launch} {e : Env} {R : Room} {s : State} {m : MethodId} {args : Array Value} {below : List Frame} {meth : Method} {c : Code} {D : va_G} {dA : Nat → ClassId} {base : Nat} {z : hp} (X : cx p s m args c cX9_done RX9 5 D dA) (hret : meth.sig.returnType = none) (hlk : meth.locks = false) (hR : 9 ≤ R.frames ∧ 203 ≤ R.locals) {σ : hp} {t0 : Nat} {v1 : Int32} {H : Heap} {locs : List Loc} {ls : Array Slot} (hh : hw D dA base σ H) (hS : hs base s.heap H locs) (hl : lk ls 5 [(0, .inr (some t0)), (1, .inl v1)]) (h : S_X9_done σ t0 v1 = some z) : W p l e R s m args below meth c H locs 0 0 (MQ below (qG D dA base none z) args s 0 0 (fun q => base ≤ q)) (F0 m 0 ls []) := by
  unfold S_X9_done at h
  refine q_aload_n X dX9_done_0 rfl hl 0 rfl ?_
  obtain ⟨t1, e_t1, h⟩ := o_b h
  refine q_gR X hh fa_X9_111 rfl e_t1 dX9_done_1 ?_
  refine lv_iconst (v := (0 : Int32)) X.1 X.2.1 dX9_done_4 (by decide) ?_
  obtain ⟨t5, e_t5, h⟩ := o_b h
  refine q_ldI X hh e_t5 dX9_done_5 ?_
  refine q_istore_n (lv' := [(2, .inl t5), (0, .inr (some t0)), (1, .inl v1)]) X dX9_done_6 rfl hl (by decide) rfl (fun ls hl => ?_)
  refine q_aload_n X dX9_done_7 rfl hl 1 rfl ?_
  obtain ⟨t8, e_t8, h⟩ := o_b h
  refine q_gR X hh fa_X9_111 rfl e_t8 dX9_done_8 ?_
  refine lv_iconst (v := (1 : Int32)) X.1 X.2.1 dX9_done_11 (by decide) ?_
  obtain ⟨t12, e_t12, h⟩ := o_b h
  refine q_ldI X hh e_t12 dX9_done_12 ?_
  refine q_istore_n (lv' := [(3, .inl t12), (2, .inl t5), (0, .inr (some t0)), (1, .inl v1)]) X dX9_done_13 rfl hl (by decide) rfl (fun ls hl => ?_)
  refine q_aload_n X dX9_done_14 rfl hl 2 rfl ?_
  obtain ⟨t15, e_t15, h⟩ := o_b h
  refine q_gR X hh fa_X9_59 rfl e_t15 dX9_done_15 ?_
  refine q_iload_n X dX9_done_18 rfl hl 3 rfl ?_
  obtain ⟨t19, e_t19, h⟩ := o_b h
  refine q_ldZ X hh e_t19 dX9_done_19 ?_
  refine lv_if_eq (tgt := 148) X.1 X.2.1 dX9_done_20 (by decide) (fun c20 => ?_) (fun c20 => ?_)
  · rw [if_pos c20] at h
    refine q_iload_n X dX9_done_148 rfl hl 0 rfl ?_
    refine lv_bipush (v := (83 : Int32)) X.1 X.2.1 dX9_done_149 (by decide) ?_
    refine lv_icmp_ne (tgt := 190) X.1 X.2.1 dX9_done_151 (by decide) (fun c151 => ?_) (fun c151 => ?_)
    · rw [if_neg c151] at h
      exact K_X9_done_190 X hret hlk hR hh hS (lk_sub hl [2, 3, 1, 0] rfl) h
    · rw [if_pos c151] at h
      refine q_iload_n X dX9_done_154 rfl hl 1 rfl ?_
      refine lv_iconst (v := (3 : Int32)) X.1 X.2.1 dX9_done_155 (by decide) ?_
      refine lv_icmp_ne (tgt := 190) X.1 X.2.1 dX9_done_156 (by decide) (fun c156 => ?_) (fun c156 => ?_)
      · rw [if_neg c156] at h
        exact K_X9_done_190 X hret hlk hR hh hS (lk_sub hl [2, 3, 1, 0] rfl) h
      · rw [if_pos c156] at h
        refine q_aload_n X dX9_done_159 rfl hl 2 rfl ?_
        obtain ⟨t160, e_t160, h⟩ := o_b h
        refine q_gR X hh fa_X9_111 rfl e_t160 dX9_done_160 ?_
        refine lv_iconst (v := (3 : Int32)) X.1 X.2.1 dX9_done_163 (by decide) ?_
        obtain ⟨t164, e_t164, h⟩ := o_b h
        refine q_ldI X hh e_t164 dX9_done_164 ?_
        refine lv_bipush (v := (100 : Int32)) X.1 X.2.1 dX9_done_165 (by decide) ?_
        refine lv_icmp_gt (tgt := 345) X.1 X.2.1 dX9_done_167 (by decide) (fun c167 => ?_) (fun c167 => ?_)
        · rw [if_pos c167] at h
          exact K_X9_done_345 X hret hlk hR hh hS (lk_sub hl [] rfl) h
        · rw [if_neg c167] at h
          refine q_aload_n X dX9_done_170 rfl hl 2 rfl ?_
          refine q_iload_n X dX9_done_171 rfl hl 3 rfl ?_
          refine q_aload_n X dX9_done_172 rfl hl 2 rfl ?_
          obtain ⟨t173, e_t173, h⟩ := o_b h
          refine q_gR X hh fa_X9_111 rfl e_t173 dX9_done_173 ?_
          refine lv_iconst (v := (2 : Int32)) X.1 X.2.1 dX9_done_176 (by decide) ?_
          obtain ⟨t177, e_t177, h⟩ := o_b h
          refine q_ldI X hh e_t177 dX9_done_177 ?_
          refine q_aload_n X dX9_done_178 rfl hl 2 rfl ?_
          obtain ⟨t179, e_t179, h⟩ := o_b h
          refine q_gR X hh fa_X9_111 rfl e_t179 dX9_done_179 ?_
          refine lv_iconst (v := (3 : Int32)) X.1 X.2.1 dX9_done_182 (by decide) ?_
          obtain ⟨t183, e_t183, h⟩ := o_b h
          refine q_ldI X hh e_t183 dX9_done_183 ?_
          obtain ⟨b184, e_b184, h⟩ := o_b h
          obtain ⟨q184, e_q184, h⟩ := o_b h
          refine q_cV (As := [.int v1, .int t177, .int t183]) X hh hS hl cf_X9_179 (cN := 9) rfl rfl e_b184 rfl (M_X9_offered l D dA base σ b184 v1 t177 t183 e_q184) ⟨Nat.le_trans (by decide) hR.1, Nat.le_trans (by decide) hR.2⟩ (cat8 [] (Nat.le_of_ble_eq_true rfl)) dX9_done_184 ⟨Nat.zero_le _, Nat.zero_le _⟩ rfl rfl (fun H locs hh hS => ?_)
          refine lv_goto (tgt := 345) X.1 X.2.1 dX9_done_187 (by decide) ?_
          exact K_X9_done_345 X hret hlk hR hh hS (lk_sub hl [] rfl) h
  · rw [if_neg c20] at h
    refine q_iload_n X dX9_done_23 rfl hl 1 rfl ?_
    refine lv_iconst (v := (1 : Int32)) X.1 X.2.1 dX9_done_24 (by decide) ?_
    refine lv_icmp_ne (tgt := 49) X.1 X.2.1 dX9_done_25 (by decide) (fun c25 => ?_) (fun c25 => ?_)
    · rw [if_neg c25] at h
      exact K_X9_done_49 X hret hlk hR hh hS (lk_sub hl [] rfl) h
    · rw [if_pos c25] at h
      refine q_iload_n X dX9_done_28 rfl hl 0 rfl ?_
      refine lv_bipush (v := (72 : Int32)) X.1 X.2.1 dX9_done_29 (by decide) ?_
      refine lv_icmp_eq (tgt := 50) X.1 X.2.1 dX9_done_31 (by decide) (fun c31 => ?_) (fun c31 => ?_)
      · rw [if_pos c31] at h
        exact K_X9_done_50 X hret hlk hR hh hS (lk_sub hl [2, 3, 0] rfl) h
      · rw [if_neg c31] at h
        refine q_iload_n X dX9_done_34 rfl hl 0 rfl ?_
        refine lv_bipush (v := (84 : Int32)) X.1 X.2.1 dX9_done_35 (by decide) ?_
        refine lv_icmp_eq (tgt := 50) X.1 X.2.1 dX9_done_37 (by decide) (fun c37 => ?_) (fun c37 => ?_)
        · rw [if_pos c37] at h
          exact K_X9_done_50 X hret hlk hR hh hS (lk_sub hl [2, 3, 0] rfl) h
        · rw [if_neg c37] at h
          refine q_aload_n X dX9_done_40 rfl hl 2 rfl ?_
          obtain ⟨t41, e_t41, h⟩ := o_b h
          refine q_gR X hh fa_X9_19 rfl e_t41 dX9_done_41 ?_
          refine q_iload_n X dX9_done_44 rfl hl 3 rfl ?_
          obtain ⟨t45, e_t45, h⟩ := o_b h
          refine q_ldI X hh e_t45 dX9_done_45 ?_
          refine lv_if_ne (tgt := 50) X.1 X.2.1 dX9_done_46 (by decide) (fun c46 => ?_) (fun c46 => ?_)
          · rw [if_neg c46] at h
            exact K_X9_done_50 X hret hlk hR hh hS (lk_sub hl [2, 3, 0] rfl) h
          · rw [if_pos c46] at h
            exact K_X9_done_49 X hret hlk hR hh hS (lk_sub hl [] rfl) h
set_option maxRecDepth 100000 in
theorem M_X9_done (l : Launch) (D : va_G) (dA : Nat → ClassId) (base : Nat) (σ : hp) (t0 : Nat) (v1 : Int32) {z : hp} (h : S_X9_done σ t0 v1 = some z) : mt l yX9_done cX9_done 5 (none) 9 203 D dA base σ [.ref t0, .int v1] none z 0 0 := by
  refine Met.ofW (cc := cX9_done) (maxL := 5) (ret := none) (by decide) rfl ?_
  intro p e s m args below meth c s₁ B hml hv
  obtain ⟨rfl, hh, hK⟩ := hv
  have X : cx p s m ([.ref t0, .int v1] : List Value).toArray c cX9_done RX9 5 D dA := ⟨B.exec, B.bytes, findClass_of_methodNamed B.named, hml, fun w hw => atoms_spec (ws := .code yX9_done cX9_done 5 (none) :: G) B.pre w (List.mem_cons_of_mem _ hw), hK⟩
  have hl := lk_entry [.inr (some t0), .inl v1] (n := 5) (Nat.le_of_ble_eq_true rfl)
  rw [lg_entry_eq]
  have hl : lk ((lg_sl ([.ref t0, .int v1] : List Value) ++ List.replicate (5 - (lg_sl ([.ref t0, .int v1] : List Value)).length) Slot.unset).toArray) 5 [(0, .inr (some t0)), (1, .inl v1)] := hl
  generalize (lg_sl ([.ref t0, .int v1] : List Value) ++ List.replicate (5 - (lg_sl ([.ref t0, .int v1] : List Value)).length) Slot.unset).toArray = ls at hl ⊢
  exact K_X9_done_0 X B.returns B.notSynchronized ⟨Nat.le_refl _, Nat.le_refl _⟩ hh va_S.rf hl h
