/-! Walks: written by wip/whole/gen/emit.py. X8_waiting X8_look X8_told X8_queued X8_doneJob X8_executed X8_file X8_times X9_init X9_isSite X9_put X9_queue -/
set_option maxHeartbeats 4000000 in
set_option maxRecDepth 100000 in
theorem K_X8_waiting_20 {p : Program} {l : Launch} {e : Env} {R : Room} {s : State} {m : MethodId} {args : Array Value} {below : List Frame} {meth : Method} {c : Code} {D : va_G} {dA : Nat → ClassId} {base : Nat} {z : Int32} (X : cx p s m args c cX8_waiting RX8 2 D dA) (hret : meth.sig.returnType = some .int) (hlk : meth.locks = false) (hR : 1 ≤ R.frames ∧ 20 ≤ R.locals) {σ : hp} {w0 : Int32} {H : Heap} {locs : List Loc} {ls : Array Slot} (hh : hw D dA base σ H) (hS : hs base s.heap H locs) (hl : lk ls 2 []) (h : S_X8_waiting_20 σ w0 = some z) : W p l e R s m args below meth c H locs 0 0 (MQ below (qG D dA base (some (.int z)) σ) args s 0 0 (fun q => base ≤ q)) (F0 m 20 ls [.int w0]) := by
  unfold S_X8_waiting_20 at h
  cases h
  exact q_iret X hret hlk hh hS dX8_waiting_20
set_option maxHeartbeats 4000000 in
set_option maxRecDepth 100000 in
theorem K_X8_waiting_0 {p : Program} {l : Launch} {e : Env} {R : Room} {s : State} {m : MethodId} {args : Array Value} {below : List Frame} {meth : Method} {c : Code} {D : va_G} {dA : Nat → ClassId} {base : Nat} {z : Int32} (X : cx p s m args c cX8_waiting RX8 2 D dA) (hret : meth.sig.returnType = some .int) (hlk : meth.locks = false) (hR : 1 ≤ R.frames ∧ 20 ≤ R.locals) {σ : hp} {t0 : Nat} {v1 : Int32} {H : Heap} {locs : List Loc} {ls : Array Slot} (hh : hw D dA base σ H) (hS : hs base s.heap H locs) (hl : lk ls 2 [(0, .inr (some t0)), (1, .inl v1)]) (h : S_X8_waiting σ t0 v1 = some z) : W p l e R s m args below meth c H locs 0 0 (MQ below (qG D dA base (some (.int z)) σ) args s 0 0 (fun q => base ≤ q)) (F0 m 0 ls []) := by
  unfold S_X8_waiting at h
  refine q_iload_n X dX8_waiting_0 rfl hl 1 rfl ?_
  obtain ⟨q1, e_q1, h⟩ := o_b h
  refine q_cS (As := [.int v1]) X hh hS hl cf_X8_33 rfl (M_X8_isSite l D dA base σ v1 e_q1) ⟨Nat.le_trans (by decide) hR.1, Nat.le_trans (by decide) hR.2⟩ (cat8 [] (Nat.le_of_ble_eq_true rfl)) dX8_waiting_1 ⟨Nat.zero_le _, Nat.zero_le _⟩ rfl rfl (fun H locs hh hS => ?_)
  refine lv_if_eq (tgt := 19) X.1 X.2.1 dX8_waiting_4 (by decide) (fun c4 => ?_) (fun c4 => ?_)
  · rw [if_pos c4] at h
    refine lv_iconst (v := (-1 : Int32)) X.1 X.2.1 dX8_waiting_19 (by decide) ?_
    exact K_X8_waiting_20 X hret hlk hR hh hS (lk_sub hl [] rfl) h
  · rw [if_neg c4] at h
    refine q_aload_n X dX8_waiting_7 rfl hl 0 rfl ?_
    obtain ⟨t8, e_t8, h⟩ := o_b h
    refine q_gR X hh fa_X8_10 rfl e_t8 dX8_waiting_8 ?_
    refine q_iload_n X dX8_waiting_11 rfl hl 1 rfl ?_
    obtain ⟨t12, e_t12, h⟩ := o_b h
    refine q_ldQ X hh (by decide) rfl e_t12 dX8_waiting_12 ?_
    obtain ⟨t13, e_t13, h⟩ := o_b h
    refine q_gI X hh fa_X8_83 rfl e_t13 dX8_waiting_13 ?_
    refine lv_goto (tgt := 20) X.1 X.2.1 dX8_waiting_16 (by decide) ?_
    exact K_X8_waiting_20 X hret hlk hR hh hS (lk_sub hl [] rfl) h
set_option maxRecDepth 100000 in
theorem M_X8_waiting (l : Launch) (D : va_G) (dA : Nat → ClassId) (base : Nat) (σ : hp) (t0 : Nat) (v1 : Int32) {z : Int32} (h : S_X8_waiting σ t0 v1 = some z) : mt l yX8_waiting cX8_waiting 2 (some .int) 1 20 D dA base σ [.ref t0, .int v1] (some (.int z)) σ 0 0 := by
  refine Met.ofW (cc := cX8_waiting) (maxL := 2) (ret := some .int) (by decide) rfl ?_
  intro p e s m args below meth c s₁ B hml hv
  obtain ⟨rfl, hh, hK⟩ := hv
  have X : cx p s m ([.ref t0, .int v1] : List Value).toArray c cX8_waiting RX8 2 D dA := ⟨B.exec, B.bytes, findClass_of_methodNamed B.named, hml, fun w hw => atoms_spec (ws := .code yX8_waiting cX8_waiting 2 (some .int) :: G) B.pre w (List.mem_cons_of_mem _ hw), hK⟩
  have hl := lk_entry [.inr (some t0), .inl v1] (n := 2) (Nat.le_of_ble_eq_true rfl)
  rw [lg_entry_eq]
  have hl : lk ((lg_sl ([.ref t0, .int v1] : List Value) ++ List.replicate (2 - (lg_sl ([.ref t0, .int v1] : List Value)).length) Slot.unset).toArray) 2 [(0, .inr (some t0)), (1, .inl v1)] := hl
  generalize (lg_sl ([.ref t0, .int v1] : List Value) ++ List.replicate (2 - (lg_sl ([.ref t0, .int v1] : List Value)).length) Slot.unset).toArray = ls at hl ⊢
  exact K_X8_waiting_0 X B.returns B.notSynchronized ⟨Nat.le_refl _, Nat.le_refl _⟩ hh va_S.rf hl h
set_option maxHeartbeats 4000000 in
set_option maxRecDepth 100000 in
theorem K_X8_look_26 {p : Program} {l : Launch} {e : Env} {R : Room} {s : State} {m : MethodId} {args : Array Value} {below : List Frame} {meth : Method} {c : Code} {D : va_G} {dA : Nat → ClassId} {base : Nat} {z : Int32} (X : cx p s m args c cX8_look RX8 5 D dA) (hret : meth.sig.returnType = some .int) (hlk : meth.locks = false) (hR : 2 ≤ R.frames ∧ 43 ≤ R.locals) {σ : hp} {H : Heap} {locs : List Loc} {ls : Array Slot} (hh : hw D dA base σ H) (hS : hs base s.heap H locs) (hl : lk ls 5 []) (h : S_X8_look_26 σ = some z) : W p l e R s m args below meth c H locs 0 0 (MQ below (qG D dA base (some (.int z)) σ) args s 0 0 (fun q => base ≤ q)) (F0 m 26 ls []) := by
  unfold S_X8_look_26 at h
  refine lv_iconst (v := (-1 : Int32)) X.1 X.2.1 dX8_look_26 (by decide) ?_
  cases h
  exact q_iret X hret hlk hh hS dX8_look_27
set_option maxHeartbeats 4000000 in
set_option maxRecDepth 100000 in
theorem K_X8_look_0 {p : Program} {l : Launch} {e : Env} {R : Room} {s : State} {m : MethodId} {args : Array Value} {below : List Frame} {meth : Method} {c : Code} {D : va_G} {dA : Nat → ClassId} {base : Nat} {z : Int32} (X : cx p s m args c cX8_look RX8 5 D dA) (hret : meth.sig.returnType = some .int) (hlk : meth.locks = false) (hR : 2 ≤ R.frames ∧ 43 ≤ R.locals) {σ : hp} {t0 : Nat} {v1 : Int32} {v2 : Int32} {v3 : Int32} {H : Heap} {locs : List Loc} {ls : Array Slot} (hh : hw D dA base σ H) (hS : hs base s.heap H locs) (hl : lk ls 5 [(0, .inr (some t0)), (1, .inl v1), (2, .inl v2), (3, .inl v3)]) (h : S_X8_look σ t0 v1 v2 v3 = some z) : W p l e R s m args below meth c H locs 0 0 (MQ below (qG D dA base (some (.int z)) σ) args s 0 0 (fun q => base ≤ q)) (F0 m 0 ls []) := by
  unfold S_X8_look at h
  refine q_aload_n X dX8_look_0 rfl hl 0 rfl ?_
  refine q_iload_n X dX8_look_1 rfl hl 1 rfl ?_
  refine q_iload_n X dX8_look_2 rfl hl 2 rfl ?_
  obtain ⟨b3, e_b3, h⟩ := o_b h
  obtain ⟨q3, e_q3, h⟩ := o_b h
  refine q_cV (As := [.int v1, .int v2]) X hh hS hl cf_X8_60 (cN := 8) rfl rfl e_b3 rfl (M_X8_packetOn l D dA base σ b3 v1 v2 e_q3) ⟨Nat.le_trans (by decide) hR.1, Nat.le_trans (by decide) hR.2⟩ (cat8 [] (Nat.le_of_ble_eq_true rfl)) dX8_look_3 ⟨Nat.zero_le _, Nat.zero_le _⟩ rfl rfl (fun H locs hh hS => ?_)
  refine q_astore (lv' := [(4, .inr q3), (0, .inr (some t0)), (1, .inl v1), (2, .inl v2), (3, .inl v3)]) X dX8_look_6 hl (by decide) rfl (fun ls hl => ?_)
  refine q_aload X dX8_look_8 hl 0 rfl ?_
  refine q_ifnull (tgt := 26) X dX8_look_10 (by decide) (fun c10 => ?_) (fun c10 => ?_)
  · rw [if_pos c10] at h
    exact K_X8_look_26 X hret hlk hR hh hS (lk_sub hl [] rfl) h
  · rw [if_neg c10] at h
    refine q_iload_n X dX8_look_13 rfl hl 4 rfl ?_
    refine lv_if_lt (tgt := 26) X.1 X.2.1 dX8_look_14 (by decide) (fun c14 => ?_) (fun c14 => ?_)
    · rw [if_pos c14] at h
      exact K_X8_look_26 X hret hlk hR hh hS (lk_sub hl [] rfl) h
    · rw [if_neg c14] at h
      refine q_iload_n X dX8_look_17 rfl hl 4 rfl ?_
      refine q_aload X dX8_look_18 hl 0 rfl ?_
      obtain ⟨t20, e_t20, h⟩ := o_b h
      refine q_gI X hh fa_X8_67 rfl e_t20 dX8_look_20 ?_
      refine lv_icmp_lt (tgt := 28) X.1 X.2.1 dX8_look_23 (by decide) (fun c23 => ?_) (fun c23 => ?_)
      · rw [if_pos c23] at h
        refine q_aload X dX8_look_28 hl 0 rfl ?_
        obtain ⟨t30, e_t30, h⟩ := o_b h
        refine q_gR X hh fa_X8_72 rfl e_t30 dX8_look_30 ?_
        refine q_iload_n X dX8_look_33 rfl hl 4 rfl ?_
        obtain ⟨t34, e_t34, h⟩ := o_b h
        refine q_ldI X hh e_t34 dX8_look_34 ?_
        cases h
        exact q_iret X hret hlk hh hS dX8_look_35
      · rw [if_neg c23] at h
        exact K_X8_look_26 X hret hlk hR hh hS (lk_sub hl [] rfl) h
set_option maxRecDepth 100000 in
theorem M_X8_look (l : Launch) (D : va_G) (dA : Nat → ClassId) (base : Nat) (σ : hp) (t0 : Nat) (v1 : Int32) (v2 : Int32) (v3 : Int32) {z : Int32} (h : S_X8_look σ t0 v1 v2 v3 = some z) : mt l yX8_look cX8_look 5 (some .int) 2 43 D dA base σ [.ref t0, .int v1, .int v2, .int v3] (some (.int z)) σ 0 0 := by
  refine Met.ofW (cc := cX8_look) (maxL := 5) (ret := some .int) (by decide) rfl ?_
  intro p e s m args below meth c s₁ B hml hv
  obtain ⟨rfl, hh, hK⟩ := hv
  have X : cx p s m ([.ref t0, .int v1, .int v2, .int v3] : List Value).toArray c cX8_look RX8 5 D dA := ⟨B.exec, B.bytes, findClass_of_methodNamed B.named, hml, fun w hw => atoms_spec (ws := .code yX8_look cX8_look 5 (some .int) :: G) B.pre w (List.mem_cons_of_mem _ hw), hK⟩
  have hl := lk_entry [.inr (some t0), .inl v1, .inl v2, .inl v3] (n := 5) (Nat.le_of_ble_eq_true rfl)
  rw [lg_entry_eq]
  have hl : lk ((lg_sl ([.ref t0, .int v1, .int v2, .int v3] : List Value) ++ List.replicate (5 - (lg_sl ([.ref t0, .int v1, .int v2, .int v3] : List Value)).length) Slot.unset).toArray) 5 [(0, .inr (some t0)), (1, .inl v1), (2, .inl v2), (3, .inl v3)] := hl
  generalize (lg_sl ([.ref t0, .int v1, .int v2, .int v3] : List Value) ++ List.replicate (5 - (lg_sl ([.ref t0, .int v1, .int v2, .int v3] : List Value)).length) Slot.unset).toArray = ls at hl ⊢
  exact K_X8_look_0 X B.returns B.notSynchronized ⟨Nat.le_refl _, Nat.le_refl _⟩ hh va_S.rf hl h
set_option maxHeartbeats 4000000 in
set_option maxRecDepth 100000 in
theorem K_X8_told_0 {p : Program} {l : Launch} {e : Env} {R : Room} {s : State} {m : MethodId} {args : Array Value} {below : List Frame} {meth : Method} {c : Code} {D : va_G} {dA : Nat → ClassId} {base : Nat} {z : Int32} (X : cx p s m args c cX8_told RX8 4 D dA) (hret : meth.sig.returnType = some .int) (hlk : meth.locks = false) (hR : 1 ≤ R.frames ∧ 20 ≤ R.locals) {σ : hp} {t0 : Nat} {v1 : Int32} {v2 : Int32} {H : Heap} {locs : List Loc} {ls : Array Slot} (hh : hw D dA base σ H) (hS : hs base s.heap H locs) (hl : lk ls 4 [(0, .inr (some t0)), (1, .inl v1), (2, .inl v2)]) (h : S_X8_told σ t0 v1 v2 = some z) : W p l e R s m args below meth c H locs 0 0 (MQ below (qG D dA base (some (.int z)) σ) args s 0 0 (fun q => base ≤ q)) (F0 m 0 ls []) := by
  unfold S_X8_told at h
  refine q_iload_n X dX8_told_0 rfl hl 1 rfl ?_
  obtain ⟨q1, e_q1, h⟩ := o_b h
  refine q_cS (As := [.int v1]) X hh hS hl cf_X8_33 rfl (M_X8_isSite l D dA base σ v1 e_q1) ⟨Nat.le_trans (by decide) hR.1, Nat.le_trans (by decide) hR.2⟩ (cat8 [] (Nat.le_of_ble_eq_true rfl)) dX8_told_1 ⟨Nat.zero_le _, Nat.zero_le _⟩ rfl rfl (fun H locs hh hS => ?_)
  refine lv_if_ne (tgt := 9) X.1 X.2.1 dX8_told_4 (by decide) (fun c4 => ?_) (fun c4 => ?_)
  · rw [if_neg c4] at h
    refine q_aload_n X dX8_told_9 rfl hl 0 rfl ?_
    obtain ⟨t10, e_t10, h⟩ := o_b h
    refine q_gR X hh fa_X8_21 rfl e_t10 dX8_told_10 ?_
    refine q_iload_n X dX8_told_13 rfl hl 1 rfl ?_
    obtain ⟨t14, e_t14, h⟩ := o_b h
    refine q_ldQ X hh (by decide) rfl e_t14 dX8_told_14 ?_
    refine q_astore_n (lv' := [(3, .inr t14), (0, .inr (some t0)), (1, .inl v1), (2, .inl v2)]) X dX8_told_15 rfl hl (by decide) rfl (fun ls hl => ?_)
    refine q_iload_n X dX8_told_16 rfl hl 3 rfl ?_
    by_cases c17_0 : v2 = (0 : Int32)
    · rw [if_pos c17_0] at h
      refine q_tin (tgt := 56) X dX8_told_17 c17_0 (by decide) (by decide) rfl (by decide) ?_
      refine q_aload_n X dX8_told_56 rfl hl 0 rfl ?_
      obtain ⟨t57, e_t57, h⟩ := o_b h
      refine q_gR X hh fa_X8_37 rfl e_t57 dX8_told_57 ?_
      obtain ⟨b60, e_b60, h⟩ := o_b h
      obtain ⟨q60, e_q60, h⟩ := o_b h
      refine q_cV (As := []) X hh hS hl cf_X8_86 (cN := 0) rfl rfl e_b60 rfl (M_X0_jobsLeft l D dA base σ b60  e_q60) ⟨Nat.le_trans (by decide) hR.1, Nat.le_trans (by decide) hR.2⟩ (cat8 [] (Nat.le_of_ble_eq_true rfl)) dX8_told_60 ⟨Nat.zero_le _, Nat.zero_le _⟩ rfl rfl (fun H locs hh hS => ?_)
      cases h
      exact q_iret X hret hlk hh hS dX8_told_63
    · rw [if_neg c17_0] at h
      by_cases c17_1 : v2 = (1 : Int32)
      · rw [if_pos c17_1] at h
        refine q_tin (tgt := 64) X dX8_told_17 c17_1 (by decide) (by decide) rfl (by decide) ?_
        refine q_aload_n X dX8_told_64 rfl hl 0 rfl ?_
        obtain ⟨t65, e_t65, h⟩ := o_b h
        refine q_gR X hh fa_X8_37 rfl e_t65 dX8_told_65 ?_
        obtain ⟨t68, e_t68, h⟩ := o_b h
        refine q_gI X hh fa_X8_89 rfl e_t68 dX8_told_68 ?_
        cases h
        exact q_iret X hret hlk hh hS dX8_told_71
      · rw [if_neg c17_1] at h
        by_cases c17_2 : v2 = (2 : Int32)
        · rw [if_pos c17_2] at h
          refine q_tin (tgt := 72) X dX8_told_17 c17_2 (by decide) (by decide) rfl (by decide) ?_
          refine q_aload_n X dX8_told_72 rfl hl 0 rfl ?_
          obtain ⟨t73, e_t73, h⟩ := o_b h
          refine q_gI X hh fa_X8_47 rfl e_t73 dX8_told_73 ?_
          cases h
          exact q_iret X hret hlk hh hS dX8_told_76
        · rw [if_neg c17_2] at h
          by_cases c17_3 : v2 = (3 : Int32)
          · rw [if_pos c17_3] at h
            refine q_tin (tgt := 77) X dX8_told_17 c17_3 (by decide) (by decide) rfl (by decide) ?_
            refine q_aload_n X dX8_told_77 rfl hl 0 rfl ?_
            obtain ⟨t78, e_t78, h⟩ := o_b h
            refine q_gR X hh fa_X8_92 rfl e_t78 dX8_told_78 ?_
            obtain ⟨t81, e_t81, h⟩ := o_b h
            refine q_gI X hh fa_X8_96 rfl e_t81 dX8_told_81 ?_
            cases h
            exact q_iret X hret hlk hh hS dX8_told_84
          · rw [if_neg c17_3] at h
            by_cases c17_4 : v2 = (4 : Int32)
            · rw [if_pos c17_4] at h
              refine q_tin (tgt := 85) X dX8_told_17 c17_4 (by decide) (by decide) rfl (by decide) ?_
              refine q_aload_n X dX8_told_85 rfl hl 0 rfl ?_
              obtain ⟨t86, e_t86, h⟩ := o_b h
              refine q_gR X hh fa_X8_92 rfl e_t86 dX8_told_86 ?_
              obtain ⟨t89, e_t89, h⟩ := o_b h
              refine q_gI X hh fa_X8_101 rfl e_t89 dX8_told_89 ?_
              cases h
              exact q_iret X hret hlk hh hS dX8_told_92
            · rw [if_neg c17_4] at h
              by_cases c17_5 : v2 = (5 : Int32)
              · rw [if_pos c17_5] at h
                refine q_tin (tgt := 93) X dX8_told_17 c17_5 (by decide) (by decide) rfl (by decide) ?_
                refine q_aload_n X dX8_told_93 rfl hl 0 rfl ?_
                obtain ⟨t94, e_t94, h⟩ := o_b h
                refine q_gR X hh fa_X8_37 rfl e_t94 dX8_told_94 ?_
                obtain ⟨t97, e_t97, h⟩ := o_b h
                refine q_gI X hh fa_X8_104 rfl e_t97 dX8_told_97 ?_
                cases h
                exact q_iret X hret hlk hh hS dX8_told_100
              · rw [if_neg c17_5] at h
                have n17_0 := lv_neT (a := 0) c17_0 (by decide)
                have n17_1 := lv_neT (a := 1) c17_1 (by decide)
                have n17_2 := lv_neT (a := 2) c17_2 (by decide)
                have n17_3 := lv_neT (a := 3) c17_3 (by decide)
                have n17_4 := lv_neT (a := 4) c17_4 (by decide)
                have n17_5 := lv_neT (a := 5) c17_5 (by decide)
                refine lv_tableOut (tgt := 101) X.1 X.2.1 dX8_told_17 (by omega) (by decide) ?_
                refine lv_iconst (v := (-1 : Int32)) X.1 X.2.1 dX8_told_101 (by decide) ?_
                cases h
                exact q_iret X hret hlk hh hS dX8_told_102
  · rw [if_pos c4] at h
    refine lv_iconst (v := (-1 : Int32)) X.1 X.2.1 dX8_told_7 (by decide) ?_
    cases h
    exact q_iret X hret hlk hh hS dX8_told_8
set_option maxRecDepth 100000 in
theorem M_X8_told (l : Launch) (D : va_G) (dA : Nat → ClassId) (base : Nat) (σ : hp) (t0 : Nat) (v1 : Int32) (v2 : Int32) {z : Int32} (h : S_X8_told σ t0 v1 v2 = some z) : mt l yX8_told cX8_told 4 (some .int) 1 20 D dA base σ [.ref t0, .int v1, .int v2] (some (.int z)) σ 0 0 := by
  refine Met.ofW (cc := cX8_told) (maxL := 4) (ret := some .int) (by decide) rfl ?_
  intro p e s m args below meth c s₁ B hml hv
  obtain ⟨rfl, hh, hK⟩ := hv
  have X : cx p s m ([.ref t0, .int v1, .int v2] : List Value).toArray c cX8_told RX8 4 D dA := ⟨B.exec, B.bytes, findClass_of_methodNamed B.named, hml, fun w hw => atoms_spec (ws := .code yX8_told cX8_told 4 (some .int) :: G) B.pre w (List.mem_cons_of_mem _ hw), hK⟩
  have hl := lk_entry [.inr (some t0), .inl v1, .inl v2] (n := 4) (Nat.le_of_ble_eq_true rfl)
  rw [lg_entry_eq]
  have hl : lk ((lg_sl ([.ref t0, .int v1, .int v2] : List Value) ++ List.replicate (4 - (lg_sl ([.ref t0, .int v1, .int v2] : List Value)).length) Slot.unset).toArray) 4 [(0, .inr (some t0)), (1, .inl v1), (2, .inl v2)] := hl
  generalize (lg_sl ([.ref t0, .int v1, .int v2] : List Value) ++ List.replicate (4 - (lg_sl ([.ref t0, .int v1, .int v2] : List Value)).length) Slot.unset).toArray = ls at hl ⊢
  exact K_X8_told_0 X B.returns B.notSynchronized ⟨Nat.le_refl _, Nat.le_refl _⟩ hh va_S.rf hl h
set_option maxHeartbeats 4000000 in
set_option maxRecDepth 100000 in
theorem K_X8_queued_27 {p : Program} {l : Launch} {e : Env} {R : Room} {s : State} {m : MethodId} {args : Array Value} {below : List Frame} {meth : Method} {c : Code} {D : va_G} {dA : Nat → ClassId} {base : Nat} {z : Int32} (X : cx p s m args c cX8_queued RX8 3 D dA) (hret : meth.sig.returnType = some .int) (hlk : meth.locks = false) (hR : 1 ≤ R.frames ∧ 20 ≤ R.locals) {σ : hp} {H : Heap} {locs : List Loc} {ls : Array Slot} (hh : hw D dA base σ H) (hS : hs base s.heap H locs) (hl : lk ls 3 []) (h : S_X8_queued_27 σ = some z) : W p l e R s m args below meth c H locs 0 0 (MQ below (qG D dA base (some (.int z)) σ) args s 0 0 (fun q => base ≤ q)) (F0 m 27 ls []) := by
  unfold S_X8_queued_27 at h
  refine lv_iconst (v := (-1 : Int32)) X.1 X.2.1 dX8_queued_27 (by decide) ?_
  cases h
  exact q_iret X hret hlk hh hS dX8_queued_28
set_option maxHeartbeats 4000000 in
set_option maxRecDepth 100000 in
theorem K_X8_queued_0 {p : Program} {l : Launch} {e : Env} {R : Room} {s : State} {m : MethodId} {args : Array Value} {below : List Frame} {meth : Method} {c : Code} {D : va_G} {dA : Nat → ClassId} {base : Nat} {z : Int32} (X : cx p s m args c cX8_queued RX8 3 D dA) (hret : meth.sig.returnType = some .int) (hlk : meth.locks = false) (hR : 1 ≤ R.frames ∧ 20 ≤ R.locals) {σ : hp} {t0 : Nat} {v1 : Int32} {v2 : Int32} {H : Heap} {locs : List Loc} {ls : Array Slot} (hh : hw D dA base σ H) (hS : hs base s.heap H locs) (hl : lk ls 3 [(0, .inr (some t0)), (1, .inl v1), (2, .inl v2)]) (h : S_X8_queued σ t0 v1 v2 = some z) : W p l e R s m args below meth c H locs 0 0 (MQ below (qG D dA base (some (.int z)) σ) args s 0 0 (fun q => base ≤ q)) (F0 m 0 ls []) := by
  unfold S_X8_queued at h
  refine q_iload_n X dX8_queued_0 rfl hl 1 rfl ?_
  obtain ⟨q1, e_q1, h⟩ := o_b h
  refine q_cS (As := [.int v1]) X hh hS hl cf_X8_33 rfl (M_X8_isSite l D dA base σ v1 e_q1) ⟨Nat.le_trans (by decide) hR.1, Nat.le_trans (by decide) hR.2⟩ (cat8 [] (Nat.le_of_ble_eq_true rfl)) dX8_queued_1 ⟨Nat.zero_le _, Nat.zero_le _⟩ rfl rfl (fun H locs hh hS => ?_)
  refine lv_if_eq (tgt := 27) X.1 X.2.1 dX8_queued_4 (by decide) (fun c4 => ?_) (fun c4 => ?_)
  · rw [if_pos c4] at h
    exact K_X8_queued_27 X hret hlk hR hh hS (lk_sub hl [] rfl) h
  · rw [if_neg c4] at h
    refine q_iload_n X dX8_queued_7 rfl hl 2 rfl ?_
    refine lv_if_lt (tgt := 27) X.1 X.2.1 dX8_queued_8 (by decide) (fun c8 => ?_) (fun c8 => ?_)
    · rw [if_pos c8] at h
      exact K_X8_queued_27 X hret hlk hR hh hS (lk_sub hl [] rfl) h
    · rw [if_neg c8] at h
      refine q_iload_n X dX8_queued_11 rfl hl 2 rfl ?_
      refine q_aload_n X dX8_queued_12 rfl hl 0 rfl ?_
      obtain ⟨t13, e_t13, h⟩ := o_b h
      refine q_gR X hh fa_X8_21 rfl e_t13 dX8_queued_13 ?_
      refine q_iload_n X dX8_queued_16 rfl hl 1 rfl ?_
      obtain ⟨t17, e_t17, h⟩ := o_b h
      refine q_ldQ X hh (by decide) rfl e_t17 dX8_queued_17 ?_
      obtain ⟨t18, e_t18, h⟩ := o_b h
      refine q_gR X hh fa_X8_37 rfl e_t18 dX8_queued_18 ?_
      obtain ⟨b21, e_b21, h⟩ := o_b h
      obtain ⟨q21, e_q21, h⟩ := o_b h
      refine q_cV (As := []) X hh hS hl cf_X8_86 (cN := 0) rfl rfl e_b21 rfl (M_X0_jobsLeft l D dA base σ b21  e_q21) ⟨Nat.le_trans (by decide) hR.1, Nat.le_trans (by decide) hR.2⟩ (cat8 [.inl v2] (Nat.le_of_ble_eq_true rfl)) dX8_queued_21 ⟨Nat.zero_le _, Nat.zero_le _⟩ rfl rfl (fun H locs hh hS => ?_)
      refine lv_icmp_lt (tgt := 29) X.1 X.2.1 dX8_queued_24 (by decide) (fun c24 => ?_) (fun c24 => ?_)
      · rw [if_pos c24] at h
        refine q_aload_n X dX8_queued_29 rfl hl 0 rfl ?_
        obtain ⟨t30, e_t30, h⟩ := o_b h
        refine q_gR X hh fa_X8_21 rfl e_t30 dX8_queued_30 ?_
        refine q_iload_n X dX8_queued_33 rfl hl 1 rfl ?_
        obtain ⟨t34, e_t34, h⟩ := o_b h
        refine q_ldQ X hh (by decide) rfl e_t34 dX8_queued_34 ?_
        obtain ⟨t35, e_t35, h⟩ := o_b h
        refine q_gR X hh fa_X8_37 rfl e_t35 dX8_queued_35 ?_
        obtain ⟨t38, e_t38, h⟩ := o_b h
        refine q_gI X hh fa_X8_107 rfl e_t38 dX8_queued_38 ?_
        refine q_iload_n X dX8_queued_41 rfl hl 2 rfl ?_
        refine lv_iadd X.1 X.2.1 dX8_queued_42 ?_
        cases h
        exact q_iret X hret hlk hh hS dX8_queued_43
      · rw [if_neg c24] at h
        exact K_X8_queued_27 X hret hlk hR hh hS (lk_sub hl [] rfl) h
set_option maxRecDepth 100000 in
theorem M_X8_queued (l : Launch) (D : va_G) (dA : Nat → ClassId) (base : Nat) (σ : hp) (t0 : Nat) (v1 : Int32) (v2 : Int32) {z : Int32} (h : S_X8_queued σ t0 v1 v2 = some z) : mt l yX8_queued cX8_queued 3 (some .int) 1 20 D dA base σ [.ref t0, .int v1, .int v2] (some (.int z)) σ 0 0 := by
  refine Met.ofW (cc := cX8_queued) (maxL := 3) (ret := some .int) (by decide) rfl ?_
  intro p e s m args below meth c s₁ B hml hv
  obtain ⟨rfl, hh, hK⟩ := hv
  have X : cx p s m ([.ref t0, .int v1, .int v2] : List Value).toArray c cX8_queued RX8 3 D dA := ⟨B.exec, B.bytes, findClass_of_methodNamed B.named, hml, fun w hw => atoms_spec (ws := .code yX8_queued cX8_queued 3 (some .int) :: G) B.pre w (List.mem_cons_of_mem _ hw), hK⟩
  have hl := lk_entry [.inr (some t0), .inl v1, .inl v2] (n := 3) (Nat.le_of_ble_eq_true rfl)
  rw [lg_entry_eq]
  have hl : lk ((lg_sl ([.ref t0, .int v1, .int v2] : List Value) ++ List.replicate (3 - (lg_sl ([.ref t0, .int v1, .int v2] : List Value)).length) Slot.unset).toArray) 3 [(0, .inr (some t0)), (1, .inl v1), (2, .inl v2)] := hl
  generalize (lg_sl ([.ref t0, .int v1, .int v2] : List Value) ++ List.replicate (3 - (lg_sl ([.ref t0, .int v1, .int v2] : List Value)).length) Slot.unset).toArray = ls at hl ⊢
  exact K_X8_queued_0 X B.returns B.notSynchronized ⟨Nat.le_refl _, Nat.le_refl _⟩ hh va_S.rf hl h
set_option maxHeartbeats 4000000 in
set_option maxRecDepth 100000 in
theorem K_X8_doneJob_24 {p : Program} {l : Launch} {e : Env} {R : Room} {s : State} {m : MethodId} {args : Array Value} {below : List Frame} {meth : Method} {c : Code} {D : va_G} {dA : Nat → ClassId} {base : Nat} {z : Option Nat} (X : cx p s m args c cX8_doneJob RX8 3 D dA) (hret : meth.sig.returnType = some (.object "SpoolLink$Job")) (hlk : meth.locks = false) (hR : 1 ≤ R.frames ∧ 21 ≤ R.locals) {σ : hp} {w0 : Option Nat} {H : Heap} {locs : List Loc} {ls : Array Slot} (hh : hw D dA base σ H) (hS : hs base s.heap H locs) (hl : lk ls 3 []) (h : S_X8_doneJob_24 σ w0 = some z) : W p l e R s m args below meth c H locs 0 0 (MQ below (qG D dA base (some (va_rf z)) σ) args s 0 0 (fun q => base ≤ q)) (F0 m 24 ls [va_rf w0]) := by
  unfold S_X8_doneJob_24 at h
  cases h
  exact q_aret X hret hlk hh hS dX8_doneJob_24
set_option maxHeartbeats 4000000 in
set_option maxRecDepth 100000 in
theorem K_X8_doneJob_0 {p : Program} {l : Launch} {e : Env} {R : Room} {s : State} {m : MethodId} {args : Array Value} {below : List Frame} {meth : Method} {c : Code} {D : va_G} {dA : Nat → ClassId} {base : Nat} {z : Option Nat} (X : cx p s m args c cX8_doneJob RX8 3 D dA) (hret : meth.sig.returnType = some (.object "SpoolLink$Job")) (hlk : meth.locks = false) (hR : 1 ≤ R.frames ∧ 21 ≤ R.locals) {σ : hp} {t0 : Nat} {v1 : Int32} {v2 : Int32} {H : Heap} {locs : List Loc} {ls : Array Slot} (hh : hw D dA base σ H) (hS : hs base s.heap H locs) (hl : lk ls 3 [(0, .inr (some t0)), (1, .inl v1), (2, .inl v2)]) (h : S_X8_doneJob σ t0 v1 v2 = some z) : W p l e R s m args below meth c H locs 0 0 (MQ below (qG D dA base (some (va_rf z)) σ) args s 0 0 (fun q => base ≤ q)) (F0 m 0 ls []) := by
  unfold S_X8_doneJob at h
  refine q_iload_n X dX8_doneJob_0 rfl hl 1 rfl ?_
  obtain ⟨q1, e_q1, h⟩ := o_b h
  refine q_cS (As := [.int v1]) X hh hS hl cf_X8_33 rfl (M_X8_isSite l D dA base σ v1 e_q1) ⟨Nat.le_trans (by decide) hR.1, Nat.le_trans (by decide) hR.2⟩ (cat8 [] (Nat.le_of_ble_eq_true rfl)) dX8_doneJob_1 ⟨Nat.zero_le _, Nat.zero_le _⟩ rfl rfl (fun H locs hh hS => ?_)
  refine lv_if_eq (tgt := 23) X.1 X.2.1 dX8_doneJob_4 (by decide) (fun c4 => ?_) (fun c4 => ?_)
  · rw [if_pos c4] at h
    refine q_nul X dX8_doneJob_23 ?_
    exact K_X8_doneJob_24 X hret hlk hR hh hS (lk_sub hl [] rfl) h
  · rw [if_neg c4] at h
    refine q_aload_n X dX8_doneJob_7 rfl hl 0 rfl ?_
    obtain ⟨t8, e_t8, h⟩ := o_b h
    refine q_gR X hh fa_X8_21 rfl e_t8 dX8_doneJob_8 ?_
    refine q_iload_n X dX8_doneJob_11 rfl hl 1 rfl ?_
    obtain ⟨t12, e_t12, h⟩ := o_b h
    refine q_ldQ X hh (by decide) rfl e_t12 dX8_doneJob_12 ?_
    obtain ⟨t13, e_t13, h⟩ := o_b h
    refine q_gR X hh fa_X8_37 rfl e_t13 dX8_doneJob_13 ?_
    refine q_iload_n X dX8_doneJob_16 rfl hl 2 rfl ?_
    obtain ⟨b17, e_b17, h⟩ := o_b h
    obtain ⟨q17, e_q17, h⟩ := o_b h
    refine q_cV (As := [.int v2]) X hh hS hl cf_X8_130 (cN := 0) rfl rfl e_b17 rfl (M_X0_doneJob l D dA base σ b17 v2 e_q17) ⟨Nat.le_trans (by decide) hR.1, Nat.le_trans (by decide) hR.2⟩ (cat8 [] (Nat.le_of_ble_eq_true rfl)) dX8_doneJob_17 ⟨Nat.zero_le _, Nat.zero_le _⟩ rfl rfl (fun H locs hh hS => ?_)
    refine lv_goto (tgt := 24) X.1 X.2.1 dX8_doneJob_20 (by decide) ?_
    exact K_X8_doneJob_24 X hret hlk hR hh hS (lk_sub hl [] rfl) h
set_option maxRecDepth 100000 in
theorem M_X8_doneJob (l : Launch) (D : va_G) (dA : Nat → ClassId) (base : Nat) (σ : hp) (t0 : Nat) (v1 : Int32) (v2 : Int32) {z : Option Nat} (h : S_X8_doneJob σ t0 v1 v2 = some z) : mt l yX8_doneJob cX8_doneJob 3 (some (.object "SpoolLink$Job")) 1 21 D dA base σ [.ref t0, .int v1, .int v2] (some (va_rf z)) σ 0 0 := by
  refine Met.ofW (cc := cX8_doneJob) (maxL := 3) (ret := some (.object "SpoolLink$Job")) (by decide) rfl ?_
  intro p e s m args below meth c s₁ B hml hv
  obtain ⟨rfl, hh, hK⟩ := hv
  have X : cx p s m ([.ref t0, .int v1, .int v2] : List Value).toArray c cX8_doneJob RX8 3 D dA := ⟨B.exec, B.bytes, findClass_of_methodNamed B.named, hml, fun w hw => atoms_spec (ws := .code yX8_doneJob cX8_doneJob 3 (some (.object "SpoolLink$Job")) :: G) B.pre w (List.mem_cons_of_mem _ hw), hK⟩
  have hl := lk_entry [.inr (some t0), .inl v1, .inl v2] (n := 3) (Nat.le_of_ble_eq_true rfl)
  rw [lg_entry_eq]
  have hl : lk ((lg_sl ([.ref t0, .int v1, .int v2] : List Value) ++ List.replicate (3 - (lg_sl ([.ref t0, .int v1, .int v2] : List Value)).length) Slot.unset).toArray) 3 [(0, .inr (some t0)), (1, .inl v1), (2, .inl v2)] := hl
  generalize (lg_sl ([.ref t0, .int v1, .int v2] : List Value) ++ List.replicate (3 - (lg_sl ([.ref t0, .int v1, .int v2] : List Value)).length) Slot.unset).toArray = ls at hl ⊢
  exact K_X8_doneJob_0 X B.returns B.notSynchronized ⟨Nat.le_refl _, Nat.le_refl _⟩ hh va_S.rf hl h
set_option maxHeartbeats 4000000 in
set_option maxRecDepth 100000 in
theorem K_X8_executed_19 {p : Program} {l : Launch} {e : Env} {R : Room} {s : State} {m : MethodId} {args : Array Value} {below : List Frame} {meth : Method} {c : Code} {D : va_G} {dA : Nat → ClassId} {base : Nat} {z : Int32} (X : cx p s m args c cX8_executed RX8 4 D dA) (hret : meth.sig.returnType = some .int) (hlk : meth.locks = false) (hR : 2 ≤ R.frames ∧ 43 ≤ R.locals) {σ : hp} {w0 : Int32} {H : Heap} {locs : List Loc} {ls : Array Slot} (hh : hw D dA base σ H) (hS : hs base s.heap H locs) (hl : lk ls 4 []) (h : S_X8_executed_19 σ w0 = some z) : W p l e R s m args below meth c H locs 0 0 (MQ below (qG D dA base (some (.int z)) σ) args s 0 0 (fun q => base ≤ q)) (F0 m 19 ls [.int w0]) := by
  unfold S_X8_executed_19 at h
  cases h
  exact q_iret X hret hlk hh hS dX8_executed_19
set_option maxHeartbeats 4000000 in
set_option maxRecDepth 100000 in
theorem K_X8_executed_0 {p : Program} {l : Launch} {e : Env} {R : Room} {s : State} {m : MethodId} {args : Array Value} {below : List Frame} {meth : Method} {c : Code} {D : va_G} {dA : Nat → ClassId} {base : Nat} {z : Int32} (X : cx p s m args c cX8_executed RX8 4 D dA) (hret : meth.sig.returnType = some .int) (hlk : meth.locks = false) (hR : 2 ≤ R.frames ∧ 43 ≤ R.locals) {σ : hp} {t0 : Nat} {v1 : Int32} {v2 : Int32} {H : Heap} {locs : List Loc} {ls : Array Slot} (hh : hw D dA base σ H) (hS : hs base s.heap H locs) (hl : lk ls 4 [(0, .inr (some t0)), (1, .inl v1), (2, .inl v2)]) (h : S_X8_executed σ t0 v1 v2 = some z) : W p l e R s m args below meth c H locs 0 0 (MQ below (qG D dA base (some (.int z)) σ) args s 0 0 (fun q => base ≤ q)) (F0 m 0 ls []) := by
  unfold S_X8_executed at h
  refine q_aload_n X dX8_executed_0 rfl hl 0 rfl ?_
  refine q_iload_n X dX8_executed_1 rfl hl 1 rfl ?_
  refine q_iload_n X dX8_executed_2 rfl hl 2 rfl ?_
  obtain ⟨b3, e_b3, h⟩ := o_b h
  obtain ⟨q3, e_q3, h⟩ := o_b h
  refine q_cV (As := [.int v1, .int v2]) X hh hS hl cf_X8_110 (cN := 8) rfl rfl e_b3 rfl (M_X8_doneJob l D dA base σ b3 v1 v2 e_q3) ⟨Nat.le_trans (by decide) hR.1, Nat.le_trans (by decide) hR.2⟩ (cat8 [] (Nat.le_of_ble_eq_true rfl)) dX8_executed_3 ⟨Nat.zero_le _, Nat.zero_le _⟩ rfl rfl (fun H locs hh hS => ?_)
  refine q_astore_n (lv' := [(3, .inr q3), (0, .inr (some t0)), (1, .inl v1), (2, .inl v2)]) X dX8_executed_6 rfl hl (by decide) rfl (fun ls hl => ?_)
  refine q_aload_n X dX8_executed_7 rfl hl 0 rfl ?_
  refine q_ifnonnull (tgt := 15) X dX8_executed_8 (by decide) (fun c8 => ?_) (fun c8 => ?_)
  · rw [if_neg c8] at h
    refine q_aload_n X dX8_executed_15 rfl hl 0 rfl ?_
    obtain ⟨t16, e_t16, h⟩ := o_b h
    refine q_gI X hh fa_X8_114 rfl e_t16 dX8_executed_16 ?_
    exact K_X8_executed_19 X hret hlk hR hh hS (lk_sub hl [] rfl) h
  · rw [if_pos c8] at h
    refine lv_iconst (v := (-1 : Int32)) X.1 X.2.1 dX8_executed_11 (by decide) ?_
    refine lv_goto (tgt := 19) X.1 X.2.1 dX8_executed_12 (by decide) ?_
    exact K_X8_executed_19 X hret hlk hR hh hS (lk_sub hl [] rfl) h
set_option maxRecDepth 100000 in
theorem M_X8_executed (l : Launch) (D : va_G) (dA : Nat → ClassId) (base : Nat) (σ : hp) (t0 : Nat) (v1 : Int32) (v2 : Int32) {z : Int32} (h : S_X8_executed σ t0 v1 v2 = some z) : mt l yX8_executed cX8_executed 4 (some .int) 2 43 D dA base σ [.ref t0, .int v1, .int v2] (some (.int z)) σ 0 0 := by
  refine Met.ofW (cc := cX8_executed) (maxL := 4) (ret := some .int) (by decide) rfl ?_
  intro p e s m args below meth c s₁ B hml hv
  obtain ⟨rfl, hh, hK⟩ := hv
  have X : cx p s m ([.ref t0, .int v1, .int v2] : List Value).toArray c cX8_executed RX8 4 D dA := ⟨B.exec, B.bytes, findClass_of_methodNamed B.named, hml, fun w hw => atoms_spec (ws := .code yX8_executed cX8_executed 4 (some .int) :: G) B.pre w (List.mem_cons_of_mem _ hw), hK⟩
  have hl := lk_entry [.inr (some t0), .inl v1, .inl v2] (n := 4) (Nat.le_of_ble_eq_true rfl)
  rw [lg_entry_eq]
  have hl : lk ((lg_sl ([.ref t0, .int v1, .int v2] : List Value) ++ List.replicate (4 - (lg_sl ([.ref t0, .int v1, .int v2] : List Value)).length) Slot.unset).toArray) 4 [(0, .inr (some t0)), (1, .inl v1), (2, .inl v2)] := hl
  generalize (lg_sl ([.ref t0, .int v1, .int v2] : List Value) ++ List.replicate (4 - (lg_sl ([.ref t0, .int v1, .int v2] : List Value)).length) Slot.unset).toArray = ls at hl ⊢
  exact K_X8_executed_0 X B.returns B.notSynchronized ⟨Nat.le_refl _, Nat.le_refl _⟩ hh va_S.rf hl h
set_option maxHeartbeats 4000000 in
set_option maxRecDepth 100000 in
theorem K_X8_file_27 {p : Program} {l : Launch} {e : Env} {R : Room} {s : State} {m : MethodId} {args : Array Value} {below : List Frame} {meth : Method} {c : Code} {D : va_G} {dA : Nat → ClassId} {base : Nat} {z : Int32} (X : cx p s m args c cX8_file RX8 5 D dA) (hret : meth.sig.returnType = some .int) (hlk : meth.locks = false) (hR : 2 ≤ R.frames ∧ 43 ≤ R.locals) {σ : hp} {H : Heap} {locs : List Loc} {ls : Array Slot} (hh : hw D dA base σ H) (hS : hs base s.heap H locs) (hl : lk ls 5 []) (h : S_X8_file_27 σ = some z) : W p l e R s m args below meth c H locs 0 0 (MQ below (qG D dA base (some (.int z)) σ) args s 0 0 (fun q => base ≤ q)) (F0 m 27 ls []) := by
  unfold S_X8_file_27 at h
  refine lv_iconst (v := (-1 : Int32)) X.1 X.2.1 dX8_file_27 (by decide) ?_
  cases h
  exact q_iret X hret hlk hh hS dX8_file_28
set_option maxHeartbeats 4000000 in
set_option maxRecDepth 100000 in
theorem K_X8_file_0 {p : Program} {l : Launch} {e : Env} {R : Room} {s : State} {m : MethodId} {args : Array Value} {below : List Frame} {meth : Method} {c : Code} {D : va_G} {dA : Nat → ClassId} {base : Nat} {z : Int32} (X : cx p s m args c cX8_file RX8 5 D dA) (hret : meth.sig.returnType = some .int) (hlk : meth.locks = false) (hR : 2 ≤ R.frames ∧ 43 ≤ R.locals) {σ : hp} {t0 : Nat} {v1 : Int32} {v2 : Int32} {v3 : Int32} {H : Heap} {locs : List Loc} {ls : Array Slot} (hh : hw D dA base σ H) (hS : hs base s.heap H locs) (hl : lk ls 5 [(0, .inr (some t0)), (1, .inl v1), (2, .inl v2), (3, .inl v3)]) (h : S_X8_file σ t0 v1 v2 v3 = some z) : W p l e R s m args below meth c H locs 0 0 (MQ below (qG D dA base (some (.int z)) σ) args s 0 0 (fun q => base ≤ q)) (F0 m 0 ls []) := by
  unfold S_X8_file at h
  refine q_aload_n X dX8_file_0 rfl hl 0 rfl ?_
  refine q_iload_n X dX8_file_1 rfl hl 1 rfl ?_
  refine q_iload_n X dX8_file_2 rfl hl 2 rfl ?_
  obtain ⟨b3, e_b3, h⟩ := o_b h
  obtain ⟨q3, e_q3, h⟩ := o_b h
  refine q_cV (As := [.int v1, .int v2]) X hh hS hl cf_X8_110 (cN := 8) rfl rfl e_b3 rfl (M_X8_doneJob l D dA base σ b3 v1 v2 e_q3) ⟨Nat.le_trans (by decide) hR.1, Nat.le_trans (by decide) hR.2⟩ (cat8 [] (Nat.le_of_ble_eq_true rfl)) dX8_file_3 ⟨Nat.zero_le _, Nat.zero_le _⟩ rfl rfl (fun H locs hh hS => ?_)
  refine q_astore (lv' := [(4, .inr q3), (0, .inr (some t0)), (1, .inl v1), (2, .inl v2), (3, .inl v3)]) X dX8_file_6 hl (by decide) rfl (fun ls hl => ?_)
  refine q_aload X dX8_file_8 hl 0 rfl ?_
  refine q_ifnull (tgt := 27) X dX8_file_10 (by decide) (fun c10 => ?_) (fun c10 => ?_)
  · rw [if_pos c10] at h
    exact K_X8_file_27 X hret hlk hR hh hS (lk_sub hl [] rfl) h
  · rw [if_neg c10] at h
    refine q_iload_n X dX8_file_13 rfl hl 4 rfl ?_
    refine lv_if_lt (tgt := 27) X.1 X.2.1 dX8_file_14 (by decide) (fun c14 => ?_) (fun c14 => ?_)
    · rw [if_pos c14] at h
      exact K_X8_file_27 X hret hlk hR hh hS (lk_sub hl [] rfl) h
    · rw [if_neg c14] at h
      refine q_iload_n X dX8_file_17 rfl hl 4 rfl ?_
      refine q_aload X dX8_file_18 hl 0 rfl ?_
      obtain ⟨t20, e_t20, h⟩ := o_b h
      refine q_gR X hh fa_X8_119 rfl e_t20 dX8_file_20 ?_
      obtain ⟨t23, e_t23, h⟩ := o_b h
      refine q_len X hh (t := 0) rfl e_t23 dX8_file_23 ?_
      refine lv_icmp_lt (tgt := 29) X.1 X.2.1 dX8_file_24 (by decide) (fun c24 => ?_) (fun c24 => ?_)
      · rw [if_pos c24] at h
        refine q_aload X dX8_file_29 hl 0 rfl ?_
        obtain ⟨t31, e_t31, h⟩ := o_b h
        refine q_gR X hh fa_X8_119 rfl e_t31 dX8_file_31 ?_
        refine q_iload_n X dX8_file_34 rfl hl 4 rfl ?_
        obtain ⟨t35, e_t35, h⟩ := o_b h
        refine q_ldI X hh e_t35 dX8_file_35 ?_
        cases h
        exact q_iret X hret hlk hh hS dX8_file_36
      · rw [if_neg c24] at h
        exact K_X8_file_27 X hret hlk hR hh hS (lk_sub hl [] rfl) h
set_option maxRecDepth 100000 in
theorem M_X8_file (l : Launch) (D : va_G) (dA : Nat → ClassId) (base : Nat) (σ : hp) (t0 : Nat) (v1 : Int32) (v2 : Int32) (v3 : Int32) {z : Int32} (h : S_X8_file σ t0 v1 v2 v3 = some z) : mt l yX8_file cX8_file 5 (some .int) 2 43 D dA base σ [.ref t0, .int v1, .int v2, .int v3] (some (.int z)) σ 0 0 := by
  refine Met.ofW (cc := cX8_file) (maxL := 5) (ret := some .int) (by decide) rfl ?_
  intro p e s m args below meth c s₁ B hml hv
  obtain ⟨rfl, hh, hK⟩ := hv
  have X : cx p s m ([.ref t0, .int v1, .int v2, .int v3] : List Value).toArray c cX8_file RX8 5 D dA := ⟨B.exec, B.bytes, findClass_of_methodNamed B.named, hml, fun w hw => atoms_spec (ws := .code yX8_file cX8_file 5 (some .int) :: G) B.pre w (List.mem_cons_of_mem _ hw), hK⟩
  have hl := lk_entry [.inr (some t0), .inl v1, .inl v2, .inl v3] (n := 5) (Nat.le_of_ble_eq_true rfl)
  rw [lg_entry_eq]
  have hl : lk ((lg_sl ([.ref t0, .int v1, .int v2, .int v3] : List Value) ++ List.replicate (5 - (lg_sl ([.ref t0, .int v1, .int v2, .int v3] : List Value)).length) Slot.unset).toArray) 5 [(0, .inr (some t0)), (1, .inl v1), (2, .inl v2), (3, .inl v3)] := hl
  generalize (lg_sl ([.ref t0, .int v1, .int v2, .int v3] : List Value) ++ List.replicate (5 - (lg_sl ([.ref t0, .int v1, .int v2, .int v3] : List Value)).length) Slot.unset).toArray = ls at hl ⊢
  exact K_X8_file_0 X B.returns B.notSynchronized ⟨Nat.le_refl _, Nat.le_refl _⟩ hh va_S.rf hl h
set_option maxHeartbeats 4000000 in
set_option maxRecDepth 100000 in
theorem K_X8_times_27 {p : Program} {l : Launch} {e : Env} {R : Room} {s : State} {m : MethodId} {args : Array Value} {below : List Frame} {meth : Method} {c : Code} {D : va_G} {dA : Nat → ClassId} {base : Nat} {z : Int32} (X : cx p s m args c cX8_times RX8 3 D dA) (hret : meth.sig.returnType = some .int) (hlk : meth.locks = false) (hR : 1 ≤ R.frames ∧ 22 ≤ R.locals) {σ : hp} {H : Heap} {locs : List Loc} {ls : Array Slot} (hh : hw D dA base σ H) (hS : hs base s.heap H locs) (hl : lk ls 3 []) (h : S_X8_times_27 σ = some z) : W p l e R s m args below meth c H locs 0 0 (MQ below (qG D dA base (some (.int z)) σ) args s 0 0 (fun q => base ≤ q)) (F0 m 27 ls []) := by
  unfold S_X8_times_27 at h
  refine lv_iconst (v := (-1 : Int32)) X.1 X.2.1 dX8_times_27 (by decide) ?_
  cases h
  exact q_iret X hret hlk hh hS dX8_times_28
set_option maxHeartbeats 4000000 in
set_option maxRecDepth 100000 in
theorem K_X8_times_52 {p : Program} {l : Launch} {e : Env} {R : Room} {s : State} {m : MethodId} {args : Array Value} {below : List Frame} {meth : Method} {c : Code} {D : va_G} {dA : Nat → ClassId} {base : Nat} {z : Int32} (X : cx p s m args c cX8_times RX8 3 D dA) (hret : meth.sig.returnType = some .int) (hlk : meth.locks = false) (hR : 1 ≤ R.frames ∧ 22 ≤ R.locals) {σ : hp} {w0 : Int32} {H : Heap} {locs : List Loc} {ls : Array Slot} (hh : hw D dA base σ H) (hS : hs base s.heap H locs) (hl : lk ls 3 []) (h : S_X8_times_52 σ w0 = some z) : W p l e R s m args below meth c H locs 0 0 (MQ below (qG D dA base (some (.int z)) σ) args s 0 0 (fun q => base ≤ q)) (F0 m 52 ls [.int w0]) := by
  unfold S_X8_times_52 at h
  cases h
  exact q_iret X hret hlk hh hS dX8_times_52
set_option maxHeartbeats 4000000 in
set_option maxRecDepth 100000 in
theorem K_X8_times_0 {p : Program} {l : Launch} {e : Env} {R : Room} {s : State} {m : MethodId} {args : Array Value} {below : List Frame} {meth : Method} {c : Code} {D : va_G} {dA : Nat → ClassId} {base : Nat} {z : Int32} (X : cx p s m args c cX8_times RX8 3 D dA) (hret : meth.sig.returnType = some .int) (hlk : meth.locks = false) (hR : 1 ≤ R.frames ∧ 22 ≤ R.locals) {σ : hp} {t0 : Nat} {v1 : Int32} {v2 : Int32} {H : Heap} {locs : List Loc} {ls : Array Slot} (hh : hw D dA base σ H) (hS : hs base s.heap H locs) (hl : lk ls 3 [(0, .inr (some t0)), (1, .inl v1), (2, .inl v2)]) (h : S_X8_times σ t0 v1 v2 = some z) : W p l e R s m args below meth c H locs 0 0 (MQ below (qG D dA base (some (.int z)) σ) args s 0 0 (fun q => base ≤ q)) (F0 m 0 ls []) := by
  unfold S_X8_times at h
  refine q_iload_n X dX8_times_0 rfl hl 1 rfl ?_
  obtain ⟨q1, e_q1, h⟩ := o_b h
  refine q_cS (As := [.int v1]) X hh hS hl cf_X8_33 rfl (M_X8_isSite l D dA base σ v1 e_q1) ⟨Nat.le_trans (by decide) hR.1, Nat.le_trans (by decide) hR.2⟩ (cat8 [] (Nat.le_of_ble_eq_true rfl)) dX8_times_1 ⟨Nat.zero_le _, Nat.zero_le _⟩ rfl rfl (fun H locs hh hS => ?_)
  refine lv_if_eq (tgt := 27) X.1 X.2.1 dX8_times_4 (by decide) (fun c4 => ?_) (fun c4 => ?_)
  · rw [if_pos c4] at h
    exact K_X8_times_27 X hret hlk hR hh hS (lk_sub hl [] rfl) h
  · rw [if_neg c4] at h
    refine q_iload_n X dX8_times_7 rfl hl 2 rfl ?_
    refine lv_if_lt (tgt := 27) X.1 X.2.1 dX8_times_8 (by decide) (fun c8 => ?_) (fun c8 => ?_)
    · rw [if_pos c8] at h
      exact K_X8_times_27 X hret hlk hR hh hS (lk_sub hl [] rfl) h
    · rw [if_neg c8] at h
      refine q_iload_n X dX8_times_11 rfl hl 2 rfl ?_
      refine q_aload_n X dX8_times_12 rfl hl 0 rfl ?_
      obtain ⟨t13, e_t13, h⟩ := o_b h
      refine q_gR X hh fa_X8_21 rfl e_t13 dX8_times_13 ?_
      refine q_iload_n X dX8_times_16 rfl hl 1 rfl ?_
      obtain ⟨t17, e_t17, h⟩ := o_b h
      refine q_ldQ X hh (by decide) rfl e_t17 dX8_times_17 ?_
      obtain ⟨t18, e_t18, h⟩ := o_b h
      refine q_gR X hh fa_X8_37 rfl e_t18 dX8_times_18 ?_
      obtain ⟨t21, e_t21, h⟩ := o_b h
      refine q_gI X hh fa_X8_120 rfl e_t21 dX8_times_21 ?_
      refine lv_icmp_lt (tgt := 29) X.1 X.2.1 dX8_times_24 (by decide) (fun c24 => ?_) (fun c24 => ?_)
      · rw [if_pos c24] at h
        refine q_aload_n X dX8_times_29 rfl hl 0 rfl ?_
        obtain ⟨t30, e_t30, h⟩ := o_b h
        refine q_gR X hh fa_X8_21 rfl e_t30 dX8_times_30 ?_
        refine lv_iconst (v := (1 : Int32)) X.1 X.2.1 dX8_times_33 (by decide) ?_
        refine q_iload_n X dX8_times_34 rfl hl 1 rfl ?_
        refine lv_isub X.1 X.2.1 dX8_times_35 ?_
        obtain ⟨t36, e_t36, h⟩ := o_b h
        refine q_ldQ X hh (by decide) rfl e_t36 dX8_times_36 ?_
        obtain ⟨t37, e_t37, h⟩ := o_b h
        refine q_gR X hh fa_X8_37 rfl e_t37 dX8_times_37 ?_
        refine q_iload_n X dX8_times_40 rfl hl 2 rfl ?_
        obtain ⟨b41, e_b41, h⟩ := o_b h
        obtain ⟨q41, e_q41, h⟩ := o_b h
        refine q_cV (As := [.int v2]) X hh hS hl cf_X8_123 (cN := 0) rfl rfl e_b41 rfl (M_X0_hasDone l D dA base σ b41 v2 e_q41) ⟨Nat.le_trans (by decide) hR.1, Nat.le_trans (by decide) hR.2⟩ (cat8 [] (Nat.le_of_ble_eq_true rfl)) dX8_times_41 ⟨Nat.zero_le _, Nat.zero_le _⟩ rfl rfl (fun H locs hh hS => ?_)
        refine lv_if_eq (tgt := 51) X.1 X.2.1 dX8_times_44 (by decide) (fun c44 => ?_) (fun c44 => ?_)
        · rw [if_pos c44] at h
          refine lv_iconst (v := (0 : Int32)) X.1 X.2.1 dX8_times_51 (by decide) ?_
          exact K_X8_times_52 X hret hlk hR hh hS (lk_sub hl [] rfl) h
        · rw [if_neg c44] at h
          refine lv_iconst (v := (1 : Int32)) X.1 X.2.1 dX8_times_47 (by decide) ?_
          refine lv_goto (tgt := 52) X.1 X.2.1 dX8_times_48 (by decide) ?_
          exact K_X8_times_52 X hret hlk hR hh hS (lk_sub hl [] rfl) h
      · rw [if_neg c24] at h
        exact K_X8_times_27 X hret hlk hR hh hS (lk_sub hl [] rfl) h
set_option maxRecDepth 100000 in
theorem M_X8_times (l : Launch) (D : va_G) (dA : Nat → ClassId) (base : Nat) (σ : hp) (t0 : Nat) (v1 : Int32) (v2 : Int32) {z : Int32} (h : S_X8_times σ t0 v1 v2 = some z) : mt l yX8_times cX8_times 3 (some .int) 1 22 D dA base σ [.ref t0, .int v1, .int v2] (some (.int z)) σ 0 0 := by
  refine Met.ofW (cc := cX8_times) (maxL := 3) (ret := some .int) (by decide) rfl ?_
  intro p e s m args below meth c s₁ B hml hv
  obtain ⟨rfl, hh, hK⟩ := hv
  have X : cx p s m ([.ref t0, .int v1, .int v2] : List Value).toArray c cX8_times RX8 3 D dA := ⟨B.exec, B.bytes, findClass_of_methodNamed B.named, hml, fun w hw => atoms_spec (ws := .code yX8_times cX8_times 3 (some .int) :: G) B.pre w (List.mem_cons_of_mem _ hw), hK⟩
  have hl := lk_entry [.inr (some t0), .inl v1, .inl v2] (n := 3) (Nat.le_of_ble_eq_true rfl)
  rw [lg_entry_eq]
  have hl : lk ((lg_sl ([.ref t0, .int v1, .int v2] : List Value) ++ List.replicate (3 - (lg_sl ([.ref t0, .int v1, .int v2] : List Value)).length) Slot.unset).toArray) 3 [(0, .inr (some t0)), (1, .inl v1), (2, .inl v2)] := hl
  generalize (lg_sl ([.ref t0, .int v1, .int v2] : List Value) ++ List.replicate (3 - (lg_sl ([.ref t0, .int v1, .int v2] : List Value)).length) Slot.unset).toArray = ls at hl ⊢
  exact K_X8_times_0 X B.returns B.notSynchronized ⟨Nat.le_refl _, Nat.le_refl _⟩ hh va_S.rf hl h
theorem mo_X9_init_269 {z : hp} {σ : hp} {w0 : Option Nat} {w1 : Option Nat} (h : S_X9_init_269 σ w0 w1 = some z) : le4 σ z := by
  unfold S_X9_init_269 at h
  obtain ⟨s269, e_s269, h⟩ := o_b h
  cases h
  exact (e_pR e_s269).le
set_option maxHeartbeats 4000000 in
set_option maxRecDepth 100000 in
theorem K_X9_init_269 {p : Program} {l : Launch} {e : Env} {R : Room} {s : State} {m : MethodId} {args : Array Value} {below : List Frame} {meth : Method} {c : Code} {D : va_G} {dA : Nat → ClassId} {base : Nat} {z : hp} (X : cx p s m args c cX9_init RX9 1 D dA) (hret : meth.sig.returnType = none) (hlk : meth.locks = false) (hR : 1 ≤ R.frames ∧ 21 ≤ R.locals) (hin : meth.name = "<init>") {n0 s0 : Nat} (hRc : z.2.2.2.1 ≤ n0 + R.cells ∧ z.2.2.2.2 ≤ s0 + R.slots) {σ : hp} {w0 : Option Nat} {w1 : Option Nat} {H : Heap} {locs : List Loc} {ls : Array Slot} (hn : n0 ≤ σ.2.2.2.1 ∧ s0 ≤ σ.2.2.2.2) (hh : hw D dA base σ H) (hS : hs base s.heap H locs) (hl : lk ls 1 []) (h : S_X9_init_269 σ w0 w1 = some z) : W p l e R s m args below meth c H locs (σ.2.2.2.1 - n0) (σ.2.2.2.2 - s0) (MQ below (qG D dA base none z) args s (z.2.2.2.1 - n0) (z.2.2.2.2 - s0) (fun q => base ≤ q)) (F0 m 269 ls [va_rf w1, va_rf w0]) := by
  have hz0 := mo_X9_init_269 h
  have hcl : σ.2.2.2.1 - n0 ≤ R.cells ∧ σ.2.2.2.2 - s0 ≤ R.slots := by unfold le4 at hz0; omega
  unfold S_X9_init_269 at h
  obtain ⟨s269, e_s269, h⟩ := o_b h
  refine q_pR X hh hS fp_X9_114 (fun _ => hin) rfl (Or.inr ⟨_, rfl⟩) e_s269 dX9_init_269 (fun H locs hh hS => ?_)
  have ys269 : eq4 σ s269 := (e_pR e_s269)
  refine W.cs (cells' := s269.2.2.2.1 - n0) (slots' := s269.2.2.2.2 - s0) (by rw [show s269.2.2.2 = σ.2.2.2 from ys269]) (by rw [show s269.2.2.2 = σ.2.2.2 from ys269]) ?_
  have hn : n0 ≤ s269.2.2.2.1 ∧ s0 ≤ s269.2.2.2.2 := by rw [show s269.2.2.2 = σ.2.2.2 from ys269]; exact hn
  have hcl : s269.2.2.2.1 - n0 ≤ R.cells ∧ s269.2.2.2.2 - s0 ≤ R.slots := by rw [show s269.2.2.2 = σ.2.2.2 from ys269]; exact hcl
  cases h
  exact q_vret X hret hlk hh hS dX9_init_272
theorem mo_X9_init_261 {z : hp} {σ : hp} {t0 : Nat} {w0 : Option Nat} {w1 : Option Nat} (h : S_X9_init_261 σ t0 w0 w1 = some z) : le4 σ z := by
  unfold S_X9_init_261 at h
  obtain ⟨s261, e_s261, h⟩ := o_b h
  obtain ⟨q267, e_q267, h⟩ := o_b h
  exact (((e_pR e_s261).le).tr (m_na e_q267)).tr (mo_X9_init_269 h)
set_option maxHeartbeats 4000000 in
set_option maxRecDepth 100000 in
theorem K_X9_init_261 {p : Program} {l : Launch} {e : Env} {R : Room} {s : State} {m : MethodId} {args : Array Value} {below : List Frame} {meth : Method} {c : Code} {D : va_G} {dA : Nat → ClassId} {base : Nat} {z : hp} (X : cx p s m args c cX9_init RX9 1 D dA) (hret : meth.sig.returnType = none) (hlk : meth.locks = false) (hR : 1 ≤ R.frames ∧ 21 ≤ R.locals) (hin : meth.name = "<init>") {n0 s0 : Nat} (hRc : z.2.2.2.1 ≤ n0 + R.cells ∧ z.2.2.2.2 ≤ s0 + R.slots) {σ : hp} {t0 : Nat} {w0 : Option Nat} {w1 : Option Nat} {H : Heap} {locs : List Loc} {ls : Array Slot} (hn : n0 ≤ σ.2.2.2.1 ∧ s0 ≤ σ.2.2.2.2) (hh : hw D dA base σ H) (hS : hs base s.heap H locs) (hl : lk ls 1 [(0, .inr (some t0))]) (h : S_X9_init_261 σ t0 w0 w1 = some z) : W p l e R s m args below meth c H locs (σ.2.2.2.1 - n0) (σ.2.2.2.2 - s0) (MQ below (qG D dA base none z) args s (z.2.2.2.1 - n0) (z.2.2.2.2 - s0) (fun q => base ≤ q)) (F0 m 261 ls [va_rf w1, va_rf w0]) := by
  have hz0 := mo_X9_init_261 h
  have hcl : σ.2.2.2.1 - n0 ≤ R.cells ∧ σ.2.2.2.2 - s0 ≤ R.slots := by unfold le4 at hz0; omega
  unfold S_X9_init_261 at h
  obtain ⟨s261, e_s261, h⟩ := o_b h
  refine q_pR X hh hS fp_X9_111 (fun _ => hin) rfl (Or.inr ⟨_, rfl⟩) e_s261 dX9_init_261 (fun H locs hh hS => ?_)
  refine q_aload_n X dX9_init_264 rfl hl 0 rfl ?_
  refine lv_bipush (v := (32 : Int32)) X.1 X.2.1 dX9_init_265 (by decide) ?_
  obtain ⟨q267, e_q267, h⟩ := o_b h
  have ys261 : eq4 σ s261 := (e_pR e_s261)
  refine W.cs (cells' := s261.2.2.2.1 - n0) (slots' := s261.2.2.2.2 - s0) (by rw [show s261.2.2.2 = σ.2.2.2 from ys261]) (by rw [show s261.2.2.2 = σ.2.2.2 from ys261]) ?_
  have hn : n0 ≤ s261.2.2.2.1 ∧ s0 ≤ s261.2.2.2.2 := by rw [show s261.2.2.2 = σ.2.2.2 from ys261]; exact hn
  have hcl : s261.2.2.2.1 - n0 ≤ R.cells ∧ s261.2.2.2.2 - s0 ≤ R.slots := by rw [show s261.2.2.2 = σ.2.2.2 from ys261]; exact hcl
  have g267 := mo_X9_init_269 h
  have f267 := l_na e_q267
  unfold le4 at g267
  refine q_naI (t := 0) X hh hS (by decide) rfl rfl (fun _ _ => rfl) (by decide) (gm 43 (by decide +kernel) rfl) e_q267 dX9_init_267 (by omega) (by omega) (fun H hh hS => ?_)
  refine W.cs (cells' := q267.2.2.2.2.1 - n0) (slots' := q267.2.2.2.2.2 - s0) (by omega) (by omega) ?_
  have hn : n0 ≤ q267.2.2.2.2.1 ∧ s0 ≤ q267.2.2.2.2.2 := by omega
  exact K_X9_init_269 X hret hlk hR hin hRc hn hh hS (lk_sub hl [] rfl) h
theorem mo_X9_init_253 {z : hp} {σ : hp} {t0 : Nat} {w0 : Option Nat} {w1 : Option Nat} (h : S_X9_init_253 σ t0 w0 w1 = some z) : le4 σ z := by
  unfold S_X9_init_253 at h
  obtain ⟨s253, e_s253, h⟩ := o_b h
  obtain ⟨q259, e_q259, h⟩ := o_b h
  exact (((e_pR e_s253).le).tr (m_na e_q259)).tr (mo_X9_init_261 h)
set_option maxHeartbeats 4000000 in
set_option maxRecDepth 100000 in
theorem K_X9_init_253 {p : Program} {l : Launch} {e : Env} {R : Room} {s : State} {m : MethodId} {args : Array Value} {below : List Frame} {meth : Method} {c : Code} {D : va_G} {dA : Nat → ClassId} {base : Nat} {z : hp} (X : cx p s m args c cX9_init RX9 1 D dA) (hret : meth.sig.returnType = none) (hlk : meth.locks = false) (hR : 1 ≤ R.frames ∧ 21 ≤ R.locals) (hin : meth.name = "<init>") {n0 s0 : Nat} (hRc : z.2.2.2.1 ≤ n0 + R.cells ∧ z.2.2.2.2 ≤ s0 + R.slots) {σ : hp} {t0 : Nat} {w0 : Option Nat} {w1 : Option Nat} {H : Heap} {locs : List Loc} {ls : Array Slot} (hn : n0 ≤ σ.2.2.2.1 ∧ s0 ≤ σ.2.2.2.2) (hh : hw D dA base σ H) (hS : hs base s.heap H locs) (hl : lk ls 1 [(0, .inr (some t0))]) (h : S_X9_init_253 σ t0 w0 w1 = some z) : W p l e R s m args below meth c H locs (σ.2.2.2.1 - n0) (σ.2.2.2.2 - s0) (MQ below (qG D dA base none z) args s (z.2.2.2.1 - n0) (z.2.2.2.2 - s0) (fun q => base ≤ q)) (F0 m 253 ls [va_rf w1, va_rf w0]) := by
  have hz0 := mo_X9_init_253 h
  have hcl : σ.2.2.2.1 - n0 ≤ R.cells ∧ σ.2.2.2.2 - s0 ≤ R.slots := by unfold le4 at hz0; omega
  unfold S_X9_init_253 at h
  obtain ⟨s253, e_s253, h⟩ := o_b h
  refine q_pR X hh hS fp_X9_108 (fun _ => hin) rfl (Or.inr ⟨_, rfl⟩) e_s253 dX9_init_253 (fun H locs hh hS => ?_)
  refine q_aload_n X dX9_init_256 rfl hl 0 rfl ?_
  refine lv_bipush (v := (32 : Int32)) X.1 X.2.1 dX9_init_257 (by decide) ?_
  obtain ⟨q259, e_q259, h⟩ := o_b h
  have ys253 : eq4 σ s253 := (e_pR e_s253)
  refine W.cs (cells' := s253.2.2.2.1 - n0) (slots' := s253.2.2.2.2 - s0) (by rw [show s253.2.2.2 = σ.2.2.2 from ys253]) (by rw [show s253.2.2.2 = σ.2.2.2 from ys253]) ?_
  have hn : n0 ≤ s253.2.2.2.1 ∧ s0 ≤ s253.2.2.2.2 := by rw [show s253.2.2.2 = σ.2.2.2 from ys253]; exact hn
  have hcl : s253.2.2.2.1 - n0 ≤ R.cells ∧ s253.2.2.2.2 - s0 ≤ R.slots := by rw [show s253.2.2.2 = σ.2.2.2 from ys253]; exact hcl
  have g259 := mo_X9_init_261 h
  have f259 := l_na e_q259
  unfold le4 at g259
  refine q_naI (t := 0) X hh hS (by decide) rfl rfl (fun _ _ => rfl) (by decide) (gm 43 (by decide +kernel) rfl) e_q259 dX9_init_259 (by omega) (by omega) (fun H hh hS => ?_)
  refine W.cs (cells' := q259.2.2.2.2.1 - n0) (slots' := q259.2.2.2.2.2 - s0) (by omega) (by omega) ?_
  have hn : n0 ≤ q259.2.2.2.2.1 ∧ s0 ≤ q259.2.2.2.2.2 := by omega
  exact K_X9_init_261 X hret hlk hR hin hRc hn hh hS (lk_sub hl [0] rfl) h
theorem mo_X9_init_246 {z : hp} {σ : hp} {t0 : Nat} {w0 : Option Nat} {w1 : Option Nat} (h : S_X9_init_246 σ t0 w0 w1 = some z) : le4 σ z := by
  unfold S_X9_init_246 at h
  obtain ⟨s246, e_s246, h⟩ := o_b h
  obtain ⟨q251, e_q251, h⟩ := o_b h
  exact (((e_pR e_s246).le).tr (m_na e_q251)).tr (mo_X9_init_253 h)
set_option maxHeartbeats 4000000 in
set_option maxRecDepth 100000 in
theorem K_X9_init_246 {p : Program} {l : Launch} {e : Env} {R : Room} {s : State} {m : MethodId} {args : Array Value} {below : List Frame} {meth : Method} {c : Code} {D : va_G} {dA : Nat → ClassId} {base : Nat} {z : hp} (X : cx p s m args c cX9_init RX9 1 D dA) (hret : meth.sig.returnType = none) (hlk : meth.locks = false) (hR : 1 ≤ R.frames ∧ 21 ≤ R.locals) (hin : meth.name = "<init>") {n0 s0 : Nat} (hRc : z.2.2.2.1 ≤ n0 + R.cells ∧ z.2.2.2.2 ≤ s0 + R.slots) {σ : hp} {t0 : Nat} {w0 : Option Nat} {w1 : Option Nat} {H : Heap} {locs : List Loc} {ls : Array Slot} (hn : n0 ≤ σ.2.2.2.1 ∧ s0 ≤ σ.2.2.2.2) (hh : hw D dA base σ H) (hS : hs base s.heap H locs) (hl : lk ls 1 [(0, .inr (some t0))]) (h : S_X9_init_246 σ t0 w0 w1 = some z) : W p l e R s m args below meth c H locs (σ.2.2.2.1 - n0) (σ.2.2.2.2 - s0) (MQ below (qG D dA base none z) args s (z.2.2.2.1 - n0) (z.2.2.2.2 - s0) (fun q => base ≤ q)) (F0 m 246 ls [va_rf w1, va_rf w0]) := by
  have hz0 := mo_X9_init_246 h
  have hcl : σ.2.2.2.1 - n0 ≤ R.cells ∧ σ.2.2.2.2 - s0 ≤ R.slots := by unfold le4 at hz0; omega
  unfold S_X9_init_246 at h
  obtain ⟨s246, e_s246, h⟩ := o_b h
  refine q_pR X hh hS fp_X9_105 (fun _ => hin) rfl (Or.inr ⟨_, rfl⟩) e_s246 dX9_init_246 (fun H locs hh hS => ?_)
  refine q_aload_n X dX9_init_249 rfl hl 0 rfl ?_
  refine lv_iconst (v := (2 : Int32)) X.1 X.2.1 dX9_init_250 (by decide) ?_
  obtain ⟨q251, e_q251, h⟩ := o_b h
  have ys246 : eq4 σ s246 := (e_pR e_s246)
  refine W.cs (cells' := s246.2.2.2.1 - n0) (slots' := s246.2.2.2.2 - s0) (by rw [show s246.2.2.2 = σ.2.2.2 from ys246]) (by rw [show s246.2.2.2 = σ.2.2.2 from ys246]) ?_
  have hn : n0 ≤ s246.2.2.2.1 ∧ s0 ≤ s246.2.2.2.2 := by rw [show s246.2.2.2 = σ.2.2.2 from ys246]; exact hn
  have hcl : s246.2.2.2.1 - n0 ≤ R.cells ∧ s246.2.2.2.2 - s0 ≤ R.slots := by rw [show s246.2.2.2 = σ.2.2.2 from ys246]; exact hcl
  have g251 := mo_X9_init_253 h
  have f251 := l_na e_q251
  unfold le4 at g251
  refine q_naI (t := 0) X hh hS (by decide) rfl rfl (fun _ _ => rfl) (by decide) (gm 43 (by decide +kernel) rfl) e_q251 dX9_init_251 (by omega) (by omega) (fun H hh hS => ?_)
  refine W.cs (cells' := q251.2.2.2.2.1 - n0) (slots' := q251.2.2.2.2.2 - s0) (by omega) (by omega) ?_
  have hn : n0 ≤ q251.2.2.2.2.1 ∧ s0 ≤ q251.2.2.2.2.2 := by omega
  exact K_X9_init_253 X hret hlk hR hin hRc hn hh hS (lk_sub hl [0] rfl) h
theorem mo_X9_init_239 {z : hp} {σ : hp} {t0 : Nat} {w0 : Option Nat} {w1 : Option Nat} (h : S_X9_init_239 σ t0 w0 w1 = some z) : le4 σ z := by
  unfold S_X9_init_239 at h
  obtain ⟨s239, e_s239, h⟩ := o_b h
  obtain ⟨q244, e_q244, h⟩ := o_b h
  exact (((e_pR e_s239).le).tr (m_na e_q244)).tr (mo_X9_init_246 h)
set_option maxHeartbeats 4000000 in
set_option maxRecDepth 100000 in
theorem K_X9_init_239 {p : Program} {l : Launch} {e : Env} {R : Room} {s : State} {m : MethodId} {args : Array Value} {below : List Frame} {meth : Method} {c : Code} {D : va_G} {dA : Nat → ClassId} {base : Nat} {z : hp} (X : cx p s m args c cX9_init RX9 1 D dA) (hret : meth.sig.returnType = none) (hlk : meth.locks = false) (hR : 1 ≤ R.frames ∧ 21 ≤ R.locals) (hin : meth.name = "<init>") {n0 s0 : Nat} (hRc : z.2.2.2.1 ≤ n0 + R.cells ∧ z.2.2.2.2 ≤ s0 + R.slots) {σ : hp} {t0 : Nat} {w0 : Option Nat} {w1 : Option Nat} {H : Heap} {locs : List Loc} {ls : Array Slot} (hn : n0 ≤ σ.2.2.2.1 ∧ s0 ≤ σ.2.2.2.2) (hh : hw D dA base σ H) (hS : hs base s.heap H locs) (hl : lk ls 1 [(0, .inr (some t0))]) (h : S_X9_init_239 σ t0 w0 w1 = some z) : W p l e R s m args below meth c H locs (σ.2.2.2.1 - n0) (σ.2.2.2.2 - s0) (MQ below (qG D dA base none z) args s (z.2.2.2.1 - n0) (z.2.2.2.2 - s0) (fun q => base ≤ q)) (F0 m 239 ls [va_rf w1, va_rf w0]) := by
  have hz0 := mo_X9_init_239 h
  have hcl : σ.2.2.2.1 - n0 ≤ R.cells ∧ σ.2.2.2.2 - s0 ≤ R.slots := by unfold le4 at hz0; omega
  unfold S_X9_init_239 at h
  obtain ⟨s239, e_s239, h⟩ := o_b h
  refine q_pR X hh hS fp_X9_102 (fun _ => hin) rfl (Or.inr ⟨_, rfl⟩) e_s239 dX9_init_239 (fun H locs hh hS => ?_)
  refine q_aload_n X dX9_init_242 rfl hl 0 rfl ?_
  refine lv_iconst (v := (2 : Int32)) X.1 X.2.1 dX9_init_243 (by decide) ?_
  obtain ⟨q244, e_q244, h⟩ := o_b h
  have ys239 : eq4 σ s239 := (e_pR e_s239)
  refine W.cs (cells' := s239.2.2.2.1 - n0) (slots' := s239.2.2.2.2 - s0) (by rw [show s239.2.2.2 = σ.2.2.2 from ys239]) (by rw [show s239.2.2.2 = σ.2.2.2 from ys239]) ?_
  have hn : n0 ≤ s239.2.2.2.1 ∧ s0 ≤ s239.2.2.2.2 := by rw [show s239.2.2.2 = σ.2.2.2 from ys239]; exact hn
  have hcl : s239.2.2.2.1 - n0 ≤ R.cells ∧ s239.2.2.2.2 - s0 ≤ R.slots := by rw [show s239.2.2.2 = σ.2.2.2 from ys239]; exact hcl
  have g244 := mo_X9_init_246 h
  have f244 := l_na e_q244
  unfold le4 at g244
  refine q_naI (t := 0) X hh hS (by decide) rfl rfl (fun _ _ => rfl) (by decide) (gm 43 (by decide +kernel) rfl) e_q244 dX9_init_244 (by omega) (by omega) (fun H hh hS => ?_)
  refine W.cs (cells' := q244.2.2.2.2.1 - n0) (slots' := q244.2.2.2.2.2 - s0) (by omega) (by omega) ?_
  have hn : n0 ≤ q244.2.2.2.2.1 ∧ s0 ≤ q244.2.2.2.2.2 := by omega
  exact K_X9_init_246 X hret hlk hR hin hRc hn hh hS (lk_sub hl [0] rfl) h
theorem mo_X9_init_230 {z : hp} {σ : hp} {t0 : Nat} {w0 : Option Nat} {w1 : Option Nat} (h : S_X9_init_230 σ t0 w0 w1 = some z) : le4 σ z := by
  unfold S_X9_init_230 at h
  obtain ⟨s230, e_s230, h⟩ := o_b h
  obtain ⟨q237, e_q237, h⟩ := o_b h
  exact (((e_pR e_s230).le).tr (m_na e_q237)).tr (mo_X9_init_239 h)
set_option maxHeartbeats 4000000 in
set_option maxRecDepth 100000 in
theorem K_X9_init_230 {p : Program} {l : Launch} {e : Env} {R : Room} {s : State} {m : MethodId} {args : Array Value} {below : List Frame} {meth : Method} {c : Code} {D : va_G} {dA : Nat → ClassId} {base : Nat} {z : hp} (X : cx p s m args c cX9_init RX9 1 D dA) (hret : meth.sig.returnType = none) (hlk : meth.locks = false) (hR : 1 ≤ R.frames ∧ 21 ≤ R.locals) (hin : meth.name = "<init>") {n0 s0 : Nat} (hRc : z.2.2.2.1 ≤ n0 + R.cells ∧ z.2.2.2.2 ≤ s0 + R.slots) {σ : hp} {t0 : Nat} {w0 : Option Nat} {w1 : Option Nat} {H : Heap} {locs : List Loc} {ls : Array Slot} (hn : n0 ≤ σ.2.2.2.1 ∧ s0 ≤ σ.2.2.2.2) (hh : hw D dA base σ H) (hS : hs base s.heap H locs) (hl : lk ls 1 [(0, .inr (some t0))]) (h : S_X9_init_230 σ t0 w0 w1 = some z) : W p l e R s m args below meth c H locs (σ.2.2.2.1 - n0) (σ.2.2.2.2 - s0) (MQ below (qG D dA base none z) args s (z.2.2.2.1 - n0) (z.2.2.2.2 - s0) (fun q => base ≤ q)) (F0 m 230 ls [va_rf w1, va_rf w0]) := by
  have hz0 := mo_X9_init_230 h
  have hcl : σ.2.2.2.1 - n0 ≤ R.cells ∧ σ.2.2.2.2 - s0 ≤ R.slots := by unfold le4 at hz0; omega
  unfold S_X9_init_230 at h
  obtain ⟨s230, e_s230, h⟩ := o_b h
  refine q_pR X hh hS fp_X9_99 (fun _ => hin) rfl (Or.inr ⟨_, rfl⟩) e_s230 dX9_init_230 (fun H locs hh hS => ?_)
  refine q_aload_n X dX9_init_233 rfl hl 0 rfl ?_
  refine lv_sipush (v := (200 : Int32)) X.1 X.2.1 dX9_init_234 (by decide) ?_
  obtain ⟨q237, e_q237, h⟩ := o_b h
  have ys230 : eq4 σ s230 := (e_pR e_s230)
  refine W.cs (cells' := s230.2.2.2.1 - n0) (slots' := s230.2.2.2.2 - s0) (by rw [show s230.2.2.2 = σ.2.2.2 from ys230]) (by rw [show s230.2.2.2 = σ.2.2.2 from ys230]) ?_
  have hn : n0 ≤ s230.2.2.2.1 ∧ s0 ≤ s230.2.2.2.2 := by rw [show s230.2.2.2 = σ.2.2.2 from ys230]; exact hn
  have hcl : s230.2.2.2.1 - n0 ≤ R.cells ∧ s230.2.2.2.2 - s0 ≤ R.slots := by rw [show s230.2.2.2 = σ.2.2.2 from ys230]; exact hcl
  have g237 := mo_X9_init_239 h
  have f237 := l_na e_q237
  unfold le4 at g237
  refine q_naI (t := 0) X hh hS (by decide) rfl rfl (fun _ _ => rfl) (by decide) (gm 43 (by decide +kernel) rfl) e_q237 dX9_init_237 (by omega) (by omega) (fun H hh hS => ?_)
  refine W.cs (cells' := q237.2.2.2.2.1 - n0) (slots' := q237.2.2.2.2.2 - s0) (by omega) (by omega) ?_
  have hn : n0 ≤ q237.2.2.2.2.1 ∧ s0 ≤ q237.2.2.2.2.2 := by omega
  exact K_X9_init_239 X hret hlk hR hin hRc hn hh hS (lk_sub hl [0] rfl) h
theorem mo_X9_init_223 {z : hp} {σ : hp} {t0 : Nat} {w0 : Option Nat} {w1 : Option Nat} (h : S_X9_init_223 σ t0 w0 w1 = some z) : le4 σ z := by
  unfold S_X9_init_223 at h
  obtain ⟨s223, e_s223, h⟩ := o_b h
  obtain ⟨q228, e_q228, h⟩ := o_b h
  exact (((e_pR e_s223).le).tr (m_na e_q228)).tr (mo_X9_init_230 h)
set_option maxHeartbeats 4000000 in
set_option maxRecDepth 100000 in
theorem K_X9_init_223 {p : Program} {l : Launch} {e : Env} {R : Room} {s : State} {m : MethodId} {args : Array Value} {below : List Frame} {meth : Method} {c : Code} {D : va_G} {dA : Nat → ClassId} {base : Nat} {z : hp} (X : cx p s m args c cX9_init RX9 1 D dA) (hret : meth.sig.returnType = none) (hlk : meth.locks = false) (hR : 1 ≤ R.frames ∧ 21 ≤ R.locals) (hin : meth.name = "<init>") {n0 s0 : Nat} (hRc : z.2.2.2.1 ≤ n0 + R.cells ∧ z.2.2.2.2 ≤ s0 + R.slots) {σ : hp} {t0 : Nat} {w0 : Option Nat} {w1 : Option Nat} {H : Heap} {locs : List Loc} {ls : Array Slot} (hn : n0 ≤ σ.2.2.2.1 ∧ s0 ≤ σ.2.2.2.2) (hh : hw D dA base σ H) (hS : hs base s.heap H locs) (hl : lk ls 1 [(0, .inr (some t0))]) (h : S_X9_init_223 σ t0 w0 w1 = some z) : W p l e R s m args below meth c H locs (σ.2.2.2.1 - n0) (σ.2.2.2.2 - s0) (MQ below (qG D dA base none z) args s (z.2.2.2.1 - n0) (z.2.2.2.2 - s0) (fun q => base ≤ q)) (F0 m 223 ls [va_rf w1, va_rf w0]) := by
  have hz0 := mo_X9_init_223 h
  have hcl : σ.2.2.2.1 - n0 ≤ R.cells ∧ σ.2.2.2.2 - s0 ≤ R.slots := by unfold le4 at hz0; omega
  unfold S_X9_init_223 at h
  obtain ⟨s223, e_s223, h⟩ := o_b h
  refine q_pR X hh hS fp_X9_96 (fun _ => hin) rfl (Or.inr ⟨_, rfl⟩) e_s223 dX9_init_223 (fun H locs hh hS => ?_)
  refine q_aload_n X dX9_init_226 rfl hl 0 rfl ?_
  refine lv_iconst (v := (2 : Int32)) X.1 X.2.1 dX9_init_227 (by decide) ?_
  obtain ⟨q228, e_q228, h⟩ := o_b h
  have ys223 : eq4 σ s223 := (e_pR e_s223)
  refine W.cs (cells' := s223.2.2.2.1 - n0) (slots' := s223.2.2.2.2 - s0) (by rw [show s223.2.2.2 = σ.2.2.2 from ys223]) (by rw [show s223.2.2.2 = σ.2.2.2 from ys223]) ?_
  have hn : n0 ≤ s223.2.2.2.1 ∧ s0 ≤ s223.2.2.2.2 := by rw [show s223.2.2.2 = σ.2.2.2 from ys223]; exact hn
  have hcl : s223.2.2.2.1 - n0 ≤ R.cells ∧ s223.2.2.2.2 - s0 ≤ R.slots := by rw [show s223.2.2.2 = σ.2.2.2 from ys223]; exact hcl
  have g228 := mo_X9_init_230 h
  have f228 := l_na e_q228
  unfold le4 at g228
  refine q_naI (t := 0) X hh hS (by decide) rfl rfl (fun _ _ => rfl) (by decide) (gm 43 (by decide +kernel) rfl) e_q228 dX9_init_228 (by omega) (by omega) (fun H hh hS => ?_)
  refine W.cs (cells' := q228.2.2.2.2.1 - n0) (slots' := q228.2.2.2.2.2 - s0) (by omega) (by omega) ?_
  have hn : n0 ≤ q228.2.2.2.2.1 ∧ s0 ≤ q228.2.2.2.2.2 := by omega
  exact K_X9_init_230 X hret hlk hR hin hRc hn hh hS (lk_sub hl [0] rfl) h
theorem mo_X9_init_216 {z : hp} {σ : hp} {t0 : Nat} {w0 : Option Nat} {w1 : Option Nat} (h : S_X9_init_216 σ t0 w0 w1 = some z) : le4 σ z := by
  unfold S_X9_init_216 at h
  obtain ⟨s216, e_s216, h⟩ := o_b h
  obtain ⟨q221, e_q221, h⟩ := o_b h
  exact (((e_pR e_s216).le).tr (m_na e_q221)).tr (mo_X9_init_223 h)
set_option maxHeartbeats 4000000 in
set_option maxRecDepth 100000 in
theorem K_X9_init_216 {p : Program} {l : Launch} {e : Env} {R : Room} {s : State} {m : MethodId} {args : Array Value} {below : List Frame} {meth : Method} {c : Code} {D : va_G} {dA : Nat → ClassId} {base : Nat} {z : hp} (X : cx p s m args c cX9_init RX9 1 D dA) (hret : meth.sig.returnType = none) (hlk : meth.locks = false) (hR : 1 ≤ R.frames ∧ 21 ≤ R.locals) (hin : meth.name = "<init>") {n0 s0 : Nat} (hRc : z.2.2.2.1 ≤ n0 + R.cells ∧ z.2.2.2.2 ≤ s0 + R.slots) {σ : hp} {t0 : Nat} {w0 : Option Nat} {w1 : Option Nat} {H : Heap} {locs : List Loc} {ls : Array Slot} (hn : n0 ≤ σ.2.2.2.1 ∧ s0 ≤ σ.2.2.2.2) (hh : hw D dA base σ H) (hS : hs base s.heap H locs) (hl : lk ls 1 [(0, .inr (some t0))]) (h : S_X9_init_216 σ t0 w0 w1 = some z) : W p l e R s m args below meth c H locs (σ.2.2.2.1 - n0) (σ.2.2.2.2 - s0) (MQ below (qG D dA base none z) args s (z.2.2.2.1 - n0) (z.2.2.2.2 - s0) (fun q => base ≤ q)) (F0 m 216 ls [va_rf w1, va_rf w0]) := by
  have hz0 := mo_X9_init_216 h
  have hcl : σ.2.2.2.1 - n0 ≤ R.cells ∧ σ.2.2.2.2 - s0 ≤ R.slots := by unfold le4 at hz0; omega
  unfold S_X9_init_216 at h
  obtain ⟨s216, e_s216, h⟩ := o_b h
  refine q_pR X hh hS fp_X9_93 (fun _ => hin) rfl (Or.inr ⟨_, rfl⟩) e_s216 dX9_init_216 (fun H locs hh hS => ?_)
  refine q_aload_n X dX9_init_219 rfl hl 0 rfl ?_
  refine lv_iconst (v := (2 : Int32)) X.1 X.2.1 dX9_init_220 (by decide) ?_
  obtain ⟨q221, e_q221, h⟩ := o_b h
  have ys216 : eq4 σ s216 := (e_pR e_s216)
  refine W.cs (cells' := s216.2.2.2.1 - n0) (slots' := s216.2.2.2.2 - s0) (by rw [show s216.2.2.2 = σ.2.2.2 from ys216]) (by rw [show s216.2.2.2 = σ.2.2.2 from ys216]) ?_
  have hn : n0 ≤ s216.2.2.2.1 ∧ s0 ≤ s216.2.2.2.2 := by rw [show s216.2.2.2 = σ.2.2.2 from ys216]; exact hn
  have hcl : s216.2.2.2.1 - n0 ≤ R.cells ∧ s216.2.2.2.2 - s0 ≤ R.slots := by rw [show s216.2.2.2 = σ.2.2.2 from ys216]; exact hcl
  have g221 := mo_X9_init_223 h
  have f221 := l_na e_q221
  unfold le4 at g221
  refine q_naI (t := 0) X hh hS (by decide) rfl rfl (fun _ _ => rfl) (by decide) (gm 43 (by decide +kernel) rfl) e_q221 dX9_init_221 (by omega) (by omega) (fun H hh hS => ?_)
  refine W.cs (cells' := q221.2.2.2.2.1 - n0) (slots' := q221.2.2.2.2.2 - s0) (by omega) (by omega) ?_
  have hn : n0 ≤ q221.2.2.2.2.1 ∧ s0 ≤ q221.2.2.2.2.2 := by omega
  exact K_X9_init_223 X hret hlk hR hin hRc hn hh hS (lk_sub hl [0] rfl) h
theorem mo_X9_init_209 {z : hp} {σ : hp} {t0 : Nat} {w0 : Option Nat} {w1 : Option Nat} (h : S_X9_init_209 σ t0 w0 w1 = some z) : le4 σ z := by
  unfold S_X9_init_209 at h
  obtain ⟨s209, e_s209, h⟩ := o_b h
  obtain ⟨q214, e_q214, h⟩ := o_b h
  exact (((e_pR e_s209).le).tr (m_na e_q214)).tr (mo_X9_init_216 h)
set_option maxHeartbeats 4000000 in
set_option maxRecDepth 100000 in
theorem K_X9_init_209 {p : Program} {l : Launch} {e : Env} {R : Room} {s : State} {m : MethodId} {args : Array Value} {below : List Frame} {meth : Method} {c : Code} {D : va_G} {dA : Nat → ClassId} {base : Nat} {z : hp} (X : cx p s m args c cX9_init RX9 1 D dA) (hret : meth.sig.returnType = none) (hlk : meth.locks = false) (hR : 1 ≤ R.frames ∧ 21 ≤ R.locals) (hin : meth.name = "<init>") {n0 s0 : Nat} (hRc : z.2.2.2.1 ≤ n0 + R.cells ∧ z.2.2.2.2 ≤ s0 + R.slots) {σ : hp} {t0 : Nat} {w0 : Option Nat} {w1 : Option Nat} {H : Heap} {locs : List Loc} {ls : Array Slot} (hn : n0 ≤ σ.2.2.2.1 ∧ s0 ≤ σ.2.2.2.2) (hh : hw D dA base σ H) (hS : hs base s.heap H locs) (hl : lk ls 1 [(0, .inr (some t0))]) (h : S_X9_init_209 σ t0 w0 w1 = some z) : W p l e R s m args below meth c H locs (σ.2.2.2.1 - n0) (σ.2.2.2.2 - s0) (MQ below (qG D dA base none z) args s (z.2.2.2.1 - n0) (z.2.2.2.2 - s0) (fun q => base ≤ q)) (F0 m 209 ls [va_rf w1, va_rf w0]) := by
  have hz0 := mo_X9_init_209 h
  have hcl : σ.2.2.2.1 - n0 ≤ R.cells ∧ σ.2.2.2.2 - s0 ≤ R.slots := by unfold le4 at hz0; omega
  unfold S_X9_init_209 at h
  obtain ⟨s209, e_s209, h⟩ := o_b h
  refine q_pR X hh hS fp_X9_90 (fun _ => hin) rfl (Or.inr ⟨_, rfl⟩) e_s209 dX9_init_209 (fun H locs hh hS => ?_)
  refine q_aload_n X dX9_init_212 rfl hl 0 rfl ?_
  refine lv_iconst (v := (2 : Int32)) X.1 X.2.1 dX9_init_213 (by decide) ?_
  obtain ⟨q214, e_q214, h⟩ := o_b h
  have ys209 : eq4 σ s209 := (e_pR e_s209)
  refine W.cs (cells' := s209.2.2.2.1 - n0) (slots' := s209.2.2.2.2 - s0) (by rw [show s209.2.2.2 = σ.2.2.2 from ys209]) (by rw [show s209.2.2.2 = σ.2.2.2 from ys209]) ?_
  have hn : n0 ≤ s209.2.2.2.1 ∧ s0 ≤ s209.2.2.2.2 := by rw [show s209.2.2.2 = σ.2.2.2 from ys209]; exact hn
  have hcl : s209.2.2.2.1 - n0 ≤ R.cells ∧ s209.2.2.2.2 - s0 ≤ R.slots := by rw [show s209.2.2.2 = σ.2.2.2 from ys209]; exact hcl
  have g214 := mo_X9_init_216 h
  have f214 := l_na e_q214
  unfold le4 at g214
  refine q_naI (t := 0) X hh hS (by decide) rfl rfl (fun _ _ => rfl) (by decide) (gm 43 (by decide +kernel) rfl) e_q214 dX9_init_214 (by omega) (by omega) (fun H hh hS => ?_)
  refine W.cs (cells' := q214.2.2.2.2.1 - n0) (slots' := q214.2.2.2.2.2 - s0) (by omega) (by omega) ?_
  have hn : n0 ≤ q214.2.2.2.2.1 ∧ s0 ≤ q214.2.2.2.2.2 := by omega
  exact K_X9_init_216 X hret hlk hR hin hRc hn hh hS (lk_sub hl [0] rfl) h
theorem mo_X9_init_202 {z : hp} {σ : hp} {t0 : Nat} {w0 : Option Nat} {w1 : Option Nat} (h : S_X9_init_202 σ t0 w0 w1 = some z) : le4 σ z := by
  unfold S_X9_init_202 at h
  obtain ⟨s202, e_s202, h⟩ := o_b h
  obtain ⟨q207, e_q207, h⟩ := o_b h
  exact (((e_pR e_s202).le).tr (m_na e_q207)).tr (mo_X9_init_209 h)
set_option maxHeartbeats 4000000 in
set_option maxRecDepth 100000 in
theorem K_X9_init_202 {p : Program} {l : Launch} {e : Env} {R : Room} {s : State} {m : MethodId} {args : Array Value} {below : List Frame} {meth : Method} {c : Code} {D : va_G} {dA : Nat → ClassId} {base : Nat} {z : hp} (X : cx p s m args c cX9_init RX9 1 D dA) (hret : meth.sig.returnType = none) (hlk : meth.locks = false) (hR : 1 ≤ R.frames ∧ 21 ≤ R.locals) (hin : meth.name = "<init>") {n0 s0 : Nat} (hRc : z.2.2.2.1 ≤ n0 + R.cells ∧ z.2.2.2.2 ≤ s0 + R.slots) {σ : hp} {t0 : Nat} {w0 : Option Nat} {w1 : Option Nat} {H : Heap} {locs : List Loc} {ls : Array Slot} (hn : n0 ≤ σ.2.2.2.1 ∧ s0 ≤ σ.2.2.2.2) (hh : hw D dA base σ H) (hS : hs base s.heap H locs) (hl : lk ls 1 [(0, .inr (some t0))]) (h : S_X9_init_202 σ t0 w0 w1 = some z) : W p l e R s m args below meth c H locs (σ.2.2.2.1 - n0) (σ.2.2.2.2 - s0) (MQ below (qG D dA base none z) args s (z.2.2.2.1 - n0) (z.2.2.2.2 - s0) (fun q => base ≤ q)) (F0 m 202 ls [va_rf w1, va_rf w0]) := by
  have hz0 := mo_X9_init_202 h
  have hcl : σ.2.2.2.1 - n0 ≤ R.cells ∧ σ.2.2.2.2 - s0 ≤ R.slots := by unfold le4 at hz0; omega
  unfold S_X9_init_202 at h
  obtain ⟨s202, e_s202, h⟩ := o_b h
  refine q_pR X hh hS fp_X9_87 (fun _ => hin) rfl (Or.inr ⟨_, rfl⟩) e_s202 dX9_init_202 (fun H locs hh hS => ?_)
  refine q_aload_n X dX9_init_205 rfl hl 0 rfl ?_
  refine lv_iconst (v := (2 : Int32)) X.1 X.2.1 dX9_init_206 (by decide) ?_
  obtain ⟨q207, e_q207, h⟩ := o_b h
  have ys202 : eq4 σ s202 := (e_pR e_s202)
  refine W.cs (cells' := s202.2.2.2.1 - n0) (slots' := s202.2.2.2.2 - s0) (by rw [show s202.2.2.2 = σ.2.2.2 from ys202]) (by rw [show s202.2.2.2 = σ.2.2.2 from ys202]) ?_
  have hn : n0 ≤ s202.2.2.2.1 ∧ s0 ≤ s202.2.2.2.2 := by rw [show s202.2.2.2 = σ.2.2.2 from ys202]; exact hn
  have hcl : s202.2.2.2.1 - n0 ≤ R.cells ∧ s202.2.2.2.2 - s0 ≤ R.slots := by rw [show s202.2.2.2 = σ.2.2.2 from ys202]; exact hcl
  have g207 := mo_X9_init_209 h
  have f207 := l_na e_q207
  unfold le4 at g207
  refine q_naI (t := 1) X hh hS (by decide) rfl rfl (fun _ _ => rfl) (by decide) (gm 668 (by decide +kernel) rfl) e_q207 dX9_init_207 (by omega) (by omega) (fun H hh hS => ?_)
  refine W.cs (cells' := q207.2.2.2.2.1 - n0) (slots' := q207.2.2.2.2.2 - s0) (by omega) (by omega) ?_
  have hn : n0 ≤ q207.2.2.2.2.1 ∧ s0 ≤ q207.2.2.2.2.2 := by omega
  exact K_X9_init_209 X hret hlk hR hin hRc hn hh hS (lk_sub hl [0] rfl) h
theorem mo_X9_init_193 {z : hp} {σ : hp} {t0 : Nat} {w0 : Option Nat} {w1 : Option Nat} (h : S_X9_init_193 σ t0 w0 w1 = some z) : le4 σ z := by
  unfold S_X9_init_193 at h
  obtain ⟨s193, e_s193, h⟩ := o_b h
  obtain ⟨q200, e_q200, h⟩ := o_b h
  exact (((e_pR e_s193).le).tr (m_na e_q200)).tr (mo_X9_init_202 h)
set_option maxHeartbeats 4000000 in
set_option maxRecDepth 100000 in
theorem K_X9_init_193 {p : Program} {l : Launch} {e : Env} {R : Room} {s : State} {m : MethodId} {args : Array Value} {below : List Frame} {meth : Method} {c : Code} {D : va_G} {dA : Nat → ClassId} {base : Nat} {z : hp} (X : cx p s m args c cX9_init RX9 1 D dA) (hret : meth.sig.returnType = none) (hlk : meth.locks = false) (hR : 1 ≤ R.frames ∧ 21 ≤ R.locals) (hin : meth.name = "<init>") {n0 s0 : Nat} (hRc : z.2.2.2.1 ≤ n0 + R.cells ∧ z.2.2.2.2 ≤ s0 + R.slots) {σ : hp} {t0 : Nat} {w0 : Option Nat} {w1 : Option Nat} {H : Heap} {locs : List Loc} {ls : Array Slot} (hn : n0 ≤ σ.2.2.2.1 ∧ s0 ≤ σ.2.2.2.2) (hh : hw D dA base σ H) (hS : hs base s.heap H locs) (hl : lk ls 1 [(0, .inr (some t0))]) (h : S_X9_init_193 σ t0 w0 w1 = some z) : W p l e R s m args below meth c H locs (σ.2.2.2.1 - n0) (σ.2.2.2.2 - s0) (MQ below (qG D dA base none z) args s (z.2.2.2.1 - n0) (z.2.2.2.2 - s0) (fun q => base ≤ q)) (F0 m 193 ls [va_rf w1, va_rf w0]) := by
  have hz0 := mo_X9_init_193 h
  have hcl : σ.2.2.2.1 - n0 ≤ R.cells ∧ σ.2.2.2.2 - s0 ≤ R.slots := by unfold le4 at hz0; omega
  unfold S_X9_init_193 at h
  obtain ⟨s193, e_s193, h⟩ := o_b h
  refine q_pR X hh hS fp_X9_84 (fun _ => hin) rfl (Or.inr ⟨_, rfl⟩) e_s193 dX9_init_193 (fun H locs hh hS => ?_)
  refine q_aload_n X dX9_init_196 rfl hl 0 rfl ?_
  refine lv_sipush (v := (1024 : Int32)) X.1 X.2.1 dX9_init_197 (by decide) ?_
  obtain ⟨q200, e_q200, h⟩ := o_b h
  have ys193 : eq4 σ s193 := (e_pR e_s193)
  refine W.cs (cells' := s193.2.2.2.1 - n0) (slots' := s193.2.2.2.2 - s0) (by rw [show s193.2.2.2 = σ.2.2.2 from ys193]) (by rw [show s193.2.2.2 = σ.2.2.2 from ys193]) ?_
  have hn : n0 ≤ s193.2.2.2.1 ∧ s0 ≤ s193.2.2.2.2 := by rw [show s193.2.2.2 = σ.2.2.2 from ys193]; exact hn
  have hcl : s193.2.2.2.1 - n0 ≤ R.cells ∧ s193.2.2.2.2 - s0 ≤ R.slots := by rw [show s193.2.2.2 = σ.2.2.2 from ys193]; exact hcl
  have g200 := mo_X9_init_202 h
  have f200 := l_na e_q200
  unfold le4 at g200
  refine q_naI (t := 0) X hh hS (by decide) rfl rfl (fun _ _ => rfl) (by decide) (gm 43 (by decide +kernel) rfl) e_q200 dX9_init_200 (by omega) (by omega) (fun H hh hS => ?_)
  refine W.cs (cells' := q200.2.2.2.2.1 - n0) (slots' := q200.2.2.2.2.2 - s0) (by omega) (by omega) ?_
  have hn : n0 ≤ q200.2.2.2.2.1 ∧ s0 ≤ q200.2.2.2.2.2 := by omega
  exact K_X9_init_202 X hret hlk hR hin hRc hn hh hS (lk_sub hl [0] rfl) h
theorem mo_X9_init_186 {z : hp} {σ : hp} {t0 : Nat} {w0 : Option Nat} {w1 : Option Nat} (h : S_X9_init_186 σ t0 w0 w1 = some z) : le4 σ z := by
  unfold S_X9_init_186 at h
  obtain ⟨s186, e_s186, h⟩ := o_b h
  obtain ⟨q191, e_q191, h⟩ := o_b h
  exact (((e_pR e_s186).le).tr (m_na e_q191)).tr (mo_X9_init_193 h)
set_option maxHeartbeats 4000000 in
set_option maxRecDepth 100000 in
theorem K_X9_init_186 {p : Program} {l : Launch} {e : Env} {R : Room} {s : State} {m : MethodId} {args : Array Value} {below : List Frame} {meth : Method} {c : Code} {D : va_G} {dA : Nat → ClassId} {base : Nat} {z : hp} (X : cx p s m args c cX9_init RX9 1 D dA) (hret : meth.sig.returnType = none) (hlk : meth.locks = false) (hR : 1 ≤ R.frames ∧ 21 ≤ R.locals) (hin : meth.name = "<init>") {n0 s0 : Nat} (hRc : z.2.2.2.1 ≤ n0 + R.cells ∧ z.2.2.2.2 ≤ s0 + R.slots) {σ : hp} {t0 : Nat} {w0 : Option Nat} {w1 : Option Nat} {H : Heap} {locs : List Loc} {ls : Array Slot} (hn : n0 ≤ σ.2.2.2.1 ∧ s0 ≤ σ.2.2.2.2) (hh : hw D dA base σ H) (hS : hs base s.heap H locs) (hl : lk ls 1 [(0, .inr (some t0))]) (h : S_X9_init_186 σ t0 w0 w1 = some z) : W p l e R s m args below meth c H locs (σ.2.2.2.1 - n0) (σ.2.2.2.2 - s0) (MQ below (qG D dA base none z) args s (z.2.2.2.1 - n0) (z.2.2.2.2 - s0) (fun q => base ≤ q)) (F0 m 186 ls [va_rf w1, va_rf w0]) := by
  have hz0 := mo_X9_init_186 h
  have hcl : σ.2.2.2.1 - n0 ≤ R.cells ∧ σ.2.2.2.2 - s0 ≤ R.slots := by unfold le4 at hz0; omega
  unfold S_X9_init_186 at h
  obtain ⟨s186, e_s186, h⟩ := o_b h
  refine q_pR X hh hS fp_X9_81 (fun _ => hin) rfl (Or.inr ⟨_, rfl⟩) e_s186 dX9_init_186 (fun H locs hh hS => ?_)
  refine q_aload_n X dX9_init_189 rfl hl 0 rfl ?_
  refine lv_iconst (v := (2 : Int32)) X.1 X.2.1 dX9_init_190 (by decide) ?_
  obtain ⟨q191, e_q191, h⟩ := o_b h
  have ys186 : eq4 σ s186 := (e_pR e_s186)
  refine W.cs (cells' := s186.2.2.2.1 - n0) (slots' := s186.2.2.2.2 - s0) (by rw [show s186.2.2.2 = σ.2.2.2 from ys186]) (by rw [show s186.2.2.2 = σ.2.2.2 from ys186]) ?_
  have hn : n0 ≤ s186.2.2.2.1 ∧ s0 ≤ s186.2.2.2.2 := by rw [show s186.2.2.2 = σ.2.2.2 from ys186]; exact hn
  have hcl : s186.2.2.2.1 - n0 ≤ R.cells ∧ s186.2.2.2.2 - s0 ≤ R.slots := by rw [show s186.2.2.2 = σ.2.2.2 from ys186]; exact hcl
  have g191 := mo_X9_init_193 h
  have f191 := l_na e_q191
  unfold le4 at g191
  refine q_naI (t := 0) X hh hS (by decide) rfl rfl (fun _ _ => rfl) (by decide) (gm 43 (by decide +kernel) rfl) e_q191 dX9_init_191 (by omega) (by omega) (fun H hh hS => ?_)
  refine W.cs (cells' := q191.2.2.2.2.1 - n0) (slots' := q191.2.2.2.2.2 - s0) (by omega) (by omega) ?_
  have hn : n0 ≤ q191.2.2.2.2.1 ∧ s0 ≤ q191.2.2.2.2.2 := by omega
  exact K_X9_init_193 X hret hlk hR hin hRc hn hh hS (lk_sub hl [0] rfl) h
theorem mo_X9_init_177 {z : hp} {σ : hp} {t0 : Nat} {w0 : Option Nat} {w1 : Option Nat} (h : S_X9_init_177 σ t0 w0 w1 = some z) : le4 σ z := by
  unfold S_X9_init_177 at h
  obtain ⟨s177, e_s177, h⟩ := o_b h
  obtain ⟨q184, e_q184, h⟩ := o_b h
  exact (((e_pR e_s177).le).tr (m_na e_q184)).tr (mo_X9_init_186 h)
set_option maxHeartbeats 4000000 in
set_option maxRecDepth 100000 in
theorem K_X9_init_177 {p : Program} {l : Launch} {e : Env} {R : Room} {s : State} {m : MethodId} {args : Array Value} {below : List Frame} {meth : Method} {c : Code} {D : va_G} {dA : Nat → ClassId} {base : Nat} {z : hp} (X : cx p s m args c cX9_init RX9 1 D dA) (hret : meth.sig.returnType = none) (hlk : meth.locks = false) (hR : 1 ≤ R.frames ∧ 21 ≤ R.locals) (hin : meth.name = "<init>") {n0 s0 : Nat} (hRc : z.2.2.2.1 ≤ n0 + R.cells ∧ z.2.2.2.2 ≤ s0 + R.slots) {σ : hp} {t0 : Nat} {w0 : Option Nat} {w1 : Option Nat} {H : Heap} {locs : List Loc} {ls : Array Slot} (hn : n0 ≤ σ.2.2.2.1 ∧ s0 ≤ σ.2.2.2.2) (hh : hw D dA base σ H) (hS : hs base s.heap H locs) (hl : lk ls 1 [(0, .inr (some t0))]) (h : S_X9_init_177 σ t0 w0 w1 = some z) : W p l e R s m args below meth c H locs (σ.2.2.2.1 - n0) (σ.2.2.2.2 - s0) (MQ below (qG D dA base none z) args s (z.2.2.2.1 - n0) (z.2.2.2.2 - s0) (fun q => base ≤ q)) (F0 m 177 ls [va_rf w1, va_rf w0]) := by
  have hz0 := mo_X9_init_177 h
  have hcl : σ.2.2.2.1 - n0 ≤ R.cells ∧ σ.2.2.2.2 - s0 ≤ R.slots := by unfold le4 at hz0; omega
  unfold S_X9_init_177 at h
  obtain ⟨s177, e_s177, h⟩ := o_b h
  refine q_pR X hh hS fp_X9_78 (fun _ => hin) rfl (Or.inr ⟨_, rfl⟩) e_s177 dX9_init_177 (fun H locs hh hS => ?_)
  refine q_aload_n X dX9_init_180 rfl hl 0 rfl ?_
  refine lv_sipush (v := (192 : Int32)) X.1 X.2.1 dX9_init_181 (by decide) ?_
  obtain ⟨q184, e_q184, h⟩ := o_b h
  have ys177 : eq4 σ s177 := (e_pR e_s177)
  refine W.cs (cells' := s177.2.2.2.1 - n0) (slots' := s177.2.2.2.2 - s0) (by rw [show s177.2.2.2 = σ.2.2.2 from ys177]) (by rw [show s177.2.2.2 = σ.2.2.2 from ys177]) ?_
  have hn : n0 ≤ s177.2.2.2.1 ∧ s0 ≤ s177.2.2.2.2 := by rw [show s177.2.2.2 = σ.2.2.2 from ys177]; exact hn
  have hcl : s177.2.2.2.1 - n0 ≤ R.cells ∧ s177.2.2.2.2 - s0 ≤ R.slots := by rw [show s177.2.2.2 = σ.2.2.2 from ys177]; exact hcl
  have g184 := mo_X9_init_186 h
  have f184 := l_na e_q184
  unfold le4 at g184
  refine q_naI (t := 0) X hh hS (by decide) rfl rfl (fun _ _ => rfl) (by decide) (gm 43 (by decide +kernel) rfl) e_q184 dX9_init_184 (by omega) (by omega) (fun H hh hS => ?_)
  refine W.cs (cells' := q184.2.2.2.2.1 - n0) (slots' := q184.2.2.2.2.2 - s0) (by omega) (by omega) ?_
  have hn : n0 ≤ q184.2.2.2.2.1 ∧ s0 ≤ q184.2.2.2.2.2 := by omega
  exact K_X9_init_186 X hret hlk hR hin hRc hn hh hS (lk_sub hl [0] rfl) h
theorem mo_X9_init_169 {z : hp} {σ : hp} {t0 : Nat} {w0 : Option Nat} {w1 : Option Nat} (h : S_X9_init_169 σ t0 w0 w1 = some z) : le4 σ z := by
  unfold S_X9_init_169 at h
  obtain ⟨s169, e_s169, h⟩ := o_b h
  obtain ⟨q175, e_q175, h⟩ := o_b h
  exact (((e_pR e_s169).le).tr (m_na e_q175)).tr (mo_X9_init_177 h)
set_option maxHeartbeats 4000000 in
set_option maxRecDepth 100000 in
theorem K_X9_init_169 {p : Program} {l : Launch} {e : Env} {R : Room} {s : State} {m : MethodId} {args : Array Value} {below : List Frame} {meth : Method} {c : Code} {D : va_G} {dA : Nat → ClassId} {base : Nat} {z : hp} (X : cx p s m args c cX9_init RX9 1 D dA) (hret : meth.sig.returnType = none) (hlk : meth.locks = false) (hR : 1 ≤ R.frames ∧ 21 ≤ R.locals) (hin : meth.name = "<init>") {n0 s0 : Nat} (hRc : z.2.2.2.1 ≤ n0 + R.cells ∧ z.2.2.2.2 ≤ s0 + R.slots) {σ : hp} {t0 : Nat} {w0 : Option Nat} {w1 : Option Nat} {H : Heap} {locs : List Loc} {ls : Array Slot} (hn : n0 ≤ σ.2.2.2.1 ∧ s0 ≤ σ.2.2.2.2) (hh : hw D dA base σ H) (hS : hs base s.heap H locs) (hl : lk ls 1 [(0, .inr (some t0))]) (h : S_X9_init_169 σ t0 w0 w1 = some z) : W p l e R s m args below meth c H locs (σ.2.2.2.1 - n0) (σ.2.2.2.2 - s0) (MQ below (qG D dA base none z) args s (z.2.2.2.1 - n0) (z.2.2.2.2 - s0) (fun q => base ≤ q)) (F0 m 169 ls [va_rf w1, va_rf w0]) := by
  have hz0 := mo_X9_init_169 h
  have hcl : σ.2.2.2.1 - n0 ≤ R.cells ∧ σ.2.2.2.2 - s0 ≤ R.slots := by unfold le4 at hz0; omega
  unfold S_X9_init_169 at h
  obtain ⟨s169, e_s169, h⟩ := o_b h
  refine q_pR X hh hS fp_X9_75 (fun _ => hin) rfl (Or.inr ⟨_, rfl⟩) e_s169 dX9_init_169 (fun H locs hh hS => ?_)
  refine q_aload_n X dX9_init_172 rfl hl 0 rfl ?_
  refine lv_bipush (v := (6 : Int32)) X.1 X.2.1 dX9_init_173 (by decide) ?_
  obtain ⟨q175, e_q175, h⟩ := o_b h
  have ys169 : eq4 σ s169 := (e_pR e_s169)
  refine W.cs (cells' := s169.2.2.2.1 - n0) (slots' := s169.2.2.2.2 - s0) (by rw [show s169.2.2.2 = σ.2.2.2 from ys169]) (by rw [show s169.2.2.2 = σ.2.2.2 from ys169]) ?_
  have hn : n0 ≤ s169.2.2.2.1 ∧ s0 ≤ s169.2.2.2.2 := by rw [show s169.2.2.2 = σ.2.2.2 from ys169]; exact hn
  have hcl : s169.2.2.2.1 - n0 ≤ R.cells ∧ s169.2.2.2.2 - s0 ≤ R.slots := by rw [show s169.2.2.2 = σ.2.2.2 from ys169]; exact hcl
  have g175 := mo_X9_init_177 h
  have f175 := l_na e_q175
  unfold le4 at g175
  refine q_naI (t := 0) X hh hS (by decide) rfl rfl (fun _ _ => rfl) (by decide) (gm 43 (by decide +kernel) rfl) e_q175 dX9_init_175 (by omega) (by omega) (fun H hh hS => ?_)
  refine W.cs (cells' := q175.2.2.2.2.1 - n0) (slots' := q175.2.2.2.2.2 - s0) (by omega) (by omega) ?_
  have hn : n0 ≤ q175.2.2.2.2.1 ∧ s0 ≤ q175.2.2.2.2.2 := by omega
  exact K_X9_init_177 X hret hlk hR hin hRc hn hh hS (lk_sub hl [0] rfl) h
theorem mo_X9_init_162 {z : hp} {σ : hp} {t0 : Nat} {w0 : Option Nat} {w1 : Option Nat} (h : S_X9_init_162 σ t0 w0 w1 = some z) : le4 σ z := by
  unfold S_X9_init_162 at h
  obtain ⟨s162, e_s162, h⟩ := o_b h
  obtain ⟨q167, e_q167, h⟩ := o_b h
  exact (((e_pR e_s162).le).tr (m_na e_q167)).tr (mo_X9_init_169 h)
set_option maxHeartbeats 4000000 in
set_option maxRecDepth 100000 in
theorem K_X9_init_162 {p : Program} {l : Launch} {e : Env} {R : Room} {s : State} {m : MethodId} {args : Array Value} {below : List Frame} {meth : Method} {c : Code} {D : va_G} {dA : Nat → ClassId} {base : Nat} {z : hp} (X : cx p s m args c cX9_init RX9 1 D dA) (hret : meth.sig.returnType = none) (hlk : meth.locks = false) (hR : 1 ≤ R.frames ∧ 21 ≤ R.locals) (hin : meth.name = "<init>") {n0 s0 : Nat} (hRc : z.2.2.2.1 ≤ n0 + R.cells ∧ z.2.2.2.2 ≤ s0 + R.slots) {σ : hp} {t0 : Nat} {w0 : Option Nat} {w1 : Option Nat} {H : Heap} {locs : List Loc} {ls : Array Slot} (hn : n0 ≤ σ.2.2.2.1 ∧ s0 ≤ σ.2.2.2.2) (hh : hw D dA base σ H) (hS : hs base s.heap H locs) (hl : lk ls 1 [(0, .inr (some t0))]) (h : S_X9_init_162 σ t0 w0 w1 = some z) : W p l e R s m args below meth c H locs (σ.2.2.2.1 - n0) (σ.2.2.2.2 - s0) (MQ below (qG D dA base none z) args s (z.2.2.2.1 - n0) (z.2.2.2.2 - s0) (fun q => base ≤ q)) (F0 m 162 ls [va_rf w1, va_rf w0]) := by
  have hz0 := mo_X9_init_162 h
  have hcl : σ.2.2.2.1 - n0 ≤ R.cells ∧ σ.2.2.2.2 - s0 ≤ R.slots := by unfold le4 at hz0; omega
  unfold S_X9_init_162 at h
  obtain ⟨s162, e_s162, h⟩ := o_b h
  refine q_pR X hh hS fp_X9_72 (fun _ => hin) rfl (Or.inr ⟨_, rfl⟩) e_s162 dX9_init_162 (fun H locs hh hS => ?_)
  refine q_aload_n X dX9_init_165 rfl hl 0 rfl ?_
  refine lv_iconst (v := (2 : Int32)) X.1 X.2.1 dX9_init_166 (by decide) ?_
  obtain ⟨q167, e_q167, h⟩ := o_b h
  have ys162 : eq4 σ s162 := (e_pR e_s162)
  refine W.cs (cells' := s162.2.2.2.1 - n0) (slots' := s162.2.2.2.2 - s0) (by rw [show s162.2.2.2 = σ.2.2.2 from ys162]) (by rw [show s162.2.2.2 = σ.2.2.2 from ys162]) ?_
  have hn : n0 ≤ s162.2.2.2.1 ∧ s0 ≤ s162.2.2.2.2 := by rw [show s162.2.2.2 = σ.2.2.2 from ys162]; exact hn
  have hcl : s162.2.2.2.1 - n0 ≤ R.cells ∧ s162.2.2.2.2 - s0 ≤ R.slots := by rw [show s162.2.2.2 = σ.2.2.2 from ys162]; exact hcl
  have g167 := mo_X9_init_169 h
  have f167 := l_na e_q167
  unfold le4 at g167
  refine q_naI (t := 0) X hh hS (by decide) rfl rfl (fun _ _ => rfl) (by decide) (gm 43 (by decide +kernel) rfl) e_q167 dX9_init_167 (by omega) (by omega) (fun H hh hS => ?_)
  refine W.cs (cells' := q167.2.2.2.2.1 - n0) (slots' := q167.2.2.2.2.2 - s0) (by omega) (by omega) ?_
  have hn : n0 ≤ q167.2.2.2.2.1 ∧ s0 ≤ q167.2.2.2.2.2 := by omega
  exact K_X9_init_169 X hret hlk hR hin hRc hn hh hS (lk_sub hl [0] rfl) h
theorem mo_X9_init_155 {z : hp} {σ : hp} {t0 : Nat} {w0 : Option Nat} {w1 : Option Nat} (h : S_X9_init_155 σ t0 w0 w1 = some z) : le4 σ z := by
  unfold S_X9_init_155 at h
  obtain ⟨s155, e_s155, h⟩ := o_b h
  obtain ⟨q160, e_q160, h⟩ := o_b h
  exact (((e_pR e_s155).le).tr (m_na e_q160)).tr (mo_X9_init_162 h)
set_option maxHeartbeats 4000000 in
set_option maxRecDepth 100000 in
theorem K_X9_init_155 {p : Program} {l : Launch} {e : Env} {R : Room} {s : State} {m : MethodId} {args : Array Value} {below : List Frame} {meth : Method} {c : Code} {D : va_G} {dA : Nat → ClassId} {base : Nat} {z : hp} (X : cx p s m args c cX9_init RX9 1 D dA) (hret : meth.sig.returnType = none) (hlk : meth.locks = false) (hR : 1 ≤ R.frames ∧ 21 ≤ R.locals) (hin : meth.name = "<init>") {n0 s0 : Nat} (hRc : z.2.2.2.1 ≤ n0 + R.cells ∧ z.2.2.2.2 ≤ s0 + R.slots) {σ : hp} {t0 : Nat} {w0 : Option Nat} {w1 : Option Nat} {H : Heap} {locs : List Loc} {ls : Array Slot} (hn : n0 ≤ σ.2.2.2.1 ∧ s0 ≤ σ.2.2.2.2) (hh : hw D dA base σ H) (hS : hs base s.heap H locs) (hl : lk ls 1 [(0, .inr (some t0))]) (h : S_X9_init_155 σ t0 w0 w1 = some z) : W p l e R s m args below meth c H locs (σ.2.2.2.1 - n0) (σ.2.2.2.2 - s0) (MQ below (qG D dA base none z) args s (z.2.2.2.1 - n0) (z.2.2.2.2 - s0) (fun q => base ≤ q)) (F0 m 155 ls [va_rf w1, va_rf w0]) := by
  have hz0 := mo_X9_init_155 h
  have hcl : σ.2.2.2.1 - n0 ≤ R.cells ∧ σ.2.2.2.2 - s0 ≤ R.slots := by unfold le4 at hz0; omega
  unfold S_X9_init_155 at h
  obtain ⟨s155, e_s155, h⟩ := o_b h
  refine q_pR X hh hS fp_X9_69 (fun _ => hin) rfl (Or.inr ⟨_, rfl⟩) e_s155 dX9_init_155 (fun H locs hh hS => ?_)
  refine q_aload_n X dX9_init_158 rfl hl 0 rfl ?_
  refine lv_iconst (v := (2 : Int32)) X.1 X.2.1 dX9_init_159 (by decide) ?_
  obtain ⟨q160, e_q160, h⟩ := o_b h
  have ys155 : eq4 σ s155 := (e_pR e_s155)
  refine W.cs (cells' := s155.2.2.2.1 - n0) (slots' := s155.2.2.2.2 - s0) (by rw [show s155.2.2.2 = σ.2.2.2 from ys155]) (by rw [show s155.2.2.2 = σ.2.2.2 from ys155]) ?_
  have hn : n0 ≤ s155.2.2.2.1 ∧ s0 ≤ s155.2.2.2.2 := by rw [show s155.2.2.2 = σ.2.2.2 from ys155]; exact hn
  have hcl : s155.2.2.2.1 - n0 ≤ R.cells ∧ s155.2.2.2.2 - s0 ≤ R.slots := by rw [show s155.2.2.2 = σ.2.2.2 from ys155]; exact hcl
  have g160 := mo_X9_init_162 h
  have f160 := l_na e_q160
  unfold le4 at g160
  refine q_naI (t := 0) X hh hS (by decide) rfl rfl (fun _ _ => rfl) (by decide) (gm 43 (by decide +kernel) rfl) e_q160 dX9_init_160 (by omega) (by omega) (fun H hh hS => ?_)
  refine W.cs (cells' := q160.2.2.2.2.1 - n0) (slots' := q160.2.2.2.2.2 - s0) (by omega) (by omega) ?_
  have hn : n0 ≤ q160.2.2.2.2.1 ∧ s0 ≤ q160.2.2.2.2.2 := by omega
  exact K_X9_init_162 X hret hlk hR hin hRc hn hh hS (lk_sub hl [0] rfl) h
theorem mo_X9_init_148 {z : hp} {σ : hp} {t0 : Nat} {w0 : Option Nat} {w1 : Option Nat} (h : S_X9_init_148 σ t0 w0 w1 = some z) : le4 σ z := by
  unfold S_X9_init_148 at h
  obtain ⟨s148, e_s148, h⟩ := o_b h
  obtain ⟨q153, e_q153, h⟩ := o_b h
  exact (((e_pR e_s148).le).tr (m_na e_q153)).tr (mo_X9_init_155 h)
set_option maxHeartbeats 4000000 in
set_option maxRecDepth 100000 in
theorem K_X9_init_148 {p : Program} {l : Launch} {e : Env} {R : Room} {s : State} {m : MethodId} {args : Array Value} {below : List Frame} {meth : Method} {c : Code} {D : va_G} {dA : Nat → ClassId} {base : Nat} {z : hp} (X : cx p s m args c cX9_init RX9 1 D dA) (hret : meth.sig.returnType = none) (hlk : meth.locks = false) (hR : 1 ≤ R.frames ∧ 21 ≤ R.locals) (hin : meth.name = "<init>") {n0 s0 : Nat} (hRc : z.2.2.2.1 ≤ n0 + R.cells ∧ z.2.2.2.2 ≤ s0 + R.slots) {σ : hp} {t0 : Nat} {w0 : Option Nat} {w1 : Option Nat} {H : Heap} {locs : List Loc} {ls : Array Slot} (hn : n0 ≤ σ.2.2.2.1 ∧ s0 ≤ σ.2.2.2.2) (hh : hw D dA base σ H) (hS : hs base s.heap H locs) (hl : lk ls 1 [(0, .inr (some t0))]) (h : S_X9_init_148 σ t0 w0 w1 = some z) : W p l e R s m args below meth c H locs (σ.2.2.2.1 - n0) (σ.2.2.2.2 - s0) (MQ below (qG D dA base none z) args s (z.2.2.2.1 - n0) (z.2.2.2.2 - s0) (fun q => base ≤ q)) (F0 m 148 ls [va_rf w1, va_rf w0]) := by
  have hz0 := mo_X9_init_148 h
  have hcl : σ.2.2.2.1 - n0 ≤ R.cells ∧ σ.2.2.2.2 - s0 ≤ R.slots := by unfold le4 at hz0; omega
  unfold S_X9_init_148 at h
  obtain ⟨s148, e_s148, h⟩ := o_b h
  refine q_pR X hh hS fp_X9_66 (fun _ => hin) rfl (Or.inr ⟨_, rfl⟩) e_s148 dX9_init_148 (fun H locs hh hS => ?_)
  refine q_aload_n X dX9_init_151 rfl hl 0 rfl ?_
  refine lv_iconst (v := (2 : Int32)) X.1 X.2.1 dX9_init_152 (by decide) ?_
  obtain ⟨q153, e_q153, h⟩ := o_b h
  have ys148 : eq4 σ s148 := (e_pR e_s148)
  refine W.cs (cells' := s148.2.2.2.1 - n0) (slots' := s148.2.2.2.2 - s0) (by rw [show s148.2.2.2 = σ.2.2.2 from ys148]) (by rw [show s148.2.2.2 = σ.2.2.2 from ys148]) ?_
  have hn : n0 ≤ s148.2.2.2.1 ∧ s0 ≤ s148.2.2.2.2 := by rw [show s148.2.2.2 = σ.2.2.2 from ys148]; exact hn
  have hcl : s148.2.2.2.1 - n0 ≤ R.cells ∧ s148.2.2.2.2 - s0 ≤ R.slots := by rw [show s148.2.2.2 = σ.2.2.2 from ys148]; exact hcl
  have g153 := mo_X9_init_155 h
  have f153 := l_na e_q153
  unfold le4 at g153
  refine q_naI (t := 0) X hh hS (by decide) rfl rfl (fun _ _ => rfl) (by decide) (gm 43 (by decide +kernel) rfl) e_q153 dX9_init_153 (by omega) (by omega) (fun H hh hS => ?_)
  refine W.cs (cells' := q153.2.2.2.2.1 - n0) (slots' := q153.2.2.2.2.2 - s0) (by omega) (by omega) ?_
  have hn : n0 ≤ q153.2.2.2.2.1 ∧ s0 ≤ q153.2.2.2.2.2 := by omega
  exact K_X9_init_155 X hret hlk hR hin hRc hn hh hS (lk_sub hl [0] rfl) h
theorem mo_X9_init_141 {z : hp} {σ : hp} {t0 : Nat} {w0 : Option Nat} {w1 : Option Nat} (h : S_X9_init_141 σ t0 w0 w1 = some z) : le4 σ z := by
  unfold S_X9_init_141 at h
  obtain ⟨s141, e_s141, h⟩ := o_b h
  obtain ⟨q146, e_q146, h⟩ := o_b h
  exact (((e_pR e_s141).le).tr (m_na e_q146)).tr (mo_X9_init_148 h)
set_option maxHeartbeats 4000000 in
set_option maxRecDepth 100000 in
theorem K_X9_init_141 {p : Program} {l : Launch} {e : Env} {R : Room} {s : State} {m : MethodId} {args : Array Value} {below : List Frame} {meth : Method} {c : Code} {D : va_G} {dA : Nat → ClassId} {base : Nat} {z : hp} (X : cx p s m args c cX9_init RX9 1 D dA) (hret : meth.sig.returnType = none) (hlk : meth.locks = false) (hR : 1 ≤ R.frames ∧ 21 ≤ R.locals) (hin : meth.name = "<init>") {n0 s0 : Nat} (hRc : z.2.2.2.1 ≤ n0 + R.cells ∧ z.2.2.2.2 ≤ s0 + R.slots) {σ : hp} {t0 : Nat} {w0 : Option Nat} {w1 : Option Nat} {H : Heap} {locs : List Loc} {ls : Array Slot} (hn : n0 ≤ σ.2.2.2.1 ∧ s0 ≤ σ.2.2.2.2) (hh : hw D dA base σ H) (hS : hs base s.heap H locs) (hl : lk ls 1 [(0, .inr (some t0))]) (h : S_X9_init_141 σ t0 w0 w1 = some z) : W p l e R s m args below meth c H locs (σ.2.2.2.1 - n0) (σ.2.2.2.2 - s0) (MQ below (qG D dA base none z) args s (z.2.2.2.1 - n0) (z.2.2.2.2 - s0) (fun q => base ≤ q)) (F0 m 141 ls [va_rf w1, va_rf w0]) := by
  have hz0 := mo_X9_init_141 h
  have hcl : σ.2.2.2.1 - n0 ≤ R.cells ∧ σ.2.2.2.2 - s0 ≤ R.slots := by unfold le4 at hz0; omega
  unfold S_X9_init_141 at h
  obtain ⟨s141, e_s141, h⟩ := o_b h
  refine q_pR X hh hS fp_X9_63 (fun _ => hin) rfl (Or.inr ⟨_, rfl⟩) e_s141 dX9_init_141 (fun H locs hh hS => ?_)
  refine q_aload_n X dX9_init_144 rfl hl 0 rfl ?_
  refine lv_iconst (v := (2 : Int32)) X.1 X.2.1 dX9_init_145 (by decide) ?_
  obtain ⟨q146, e_q146, h⟩ := o_b h
  have ys141 : eq4 σ s141 := (e_pR e_s141)
  refine W.cs (cells' := s141.2.2.2.1 - n0) (slots' := s141.2.2.2.2 - s0) (by rw [show s141.2.2.2 = σ.2.2.2 from ys141]) (by rw [show s141.2.2.2 = σ.2.2.2 from ys141]) ?_
  have hn : n0 ≤ s141.2.2.2.1 ∧ s0 ≤ s141.2.2.2.2 := by rw [show s141.2.2.2 = σ.2.2.2 from ys141]; exact hn
  have hcl : s141.2.2.2.1 - n0 ≤ R.cells ∧ s141.2.2.2.2 - s0 ≤ R.slots := by rw [show s141.2.2.2 = σ.2.2.2 from ys141]; exact hcl
  have g146 := mo_X9_init_148 h
  have f146 := l_na e_q146
  unfold le4 at g146
  refine q_naI (t := 1) X hh hS (by decide) rfl rfl (fun _ _ => rfl) (by decide) (gm 668 (by decide +kernel) rfl) e_q146 dX9_init_146 (by omega) (by omega) (fun H hh hS => ?_)
  refine W.cs (cells' := q146.2.2.2.2.1 - n0) (slots' := q146.2.2.2.2.2 - s0) (by omega) (by omega) ?_
  have hn : n0 ≤ q146.2.2.2.2.1 ∧ s0 ≤ q146.2.2.2.2.2 := by omega
  exact K_X9_init_148 X hret hlk hR hin hRc hn hh hS (lk_sub hl [0] rfl) h
theorem mo_X9_init_134 {z : hp} {σ : hp} {t0 : Nat} {w0 : Option Nat} {w1 : Option Nat} (h : S_X9_init_134 σ t0 w0 w1 = some z) : le4 σ z := by
  unfold S_X9_init_134 at h
  obtain ⟨s134, e_s134, h⟩ := o_b h
  obtain ⟨q139, e_q139, h⟩ := o_b h
  exact (((e_pR e_s134).le).tr (m_na e_q139)).tr (mo_X9_init_141 h)
set_option maxHeartbeats 4000000 in
set_option maxRecDepth 100000 in
theorem K_X9_init_134 {p : Program} {l : Launch} {e : Env} {R : Room} {s : State} {m : MethodId} {args : Array Value} {below : List Frame} {meth : Method} {c : Code} {D : va_G} {dA : Nat → ClassId} {base : Nat} {z : hp} (X : cx p s m args c cX9_init RX9 1 D dA) (hret : meth.sig.returnType = none) (hlk : meth.locks = false) (hR : 1 ≤ R.frames ∧ 21 ≤ R.locals) (hin : meth.name = "<init>") {n0 s0 : Nat} (hRc : z.2.2.2.1 ≤ n0 + R.cells ∧ z.2.2.2.2 ≤ s0 + R.slots) {σ : hp} {t0 : Nat} {w0 : Option Nat} {w1 : Option Nat} {H : Heap} {locs : List Loc} {ls : Array Slot} (hn : n0 ≤ σ.2.2.2.1 ∧ s0 ≤ σ.2.2.2.2) (hh : hw D dA base σ H) (hS : hs base s.heap H locs) (hl : lk ls 1 [(0, .inr (some t0))]) (h : S_X9_init_134 σ t0 w0 w1 = some z) : W p l e R s m args below meth c H locs (σ.2.2.2.1 - n0) (σ.2.2.2.2 - s0) (MQ below (qG D dA base none z) args s (z.2.2.2.1 - n0) (z.2.2.2.2 - s0) (fun q => base ≤ q)) (F0 m 134 ls [va_rf w1, va_rf w0]) := by
  have hz0 := mo_X9_init_134 h
  have hcl : σ.2.2.2.1 - n0 ≤ R.cells ∧ σ.2.2.2.2 - s0 ≤ R.slots := by unfold le4 at hz0; omega
  unfold S_X9_init_134 at h
  obtain ⟨s134, e_s134, h⟩ := o_b h
  refine q_pR X hh hS fp_X9_59 (fun _ => hin) rfl (Or.inr ⟨_, rfl⟩) e_s134 dX9_init_134 (fun H locs hh hS => ?_)
  refine q_aload_n X dX9_init_137 rfl hl 0 rfl ?_
  refine lv_iconst (v := (2 : Int32)) X.1 X.2.1 dX9_init_138 (by decide) ?_
  obtain ⟨q139, e_q139, h⟩ := o_b h
  have ys134 : eq4 σ s134 := (e_pR e_s134)
  refine W.cs (cells' := s134.2.2.2.1 - n0) (slots' := s134.2.2.2.2 - s0) (by rw [show s134.2.2.2 = σ.2.2.2 from ys134]) (by rw [show s134.2.2.2 = σ.2.2.2 from ys134]) ?_
  have hn : n0 ≤ s134.2.2.2.1 ∧ s0 ≤ s134.2.2.2.2 := by rw [show s134.2.2.2 = σ.2.2.2 from ys134]; exact hn
  have hcl : s134.2.2.2.1 - n0 ≤ R.cells ∧ s134.2.2.2.2 - s0 ≤ R.slots := by rw [show s134.2.2.2 = σ.2.2.2 from ys134]; exact hcl
  have g139 := mo_X9_init_141 h
  have f139 := l_na e_q139
  unfold le4 at g139
  refine q_naI (t := 0) X hh hS (by decide) rfl rfl (fun _ _ => rfl) (by decide) (gm 43 (by decide +kernel) rfl) e_q139 dX9_init_139 (by omega) (by omega) (fun H hh hS => ?_)
  refine W.cs (cells' := q139.2.2.2.2.1 - n0) (slots' := q139.2.2.2.2.2 - s0) (by omega) (by omega) ?_
  have hn : n0 ≤ q139.2.2.2.2.1 ∧ s0 ≤ q139.2.2.2.2.2 := by omega
  exact K_X9_init_141 X hret hlk hR hin hRc hn hh hS (lk_sub hl [0] rfl) h
theorem mo_X9_init_127 {z : hp} {σ : hp} {t0 : Nat} {w0 : Option Nat} {w1 : Option Nat} (h : S_X9_init_127 σ t0 w0 w1 = some z) : le4 σ z := by
  unfold S_X9_init_127 at h
  obtain ⟨s127, e_s127, h⟩ := o_b h
  obtain ⟨q132, e_q132, h⟩ := o_b h
  exact (((e_pR e_s127).le).tr (m_na e_q132)).tr (mo_X9_init_134 h)
set_option maxHeartbeats 4000000 in
set_option maxRecDepth 100000 in
theorem K_X9_init_127 {p : Program} {l : Launch} {e : Env} {R : Room} {s : State} {m : MethodId} {args : Array Value} {below : List Frame} {meth : Method} {c : Code} {D : va_G} {dA : Nat → ClassId} {base : Nat} {z : hp} (X : cx p s m args c cX9_init RX9 1 D dA) (hret : meth.sig.returnType = none) (hlk : meth.locks = false) (hR : 1 ≤ R.frames ∧ 21 ≤ R.locals) (hin : meth.name = "<init>") {n0 s0 : Nat} (hRc : z.2.2.2.1 ≤ n0 + R.cells ∧ z.2.2.2.2 ≤ s0 + R.slots) {σ : hp} {t0 : Nat} {w0 : Option Nat} {w1 : Option Nat} {H : Heap} {locs : List Loc} {ls : Array Slot} (hn : n0 ≤ σ.2.2.2.1 ∧ s0 ≤ σ.2.2.2.2) (hh : hw D dA base σ H) (hS : hs base s.heap H locs) (hl : lk ls 1 [(0, .inr (some t0))]) (h : S_X9_init_127 σ t0 w0 w1 = some z) : W p l e R s m args below meth c H locs (σ.2.2.2.1 - n0) (σ.2.2.2.2 - s0) (MQ below (qG D dA base none z) args s (z.2.2.2.1 - n0) (z.2.2.2.2 - s0) (fun q => base ≤ q)) (F0 m 127 ls [va_rf w1, va_rf w0]) := by
  have hz0 := mo_X9_init_127 h
  have hcl : σ.2.2.2.1 - n0 ≤ R.cells ∧ σ.2.2.2.2 - s0 ≤ R.slots := by unfold le4 at hz0; omega
  unfold S_X9_init_127 at h
  obtain ⟨s127, e_s127, h⟩ := o_b h
  refine q_pR X hh hS fp_X9_56 (fun _ => hin) rfl (Or.inr ⟨_, rfl⟩) e_s127 dX9_init_127 (fun H locs hh hS => ?_)
  refine q_aload_n X dX9_init_130 rfl hl 0 rfl ?_
  refine lv_iconst (v := (2 : Int32)) X.1 X.2.1 dX9_init_131 (by decide) ?_
  obtain ⟨q132, e_q132, h⟩ := o_b h
  have ys127 : eq4 σ s127 := (e_pR e_s127)
  refine W.cs (cells' := s127.2.2.2.1 - n0) (slots' := s127.2.2.2.2 - s0) (by rw [show s127.2.2.2 = σ.2.2.2 from ys127]) (by rw [show s127.2.2.2 = σ.2.2.2 from ys127]) ?_
  have hn : n0 ≤ s127.2.2.2.1 ∧ s0 ≤ s127.2.2.2.2 := by rw [show s127.2.2.2 = σ.2.2.2 from ys127]; exact hn
  have hcl : s127.2.2.2.1 - n0 ≤ R.cells ∧ s127.2.2.2.2 - s0 ≤ R.slots := by rw [show s127.2.2.2 = σ.2.2.2 from ys127]; exact hcl
  have g132 := mo_X9_init_134 h
  have f132 := l_na e_q132
  unfold le4 at g132
  refine q_naI (t := 1) X hh hS (by decide) rfl rfl (fun _ _ => rfl) (by decide) (gm 668 (by decide +kernel) rfl) e_q132 dX9_init_132 (by omega) (by omega) (fun H hh hS => ?_)
  refine W.cs (cells' := q132.2.2.2.2.1 - n0) (slots' := q132.2.2.2.2.2 - s0) (by omega) (by omega) ?_
  have hn : n0 ≤ q132.2.2.2.2.1 ∧ s0 ≤ q132.2.2.2.2.2 := by omega
  exact K_X9_init_134 X hret hlk hR hin hRc hn hh hS (lk_sub hl [0] rfl) h
theorem mo_X9_init_120 {z : hp} {σ : hp} {t0 : Nat} {w0 : Option Nat} {w1 : Option Nat} (h : S_X9_init_120 σ t0 w0 w1 = some z) : le4 σ z := by
  unfold S_X9_init_120 at h
  obtain ⟨s120, e_s120, h⟩ := o_b h
  obtain ⟨q125, e_q125, h⟩ := o_b h
  exact (((e_pR e_s120).le).tr (m_na e_q125)).tr (mo_X9_init_127 h)
set_option maxHeartbeats 4000000 in
set_option maxRecDepth 100000 in
theorem K_X9_init_120 {p : Program} {l : Launch} {e : Env} {R : Room} {s : State} {m : MethodId} {args : Array Value} {below : List Frame} {meth : Method} {c : Code} {D : va_G} {dA : Nat → ClassId} {base : Nat} {z : hp} (X : cx p s m args c cX9_init RX9 1 D dA) (hret : meth.sig.returnType = none) (hlk : meth.locks = false) (hR : 1 ≤ R.frames ∧ 21 ≤ R.locals) (hin : meth.name = "<init>") {n0 s0 : Nat} (hRc : z.2.2.2.1 ≤ n0 + R.cells ∧ z.2.2.2.2 ≤ s0 + R.slots) {σ : hp} {t0 : Nat} {w0 : Option Nat} {w1 : Option Nat} {H : Heap} {locs : List Loc} {ls : Array Slot} (hn : n0 ≤ σ.2.2.2.1 ∧ s0 ≤ σ.2.2.2.2) (hh : hw D dA base σ H) (hS : hs base s.heap H locs) (hl : lk ls 1 [(0, .inr (some t0))]) (h : S_X9_init_120 σ t0 w0 w1 = some z) : W p l e R s m args below meth c H locs (σ.2.2.2.1 - n0) (σ.2.2.2.2 - s0) (MQ below (qG D dA base none z) args s (z.2.2.2.1 - n0) (z.2.2.2.2 - s0) (fun q => base ≤ q)) (F0 m 120 ls [va_rf w1, va_rf w0]) := by
  have hz0 := mo_X9_init_120 h
  have hcl : σ.2.2.2.1 - n0 ≤ R.cells ∧ σ.2.2.2.2 - s0 ≤ R.slots := by unfold le4 at hz0; omega
  unfold S_X9_init_120 at h
  obtain ⟨s120, e_s120, h⟩ := o_b h
  refine q_pR X hh hS fp_X9_53 (fun _ => hin) rfl (Or.inr ⟨_, rfl⟩) e_s120 dX9_init_120 (fun H locs hh hS => ?_)
  refine q_aload_n X dX9_init_123 rfl hl 0 rfl ?_
  refine lv_iconst (v := (2 : Int32)) X.1 X.2.1 dX9_init_124 (by decide) ?_
  obtain ⟨q125, e_q125, h⟩ := o_b h
  have ys120 : eq4 σ s120 := (e_pR e_s120)
  refine W.cs (cells' := s120.2.2.2.1 - n0) (slots' := s120.2.2.2.2 - s0) (by rw [show s120.2.2.2 = σ.2.2.2 from ys120]) (by rw [show s120.2.2.2 = σ.2.2.2 from ys120]) ?_
  have hn : n0 ≤ s120.2.2.2.1 ∧ s0 ≤ s120.2.2.2.2 := by rw [show s120.2.2.2 = σ.2.2.2 from ys120]; exact hn
  have hcl : s120.2.2.2.1 - n0 ≤ R.cells ∧ s120.2.2.2.2 - s0 ≤ R.slots := by rw [show s120.2.2.2 = σ.2.2.2 from ys120]; exact hcl
  have g125 := mo_X9_init_127 h
  have f125 := l_na e_q125
  unfold le4 at g125
  refine q_naI (t := 0) X hh hS (by decide) rfl rfl (fun _ _ => rfl) (by decide) (gm 43 (by decide +kernel) rfl) e_q125 dX9_init_125 (by omega) (by omega) (fun H hh hS => ?_)
  refine W.cs (cells' := q125.2.2.2.2.1 - n0) (slots' := q125.2.2.2.2.2 - s0) (by omega) (by omega) ?_
  have hn : n0 ≤ q125.2.2.2.2.1 ∧ s0 ≤ q125.2.2.2.2.2 := by omega
  exact K_X9_init_127 X hret hlk hR hin hRc hn hh hS (lk_sub hl [0] rfl) h
theorem mo_X9_init_112 {z : hp} {σ : hp} {t0 : Nat} {w0 : Option Nat} {w1 : Option Nat} (h : S_X9_init_112 σ t0 w0 w1 = some z) : le4 σ z := by
  unfold S_X9_init_112 at h
  obtain ⟨s112, e_s112, h⟩ := o_b h
  obtain ⟨q118, e_q118, h⟩ := o_b h
  exact (((e_pR e_s112).le).tr (m_na e_q118)).tr (mo_X9_init_120 h)
set_option maxHeartbeats 4000000 in
set_option maxRecDepth 100000 in
theorem K_X9_init_112 {p : Program} {l : Launch} {e : Env} {R : Room} {s : State} {m : MethodId} {args : Array Value} {below : List Frame} {meth : Method} {c : Code} {D : va_G} {dA : Nat → ClassId} {base : Nat} {z : hp} (X : cx p s m args c cX9_init RX9 1 D dA) (hret : meth.sig.returnType = none) (hlk : meth.locks = false) (hR : 1 ≤ R.frames ∧ 21 ≤ R.locals) (hin : meth.name = "<init>") {n0 s0 : Nat} (hRc : z.2.2.2.1 ≤ n0 + R.cells ∧ z.2.2.2.2 ≤ s0 + R.slots) {σ : hp} {t0 : Nat} {w0 : Option Nat} {w1 : Option Nat} {H : Heap} {locs : List Loc} {ls : Array Slot} (hn : n0 ≤ σ.2.2.2.1 ∧ s0 ≤ σ.2.2.2.2) (hh : hw D dA base σ H) (hS : hs base s.heap H locs) (hl : lk ls 1 [(0, .inr (some t0))]) (h : S_X9_init_112 σ t0 w0 w1 = some z) : W p l e R s m args below meth c H locs (σ.2.2.2.1 - n0) (σ.2.2.2.2 - s0) (MQ below (qG D dA base none z) args s (z.2.2.2.1 - n0) (z.2.2.2.2 - s0) (fun q => base ≤ q)) (F0 m 112 ls [va_rf w1, va_rf w0]) := by
  have hz0 := mo_X9_init_112 h
  have hcl : σ.2.2.2.1 - n0 ≤ R.cells ∧ σ.2.2.2.2 - s0 ≤ R.slots := by unfold le4 at hz0; omega
  unfold S_X9_init_112 at h
  obtain ⟨s112, e_s112, h⟩ := o_b h
  refine q_pR X hh hS fp_X9_50 (fun _ => hin) rfl (Or.inr ⟨_, rfl⟩) e_s112 dX9_init_112 (fun H locs hh hS => ?_)
  refine q_aload_n X dX9_init_115 rfl hl 0 rfl ?_
  refine lv_bipush (v := (38 : Int32)) X.1 X.2.1 dX9_init_116 (by decide) ?_
  obtain ⟨q118, e_q118, h⟩ := o_b h
  have ys112 : eq4 σ s112 := (e_pR e_s112)
  refine W.cs (cells' := s112.2.2.2.1 - n0) (slots' := s112.2.2.2.2 - s0) (by rw [show s112.2.2.2 = σ.2.2.2 from ys112]) (by rw [show s112.2.2.2 = σ.2.2.2 from ys112]) ?_
  have hn : n0 ≤ s112.2.2.2.1 ∧ s0 ≤ s112.2.2.2.2 := by rw [show s112.2.2.2 = σ.2.2.2 from ys112]; exact hn
  have hcl : s112.2.2.2.1 - n0 ≤ R.cells ∧ s112.2.2.2.2 - s0 ≤ R.slots := by rw [show s112.2.2.2 = σ.2.2.2 from ys112]; exact hcl
  have g118 := mo_X9_init_120 h
  have f118 := l_na e_q118
  unfold le4 at g118
  refine q_naI (t := 0) X hh hS (by decide) rfl rfl (fun _ _ => rfl) (by decide) (gm 43 (by decide +kernel) rfl) e_q118 dX9_init_118 (by omega) (by omega) (fun H hh hS => ?_)
  refine W.cs (cells' := q118.2.2.2.2.1 - n0) (slots' := q118.2.2.2.2.2 - s0) (by omega) (by omega) ?_
  have hn : n0 ≤ q118.2.2.2.2.1 ∧ s0 ≤ q118.2.2.2.2.2 := by omega
  exact K_X9_init_120 X hret hlk hR hin hRc hn hh hS (lk_sub hl [0] rfl) h
theorem mo_X9_init_104 {z : hp} {σ : hp} {t0 : Nat} {w0 : Option Nat} {w1 : Option Nat} (h : S_X9_init_104 σ t0 w0 w1 = some z) : le4 σ z := by
  unfold S_X9_init_104 at h
  obtain ⟨s104, e_s104, h⟩ := o_b h
  obtain ⟨q110, e_q110, h⟩ := o_b h
  exact (((e_pR e_s104).le).tr (m_na e_q110)).tr (mo_X9_init_112 h)
set_option maxHeartbeats 4000000 in
set_option maxRecDepth 100000 in
theorem K_X9_init_104 {p : Program} {l : Launch} {e : Env} {R : Room} {s : State} {m : MethodId} {args : Array Value} {below : List Frame} {meth : Method} {c : Code} {D : va_G} {dA : Nat → ClassId} {base : Nat} {z : hp} (X : cx p s m args c cX9_init RX9 1 D dA) (hret : meth.sig.returnType = none) (hlk : meth.locks = false) (hR : 1 ≤ R.frames ∧ 21 ≤ R.locals) (hin : meth.name = "<init>") {n0 s0 : Nat} (hRc : z.2.2.2.1 ≤ n0 + R.cells ∧ z.2.2.2.2 ≤ s0 + R.slots) {σ : hp} {t0 : Nat} {w0 : Option Nat} {w1 : Option Nat} {H : Heap} {locs : List Loc} {ls : Array Slot} (hn : n0 ≤ σ.2.2.2.1 ∧ s0 ≤ σ.2.2.2.2) (hh : hw D dA base σ H) (hS : hs base s.heap H locs) (hl : lk ls 1 [(0, .inr (some t0))]) (h : S_X9_init_104 σ t0 w0 w1 = some z) : W p l e R s m args below meth c H locs (σ.2.2.2.1 - n0) (σ.2.2.2.2 - s0) (MQ below (qG D dA base none z) args s (z.2.2.2.1 - n0) (z.2.2.2.2 - s0) (fun q => base ≤ q)) (F0 m 104 ls [va_rf w1, va_rf w0]) := by
  have hz0 := mo_X9_init_104 h
  have hcl : σ.2.2.2.1 - n0 ≤ R.cells ∧ σ.2.2.2.2 - s0 ≤ R.slots := by unfold le4 at hz0; omega
  unfold S_X9_init_104 at h
  obtain ⟨s104, e_s104, h⟩ := o_b h
  refine q_pR X hh hS fp_X9_47 (fun _ => hin) rfl (Or.inr ⟨_, rfl⟩) e_s104 dX9_init_104 (fun H locs hh hS => ?_)
  refine q_aload_n X dX9_init_107 rfl hl 0 rfl ?_
  refine lv_bipush (v := (24 : Int32)) X.1 X.2.1 dX9_init_108 (by decide) ?_
  obtain ⟨q110, e_q110, h⟩ := o_b h
  have ys104 : eq4 σ s104 := (e_pR e_s104)
  refine W.cs (cells' := s104.2.2.2.1 - n0) (slots' := s104.2.2.2.2 - s0) (by rw [show s104.2.2.2 = σ.2.2.2 from ys104]) (by rw [show s104.2.2.2 = σ.2.2.2 from ys104]) ?_
  have hn : n0 ≤ s104.2.2.2.1 ∧ s0 ≤ s104.2.2.2.2 := by rw [show s104.2.2.2 = σ.2.2.2 from ys104]; exact hn
  have hcl : s104.2.2.2.1 - n0 ≤ R.cells ∧ s104.2.2.2.2 - s0 ≤ R.slots := by rw [show s104.2.2.2 = σ.2.2.2 from ys104]; exact hcl
  have g110 := mo_X9_init_112 h
  have f110 := l_na e_q110
  unfold le4 at g110
  refine q_naI (t := 0) X hh hS (by decide) rfl rfl (fun _ _ => rfl) (by decide) (gm 43 (by decide +kernel) rfl) e_q110 dX9_init_110 (by omega) (by omega) (fun H hh hS => ?_)
  refine W.cs (cells' := q110.2.2.2.2.1 - n0) (slots' := q110.2.2.2.2.2 - s0) (by omega) (by omega) ?_
  have hn : n0 ≤ q110.2.2.2.2.1 ∧ s0 ≤ q110.2.2.2.2.2 := by omega
  exact K_X9_init_112 X hret hlk hR hin hRc hn hh hS (lk_sub hl [0] rfl) h
theorem mo_X9_init_95 {z : hp} {σ : hp} {t0 : Nat} {w0 : Option Nat} {w1 : Option Nat} (h : S_X9_init_95 σ t0 w0 w1 = some z) : le4 σ z := by
  unfold S_X9_init_95 at h
  obtain ⟨s95, e_s95, h⟩ := o_b h
  obtain ⟨q102, e_q102, h⟩ := o_b h
  exact (((e_pR e_s95).le).tr (m_na e_q102)).tr (mo_X9_init_104 h)
set_option maxHeartbeats 4000000 in
set_option maxRecDepth 100000 in
theorem K_X9_init_95 {p : Program} {l : Launch} {e : Env} {R : Room} {s : State} {m : MethodId} {args : Array Value} {below : List Frame} {meth : Method} {c : Code} {D : va_G} {dA : Nat → ClassId} {base : Nat} {z : hp} (X : cx p s m args c cX9_init RX9 1 D dA) (hret : meth.sig.returnType = none) (hlk : meth.locks = false) (hR : 1 ≤ R.frames ∧ 21 ≤ R.locals) (hin : meth.name = "<init>") {n0 s0 : Nat} (hRc : z.2.2.2.1 ≤ n0 + R.cells ∧ z.2.2.2.2 ≤ s0 + R.slots) {σ : hp} {t0 : Nat} {w0 : Option Nat} {w1 : Option Nat} {H : Heap} {locs : List Loc} {ls : Array Slot} (hn : n0 ≤ σ.2.2.2.1 ∧ s0 ≤ σ.2.2.2.2) (hh : hw D dA base σ H) (hS : hs base s.heap H locs) (hl : lk ls 1 [(0, .inr (some t0))]) (h : S_X9_init_95 σ t0 w0 w1 = some z) : W p l e R s m args below meth c H locs (σ.2.2.2.1 - n0) (σ.2.2.2.2 - s0) (MQ below (qG D dA base none z) args s (z.2.2.2.1 - n0) (z.2.2.2.2 - s0) (fun q => base ≤ q)) (F0 m 95 ls [va_rf w1, va_rf w0]) := by
  have hz0 := mo_X9_init_95 h
  have hcl : σ.2.2.2.1 - n0 ≤ R.cells ∧ σ.2.2.2.2 - s0 ≤ R.slots := by unfold le4 at hz0; omega
  unfold S_X9_init_95 at h
  obtain ⟨s95, e_s95, h⟩ := o_b h
  refine q_pR X hh hS fp_X9_44 (fun _ => hin) rfl (Or.inr ⟨_, rfl⟩) e_s95 dX9_init_95 (fun H locs hh hS => ?_)
  refine q_aload_n X dX9_init_98 rfl hl 0 rfl ?_
  refine lv_sipush (v := (912 : Int32)) X.1 X.2.1 dX9_init_99 (by decide) ?_
  obtain ⟨q102, e_q102, h⟩ := o_b h
  have ys95 : eq4 σ s95 := (e_pR e_s95)
  refine W.cs (cells' := s95.2.2.2.1 - n0) (slots' := s95.2.2.2.2 - s0) (by rw [show s95.2.2.2 = σ.2.2.2 from ys95]) (by rw [show s95.2.2.2 = σ.2.2.2 from ys95]) ?_
  have hn : n0 ≤ s95.2.2.2.1 ∧ s0 ≤ s95.2.2.2.2 := by rw [show s95.2.2.2 = σ.2.2.2 from ys95]; exact hn
  have hcl : s95.2.2.2.1 - n0 ≤ R.cells ∧ s95.2.2.2.2 - s0 ≤ R.slots := by rw [show s95.2.2.2 = σ.2.2.2 from ys95]; exact hcl
  have g102 := mo_X9_init_104 h
  have f102 := l_na e_q102
  unfold le4 at g102
  refine q_naI (t := 0) X hh hS (by decide) rfl rfl (fun _ _ => rfl) (by decide) (gm 43 (by decide +kernel) rfl) e_q102 dX9_init_102 (by omega) (by omega) (fun H hh hS => ?_)
  refine W.cs (cells' := q102.2.2.2.2.1 - n0) (slots' := q102.2.2.2.2.2 - s0) (by omega) (by omega) ?_
  have hn : n0 ≤ q102.2.2.2.2.1 ∧ s0 ≤ q102.2.2.2.2.2 := by omega
  exact K_X9_init_104 X hret hlk hR hin hRc hn hh hS (lk_sub hl [0] rfl) h
theorem mo_X9_init_88 {z : hp} {σ : hp} {t0 : Nat} {w0 : Option Nat} {w1 : Option Nat} (h : S_X9_init_88 σ t0 w0 w1 = some z) : le4 σ z := by
  unfold S_X9_init_88 at h
  obtain ⟨s88, e_s88, h⟩ := o_b h
  obtain ⟨q93, e_q93, h⟩ := o_b h
  exact (((e_pR e_s88).le).tr (m_na e_q93)).tr (mo_X9_init_95 h)
set_option maxHeartbeats 4000000 in
set_option maxRecDepth 100000 in
theorem K_X9_init_88 {p : Program} {l : Launch} {e : Env} {R : Room} {s : State} {m : MethodId} {args : Array Value} {below : List Frame} {meth : Method} {c : Code} {D : va_G} {dA : Nat → ClassId} {base : Nat} {z : hp} (X : cx p s m args c cX9_init RX9 1 D dA) (hret : meth.sig.returnType = none) (hlk : meth.locks = false) (hR : 1 ≤ R.frames ∧ 21 ≤ R.locals) (hin : meth.name = "<init>") {n0 s0 : Nat} (hRc : z.2.2.2.1 ≤ n0 + R.cells ∧ z.2.2.2.2 ≤ s0 + R.slots) {σ : hp} {t0 : Nat} {w0 : Option Nat} {w1 : Option Nat} {H : Heap} {locs : List Loc} {ls : Array Slot} (hn : n0 ≤ σ.2.2.2.1 ∧ s0 ≤ σ.2.2.2.2) (hh : hw D dA base σ H) (hS : hs base s.heap H locs) (hl : lk ls 1 [(0, .inr (some t0))]) (h : S_X9_init_88 σ t0 w0 w1 = some z) : W p l e R s m args below meth c H locs (σ.2.2.2.1 - n0) (σ.2.2.2.2 - s0) (MQ below (qG D dA base none z) args s (z.2.2.2.1 - n0) (z.2.2.2.2 - s0) (fun q => base ≤ q)) (F0 m 88 ls [va_rf w1, va_rf w0]) := by
  have hz0 := mo_X9_init_88 h
  have hcl : σ.2.2.2.1 - n0 ≤ R.cells ∧ σ.2.2.2.2 - s0 ≤ R.slots := by unfold le4 at hz0; omega
  unfold S_X9_init_88 at h
  obtain ⟨s88, e_s88, h⟩ := o_b h
  refine q_pR X hh hS fp_X9_41 (fun _ => hin) rfl (Or.inr ⟨_, rfl⟩) e_s88 dX9_init_88 (fun H locs hh hS => ?_)
  refine q_aload_n X dX9_init_91 rfl hl 0 rfl ?_
  refine lv_iconst (v := (2 : Int32)) X.1 X.2.1 dX9_init_92 (by decide) ?_
  obtain ⟨q93, e_q93, h⟩ := o_b h
  have ys88 : eq4 σ s88 := (e_pR e_s88)
  refine W.cs (cells' := s88.2.2.2.1 - n0) (slots' := s88.2.2.2.2 - s0) (by rw [show s88.2.2.2 = σ.2.2.2 from ys88]) (by rw [show s88.2.2.2 = σ.2.2.2 from ys88]) ?_
  have hn : n0 ≤ s88.2.2.2.1 ∧ s0 ≤ s88.2.2.2.2 := by rw [show s88.2.2.2 = σ.2.2.2 from ys88]; exact hn
  have hcl : s88.2.2.2.1 - n0 ≤ R.cells ∧ s88.2.2.2.2 - s0 ≤ R.slots := by rw [show s88.2.2.2 = σ.2.2.2 from ys88]; exact hcl
  have g93 := mo_X9_init_95 h
  have f93 := l_na e_q93
  unfold le4 at g93
  refine q_naI (t := 0) X hh hS (by decide) rfl rfl (fun _ _ => rfl) (by decide) (gm 43 (by decide +kernel) rfl) e_q93 dX9_init_93 (by omega) (by omega) (fun H hh hS => ?_)
  refine W.cs (cells' := q93.2.2.2.2.1 - n0) (slots' := q93.2.2.2.2.2 - s0) (by omega) (by omega) ?_
  have hn : n0 ≤ q93.2.2.2.2.1 ∧ s0 ≤ q93.2.2.2.2.2 := by omega
  exact K_X9_init_95 X hret hlk hR hin hRc hn hh hS (lk_sub hl [0] rfl) h
theorem mo_X9_init_80 {z : hp} {σ : hp} {t0 : Nat} {w0 : Option Nat} {w1 : Option Nat} (h : S_X9_init_80 σ t0 w0 w1 = some z) : le4 σ z := by
  unfold S_X9_init_80 at h
  obtain ⟨s80, e_s80, h⟩ := o_b h
  obtain ⟨q86, e_q86, h⟩ := o_b h
  exact (((e_pR e_s80).le).tr (m_na e_q86)).tr (mo_X9_init_88 h)
set_option maxHeartbeats 4000000 in
set_option maxRecDepth 100000 in
theorem K_X9_init_80 {p : Program} {l : Launch} {e : Env} {R : Room} {s : State} {m : MethodId} {args : Array Value} {below : List Frame} {meth : Method} {c : Code} {D : va_G} {dA : Nat → ClassId} {base : Nat} {z : hp} (X : cx p s m args c cX9_init RX9 1 D dA) (hret : meth.sig.returnType = none) (hlk : meth.locks = false) (hR : 1 ≤ R.frames ∧ 21 ≤ R.locals) (hin : meth.name = "<init>") {n0 s0 : Nat} (hRc : z.2.2.2.1 ≤ n0 + R.cells ∧ z.2.2.2.2 ≤ s0 + R.slots) {σ : hp} {t0 : Nat} {w0 : Option Nat} {w1 : Option Nat} {H : Heap} {locs : List Loc} {ls : Array Slot} (hn : n0 ≤ σ.2.2.2.1 ∧ s0 ≤ σ.2.2.2.2) (hh : hw D dA base σ H) (hS : hs base s.heap H locs) (hl : lk ls 1 [(0, .inr (some t0))]) (h : S_X9_init_80 σ t0 w0 w1 = some z) : W p l e R s m args below meth c H locs (σ.2.2.2.1 - n0) (σ.2.2.2.2 - s0) (MQ below (qG D dA base none z) args s (z.2.2.2.1 - n0) (z.2.2.2.2 - s0) (fun q => base ≤ q)) (F0 m 80 ls [va_rf w1, va_rf w0]) := by
  have hz0 := mo_X9_init_80 h
  have hcl : σ.2.2.2.1 - n0 ≤ R.cells ∧ σ.2.2.2.2 - s0 ≤ R.slots := by unfold le4 at hz0; omega
  unfold S_X9_init_80 at h
  obtain ⟨s80, e_s80, h⟩ := o_b h
  refine q_pR X hh hS fp_X9_38 (fun _ => hin) rfl (Or.inr ⟨_, rfl⟩) e_s80 dX9_init_80 (fun H locs hh hS => ?_)
  refine q_aload_n X dX9_init_83 rfl hl 0 rfl ?_
  refine lv_bipush (v := (100 : Int32)) X.1 X.2.1 dX9_init_84 (by decide) ?_
  obtain ⟨q86, e_q86, h⟩ := o_b h
  have ys80 : eq4 σ s80 := (e_pR e_s80)
  refine W.cs (cells' := s80.2.2.2.1 - n0) (slots' := s80.2.2.2.2 - s0) (by rw [show s80.2.2.2 = σ.2.2.2 from ys80]) (by rw [show s80.2.2.2 = σ.2.2.2 from ys80]) ?_
  have hn : n0 ≤ s80.2.2.2.1 ∧ s0 ≤ s80.2.2.2.2 := by rw [show s80.2.2.2 = σ.2.2.2 from ys80]; exact hn
  have hcl : s80.2.2.2.1 - n0 ≤ R.cells ∧ s80.2.2.2.2 - s0 ≤ R.slots := by rw [show s80.2.2.2 = σ.2.2.2 from ys80]; exact hcl
  have g86 := mo_X9_init_88 h
  have f86 := l_na e_q86
  unfold le4 at g86
  refine q_naI (t := 0) X hh hS (by decide) rfl rfl (fun _ _ => rfl) (by decide) (gm 43 (by decide +kernel) rfl) e_q86 dX9_init_86 (by omega) (by omega) (fun H hh hS => ?_)
  refine W.cs (cells' := q86.2.2.2.2.1 - n0) (slots' := q86.2.2.2.2.2 - s0) (by omega) (by omega) ?_
  have hn : n0 ≤ q86.2.2.2.2.1 ∧ s0 ≤ q86.2.2.2.2.2 := by omega
  exact K_X9_init_88 X hret hlk hR hin hRc hn hh hS (lk_sub hl [0] rfl) h
theorem mo_X9_init_73 {z : hp} {σ : hp} {t0 : Nat} {w0 : Option Nat} {w1 : Option Nat} (h : S_X9_init_73 σ t0 w0 w1 = some z) : le4 σ z := by
  unfold S_X9_init_73 at h
  obtain ⟨s73, e_s73, h⟩ := o_b h
  obtain ⟨q78, e_q78, h⟩ := o_b h
  exact (((e_pR e_s73).le).tr (m_na e_q78)).tr (mo_X9_init_80 h)
set_option maxHeartbeats 4000000 in
set_option maxRecDepth 100000 in
theorem K_X9_init_73 {p : Program} {l : Launch} {e : Env} {R : Room} {s : State} {m : MethodId} {args : Array Value} {below : List Frame} {meth : Method} {c : Code} {D : va_G} {dA : Nat → ClassId} {base : Nat} {z : hp} (X : cx p s m args c cX9_init RX9 1 D dA) (hret : meth.sig.returnType = none) (hlk : meth.locks = false) (hR : 1 ≤ R.frames ∧ 21 ≤ R.locals) (hin : meth.name = "<init>") {n0 s0 : Nat} (hRc : z.2.2.2.1 ≤ n0 + R.cells ∧ z.2.2.2.2 ≤ s0 + R.slots) {σ : hp} {t0 : Nat} {w0 : Option Nat} {w1 : Option Nat} {H : Heap} {locs : List Loc} {ls : Array Slot} (hn : n0 ≤ σ.2.2.2.1 ∧ s0 ≤ σ.2.2.2.2) (hh : hw D dA base σ H) (hS : hs base s.heap H locs) (hl : lk ls 1 [(0, .inr (some t0))]) (h : S_X9_init_73 σ t0 w0 w1 = some z) : W p l e R s m args below meth c H locs (σ.2.2.2.1 - n0) (σ.2.2.2.2 - s0) (MQ below (qG D dA base none z) args s (z.2.2.2.1 - n0) (z.2.2.2.2 - s0) (fun q => base ≤ q)) (F0 m 73 ls [va_rf w1, va_rf w0]) := by
  have hz0 := mo_X9_init_73 h
  have hcl : σ.2.2.2.1 - n0 ≤ R.cells ∧ σ.2.2.2.2 - s0 ≤ R.slots := by unfold le4 at hz0; omega
  unfold S_X9_init_73 at h
  obtain ⟨s73, e_s73, h⟩ := o_b h
  refine q_pR X hh hS fp_X9_35 (fun _ => hin) rfl (Or.inr ⟨_, rfl⟩) e_s73 dX9_init_73 (fun H locs hh hS => ?_)
  refine q_aload_n X dX9_init_76 rfl hl 0 rfl ?_
  refine lv_iconst (v := (2 : Int32)) X.1 X.2.1 dX9_init_77 (by decide) ?_
  obtain ⟨q78, e_q78, h⟩ := o_b h
  have ys73 : eq4 σ s73 := (e_pR e_s73)
  refine W.cs (cells' := s73.2.2.2.1 - n0) (slots' := s73.2.2.2.2 - s0) (by rw [show s73.2.2.2 = σ.2.2.2 from ys73]) (by rw [show s73.2.2.2 = σ.2.2.2 from ys73]) ?_
  have hn : n0 ≤ s73.2.2.2.1 ∧ s0 ≤ s73.2.2.2.2 := by rw [show s73.2.2.2 = σ.2.2.2 from ys73]; exact hn
  have hcl : s73.2.2.2.1 - n0 ≤ R.cells ∧ s73.2.2.2.2 - s0 ≤ R.slots := by rw [show s73.2.2.2 = σ.2.2.2 from ys73]; exact hcl
  have g78 := mo_X9_init_80 h
  have f78 := l_na e_q78
  unfold le4 at g78
  refine q_naI (t := 0) X hh hS (by decide) rfl rfl (fun _ _ => rfl) (by decide) (gm 43 (by decide +kernel) rfl) e_q78 dX9_init_78 (by omega) (by omega) (fun H hh hS => ?_)
  refine W.cs (cells' := q78.2.2.2.2.1 - n0) (slots' := q78.2.2.2.2.2 - s0) (by omega) (by omega) ?_
  have hn : n0 ≤ q78.2.2.2.2.1 ∧ s0 ≤ q78.2.2.2.2.2 := by omega
  exact K_X9_init_80 X hret hlk hR hin hRc hn hh hS (lk_sub hl [0] rfl) h
theorem mo_X9_init_65 {z : hp} {σ : hp} {t0 : Nat} {w0 : Option Nat} {w1 : Option Nat} (h : S_X9_init_65 σ t0 w0 w1 = some z) : le4 σ z := by
  unfold S_X9_init_65 at h
  obtain ⟨s65, e_s65, h⟩ := o_b h
  obtain ⟨q71, e_q71, h⟩ := o_b h
  exact (((e_pR e_s65).le).tr (m_na e_q71)).tr (mo_X9_init_73 h)
set_option maxHeartbeats 4000000 in
set_option maxRecDepth 100000 in
theorem K_X9_init_65 {p : Program} {l : Launch} {e : Env} {R : Room} {s : State} {m : MethodId} {args : Array Value} {below : List Frame} {meth : Method} {c : Code} {D : va_G} {dA : Nat → ClassId} {base : Nat} {z : hp} (X : cx p s m args c cX9_init RX9 1 D dA) (hret : meth.sig.returnType = none) (hlk : meth.locks = false) (hR : 1 ≤ R.frames ∧ 21 ≤ R.locals) (hin : meth.name = "<init>") {n0 s0 : Nat} (hRc : z.2.2.2.1 ≤ n0 + R.cells ∧ z.2.2.2.2 ≤ s0 + R.slots) {σ : hp} {t0 : Nat} {w0 : Option Nat} {w1 : Option Nat} {H : Heap} {locs : List Loc} {ls : Array Slot} (hn : n0 ≤ σ.2.2.2.1 ∧ s0 ≤ σ.2.2.2.2) (hh : hw D dA base σ H) (hS : hs base s.heap H locs) (hl : lk ls 1 [(0, .inr (some t0))]) (h : S_X9_init_65 σ t0 w0 w1 = some z) : W p l e R s m args below meth c H locs (σ.2.2.2.1 - n0) (σ.2.2.2.2 - s0) (MQ below (qG D dA base none z) args s (z.2.2.2.1 - n0) (z.2.2.2.2 - s0) (fun q => base ≤ q)) (F0 m 65 ls [va_rf w1, va_rf w0]) := by
  have hz0 := mo_X9_init_65 h
  have hcl : σ.2.2.2.1 - n0 ≤ R.cells ∧ σ.2.2.2.2 - s0 ≤ R.slots := by unfold le4 at hz0; omega
  unfold S_X9_init_65 at h
  obtain ⟨s65, e_s65, h⟩ := o_b h
  refine q_pR X hh hS fp_X9_31 (fun _ => hin) rfl (Or.inr ⟨_, rfl⟩) e_s65 dX9_init_65 (fun H locs hh hS => ?_)
  refine q_aload_n X dX9_init_68 rfl hl 0 rfl ?_
  refine q_ldc X ck_X9_34 dX9_init_69 ?_
  obtain ⟨q71, e_q71, h⟩ := o_b h
  have ys65 : eq4 σ s65 := (e_pR e_s65)
  refine W.cs (cells' := s65.2.2.2.1 - n0) (slots' := s65.2.2.2.2 - s0) (by rw [show s65.2.2.2 = σ.2.2.2 from ys65]) (by rw [show s65.2.2.2 = σ.2.2.2 from ys65]) ?_
  have hn : n0 ≤ s65.2.2.2.1 ∧ s0 ≤ s65.2.2.2.2 := by rw [show s65.2.2.2 = σ.2.2.2 from ys65]; exact hn
  have hcl : s65.2.2.2.1 - n0 ≤ R.cells ∧ s65.2.2.2.2 - s0 ≤ R.slots := by rw [show s65.2.2.2 = σ.2.2.2 from ys65]; exact hcl
  have g71 := mo_X9_init_73 h
  have f71 := l_na e_q71
  unfold le4 at g71
  refine q_naI (t := 0) X hh hS (by decide) rfl rfl (fun _ _ => rfl) (by decide) (gm 43 (by decide +kernel) rfl) e_q71 dX9_init_71 (by omega) (by omega) (fun H hh hS => ?_)
  refine W.cs (cells' := q71.2.2.2.2.1 - n0) (slots' := q71.2.2.2.2.2 - s0) (by omega) (by omega) ?_
  have hn : n0 ≤ q71.2.2.2.2.1 ∧ s0 ≤ q71.2.2.2.2.2 := by omega
  exact K_X9_init_73 X hret hlk hR hin hRc hn hh hS (lk_sub hl [0] rfl) h
theorem mo_X9_init_56 {z : hp} {σ : hp} {t0 : Nat} {w0 : Option Nat} {w1 : Option Nat} (h : S_X9_init_56 σ t0 w0 w1 = some z) : le4 σ z := by
  unfold S_X9_init_56 at h
  obtain ⟨s56, e_s56, h⟩ := o_b h
  obtain ⟨q63, e_q63, h⟩ := o_b h
  exact (((e_pR e_s56).le).tr (m_na e_q63)).tr (mo_X9_init_65 h)
set_option maxHeartbeats 4000000 in
set_option maxRecDepth 100000 in
theorem K_X9_init_56 {p : Program} {l : Launch} {e : Env} {R : Room} {s : State} {m : MethodId} {args : Array Value} {below : List Frame} {meth : Method} {c : Code} {D : va_G} {dA : Nat → ClassId} {base : Nat} {z : hp} (X : cx p s m args c cX9_init RX9 1 D dA) (hret : meth.sig.returnType = none) (hlk : meth.locks = false) (hR : 1 ≤ R.frames ∧ 21 ≤ R.locals) (hin : meth.name = "<init>") {n0 s0 : Nat} (hRc : z.2.2.2.1 ≤ n0 + R.cells ∧ z.2.2.2.2 ≤ s0 + R.slots) {σ : hp} {t0 : Nat} {w0 : Option Nat} {w1 : Option Nat} {H : Heap} {locs : List Loc} {ls : Array Slot} (hn : n0 ≤ σ.2.2.2.1 ∧ s0 ≤ σ.2.2.2.2) (hh : hw D dA base σ H) (hS : hs base s.heap H locs) (hl : lk ls 1 [(0, .inr (some t0))]) (h : S_X9_init_56 σ t0 w0 w1 = some z) : W p l e R s m args below meth c H locs (σ.2.2.2.1 - n0) (σ.2.2.2.2 - s0) (MQ below (qG D dA base none z) args s (z.2.2.2.1 - n0) (z.2.2.2.2 - s0) (fun q => base ≤ q)) (F0 m 56 ls [va_rf w1, va_rf w0]) := by
  have hz0 := mo_X9_init_56 h
  have hcl : σ.2.2.2.1 - n0 ≤ R.cells ∧ σ.2.2.2.2 - s0 ≤ R.slots := by unfold le4 at hz0; omega
  unfold S_X9_init_56 at h
  obtain ⟨s56, e_s56, h⟩ := o_b h
  refine q_pR X hh hS fp_X9_28 (fun _ => hin) rfl (Or.inr ⟨_, rfl⟩) e_s56 dX9_init_56 (fun H locs hh hS => ?_)
  refine q_aload_n X dX9_init_59 rfl hl 0 rfl ?_
  refine lv_sipush (v := (512 : Int32)) X.1 X.2.1 dX9_init_60 (by decide) ?_
  obtain ⟨q63, e_q63, h⟩ := o_b h
  have ys56 : eq4 σ s56 := (e_pR e_s56)
  refine W.cs (cells' := s56.2.2.2.1 - n0) (slots' := s56.2.2.2.2 - s0) (by rw [show s56.2.2.2 = σ.2.2.2 from ys56]) (by rw [show s56.2.2.2 = σ.2.2.2 from ys56]) ?_
  have hn : n0 ≤ s56.2.2.2.1 ∧ s0 ≤ s56.2.2.2.2 := by rw [show s56.2.2.2 = σ.2.2.2 from ys56]; exact hn
  have hcl : s56.2.2.2.1 - n0 ≤ R.cells ∧ s56.2.2.2.2 - s0 ≤ R.slots := by rw [show s56.2.2.2 = σ.2.2.2 from ys56]; exact hcl
  have g63 := mo_X9_init_65 h
  have f63 := l_na e_q63
  unfold le4 at g63
  refine q_naI (t := 0) X hh hS (by decide) rfl rfl (fun _ _ => rfl) (by decide) (gm 43 (by decide +kernel) rfl) e_q63 dX9_init_63 (by omega) (by omega) (fun H hh hS => ?_)
  refine W.cs (cells' := q63.2.2.2.2.1 - n0) (slots' := q63.2.2.2.2.2 - s0) (by omega) (by omega) ?_
  have hn : n0 ≤ q63.2.2.2.2.1 ∧ s0 ≤ q63.2.2.2.2.2 := by omega
  exact K_X9_init_65 X hret hlk hR hin hRc hn hh hS (lk_sub hl [0] rfl) h
theorem mo_X9_init_47 {z : hp} {σ : hp} {t0 : Nat} {w0 : Option Nat} {w1 : Option Nat} (h : S_X9_init_47 σ t0 w0 w1 = some z) : le4 σ z := by
  unfold S_X9_init_47 at h
  obtain ⟨s47, e_s47, h⟩ := o_b h
  obtain ⟨q54, e_q54, h⟩ := o_b h
  exact (((e_pR e_s47).le).tr (m_na e_q54)).tr (mo_X9_init_56 h)
set_option maxHeartbeats 4000000 in
set_option maxRecDepth 100000 in
theorem K_X9_init_47 {p : Program} {l : Launch} {e : Env} {R : Room} {s : State} {m : MethodId} {args : Array Value} {below : List Frame} {meth : Method} {c : Code} {D : va_G} {dA : Nat → ClassId} {base : Nat} {z : hp} (X : cx p s m args c cX9_init RX9 1 D dA) (hret : meth.sig.returnType = none) (hlk : meth.locks = false) (hR : 1 ≤ R.frames ∧ 21 ≤ R.locals) (hin : meth.name = "<init>") {n0 s0 : Nat} (hRc : z.2.2.2.1 ≤ n0 + R.cells ∧ z.2.2.2.2 ≤ s0 + R.slots) {σ : hp} {t0 : Nat} {w0 : Option Nat} {w1 : Option Nat} {H : Heap} {locs : List Loc} {ls : Array Slot} (hn : n0 ≤ σ.2.2.2.1 ∧ s0 ≤ σ.2.2.2.2) (hh : hw D dA base σ H) (hS : hs base s.heap H locs) (hl : lk ls 1 [(0, .inr (some t0))]) (h : S_X9_init_47 σ t0 w0 w1 = some z) : W p l e R s m args below meth c H locs (σ.2.2.2.1 - n0) (σ.2.2.2.2 - s0) (MQ below (qG D dA base none z) args s (z.2.2.2.1 - n0) (z.2.2.2.2 - s0) (fun q => base ≤ q)) (F0 m 47 ls [va_rf w1, va_rf w0]) := by
  have hz0 := mo_X9_init_47 h
  have hcl : σ.2.2.2.1 - n0 ≤ R.cells ∧ σ.2.2.2.2 - s0 ≤ R.slots := by unfold le4 at hz0; omega
  unfold S_X9_init_47 at h
  obtain ⟨s47, e_s47, h⟩ := o_b h
  refine q_pR X hh hS fp_X9_25 (fun _ => hin) rfl (Or.inr ⟨_, rfl⟩) e_s47 dX9_init_47 (fun H locs hh hS => ?_)
  refine q_aload_n X dX9_init_50 rfl hl 0 rfl ?_
  refine lv_sipush (v := (512 : Int32)) X.1 X.2.1 dX9_init_51 (by decide) ?_
  obtain ⟨q54, e_q54, h⟩ := o_b h
  have ys47 : eq4 σ s47 := (e_pR e_s47)
  refine W.cs (cells' := s47.2.2.2.1 - n0) (slots' := s47.2.2.2.2 - s0) (by rw [show s47.2.2.2 = σ.2.2.2 from ys47]) (by rw [show s47.2.2.2 = σ.2.2.2 from ys47]) ?_
  have hn : n0 ≤ s47.2.2.2.1 ∧ s0 ≤ s47.2.2.2.2 := by rw [show s47.2.2.2 = σ.2.2.2 from ys47]; exact hn
  have hcl : s47.2.2.2.1 - n0 ≤ R.cells ∧ s47.2.2.2.2 - s0 ≤ R.slots := by rw [show s47.2.2.2 = σ.2.2.2 from ys47]; exact hcl
  have g54 := mo_X9_init_56 h
  have f54 := l_na e_q54
  unfold le4 at g54
  refine q_naI (t := 0) X hh hS (by decide) rfl rfl (fun _ _ => rfl) (by decide) (gm 43 (by decide +kernel) rfl) e_q54 dX9_init_54 (by omega) (by omega) (fun H hh hS => ?_)
  refine W.cs (cells' := q54.2.2.2.2.1 - n0) (slots' := q54.2.2.2.2.2 - s0) (by omega) (by omega) ?_
  have hn : n0 ≤ q54.2.2.2.2.1 ∧ s0 ≤ q54.2.2.2.2.2 := by omega
  exact K_X9_init_56 X hret hlk hR hin hRc hn hh hS (lk_sub hl [0] rfl) h
theorem mo_X9_init_40 {z : hp} {σ : hp} {t0 : Nat} {w0 : Option Nat} {w1 : Option Nat} (h : S_X9_init_40 σ t0 w0 w1 = some z) : le4 σ z := by
  unfold S_X9_init_40 at h
  obtain ⟨s40, e_s40, h⟩ := o_b h
  obtain ⟨q45, e_q45, h⟩ := o_b h
  exact (((e_pR e_s40).le).tr (m_na e_q45)).tr (mo_X9_init_47 h)
set_option maxHeartbeats 4000000 in
set_option maxRecDepth 100000 in
theorem K_X9_init_40 {p : Program} {l : Launch} {e : Env} {R : Room} {s : State} {m : MethodId} {args : Array Value} {below : List Frame} {meth : Method} {c : Code} {D : va_G} {dA : Nat → ClassId} {base : Nat} {z : hp} (X : cx p s m args c cX9_init RX9 1 D dA) (hret : meth.sig.returnType = none) (hlk : meth.locks = false) (hR : 1 ≤ R.frames ∧ 21 ≤ R.locals) (hin : meth.name = "<init>") {n0 s0 : Nat} (hRc : z.2.2.2.1 ≤ n0 + R.cells ∧ z.2.2.2.2 ≤ s0 + R.slots) {σ : hp} {t0 : Nat} {w0 : Option Nat} {w1 : Option Nat} {H : Heap} {locs : List Loc} {ls : Array Slot} (hn : n0 ≤ σ.2.2.2.1 ∧ s0 ≤ σ.2.2.2.2) (hh : hw D dA base σ H) (hS : hs base s.heap H locs) (hl : lk ls 1 [(0, .inr (some t0))]) (h : S_X9_init_40 σ t0 w0 w1 = some z) : W p l e R s m args below meth c H locs (σ.2.2.2.1 - n0) (σ.2.2.2.2 - s0) (MQ below (qG D dA base none z) args s (z.2.2.2.1 - n0) (z.2.2.2.2 - s0) (fun q => base ≤ q)) (F0 m 40 ls [va_rf w1, va_rf w0]) := by
  have hz0 := mo_X9_init_40 h
  have hcl : σ.2.2.2.1 - n0 ≤ R.cells ∧ σ.2.2.2.2 - s0 ≤ R.slots := by unfold le4 at hz0; omega
  unfold S_X9_init_40 at h
  obtain ⟨s40, e_s40, h⟩ := o_b h
  refine q_pR X hh hS fp_X9_22 (fun _ => hin) rfl (Or.inr ⟨_, rfl⟩) e_s40 dX9_init_40 (fun H locs hh hS => ?_)
  refine q_aload_n X dX9_init_43 rfl hl 0 rfl ?_
  refine lv_iconst (v := (2 : Int32)) X.1 X.2.1 dX9_init_44 (by decide) ?_
  obtain ⟨q45, e_q45, h⟩ := o_b h
  have ys40 : eq4 σ s40 := (e_pR e_s40)
  refine W.cs (cells' := s40.2.2.2.1 - n0) (slots' := s40.2.2.2.2 - s0) (by rw [show s40.2.2.2 = σ.2.2.2 from ys40]) (by rw [show s40.2.2.2 = σ.2.2.2 from ys40]) ?_
  have hn : n0 ≤ s40.2.2.2.1 ∧ s0 ≤ s40.2.2.2.2 := by rw [show s40.2.2.2 = σ.2.2.2 from ys40]; exact hn
  have hcl : s40.2.2.2.1 - n0 ≤ R.cells ∧ s40.2.2.2.2 - s0 ≤ R.slots := by rw [show s40.2.2.2 = σ.2.2.2 from ys40]; exact hcl
  have g45 := mo_X9_init_47 h
  have f45 := l_na e_q45
  unfold le4 at g45
  refine q_naI (t := 0) X hh hS (by decide) rfl rfl (fun _ _ => rfl) (by decide) (gm 43 (by decide +kernel) rfl) e_q45 dX9_init_45 (by omega) (by omega) (fun H hh hS => ?_)
  refine W.cs (cells' := q45.2.2.2.2.1 - n0) (slots' := q45.2.2.2.2.2 - s0) (by omega) (by omega) ?_
  have hn : n0 ≤ q45.2.2.2.2.1 ∧ s0 ≤ q45.2.2.2.2.2 := by omega
  exact K_X9_init_47 X hret hlk hR hin hRc hn hh hS (lk_sub hl [0] rfl) h
theorem mo_X9_init_32 {z : hp} {σ : hp} {t0 : Nat} {w0 : Option Nat} {w1 : Option Nat} (h : S_X9_init_32 σ t0 w0 w1 = some z) : le4 σ z := by
  unfold S_X9_init_32 at h
  obtain ⟨s32, e_s32, h⟩ := o_b h
  obtain ⟨q38, e_q38, h⟩ := o_b h
  exact (((e_pR e_s32).le).tr (m_na e_q38)).tr (mo_X9_init_40 h)
set_option maxHeartbeats 4000000 in
set_option maxRecDepth 100000 in
theorem K_X9_init_32 {p : Program} {l : Launch} {e : Env} {R : Room} {s : State} {m : MethodId} {args : Array Value} {below : List Frame} {meth : Method} {c : Code} {D : va_G} {dA : Nat → ClassId} {base : Nat} {z : hp} (X : cx p s m args c cX9_init RX9 1 D dA) (hret : meth.sig.returnType = none) (hlk : meth.locks = false) (hR : 1 ≤ R.frames ∧ 21 ≤ R.locals) (hin : meth.name = "<init>") {n0 s0 : Nat} (hRc : z.2.2.2.1 ≤ n0 + R.cells ∧ z.2.2.2.2 ≤ s0 + R.slots) {σ : hp} {t0 : Nat} {w0 : Option Nat} {w1 : Option Nat} {H : Heap} {locs : List Loc} {ls : Array Slot} (hn : n0 ≤ σ.2.2.2.1 ∧ s0 ≤ σ.2.2.2.2) (hh : hw D dA base σ H) (hS : hs base s.heap H locs) (hl : lk ls 1 [(0, .inr (some t0))]) (h : S_X9_init_32 σ t0 w0 w1 = some z) : W p l e R s m args below meth c H locs (σ.2.2.2.1 - n0) (σ.2.2.2.2 - s0) (MQ below (qG D dA base none z) args s (z.2.2.2.1 - n0) (z.2.2.2.2 - s0) (fun q => base ≤ q)) (F0 m 32 ls [va_rf w1, va_rf w0]) := by
  have hz0 := mo_X9_init_32 h
  have hcl : σ.2.2.2.1 - n0 ≤ R.cells ∧ σ.2.2.2.2 - s0 ≤ R.slots := by unfold le4 at hz0; omega
  unfold S_X9_init_32 at h
  obtain ⟨s32, e_s32, h⟩ := o_b h
  refine q_pR X hh hS fp_X9_19 (fun _ => hin) rfl (Or.inr ⟨_, rfl⟩) e_s32 dX9_init_32 (fun H locs hh hS => ?_)
  refine q_aload_n X dX9_init_35 rfl hl 0 rfl ?_
  refine lv_bipush (v := (60 : Int32)) X.1 X.2.1 dX9_init_36 (by decide) ?_
  obtain ⟨q38, e_q38, h⟩ := o_b h
  have ys32 : eq4 σ s32 := (e_pR e_s32)
  refine W.cs (cells' := s32.2.2.2.1 - n0) (slots' := s32.2.2.2.2 - s0) (by rw [show s32.2.2.2 = σ.2.2.2 from ys32]) (by rw [show s32.2.2.2 = σ.2.2.2 from ys32]) ?_
  have hn : n0 ≤ s32.2.2.2.1 ∧ s0 ≤ s32.2.2.2.2 := by rw [show s32.2.2.2 = σ.2.2.2 from ys32]; exact hn
  have hcl : s32.2.2.2.1 - n0 ≤ R.cells ∧ s32.2.2.2.2 - s0 ≤ R.slots := by rw [show s32.2.2.2 = σ.2.2.2 from ys32]; exact hcl
  have g38 := mo_X9_init_40 h
  have f38 := l_na e_q38
  unfold le4 at g38
  refine q_naI (t := 0) X hh hS (by decide) rfl rfl (fun _ _ => rfl) (by decide) (gm 43 (by decide +kernel) rfl) e_q38 dX9_init_38 (by omega) (by omega) (fun H hh hS => ?_)
  refine W.cs (cells' := q38.2.2.2.2.1 - n0) (slots' := q38.2.2.2.2.2 - s0) (by omega) (by omega) ?_
  have hn : n0 ≤ q38.2.2.2.2.1 ∧ s0 ≤ q38.2.2.2.2.2 := by omega
  exact K_X9_init_40 X hret hlk hR hin hRc hn hh hS (lk_sub hl [0] rfl) h
theorem mo_X9_init_25 {z : hp} {σ : hp} {t0 : Nat} {w0 : Option Nat} {w1 : Option Nat} (h : S_X9_init_25 σ t0 w0 w1 = some z) : le4 σ z := by
  unfold S_X9_init_25 at h
  obtain ⟨s25, e_s25, h⟩ := o_b h
  obtain ⟨q30, e_q30, h⟩ := o_b h
  exact (((e_pR e_s25).le).tr (m_na e_q30)).tr (mo_X9_init_32 h)
set_option maxHeartbeats 4000000 in
set_option maxRecDepth 100000 in
theorem K_X9_init_25 {p : Program} {l : Launch} {e : Env} {R : Room} {s : State} {m : MethodId} {args : Array Value} {below : List Frame} {meth : Method} {c : Code} {D : va_G} {dA : Nat → ClassId} {base : Nat} {z : hp} (X : cx p s m args c cX9_init RX9 1 D dA) (hret : meth.sig.returnType = none) (hlk : meth.locks = false) (hR : 1 ≤ R.frames ∧ 21 ≤ R.locals) (hin : meth.name = "<init>") {n0 s0 : Nat} (hRc : z.2.2.2.1 ≤ n0 + R.cells ∧ z.2.2.2.2 ≤ s0 + R.slots) {σ : hp} {t0 : Nat} {w0 : Option Nat} {w1 : Option Nat} {H : Heap} {locs : List Loc} {ls : Array Slot} (hn : n0 ≤ σ.2.2.2.1 ∧ s0 ≤ σ.2.2.2.2) (hh : hw D dA base σ H) (hS : hs base s.heap H locs) (hl : lk ls 1 [(0, .inr (some t0))]) (h : S_X9_init_25 σ t0 w0 w1 = some z) : W p l e R s m args below meth c H locs (σ.2.2.2.1 - n0) (σ.2.2.2.2 - s0) (MQ below (qG D dA base none z) args s (z.2.2.2.1 - n0) (z.2.2.2.2 - s0) (fun q => base ≤ q)) (F0 m 25 ls [va_rf w1, va_rf w0]) := by
  have hz0 := mo_X9_init_25 h
  have hcl : σ.2.2.2.1 - n0 ≤ R.cells ∧ σ.2.2.2.2 - s0 ≤ R.slots := by unfold le4 at hz0; omega
  unfold S_X9_init_25 at h
  obtain ⟨s25, e_s25, h⟩ := o_b h
  refine q_pR X hh hS fp_X9_16 (fun _ => hin) rfl (Or.inr ⟨_, rfl⟩) e_s25 dX9_init_25 (fun H locs hh hS => ?_)
  refine q_aload_n X dX9_init_28 rfl hl 0 rfl ?_
  refine lv_iconst (v := (2 : Int32)) X.1 X.2.1 dX9_init_29 (by decide) ?_
  obtain ⟨q30, e_q30, h⟩ := o_b h
  have ys25 : eq4 σ s25 := (e_pR e_s25)
  refine W.cs (cells' := s25.2.2.2.1 - n0) (slots' := s25.2.2.2.2 - s0) (by rw [show s25.2.2.2 = σ.2.2.2 from ys25]) (by rw [show s25.2.2.2 = σ.2.2.2 from ys25]) ?_
  have hn : n0 ≤ s25.2.2.2.1 ∧ s0 ≤ s25.2.2.2.2 := by rw [show s25.2.2.2 = σ.2.2.2 from ys25]; exact hn
  have hcl : s25.2.2.2.1 - n0 ≤ R.cells ∧ s25.2.2.2.2 - s0 ≤ R.slots := by rw [show s25.2.2.2 = σ.2.2.2 from ys25]; exact hcl
  have g30 := mo_X9_init_32 h
  have f30 := l_na e_q30
  unfold le4 at g30
  refine q_naI (t := 0) X hh hS (by decide) rfl rfl (fun _ _ => rfl) (by decide) (gm 43 (by decide +kernel) rfl) e_q30 dX9_init_30 (by omega) (by omega) (fun H hh hS => ?_)
  refine W.cs (cells' := q30.2.2.2.2.1 - n0) (slots' := q30.2.2.2.2.2 - s0) (by omega) (by omega) ?_
  have hn : n0 ≤ q30.2.2.2.2.1 ∧ s0 ≤ q30.2.2.2.2.2 := by omega
  exact K_X9_init_32 X hret hlk hR hin hRc hn hh hS (lk_sub hl [0] rfl) h
theorem mo_X9_init_16 {z : hp} {σ : hp} {t0 : Nat} {w0 : Option Nat} {w1 : Option Nat} (h : S_X9_init_16 σ t0 w0 w1 = some z) : le4 σ z := by
  unfold S_X9_init_16 at h
  obtain ⟨s16, e_s16, h⟩ := o_b h
  obtain ⟨q23, e_q23, h⟩ := o_b h
  exact (((e_pR e_s16).le).tr (m_na e_q23)).tr (mo_X9_init_25 h)
set_option maxHeartbeats 4000000 in
set_option maxRecDepth 100000 in
theorem K_X9_init_16 {p : Program} {l : Launch} {e : Env} {R : Room} {s : State} {m : MethodId} {args : Array Value} {below : List Frame} {meth : Method} {c : Code} {D : va_G} {dA : Nat → ClassId} {base : Nat} {z : hp} (X : cx p s m args c cX9_init RX9 1 D dA) (hret : meth.sig.returnType = none) (hlk : meth.locks = false) (hR : 1 ≤ R.frames ∧ 21 ≤ R.locals) (hin : meth.name = "<init>") {n0 s0 : Nat} (hRc : z.2.2.2.1 ≤ n0 + R.cells ∧ z.2.2.2.2 ≤ s0 + R.slots) {σ : hp} {t0 : Nat} {w0 : Option Nat} {w1 : Option Nat} {H : Heap} {locs : List Loc} {ls : Array Slot} (hn : n0 ≤ σ.2.2.2.1 ∧ s0 ≤ σ.2.2.2.2) (hh : hw D dA base σ H) (hS : hs base s.heap H locs) (hl : lk ls 1 [(0, .inr (some t0))]) (h : S_X9_init_16 σ t0 w0 w1 = some z) : W p l e R s m args below meth c H locs (σ.2.2.2.1 - n0) (σ.2.2.2.2 - s0) (MQ below (qG D dA base none z) args s (z.2.2.2.1 - n0) (z.2.2.2.2 - s0) (fun q => base ≤ q)) (F0 m 16 ls [va_rf w1, va_rf w0]) := by
  have hz0 := mo_X9_init_16 h
  have hcl : σ.2.2.2.1 - n0 ≤ R.cells ∧ σ.2.2.2.2 - s0 ≤ R.slots := by unfold le4 at hz0; omega
  unfold S_X9_init_16 at h
  obtain ⟨s16, e_s16, h⟩ := o_b h
  refine q_pR X hh hS fp_X9_13 (fun _ => hin) rfl (Or.inr ⟨_, rfl⟩) e_s16 dX9_init_16 (fun H locs hh hS => ?_)
  refine q_aload_n X dX9_init_19 rfl hl 0 rfl ?_
  refine lv_sipush (v := (6000 : Int32)) X.1 X.2.1 dX9_init_20 (by decide) ?_
  obtain ⟨q23, e_q23, h⟩ := o_b h
  have ys16 : eq4 σ s16 := (e_pR e_s16)
  refine W.cs (cells' := s16.2.2.2.1 - n0) (slots' := s16.2.2.2.2 - s0) (by rw [show s16.2.2.2 = σ.2.2.2 from ys16]) (by rw [show s16.2.2.2 = σ.2.2.2 from ys16]) ?_
  have hn : n0 ≤ s16.2.2.2.1 ∧ s0 ≤ s16.2.2.2.2 := by rw [show s16.2.2.2 = σ.2.2.2 from ys16]; exact hn
  have hcl : s16.2.2.2.1 - n0 ≤ R.cells ∧ s16.2.2.2.2 - s0 ≤ R.slots := by rw [show s16.2.2.2 = σ.2.2.2 from ys16]; exact hcl
  have g23 := mo_X9_init_25 h
  have f23 := l_na e_q23
  unfold le4 at g23
  refine q_naI (t := 0) X hh hS (by decide) rfl rfl (fun _ _ => rfl) (by decide) (gm 43 (by decide +kernel) rfl) e_q23 dX9_init_23 (by omega) (by omega) (fun H hh hS => ?_)
  refine W.cs (cells' := q23.2.2.2.2.1 - n0) (slots' := q23.2.2.2.2.2 - s0) (by omega) (by omega) ?_
  have hn : n0 ≤ q23.2.2.2.2.1 ∧ s0 ≤ q23.2.2.2.2.2 := by omega
  exact K_X9_init_25 X hret hlk hR hin hRc hn hh hS (lk_sub hl [0] rfl) h
theorem mo_X9_init_8 {z : hp} {σ : hp} {t0 : Nat} {w0 : Option Nat} {w1 : Option Nat} (h : S_X9_init_8 σ t0 w0 w1 = some z) : le4 σ z := by
  unfold S_X9_init_8 at h
  obtain ⟨s8, e_s8, h⟩ := o_b h
  obtain ⟨q14, e_q14, h⟩ := o_b h
  exact (((e_pR e_s8).le).tr (m_na e_q14)).tr (mo_X9_init_16 h)
set_option maxHeartbeats 4000000 in
set_option maxRecDepth 100000 in
theorem K_X9_init_8 {p : Program} {l : Launch} {e : Env} {R : Room} {s : State} {m : MethodId} {args : Array Value} {below : List Frame} {meth : Method} {c : Code} {D : va_G} {dA : Nat → ClassId} {base : Nat} {z : hp} (X : cx p s m args c cX9_init RX9 1 D dA) (hret : meth.sig.returnType = none) (hlk : meth.locks = false) (hR : 1 ≤ R.frames ∧ 21 ≤ R.locals) (hin : meth.name = "<init>") {n0 s0 : Nat} (hRc : z.2.2.2.1 ≤ n0 + R.cells ∧ z.2.2.2.2 ≤ s0 + R.slots) {σ : hp} {t0 : Nat} {w0 : Option Nat} {w1 : Option Nat} {H : Heap} {locs : List Loc} {ls : Array Slot} (hn : n0 ≤ σ.2.2.2.1 ∧ s0 ≤ σ.2.2.2.2) (hh : hw D dA base σ H) (hS : hs base s.heap H locs) (hl : lk ls 1 [(0, .inr (some t0))]) (h : S_X9_init_8 σ t0 w0 w1 = some z) : W p l e R s m args below meth c H locs (σ.2.2.2.1 - n0) (σ.2.2.2.2 - s0) (MQ below (qG D dA base none z) args s (z.2.2.2.1 - n0) (z.2.2.2.2 - s0) (fun q => base ≤ q)) (F0 m 8 ls [va_rf w1, va_rf w0]) := by
  have hz0 := mo_X9_init_8 h
  have hcl : σ.2.2.2.1 - n0 ≤ R.cells ∧ σ.2.2.2.2 - s0 ≤ R.slots := by unfold le4 at hz0; omega
  unfold S_X9_init_8 at h
  obtain ⟨s8, e_s8, h⟩ := o_b h
  refine q_pR X hh hS fp_X9_7 (fun _ => hin) rfl (Or.inr ⟨_, rfl⟩) e_s8 dX9_init_8 (fun H locs hh hS => ?_)
  refine q_aload_n X dX9_init_11 rfl hl 0 rfl ?_
  refine lv_bipush (v := (60 : Int32)) X.1 X.2.1 dX9_init_12 (by decide) ?_
  obtain ⟨q14, e_q14, h⟩ := o_b h
  have ys8 : eq4 σ s8 := (e_pR e_s8)
  refine W.cs (cells' := s8.2.2.2.1 - n0) (slots' := s8.2.2.2.2 - s0) (by rw [show s8.2.2.2 = σ.2.2.2 from ys8]) (by rw [show s8.2.2.2 = σ.2.2.2 from ys8]) ?_
  have hn : n0 ≤ s8.2.2.2.1 ∧ s0 ≤ s8.2.2.2.2 := by rw [show s8.2.2.2 = σ.2.2.2 from ys8]; exact hn
  have hcl : s8.2.2.2.1 - n0 ≤ R.cells ∧ s8.2.2.2.2 - s0 ≤ R.slots := by rw [show s8.2.2.2 = σ.2.2.2 from ys8]; exact hcl
  have g14 := mo_X9_init_16 h
  have f14 := l_na e_q14
  unfold le4 at g14
  refine q_naI (t := 0) X hh hS (by decide) rfl rfl (fun _ _ => rfl) (by decide) (gm 43 (by decide +kernel) rfl) e_q14 dX9_init_14 (by omega) (by omega) (fun H hh hS => ?_)
  refine W.cs (cells' := q14.2.2.2.2.1 - n0) (slots' := q14.2.2.2.2.2 - s0) (by omega) (by omega) ?_
  have hn : n0 ≤ q14.2.2.2.2.1 ∧ s0 ≤ q14.2.2.2.2.2 := by omega
  exact K_X9_init_16 X hret hlk hR hin hRc hn hh hS (lk_sub hl [0] rfl) h
theorem mo_X9_init_0 {z : hp} {σ : hp} {t0 : Nat} (h : S_X9_init σ t0 = some z) : le4 σ z := by
  unfold S_X9_init at h
  obtain ⟨q6, e_q6, h⟩ := o_b h
  exact ((m_na e_q6)).tr (mo_X9_init_8 h)
set_option maxHeartbeats 4000000 in
set_option maxRecDepth 100000 in
theorem K_X9_init_0 {p : Program} {l : Launch} {e : Env} {R : Room} {s : State} {m : MethodId} {args : Array Value} {below : List Frame} {meth : Method} {c : Code} {D : va_G} {dA : Nat → ClassId} {base : Nat} {z : hp} (X : cx p s m args c cX9_init RX9 1 D dA) (hret : meth.sig.returnType = none) (hlk : meth.locks = false) (hR : 1 ≤ R.frames ∧ 21 ≤ R.locals) (hin : meth.name = "<init>") {n0 s0 : Nat} (hRc : z.2.2.2.1 ≤ n0 + R.cells ∧ z.2.2.2.2 ≤ s0 + R.slots) {σ : hp} {t0 : Nat} {H : Heap} {locs : List Loc} {ls : Array Slot} (hn : n0 ≤ σ.2.2.2.1 ∧ s0 ≤ σ.2.2.2.2) (hh : hw D dA base σ H) (hS : hs base s.heap H locs) (hl : lk ls 1 [(0, .inr (some t0))]) (h : S_X9_init σ t0 = some z) : W p l e R s m args below meth c H locs (σ.2.2.2.1 - n0) (σ.2.2.2.2 - s0) (MQ below (qG D dA base none z) args s (z.2.2.2.1 - n0) (z.2.2.2.2 - s0) (fun q => base ≤ q)) (F0 m 0 ls []) := by
  have hz0 := mo_X9_init_0 h
  have hcl : σ.2.2.2.1 - n0 ≤ R.cells ∧ σ.2.2.2.2 - s0 ≤ R.slots := by unfold le4 at hz0; omega
  unfold S_X9_init at h
  refine q_aload_n X dX9_init_0 rfl hl 0 rfl ?_
  refine q_objInit X hl cj_X9_1 gj_o1 gj_o2 dX9_init_1 ⟨Nat.le_trans (by decide) hR.1, Nat.le_trans (by decide) hR.2⟩ (cat8 [] (Nat.le_of_ble_eq_true rfl)) ?_
  refine q_aload_n X dX9_init_4 rfl hl 0 rfl ?_
  refine lv_iconst (v := (2 : Int32)) X.1 X.2.1 dX9_init_5 (by decide) ?_
  obtain ⟨q6, e_q6, h⟩ := o_b h
  have g6 := mo_X9_init_8 h
  have f6 := l_na e_q6
  unfold le4 at g6
  refine q_naI (t := 0) X hh hS (by decide) rfl rfl (fun _ _ => rfl) (by decide) (gm 43 (by decide +kernel) rfl) e_q6 dX9_init_6 (by omega) (by omega) (fun H hh hS => ?_)
  refine W.cs (cells' := q6.2.2.2.2.1 - n0) (slots' := q6.2.2.2.2.2 - s0) (by omega) (by omega) ?_
  have hn : n0 ≤ q6.2.2.2.2.1 ∧ s0 ≤ q6.2.2.2.2.2 := by omega
  exact K_X9_init_8 X hret hlk hR hin hRc hn hh hS (lk_sub hl [0] rfl) h
set_option maxRecDepth 100000 in
theorem M_X9_init (l : Launch) (D : va_G) (dA : Nat → ClassId) (base : Nat) (σ : hp) (t0 : Nat) {z : hp} (h : S_X9_init σ t0 = some z) : mt l yX9_init cX9_init 1 (none) 1 21 D dA base σ [.ref t0] none z (z.2.2.2.1 - σ.2.2.2.1) (z.2.2.2.2 - σ.2.2.2.2) := by
  have hzz := mo_X9_init_0 h
  unfold le4 at hzz
  refine Met.ofW (cc := cX9_init) (maxL := 1) (ret := none) (by decide) rfl ?_
  intro p e s m args below meth c s₁ B hml hv
  obtain ⟨rfl, hh, hK⟩ := hv
  have X : cx p s m ([.ref t0] : List Value).toArray c cX9_init RX9 1 D dA := ⟨B.exec, B.bytes, findClass_of_methodNamed B.named, hml, fun w hw => atoms_spec (ws := .code yX9_init cX9_init 1 (none) :: G) B.pre w (List.mem_cons_of_mem _ hw), hK⟩
  have hl := lk_entry [.inr (some t0)] (n := 1) (Nat.le_of_ble_eq_true rfl)
  rw [lg_entry_eq]
  have hl : lk ((lg_sl ([.ref t0] : List Value) ++ List.replicate (1 - (lg_sl ([.ref t0] : List Value)).length) Slot.unset).toArray) 1 [(0, .inr (some t0))] := hl
  generalize (lg_sl ([.ref t0] : List Value) ++ List.replicate (1 - (lg_sl ([.ref t0] : List Value)).length) Slot.unset).toArray = ls at hl ⊢
  refine W.cs (cells' := σ.2.2.2.1 - σ.2.2.2.1) (slots' := σ.2.2.2.2 - σ.2.2.2.2) (Nat.sub_self _).symm (Nat.sub_self _).symm ?_
  exact K_X9_init_0 X B.returns B.notSynchronized ⟨Nat.le_refl _, Nat.le_refl _⟩ (name_of_methodNamed B.named B.method).1 (n0 := σ.2.2.2.1) (s0 := σ.2.2.2.2) ⟨by show _ ≤ _ + (_ - _); omega, by show _ ≤ _ + (_ - _); omega⟩ ⟨Nat.le_refl _, Nat.le_refl _⟩ hh va_S.rf hl h
set_option maxHeartbeats 4000000 in
set_option maxRecDepth 100000 in
theorem K_X9_isSite_14 {p : Program} {l : Launch} {e : Env} {R : Room} {s : State} {m : MethodId} {args : Array Value} {below : List Frame} {meth : Method} {c : Code} {D : va_G} {dA : Nat → ClassId} {base : Nat} {z : Int32} (X : cx p s m args c cX9_isSite RX9 1 D dA) (hret : meth.sig.returnType = some .boolean) (hlk : meth.locks = false) (hR : 0 ≤ R.frames ∧ 0 ≤ R.locals) {σ : hp} {w0 : Int32} {H : Heap} {locs : List Loc} {ls : Array Slot} (hh : hw D dA base σ H) (hS : hs base s.heap H locs) (hl : lk ls 1 []) (h : S_X9_isSite_14 σ w0 = some z) : W p l e R s m args below meth c H locs 0 0 (MQ below (qG D dA base (some (.int z)) σ) args s 0 0 (fun q => base ≤ q)) (F0 m 14 ls [.int w0]) := by
  unfold S_X9_isSite_14 at h
  obtain ⟨z14, e_z14, h⟩ := o_b h
  cases h
  exact q_zret X hret hlk hh hS e_z14 dX9_isSite_14
set_option maxHeartbeats 4000000 in
set_option maxRecDepth 100000 in
theorem K_X9_isSite_9 {p : Program} {l : Launch} {e : Env} {R : Room} {s : State} {m : MethodId} {args : Array Value} {below : List Frame} {meth : Method} {c : Code} {D : va_G} {dA : Nat → ClassId} {base : Nat} {z : Int32} (X : cx p s m args c cX9_isSite RX9 1 D dA) (hret : meth.sig.returnType = some .boolean) (hlk : meth.locks = false) (hR : 0 ≤ R.frames ∧ 0 ≤ R.locals) {σ : hp} {H : Heap} {locs : List Loc} {ls : Array Slot} (hh : hw D dA base σ H) (hS : hs base s.heap H locs) (hl : lk ls 1 []) (h : S_X9_isSite_9 σ = some z) : W p l e R s m args below meth c H locs 0 0 (MQ below (qG D dA base (some (.int z)) σ) args s 0 0 (fun q => base ≤ q)) (F0 m 9 ls []) := by
  unfold S_X9_isSite_9 at h
  refine lv_iconst (v := (1 : Int32)) X.1 X.2.1 dX9_isSite_9 (by decide) ?_
  refine lv_goto (tgt := 14) X.1 X.2.1 dX9_isSite_10 (by decide) ?_
  exact K_X9_isSite_14 X hret hlk hR hh hS (lk_sub hl [] rfl) h
set_option maxHeartbeats 4000000 in
set_option maxRecDepth 100000 in
theorem K_X9_isSite_0 {p : Program} {l : Launch} {e : Env} {R : Room} {s : State} {m : MethodId} {args : Array Value} {below : List Frame} {meth : Method} {c : Code} {D : va_G} {dA : Nat → ClassId} {base : Nat} {z : Int32} (X : cx p s m args c cX9_isSite RX9 1 D dA) (hret : meth.sig.returnType = some .boolean) (hlk : meth.locks = false) (hR : 0 ≤ R.frames ∧ 0 ≤ R.locals) {σ : hp} {v0 : Int32} {H : Heap} {locs : List Loc} {ls : Array Slot} (hh : hw D dA base σ H) (hS : hs base s.heap H locs) (hl : lk ls 1 [(0, .inl v0)]) (h : S_X9_isSite σ v0 = some z) : W p l e R s m args below meth c H locs 0 0 (MQ below (qG D dA base (some (.int z)) σ) args s 0 0 (fun q => base ≤ q)) (F0 m 0 ls []) := by
  unfold S_X9_isSite at h
  refine q_iload_n X dX9_isSite_0 rfl hl 0 rfl ?_
  refine lv_if_eq (tgt := 9) X.1 X.2.1 dX9_isSite_1 (by decide) (fun c1 => ?_) (fun c1 => ?_)
  · rw [if_pos c1] at h
    exact K_X9_isSite_9 X hret hlk hR hh hS (lk_sub hl [] rfl) h
  · rw [if_neg c1] at h
    refine q_iload_n X dX9_isSite_4 rfl hl 0 rfl ?_
    refine lv_iconst (v := (1 : Int32)) X.1 X.2.1 dX9_isSite_5 (by decide) ?_
    refine lv_icmp_ne (tgt := 13) X.1 X.2.1 dX9_isSite_6 (by decide) (fun c6 => ?_) (fun c6 => ?_)
    · rw [if_neg c6] at h
      refine lv_iconst (v := (0 : Int32)) X.1 X.2.1 dX9_isSite_13 (by decide) ?_
      exact K_X9_isSite_14 X hret hlk hR hh hS (lk_sub hl [] rfl) h
    · rw [if_pos c6] at h
      exact K_X9_isSite_9 X hret hlk hR hh hS (lk_sub hl [] rfl) h
set_option maxRecDepth 100000 in
theorem M_X9_isSite (l : Launch) (D : va_G) (dA : Nat → ClassId) (base : Nat) (σ : hp) (v0 : Int32) {z : Int32} (h : S_X9_isSite σ v0 = some z) : mt l yX9_isSite cX9_isSite 1 (some .boolean) 0 0 D dA base σ [.int v0] (some (.int z)) σ 0 0 := by
  refine Met.ofW (cc := cX9_isSite) (maxL := 1) (ret := some .boolean) (by decide) rfl ?_
  intro p e s m args below meth c s₁ B hml hv
  obtain ⟨rfl, hh, hK⟩ := hv
  have X : cx p s m ([.int v0] : List Value).toArray c cX9_isSite RX9 1 D dA := ⟨B.exec, B.bytes, findClass_of_methodNamed B.named, hml, fun w hw => atoms_spec (ws := .code yX9_isSite cX9_isSite 1 (some .boolean) :: G) B.pre w (List.mem_cons_of_mem _ hw), hK⟩
  have hl := lk_entry [.inl v0] (n := 1) (Nat.le_of_ble_eq_true rfl)
  rw [lg_entry_eq]
  have hl : lk ((lg_sl ([.int v0] : List Value) ++ List.replicate (1 - (lg_sl ([.int v0] : List Value)).length) Slot.unset).toArray) 1 [(0, .inl v0)] := hl
  generalize (lg_sl ([.int v0] : List Value) ++ List.replicate (1 - (lg_sl ([.int v0] : List Value)).length) Slot.unset).toArray = ls at hl ⊢
  exact K_X9_isSite_0 X B.returns B.notSynchronized ⟨Nat.le_refl _, Nat.le_refl _⟩ hh va_S.rf hl h
theorem ke_X9_put_20 {z : Int32 × hp} {σ : hp} (h : S_X9_put_20 σ = some z) : eq4 σ z.2 := by
  unfold S_X9_put_20 at h
  cases h
  show eq4 σ σ
  exact eq4.rf _
set_option maxHeartbeats 4000000 in
set_option maxRecDepth 100000 in
theorem K_X9_put_20 {p : Program} {l : Launch} {e : Env} {R : Room} {s : State} {m : MethodId} {args : Array Value} {below : List Frame} {meth : Method} {c : Code} {D : va_G} {dA : Nat → ClassId} {base : Nat} {z : Int32 × hp} (X : cx p s m args c cX9_put RX9 2 D dA) (hret : meth.sig.returnType = some .int) (hlk : meth.locks = false) (hR : 0 ≤ R.frames ∧ 0 ≤ R.locals) {σ : hp} {H : Heap} {locs : List Loc} {ls : Array Slot} (hh : hw D dA base σ H) (hS : hs base s.heap H locs) (hl : lk ls 2 []) (h : S_X9_put_20 σ = some z) : W p l e R s m args below meth c H locs 0 0 (MQ below (qG D dA base (some (.int z.1)) z.2) args s 0 0 (fun q => base ≤ q)) (F0 m 20 ls []) := by
  unfold S_X9_put_20 at h
  refine lv_iconst (v := (-1 : Int32)) X.1 X.2.1 dX9_put_20 (by decide) ?_
  cases h
  exact q_iret X hret hlk hh hS dX9_put_21
theorem ke_X9_put_0 {z : Int32 × hp} {σ : hp} {t0 : Nat} {v1 : Int32} (h : S_X9_put σ t0 v1 = some z) : eq4 σ z.2 := by
  unfold S_X9_put at h
  obtain ⟨t1, e_t1, h⟩ := o_b h
  by_cases c6 : t1 = (100 : Int32)
  · rw [if_pos c6] at h
    exact (ke_X9_put_20 h)
  · rw [if_neg c6] at h
    by_cases c10 : v1 < (0 : Int32)
    · rw [if_pos c10] at h
      exact (ke_X9_put_20 h)
    · rw [if_neg c10] at h
      by_cases c17 : v1 ≤ (255 : Int32)
      · rw [if_pos c17] at h
        obtain ⟨t23, e_t23, h⟩ := o_b h
        obtain ⟨t27, e_t27, h⟩ := o_b h
        obtain ⟨s31, e_s31, h⟩ := o_b h
        obtain ⟨t34, e_t34, h⟩ := o_b h
        obtain ⟨s39, e_s39, h⟩ := o_b h
        obtain ⟨t43, e_t43, h⟩ := o_b h
        cases h
        show eq4 σ s39
        exact ((e_stI e_s31)).tr (e_pI e_s39)
      · rw [if_neg c17] at h
        exact (ke_X9_put_20 h)
set_option maxHeartbeats 4000000 in
set_option maxRecDepth 100000 in
theorem K_X9_put_0 {p : Program} {l : Launch} {e : Env} {R : Room} {s : State} {m : MethodId} {args : Array Value} {below : List Frame} {meth : Method} {c : Code} {D : va_G} {dA : Nat → ClassId} {base : Nat} {z : Int32 × hp} (X : cx p s m args c cX9_put RX9 2 D dA) (hret : meth.sig.returnType = some .int) (hlk : meth.locks = false) (hR : 0 ≤ R.frames ∧ 0 ≤ R.locals) {σ : hp} {t0 : Nat} {v1 : Int32} {H : Heap} {locs : List Loc} {ls : Array Slot} (hh : hw D dA base σ H) (hS : hs base s.heap H locs) (hl : lk ls 2 [(0, .inr (some t0)), (1, .inl v1)]) (h : S_X9_put σ t0 v1 = some z) : W p l e R s m args below meth c H locs 0 0 (MQ below (qG D dA base (some (.int z.1)) z.2) args s 0 0 (fun q => base ≤ q)) (F0 m 0 ls []) := by
  unfold S_X9_put at h
  refine q_aload_n X dX9_put_0 rfl hl 0 rfl ?_
  obtain ⟨t1, e_t1, h⟩ := o_b h
  refine q_gI X hh fa_X9_117 rfl e_t1 dX9_put_1 ?_
  refine lv_bipush (v := (100 : Int32)) X.1 X.2.1 dX9_put_4 (by decide) ?_
  refine lv_icmp_eq (tgt := 20) X.1 X.2.1 dX9_put_6 (by decide) (fun c6 => ?_) (fun c6 => ?_)
  · rw [if_pos c6] at h
    exact K_X9_put_20 X hret hlk hR hh hS (lk_sub hl [] rfl) h
  · rw [if_neg c6] at h
    refine q_iload_n X dX9_put_9 rfl hl 1 rfl ?_
    refine lv_if_lt (tgt := 20) X.1 X.2.1 dX9_put_10 (by decide) (fun c10 => ?_) (fun c10 => ?_)
    · rw [if_pos c10] at h
      exact K_X9_put_20 X hret hlk hR hh hS (lk_sub hl [] rfl) h
    · rw [if_neg c10] at h
      refine q_iload_n X dX9_put_13 rfl hl 1 rfl ?_
      refine lv_sipush (v := (255 : Int32)) X.1 X.2.1 dX9_put_14 (by decide) ?_
      refine lv_icmp_le (tgt := 22) X.1 X.2.1 dX9_put_17 (by decide) (fun c17 => ?_) (fun c17 => ?_)
      · rw [if_pos c17] at h
        refine q_aload_n X dX9_put_22 rfl hl 0 rfl ?_
        obtain ⟨t23, e_t23, h⟩ := o_b h
        refine q_gR X hh fa_X9_41 rfl e_t23 dX9_put_23 ?_
        refine q_aload_n X dX9_put_26 rfl hl 0 rfl ?_
        obtain ⟨t27, e_t27, h⟩ := o_b h
        refine q_gI X hh fa_X9_117 rfl e_t27 dX9_put_27 ?_
        refine q_iload_n X dX9_put_30 rfl hl 1 rfl ?_
        obtain ⟨s31, e_s31, h⟩ := o_b h
        refine q_stI X hh hS e_s31 dX9_put_31 (fun H locs hh hS => ?_)
        refine q_aload_n X dX9_put_32 rfl hl 0 rfl ?_
        refine lv_dup X.1 X.2.1 dX9_put_33 (vv_cat (.inr (some t0))) ?_
        obtain ⟨t34, e_t34, h⟩ := o_b h
        refine q_gI X hh fa_X9_117 rfl e_t34 dX9_put_34 ?_
        refine lv_iconst (v := (1 : Int32)) X.1 X.2.1 dX9_put_37 (by decide) ?_
        refine lv_iadd X.1 X.2.1 dX9_put_38 ?_
        obtain ⟨s39, e_s39, h⟩ := o_b h
        refine q_pI X hh hS fp_X9_117 (fun h => by cases h) rfl e_s39 dX9_put_39 (fun H locs hh hS => ?_)
        refine q_aload_n X dX9_put_42 rfl hl 0 rfl ?_
        obtain ⟨t43, e_t43, h⟩ := o_b h
        refine q_gI X hh fa_X9_117 rfl e_t43 dX9_put_43 ?_
        cases h
        exact q_iret X hret hlk hh hS dX9_put_46
      · rw [if_neg c17] at h
        exact K_X9_put_20 X hret hlk hR hh hS (lk_sub hl [] rfl) h
set_option maxRecDepth 100000 in
theorem M_X9_put (l : Launch) (D : va_G) (dA : Nat → ClassId) (base : Nat) (σ : hp) (t0 : Nat) (v1 : Int32) {z : Int32 × hp} (h : S_X9_put σ t0 v1 = some z) : mt l yX9_put cX9_put 2 (some .int) 0 0 D dA base σ [.ref t0, .int v1] (some (.int z.1)) z.2 0 0 := by
  refine Met.ofW (cc := cX9_put) (maxL := 2) (ret := some .int) (by decide) rfl ?_
  intro p e s m args below meth c s₁ B hml hv
  obtain ⟨rfl, hh, hK⟩ := hv
  have X : cx p s m ([.ref t0, .int v1] : List Value).toArray c cX9_put RX9 2 D dA := ⟨B.exec, B.bytes, findClass_of_methodNamed B.named, hml, fun w hw => atoms_spec (ws := .code yX9_put cX9_put 2 (some .int) :: G) B.pre w (List.mem_cons_of_mem _ hw), hK⟩
  have hl := lk_entry [.inr (some t0), .inl v1] (n := 2) (Nat.le_of_ble_eq_true rfl)
  rw [lg_entry_eq]
  have hl : lk ((lg_sl ([.ref t0, .int v1] : List Value) ++ List.replicate (2 - (lg_sl ([.ref t0, .int v1] : List Value)).length) Slot.unset).toArray) 2 [(0, .inr (some t0)), (1, .inl v1)] := hl
  generalize (lg_sl ([.ref t0, .int v1] : List Value) ++ List.replicate (2 - (lg_sl ([.ref t0, .int v1] : List Value)).length) Slot.unset).toArray = ls at hl ⊢
  exact K_X9_put_0 X B.returns B.notSynchronized ⟨Nat.le_refl _, Nat.le_refl _⟩ hh va_S.rf hl h
theorem ke_X9_queue_18 {z : Int32 × hp} {σ : hp} (h : S_X9_queue_18 σ = some z) : eq4 σ z.2 := by
  unfold S_X9_queue_18 at h
  cases h
  show eq4 σ σ
  exact eq4.rf _
set_option maxHeartbeats 4000000 in
set_option maxRecDepth 100000 in
theorem K_X9_queue_18 {p : Program} {l : Launch} {e : Env} {R : Room} {s : State} {m : MethodId} {args : Array Value} {below : List Frame} {meth : Method} {c : Code} {D : va_G} {dA : Nat → ClassId} {base : Nat} {z : Int32 × hp} (X : cx p s m args c cX9_queue RX9 4 D dA) (hret : meth.sig.returnType = some .int) (hlk : meth.locks = false) (hR : 1 ≤ R.frames ∧ 20 ≤ R.locals) {σ : hp} {H : Heap} {locs : List Loc} {ls : Array Slot} (hh : hw D dA base σ H) (hS : hs base s.heap H locs) (hl : lk ls 4 []) (h : S_X9_queue_18 σ = some z) : W p l e R s m args below meth c H locs 0 0 (MQ below (qG D dA base (some (.int z.1)) z.2) args s 0 0 (fun q => base ≤ q)) (F0 m 18 ls []) := by
  unfold S_X9_queue_18 at h
  refine lv_iconst (v := (-1 : Int32)) X.1 X.2.1 dX9_queue_18 (by decide) ?_
  cases h
  exact q_iret X hret hlk hh hS dX9_queue_19
theorem ke_X9_queue_44_b {rec44 : hp → Nat → Int32 → Int32 → Int32 → Option (Int32 × hp)} {z : Int32 × hp} (hm44 : ∀ (σ : hp) (t0 : Nat) (v1 : Int32) (v2 : Int32) (v3 : Int32), rec44 σ t0 v1 v2 v3 = some z → eq4 σ z.2) {σ : hp} {t0 : Nat} {v1 : Int32} {v2 : Int32} {v3 : Int32} (h : S_X9_queue_44_b rec44 σ t0 v1 v2 v3 = some z) : eq4 σ z.2 := by
  unfold S_X9_queue_44_b at h
  obtain ⟨t46, e_t46, h⟩ := o_b h
  by_cases c49 : t46 ≤ v3
  · rw [if_pos c49] at h
    obtain ⟨s83, e_s83, h⟩ := o_b h
    obtain ⟨t87, e_t87, h⟩ := o_b h
    obtain ⟨t95, e_t95, h⟩ := o_b h
    obtain ⟨t99, e_t99, h⟩ := o_b h
    obtain ⟨s102, e_s102, h⟩ := o_b h
    obtain ⟨t104, e_t104, h⟩ := o_b h
    obtain ⟨t109, e_t109, h⟩ := o_b h
    obtain ⟨s112, e_s112, h⟩ := o_b h
    obtain ⟨t114, e_t114, h⟩ := o_b h
    obtain ⟨t119, e_t119, h⟩ := o_b h
    obtain ⟨s122, e_s122, h⟩ := o_b h
    cases h
    show eq4 σ s122
    exact ((((e_pI e_s83)).tr (e_stI e_s102)).tr (e_stI e_s112)).tr (e_stI e_s122)
  · rw [if_neg c49] at h
    obtain ⟨t53, e_t53, h⟩ := o_b h
    obtain ⟨t69, e_t69, h⟩ := o_b h
    obtain ⟨t73, e_t73, h⟩ := o_b h
    obtain ⟨s74, e_s74, h⟩ := o_b h
    exact ((e_stI e_s74)).tr (hm44 _ _ _ _ _ h)
theorem ke_X9_queue_44 {z : Int32 × hp} : ∀ (n : Nat) (σ : hp) (t0 : Nat) (v1 : Int32) (v2 : Int32) (v3 : Int32), S_X9_queue_44 n σ t0 v1 v2 v3 = some z → eq4 σ z.2 := by
  intro n
  induction n with
  | zero => intro σ t0 v1 v2 v3 h; cases h
  | succ n ih => intro σ t0 v1 v2 v3 h; exact ke_X9_queue_44_b ih h
set_option maxHeartbeats 4000000 in
set_option maxRecDepth 100000 in
theorem K_X9_queue_44_b {p : Program} {l : Launch} {e : Env} {R : Room} {s : State} {m : MethodId} {args : Array Value} {below : List Frame} {meth : Method} {c : Code} {D : va_G} {dA : Nat → ClassId} {base : Nat} {rec44 : hp → Nat → Int32 → Int32 → Int32 → Option (Int32 × hp)} {z : Int32 × hp} (X : cx p s m args c cX9_queue RX9 4 D dA) (hret : meth.sig.returnType = some .int) (hlk : meth.locks = false) (hR : 1 ≤ R.frames ∧ 20 ≤ R.locals) (hr44 : ∀ (σ : hp) (t0 : Nat) (v1 : Int32) (v2 : Int32) (v3 : Int32) (H : Heap) (locs : List Loc) (ls : Array Slot), hw D dA base σ H → hs base s.heap H locs → lk ls 4 [(0, .inr (some t0)), (1, .inl v1), (2, .inl v2), (3, .inl v3)] → rec44 σ t0 v1 v2 v3 = some z → W p l e R s m args below meth c H locs 0 0 (MQ below (qG D dA base (some (.int z.1)) z.2) args s 0 0 (fun q => base ≤ q)) (F0 m 44 ls [])) {σ : hp} {t0 : Nat} {v1 : Int32} {v2 : Int32} {v3 : Int32} {H : Heap} {locs : List Loc} {ls : Array Slot} (hh : hw D dA base σ H) (hS : hs base s.heap H locs) (hl : lk ls 4 [(0, .inr (some t0)), (1, .inl v1), (2, .inl v2), (3, .inl v3)]) (h : S_X9_queue_44_b rec44 σ t0 v1 v2 v3 = some z) : W p l e R s m args below meth c H locs 0 0 (MQ below (qG D dA base (some (.int z.1)) z.2) args s 0 0 (fun q => base ≤ q)) (F0 m 44 ls []) := by
  unfold S_X9_queue_44_b at h
  refine q_iload_n X dX9_queue_44 rfl hl 3 rfl ?_
  refine q_aload_n X dX9_queue_45 rfl hl 0 rfl ?_
  obtain ⟨t46, e_t46, h⟩ := o_b h
  refine q_gI X hh fa_X9_117 rfl e_t46 dX9_queue_46 ?_
  refine lv_icmp_ge (tgt := 81) X.1 X.2.1 dX9_queue_49 (by decide) (fun c49 => ?_) (fun c49 => ?_)
  · rw [if_pos c49] at h
    refine q_aload_n X dX9_queue_81 rfl hl 0 rfl ?_
    refine lv_iconst (v := (0 : Int32)) X.1 X.2.1 dX9_queue_82 (by decide) ?_
    obtain ⟨s83, e_s83, h⟩ := o_b h
    refine q_pI X hh hS fp_X9_117 (fun h => by cases h) rfl e_s83 dX9_queue_83 (fun H locs hh hS => ?_)
    refine q_aload_n X dX9_queue_86 rfl hl 0 rfl ?_
    obtain ⟨t87, e_t87, h⟩ := o_b h
    refine q_gR X hh fa_X9_22 rfl e_t87 dX9_queue_87 ?_
    refine lv_bipush (v := (30 : Int32)) X.1 X.2.1 dX9_queue_90 (by decide) ?_
    refine q_iload_n X dX9_queue_92 rfl hl 1 rfl ?_
    refine lv_imul X.1 X.2.1 dX9_queue_93 ?_
    refine q_aload_n X dX9_queue_94 rfl hl 0 rfl ?_
    obtain ⟨t95, e_t95, h⟩ := o_b h
    refine q_gR X hh fa_X9_19 rfl e_t95 dX9_queue_95 ?_
    refine q_iload_n X dX9_queue_98 rfl hl 1 rfl ?_
    obtain ⟨t99, e_t99, h⟩ := o_b h
    refine q_ldI X hh e_t99 dX9_queue_99 ?_
    refine lv_iadd X.1 X.2.1 dX9_queue_100 ?_
    refine q_iload_n X dX9_queue_101 rfl hl 2 rfl ?_
    obtain ⟨s102, e_s102, h⟩ := o_b h
    refine q_stI X hh hS e_s102 dX9_queue_102 (fun H locs hh hS => ?_)
    refine q_aload_n X dX9_queue_103 rfl hl 0 rfl ?_
    obtain ⟨t104, e_t104, h⟩ := o_b h
    refine q_gR X hh fa_X9_19 rfl e_t104 dX9_queue_104 ?_
    refine q_iload_n X dX9_queue_107 rfl hl 1 rfl ?_
    refine lv_dup2_11 X.1 X.2.1 dX9_queue_108 (vv_cat (.inl v1)) (vv_cat (.inr t104)) ?_
    obtain ⟨t109, e_t109, h⟩ := o_b h
    refine q_ldI X hh e_t109 dX9_queue_109 ?_
    refine lv_iconst (v := (1 : Int32)) X.1 X.2.1 dX9_queue_110 (by decide) ?_
    refine lv_iadd X.1 X.2.1 dX9_queue_111 ?_
    obtain ⟨s112, e_s112, h⟩ := o_b h
    refine q_stI X hh hS e_s112 dX9_queue_112 (fun H locs hh hS => ?_)
    refine q_aload_n X dX9_queue_113 rfl hl 0 rfl ?_
    obtain ⟨t114, e_t114, h⟩ := o_b h
    refine q_gR X hh fa_X9_7 rfl e_t114 dX9_queue_114 ?_
    refine q_iload_n X dX9_queue_117 rfl hl 1 rfl ?_
    refine lv_dup2_11 X.1 X.2.1 dX9_queue_118 (vv_cat (.inl v1)) (vv_cat (.inr t114)) ?_
    obtain ⟨t119, e_t119, h⟩ := o_b h
    refine q_ldI X hh e_t119 dX9_queue_119 ?_
    refine lv_iconst (v := (1 : Int32)) X.1 X.2.1 dX9_queue_120 (by decide) ?_
    refine lv_iadd X.1 X.2.1 dX9_queue_121 ?_
    obtain ⟨s122, e_s122, h⟩ := o_b h
    refine q_stI X hh hS e_s122 dX9_queue_122 (fun H locs hh hS => ?_)
    refine q_iload_n X dX9_queue_123 rfl hl 2 rfl ?_
    cases h
    exact q_iret X hret hlk hh hS dX9_queue_124
  · rw [if_neg c49] at h
    refine q_aload_n X dX9_queue_52 rfl hl 0 rfl ?_
    obtain ⟨t53, e_t53, h⟩ := o_b h
    refine q_gR X hh fa_X9_16 rfl e_t53 dX9_queue_53 ?_
    refine lv_sipush (v := (3000 : Int32)) X.1 X.2.1 dX9_queue_56 (by decide) ?_
    refine q_iload_n X dX9_queue_59 rfl hl 1 rfl ?_
    refine lv_imul X.1 X.2.1 dX9_queue_60 ?_
    refine lv_bipush (v := (100 : Int32)) X.1 X.2.1 dX9_queue_61 (by decide) ?_
    refine q_iload_n X dX9_queue_63 rfl hl 2 rfl ?_
    refine lv_imul X.1 X.2.1 dX9_queue_64 ?_
    refine lv_iadd X.1 X.2.1 dX9_queue_65 ?_
    refine q_iload_n X dX9_queue_66 rfl hl 3 rfl ?_
    refine lv_iadd X.1 X.2.1 dX9_queue_67 ?_
    refine q_aload_n X dX9_queue_68 rfl hl 0 rfl ?_
    obtain ⟨t69, e_t69, h⟩ := o_b h
    refine q_gR X hh fa_X9_41 rfl e_t69 dX9_queue_69 ?_
    refine q_iload_n X dX9_queue_72 rfl hl 3 rfl ?_
    obtain ⟨t73, e_t73, h⟩ := o_b h
    refine q_ldI X hh e_t73 dX9_queue_73 ?_
    obtain ⟨s74, e_s74, h⟩ := o_b h
    refine q_stI X hh hS e_s74 dX9_queue_74 (fun H locs hh hS => ?_)
    refine q_iinc (v := (1 : Int32)) (lv' := [(3, .inl (v3 + (1 : Int32))), (0, .inr (some t0)), (1, .inl v1), (2, .inl v2)]) X dX9_queue_75 hl 3 rfl (by decide) (by decide) rfl (fun ls hl => ?_)
    refine lv_goto (tgt := 44) X.1 X.2.1 dX9_queue_78 (by decide) ?_
    exact hr44 _ _ _ _ _ _ _ _ hh hS (lk_sub hl [1, 2, 3, 0] rfl) h
theorem K_X9_queue_44 {p : Program} {l : Launch} {e : Env} {R : Room} {s : State} {m : MethodId} {args : Array Value} {below : List Frame} {meth : Method} {c : Code} {D : va_G} {dA : Nat → ClassId} {base : Nat} {z : Int32 × hp} (X : cx p s m args c cX9_queue RX9 4 D dA) (hret : meth.sig.returnType = some .int) (hlk : meth.locks = false) (hR : 1 ≤ R.frames ∧ 20 ≤ R.locals) : ∀ (n : Nat) (σ : hp) (t0 : Nat) (v1 : Int32) (v2 : Int32) (v3 : Int32) (H : Heap) (locs : List Loc) (ls : Array Slot), hw D dA base σ H → hs base s.heap H locs → lk ls 4 [(0, .inr (some t0)), (1, .inl v1), (2, .inl v2), (3, .inl v3)] → S_X9_queue_44 n σ t0 v1 v2 v3 = some z → W p l e R s m args below meth c H locs 0 0 (MQ below (qG D dA base (some (.int z.1)) z.2) args s 0 0 (fun q => base ≤ q)) (F0 m 44 ls []) := by
  intro n
  induction n with
  | zero => intro σ t0 v1 v2 v3 H locs ls hh hS hl h; cases h
  | succ n ih => intro σ t0 v1 v2 v3 H locs ls hh hS hl h; exact K_X9_queue_44_b X hret hlk hR ih hh hS hl h
theorem ke_X9_queue_0 {z : Int32 × hp} {σ : hp} {t0 : Nat} {v1 : Int32} (h : S_X9_queue σ t0 v1 = some z) : eq4 σ z.2 := by
  unfold S_X9_queue at h
  obtain ⟨q1, e_q1, h⟩ := o_b h
  by_cases c4 : q1 = (0 : Int32)
  · rw [if_pos c4] at h
    exact (ke_X9_queue_18 h)
  · rw [if_neg c4] at h
    obtain ⟨t8, e_t8, h⟩ := o_b h
    obtain ⟨t12, e_t12, h⟩ := o_b h
    by_cases c15 : t12 = (30 : Int32)
    · rw [if_pos c15] at h
      exact (ke_X9_queue_18 h)
    · rw [if_neg c15] at h
      obtain ⟨t21, e_t21, h⟩ := o_b h
      obtain ⟨t25, e_t25, h⟩ := o_b h
      obtain ⟨t28, e_t28, h⟩ := o_b h
      obtain ⟨t38, e_t38, h⟩ := o_b h
      obtain ⟨s41, e_s41, h⟩ := o_b h
      exact ((e_stI e_s41)).tr (ke_X9_queue_44 FU _ _ _ _ _ h)
set_option maxHeartbeats 4000000 in
set_option maxRecDepth 100000 in
theorem K_X9_queue_0 {p : Program} {l : Launch} {e : Env} {R : Room} {s : State} {m : MethodId} {args : Array Value} {below : List Frame} {meth : Method} {c : Code} {D : va_G} {dA : Nat → ClassId} {base : Nat} {z : Int32 × hp} (X : cx p s m args c cX9_queue RX9 4 D dA) (hret : meth.sig.returnType = some .int) (hlk : meth.locks = false) (hR : 1 ≤ R.frames ∧ 20 ≤ R.locals) {σ : hp} {t0 : Nat} {v1 : Int32} {H : Heap} {locs : List Loc} {ls : Array Slot} (hh : hw D dA base σ H) (hS : hs base s.heap H locs) (hl : lk ls 4 [(0, .inr (some t0)), (1, .inl v1)]) (h : S_X9_queue σ t0 v1 = some z) : W p l e R s m args below meth c H locs 0 0 (MQ below (qG D dA base (some (.int z.1)) z.2) args s 0 0 (fun q => base ≤ q)) (F0 m 0 ls []) := by
  unfold S_X9_queue at h
  refine q_iload_n X dX9_queue_0 rfl hl 1 rfl ?_
  obtain ⟨q1, e_q1, h⟩ := o_b h
  refine q_cS (As := [.int v1]) X hh hS hl cf_X9_121 rfl (M_X9_isSite l D dA base σ v1 e_q1) ⟨Nat.le_trans (by decide) hR.1, Nat.le_trans (by decide) hR.2⟩ (cat8 [] (Nat.le_of_ble_eq_true rfl)) dX9_queue_1 ⟨Nat.zero_le _, Nat.zero_le _⟩ rfl rfl (fun H locs hh hS => ?_)
  refine lv_if_eq (tgt := 18) X.1 X.2.1 dX9_queue_4 (by decide) (fun c4 => ?_) (fun c4 => ?_)
  · rw [if_pos c4] at h
    exact K_X9_queue_18 X hret hlk hR hh hS (lk_sub hl [] rfl) h
  · rw [if_neg c4] at h
    refine q_aload_n X dX9_queue_7 rfl hl 0 rfl ?_
    obtain ⟨t8, e_t8, h⟩ := o_b h
    refine q_gR X hh fa_X9_7 rfl e_t8 dX9_queue_8 ?_
    refine q_iload_n X dX9_queue_11 rfl hl 1 rfl ?_
    obtain ⟨t12, e_t12, h⟩ := o_b h
    refine q_ldI X hh e_t12 dX9_queue_12 ?_
    refine lv_bipush (v := (30 : Int32)) X.1 X.2.1 dX9_queue_13 (by decide) ?_
    refine lv_icmp_ne (tgt := 20) X.1 X.2.1 dX9_queue_15 (by decide) (fun c15 => ?_) (fun c15 => ?_)
    · rw [if_neg c15] at h
      refine q_aload_n X dX9_queue_20 rfl hl 0 rfl ?_
      obtain ⟨t21, e_t21, h⟩ := o_b h
      refine q_gR X hh fa_X9_7 rfl e_t21 dX9_queue_21 ?_
      refine q_iload_n X dX9_queue_24 rfl hl 1 rfl ?_
      obtain ⟨t25, e_t25, h⟩ := o_b h
      refine q_ldI X hh e_t25 dX9_queue_25 ?_
      refine q_istore_n (lv' := [(2, .inl t25), (0, .inr (some t0)), (1, .inl v1)]) X dX9_queue_26 rfl hl (by decide) rfl (fun ls hl => ?_)
      refine q_aload_n X dX9_queue_27 rfl hl 1 rfl ?_
      obtain ⟨t28, e_t28, h⟩ := o_b h
      refine q_gR X hh fa_X9_13 rfl e_t28 dX9_queue_28 ?_
      refine lv_bipush (v := (30 : Int32)) X.1 X.2.1 dX9_queue_31 (by decide) ?_
      refine q_iload_n X dX9_queue_33 rfl hl 2 rfl ?_
      refine lv_imul X.1 X.2.1 dX9_queue_34 ?_
      refine q_iload_n X dX9_queue_35 rfl hl 0 rfl ?_
      refine lv_iadd X.1 X.2.1 dX9_queue_36 ?_
      refine q_aload_n X dX9_queue_37 rfl hl 1 rfl ?_
      obtain ⟨t38, e_t38, h⟩ := o_b h
      refine q_gI X hh fa_X9_117 rfl e_t38 dX9_queue_38 ?_
      obtain ⟨s41, e_s41, h⟩ := o_b h
      refine q_stI X hh hS e_s41 dX9_queue_41 (fun H locs hh hS => ?_)
      refine lv_iconst (v := (0 : Int32)) X.1 X.2.1 dX9_queue_42 (by decide) ?_
      refine q_istore_n (lv' := [(3, .inl (0 : Int32)), (2, .inl t25), (0, .inr (some t0)), (1, .inl v1)]) X dX9_queue_43 rfl hl (by decide) rfl (fun ls hl => ?_)
      exact K_X9_queue_44 X hret hlk hR FU _ _ _ _ _ _ _ _ hh hS (lk_sub hl [2, 3, 1, 0] rfl) h
    · rw [if_pos c15] at h
      exact K_X9_queue_18 X hret hlk hR hh hS (lk_sub hl [] rfl) h
set_option maxRecDepth 100000 in
theorem M_X9_queue (l : Launch) (D : va_G) (dA : Nat → ClassId) (base : Nat) (σ : hp) (t0 : Nat) (v1 : Int32) {z : Int32 × hp} (h : S_X9_queue σ t0 v1 = some z) : mt l yX9_queue cX9_queue 4 (some .int) 1 20 D dA base σ [.ref t0, .int v1] (some (.int z.1)) z.2 0 0 := by
  refine Met.ofW (cc := cX9_queue) (maxL := 4) (ret := some .int) (by decide) rfl ?_
  intro p e s m args below meth c s₁ B hml hv
  obtain ⟨rfl, hh, hK⟩ := hv
  have X : cx p s m ([.ref t0, .int v1] : List Value).toArray c cX9_queue RX9 4 D dA := ⟨B.exec, B.bytes, findClass_of_methodNamed B.named, hml, fun w hw => atoms_spec (ws := .code yX9_queue cX9_queue 4 (some .int) :: G) B.pre w (List.mem_cons_of_mem _ hw), hK⟩
  have hl := lk_entry [.inr (some t0), .inl v1] (n := 4) (Nat.le_of_ble_eq_true rfl)
  rw [lg_entry_eq]
  have hl : lk ((lg_sl ([.ref t0, .int v1] : List Value) ++ List.replicate (4 - (lg_sl ([.ref t0, .int v1] : List Value)).length) Slot.unset).toArray) 4 [(0, .inr (some t0)), (1, .inl v1)] := hl
  generalize (lg_sl ([.ref t0, .int v1] : List Value) ++ List.replicate (4 - (lg_sl ([.ref t0, .int v1] : List Value)).length) Slot.unset).toArray = ls at hl ⊢
  exact K_X9_queue_0 X B.returns B.notSynchronized ⟨Nat.le_refl _, Nat.le_refl _⟩ hh va_S.rf hl h
