/-! Walks: written by wip/whole/gen/emit.py. X9_deliver X9_lose X9_alter X9_tickOf X9_tick X9_crash X9_settle X9_waiting X9_look X9_told -/
theorem ke_X9_deliver_16 {z : Int32 × hp} {σ : hp} (h : S_X9_deliver_16 σ = some z) : eq4 σ z.2 := by
  unfold S_X9_deliver_16 at h
  cases h
  show eq4 σ σ
  exact eq4.rf _
set_option maxHeartbeats 4000000 in
set_option maxRecDepth 100000 in
theorem K_X9_deliver_16 {p : Program} {l : Launch} {e : Env} {R : Room} {s : State} {m : MethodId} {args : Array Value} {below : List Frame} {meth : Method} {c : Code} {D : va_G} {dA : Nat → ClassId} {base : Nat} {z : Int32 × hp} (X : cx p s m args c cX9_deliver RX9 3 D dA) (hret : meth.sig.returnType = some .int) (hlk : meth.locks = false) (hR : 11 ≤ R.frames ∧ 253 ≤ R.locals) {σ : hp} {H : Heap} {locs : List Loc} {ls : Array Slot} (hh : hw D dA base σ H) (hS : hs base s.heap H locs) (hl : lk ls 3 []) (h : S_X9_deliver_16 σ = some z) : W p l e R s m args below meth c H locs 0 0 (MQ below (qG D dA base (some (.int z.1)) z.2) args s 0 0 (fun q => base ≤ q)) (F0 m 16 ls []) := by
  unfold S_X9_deliver_16 at h
  refine lv_iconst (v := (-1 : Int32)) X.1 X.2.1 dX9_deliver_16 (by decide) ?_
  cases h
  exact q_iret X hret hlk hh hS dX9_deliver_17
theorem ke_X9_deliver_56 {z : Int32 × hp} {σ : hp} (h : S_X9_deliver_56 σ = some z) : eq4 σ z.2 := by
  unfold S_X9_deliver_56 at h
  cases h
  show eq4 σ σ
  exact eq4.rf _
set_option maxHeartbeats 4000000 in
set_option maxRecDepth 100000 in
theorem K_X9_deliver_56 {p : Program} {l : Launch} {e : Env} {R : Room} {s : State} {m : MethodId} {args : Array Value} {below : List Frame} {meth : Method} {c : Code} {D : va_G} {dA : Nat → ClassId} {base : Nat} {z : Int32 × hp} (X : cx p s m args c cX9_deliver RX9 3 D dA) (hret : meth.sig.returnType = some .int) (hlk : meth.locks = false) (hR : 11 ≤ R.frames ∧ 253 ≤ R.locals) {σ : hp} {H : Heap} {locs : List Loc} {ls : Array Slot} (hh : hw D dA base σ H) (hS : hs base s.heap H locs) (hl : lk ls 3 []) (h : S_X9_deliver_56 σ = some z) : W p l e R s m args below meth c H locs 0 0 (MQ below (qG D dA base (some (.int z.1)) z.2) args s 0 0 (fun q => base ≤ q)) (F0 m 56 ls []) := by
  unfold S_X9_deliver_56 at h
  refine lv_iconst (v := (0 : Int32)) X.1 X.2.1 dX9_deliver_56 (by decide) ?_
  cases h
  exact q_iret X hret hlk hh hS dX9_deliver_57
theorem ke_X9_deliver_92 {z : Int32 × hp} {σ : hp} {t0 : Nat} {v2 : Int32} {w0 : Option Nat} {w1 : Int32} {w2 : Int32} (h : S_X9_deliver_92 σ t0 v2 w0 w1 w2 = some z) : eq4 σ z.2 := by
  unfold S_X9_deliver_92 at h
  obtain ⟨s92, e_s92, h⟩ := o_b h
  obtain ⟨b95, e_b95, h⟩ := o_b h
  obtain ⟨q95, e_q95, h⟩ := o_b h
  cases h
  show eq4 σ q95
  exact ((e_stI e_s92)).tr (ke_X9_come_0 e_q95)
set_option maxHeartbeats 4000000 in
set_option maxRecDepth 100000 in
theorem K_X9_deliver_92 {p : Program} {l : Launch} {e : Env} {R : Room} {s : State} {m : MethodId} {args : Array Value} {below : List Frame} {meth : Method} {c : Code} {D : va_G} {dA : Nat → ClassId} {base : Nat} {z : Int32 × hp} (X : cx p s m args c cX9_deliver RX9 3 D dA) (hret : meth.sig.returnType = some .int) (hlk : meth.locks = false) (hR : 11 ≤ R.frames ∧ 253 ≤ R.locals) {σ : hp} {t0 : Nat} {v2 : Int32} {w0 : Option Nat} {w1 : Int32} {w2 : Int32} {H : Heap} {locs : List Loc} {ls : Array Slot} (hh : hw D dA base σ H) (hS : hs base s.heap H locs) (hl : lk ls 3 [(0, .inr (some t0)), (2, .inl v2)]) (h : S_X9_deliver_92 σ t0 v2 w0 w1 w2 = some z) : W p l e R s m args below meth c H locs 0 0 (MQ below (qG D dA base (some (.int z.1)) z.2) args s 0 0 (fun q => base ≤ q)) (F0 m 92 ls [.int w2, .int w1, va_rf w0]) := by
  unfold S_X9_deliver_92 at h
  obtain ⟨s92, e_s92, h⟩ := o_b h
  refine q_stI X hh hS e_s92 dX9_deliver_92 (fun H locs hh hS => ?_)
  refine q_aload_n X dX9_deliver_93 rfl hl 0 rfl ?_
  refine q_iload_n X dX9_deliver_94 rfl hl 1 rfl ?_
  obtain ⟨b95, e_b95, h⟩ := o_b h
  obtain ⟨q95, e_q95, h⟩ := o_b h
  refine q_cV (As := [.int v2]) X hh hS hl cf_X9_205 (cN := 9) rfl rfl e_b95 rfl (M_X9_come l D dA base s92 b95 v2 e_q95) ⟨Nat.le_trans (by decide) hR.1, Nat.le_trans (by decide) hR.2⟩ (cat8 [] (Nat.le_of_ble_eq_true rfl)) dX9_deliver_95 ⟨Nat.zero_le _, Nat.zero_le _⟩ rfl rfl (fun H locs hh hS => ?_)
  refine lv_iconst (v := (1 : Int32)) X.1 X.2.1 dX9_deliver_98 (by decide) ?_
  cases h
  exact q_iret X hret hlk hh hS dX9_deliver_99
theorem ke_X9_deliver_86 {z : Int32 × hp} {σ : hp} {t0 : Nat} {v2 : Int32} {w0 : Option Nat} {w1 : Int32} (h : S_X9_deliver_86 σ t0 v2 w0 w1 = some z) : eq4 σ z.2 := by
  unfold S_X9_deliver_86 at h
  obtain ⟨t87, e_t87, h⟩ := o_b h
  obtain ⟨t91, e_t91, h⟩ := o_b h
  exact (ke_X9_deliver_92 h)
set_option maxHeartbeats 4000000 in
set_option maxRecDepth 100000 in
theorem K_X9_deliver_86 {p : Program} {l : Launch} {e : Env} {R : Room} {s : State} {m : MethodId} {args : Array Value} {below : List Frame} {meth : Method} {c : Code} {D : va_G} {dA : Nat → ClassId} {base : Nat} {z : Int32 × hp} (X : cx p s m args c cX9_deliver RX9 3 D dA) (hret : meth.sig.returnType = some .int) (hlk : meth.locks = false) (hR : 11 ≤ R.frames ∧ 253 ≤ R.locals) {σ : hp} {t0 : Nat} {v2 : Int32} {w0 : Option Nat} {w1 : Int32} {H : Heap} {locs : List Loc} {ls : Array Slot} (hh : hw D dA base σ H) (hS : hs base s.heap H locs) (hl : lk ls 3 [(0, .inr (some t0)), (2, .inl v2)]) (h : S_X9_deliver_86 σ t0 v2 w0 w1 = some z) : W p l e R s m args below meth c H locs 0 0 (MQ below (qG D dA base (some (.int z.1)) z.2) args s 0 0 (fun q => base ≤ q)) (F0 m 86 ls [.int w1, va_rf w0]) := by
  unfold S_X9_deliver_86 at h
  refine q_aload_n X dX9_deliver_86 rfl hl 0 rfl ?_
  obtain ⟨t87, e_t87, h⟩ := o_b h
  refine q_gR X hh fa_X9_105 rfl e_t87 dX9_deliver_87 ?_
  refine q_iload_n X dX9_deliver_90 rfl hl 1 rfl ?_
  obtain ⟨t91, e_t91, h⟩ := o_b h
  refine q_ldI X hh e_t91 dX9_deliver_91 ?_
  exact K_X9_deliver_92 X hret hlk hR hh hS (lk_sub hl [0, 1] rfl) h
theorem ke_X9_deliver_0 {z : Int32 × hp} {σ : hp} {t0 : Nat} {v1 : Int32} (h : S_X9_deliver σ t0 v1 = some z) : eq4 σ z.2 := by
  unfold S_X9_deliver at h
  obtain ⟨q1, e_q1, h⟩ := o_b h
  by_cases c4 : q1 = (0 : Int32)
  · rw [if_pos c4] at h
    exact (ke_X9_deliver_16 h)
  · rw [if_neg c4] at h
    obtain ⟨t8, e_t8, h⟩ := o_b h
    obtain ⟨t12, e_t12, h⟩ := o_b h
    by_cases c13 : t12 = (0 : Int32)
    · rw [if_pos c13] at h
      exact (ke_X9_deliver_16 h)
    · rw [if_neg c13] at h
      obtain ⟨b24, e_b24, h⟩ := o_b h
      obtain ⟨q24, e_q24, h⟩ := o_b h
      obtain ⟨b28, e_b28, h⟩ := o_b h
      obtain ⟨q28, e_q28, h⟩ := o_b h
      by_cases c31 : q28 = (0 : Int32)
      · rw [if_pos c31] at h
        obtain ⟨t35, e_t35, h⟩ := o_b h
        obtain ⟨t39, e_t39, h⟩ := o_b h
        by_cases c41 : t39 = (2 : Int32)
        · rw [if_pos c41] at h
          obtain ⟨t48, e_t48, h⟩ := o_b h
          obtain ⟨t52, e_t52, h⟩ := o_b h
          obtain ⟨b53, e_b53, h⟩ := o_b h
          obtain ⟨q53, e_q53, h⟩ := o_b h
          exact (((ke_X9_takeFirst_0 e_q24)).tr (ke_X9_control_0 e_q53)).tr (ke_X9_deliver_56 h)
        · rw [if_neg c41] at h
          exact ((ke_X9_takeFirst_0 e_q24)).tr (ke_X9_deliver_56 h)
      · rw [if_neg c31] at h
        obtain ⟨t59, e_t59, h⟩ := o_b h
        obtain ⟨t64, e_t64, h⟩ := o_b h
        obtain ⟨t68, e_t68, h⟩ := o_b h
        by_cases c70 : t68 = (2 : Int32)
        · rw [if_pos c70] at h
          obtain ⟨t74, e_t74, h⟩ := o_b h
          obtain ⟨t78, e_t78, h⟩ := o_b h
          by_cases c79 : t78 = (0 : Int32)
          · rw [if_pos c79] at h
            exact ((ke_X9_takeFirst_0 e_q24)).tr (ke_X9_deliver_92 h)
          · rw [if_neg c79] at h
            exact ((ke_X9_takeFirst_0 e_q24)).tr (ke_X9_deliver_86 h)
        · rw [if_neg c70] at h
          exact ((ke_X9_takeFirst_0 e_q24)).tr (ke_X9_deliver_86 h)
set_option maxHeartbeats 4000000 in
set_option maxRecDepth 100000 in
theorem K_X9_deliver_0 {p : Program} {l : Launch} {e : Env} {R : Room} {s : State} {m : MethodId} {args : Array Value} {below : List Frame} {meth : Method} {c : Code} {D : va_G} {dA : Nat → ClassId} {base : Nat} {z : Int32 × hp} (X : cx p s m args c cX9_deliver RX9 3 D dA) (hret : meth.sig.returnType = some .int) (hlk : meth.locks = false) (hR : 11 ≤ R.frames ∧ 253 ≤ R.locals) {σ : hp} {t0 : Nat} {v1 : Int32} {H : Heap} {locs : List Loc} {ls : Array Slot} (hh : hw D dA base σ H) (hS : hs base s.heap H locs) (hl : lk ls 3 [(0, .inr (some t0)), (1, .inl v1)]) (h : S_X9_deliver σ t0 v1 = some z) : W p l e R s m args below meth c H locs 0 0 (MQ below (qG D dA base (some (.int z.1)) z.2) args s 0 0 (fun q => base ≤ q)) (F0 m 0 ls []) := by
  unfold S_X9_deliver at h
  refine q_iload_n X dX9_deliver_0 rfl hl 1 rfl ?_
  obtain ⟨q1, e_q1, h⟩ := o_b h
  refine q_cS (As := [.int v1]) X hh hS hl cf_X9_121 rfl (M_X9_isSite l D dA base σ v1 e_q1) ⟨Nat.le_trans (by decide) hR.1, Nat.le_trans (by decide) hR.2⟩ (cat8 [] (Nat.le_of_ble_eq_true rfl)) dX9_deliver_1 ⟨Nat.zero_le _, Nat.zero_le _⟩ rfl rfl (fun H locs hh hS => ?_)
  refine lv_if_eq (tgt := 16) X.1 X.2.1 dX9_deliver_4 (by decide) (fun c4 => ?_) (fun c4 => ?_)
  · rw [if_pos c4] at h
    exact K_X9_deliver_16 X hret hlk hR hh hS (lk_sub hl [] rfl) h
  · rw [if_neg c4] at h
    refine q_aload_n X dX9_deliver_7 rfl hl 0 rfl ?_
    obtain ⟨t8, e_t8, h⟩ := o_b h
    refine q_gR X hh fa_X9_44 rfl e_t8 dX9_deliver_8 ?_
    refine q_iload_n X dX9_deliver_11 rfl hl 1 rfl ?_
    obtain ⟨t12, e_t12, h⟩ := o_b h
    refine q_ldI X hh e_t12 dX9_deliver_12 ?_
    refine lv_if_ne (tgt := 18) X.1 X.2.1 dX9_deliver_13 (by decide) (fun c13 => ?_) (fun c13 => ?_)
    · rw [if_neg c13] at h
      refine lv_iconst (v := (1 : Int32)) X.1 X.2.1 dX9_deliver_18 (by decide) ?_
      refine q_iload_n X dX9_deliver_19 rfl hl 1 rfl ?_
      refine lv_isub X.1 X.2.1 dX9_deliver_20 ?_
      refine q_istore_n (lv' := [(2, .inl ((1 : Int32) - v1)), (0, .inr (some t0)), (1, .inl v1)]) X dX9_deliver_21 rfl hl (by decide) rfl (fun ls hl => ?_)
      refine q_aload_n X dX9_deliver_22 rfl hl 1 rfl ?_
      refine q_iload_n X dX9_deliver_23 rfl hl 2 rfl ?_
      obtain ⟨b24, e_b24, h⟩ := o_b h
      obtain ⟨q24, e_q24, h⟩ := o_b h
      refine q_cV (As := [.int v1]) X hh hS hl cf_X9_198 (cN := 9) rfl rfl e_b24 rfl (M_X9_takeFirst l D dA base σ b24 v1 e_q24) ⟨Nat.le_trans (by decide) hR.1, Nat.le_trans (by decide) hR.2⟩ (cat8 [] (Nat.le_of_ble_eq_true rfl)) dX9_deliver_24 ⟨Nat.zero_le _, Nat.zero_le _⟩ rfl rfl (fun H locs hh hS => ?_)
      refine q_aload_n X dX9_deliver_27 rfl hl 1 rfl ?_
      obtain ⟨b28, e_b28, h⟩ := o_b h
      obtain ⟨q28, e_q28, h⟩ := o_b h
      refine q_cV (As := []) X hh hS hl cf_X9_201 (cN := 9) rfl rfl e_b28 rfl (M_X9_isGood l D dA base q24 b28  e_q28) ⟨Nat.le_trans (by decide) hR.1, Nat.le_trans (by decide) hR.2⟩ (cat8 [] (Nat.le_of_ble_eq_true rfl)) dX9_deliver_28 ⟨Nat.zero_le _, Nat.zero_le _⟩ rfl rfl (fun H locs hh hS => ?_)
      refine lv_if_ne (tgt := 58) X.1 X.2.1 dX9_deliver_31 (by decide) (fun c31 => ?_) (fun c31 => ?_)
      · rw [if_neg c31] at h
        refine q_aload_n X dX9_deliver_58 rfl hl 1 rfl ?_
        obtain ⟨t59, e_t59, h⟩ := o_b h
        refine q_gR X hh fa_X9_105 rfl e_t59 dX9_deliver_59 ?_
        refine q_iload_n X dX9_deliver_62 rfl hl 0 rfl ?_
        refine q_aload_n X dX9_deliver_63 rfl hl 1 rfl ?_
        obtain ⟨t64, e_t64, h⟩ := o_b h
        refine q_gR X hh fa_X9_56 rfl e_t64 dX9_deliver_64 ?_
        refine q_iload_n X dX9_deliver_67 rfl hl 0 rfl ?_
        obtain ⟨t68, e_t68, h⟩ := o_b h
        refine q_ldI X hh e_t68 dX9_deliver_68 ?_
        refine lv_iconst (v := (2 : Int32)) X.1 X.2.1 dX9_deliver_69 (by decide) ?_
        refine lv_icmp_ne (tgt := 86) X.1 X.2.1 dX9_deliver_70 (by decide) (fun c70 => ?_) (fun c70 => ?_)
        · rw [if_neg c70] at h
          exact K_X9_deliver_86 X hret hlk hR hh hS (lk_sub hl [1, 0] rfl) h
        · rw [if_pos c70] at h
          refine q_aload_n X dX9_deliver_73 rfl hl 1 rfl ?_
          obtain ⟨t74, e_t74, h⟩ := o_b h
          refine q_gR X hh fa_X9_75 rfl e_t74 dX9_deliver_74 ?_
          refine q_iload_n X dX9_deliver_77 rfl hl 0 rfl ?_
          obtain ⟨t78, e_t78, h⟩ := o_b h
          refine q_ldI X hh e_t78 dX9_deliver_78 ?_
          refine lv_if_ne (tgt := 86) X.1 X.2.1 dX9_deliver_79 (by decide) (fun c79 => ?_) (fun c79 => ?_)
          · rw [if_neg c79] at h
            exact K_X9_deliver_86 X hret hlk hR hh hS (lk_sub hl [1, 0] rfl) h
          · rw [if_pos c79] at h
            refine lv_iconst (v := (0 : Int32)) X.1 X.2.1 dX9_deliver_82 (by decide) ?_
            refine lv_goto (tgt := 92) X.1 X.2.1 dX9_deliver_83 (by decide) ?_
            exact K_X9_deliver_92 X hret hlk hR hh hS (lk_sub hl [1, 0] rfl) h
      · rw [if_pos c31] at h
        refine q_aload_n X dX9_deliver_34 rfl hl 1 rfl ?_
        obtain ⟨t35, e_t35, h⟩ := o_b h
        refine q_gR X hh fa_X9_56 rfl e_t35 dX9_deliver_35 ?_
        refine q_iload_n X dX9_deliver_38 rfl hl 0 rfl ?_
        obtain ⟨t39, e_t39, h⟩ := o_b h
        refine q_ldI X hh e_t39 dX9_deliver_39 ?_
        refine lv_iconst (v := (2 : Int32)) X.1 X.2.1 dX9_deliver_40 (by decide) ?_
        refine lv_icmp_ne (tgt := 56) X.1 X.2.1 dX9_deliver_41 (by decide) (fun c41 => ?_) (fun c41 => ?_)
        · rw [if_neg c41] at h
          exact K_X9_deliver_56 X hret hlk hR hh hS (lk_sub hl [] rfl) h
        · rw [if_pos c41] at h
          refine q_aload_n X dX9_deliver_44 rfl hl 1 rfl ?_
          refine q_iload_n X dX9_deliver_45 rfl hl 0 rfl ?_
          refine lv_iconst (v := (2 : Int32)) X.1 X.2.1 dX9_deliver_46 (by decide) ?_
          refine q_aload_n X dX9_deliver_47 rfl hl 1 rfl ?_
          obtain ⟨t48, e_t48, h⟩ := o_b h
          refine q_gR X hh fa_X9_69 rfl e_t48 dX9_deliver_48 ?_
          refine q_iload_n X dX9_deliver_51 rfl hl 0 rfl ?_
          obtain ⟨t52, e_t52, h⟩ := o_b h
          refine q_ldI X hh e_t52 dX9_deliver_52 ?_
          obtain ⟨b53, e_b53, h⟩ := o_b h
          obtain ⟨q53, e_q53, h⟩ := o_b h
          refine q_cV (As := [.int ((1 : Int32) - v1), .int (2 : Int32), .int t52]) X hh hS hl cf_X9_172 (cN := 9) rfl rfl e_b53 rfl (M_X9_control l D dA base q24 b53 ((1 : Int32) - v1) (2 : Int32) t52 e_q53) ⟨Nat.le_trans (by decide) hR.1, Nat.le_trans (by decide) hR.2⟩ (cat8 [] (Nat.le_of_ble_eq_true rfl)) dX9_deliver_53 ⟨Nat.zero_le _, Nat.zero_le _⟩ rfl rfl (fun H locs hh hS => ?_)
          exact K_X9_deliver_56 X hret hlk hR hh hS (lk_sub hl [] rfl) h
    · rw [if_pos c13] at h
      exact K_X9_deliver_16 X hret hlk hR hh hS (lk_sub hl [] rfl) h
set_option maxRecDepth 100000 in
theorem M_X9_deliver (l : Launch) (D : va_G) (dA : Nat → ClassId) (base : Nat) (σ : hp) (t0 : Nat) (v1 : Int32) {z : Int32 × hp} (h : S_X9_deliver σ t0 v1 = some z) : mt l yX9_deliver cX9_deliver 3 (some .int) 11 253 D dA base σ [.ref t0, .int v1] (some (.int z.1)) z.2 0 0 := by
  refine Met.ofW (cc := cX9_deliver) (maxL := 3) (ret := some .int) (by decide) rfl ?_
  intro p e s m args below meth c s₁ B hml hv
  obtain ⟨rfl, hh, hK⟩ := hv
  have X : cx p s m ([.ref t0, .int v1] : List Value).toArray c cX9_deliver RX9 3 D dA := ⟨B.exec, B.bytes, findClass_of_methodNamed B.named, hml, fun w hw => atoms_spec (ws := .code yX9_deliver cX9_deliver 3 (some .int) :: G) B.pre w (List.mem_cons_of_mem _ hw), hK⟩
  have hl := lk_entry [.inr (some t0), .inl v1] (n := 3) (Nat.le_of_ble_eq_true rfl)
  rw [lg_entry_eq]
  have hl : lk ((lg_sl ([.ref t0, .int v1] : List Value) ++ List.replicate (3 - (lg_sl ([.ref t0, .int v1] : List Value)).length) Slot.unset).toArray) 3 [(0, .inr (some t0)), (1, .inl v1)] := hl
  generalize (lg_sl ([.ref t0, .int v1] : List Value) ++ List.replicate (3 - (lg_sl ([.ref t0, .int v1] : List Value)).length) Slot.unset).toArray = ls at hl ⊢
  exact K_X9_deliver_0 X B.returns B.notSynchronized ⟨Nat.le_refl _, Nat.le_refl _⟩ hh va_S.rf hl h
theorem ke_X9_lose_16 {z : Int32 × hp} {σ : hp} (h : S_X9_lose_16 σ = some z) : eq4 σ z.2 := by
  unfold S_X9_lose_16 at h
  cases h
  show eq4 σ σ
  exact eq4.rf _
set_option maxHeartbeats 4000000 in
set_option maxRecDepth 100000 in
theorem K_X9_lose_16 {p : Program} {l : Launch} {e : Env} {R : Room} {s : State} {m : MethodId} {args : Array Value} {below : List Frame} {meth : Method} {c : Code} {D : va_G} {dA : Nat → ClassId} {base : Nat} {z : Int32 × hp} (X : cx p s m args c cX9_lose RX9 2 D dA) (hret : meth.sig.returnType = some .boolean) (hlk : meth.locks = false) (hR : 1 ≤ R.frames ∧ 23 ≤ R.locals) {σ : hp} {H : Heap} {locs : List Loc} {ls : Array Slot} (hh : hw D dA base σ H) (hS : hs base s.heap H locs) (hl : lk ls 2 []) (h : S_X9_lose_16 σ = some z) : W p l e R s m args below meth c H locs 0 0 (MQ below (qG D dA base (some (.int z.1)) z.2) args s 0 0 (fun q => base ≤ q)) (F0 m 16 ls []) := by
  unfold S_X9_lose_16 at h
  refine lv_iconst (v := (0 : Int32)) X.1 X.2.1 dX9_lose_16 (by decide) ?_
  cases h
  exact q_zret X hret hlk hh hS (by rfl) dX9_lose_17
theorem ke_X9_lose_0 {z : Int32 × hp} {σ : hp} {t0 : Nat} {v1 : Int32} (h : S_X9_lose σ t0 v1 = some z) : eq4 σ z.2 := by
  unfold S_X9_lose at h
  obtain ⟨q1, e_q1, h⟩ := o_b h
  by_cases c4 : q1 = (0 : Int32)
  · rw [if_pos c4] at h
    exact (ke_X9_lose_16 h)
  · rw [if_neg c4] at h
    obtain ⟨t8, e_t8, h⟩ := o_b h
    obtain ⟨t12, e_t12, h⟩ := o_b h
    by_cases c13 : t12 = (0 : Int32)
    · rw [if_pos c13] at h
      exact (ke_X9_lose_16 h)
    · rw [if_neg c13] at h
      obtain ⟨b20, e_b20, h⟩ := o_b h
      obtain ⟨q20, e_q20, h⟩ := o_b h
      cases h
      show eq4 σ q20
      exact (ke_X9_takeFirst_0 e_q20)
set_option maxHeartbeats 4000000 in
set_option maxRecDepth 100000 in
theorem K_X9_lose_0 {p : Program} {l : Launch} {e : Env} {R : Room} {s : State} {m : MethodId} {args : Array Value} {below : List Frame} {meth : Method} {c : Code} {D : va_G} {dA : Nat → ClassId} {base : Nat} {z : Int32 × hp} (X : cx p s m args c cX9_lose RX9 2 D dA) (hret : meth.sig.returnType = some .boolean) (hlk : meth.locks = false) (hR : 1 ≤ R.frames ∧ 23 ≤ R.locals) {σ : hp} {t0 : Nat} {v1 : Int32} {H : Heap} {locs : List Loc} {ls : Array Slot} (hh : hw D dA base σ H) (hS : hs base s.heap H locs) (hl : lk ls 2 [(0, .inr (some t0)), (1, .inl v1)]) (h : S_X9_lose σ t0 v1 = some z) : W p l e R s m args below meth c H locs 0 0 (MQ below (qG D dA base (some (.int z.1)) z.2) args s 0 0 (fun q => base ≤ q)) (F0 m 0 ls []) := by
  unfold S_X9_lose at h
  refine q_iload_n X dX9_lose_0 rfl hl 1 rfl ?_
  obtain ⟨q1, e_q1, h⟩ := o_b h
  refine q_cS (As := [.int v1]) X hh hS hl cf_X9_121 rfl (M_X9_isSite l D dA base σ v1 e_q1) ⟨Nat.le_trans (by decide) hR.1, Nat.le_trans (by decide) hR.2⟩ (cat8 [] (Nat.le_of_ble_eq_true rfl)) dX9_lose_1 ⟨Nat.zero_le _, Nat.zero_le _⟩ rfl rfl (fun H locs hh hS => ?_)
  refine lv_if_eq (tgt := 16) X.1 X.2.1 dX9_lose_4 (by decide) (fun c4 => ?_) (fun c4 => ?_)
  · rw [if_pos c4] at h
    exact K_X9_lose_16 X hret hlk hR hh hS (lk_sub hl [] rfl) h
  · rw [if_neg c4] at h
    refine q_aload_n X dX9_lose_7 rfl hl 0 rfl ?_
    obtain ⟨t8, e_t8, h⟩ := o_b h
    refine q_gR X hh fa_X9_44 rfl e_t8 dX9_lose_8 ?_
    refine q_iload_n X dX9_lose_11 rfl hl 1 rfl ?_
    obtain ⟨t12, e_t12, h⟩ := o_b h
    refine q_ldI X hh e_t12 dX9_lose_12 ?_
    refine lv_if_ne (tgt := 18) X.1 X.2.1 dX9_lose_13 (by decide) (fun c13 => ?_) (fun c13 => ?_)
    · rw [if_neg c13] at h
      refine q_aload_n X dX9_lose_18 rfl hl 0 rfl ?_
      refine q_iload_n X dX9_lose_19 rfl hl 1 rfl ?_
      obtain ⟨b20, e_b20, h⟩ := o_b h
      obtain ⟨q20, e_q20, h⟩ := o_b h
      refine q_cV (As := [.int v1]) X hh hS hl cf_X9_198 (cN := 9) rfl rfl e_b20 rfl (M_X9_takeFirst l D dA base σ b20 v1 e_q20) ⟨Nat.le_trans (by decide) hR.1, Nat.le_trans (by decide) hR.2⟩ (cat8 [] (Nat.le_of_ble_eq_true rfl)) dX9_lose_20 ⟨Nat.zero_le _, Nat.zero_le _⟩ rfl rfl (fun H locs hh hS => ?_)
      refine lv_iconst (v := (1 : Int32)) X.1 X.2.1 dX9_lose_23 (by decide) ?_
      cases h
      exact q_zret X hret hlk hh hS (by rfl) dX9_lose_24
    · rw [if_pos c13] at h
      exact K_X9_lose_16 X hret hlk hR hh hS (lk_sub hl [] rfl) h
set_option maxRecDepth 100000 in
theorem M_X9_lose (l : Launch) (D : va_G) (dA : Nat → ClassId) (base : Nat) (σ : hp) (t0 : Nat) (v1 : Int32) {z : Int32 × hp} (h : S_X9_lose σ t0 v1 = some z) : mt l yX9_lose cX9_lose 2 (some .boolean) 1 23 D dA base σ [.ref t0, .int v1] (some (.int z.1)) z.2 0 0 := by
  refine Met.ofW (cc := cX9_lose) (maxL := 2) (ret := some .boolean) (by decide) rfl ?_
  intro p e s m args below meth c s₁ B hml hv
  obtain ⟨rfl, hh, hK⟩ := hv
  have X : cx p s m ([.ref t0, .int v1] : List Value).toArray c cX9_lose RX9 2 D dA := ⟨B.exec, B.bytes, findClass_of_methodNamed B.named, hml, fun w hw => atoms_spec (ws := .code yX9_lose cX9_lose 2 (some .boolean) :: G) B.pre w (List.mem_cons_of_mem _ hw), hK⟩
  have hl := lk_entry [.inr (some t0), .inl v1] (n := 2) (Nat.le_of_ble_eq_true rfl)
  rw [lg_entry_eq]
  have hl : lk ((lg_sl ([.ref t0, .int v1] : List Value) ++ List.replicate (2 - (lg_sl ([.ref t0, .int v1] : List Value)).length) Slot.unset).toArray) 2 [(0, .inr (some t0)), (1, .inl v1)] := hl
  generalize (lg_sl ([.ref t0, .int v1] : List Value) ++ List.replicate (2 - (lg_sl ([.ref t0, .int v1] : List Value)).length) Slot.unset).toArray = ls at hl ⊢
  exact K_X9_lose_0 X B.returns B.notSynchronized ⟨Nat.le_refl _, Nat.le_refl _⟩ hh va_S.rf hl h
theorem ke_X9_alter_45 {z : Int32 × hp} {σ : hp} (h : S_X9_alter_45 σ = some z) : eq4 σ z.2 := by
  unfold S_X9_alter_45 at h
  cases h
  show eq4 σ σ
  exact eq4.rf _
set_option maxHeartbeats 4000000 in
set_option maxRecDepth 100000 in
theorem K_X9_alter_45 {p : Program} {l : Launch} {e : Env} {R : Room} {s : State} {m : MethodId} {args : Array Value} {below : List Frame} {meth : Method} {c : Code} {D : va_G} {dA : Nat → ClassId} {base : Nat} {z : Int32 × hp} (X : cx p s m args c cX9_alter RX9 4 D dA) (hret : meth.sig.returnType = some .boolean) (hlk : meth.locks = false) (hR : 1 ≤ R.frames ∧ 20 ≤ R.locals) {σ : hp} {H : Heap} {locs : List Loc} {ls : Array Slot} (hh : hw D dA base σ H) (hS : hs base s.heap H locs) (hl : lk ls 4 []) (h : S_X9_alter_45 σ = some z) : W p l e R s m args below meth c H locs 0 0 (MQ below (qG D dA base (some (.int z.1)) z.2) args s 0 0 (fun q => base ≤ q)) (F0 m 45 ls []) := by
  unfold S_X9_alter_45 at h
  refine lv_iconst (v := (0 : Int32)) X.1 X.2.1 dX9_alter_45 (by decide) ?_
  cases h
  exact q_zret X hret hlk hh hS (by rfl) dX9_alter_46
theorem ke_X9_alter_0 {z : Int32 × hp} {σ : hp} {t0 : Nat} {v1 : Int32} {v2 : Int32} {v3 : Int32} (h : S_X9_alter σ t0 v1 v2 v3 = some z) : eq4 σ z.2 := by
  unfold S_X9_alter at h
  obtain ⟨q1, e_q1, h⟩ := o_b h
  by_cases c4 : q1 = (0 : Int32)
  · rw [if_pos c4] at h
    exact (ke_X9_alter_45 h)
  · rw [if_neg c4] at h
    obtain ⟨t8, e_t8, h⟩ := o_b h
    obtain ⟨t12, e_t12, h⟩ := o_b h
    by_cases c13 : t12 = (0 : Int32)
    · rw [if_pos c13] at h
      exact (ke_X9_alter_45 h)
    · rw [if_neg c13] at h
      by_cases c17 : v2 < (0 : Int32)
      · rw [if_pos c17] at h
        exact (ke_X9_alter_45 h)
      · rw [if_neg c17] at h
        obtain ⟨t22, e_t22, h⟩ := o_b h
        obtain ⟨t29, e_t29, h⟩ := o_b h
        by_cases c30 : t29 ≤ v2
        · rw [if_pos c30] at h
          exact (ke_X9_alter_45 h)
        · rw [if_neg c30] at h
          by_cases c35 : v3 < (1 : Int32)
          · rw [if_pos c35] at h
            exact (ke_X9_alter_45 h)
          · rw [if_neg c35] at h
            by_cases c42 : v3 ≤ (255 : Int32)
            · rw [if_pos c42] at h
              obtain ⟨t48, e_t48, h⟩ := o_b h
              obtain ⟨t59, e_t59, h⟩ := o_b h
              obtain ⟨t69, e_t69, h⟩ := o_b h
              obtain ⟨s72, e_s72, h⟩ := o_b h
              cases h
              show eq4 σ s72
              exact (e_stI e_s72)
            · rw [if_neg c42] at h
              exact (ke_X9_alter_45 h)
set_option maxHeartbeats 4000000 in
set_option maxRecDepth 100000 in
theorem K_X9_alter_0 {p : Program} {l : Launch} {e : Env} {R : Room} {s : State} {m : MethodId} {args : Array Value} {below : List Frame} {meth : Method} {c : Code} {D : va_G} {dA : Nat → ClassId} {base : Nat} {z : Int32 × hp} (X : cx p s m args c cX9_alter RX9 4 D dA) (hret : meth.sig.returnType = some .boolean) (hlk : meth.locks = false) (hR : 1 ≤ R.frames ∧ 20 ≤ R.locals) {σ : hp} {t0 : Nat} {v1 : Int32} {v2 : Int32} {v3 : Int32} {H : Heap} {locs : List Loc} {ls : Array Slot} (hh : hw D dA base σ H) (hS : hs base s.heap H locs) (hl : lk ls 4 [(0, .inr (some t0)), (1, .inl v1), (2, .inl v2), (3, .inl v3)]) (h : S_X9_alter σ t0 v1 v2 v3 = some z) : W p l e R s m args below meth c H locs 0 0 (MQ below (qG D dA base (some (.int z.1)) z.2) args s 0 0 (fun q => base ≤ q)) (F0 m 0 ls []) := by
  unfold S_X9_alter at h
  refine q_iload_n X dX9_alter_0 rfl hl 1 rfl ?_
  obtain ⟨q1, e_q1, h⟩ := o_b h
  refine q_cS (As := [.int v1]) X hh hS hl cf_X9_121 rfl (M_X9_isSite l D dA base σ v1 e_q1) ⟨Nat.le_trans (by decide) hR.1, Nat.le_trans (by decide) hR.2⟩ (cat8 [] (Nat.le_of_ble_eq_true rfl)) dX9_alter_1 ⟨Nat.zero_le _, Nat.zero_le _⟩ rfl rfl (fun H locs hh hS => ?_)
  refine lv_if_eq (tgt := 45) X.1 X.2.1 dX9_alter_4 (by decide) (fun c4 => ?_) (fun c4 => ?_)
  · rw [if_pos c4] at h
    exact K_X9_alter_45 X hret hlk hR hh hS (lk_sub hl [] rfl) h
  · rw [if_neg c4] at h
    refine q_aload_n X dX9_alter_7 rfl hl 0 rfl ?_
    obtain ⟨t8, e_t8, h⟩ := o_b h
    refine q_gR X hh fa_X9_44 rfl e_t8 dX9_alter_8 ?_
    refine q_iload_n X dX9_alter_11 rfl hl 1 rfl ?_
    obtain ⟨t12, e_t12, h⟩ := o_b h
    refine q_ldI X hh e_t12 dX9_alter_12 ?_
    refine lv_if_eq (tgt := 45) X.1 X.2.1 dX9_alter_13 (by decide) (fun c13 => ?_) (fun c13 => ?_)
    · rw [if_pos c13] at h
      exact K_X9_alter_45 X hret hlk hR hh hS (lk_sub hl [] rfl) h
    · rw [if_neg c13] at h
      refine q_iload_n X dX9_alter_16 rfl hl 2 rfl ?_
      refine lv_if_lt (tgt := 45) X.1 X.2.1 dX9_alter_17 (by decide) (fun c17 => ?_) (fun c17 => ?_)
      · rw [if_pos c17] at h
        exact K_X9_alter_45 X hret hlk hR hh hS (lk_sub hl [] rfl) h
      · rw [if_neg c17] at h
        refine q_iload_n X dX9_alter_20 rfl hl 2 rfl ?_
        refine q_aload_n X dX9_alter_21 rfl hl 0 rfl ?_
        obtain ⟨t22, e_t22, h⟩ := o_b h
        refine q_gR X hh fa_X9_50 rfl e_t22 dX9_alter_22 ?_
        refine lv_bipush (v := (12 : Int32)) X.1 X.2.1 dX9_alter_25 (by decide) ?_
        refine q_iload_n X dX9_alter_27 rfl hl 1 rfl ?_
        refine lv_imul X.1 X.2.1 dX9_alter_28 ?_
        obtain ⟨t29, e_t29, h⟩ := o_b h
        refine q_ldI X hh e_t29 dX9_alter_29 ?_
        refine lv_icmp_ge (tgt := 45) X.1 X.2.1 dX9_alter_30 (by decide) (fun c30 => ?_) (fun c30 => ?_)
        · rw [if_pos c30] at h
          exact K_X9_alter_45 X hret hlk hR hh hS (lk_sub hl [] rfl) h
        · rw [if_neg c30] at h
          refine q_iload_n X dX9_alter_33 rfl hl 3 rfl ?_
          refine lv_iconst (v := (1 : Int32)) X.1 X.2.1 dX9_alter_34 (by decide) ?_
          refine lv_icmp_lt (tgt := 45) X.1 X.2.1 dX9_alter_35 (by decide) (fun c35 => ?_) (fun c35 => ?_)
          · rw [if_pos c35] at h
            exact K_X9_alter_45 X hret hlk hR hh hS (lk_sub hl [] rfl) h
          · rw [if_neg c35] at h
            refine q_iload_n X dX9_alter_38 rfl hl 3 rfl ?_
            refine lv_sipush (v := (255 : Int32)) X.1 X.2.1 dX9_alter_39 (by decide) ?_
            refine lv_icmp_le (tgt := 47) X.1 X.2.1 dX9_alter_42 (by decide) (fun c42 => ?_) (fun c42 => ?_)
            · rw [if_pos c42] at h
              refine q_aload_n X dX9_alter_47 rfl hl 0 rfl ?_
              obtain ⟨t48, e_t48, h⟩ := o_b h
              refine q_gR X hh fa_X9_47 rfl e_t48 dX9_alter_48 ?_
              refine lv_sipush (v := (456 : Int32)) X.1 X.2.1 dX9_alter_51 (by decide) ?_
              refine q_iload_n X dX9_alter_54 rfl hl 1 rfl ?_
              refine lv_imul X.1 X.2.1 dX9_alter_55 ?_
              refine q_iload_n X dX9_alter_56 rfl hl 2 rfl ?_
              refine lv_iadd X.1 X.2.1 dX9_alter_57 ?_
              refine q_aload_n X dX9_alter_58 rfl hl 0 rfl ?_
              obtain ⟨t59, e_t59, h⟩ := o_b h
              refine q_gR X hh fa_X9_47 rfl e_t59 dX9_alter_59 ?_
              refine lv_sipush (v := (456 : Int32)) X.1 X.2.1 dX9_alter_62 (by decide) ?_
              refine q_iload_n X dX9_alter_65 rfl hl 1 rfl ?_
              refine lv_imul X.1 X.2.1 dX9_alter_66 ?_
              refine q_iload_n X dX9_alter_67 rfl hl 2 rfl ?_
              refine lv_iadd X.1 X.2.1 dX9_alter_68 ?_
              obtain ⟨t69, e_t69, h⟩ := o_b h
              refine q_ldI X hh e_t69 dX9_alter_69 ?_
              refine q_iload_n X dX9_alter_70 rfl hl 3 rfl ?_
              refine lv_ixor X.1 X.2.1 dX9_alter_71 ?_
              obtain ⟨s72, e_s72, h⟩ := o_b h
              refine q_stI X hh hS e_s72 dX9_alter_72 (fun H locs hh hS => ?_)
              refine lv_iconst (v := (1 : Int32)) X.1 X.2.1 dX9_alter_73 (by decide) ?_
              cases h
              exact q_zret X hret hlk hh hS (by rfl) dX9_alter_74
            · rw [if_neg c42] at h
              exact K_X9_alter_45 X hret hlk hR hh hS (lk_sub hl [] rfl) h
set_option maxRecDepth 100000 in
theorem M_X9_alter (l : Launch) (D : va_G) (dA : Nat → ClassId) (base : Nat) (σ : hp) (t0 : Nat) (v1 : Int32) (v2 : Int32) (v3 : Int32) {z : Int32 × hp} (h : S_X9_alter σ t0 v1 v2 v3 = some z) : mt l yX9_alter cX9_alter 4 (some .boolean) 1 20 D dA base σ [.ref t0, .int v1, .int v2, .int v3] (some (.int z.1)) z.2 0 0 := by
  refine Met.ofW (cc := cX9_alter) (maxL := 4) (ret := some .boolean) (by decide) rfl ?_
  intro p e s m args below meth c s₁ B hml hv
  obtain ⟨rfl, hh, hK⟩ := hv
  have X : cx p s m ([.ref t0, .int v1, .int v2, .int v3] : List Value).toArray c cX9_alter RX9 4 D dA := ⟨B.exec, B.bytes, findClass_of_methodNamed B.named, hml, fun w hw => atoms_spec (ws := .code yX9_alter cX9_alter 4 (some .boolean) :: G) B.pre w (List.mem_cons_of_mem _ hw), hK⟩
  have hl := lk_entry [.inr (some t0), .inl v1, .inl v2, .inl v3] (n := 4) (Nat.le_of_ble_eq_true rfl)
  rw [lg_entry_eq]
  have hl : lk ((lg_sl ([.ref t0, .int v1, .int v2, .int v3] : List Value) ++ List.replicate (4 - (lg_sl ([.ref t0, .int v1, .int v2, .int v3] : List Value)).length) Slot.unset).toArray) 4 [(0, .inr (some t0)), (1, .inl v1), (2, .inl v2), (3, .inl v3)] := hl
  generalize (lg_sl ([.ref t0, .int v1, .int v2, .int v3] : List Value) ++ List.replicate (4 - (lg_sl ([.ref t0, .int v1, .int v2, .int v3] : List Value)).length) Slot.unset).toArray = ls at hl ⊢
  exact K_X9_alter_0 X B.returns B.notSynchronized ⟨Nat.le_refl _, Nat.le_refl _⟩ hh va_S.rf hl h
theorem ke_X9_tickOf_57 {z : Int32 × hp} {σ : hp} (h : S_X9_tickOf_57 σ = some z) : eq4 σ z.2 := by
  unfold S_X9_tickOf_57 at h
  cases h
  show eq4 σ σ
  exact eq4.rf _
set_option maxHeartbeats 4000000 in
set_option maxRecDepth 100000 in
theorem K_X9_tickOf_57 {p : Program} {l : Launch} {e : Env} {R : Room} {s : State} {m : MethodId} {args : Array Value} {below : List Frame} {meth : Method} {c : Code} {D : va_G} {dA : Nat → ClassId} {base : Nat} {z : Int32 × hp} (X : cx p s m args c cX9_tickOf RX9 2 D dA) (hret : meth.sig.returnType = some .int) (hlk : meth.locks = false) (hR : 5 ≤ R.frames ∧ 113 ≤ R.locals) {σ : hp} {H : Heap} {locs : List Loc} {ls : Array Slot} (hh : hw D dA base σ H) (hS : hs base s.heap H locs) (hl : lk ls 2 []) (h : S_X9_tickOf_57 σ = some z) : W p l e R s m args below meth c H locs 0 0 (MQ below (qG D dA base (some (.int z.1)) z.2) args s 0 0 (fun q => base ≤ q)) (F0 m 57 ls []) := by
  unfold S_X9_tickOf_57 at h
  refine lv_iconst (v := (0 : Int32)) X.1 X.2.1 dX9_tickOf_57 (by decide) ?_
  cases h
  exact q_iret X hret hlk hh hS dX9_tickOf_58
theorem ke_X9_tickOf_59 {z : Int32 × hp} {σ : hp} {t0 : Nat} {v1 : Int32} (h : S_X9_tickOf_59 σ t0 v1 = some z) : eq4 σ z.2 := by
  unfold S_X9_tickOf_59 at h
  obtain ⟨t60, e_t60, h⟩ := o_b h
  obtain ⟨t64, e_t64, h⟩ := o_b h
  by_cases c66 : (4 : Int32) ≤ t64
  · rw [if_pos c66] at h
    obtain ⟨t72, e_t72, h⟩ := o_b h
    obtain ⟨t76, e_t76, h⟩ := o_b h
    by_cases c78 : t76 = (5 : Int32)
    · rw [if_pos c78] at h
      obtain ⟨b84, e_b84, h⟩ := o_b h
      obtain ⟨q84, e_q84, h⟩ := o_b h
      cases h
      show eq4 σ q84
      exact (ke_X9_forget_0 e_q84)
    · rw [if_neg c78] at h
      obtain ⟨t90, e_t90, h⟩ := o_b h
      obtain ⟨t95, e_t95, h⟩ := o_b h
      obtain ⟨s98, e_s98, h⟩ := o_b h
      obtain ⟨t100, e_t100, h⟩ := o_b h
      obtain ⟨s105, e_s105, h⟩ := o_b h
      obtain ⟨t107, e_t107, h⟩ := o_b h
      obtain ⟨t111, e_t111, h⟩ := o_b h
      by_cases c113 : t111 = (1 : Int32)
      · rw [if_pos c113] at h
        obtain ⟨t121, e_t121, h⟩ := o_b h
        obtain ⟨t125, e_t125, h⟩ := o_b h
        obtain ⟨b131, e_b131, h⟩ := o_b h
        obtain ⟨q131, e_q131, h⟩ := o_b h
        cases h
        show eq4 σ q131
        exact (((e_stI e_s98)).tr (e_stI e_s105)).tr (ke_X9_control_0 e_q131)
      · rw [if_neg c113] at h
        obtain ⟨b138, e_b138, h⟩ := o_b h
        obtain ⟨q138, e_q138, h⟩ := o_b h
        obtain ⟨t142, e_t142, h⟩ := o_b h
        obtain ⟨t146, e_t146, h⟩ := o_b h
        cases h
        show eq4 σ q138
        exact (((e_stI e_s98)).tr (e_stI e_s105)).tr (ke_X9_sendAgain_0 e_q138)
  · rw [if_neg c66] at h
    cases h
    show eq4 σ σ
    exact eq4.rf _
set_option maxHeartbeats 4000000 in
set_option maxRecDepth 100000 in
theorem K_X9_tickOf_59 {p : Program} {l : Launch} {e : Env} {R : Room} {s : State} {m : MethodId} {args : Array Value} {below : List Frame} {meth : Method} {c : Code} {D : va_G} {dA : Nat → ClassId} {base : Nat} {z : Int32 × hp} (X : cx p s m args c cX9_tickOf RX9 2 D dA) (hret : meth.sig.returnType = some .int) (hlk : meth.locks = false) (hR : 5 ≤ R.frames ∧ 113 ≤ R.locals) {σ : hp} {t0 : Nat} {v1 : Int32} {H : Heap} {locs : List Loc} {ls : Array Slot} (hh : hw D dA base σ H) (hS : hs base s.heap H locs) (hl : lk ls 2 [(0, .inr (some t0)), (1, .inl v1)]) (h : S_X9_tickOf_59 σ t0 v1 = some z) : W p l e R s m args below meth c H locs 0 0 (MQ below (qG D dA base (some (.int z.1)) z.2) args s 0 0 (fun q => base ≤ q)) (F0 m 59 ls []) := by
  unfold S_X9_tickOf_59 at h
  refine q_aload_n X dX9_tickOf_59 rfl hl 0 rfl ?_
  obtain ⟨t60, e_t60, h⟩ := o_b h
  refine q_gR X hh fa_X9_105 rfl e_t60 dX9_tickOf_60 ?_
  refine q_iload_n X dX9_tickOf_63 rfl hl 1 rfl ?_
  obtain ⟨t64, e_t64, h⟩ := o_b h
  refine q_ldI X hh e_t64 dX9_tickOf_64 ?_
  refine lv_iconst (v := (4 : Int32)) X.1 X.2.1 dX9_tickOf_65 (by decide) ?_
  refine lv_icmp_ge (tgt := 71) X.1 X.2.1 dX9_tickOf_66 (by decide) (fun c66 => ?_) (fun c66 => ?_)
  · rw [if_pos c66] at h
    refine q_aload_n X dX9_tickOf_71 rfl hl 0 rfl ?_
    obtain ⟨t72, e_t72, h⟩ := o_b h
    refine q_gR X hh fa_X9_108 rfl e_t72 dX9_tickOf_72 ?_
    refine q_iload_n X dX9_tickOf_75 rfl hl 1 rfl ?_
    obtain ⟨t76, e_t76, h⟩ := o_b h
    refine q_ldI X hh e_t76 dX9_tickOf_76 ?_
    refine lv_iconst (v := (5 : Int32)) X.1 X.2.1 dX9_tickOf_77 (by decide) ?_
    refine lv_icmp_ne (tgt := 89) X.1 X.2.1 dX9_tickOf_78 (by decide) (fun c78 => ?_) (fun c78 => ?_)
    · rw [if_neg c78] at h
      refine q_aload_n X dX9_tickOf_89 rfl hl 0 rfl ?_
      obtain ⟨t90, e_t90, h⟩ := o_b h
      refine q_gR X hh fa_X9_108 rfl e_t90 dX9_tickOf_90 ?_
      refine q_iload_n X dX9_tickOf_93 rfl hl 1 rfl ?_
      refine lv_dup2_11 X.1 X.2.1 dX9_tickOf_94 (vv_cat (.inl v1)) (vv_cat (.inr t90)) ?_
      obtain ⟨t95, e_t95, h⟩ := o_b h
      refine q_ldI X hh e_t95 dX9_tickOf_95 ?_
      refine lv_iconst (v := (1 : Int32)) X.1 X.2.1 dX9_tickOf_96 (by decide) ?_
      refine lv_iadd X.1 X.2.1 dX9_tickOf_97 ?_
      obtain ⟨s98, e_s98, h⟩ := o_b h
      refine q_stI X hh hS e_s98 dX9_tickOf_98 (fun H locs hh hS => ?_)
      refine q_aload_n X dX9_tickOf_99 rfl hl 0 rfl ?_
      obtain ⟨t100, e_t100, h⟩ := o_b h
      refine q_gR X hh fa_X9_105 rfl e_t100 dX9_tickOf_100 ?_
      refine q_iload_n X dX9_tickOf_103 rfl hl 1 rfl ?_
      refine lv_iconst (v := (0 : Int32)) X.1 X.2.1 dX9_tickOf_104 (by decide) ?_
      obtain ⟨s105, e_s105, h⟩ := o_b h
      refine q_stI X hh hS e_s105 dX9_tickOf_105 (fun H locs hh hS => ?_)
      refine q_aload_n X dX9_tickOf_106 rfl hl 0 rfl ?_
      obtain ⟨t107, e_t107, h⟩ := o_b h
      refine q_gR X hh fa_X9_56 rfl e_t107 dX9_tickOf_107 ?_
      refine q_iload_n X dX9_tickOf_110 rfl hl 1 rfl ?_
      obtain ⟨t111, e_t111, h⟩ := o_b h
      refine q_ldI X hh e_t111 dX9_tickOf_111 ?_
      refine lv_iconst (v := (1 : Int32)) X.1 X.2.1 dX9_tickOf_112 (by decide) ?_
      refine lv_icmp_ne (tgt := 136) X.1 X.2.1 dX9_tickOf_113 (by decide) (fun c113 => ?_) (fun c113 => ?_)
      · rw [if_neg c113] at h
        refine q_aload_n X dX9_tickOf_136 rfl hl 0 rfl ?_
        refine q_iload_n X dX9_tickOf_137 rfl hl 1 rfl ?_
        obtain ⟨b138, e_b138, h⟩ := o_b h
        obtain ⟨q138, e_q138, h⟩ := o_b h
        refine q_cV (As := [.int v1]) X hh hS hl cf_X9_192 (cN := 9) rfl rfl e_b138 rfl (M_X9_sendAgain l D dA base s105 b138 v1 e_q138) ⟨Nat.le_trans (by decide) hR.1, Nat.le_trans (by decide) hR.2⟩ (cat8 [] (Nat.le_of_ble_eq_true rfl)) dX9_tickOf_138 ⟨Nat.zero_le _, Nat.zero_le _⟩ rfl rfl (fun H locs hh hS => ?_)
        refine q_aload_n X dX9_tickOf_141 rfl hl 0 rfl ?_
        obtain ⟨t142, e_t142, h⟩ := o_b h
        refine q_gR X hh fa_X9_75 rfl e_t142 dX9_tickOf_142 ?_
        refine q_iload_n X dX9_tickOf_145 rfl hl 1 rfl ?_
        obtain ⟨t146, e_t146, h⟩ := o_b h
        refine q_ldI X hh e_t146 dX9_tickOf_146 ?_
        cases h
        exact q_iret X hret hlk hh hS dX9_tickOf_147
      · rw [if_pos c113] at h
        refine q_aload_n X dX9_tickOf_116 rfl hl 0 rfl ?_
        refine q_iload_n X dX9_tickOf_117 rfl hl 1 rfl ?_
        refine lv_bipush (v := (7 : Int32)) X.1 X.2.1 dX9_tickOf_118 (by decide) ?_
        refine q_aload_n X dX9_tickOf_120 rfl hl 0 rfl ?_
        obtain ⟨t121, e_t121, h⟩ := o_b h
        refine q_gR X hh fa_X9_38 rfl e_t121 dX9_tickOf_121 ?_
        refine q_iload_n X dX9_tickOf_124 rfl hl 1 rfl ?_
        obtain ⟨t125, e_t125, h⟩ := o_b h
        refine q_ldI X hh e_t125 dX9_tickOf_125 ?_
        refine lv_iconst (v := (1 : Int32)) X.1 X.2.1 dX9_tickOf_126 (by decide) ?_
        refine lv_isub X.1 X.2.1 dX9_tickOf_127 ?_
        refine lv_bipush (v := (8 : Int32)) X.1 X.2.1 dX9_tickOf_128 (by decide) ?_
        refine lv_irem X.1 X.2.1 dX9_tickOf_130 (by decide) ?_
        obtain ⟨b131, e_b131, h⟩ := o_b h
        obtain ⟨q131, e_q131, h⟩ := o_b h
        refine q_cV (As := [.int v1, .int (7 : Int32), .int ((t125 - (1 : Int32)) - (t125 - (1 : Int32)) / (8 : Int32) * (8 : Int32))]) X hh hS hl cf_X9_172 (cN := 9) rfl rfl e_b131 rfl (M_X9_control l D dA base s105 b131 v1 (7 : Int32) ((t125 - (1 : Int32)) - (t125 - (1 : Int32)) / (8 : Int32) * (8 : Int32)) e_q131) ⟨Nat.le_trans (by decide) hR.1, Nat.le_trans (by decide) hR.2⟩ (cat8 [] (Nat.le_of_ble_eq_true rfl)) dX9_tickOf_131 ⟨Nat.zero_le _, Nat.zero_le _⟩ rfl rfl (fun H locs hh hS => ?_)
        refine lv_iconst (v := (1 : Int32)) X.1 X.2.1 dX9_tickOf_134 (by decide) ?_
        cases h
        exact q_iret X hret hlk hh hS dX9_tickOf_135
    · rw [if_pos c78] at h
      refine q_aload_n X dX9_tickOf_81 rfl hl 0 rfl ?_
      refine q_iload_n X dX9_tickOf_82 rfl hl 1 rfl ?_
      refine lv_iconst (v := (0 : Int32)) X.1 X.2.1 dX9_tickOf_83 (by decide) ?_
      obtain ⟨b84, e_b84, h⟩ := o_b h
      obtain ⟨q84, e_q84, h⟩ := o_b h
      refine q_cV (As := [.int v1, .int (0 : Int32)]) X hh hS hl cf_X9_176 (cN := 9) rfl rfl e_b84 rfl (M_X9_forget l D dA base σ b84 v1 (0 : Int32) e_q84) ⟨Nat.le_trans (by decide) hR.1, Nat.le_trans (by decide) hR.2⟩ (cat8 [] (Nat.le_of_ble_eq_true rfl)) dX9_tickOf_84 ⟨Nat.zero_le _, Nat.zero_le _⟩ rfl rfl (fun H locs hh hS => ?_)
      refine lv_iconst (v := (0 : Int32)) X.1 X.2.1 dX9_tickOf_87 (by decide) ?_
      cases h
      exact q_iret X hret hlk hh hS dX9_tickOf_88
  · rw [if_neg c66] at h
    refine lv_iconst (v := (0 : Int32)) X.1 X.2.1 dX9_tickOf_69 (by decide) ?_
    cases h
    exact q_iret X hret hlk hh hS dX9_tickOf_70
theorem ke_X9_tickOf_0 {z : Int32 × hp} {σ : hp} {t0 : Nat} {v1 : Int32} (h : S_X9_tickOf σ t0 v1 = some z) : eq4 σ z.2 := by
  unfold S_X9_tickOf at h
  obtain ⟨t1, e_t1, h⟩ := o_b h
  obtain ⟨t5, e_t5, h⟩ := o_b h
  by_cases c6 : t5 = (0 : Int32)
  · rw [if_pos c6] at h
    cases h
    show eq4 σ σ
    exact eq4.rf _
  · rw [if_neg c6] at h
    obtain ⟨t12, e_t12, h⟩ := o_b h
    obtain ⟨t17, e_t17, h⟩ := o_b h
    obtain ⟨s20, e_s20, h⟩ := o_b h
    obtain ⟨t22, e_t22, h⟩ := o_b h
    obtain ⟨t26, e_t26, h⟩ := o_b h
    by_cases c28 : t26 = (2 : Int32)
    · rw [if_pos c28] at h
      obtain ⟨t32, e_t32, h⟩ := o_b h
      obtain ⟨t36, e_t36, h⟩ := o_b h
      by_cases c37 : t36 = (0 : Int32)
      · rw [if_pos c37] at h
        obtain ⟨t41, e_t41, h⟩ := o_b h
        obtain ⟨t45, e_t45, h⟩ := o_b h
        by_cases c48 : t45 = (41 : Int32)
        · rw [if_pos c48] at h
          obtain ⟨b54, e_b54, h⟩ := o_b h
          obtain ⟨q54, e_q54, h⟩ := o_b h
          exact (((e_stI e_s20)).tr (ke_X9_forget_0 e_q54)).tr (ke_X9_tickOf_57 h)
        · rw [if_neg c48] at h
          exact ((e_stI e_s20)).tr (ke_X9_tickOf_57 h)
      · rw [if_neg c37] at h
        exact ((e_stI e_s20)).tr (ke_X9_tickOf_59 h)
    · rw [if_neg c28] at h
      exact ((e_stI e_s20)).tr (ke_X9_tickOf_59 h)
set_option maxHeartbeats 4000000 in
set_option maxRecDepth 100000 in
theorem K_X9_tickOf_0 {p : Program} {l : Launch} {e : Env} {R : Room} {s : State} {m : MethodId} {args : Array Value} {below : List Frame} {meth : Method} {c : Code} {D : va_G} {dA : Nat → ClassId} {base : Nat} {z : Int32 × hp} (X : cx p s m args c cX9_tickOf RX9 2 D dA) (hret : meth.sig.returnType = some .int) (hlk : meth.locks = false) (hR : 5 ≤ R.frames ∧ 113 ≤ R.locals) {σ : hp} {t0 : Nat} {v1 : Int32} {H : Heap} {locs : List Loc} {ls : Array Slot} (hh : hw D dA base σ H) (hS : hs base s.heap H locs) (hl : lk ls 2 [(0, .inr (some t0)), (1, .inl v1)]) (h : S_X9_tickOf σ t0 v1 = some z) : W p l e R s m args below meth c H locs 0 0 (MQ below (qG D dA base (some (.int z.1)) z.2) args s 0 0 (fun q => base ≤ q)) (F0 m 0 ls []) := by
  unfold S_X9_tickOf at h
  refine q_aload_n X dX9_tickOf_0 rfl hl 0 rfl ?_
  obtain ⟨t1, e_t1, h⟩ := o_b h
  refine q_gR X hh fa_X9_56 rfl e_t1 dX9_tickOf_1 ?_
  refine q_iload_n X dX9_tickOf_4 rfl hl 1 rfl ?_
  obtain ⟨t5, e_t5, h⟩ := o_b h
  refine q_ldI X hh e_t5 dX9_tickOf_5 ?_
  refine lv_if_ne (tgt := 11) X.1 X.2.1 dX9_tickOf_6 (by decide) (fun c6 => ?_) (fun c6 => ?_)
  · rw [if_neg c6] at h
    refine q_aload_n X dX9_tickOf_11 rfl hl 0 rfl ?_
    obtain ⟨t12, e_t12, h⟩ := o_b h
    refine q_gR X hh fa_X9_105 rfl e_t12 dX9_tickOf_12 ?_
    refine q_iload_n X dX9_tickOf_15 rfl hl 1 rfl ?_
    refine lv_dup2_11 X.1 X.2.1 dX9_tickOf_16 (vv_cat (.inl v1)) (vv_cat (.inr t12)) ?_
    obtain ⟨t17, e_t17, h⟩ := o_b h
    refine q_ldI X hh e_t17 dX9_tickOf_17 ?_
    refine lv_iconst (v := (1 : Int32)) X.1 X.2.1 dX9_tickOf_18 (by decide) ?_
    refine lv_iadd X.1 X.2.1 dX9_tickOf_19 ?_
    obtain ⟨s20, e_s20, h⟩ := o_b h
    refine q_stI X hh hS e_s20 dX9_tickOf_20 (fun H locs hh hS => ?_)
    refine q_aload_n X dX9_tickOf_21 rfl hl 0 rfl ?_
    obtain ⟨t22, e_t22, h⟩ := o_b h
    refine q_gR X hh fa_X9_56 rfl e_t22 dX9_tickOf_22 ?_
    refine q_iload_n X dX9_tickOf_25 rfl hl 1 rfl ?_
    obtain ⟨t26, e_t26, h⟩ := o_b h
    refine q_ldI X hh e_t26 dX9_tickOf_26 ?_
    refine lv_iconst (v := (2 : Int32)) X.1 X.2.1 dX9_tickOf_27 (by decide) ?_
    refine lv_icmp_ne (tgt := 59) X.1 X.2.1 dX9_tickOf_28 (by decide) (fun c28 => ?_) (fun c28 => ?_)
    · rw [if_neg c28] at h
      exact K_X9_tickOf_59 X hret hlk hR hh hS (lk_sub hl [0, 1] rfl) h
    · rw [if_pos c28] at h
      refine q_aload_n X dX9_tickOf_31 rfl hl 0 rfl ?_
      obtain ⟨t32, e_t32, h⟩ := o_b h
      refine q_gR X hh fa_X9_75 rfl e_t32 dX9_tickOf_32 ?_
      refine q_iload_n X dX9_tickOf_35 rfl hl 1 rfl ?_
      obtain ⟨t36, e_t36, h⟩ := o_b h
      refine q_ldI X hh e_t36 dX9_tickOf_36 ?_
      refine lv_if_ne (tgt := 59) X.1 X.2.1 dX9_tickOf_37 (by decide) (fun c37 => ?_) (fun c37 => ?_)
      · rw [if_neg c37] at h
        exact K_X9_tickOf_59 X hret hlk hR hh hS (lk_sub hl [0, 1] rfl) h
      · rw [if_pos c37] at h
        refine q_aload_n X dX9_tickOf_40 rfl hl 0 rfl ?_
        obtain ⟨t41, e_t41, h⟩ := o_b h
        refine q_gR X hh fa_X9_105 rfl e_t41 dX9_tickOf_41 ?_
        refine q_iload_n X dX9_tickOf_44 rfl hl 1 rfl ?_
        obtain ⟨t45, e_t45, h⟩ := o_b h
        refine q_ldI X hh e_t45 dX9_tickOf_45 ?_
        refine lv_bipush (v := (41 : Int32)) X.1 X.2.1 dX9_tickOf_46 (by decide) ?_
        refine lv_icmp_ne (tgt := 57) X.1 X.2.1 dX9_tickOf_48 (by decide) (fun c48 => ?_) (fun c48 => ?_)
        · rw [if_neg c48] at h
          exact K_X9_tickOf_57 X hret hlk hR hh hS (lk_sub hl [] rfl) h
        · rw [if_pos c48] at h
          refine q_aload_n X dX9_tickOf_51 rfl hl 0 rfl ?_
          refine q_iload_n X dX9_tickOf_52 rfl hl 1 rfl ?_
          refine lv_iconst (v := (0 : Int32)) X.1 X.2.1 dX9_tickOf_53 (by decide) ?_
          obtain ⟨b54, e_b54, h⟩ := o_b h
          obtain ⟨q54, e_q54, h⟩ := o_b h
          refine q_cV (As := [.int v1, .int (0 : Int32)]) X hh hS hl cf_X9_176 (cN := 9) rfl rfl e_b54 rfl (M_X9_forget l D dA base s20 b54 v1 (0 : Int32) e_q54) ⟨Nat.le_trans (by decide) hR.1, Nat.le_trans (by decide) hR.2⟩ (cat8 [] (Nat.le_of_ble_eq_true rfl)) dX9_tickOf_54 ⟨Nat.zero_le _, Nat.zero_le _⟩ rfl rfl (fun H locs hh hS => ?_)
          exact K_X9_tickOf_57 X hret hlk hR hh hS (lk_sub hl [] rfl) h
  · rw [if_pos c6] at h
    refine lv_iconst (v := (0 : Int32)) X.1 X.2.1 dX9_tickOf_9 (by decide) ?_
    cases h
    exact q_iret X hret hlk hh hS dX9_tickOf_10
set_option maxRecDepth 100000 in
theorem M_X9_tickOf (l : Launch) (D : va_G) (dA : Nat → ClassId) (base : Nat) (σ : hp) (t0 : Nat) (v1 : Int32) {z : Int32 × hp} (h : S_X9_tickOf σ t0 v1 = some z) : mt l yX9_tickOf cX9_tickOf 2 (some .int) 5 113 D dA base σ [.ref t0, .int v1] (some (.int z.1)) z.2 0 0 := by
  refine Met.ofW (cc := cX9_tickOf) (maxL := 2) (ret := some .int) (by decide) rfl ?_
  intro p e s m args below meth c s₁ B hml hv
  obtain ⟨rfl, hh, hK⟩ := hv
  have X : cx p s m ([.ref t0, .int v1] : List Value).toArray c cX9_tickOf RX9 2 D dA := ⟨B.exec, B.bytes, findClass_of_methodNamed B.named, hml, fun w hw => atoms_spec (ws := .code yX9_tickOf cX9_tickOf 2 (some .int) :: G) B.pre w (List.mem_cons_of_mem _ hw), hK⟩
  have hl := lk_entry [.inr (some t0), .inl v1] (n := 2) (Nat.le_of_ble_eq_true rfl)
  rw [lg_entry_eq]
  have hl : lk ((lg_sl ([.ref t0, .int v1] : List Value) ++ List.replicate (2 - (lg_sl ([.ref t0, .int v1] : List Value)).length) Slot.unset).toArray) 2 [(0, .inr (some t0)), (1, .inl v1)] := hl
  generalize (lg_sl ([.ref t0, .int v1] : List Value) ++ List.replicate (2 - (lg_sl ([.ref t0, .int v1] : List Value)).length) Slot.unset).toArray = ls at hl ⊢
  exact K_X9_tickOf_0 X B.returns B.notSynchronized ⟨Nat.le_refl _, Nat.le_refl _⟩ hh va_S.rf hl h
theorem ke_X9_tick_0 {z : Int32 × hp} {σ : hp} {t0 : Nat} (h : S_X9_tick σ t0 = some z) : eq4 σ z.2 := by
  unfold S_X9_tick at h
  obtain ⟨b2, e_b2, h⟩ := o_b h
  obtain ⟨q2, e_q2, h⟩ := o_b h
  obtain ⟨b9, e_b9, h⟩ := o_b h
  obtain ⟨q9, e_q9, h⟩ := o_b h
  cases h
  show eq4 σ q9.2
  exact ((ke_X9_tickOf_0 e_q2)).tr (ke_X9_tickOf_0 e_q9)
set_option maxHeartbeats 4000000 in
set_option maxRecDepth 100000 in
theorem K_X9_tick_0 {p : Program} {l : Launch} {e : Env} {R : Room} {s : State} {m : MethodId} {args : Array Value} {below : List Frame} {meth : Method} {c : Code} {D : va_G} {dA : Nat → ClassId} {base : Nat} {z : Int32 × hp} (X : cx p s m args c cX9_tick RX9 2 D dA) (hret : meth.sig.returnType = some .int) (hlk : meth.locks = false) (hR : 6 ≤ R.frames ∧ 134 ≤ R.locals) {σ : hp} {t0 : Nat} {H : Heap} {locs : List Loc} {ls : Array Slot} (hh : hw D dA base σ H) (hS : hs base s.heap H locs) (hl : lk ls 2 [(0, .inr (some t0))]) (h : S_X9_tick σ t0 = some z) : W p l e R s m args below meth c H locs 0 0 (MQ below (qG D dA base (some (.int z.1)) z.2) args s 0 0 (fun q => base ≤ q)) (F0 m 0 ls []) := by
  unfold S_X9_tick at h
  refine q_aload_n X dX9_tick_0 rfl hl 0 rfl ?_
  refine lv_iconst (v := (0 : Int32)) X.1 X.2.1 dX9_tick_1 (by decide) ?_
  obtain ⟨b2, e_b2, h⟩ := o_b h
  obtain ⟨q2, e_q2, h⟩ := o_b h
  refine q_cV (As := [.int (0 : Int32)]) X hh hS hl cf_X9_208 (cN := 9) rfl rfl e_b2 rfl (M_X9_tickOf l D dA base σ b2 (0 : Int32) e_q2) ⟨Nat.le_trans (by decide) hR.1, Nat.le_trans (by decide) hR.2⟩ (cat8 [] (Nat.le_of_ble_eq_true rfl)) dX9_tick_2 ⟨Nat.zero_le _, Nat.zero_le _⟩ rfl rfl (fun H locs hh hS => ?_)
  refine q_istore_n (lv' := [(1, .inl q2.1), (0, .inr (some t0))]) X dX9_tick_5 rfl hl (by decide) rfl (fun ls hl => ?_)
  refine q_iload_n X dX9_tick_6 rfl hl 0 rfl ?_
  refine q_aload_n X dX9_tick_7 rfl hl 1 rfl ?_
  refine lv_iconst (v := (1 : Int32)) X.1 X.2.1 dX9_tick_8 (by decide) ?_
  obtain ⟨b9, e_b9, h⟩ := o_b h
  obtain ⟨q9, e_q9, h⟩ := o_b h
  refine q_cV (As := [.int (1 : Int32)]) X hh hS hl cf_X9_208 (cN := 9) rfl rfl e_b9 rfl (M_X9_tickOf l D dA base q2.2 b9 (1 : Int32) e_q9) ⟨Nat.le_trans (by decide) hR.1, Nat.le_trans (by decide) hR.2⟩ (cat8 [.inl q2.1] (Nat.le_of_ble_eq_true rfl)) dX9_tick_9 ⟨Nat.zero_le _, Nat.zero_le _⟩ rfl rfl (fun H locs hh hS => ?_)
  refine lv_iadd X.1 X.2.1 dX9_tick_12 ?_
  cases h
  exact q_iret X hret hlk hh hS dX9_tick_13
set_option maxRecDepth 100000 in
theorem M_X9_tick (l : Launch) (D : va_G) (dA : Nat → ClassId) (base : Nat) (σ : hp) (t0 : Nat) {z : Int32 × hp} (h : S_X9_tick σ t0 = some z) : mt l yX9_tick cX9_tick 2 (some .int) 6 134 D dA base σ [.ref t0] (some (.int z.1)) z.2 0 0 := by
  refine Met.ofW (cc := cX9_tick) (maxL := 2) (ret := some .int) (by decide) rfl ?_
  intro p e s m args below meth c s₁ B hml hv
  obtain ⟨rfl, hh, hK⟩ := hv
  have X : cx p s m ([.ref t0] : List Value).toArray c cX9_tick RX9 2 D dA := ⟨B.exec, B.bytes, findClass_of_methodNamed B.named, hml, fun w hw => atoms_spec (ws := .code yX9_tick cX9_tick 2 (some .int) :: G) B.pre w (List.mem_cons_of_mem _ hw), hK⟩
  have hl := lk_entry [.inr (some t0)] (n := 2) (Nat.le_of_ble_eq_true rfl)
  rw [lg_entry_eq]
  have hl : lk ((lg_sl ([.ref t0] : List Value) ++ List.replicate (2 - (lg_sl ([.ref t0] : List Value)).length) Slot.unset).toArray) 2 [(0, .inr (some t0))] := hl
  generalize (lg_sl ([.ref t0] : List Value) ++ List.replicate (2 - (lg_sl ([.ref t0] : List Value)).length) Slot.unset).toArray = ls at hl ⊢
  exact K_X9_tick_0 X B.returns B.notSynchronized ⟨Nat.le_refl _, Nat.le_refl _⟩ hh va_S.rf hl h
theorem ke_X9_crash_0 {z : Int32 × hp} {σ : hp} {t0 : Nat} {v1 : Int32} (h : S_X9_crash σ t0 v1 = some z) : eq4 σ z.2 := by
  unfold S_X9_crash at h
  obtain ⟨q1, e_q1, h⟩ := o_b h
  by_cases c4 : q1 = (0 : Int32)
  · rw [if_pos c4] at h
    cases h
    show eq4 σ σ
    exact eq4.rf _
  · rw [if_neg c4] at h
    obtain ⟨b12, e_b12, h⟩ := o_b h
    obtain ⟨q12, e_q12, h⟩ := o_b h
    cases h
    show eq4 σ q12
    exact (ke_X9_forget_0 e_q12)
set_option maxHeartbeats 4000000 in
set_option maxRecDepth 100000 in
theorem K_X9_crash_0 {p : Program} {l : Launch} {e : Env} {R : Room} {s : State} {m : MethodId} {args : Array Value} {below : List Frame} {meth : Method} {c : Code} {D : va_G} {dA : Nat → ClassId} {base : Nat} {z : Int32 × hp} (X : cx p s m args c cX9_crash RX9 2 D dA) (hret : meth.sig.returnType = some .boolean) (hlk : meth.locks = false) (hR : 1 ≤ R.frames ∧ 22 ≤ R.locals) {σ : hp} {t0 : Nat} {v1 : Int32} {H : Heap} {locs : List Loc} {ls : Array Slot} (hh : hw D dA base σ H) (hS : hs base s.heap H locs) (hl : lk ls 2 [(0, .inr (some t0)), (1, .inl v1)]) (h : S_X9_crash σ t0 v1 = some z) : W p l e R s m args below meth c H locs 0 0 (MQ below (qG D dA base (some (.int z.1)) z.2) args s 0 0 (fun q => base ≤ q)) (F0 m 0 ls []) := by
  unfold S_X9_crash at h
  refine q_iload_n X dX9_crash_0 rfl hl 1 rfl ?_
  obtain ⟨q1, e_q1, h⟩ := o_b h
  refine q_cS (As := [.int v1]) X hh hS hl cf_X9_121 rfl (M_X9_isSite l D dA base σ v1 e_q1) ⟨Nat.le_trans (by decide) hR.1, Nat.le_trans (by decide) hR.2⟩ (cat8 [] (Nat.le_of_ble_eq_true rfl)) dX9_crash_1 ⟨Nat.zero_le _, Nat.zero_le _⟩ rfl rfl (fun H locs hh hS => ?_)
  refine lv_if_ne (tgt := 9) X.1 X.2.1 dX9_crash_4 (by decide) (fun c4 => ?_) (fun c4 => ?_)
  · rw [if_neg c4] at h
    refine q_aload_n X dX9_crash_9 rfl hl 0 rfl ?_
    refine q_iload_n X dX9_crash_10 rfl hl 1 rfl ?_
    refine lv_iconst (v := (0 : Int32)) X.1 X.2.1 dX9_crash_11 (by decide) ?_
    obtain ⟨b12, e_b12, h⟩ := o_b h
    obtain ⟨q12, e_q12, h⟩ := o_b h
    refine q_cV (As := [.int v1, .int (0 : Int32)]) X hh hS hl cf_X9_176 (cN := 9) rfl rfl e_b12 rfl (M_X9_forget l D dA base σ b12 v1 (0 : Int32) e_q12) ⟨Nat.le_trans (by decide) hR.1, Nat.le_trans (by decide) hR.2⟩ (cat8 [] (Nat.le_of_ble_eq_true rfl)) dX9_crash_12 ⟨Nat.zero_le _, Nat.zero_le _⟩ rfl rfl (fun H locs hh hS => ?_)
    refine lv_iconst (v := (1 : Int32)) X.1 X.2.1 dX9_crash_15 (by decide) ?_
    cases h
    exact q_zret X hret hlk hh hS (by rfl) dX9_crash_16
  · rw [if_pos c4] at h
    refine lv_iconst (v := (0 : Int32)) X.1 X.2.1 dX9_crash_7 (by decide) ?_
    cases h
    exact q_zret X hret hlk hh hS (by rfl) dX9_crash_8
set_option maxRecDepth 100000 in
theorem M_X9_crash (l : Launch) (D : va_G) (dA : Nat → ClassId) (base : Nat) (σ : hp) (t0 : Nat) (v1 : Int32) {z : Int32 × hp} (h : S_X9_crash σ t0 v1 = some z) : mt l yX9_crash cX9_crash 2 (some .boolean) 1 22 D dA base σ [.ref t0, .int v1] (some (.int z.1)) z.2 0 0 := by
  refine Met.ofW (cc := cX9_crash) (maxL := 2) (ret := some .boolean) (by decide) rfl ?_
  intro p e s m args below meth c s₁ B hml hv
  obtain ⟨rfl, hh, hK⟩ := hv
  have X : cx p s m ([.ref t0, .int v1] : List Value).toArray c cX9_crash RX9 2 D dA := ⟨B.exec, B.bytes, findClass_of_methodNamed B.named, hml, fun w hw => atoms_spec (ws := .code yX9_crash cX9_crash 2 (some .boolean) :: G) B.pre w (List.mem_cons_of_mem _ hw), hK⟩
  have hl := lk_entry [.inr (some t0), .inl v1] (n := 2) (Nat.le_of_ble_eq_true rfl)
  rw [lg_entry_eq]
  have hl : lk ((lg_sl ([.ref t0, .int v1] : List Value) ++ List.replicate (2 - (lg_sl ([.ref t0, .int v1] : List Value)).length) Slot.unset).toArray) 2 [(0, .inr (some t0)), (1, .inl v1)] := hl
  generalize (lg_sl ([.ref t0, .int v1] : List Value) ++ List.replicate (2 - (lg_sl ([.ref t0, .int v1] : List Value)).length) Slot.unset).toArray = ls at hl ⊢
  exact K_X9_crash_0 X B.returns B.notSynchronized ⟨Nat.le_refl _, Nat.le_refl _⟩ hh va_S.rf hl h
theorem ke_X9_settle_12 {z : Int32 × hp} {σ : hp} (h : S_X9_settle_12 σ = some z) : eq4 σ z.2 := by
  unfold S_X9_settle_12 at h
  cases h
  show eq4 σ σ
  exact eq4.rf _
set_option maxHeartbeats 4000000 in
set_option maxRecDepth 100000 in
theorem K_X9_settle_12 {p : Program} {l : Launch} {e : Env} {R : Room} {s : State} {m : MethodId} {args : Array Value} {below : List Frame} {meth : Method} {c : Code} {D : va_G} {dA : Nat → ClassId} {base : Nat} {z : Int32 × hp} (X : cx p s m args c cX9_settle RX9 5 D dA) (hret : meth.sig.returnType = some .int) (hlk : meth.locks = false) (hR : 12 ≤ R.frames ∧ 275 ≤ R.locals) {σ : hp} {H : Heap} {locs : List Loc} {ls : Array Slot} (hh : hw D dA base σ H) (hS : hs base s.heap H locs) (hl : lk ls 5 []) (h : S_X9_settle_12 σ = some z) : W p l e R s m args below meth c H locs 0 0 (MQ below (qG D dA base (some (.int z.1)) z.2) args s 0 0 (fun q => base ≤ q)) (F0 m 12 ls []) := by
  unfold S_X9_settle_12 at h
  refine lv_iconst (v := (-1 : Int32)) X.1 X.2.1 dX9_settle_12 (by decide) ?_
  cases h
  exact q_iret X hret hlk hh hS dX9_settle_13
theorem ke_X9_settle_55 {rec18 : hp → Nat → Int32 → Int32 → Int32 → Option (Int32 × hp)} {z : Int32 × hp} (hm18 : ∀ (σ : hp) (t0 : Nat) (v1 : Int32) (v2 : Int32) (v3 : Int32), rec18 σ t0 v1 v2 v3 = some z → eq4 σ z.2) {σ : hp} {t0 : Nat} {v1 : Int32} {v2 : Int32} {w0 : Int32} (h : S_X9_settle_55 rec18 σ t0 v1 v2 w0 = some z) : eq4 σ z.2 := by
  unfold S_X9_settle_55 at h
  obtain ⟨b58, e_b58, h⟩ := o_b h
  obtain ⟨q58, e_q58, h⟩ := o_b h
  exact ((ke_X9_deliver_0 e_q58)).tr (hm18 _ _ _ _ _ h)
set_option maxHeartbeats 4000000 in
set_option maxRecDepth 100000 in
theorem K_X9_settle_55 {p : Program} {l : Launch} {e : Env} {R : Room} {s : State} {m : MethodId} {args : Array Value} {below : List Frame} {meth : Method} {c : Code} {D : va_G} {dA : Nat → ClassId} {base : Nat} {rec18 : hp → Nat → Int32 → Int32 → Int32 → Option (Int32 × hp)} {z : Int32 × hp} (X : cx p s m args c cX9_settle RX9 5 D dA) (hret : meth.sig.returnType = some .int) (hlk : meth.locks = false) (hR : 12 ≤ R.frames ∧ 275 ≤ R.locals) (hr18 : ∀ (σ : hp) (t0 : Nat) (v1 : Int32) (v2 : Int32) (v3 : Int32) (H : Heap) (locs : List Loc) (ls : Array Slot), hw D dA base σ H → hs base s.heap H locs → lk ls 5 [(0, .inr (some t0)), (1, .inl v1), (2, .inl v2), (3, .inl v3)] → rec18 σ t0 v1 v2 v3 = some z → W p l e R s m args below meth c H locs 0 0 (MQ below (qG D dA base (some (.int z.1)) z.2) args s 0 0 (fun q => base ≤ q)) (F0 m 18 ls [])) {σ : hp} {t0 : Nat} {v1 : Int32} {v2 : Int32} {w0 : Int32} {H : Heap} {locs : List Loc} {ls : Array Slot} (hh : hw D dA base σ H) (hS : hs base s.heap H locs) (hl : lk ls 5 [(0, .inr (some t0)), (1, .inl v1), (2, .inl v2)]) (h : S_X9_settle_55 rec18 σ t0 v1 v2 w0 = some z) : W p l e R s m args below meth c H locs 0 0 (MQ below (qG D dA base (some (.int z.1)) z.2) args s 0 0 (fun q => base ≤ q)) (F0 m 55 ls [.int w0]) := by
  unfold S_X9_settle_55 at h
  refine q_istore_n (lv' := [(3, .inl w0), (0, .inr (some t0)), (1, .inl v1), (2, .inl v2)]) X dX9_settle_55 rfl hl (by decide) rfl (fun ls hl => ?_)
  refine q_aload_n X dX9_settle_56 rfl hl 1 rfl ?_
  refine q_iload_n X dX9_settle_57 rfl hl 0 rfl ?_
  obtain ⟨b58, e_b58, h⟩ := o_b h
  obtain ⟨q58, e_q58, h⟩ := o_b h
  refine q_cV (As := [.int w0]) X hh hS hl cf_X9_211 (cN := 9) rfl rfl e_b58 rfl (M_X9_deliver l D dA base σ b58 w0 e_q58) ⟨Nat.le_trans (by decide) hR.1, Nat.le_trans (by decide) hR.2⟩ (cat8 [] (Nat.le_of_ble_eq_true rfl)) dX9_settle_58 ⟨Nat.zero_le _, Nat.zero_le _⟩ rfl rfl (fun H locs hh hS => ?_)
  refine q_istore (lv' := [(4, .inl q58.1), (3, .inl w0), (0, .inr (some t0)), (1, .inl v1), (2, .inl v2)]) X dX9_settle_61 hl (by decide) rfl (fun ls hl => ?_)
  refine q_iinc (v := (1 : Int32)) (lv' := [(2, .inl (v2 + (1 : Int32))), (4, .inl q58.1), (3, .inl w0), (0, .inr (some t0)), (1, .inl v1)]) X dX9_settle_63 hl 4 rfl (by decide) (by decide) rfl (fun ls hl => ?_)
  refine lv_iconst (v := (1 : Int32)) X.1 X.2.1 dX9_settle_66 (by decide) ?_
  refine q_iload_n X dX9_settle_67 rfl hl 2 rfl ?_
  refine lv_isub X.1 X.2.1 dX9_settle_68 ?_
  refine q_istore_n (lv' := [(3, .inl ((1 : Int32) - w0)), (2, .inl (v2 + (1 : Int32))), (4, .inl q58.1), (0, .inr (some t0)), (1, .inl v1)]) X dX9_settle_69 rfl hl (by decide) rfl (fun ls hl => ?_)
  refine lv_goto (tgt := 18) X.1 X.2.1 dX9_settle_70 (by decide) ?_
  exact hr18 _ _ _ _ _ _ _ _ hh hS (lk_sub hl [3, 4, 1, 0] rfl) h
theorem ke_X9_settle_73 {z : Int32 × hp} {σ : hp} {v2 : Int32} (h : S_X9_settle_73 σ v2 = some z) : eq4 σ z.2 := by
  unfold S_X9_settle_73 at h
  cases h
  show eq4 σ σ
  exact eq4.rf _
set_option maxHeartbeats 4000000 in
set_option maxRecDepth 100000 in
theorem K_X9_settle_73 {p : Program} {l : Launch} {e : Env} {R : Room} {s : State} {m : MethodId} {args : Array Value} {below : List Frame} {meth : Method} {c : Code} {D : va_G} {dA : Nat → ClassId} {base : Nat} {z : Int32 × hp} (X : cx p s m args c cX9_settle RX9 5 D dA) (hret : meth.sig.returnType = some .int) (hlk : meth.locks = false) (hR : 12 ≤ R.frames ∧ 275 ≤ R.locals) {σ : hp} {v2 : Int32} {H : Heap} {locs : List Loc} {ls : Array Slot} (hh : hw D dA base σ H) (hS : hs base s.heap H locs) (hl : lk ls 5 [(2, .inl v2)]) (h : S_X9_settle_73 σ v2 = some z) : W p l e R s m args below meth c H locs 0 0 (MQ below (qG D dA base (some (.int z.1)) z.2) args s 0 0 (fun q => base ≤ q)) (F0 m 73 ls []) := by
  unfold S_X9_settle_73 at h
  refine q_iload_n X dX9_settle_73 rfl hl 0 rfl ?_
  cases h
  exact q_iret X hret hlk hh hS dX9_settle_74
theorem ke_X9_settle_18_b {rec18 : hp → Nat → Int32 → Int32 → Int32 → Option (Int32 × hp)} {z : Int32 × hp} (hm18 : ∀ (σ : hp) (t0 : Nat) (v1 : Int32) (v2 : Int32) (v3 : Int32), rec18 σ t0 v1 v2 v3 = some z → eq4 σ z.2) {σ : hp} {t0 : Nat} {v1 : Int32} {v2 : Int32} {v3 : Int32} (h : S_X9_settle_18_b rec18 σ t0 v1 v2 v3 = some z) : eq4 σ z.2 := by
  unfold S_X9_settle_18_b at h
  by_cases c20 : v1 ≤ v2
  · rw [if_pos c20] at h
    exact (ke_X9_settle_73 h)
  · rw [if_neg c20] at h
    obtain ⟨t24, e_t24, h⟩ := o_b h
    obtain ⟨t28, e_t28, h⟩ := o_b h
    obtain ⟨t30, e_t30, h⟩ := o_b h
    obtain ⟨t34, e_t34, h⟩ := o_b h
    by_cases c36 : (t28 + t34) ≤ (0 : Int32)
    · rw [if_pos c36] at h
      exact (ke_X9_settle_73 h)
    · rw [if_neg c36] at h
      obtain ⟨t40, e_t40, h⟩ := o_b h
      obtain ⟨t44, e_t44, h⟩ := o_b h
      by_cases c45 : t44 = (0 : Int32)
      · rw [if_pos c45] at h
        exact (ke_X9_settle_55 hm18 h)
      · rw [if_neg c45] at h
        exact (ke_X9_settle_55 hm18 h)
theorem ke_X9_settle_18 {z : Int32 × hp} : ∀ (n : Nat) (σ : hp) (t0 : Nat) (v1 : Int32) (v2 : Int32) (v3 : Int32), S_X9_settle_18 n σ t0 v1 v2 v3 = some z → eq4 σ z.2 := by
  intro n
  induction n with
  | zero => intro σ t0 v1 v2 v3 h; cases h
  | succ n ih => intro σ t0 v1 v2 v3 h; exact ke_X9_settle_18_b ih h
set_option maxHeartbeats 4000000 in
set_option maxRecDepth 100000 in
theorem K_X9_settle_18_b {p : Program} {l : Launch} {e : Env} {R : Room} {s : State} {m : MethodId} {args : Array Value} {below : List Frame} {meth : Method} {c : Code} {D : va_G} {dA : Nat → ClassId} {base : Nat} {rec18 : hp → Nat → Int32 → Int32 → Int32 → Option (Int32 × hp)} {z : Int32 × hp} (X : cx p s m args c cX9_settle RX9 5 D dA) (hret : meth.sig.returnType = some .int) (hlk : meth.locks = false) (hR : 12 ≤ R.frames ∧ 275 ≤ R.locals) (hr18 : ∀ (σ : hp) (t0 : Nat) (v1 : Int32) (v2 : Int32) (v3 : Int32) (H : Heap) (locs : List Loc) (ls : Array Slot), hw D dA base σ H → hs base s.heap H locs → lk ls 5 [(0, .inr (some t0)), (1, .inl v1), (2, .inl v2), (3, .inl v3)] → rec18 σ t0 v1 v2 v3 = some z → W p l e R s m args below meth c H locs 0 0 (MQ below (qG D dA base (some (.int z.1)) z.2) args s 0 0 (fun q => base ≤ q)) (F0 m 18 ls [])) {σ : hp} {t0 : Nat} {v1 : Int32} {v2 : Int32} {v3 : Int32} {H : Heap} {locs : List Loc} {ls : Array Slot} (hh : hw D dA base σ H) (hS : hs base s.heap H locs) (hl : lk ls 5 [(0, .inr (some t0)), (1, .inl v1), (2, .inl v2), (3, .inl v3)]) (h : S_X9_settle_18_b rec18 σ t0 v1 v2 v3 = some z) : W p l e R s m args below meth c H locs 0 0 (MQ below (qG D dA base (some (.int z.1)) z.2) args s 0 0 (fun q => base ≤ q)) (F0 m 18 ls []) := by
  unfold S_X9_settle_18_b at h
  refine q_iload_n X dX9_settle_18 rfl hl 2 rfl ?_
  refine q_iload_n X dX9_settle_19 rfl hl 1 rfl ?_
  refine lv_icmp_ge (tgt := 73) X.1 X.2.1 dX9_settle_20 (by decide) (fun c20 => ?_) (fun c20 => ?_)
  · rw [if_pos c20] at h
    exact K_X9_settle_73 X hret hlk hR hh hS (lk_sub hl [2] rfl) h
  · rw [if_neg c20] at h
    refine q_aload_n X dX9_settle_23 rfl hl 0 rfl ?_
    obtain ⟨t24, e_t24, h⟩ := o_b h
    refine q_gR X hh fa_X9_44 rfl e_t24 dX9_settle_24 ?_
    refine lv_iconst (v := (0 : Int32)) X.1 X.2.1 dX9_settle_27 (by decide) ?_
    obtain ⟨t28, e_t28, h⟩ := o_b h
    refine q_ldI X hh e_t28 dX9_settle_28 ?_
    refine q_aload_n X dX9_settle_29 rfl hl 0 rfl ?_
    obtain ⟨t30, e_t30, h⟩ := o_b h
    refine q_gR X hh fa_X9_44 rfl e_t30 dX9_settle_30 ?_
    refine lv_iconst (v := (1 : Int32)) X.1 X.2.1 dX9_settle_33 (by decide) ?_
    obtain ⟨t34, e_t34, h⟩ := o_b h
    refine q_ldI X hh e_t34 dX9_settle_34 ?_
    refine lv_iadd X.1 X.2.1 dX9_settle_35 ?_
    refine lv_if_le (tgt := 73) X.1 X.2.1 dX9_settle_36 (by decide) (fun c36 => ?_) (fun c36 => ?_)
    · rw [if_pos c36] at h
      exact K_X9_settle_73 X hret hlk hR hh hS (lk_sub hl [2] rfl) h
    · rw [if_neg c36] at h
      refine q_aload_n X dX9_settle_39 rfl hl 0 rfl ?_
      obtain ⟨t40, e_t40, h⟩ := o_b h
      refine q_gR X hh fa_X9_44 rfl e_t40 dX9_settle_40 ?_
      refine q_iload_n X dX9_settle_43 rfl hl 3 rfl ?_
      obtain ⟨t44, e_t44, h⟩ := o_b h
      refine q_ldI X hh e_t44 dX9_settle_44 ?_
      refine lv_if_ne (tgt := 54) X.1 X.2.1 dX9_settle_45 (by decide) (fun c45 => ?_) (fun c45 => ?_)
      · rw [if_neg c45] at h
        refine q_iload_n X dX9_settle_54 rfl hl 3 rfl ?_
        exact K_X9_settle_55 X hret hlk hR hr18 hh hS (lk_sub hl [0, 1, 2] rfl) h
      · rw [if_pos c45] at h
        refine lv_iconst (v := (1 : Int32)) X.1 X.2.1 dX9_settle_48 (by decide) ?_
        refine q_iload_n X dX9_settle_49 rfl hl 3 rfl ?_
        refine lv_isub X.1 X.2.1 dX9_settle_50 ?_
        refine lv_goto (tgt := 55) X.1 X.2.1 dX9_settle_51 (by decide) ?_
        exact K_X9_settle_55 X hret hlk hR hr18 hh hS (lk_sub hl [0, 1, 2] rfl) h
theorem K_X9_settle_18 {p : Program} {l : Launch} {e : Env} {R : Room} {s : State} {m : MethodId} {args : Array Value} {below : List Frame} {meth : Method} {c : Code} {D : va_G} {dA : Nat → ClassId} {base : Nat} {z : Int32 × hp} (X : cx p s m args c cX9_settle RX9 5 D dA) (hret : meth.sig.returnType = some .int) (hlk : meth.locks = false) (hR : 12 ≤ R.frames ∧ 275 ≤ R.locals) : ∀ (n : Nat) (σ : hp) (t0 : Nat) (v1 : Int32) (v2 : Int32) (v3 : Int32) (H : Heap) (locs : List Loc) (ls : Array Slot), hw D dA base σ H → hs base s.heap H locs → lk ls 5 [(0, .inr (some t0)), (1, .inl v1), (2, .inl v2), (3, .inl v3)] → S_X9_settle_18 n σ t0 v1 v2 v3 = some z → W p l e R s m args below meth c H locs 0 0 (MQ below (qG D dA base (some (.int z.1)) z.2) args s 0 0 (fun q => base ≤ q)) (F0 m 18 ls []) := by
  intro n
  induction n with
  | zero => intro σ t0 v1 v2 v3 H locs ls hh hS hl h; cases h
  | succ n ih => intro σ t0 v1 v2 v3 H locs ls hh hS hl h; exact K_X9_settle_18_b X hret hlk hR ih hh hS hl h
theorem ke_X9_settle_0 {z : Int32 × hp} {σ : hp} {t0 : Nat} {v1 : Int32} (h : S_X9_settle σ t0 v1 = some z) : eq4 σ z.2 := by
  unfold S_X9_settle at h
  by_cases c2 : v1 < (1 : Int32)
  · rw [if_pos c2] at h
    exact (ke_X9_settle_12 h)
  · rw [if_neg c2] at h
    by_cases c9 : v1 ≤ (200 : Int32)
    · rw [if_pos c9] at h
      exact (ke_X9_settle_18 FU _ _ _ _ _ h)
    · rw [if_neg c9] at h
      exact (ke_X9_settle_12 h)
set_option maxHeartbeats 4000000 in
set_option maxRecDepth 100000 in
theorem K_X9_settle_0 {p : Program} {l : Launch} {e : Env} {R : Room} {s : State} {m : MethodId} {args : Array Value} {below : List Frame} {meth : Method} {c : Code} {D : va_G} {dA : Nat → ClassId} {base : Nat} {z : Int32 × hp} (X : cx p s m args c cX9_settle RX9 5 D dA) (hret : meth.sig.returnType = some .int) (hlk : meth.locks = false) (hR : 12 ≤ R.frames ∧ 275 ≤ R.locals) {σ : hp} {t0 : Nat} {v1 : Int32} {H : Heap} {locs : List Loc} {ls : Array Slot} (hh : hw D dA base σ H) (hS : hs base s.heap H locs) (hl : lk ls 5 [(0, .inr (some t0)), (1, .inl v1)]) (h : S_X9_settle σ t0 v1 = some z) : W p l e R s m args below meth c H locs 0 0 (MQ below (qG D dA base (some (.int z.1)) z.2) args s 0 0 (fun q => base ≤ q)) (F0 m 0 ls []) := by
  unfold S_X9_settle at h
  refine q_iload_n X dX9_settle_0 rfl hl 1 rfl ?_
  refine lv_iconst (v := (1 : Int32)) X.1 X.2.1 dX9_settle_1 (by decide) ?_
  refine lv_icmp_lt (tgt := 12) X.1 X.2.1 dX9_settle_2 (by decide) (fun c2 => ?_) (fun c2 => ?_)
  · rw [if_pos c2] at h
    exact K_X9_settle_12 X hret hlk hR hh hS (lk_sub hl [] rfl) h
  · rw [if_neg c2] at h
    refine q_iload_n X dX9_settle_5 rfl hl 1 rfl ?_
    refine lv_sipush (v := (200 : Int32)) X.1 X.2.1 dX9_settle_6 (by decide) ?_
    refine lv_icmp_le (tgt := 14) X.1 X.2.1 dX9_settle_9 (by decide) (fun c9 => ?_) (fun c9 => ?_)
    · rw [if_pos c9] at h
      refine lv_iconst (v := (0 : Int32)) X.1 X.2.1 dX9_settle_14 (by decide) ?_
      refine q_istore_n (lv' := [(2, .inl (0 : Int32)), (0, .inr (some t0)), (1, .inl v1)]) X dX9_settle_15 rfl hl (by decide) rfl (fun ls hl => ?_)
      refine lv_iconst (v := (0 : Int32)) X.1 X.2.1 dX9_settle_16 (by decide) ?_
      refine q_istore_n (lv' := [(3, .inl (0 : Int32)), (2, .inl (0 : Int32)), (0, .inr (some t0)), (1, .inl v1)]) X dX9_settle_17 rfl hl (by decide) rfl (fun ls hl => ?_)
      exact K_X9_settle_18 X hret hlk hR FU _ _ _ _ _ _ _ _ hh hS (lk_sub hl [2, 3, 1, 0] rfl) h
    · rw [if_neg c9] at h
      exact K_X9_settle_12 X hret hlk hR hh hS (lk_sub hl [] rfl) h
set_option maxRecDepth 100000 in
theorem M_X9_settle (l : Launch) (D : va_G) (dA : Nat → ClassId) (base : Nat) (σ : hp) (t0 : Nat) (v1 : Int32) {z : Int32 × hp} (h : S_X9_settle σ t0 v1 = some z) : mt l yX9_settle cX9_settle 5 (some .int) 12 275 D dA base σ [.ref t0, .int v1] (some (.int z.1)) z.2 0 0 := by
  refine Met.ofW (cc := cX9_settle) (maxL := 5) (ret := some .int) (by decide) rfl ?_
  intro p e s m args below meth c s₁ B hml hv
  obtain ⟨rfl, hh, hK⟩ := hv
  have X : cx p s m ([.ref t0, .int v1] : List Value).toArray c cX9_settle RX9 5 D dA := ⟨B.exec, B.bytes, findClass_of_methodNamed B.named, hml, fun w hw => atoms_spec (ws := .code yX9_settle cX9_settle 5 (some .int) :: G) B.pre w (List.mem_cons_of_mem _ hw), hK⟩
  have hl := lk_entry [.inr (some t0), .inl v1] (n := 5) (Nat.le_of_ble_eq_true rfl)
  rw [lg_entry_eq]
  have hl : lk ((lg_sl ([.ref t0, .int v1] : List Value) ++ List.replicate (5 - (lg_sl ([.ref t0, .int v1] : List Value)).length) Slot.unset).toArray) 5 [(0, .inr (some t0)), (1, .inl v1)] := hl
  generalize (lg_sl ([.ref t0, .int v1] : List Value) ++ List.replicate (5 - (lg_sl ([.ref t0, .int v1] : List Value)).length) Slot.unset).toArray = ls at hl ⊢
  exact K_X9_settle_0 X B.returns B.notSynchronized ⟨Nat.le_refl _, Nat.le_refl _⟩ hh va_S.rf hl h
set_option maxHeartbeats 4000000 in
set_option maxRecDepth 100000 in
theorem K_X9_waiting_17 {p : Program} {l : Launch} {e : Env} {R : Room} {s : State} {m : MethodId} {args : Array Value} {below : List Frame} {meth : Method} {c : Code} {D : va_G} {dA : Nat → ClassId} {base : Nat} {z : Int32} (X : cx p s m args c cX9_waiting RX9 2 D dA) (hret : meth.sig.returnType = some .int) (hlk : meth.locks = false) (hR : 1 ≤ R.frames ∧ 20 ≤ R.locals) {σ : hp} {w0 : Int32} {H : Heap} {locs : List Loc} {ls : Array Slot} (hh : hw D dA base σ H) (hS : hs base s.heap H locs) (hl : lk ls 2 []) (h : S_X9_waiting_17 σ w0 = some z) : W p l e R s m args below meth c H locs 0 0 (MQ below (qG D dA base (some (.int z)) σ) args s 0 0 (fun q => base ≤ q)) (F0 m 17 ls [.int w0]) := by
  unfold S_X9_waiting_17 at h
  cases h
  exact q_iret X hret hlk hh hS dX9_waiting_17
set_option maxHeartbeats 4000000 in
set_option maxRecDepth 100000 in
theorem K_X9_waiting_0 {p : Program} {l : Launch} {e : Env} {R : Room} {s : State} {m : MethodId} {args : Array Value} {below : List Frame} {meth : Method} {c : Code} {D : va_G} {dA : Nat → ClassId} {base : Nat} {z : Int32} (X : cx p s m args c cX9_waiting RX9 2 D dA) (hret : meth.sig.returnType = some .int) (hlk : meth.locks = false) (hR : 1 ≤ R.frames ∧ 20 ≤ R.locals) {σ : hp} {t0 : Nat} {v1 : Int32} {H : Heap} {locs : List Loc} {ls : Array Slot} (hh : hw D dA base σ H) (hS : hs base s.heap H locs) (hl : lk ls 2 [(0, .inr (some t0)), (1, .inl v1)]) (h : S_X9_waiting σ t0 v1 = some z) : W p l e R s m args below meth c H locs 0 0 (MQ below (qG D dA base (some (.int z)) σ) args s 0 0 (fun q => base ≤ q)) (F0 m 0 ls []) := by
  unfold S_X9_waiting at h
  refine q_iload_n X dX9_waiting_0 rfl hl 1 rfl ?_
  obtain ⟨q1, e_q1, h⟩ := o_b h
  refine q_cS (As := [.int v1]) X hh hS hl cf_X9_121 rfl (M_X9_isSite l D dA base σ v1 e_q1) ⟨Nat.le_trans (by decide) hR.1, Nat.le_trans (by decide) hR.2⟩ (cat8 [] (Nat.le_of_ble_eq_true rfl)) dX9_waiting_1 ⟨Nat.zero_le _, Nat.zero_le _⟩ rfl rfl (fun H locs hh hS => ?_)
  refine lv_if_eq (tgt := 16) X.1 X.2.1 dX9_waiting_4 (by decide) (fun c4 => ?_) (fun c4 => ?_)
  · rw [if_pos c4] at h
    refine lv_iconst (v := (-1 : Int32)) X.1 X.2.1 dX9_waiting_16 (by decide) ?_
    exact K_X9_waiting_17 X hret hlk hR hh hS (lk_sub hl [] rfl) h
  · rw [if_neg c4] at h
    refine q_aload_n X dX9_waiting_7 rfl hl 0 rfl ?_
    obtain ⟨t8, e_t8, h⟩ := o_b h
    refine q_gR X hh fa_X9_44 rfl e_t8 dX9_waiting_8 ?_
    refine q_iload_n X dX9_waiting_11 rfl hl 1 rfl ?_
    obtain ⟨t12, e_t12, h⟩ := o_b h
    refine q_ldI X hh e_t12 dX9_waiting_12 ?_
    refine lv_goto (tgt := 17) X.1 X.2.1 dX9_waiting_13 (by decide) ?_
    exact K_X9_waiting_17 X hret hlk hR hh hS (lk_sub hl [] rfl) h
set_option maxRecDepth 100000 in
theorem M_X9_waiting (l : Launch) (D : va_G) (dA : Nat → ClassId) (base : Nat) (σ : hp) (t0 : Nat) (v1 : Int32) {z : Int32} (h : S_X9_waiting σ t0 v1 = some z) : mt l yX9_waiting cX9_waiting 2 (some .int) 1 20 D dA base σ [.ref t0, .int v1] (some (.int z)) σ 0 0 := by
  refine Met.ofW (cc := cX9_waiting) (maxL := 2) (ret := some .int) (by decide) rfl ?_
  intro p e s m args below meth c s₁ B hml hv
  obtain ⟨rfl, hh, hK⟩ := hv
  have X : cx p s m ([.ref t0, .int v1] : List Value).toArray c cX9_waiting RX9 2 D dA := ⟨B.exec, B.bytes, findClass_of_methodNamed B.named, hml, fun w hw => atoms_spec (ws := .code yX9_waiting cX9_waiting 2 (some .int) :: G) B.pre w (List.mem_cons_of_mem _ hw), hK⟩
  have hl := lk_entry [.inr (some t0), .inl v1] (n := 2) (Nat.le_of_ble_eq_true rfl)
  rw [lg_entry_eq]
  have hl : lk ((lg_sl ([.ref t0, .int v1] : List Value) ++ List.replicate (2 - (lg_sl ([.ref t0, .int v1] : List Value)).length) Slot.unset).toArray) 2 [(0, .inr (some t0)), (1, .inl v1)] := hl
  generalize (lg_sl ([.ref t0, .int v1] : List Value) ++ List.replicate (2 - (lg_sl ([.ref t0, .int v1] : List Value)).length) Slot.unset).toArray = ls at hl ⊢
  exact K_X9_waiting_0 X B.returns B.notSynchronized ⟨Nat.le_refl _, Nat.le_refl _⟩ hh va_S.rf hl h
set_option maxHeartbeats 4000000 in
set_option maxRecDepth 100000 in
theorem K_X9_look_61 {p : Program} {l : Launch} {e : Env} {R : Room} {s : State} {m : MethodId} {args : Array Value} {below : List Frame} {meth : Method} {c : Code} {D : va_G} {dA : Nat → ClassId} {base : Nat} {z : Int32} (X : cx p s m args c cX9_look RX9 4 D dA) (hret : meth.sig.returnType = some .int) (hlk : meth.locks = false) (hR : 1 ≤ R.frames ∧ 20 ≤ R.locals) {σ : hp} {w0 : Int32} {H : Heap} {locs : List Loc} {ls : Array Slot} (hh : hw D dA base σ H) (hS : hs base s.heap H locs) (hl : lk ls 4 []) (h : S_X9_look_61 σ w0 = some z) : W p l e R s m args below meth c H locs 0 0 (MQ below (qG D dA base (some (.int z)) σ) args s 0 0 (fun q => base ≤ q)) (F0 m 61 ls [.int w0]) := by
  unfold S_X9_look_61 at h
  cases h
  exact q_iret X hret hlk hh hS dX9_look_61
set_option maxHeartbeats 4000000 in
set_option maxRecDepth 100000 in
theorem K_X9_look_40 {p : Program} {l : Launch} {e : Env} {R : Room} {s : State} {m : MethodId} {args : Array Value} {below : List Frame} {meth : Method} {c : Code} {D : va_G} {dA : Nat → ClassId} {base : Nat} {z : Int32} (X : cx p s m args c cX9_look RX9 4 D dA) (hret : meth.sig.returnType = some .int) (hlk : meth.locks = false) (hR : 1 ≤ R.frames ∧ 20 ≤ R.locals) {σ : hp} {H : Heap} {locs : List Loc} {ls : Array Slot} (hh : hw D dA base σ H) (hS : hs base s.heap H locs) (hl : lk ls 4 []) (h : S_X9_look_40 σ = some z) : W p l e R s m args below meth c H locs 0 0 (MQ below (qG D dA base (some (.int z)) σ) args s 0 0 (fun q => base ≤ q)) (F0 m 40 ls []) := by
  unfold S_X9_look_40 at h
  refine lv_iconst (v := (-1 : Int32)) X.1 X.2.1 dX9_look_40 (by decide) ?_
  refine lv_goto (tgt := 61) X.1 X.2.1 dX9_look_41 (by decide) ?_
  exact K_X9_look_61 X hret hlk hR hh hS (lk_sub hl [] rfl) h
set_option maxHeartbeats 4000000 in
set_option maxRecDepth 100000 in
theorem K_X9_look_0 {p : Program} {l : Launch} {e : Env} {R : Room} {s : State} {m : MethodId} {args : Array Value} {below : List Frame} {meth : Method} {c : Code} {D : va_G} {dA : Nat → ClassId} {base : Nat} {z : Int32} (X : cx p s m args c cX9_look RX9 4 D dA) (hret : meth.sig.returnType = some .int) (hlk : meth.locks = false) (hR : 1 ≤ R.frames ∧ 20 ≤ R.locals) {σ : hp} {t0 : Nat} {v1 : Int32} {v2 : Int32} {v3 : Int32} {H : Heap} {locs : List Loc} {ls : Array Slot} (hh : hw D dA base σ H) (hS : hs base s.heap H locs) (hl : lk ls 4 [(0, .inr (some t0)), (1, .inl v1), (2, .inl v2), (3, .inl v3)]) (h : S_X9_look σ t0 v1 v2 v3 = some z) : W p l e R s m args below meth c H locs 0 0 (MQ below (qG D dA base (some (.int z)) σ) args s 0 0 (fun q => base ≤ q)) (F0 m 0 ls []) := by
  unfold S_X9_look at h
  refine q_iload_n X dX9_look_0 rfl hl 1 rfl ?_
  obtain ⟨q1, e_q1, h⟩ := o_b h
  refine q_cS (As := [.int v1]) X hh hS hl cf_X9_121 rfl (M_X9_isSite l D dA base σ v1 e_q1) ⟨Nat.le_trans (by decide) hR.1, Nat.le_trans (by decide) hR.2⟩ (cat8 [] (Nat.le_of_ble_eq_true rfl)) dX9_look_1 ⟨Nat.zero_le _, Nat.zero_le _⟩ rfl rfl (fun H locs hh hS => ?_)
  refine lv_if_eq (tgt := 40) X.1 X.2.1 dX9_look_4 (by decide) (fun c4 => ?_) (fun c4 => ?_)
  · rw [if_pos c4] at h
    exact K_X9_look_40 X hret hlk hR hh hS (lk_sub hl [] rfl) h
  · rw [if_neg c4] at h
    refine q_iload_n X dX9_look_7 rfl hl 2 rfl ?_
    refine lv_if_lt (tgt := 40) X.1 X.2.1 dX9_look_8 (by decide) (fun c8 => ?_) (fun c8 => ?_)
    · rw [if_pos c8] at h
      exact K_X9_look_40 X hret hlk hR hh hS (lk_sub hl [] rfl) h
    · rw [if_neg c8] at h
      refine q_iload_n X dX9_look_11 rfl hl 2 rfl ?_
      refine q_aload_n X dX9_look_12 rfl hl 0 rfl ?_
      obtain ⟨t13, e_t13, h⟩ := o_b h
      refine q_gR X hh fa_X9_44 rfl e_t13 dX9_look_13 ?_
      refine q_iload_n X dX9_look_16 rfl hl 1 rfl ?_
      obtain ⟨t17, e_t17, h⟩ := o_b h
      refine q_ldI X hh e_t17 dX9_look_17 ?_
      refine lv_icmp_ge (tgt := 40) X.1 X.2.1 dX9_look_18 (by decide) (fun c18 => ?_) (fun c18 => ?_)
      · rw [if_pos c18] at h
        exact K_X9_look_40 X hret hlk hR hh hS (lk_sub hl [] rfl) h
      · rw [if_neg c18] at h
        refine q_iload_n X dX9_look_21 rfl hl 3 rfl ?_
        refine lv_if_lt (tgt := 40) X.1 X.2.1 dX9_look_22 (by decide) (fun c22 => ?_) (fun c22 => ?_)
        · rw [if_pos c22] at h
          exact K_X9_look_40 X hret hlk hR hh hS (lk_sub hl [] rfl) h
        · rw [if_neg c22] at h
          refine q_iload_n X dX9_look_25 rfl hl 3 rfl ?_
          refine q_aload_n X dX9_look_26 rfl hl 0 rfl ?_
          obtain ⟨t27, e_t27, h⟩ := o_b h
          refine q_gR X hh fa_X9_50 rfl e_t27 dX9_look_27 ?_
          refine lv_bipush (v := (12 : Int32)) X.1 X.2.1 dX9_look_30 (by decide) ?_
          refine q_iload_n X dX9_look_32 rfl hl 1 rfl ?_
          refine lv_imul X.1 X.2.1 dX9_look_33 ?_
          refine q_iload_n X dX9_look_34 rfl hl 2 rfl ?_
          refine lv_iadd X.1 X.2.1 dX9_look_35 ?_
          obtain ⟨t36, e_t36, h⟩ := o_b h
          refine q_ldI X hh e_t36 dX9_look_36 ?_
          refine lv_icmp_lt (tgt := 44) X.1 X.2.1 dX9_look_37 (by decide) (fun c37 => ?_) (fun c37 => ?_)
          · rw [if_pos c37] at h
            refine q_aload_n X dX9_look_44 rfl hl 0 rfl ?_
            obtain ⟨t45, e_t45, h⟩ := o_b h
            refine q_gR X hh fa_X9_47 rfl e_t45 dX9_look_45 ?_
            refine lv_sipush (v := (456 : Int32)) X.1 X.2.1 dX9_look_48 (by decide) ?_
            refine q_iload_n X dX9_look_51 rfl hl 1 rfl ?_
            refine lv_imul X.1 X.2.1 dX9_look_52 ?_
            refine lv_bipush (v := (38 : Int32)) X.1 X.2.1 dX9_look_53 (by decide) ?_
            refine q_iload_n X dX9_look_55 rfl hl 2 rfl ?_
            refine lv_imul X.1 X.2.1 dX9_look_56 ?_
            refine lv_iadd X.1 X.2.1 dX9_look_57 ?_
            refine q_iload_n X dX9_look_58 rfl hl 3 rfl ?_
            refine lv_iadd X.1 X.2.1 dX9_look_59 ?_
            obtain ⟨t60, e_t60, h⟩ := o_b h
            refine q_ldI X hh e_t60 dX9_look_60 ?_
            exact K_X9_look_61 X hret hlk hR hh hS (lk_sub hl [] rfl) h
          · rw [if_neg c37] at h
            exact K_X9_look_40 X hret hlk hR hh hS (lk_sub hl [] rfl) h
set_option maxRecDepth 100000 in
theorem M_X9_look (l : Launch) (D : va_G) (dA : Nat → ClassId) (base : Nat) (σ : hp) (t0 : Nat) (v1 : Int32) (v2 : Int32) (v3 : Int32) {z : Int32} (h : S_X9_look σ t0 v1 v2 v3 = some z) : mt l yX9_look cX9_look 4 (some .int) 1 20 D dA base σ [.ref t0, .int v1, .int v2, .int v3] (some (.int z)) σ 0 0 := by
  refine Met.ofW (cc := cX9_look) (maxL := 4) (ret := some .int) (by decide) rfl ?_
  intro p e s m args below meth c s₁ B hml hv
  obtain ⟨rfl, hh, hK⟩ := hv
  have X : cx p s m ([.ref t0, .int v1, .int v2, .int v3] : List Value).toArray c cX9_look RX9 4 D dA := ⟨B.exec, B.bytes, findClass_of_methodNamed B.named, hml, fun w hw => atoms_spec (ws := .code yX9_look cX9_look 4 (some .int) :: G) B.pre w (List.mem_cons_of_mem _ hw), hK⟩
  have hl := lk_entry [.inr (some t0), .inl v1, .inl v2, .inl v3] (n := 4) (Nat.le_of_ble_eq_true rfl)
  rw [lg_entry_eq]
  have hl : lk ((lg_sl ([.ref t0, .int v1, .int v2, .int v3] : List Value) ++ List.replicate (4 - (lg_sl ([.ref t0, .int v1, .int v2, .int v3] : List Value)).length) Slot.unset).toArray) 4 [(0, .inr (some t0)), (1, .inl v1), (2, .inl v2), (3, .inl v3)] := hl
  generalize (lg_sl ([.ref t0, .int v1, .int v2, .int v3] : List Value) ++ List.replicate (4 - (lg_sl ([.ref t0, .int v1, .int v2, .int v3] : List Value)).length) Slot.unset).toArray = ls at hl ⊢
  exact K_X9_look_0 X B.returns B.notSynchronized ⟨Nat.le_refl _, Nat.le_refl _⟩ hh va_S.rf hl h
set_option maxHeartbeats 4000000 in
set_option maxRecDepth 100000 in
theorem K_X9_told_91 {p : Program} {l : Launch} {e : Env} {R : Room} {s : State} {m : MethodId} {args : Array Value} {below : List Frame} {meth : Method} {c : Code} {D : va_G} {dA : Nat → ClassId} {base : Nat} {z : Int32} (X : cx p s m args c cX9_told RX9 3 D dA) (hret : meth.sig.returnType = some .int) (hlk : meth.locks = false) (hR : 1 ≤ R.frames ∧ 20 ≤ R.locals) {σ : hp} {w0 : Int32} {H : Heap} {locs : List Loc} {ls : Array Slot} (hh : hw D dA base σ H) (hS : hs base s.heap H locs) (hl : lk ls 3 []) (h : S_X9_told_91 σ w0 = some z) : W p l e R s m args below meth c H locs 0 0 (MQ below (qG D dA base (some (.int z)) σ) args s 0 0 (fun q => base ≤ q)) (F0 m 91 ls [.int w0]) := by
  unfold S_X9_told_91 at h
  cases h
  exact q_iret X hret hlk hh hS dX9_told_91
set_option maxHeartbeats 4000000 in
set_option maxRecDepth 100000 in
theorem K_X9_told_85 {p : Program} {l : Launch} {e : Env} {R : Room} {s : State} {m : MethodId} {args : Array Value} {below : List Frame} {meth : Method} {c : Code} {D : va_G} {dA : Nat → ClassId} {base : Nat} {z : Int32} (X : cx p s m args c cX9_told RX9 3 D dA) (hret : meth.sig.returnType = some .int) (hlk : meth.locks = false) (hR : 1 ≤ R.frames ∧ 20 ≤ R.locals) {σ : hp} {t0 : Nat} {v1 : Int32} {H : Heap} {locs : List Loc} {ls : Array Slot} (hh : hw D dA base σ H) (hS : hs base s.heap H locs) (hl : lk ls 3 [(0, .inr (some t0)), (1, .inl v1)]) (h : S_X9_told_85 σ t0 v1 = some z) : W p l e R s m args below meth c H locs 0 0 (MQ below (qG D dA base (some (.int z)) σ) args s 0 0 (fun q => base ≤ q)) (F0 m 85 ls []) := by
  unfold S_X9_told_85 at h
  refine q_aload_n X dX9_told_85 rfl hl 0 rfl ?_
  obtain ⟨t86, e_t86, h⟩ := o_b h
  refine q_gR X hh fa_X9_56 rfl e_t86 dX9_told_86 ?_
  refine q_iload_n X dX9_told_89 rfl hl 1 rfl ?_
  obtain ⟨t90, e_t90, h⟩ := o_b h
  refine q_ldI X hh e_t90 dX9_told_90 ?_
  exact K_X9_told_91 X hret hlk hR hh hS (lk_sub hl [] rfl) h
set_option maxHeartbeats 4000000 in
set_option maxRecDepth 100000 in
theorem K_X9_told_0 {p : Program} {l : Launch} {e : Env} {R : Room} {s : State} {m : MethodId} {args : Array Value} {below : List Frame} {meth : Method} {c : Code} {D : va_G} {dA : Nat → ClassId} {base : Nat} {z : Int32} (X : cx p s m args c cX9_told RX9 3 D dA) (hret : meth.sig.returnType = some .int) (hlk : meth.locks = false) (hR : 1 ≤ R.frames ∧ 20 ≤ R.locals) {σ : hp} {t0 : Nat} {v1 : Int32} {v2 : Int32} {H : Heap} {locs : List Loc} {ls : Array Slot} (hh : hw D dA base σ H) (hS : hs base s.heap H locs) (hl : lk ls 3 [(0, .inr (some t0)), (1, .inl v1), (2, .inl v2)]) (h : S_X9_told σ t0 v1 v2 = some z) : W p l e R s m args below meth c H locs 0 0 (MQ below (qG D dA base (some (.int z)) σ) args s 0 0 (fun q => base ≤ q)) (F0 m 0 ls []) := by
  unfold S_X9_told at h
  refine q_iload_n X dX9_told_0 rfl hl 1 rfl ?_
  obtain ⟨q1, e_q1, h⟩ := o_b h
  refine q_cS (As := [.int v1]) X hh hS hl cf_X9_121 rfl (M_X9_isSite l D dA base σ v1 e_q1) ⟨Nat.le_trans (by decide) hR.1, Nat.le_trans (by decide) hR.2⟩ (cat8 [] (Nat.le_of_ble_eq_true rfl)) dX9_told_1 ⟨Nat.zero_le _, Nat.zero_le _⟩ rfl rfl (fun H locs hh hS => ?_)
  refine lv_if_ne (tgt := 9) X.1 X.2.1 dX9_told_4 (by decide) (fun c4 => ?_) (fun c4 => ?_)
  · rw [if_neg c4] at h
    refine q_iload_n X dX9_told_9 rfl hl 2 rfl ?_
    by_cases c10_0 : v2 = (0 : Int32)
    · rw [if_pos c10_0] at h
      refine q_tin (tgt := 48) X dX9_told_10 c10_0 (by decide) (by decide) rfl (by decide) ?_
      refine q_aload_n X dX9_told_48 rfl hl 0 rfl ?_
      obtain ⟨t49, e_t49, h⟩ := o_b h
      refine q_gR X hh fa_X9_19 rfl e_t49 dX9_told_49 ?_
      refine q_iload_n X dX9_told_52 rfl hl 1 rfl ?_
      obtain ⟨t53, e_t53, h⟩ := o_b h
      refine q_ldI X hh e_t53 dX9_told_53 ?_
      cases h
      exact q_iret X hret hlk hh hS dX9_told_54
    · rw [if_neg c10_0] at h
      by_cases c10_1 : v2 = (1 : Int32)
      · rw [if_pos c10_1] at h
        refine q_tin (tgt := 55) X dX9_told_10 c10_1 (by decide) (by decide) rfl (by decide) ?_
        refine q_aload_n X dX9_told_55 rfl hl 0 rfl ?_
        obtain ⟨t56, e_t56, h⟩ := o_b h
        refine q_gR X hh fa_X9_25 rfl e_t56 dX9_told_56 ?_
        refine q_iload_n X dX9_told_59 rfl hl 1 rfl ?_
        obtain ⟨t60, e_t60, h⟩ := o_b h
        refine q_ldI X hh e_t60 dX9_told_60 ?_
        cases h
        exact q_iret X hret hlk hh hS dX9_told_61
      · rw [if_neg c10_1] at h
        by_cases c10_2 : v2 = (2 : Int32)
        · rw [if_pos c10_2] at h
          refine q_tin (tgt := 62) X dX9_told_10 c10_2 (by decide) (by decide) rfl (by decide) ?_
          refine q_aload_n X dX9_told_62 rfl hl 0 rfl ?_
          obtain ⟨t63, e_t63, h⟩ := o_b h
          refine q_gR X hh fa_X9_56 rfl e_t63 dX9_told_63 ?_
          refine q_iload_n X dX9_told_66 rfl hl 1 rfl ?_
          obtain ⟨t67, e_t67, h⟩ := o_b h
          refine q_ldI X hh e_t67 dX9_told_67 ?_
          refine lv_iconst (v := (2 : Int32)) X.1 X.2.1 dX9_told_68 (by decide) ?_
          refine lv_icmp_ne (tgt := 85) X.1 X.2.1 dX9_told_69 (by decide) (fun c69 => ?_) (fun c69 => ?_)
          · rw [if_neg c69] at h
            exact K_X9_told_85 X hret hlk hR hh hS (lk_sub hl [0, 1] rfl) h
          · rw [if_pos c69] at h
            refine q_aload_n X dX9_told_72 rfl hl 0 rfl ?_
            obtain ⟨t73, e_t73, h⟩ := o_b h
            refine q_gR X hh fa_X9_59 rfl e_t73 dX9_told_73 ?_
            refine q_iload_n X dX9_told_76 rfl hl 1 rfl ?_
            obtain ⟨t77, e_t77, h⟩ := o_b h
            refine q_ldZ X hh e_t77 dX9_told_77 ?_
            refine lv_if_ne (tgt := 85) X.1 X.2.1 dX9_told_78 (by decide) (fun c78 => ?_) (fun c78 => ?_)
            · rw [if_neg c78] at h
              exact K_X9_told_85 X hret hlk hR hh hS (lk_sub hl [0, 1] rfl) h
            · rw [if_pos c78] at h
              refine lv_iconst (v := (3 : Int32)) X.1 X.2.1 dX9_told_81 (by decide) ?_
              refine lv_goto (tgt := 91) X.1 X.2.1 dX9_told_82 (by decide) ?_
              exact K_X9_told_91 X hret hlk hR hh hS (lk_sub hl [] rfl) h
        · rw [if_neg c10_2] at h
          by_cases c10_3 : v2 = (3 : Int32)
          · rw [if_pos c10_3] at h
            refine q_tin (tgt := 92) X dX9_told_10 c10_3 (by decide) (by decide) rfl (by decide) ?_
            refine q_aload_n X dX9_told_92 rfl hl 0 rfl ?_
            obtain ⟨t93, e_t93, h⟩ := o_b h
            refine q_gR X hh fa_X9_75 rfl e_t93 dX9_told_93 ?_
            refine q_iload_n X dX9_told_96 rfl hl 1 rfl ?_
            obtain ⟨t97, e_t97, h⟩ := o_b h
            refine q_ldI X hh e_t97 dX9_told_97 ?_
            cases h
            exact q_iret X hret hlk hh hS dX9_told_98
          · rw [if_neg c10_3] at h
            by_cases c10_4 : v2 = (4 : Int32)
            · rw [if_pos c10_4] at h
              refine q_tin (tgt := 99) X dX9_told_10 c10_4 (by decide) (by decide) rfl (by decide) ?_
              refine q_aload_n X dX9_told_99 rfl hl 0 rfl ?_
              obtain ⟨t100, e_t100, h⟩ := o_b h
              refine q_gR X hh fa_X9_84 rfl e_t100 dX9_told_100 ?_
              refine q_iload_n X dX9_told_103 rfl hl 1 rfl ?_
              obtain ⟨t104, e_t104, h⟩ := o_b h
              refine q_ldI X hh e_t104 dX9_told_104 ?_
              cases h
              exact q_iret X hret hlk hh hS dX9_told_105
            · rw [if_neg c10_4] at h
              by_cases c10_5 : v2 = (5 : Int32)
              · rw [if_pos c10_5] at h
                refine q_tin (tgt := 106) X dX9_told_10 c10_5 (by decide) (by decide) rfl (by decide) ?_
                refine q_aload_n X dX9_told_106 rfl hl 0 rfl ?_
                obtain ⟨t107, e_t107, h⟩ := o_b h
                refine q_gR X hh fa_X9_38 rfl e_t107 dX9_told_107 ?_
                refine q_iload_n X dX9_told_110 rfl hl 1 rfl ?_
                obtain ⟨t111, e_t111, h⟩ := o_b h
                refine q_ldI X hh e_t111 dX9_told_111 ?_
                cases h
                exact q_iret X hret hlk hh hS dX9_told_112
              · rw [if_neg c10_5] at h
                have n10_0 := lv_neT (a := 0) c10_0 (by decide)
                have n10_1 := lv_neT (a := 1) c10_1 (by decide)
                have n10_2 := lv_neT (a := 2) c10_2 (by decide)
                have n10_3 := lv_neT (a := 3) c10_3 (by decide)
                have n10_4 := lv_neT (a := 4) c10_4 (by decide)
                have n10_5 := lv_neT (a := 5) c10_5 (by decide)
                refine lv_tableOut (tgt := 113) X.1 X.2.1 dX9_told_10 (by omega) (by decide) ?_
                refine lv_iconst (v := (-1 : Int32)) X.1 X.2.1 dX9_told_113 (by decide) ?_
                cases h
                exact q_iret X hret hlk hh hS dX9_told_114
  · rw [if_pos c4] at h
    refine lv_iconst (v := (-1 : Int32)) X.1 X.2.1 dX9_told_7 (by decide) ?_
    cases h
    exact q_iret X hret hlk hh hS dX9_told_8
set_option maxRecDepth 100000 in
theorem M_X9_told (l : Launch) (D : va_G) (dA : Nat → ClassId) (base : Nat) (σ : hp) (t0 : Nat) (v1 : Int32) (v2 : Int32) {z : Int32} (h : S_X9_told σ t0 v1 v2 = some z) : mt l yX9_told cX9_told 3 (some .int) 1 20 D dA base σ [.ref t0, .int v1, .int v2] (some (.int z)) σ 0 0 := by
  refine Met.ofW (cc := cX9_told) (maxL := 3) (ret := some .int) (by decide) rfl ?_
  intro p e s m args below meth c s₁ B hml hv
  obtain ⟨rfl, hh, hK⟩ := hv
  have X : cx p s m ([.ref t0, .int v1, .int v2] : List Value).toArray c cX9_told RX9 3 D dA := ⟨B.exec, B.bytes, findClass_of_methodNamed B.named, hml, fun w hw => atoms_spec (ws := .code yX9_told cX9_told 3 (some .int) :: G) B.pre w (List.mem_cons_of_mem _ hw), hK⟩
  have hl := lk_entry [.inr (some t0), .inl v1, .inl v2] (n := 3) (Nat.le_of_ble_eq_true rfl)
  rw [lg_entry_eq]
  have hl : lk ((lg_sl ([.ref t0, .int v1, .int v2] : List Value) ++ List.replicate (3 - (lg_sl ([.ref t0, .int v1, .int v2] : List Value)).length) Slot.unset).toArray) 3 [(0, .inr (some t0)), (1, .inl v1), (2, .inl v2)] := hl
  generalize (lg_sl ([.ref t0, .int v1, .int v2] : List Value) ++ List.replicate (3 - (lg_sl ([.ref t0, .int v1, .int v2] : List Value)).length) Slot.unset).toArray = ls at hl ⊢
  exact K_X9_told_0 X B.returns B.notSynchronized ⟨Nat.le_refl _, Nat.le_refl _⟩ hh va_S.rf hl h
