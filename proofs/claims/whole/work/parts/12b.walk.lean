/-! Walks: written by wip/whole/gen/emit.py. X4_sum X4_fillData X4_isData X4_x X4_y X4_isMessageWellFormed X4_hasHead X4_isControl X4_isGood X6_init X5_init -/
set_option maxHeartbeats 4000000 in
set_option maxRecDepth 100000 in
theorem K_X4_sum_63 {p : Program} {l : Launch} {e : Env} {R : Room} {s : State} {m : MethodId} {args : Array Value} {below : List Frame} {meth : Method} {c : Code} {D : va_G} {dA : Nat → ClassId} {base : Nat} {rec8 : hp → Nat → Int32 → Int32 → Int32 → Option (Int32)} {z : Int32} (X : cx p s m args c cX4_sum RX4 6 D dA) (hret : meth.sig.returnType = some .int) (hlk : meth.locks = false) (hR : 0 ≤ R.frames ∧ 0 ≤ R.locals) (hr8 : ∀ (σ : hp) (t0 : Nat) (v1 : Int32) (v2 : Int32) (v3 : Int32) (H : Heap) (locs : List Loc) (ls : Array Slot), hw D dA base σ H → hs base s.heap H locs → lk ls 6 [(0, .inr (some t0)), (1, .inl v1), (2, .inl v2), (3, .inl v3)] → rec8 σ t0 v1 v2 v3 = some z → W p l e R s m args below meth c H locs 0 0 (MQ below (qG D dA base (some (.int z)) σ) args s 0 0 (fun q => base ≤ q)) (F0 m 8 ls [])) {σ : hp} {t0 : Nat} {v1 : Int32} {v2 : Int32} {v3 : Int32} {H : Heap} {locs : List Loc} {ls : Array Slot} (hh : hw D dA base σ H) (hS : hs base s.heap H locs) (hl : lk ls 6 [(0, .inr (some t0)), (1, .inl v1), (2, .inl v2), (3, .inl v3)]) (h : S_X4_sum_63 rec8 σ t0 v1 v2 v3 = some z) : W p l e R s m args below meth c H locs 0 0 (MQ below (qG D dA base (some (.int z)) σ) args s 0 0 (fun q => base ≤ q)) (F0 m 63 ls []) := by
  unfold S_X4_sum_63 at h
  refine q_iinc (v := (-1 : Int32)) (lv' := [(3, .inl (v3 + (-1 : Int32))), (0, .inr (some t0)), (1, .inl v1), (2, .inl v2)]) X dX4_sum_63 hl 3 rfl (by decide) (by decide) rfl (fun ls hl => ?_)
  refine lv_goto (tgt := 8) X.1 X.2.1 dX4_sum_66 (by decide) ?_
  exact hr8 _ _ _ _ _ _ _ _ hh hS (lk_sub hl [1, 2, 3, 0] rfl) h
set_option maxHeartbeats 4000000 in
set_option maxRecDepth 100000 in
theorem K_X4_sum_8_b {p : Program} {l : Launch} {e : Env} {R : Room} {s : State} {m : MethodId} {args : Array Value} {below : List Frame} {meth : Method} {c : Code} {D : va_G} {dA : Nat → ClassId} {base : Nat} {rec8 : hp → Nat → Int32 → Int32 → Int32 → Option (Int32)} {z : Int32} (X : cx p s m args c cX4_sum RX4 6 D dA) (hret : meth.sig.returnType = some .int) (hlk : meth.locks = false) (hR : 0 ≤ R.frames ∧ 0 ≤ R.locals) (hr8 : ∀ (σ : hp) (t0 : Nat) (v1 : Int32) (v2 : Int32) (v3 : Int32) (H : Heap) (locs : List Loc) (ls : Array Slot), hw D dA base σ H → hs base s.heap H locs → lk ls 6 [(0, .inr (some t0)), (1, .inl v1), (2, .inl v2), (3, .inl v3)] → rec8 σ t0 v1 v2 v3 = some z → W p l e R s m args below meth c H locs 0 0 (MQ below (qG D dA base (some (.int z)) σ) args s 0 0 (fun q => base ≤ q)) (F0 m 8 ls [])) {σ : hp} {t0 : Nat} {v1 : Int32} {v2 : Int32} {v3 : Int32} {H : Heap} {locs : List Loc} {ls : Array Slot} (hh : hw D dA base σ H) (hS : hs base s.heap H locs) (hl : lk ls 6 [(0, .inr (some t0)), (1, .inl v1), (2, .inl v2), (3, .inl v3)]) (h : S_X4_sum_8_b rec8 σ t0 v1 v2 v3 = some z) : W p l e R s m args below meth c H locs 0 0 (MQ below (qG D dA base (some (.int z)) σ) args s 0 0 (fun q => base ≤ q)) (F0 m 8 ls []) := by
  unfold S_X4_sum_8_b at h
  refine q_iload_n X dX4_sum_8 rfl hl 3 rfl ?_
  refine lv_if_le (tgt := 69) X.1 X.2.1 dX4_sum_9 (by decide) (fun c9 => ?_) (fun c9 => ?_)
  · rw [if_pos c9] at h
    refine q_iload_n X dX4_sum_69 rfl hl 1 rfl ?_
    cases h
    exact q_iret X hret hlk hh hS dX4_sum_70
  · rw [if_neg c9] at h
    refine q_iload_n X dX4_sum_12 rfl hl 1 rfl ?_
    refine q_istore (lv' := [(4, .inl v1), (0, .inr (some t0)), (1, .inl v1), (2, .inl v2), (3, .inl v3)]) X dX4_sum_13 hl (by decide) rfl (fun ls hl => ?_)
    refine q_iload_n X dX4_sum_15 rfl hl 2 rfl ?_
    refine lv_iconst (v := (1 : Int32)) X.1 X.2.1 dX4_sum_16 (by decide) ?_
    refine lv_ishl X.1 X.2.1 dX4_sum_17 ?_
    refine q_iload_n X dX4_sum_18 rfl hl 2 rfl ?_
    refine lv_bipush (v := (15 : Int32)) X.1 X.2.1 dX4_sum_19 (by decide) ?_
    refine lv_ishr X.1 X.2.1 dX4_sum_21 ?_
    refine lv_ior X.1 X.2.1 dX4_sum_22 ?_
    refine q_ldc X ck_X4_48 dX4_sum_23 ?_
    refine lv_iand X.1 X.2.1 dX4_sum_25 ?_
    refine q_istore (lv' := [(5, .inl (((v1 <<< ((1 : Int32) &&& 31)) ||| (v1 >>> ((15 : Int32) &&& 31))) &&& (65535 : Int32))), (4, .inl v1), (0, .inr (some t0)), (1, .inl v1), (2, .inl v2), (3, .inl v3)]) X dX4_sum_26 hl (by decide) rfl (fun ls hl => ?_)
    refine q_iload X dX4_sum_28 hl 0 rfl ?_
    refine q_aload_n X dX4_sum_30 rfl hl 2 rfl ?_
    obtain ⟨t31, e_t31, h⟩ := o_b h
    refine q_gR X hh fa_X4_9 rfl e_t31 dX4_sum_31 ?_
    refine lv_bipush (v := (38 : Int32)) X.1 X.2.1 dX4_sum_34 (by decide) ?_
    refine q_iload_n X dX4_sum_36 rfl hl 5 rfl ?_
    refine lv_isub X.1 X.2.1 dX4_sum_37 ?_
    obtain ⟨t38, e_t38, h⟩ := o_b h
    refine q_ldI X hh e_t38 dX4_sum_38 ?_
    refine lv_iadd X.1 X.2.1 dX4_sum_39 ?_
    refine q_ldc X ck_X4_48 dX4_sum_40 ?_
    refine lv_iand X.1 X.2.1 dX4_sum_42 ?_
    refine q_istore_n (lv' := [(1, .inl (((((v1 <<< ((1 : Int32) &&& 31)) ||| (v1 >>> ((15 : Int32) &&& 31))) &&& (65535 : Int32)) + t38) &&& (65535 : Int32))), (5, .inl (((v1 <<< ((1 : Int32) &&& 31)) ||| (v1 >>> ((15 : Int32) &&& 31))) &&& (65535 : Int32))), (4, .inl v1), (0, .inr (some t0)), (2, .inl v2), (3, .inl v3)]) X dX4_sum_43 rfl hl (by decide) rfl (fun ls hl => ?_)
    refine q_iload_n X dX4_sum_44 rfl hl 4 rfl ?_
    refine q_iload_n X dX4_sum_45 rfl hl 0 rfl ?_
    refine q_iload_n X dX4_sum_46 rfl hl 5 rfl ?_
    refine lv_ixor X.1 X.2.1 dX4_sum_47 ?_
    refine lv_iadd X.1 X.2.1 dX4_sum_48 ?_
    refine q_ldc X ck_X4_48 dX4_sum_49 ?_
    refine lv_iand X.1 X.2.1 dX4_sum_51 ?_
    refine q_istore_n (lv' := [(2, .inl ((v2 + ((((((v1 <<< ((1 : Int32) &&& 31)) ||| (v1 >>> ((15 : Int32) &&& 31))) &&& (65535 : Int32)) + t38) &&& (65535 : Int32)) ^^^ v3)) &&& (65535 : Int32))), (1, .inl (((((v1 <<< ((1 : Int32) &&& 31)) ||| (v1 >>> ((15 : Int32) &&& 31))) &&& (65535 : Int32)) + t38) &&& (65535 : Int32))), (5, .inl (((v1 <<< ((1 : Int32) &&& 31)) ||| (v1 >>> ((15 : Int32) &&& 31))) &&& (65535 : Int32))), (4, .inl v1), (0, .inr (some t0)), (3, .inl v3)]) X dX4_sum_52 rfl hl (by decide) rfl (fun ls hl => ?_)
    refine q_iload_n X dX4_sum_53 rfl hl 1 rfl ?_
    refine q_iload X dX4_sum_54 hl 3 rfl ?_
    refine lv_icmp_gt (tgt := 63) X.1 X.2.1 dX4_sum_56 (by decide) (fun c56 => ?_) (fun c56 => ?_)
    · rw [if_pos c56] at h
      exact K_X4_sum_63 X hret hlk hR hr8 hh hS (lk_sub hl [4, 1, 0, 5] rfl) h
    · rw [if_neg c56] at h
      refine q_iload_n X dX4_sum_59 rfl hl 1 rfl ?_
      refine q_iload_n X dX4_sum_60 rfl hl 0 rfl ?_
      refine lv_ixor X.1 X.2.1 dX4_sum_61 ?_
      refine q_istore_n (lv' := [(1, .inl ((((((v1 <<< ((1 : Int32) &&& 31)) ||| (v1 >>> ((15 : Int32) &&& 31))) &&& (65535 : Int32)) + t38) &&& (65535 : Int32)) ^^^ ((v2 + ((((((v1 <<< ((1 : Int32) &&& 31)) ||| (v1 >>> ((15 : Int32) &&& 31))) &&& (65535 : Int32)) + t38) &&& (65535 : Int32)) ^^^ v3)) &&& (65535 : Int32)))), (2, .inl ((v2 + ((((((v1 <<< ((1 : Int32) &&& 31)) ||| (v1 >>> ((15 : Int32) &&& 31))) &&& (65535 : Int32)) + t38) &&& (65535 : Int32)) ^^^ v3)) &&& (65535 : Int32))), (5, .inl (((v1 <<< ((1 : Int32) &&& 31)) ||| (v1 >>> ((15 : Int32) &&& 31))) &&& (65535 : Int32))), (4, .inl v1), (0, .inr (some t0)), (3, .inl v3)]) X dX4_sum_62 rfl hl (by decide) rfl (fun ls hl => ?_)
      exact K_X4_sum_63 X hret hlk hR hr8 hh hS (lk_sub hl [4, 0, 1, 5] rfl) h
theorem K_X4_sum_8 {p : Program} {l : Launch} {e : Env} {R : Room} {s : State} {m : MethodId} {args : Array Value} {below : List Frame} {meth : Method} {c : Code} {D : va_G} {dA : Nat → ClassId} {base : Nat} {z : Int32} (X : cx p s m args c cX4_sum RX4 6 D dA) (hret : meth.sig.returnType = some .int) (hlk : meth.locks = false) (hR : 0 ≤ R.frames ∧ 0 ≤ R.locals) : ∀ (n : Nat) (σ : hp) (t0 : Nat) (v1 : Int32) (v2 : Int32) (v3 : Int32) (H : Heap) (locs : List Loc) (ls : Array Slot), hw D dA base σ H → hs base s.heap H locs → lk ls 6 [(0, .inr (some t0)), (1, .inl v1), (2, .inl v2), (3, .inl v3)] → S_X4_sum_8 n σ t0 v1 v2 v3 = some z → W p l e R s m args below meth c H locs 0 0 (MQ below (qG D dA base (some (.int z)) σ) args s 0 0 (fun q => base ≤ q)) (F0 m 8 ls []) := by
  intro n
  induction n with
  | zero => intro σ t0 v1 v2 v3 H locs ls hh hS hl h; cases h
  | succ n ih => intro σ t0 v1 v2 v3 H locs ls hh hS hl h; exact K_X4_sum_8_b X hret hlk hR ih hh hS hl h
set_option maxHeartbeats 4000000 in
set_option maxRecDepth 100000 in
theorem K_X4_sum_0 {p : Program} {l : Launch} {e : Env} {R : Room} {s : State} {m : MethodId} {args : Array Value} {below : List Frame} {meth : Method} {c : Code} {D : va_G} {dA : Nat → ClassId} {base : Nat} {z : Int32} (X : cx p s m args c cX4_sum RX4 6 D dA) (hret : meth.sig.returnType = some .int) (hlk : meth.locks = false) (hR : 0 ≤ R.frames ∧ 0 ≤ R.locals) {σ : hp} {t0 : Nat} {H : Heap} {locs : List Loc} {ls : Array Slot} (hh : hw D dA base σ H) (hS : hs base s.heap H locs) (hl : lk ls 6 [(0, .inr (some t0))]) (h : S_X4_sum σ t0 = some z) : W p l e R s m args below meth c H locs 0 0 (MQ below (qG D dA base (some (.int z)) σ) args s 0 0 (fun q => base ≤ q)) (F0 m 0 ls []) := by
  unfold S_X4_sum at h
  refine q_ldc X ck_X4_48 dX4_sum_0 ?_
  refine q_istore_n (lv' := [(1, .inl (65535 : Int32)), (0, .inr (some t0))]) X dX4_sum_2 rfl hl (by decide) rfl (fun ls hl => ?_)
  refine lv_iconst (v := (0 : Int32)) X.1 X.2.1 dX4_sum_3 (by decide) ?_
  refine q_istore_n (lv' := [(2, .inl (0 : Int32)), (1, .inl (65535 : Int32)), (0, .inr (some t0))]) X dX4_sum_4 rfl hl (by decide) rfl (fun ls hl => ?_)
  refine lv_bipush (v := (32 : Int32)) X.1 X.2.1 dX4_sum_5 (by decide) ?_
  refine q_istore_n (lv' := [(3, .inl (32 : Int32)), (2, .inl (0 : Int32)), (1, .inl (65535 : Int32)), (0, .inr (some t0))]) X dX4_sum_7 rfl hl (by decide) rfl (fun ls hl => ?_)
  exact K_X4_sum_8 X hret hlk hR FU _ _ _ _ _ _ _ _ hh hS (lk_sub hl [3, 2, 1, 0] rfl) h
set_option maxRecDepth 100000 in
theorem M_X4_sum (l : Launch) (D : va_G) (dA : Nat → ClassId) (base : Nat) (σ : hp) (t0 : Nat) {z : Int32} (h : S_X4_sum σ t0 = some z) : mt l yX4_sum cX4_sum 6 (some .int) 0 0 D dA base σ [.ref t0] (some (.int z)) σ 0 0 := by
  refine Met.ofW (cc := cX4_sum) (maxL := 6) (ret := some .int) (by decide) rfl ?_
  intro p e s m args below meth c s₁ B hml hv
  obtain ⟨rfl, hh, hK⟩ := hv
  have X : cx p s m ([.ref t0] : List Value).toArray c cX4_sum RX4 6 D dA := ⟨B.exec, B.bytes, findClass_of_methodNamed B.named, hml, fun w hw => atoms_spec (ws := .code yX4_sum cX4_sum 6 (some .int) :: G) B.pre w (List.mem_cons_of_mem _ hw), hK⟩
  have hl := lk_entry [.inr (some t0)] (n := 6) (Nat.le_of_ble_eq_true rfl)
  rw [lg_entry_eq]
  have hl : lk ((lg_sl ([.ref t0] : List Value) ++ List.replicate (6 - (lg_sl ([.ref t0] : List Value)).length) Slot.unset).toArray) 6 [(0, .inr (some t0))] := hl
  generalize (lg_sl ([.ref t0] : List Value) ++ List.replicate (6 - (lg_sl ([.ref t0] : List Value)).length) Slot.unset).toArray = ls at hl ⊢
  exact K_X4_sum_0 X B.returns B.notSynchronized ⟨Nat.le_refl _, Nat.le_refl _⟩ hh va_S.rf hl h
theorem ke_X4_fillData_56 {rec20 : hp → Nat → Int32 → Int32 → Option Nat → Int32 → Option (hp)} {z : hp} (hm20 : ∀ (σ : hp) (t0 : Nat) (v1 : Int32) (v2 : Int32) (v3 : Option Nat) (v4 : Int32), rec20 σ t0 v1 v2 v3 v4 = some z → eq4 σ z) {σ : hp} {t0 : Nat} {v1 : Int32} {v2 : Int32} {v3 : Option Nat} {v4 : Int32} {w0 : Option Nat} {w1 : Int32} {w2 : Int32} (h : S_X4_fillData_56 rec20 σ t0 v1 v2 v3 v4 w0 w1 w2 = some z) : eq4 σ z := by
  unfold S_X4_fillData_56 at h
  obtain ⟨s56, e_s56, h⟩ := o_b h
  exact ((e_stI e_s56)).tr (hm20 _ _ _ _ _ _ h)
set_option maxHeartbeats 4000000 in
set_option maxRecDepth 100000 in
theorem K_X4_fillData_56 {p : Program} {l : Launch} {e : Env} {R : Room} {s : State} {m : MethodId} {args : Array Value} {below : List Frame} {meth : Method} {c : Code} {D : va_G} {dA : Nat → ClassId} {base : Nat} {rec20 : hp → Nat → Int32 → Int32 → Option Nat → Int32 → Option (hp)} {z : hp} (X : cx p s m args c cX4_fillData RX4 5 D dA) (hret : meth.sig.returnType = none) (hlk : meth.locks = false) (hR : 1 ≤ R.frames ∧ 25 ≤ R.locals) (hr20 : ∀ (σ : hp) (t0 : Nat) (v1 : Int32) (v2 : Int32) (v3 : Option Nat) (v4 : Int32) (H : Heap) (locs : List Loc) (ls : Array Slot), hw D dA base σ H → hs base s.heap H locs → lk ls 5 [(0, .inr (some t0)), (1, .inl v1), (2, .inl v2), (3, .inr v3), (4, .inl v4)] → rec20 σ t0 v1 v2 v3 v4 = some z → W p l e R s m args below meth c H locs 0 0 (MQ below (qG D dA base none z) args s 0 0 (fun q => base ≤ q)) (F0 m 20 ls [])) {σ : hp} {t0 : Nat} {v1 : Int32} {v2 : Int32} {v3 : Option Nat} {v4 : Int32} {w0 : Option Nat} {w1 : Int32} {w2 : Int32} {H : Heap} {locs : List Loc} {ls : Array Slot} (hh : hw D dA base σ H) (hS : hs base s.heap H locs) (hl : lk ls 5 [(0, .inr (some t0)), (1, .inl v1), (2, .inl v2), (3, .inr v3), (4, .inl v4)]) (h : S_X4_fillData_56 rec20 σ t0 v1 v2 v3 v4 w0 w1 w2 = some z) : W p l e R s m args below meth c H locs 0 0 (MQ below (qG D dA base none z) args s 0 0 (fun q => base ≤ q)) (F0 m 56 ls [.int w2, .int w1, va_rf w0]) := by
  unfold S_X4_fillData_56 at h
  obtain ⟨s56, e_s56, h⟩ := o_b h
  refine q_stI X hh hS e_s56 dX4_fillData_56 (fun H locs hh hS => ?_)
  refine q_iinc (v := (1 : Int32)) (lv' := [(4, .inl (v4 + (1 : Int32))), (0, .inr (some t0)), (1, .inl v1), (2, .inl v2), (3, .inr v3)]) X dX4_fillData_57 hl 4 rfl (by decide) (by decide) rfl (fun ls hl => ?_)
  refine lv_goto (tgt := 20) X.1 X.2.1 dX4_fillData_60 (by decide) ?_
  exact hr20 _ _ _ _ _ _ _ _ _ hh hS (lk_sub hl [1, 2, 3, 4, 0] rfl) h
theorem ke_X4_fillData_20_b {rec20 : hp → Nat → Int32 → Int32 → Option Nat → Int32 → Option (hp)} {z : hp} (hm20 : ∀ (σ : hp) (t0 : Nat) (v1 : Int32) (v2 : Int32) (v3 : Option Nat) (v4 : Int32), rec20 σ t0 v1 v2 v3 v4 = some z → eq4 σ z) {σ : hp} {t0 : Nat} {v1 : Int32} {v2 : Int32} {v3 : Option Nat} {v4 : Int32} (h : S_X4_fillData_20_b rec20 σ t0 v1 v2 v3 v4 = some z) : eq4 σ z := by
  unfold S_X4_fillData_20_b at h
  by_cases c24 : (31 : Int32) ≤ v4
  · rw [if_pos c24] at h
    obtain ⟨b82, e_b82, h⟩ := o_b h
    obtain ⟨q82, e_q82, h⟩ := o_b h
    obtain ⟨b89, e_b89, h⟩ := o_b h
    obtain ⟨q89, e_q89, h⟩ := o_b h
    cases h
    exact (ke_X4_fillHead_0 e_q89)
  · rw [if_neg c24] at h
    obtain ⟨t28, e_t28, h⟩ := o_b h
    obtain ⟨t39, e_t39, h⟩ := o_b h
    by_cases c42 : t39 ≤ v4
    · rw [if_pos c42] at h
      exact (ke_X4_fillData_56 hm20 h)
    · rw [if_neg c42] at h
      obtain ⟨t46, e_t46, h⟩ := o_b h
      obtain ⟨t51, e_t51, h⟩ := o_b h
      exact (ke_X4_fillData_56 hm20 h)
theorem ke_X4_fillData_20 {z : hp} : ∀ (n : Nat) (σ : hp) (t0 : Nat) (v1 : Int32) (v2 : Int32) (v3 : Option Nat) (v4 : Int32), S_X4_fillData_20 n σ t0 v1 v2 v3 v4 = some z → eq4 σ z := by
  intro n
  induction n with
  | zero => intro σ t0 v1 v2 v3 v4 h; cases h
  | succ n ih => intro σ t0 v1 v2 v3 v4 h; exact ke_X4_fillData_20_b ih h
set_option maxHeartbeats 4000000 in
set_option maxRecDepth 100000 in
theorem K_X4_fillData_20_b {p : Program} {l : Launch} {e : Env} {R : Room} {s : State} {m : MethodId} {args : Array Value} {below : List Frame} {meth : Method} {c : Code} {D : va_G} {dA : Nat → ClassId} {base : Nat} {rec20 : hp → Nat → Int32 → Int32 → Option Nat → Int32 → Option (hp)} {z : hp} (X : cx p s m args c cX4_fillData RX4 5 D dA) (hret : meth.sig.returnType = none) (hlk : meth.locks = false) (hR : 1 ≤ R.frames ∧ 25 ≤ R.locals) (hr20 : ∀ (σ : hp) (t0 : Nat) (v1 : Int32) (v2 : Int32) (v3 : Option Nat) (v4 : Int32) (H : Heap) (locs : List Loc) (ls : Array Slot), hw D dA base σ H → hs base s.heap H locs → lk ls 5 [(0, .inr (some t0)), (1, .inl v1), (2, .inl v2), (3, .inr v3), (4, .inl v4)] → rec20 σ t0 v1 v2 v3 v4 = some z → W p l e R s m args below meth c H locs 0 0 (MQ below (qG D dA base none z) args s 0 0 (fun q => base ≤ q)) (F0 m 20 ls [])) {σ : hp} {t0 : Nat} {v1 : Int32} {v2 : Int32} {v3 : Option Nat} {v4 : Int32} {H : Heap} {locs : List Loc} {ls : Array Slot} (hh : hw D dA base σ H) (hS : hs base s.heap H locs) (hl : lk ls 5 [(0, .inr (some t0)), (1, .inl v1), (2, .inl v2), (3, .inr v3), (4, .inl v4)]) (h : S_X4_fillData_20_b rec20 σ t0 v1 v2 v3 v4 = some z) : W p l e R s m args below meth c H locs 0 0 (MQ below (qG D dA base none z) args s 0 0 (fun q => base ≤ q)) (F0 m 20 ls []) := by
  unfold S_X4_fillData_20_b at h
  refine q_iload X dX4_fillData_20 hl 4 rfl ?_
  refine lv_bipush (v := (31 : Int32)) X.1 X.2.1 dX4_fillData_22 (by decide) ?_
  refine lv_icmp_ge (tgt := 63) X.1 X.2.1 dX4_fillData_24 (by decide) (fun c24 => ?_) (fun c24 => ?_)
  · rw [if_pos c24] at h
    refine lv_sipush (v := (128 : Int32)) X.1 X.2.1 dX4_fillData_63 (by decide) ?_
    refine lv_bipush (v := (8 : Int32)) X.1 X.2.1 dX4_fillData_66 (by decide) ?_
    refine q_iload_n X dX4_fillData_68 rfl hl 1 rfl ?_
    refine lv_imul X.1 X.2.1 dX4_fillData_69 ?_
    refine lv_iadd X.1 X.2.1 dX4_fillData_70 ?_
    refine q_iload_n X dX4_fillData_71 rfl hl 2 rfl ?_
    refine lv_iadd X.1 X.2.1 dX4_fillData_72 ?_
    refine q_istore (lv' := [(4, .inl (((128 : Int32) + ((8 : Int32) * v1)) + v2)), (0, .inr (some t0)), (1, .inl v1), (2, .inl v2), (3, .inr v3)]) X dX4_fillData_73 hl (by decide) rfl (fun ls hl => ?_)
    refine q_aload_n X dX4_fillData_75 rfl hl 1 rfl ?_
    refine lv_iconst (v := (1 : Int32)) X.1 X.2.1 dX4_fillData_76 (by decide) ?_
    refine q_iload X dX4_fillData_77 hl 0 rfl ?_
    refine q_ldc X ck_X4_17 dX4_fillData_79 ?_
    refine q_aload_n X dX4_fillData_81 rfl hl 1 rfl ?_
    obtain ⟨b82, e_b82, h⟩ := o_b h
    obtain ⟨q82, e_q82, h⟩ := o_b h
    refine q_cV (As := []) X hh hS hl cf_X4_26 (cN := 4) rfl rfl e_b82 rfl (M_X4_sum l D dA base σ b82  e_q82) ⟨Nat.le_trans (by decide) hR.1, Nat.le_trans (by decide) hR.2⟩ (cat8 [.inl (43690 : Int32), .inl (((128 : Int32) + ((8 : Int32) * v1)) + v2), .inl (1 : Int32), .inr (some t0)] (Nat.le_of_ble_eq_true rfl)) dX4_fillData_82 ⟨Nat.zero_le _, Nat.zero_le _⟩ rfl rfl (fun H locs hh hS => ?_)
    refine q_iload X dX4_fillData_85 hl 0 rfl ?_
    refine lv_ixor X.1 X.2.1 dX4_fillData_87 ?_
    refine lv_isub X.1 X.2.1 dX4_fillData_88 ?_
    obtain ⟨b89, e_b89, h⟩ := o_b h
    obtain ⟨q89, e_q89, h⟩ := o_b h
    refine q_cV (As := [.int (1 : Int32), .int (((128 : Int32) + ((8 : Int32) * v1)) + v2), .int ((43690 : Int32) - (q82 ^^^ (((128 : Int32) + ((8 : Int32) * v1)) + v2)))]) X hh hS hl cf_X4_18 (cN := 4) rfl rfl e_b89 rfl (M_X4_fillHead l D dA base σ b89 (1 : Int32) (((128 : Int32) + ((8 : Int32) * v1)) + v2) ((43690 : Int32) - (q82 ^^^ (((128 : Int32) + ((8 : Int32) * v1)) + v2))) e_q89) ⟨Nat.le_trans (by decide) hR.1, Nat.le_trans (by decide) hR.2⟩ (cat8 [] (Nat.le_of_ble_eq_true rfl)) dX4_fillData_89 ⟨Nat.zero_le _, Nat.zero_le _⟩ rfl rfl (fun H locs hh hS => ?_)
    cases h
    exact q_vret X hret hlk hh hS dX4_fillData_92
  · rw [if_neg c24] at h
    refine q_aload_n X dX4_fillData_27 rfl hl 0 rfl ?_
    obtain ⟨t28, e_t28, h⟩ := o_b h
    refine q_gR X hh fa_X4_9 rfl e_t28 dX4_fillData_28 ?_
    refine lv_bipush (v := (7 : Int32)) X.1 X.2.1 dX4_fillData_31 (by decide) ?_
    refine q_iload X dX4_fillData_33 hl 4 rfl ?_
    refine lv_iadd X.1 X.2.1 dX4_fillData_35 ?_
    refine q_iload X dX4_fillData_36 hl 4 rfl ?_
    refine q_aload_n X dX4_fillData_38 rfl hl 3 rfl ?_
    obtain ⟨t39, e_t39, h⟩ := o_b h
    refine q_gI X hh fa_X4_22 rfl e_t39 dX4_fillData_39 ?_
    refine lv_icmp_ge (tgt := 55) X.1 X.2.1 dX4_fillData_42 (by decide) (fun c42 => ?_) (fun c42 => ?_)
    · rw [if_pos c42] at h
      refine lv_iconst (v := (0 : Int32)) X.1 X.2.1 dX4_fillData_55 (by decide) ?_
      exact K_X4_fillData_56 X hret hlk hR hr20 hh hS (lk_sub hl [0, 1, 2, 3, 4] rfl) h
    · rw [if_neg c42] at h
      refine q_aload_n X dX4_fillData_45 rfl hl 3 rfl ?_
      obtain ⟨t46, e_t46, h⟩ := o_b h
      refine q_gR X hh fa_X4_25 rfl e_t46 dX4_fillData_46 ?_
      refine q_iload X dX4_fillData_49 hl 4 rfl ?_
      obtain ⟨t51, e_t51, h⟩ := o_b h
      refine q_ldI X hh e_t51 dX4_fillData_51 ?_
      refine lv_goto (tgt := 56) X.1 X.2.1 dX4_fillData_52 (by decide) ?_
      exact K_X4_fillData_56 X hret hlk hR hr20 hh hS (lk_sub hl [0, 1, 2, 3, 4] rfl) h
theorem K_X4_fillData_20 {p : Program} {l : Launch} {e : Env} {R : Room} {s : State} {m : MethodId} {args : Array Value} {below : List Frame} {meth : Method} {c : Code} {D : va_G} {dA : Nat → ClassId} {base : Nat} {z : hp} (X : cx p s m args c cX4_fillData RX4 5 D dA) (hret : meth.sig.returnType = none) (hlk : meth.locks = false) (hR : 1 ≤ R.frames ∧ 25 ≤ R.locals) : ∀ (n : Nat) (σ : hp) (t0 : Nat) (v1 : Int32) (v2 : Int32) (v3 : Option Nat) (v4 : Int32) (H : Heap) (locs : List Loc) (ls : Array Slot), hw D dA base σ H → hs base s.heap H locs → lk ls 5 [(0, .inr (some t0)), (1, .inl v1), (2, .inl v2), (3, .inr v3), (4, .inl v4)] → S_X4_fillData_20 n σ t0 v1 v2 v3 v4 = some z → W p l e R s m args below meth c H locs 0 0 (MQ below (qG D dA base none z) args s 0 0 (fun q => base ≤ q)) (F0 m 20 ls []) := by
  intro n
  induction n with
  | zero => intro σ t0 v1 v2 v3 v4 H locs ls hh hS hl h; cases h
  | succ n ih => intro σ t0 v1 v2 v3 v4 H locs ls hh hS hl h; exact K_X4_fillData_20_b X hret hlk hR ih hh hS hl h
theorem ke_X4_fillData_0 {z : hp} {σ : hp} {t0 : Nat} {v1 : Int32} {v2 : Int32} {v3 : Option Nat} (h : S_X4_fillData σ t0 v1 v2 v3 = some z) : eq4 σ z := by
  unfold S_X4_fillData at h
  obtain ⟨s3, e_s3, h⟩ := o_b h
  obtain ⟨t7, e_t7, h⟩ := o_b h
  obtain ⟨t13, e_t13, h⟩ := o_b h
  obtain ⟨s16, e_s16, h⟩ := o_b h
  exact (((e_pI e_s3)).tr (e_stI e_s16)).tr (ke_X4_fillData_20 FU _ _ _ _ _ _ h)
set_option maxHeartbeats 4000000 in
set_option maxRecDepth 100000 in
theorem K_X4_fillData_0 {p : Program} {l : Launch} {e : Env} {R : Room} {s : State} {m : MethodId} {args : Array Value} {below : List Frame} {meth : Method} {c : Code} {D : va_G} {dA : Nat → ClassId} {base : Nat} {z : hp} (X : cx p s m args c cX4_fillData RX4 5 D dA) (hret : meth.sig.returnType = none) (hlk : meth.locks = false) (hR : 1 ≤ R.frames ∧ 25 ≤ R.locals) {σ : hp} {t0 : Nat} {v1 : Int32} {v2 : Int32} {v3 : Option Nat} {H : Heap} {locs : List Loc} {ls : Array Slot} (hh : hw D dA base σ H) (hS : hs base s.heap H locs) (hl : lk ls 5 [(0, .inr (some t0)), (1, .inl v1), (2, .inl v2), (3, .inr v3)]) (h : S_X4_fillData σ t0 v1 v2 v3 = some z) : W p l e R s m args below meth c H locs 0 0 (MQ below (qG D dA base none z) args s 0 0 (fun q => base ≤ q)) (F0 m 0 ls []) := by
  unfold S_X4_fillData at h
  refine q_aload_n X dX4_fillData_0 rfl hl 0 rfl ?_
  refine lv_bipush (v := (38 : Int32)) X.1 X.2.1 dX4_fillData_1 (by decide) ?_
  obtain ⟨s3, e_s3, h⟩ := o_b h
  refine q_pI X hh hS fp_X4_13 (fun h => by cases h) rfl e_s3 dX4_fillData_3 (fun H locs hh hS => ?_)
  refine q_aload_n X dX4_fillData_6 rfl hl 0 rfl ?_
  obtain ⟨t7, e_t7, h⟩ := o_b h
  refine q_gR X hh fa_X4_9 rfl e_t7 dX4_fillData_7 ?_
  refine lv_bipush (v := (6 : Int32)) X.1 X.2.1 dX4_fillData_10 (by decide) ?_
  refine q_aload_n X dX4_fillData_12 rfl hl 3 rfl ?_
  obtain ⟨t13, e_t13, h⟩ := o_b h
  refine q_gI X hh fa_X4_22 rfl e_t13 dX4_fillData_13 ?_
  obtain ⟨s16, e_s16, h⟩ := o_b h
  refine q_stI X hh hS e_s16 dX4_fillData_16 (fun H locs hh hS => ?_)
  refine lv_iconst (v := (0 : Int32)) X.1 X.2.1 dX4_fillData_17 (by decide) ?_
  refine q_istore (lv' := [(4, .inl (0 : Int32)), (0, .inr (some t0)), (1, .inl v1), (2, .inl v2), (3, .inr v3)]) X dX4_fillData_18 hl (by decide) rfl (fun ls hl => ?_)
  exact K_X4_fillData_20 X hret hlk hR FU _ _ _ _ _ _ _ _ _ hh hS (lk_sub hl [1, 2, 3, 4, 0] rfl) h
set_option maxRecDepth 100000 in
theorem M_X4_fillData (l : Launch) (D : va_G) (dA : Nat → ClassId) (base : Nat) (σ : hp) (t0 : Nat) (v1 : Int32) (v2 : Int32) (v3 : Option Nat) {z : hp} (h : S_X4_fillData σ t0 v1 v2 v3 = some z) : mt l yX4_fillData cX4_fillData 5 (none) 1 25 D dA base σ [.ref t0, .int v1, .int v2, va_rf v3] none z 0 0 := by
  refine Met.ofW (cc := cX4_fillData) (maxL := 5) (ret := none) (by decide) rfl ?_
  intro p e s m args below meth c s₁ B hml hv
  obtain ⟨rfl, hh, hK⟩ := hv
  have X : cx p s m ([.ref t0, .int v1, .int v2, va_rf v3] : List Value).toArray c cX4_fillData RX4 5 D dA := ⟨B.exec, B.bytes, findClass_of_methodNamed B.named, hml, fun w hw => atoms_spec (ws := .code yX4_fillData cX4_fillData 5 (none) :: G) B.pre w (List.mem_cons_of_mem _ hw), hK⟩
  have hl := lk_entry [.inr (some t0), .inl v1, .inl v2, .inr v3] (n := 5) (Nat.le_of_ble_eq_true rfl)
  rw [lg_entry_eq]
  have hl : lk ((lg_sl ([.ref t0, .int v1, .int v2, va_rf v3] : List Value) ++ List.replicate (5 - (lg_sl ([.ref t0, .int v1, .int v2, va_rf v3] : List Value)).length) Slot.unset).toArray) 5 [(0, .inr (some t0)), (1, .inl v1), (2, .inl v2), (3, .inr v3)] := hl
  generalize (lg_sl ([.ref t0, .int v1, .int v2, va_rf v3] : List Value) ++ List.replicate (5 - (lg_sl ([.ref t0, .int v1, .int v2, va_rf v3] : List Value)).length) Slot.unset).toArray = ls at hl ⊢
  exact K_X4_fillData_0 X B.returns B.notSynchronized ⟨Nat.le_refl _, Nat.le_refl _⟩ hh va_S.rf hl h
set_option maxHeartbeats 4000000 in
set_option maxRecDepth 100000 in
theorem K_X4_isData_14 {p : Program} {l : Launch} {e : Env} {R : Room} {s : State} {m : MethodId} {args : Array Value} {below : List Frame} {meth : Method} {c : Code} {D : va_G} {dA : Nat → ClassId} {base : Nat} {z : Int32} (X : cx p s m args c cX4_isData RX4 1 D dA) (hret : meth.sig.returnType = some .boolean) (hlk : meth.locks = false) (hR : 0 ≤ R.frames ∧ 0 ≤ R.locals) {σ : hp} {w0 : Int32} {H : Heap} {locs : List Loc} {ls : Array Slot} (hh : hw D dA base σ H) (hS : hs base s.heap H locs) (hl : lk ls 1 []) (h : S_X4_isData_14 σ w0 = some z) : W p l e R s m args below meth c H locs 0 0 (MQ below (qG D dA base (some (.int z)) σ) args s 0 0 (fun q => base ≤ q)) (F0 m 14 ls [.int w0]) := by
  unfold S_X4_isData_14 at h
  obtain ⟨z14, e_z14, h⟩ := o_b h
  cases h
  exact q_zret X hret hlk hh hS e_z14 dX4_isData_14
set_option maxHeartbeats 4000000 in
set_option maxRecDepth 100000 in
theorem K_X4_isData_0 {p : Program} {l : Launch} {e : Env} {R : Room} {s : State} {m : MethodId} {args : Array Value} {below : List Frame} {meth : Method} {c : Code} {D : va_G} {dA : Nat → ClassId} {base : Nat} {z : Int32} (X : cx p s m args c cX4_isData RX4 1 D dA) (hret : meth.sig.returnType = some .boolean) (hlk : meth.locks = false) (hR : 0 ≤ R.frames ∧ 0 ≤ R.locals) {σ : hp} {t0 : Nat} {H : Heap} {locs : List Loc} {ls : Array Slot} (hh : hw D dA base σ H) (hS : hs base s.heap H locs) (hl : lk ls 1 [(0, .inr (some t0))]) (h : S_X4_isData σ t0 = some z) : W p l e R s m args below meth c H locs 0 0 (MQ below (qG D dA base (some (.int z)) σ) args s 0 0 (fun q => base ≤ q)) (F0 m 0 ls []) := by
  unfold S_X4_isData at h
  refine q_aload_n X dX4_isData_0 rfl hl 0 rfl ?_
  obtain ⟨t1, e_t1, h⟩ := o_b h
  refine q_gI X hh fa_X4_13 rfl e_t1 dX4_isData_1 ?_
  refine lv_bipush (v := (6 : Int32)) X.1 X.2.1 dX4_isData_4 (by decide) ?_
  refine lv_icmp_le (tgt := 13) X.1 X.2.1 dX4_isData_6 (by decide) (fun c6 => ?_) (fun c6 => ?_)
  · rw [if_pos c6] at h
    refine lv_iconst (v := (0 : Int32)) X.1 X.2.1 dX4_isData_13 (by decide) ?_
    exact K_X4_isData_14 X hret hlk hR hh hS (lk_sub hl [] rfl) h
  · rw [if_neg c6] at h
    refine lv_iconst (v := (1 : Int32)) X.1 X.2.1 dX4_isData_9 (by decide) ?_
    refine lv_goto (tgt := 14) X.1 X.2.1 dX4_isData_10 (by decide) ?_
    exact K_X4_isData_14 X hret hlk hR hh hS (lk_sub hl [] rfl) h
set_option maxRecDepth 100000 in
theorem M_X4_isData (l : Launch) (D : va_G) (dA : Nat → ClassId) (base : Nat) (σ : hp) (t0 : Nat) {z : Int32} (h : S_X4_isData σ t0 = some z) : mt l yX4_isData cX4_isData 1 (some .boolean) 0 0 D dA base σ [.ref t0] (some (.int z)) σ 0 0 := by
  refine Met.ofW (cc := cX4_isData) (maxL := 1) (ret := some .boolean) (by decide) rfl ?_
  intro p e s m args below meth c s₁ B hml hv
  obtain ⟨rfl, hh, hK⟩ := hv
  have X : cx p s m ([.ref t0] : List Value).toArray c cX4_isData RX4 1 D dA := ⟨B.exec, B.bytes, findClass_of_methodNamed B.named, hml, fun w hw => atoms_spec (ws := .code yX4_isData cX4_isData 1 (some .boolean) :: G) B.pre w (List.mem_cons_of_mem _ hw), hK⟩
  have hl := lk_entry [.inr (some t0)] (n := 1) (Nat.le_of_ble_eq_true rfl)
  rw [lg_entry_eq]
  have hl : lk ((lg_sl ([.ref t0] : List Value) ++ List.replicate (1 - (lg_sl ([.ref t0] : List Value)).length) Slot.unset).toArray) 1 [(0, .inr (some t0))] := hl
  generalize (lg_sl ([.ref t0] : List Value) ++ List.replicate (1 - (lg_sl ([.ref t0] : List Value)).length) Slot.unset).toArray = ls at hl ⊢
  exact K_X4_isData_0 X B.returns B.notSynchronized ⟨Nat.le_refl _, Nat.le_refl _⟩ hh va_S.rf hl h
set_option maxHeartbeats 4000000 in
set_option maxRecDepth 100000 in
theorem K_X4_x_0 {p : Program} {l : Launch} {e : Env} {R : Room} {s : State} {m : MethodId} {args : Array Value} {below : List Frame} {meth : Method} {c : Code} {D : va_G} {dA : Nat → ClassId} {base : Nat} {z : Int32} (X : cx p s m args c cX4_x RX4 1 D dA) (hret : meth.sig.returnType = some .int) (hlk : meth.locks = false) (hR : 0 ≤ R.frames ∧ 0 ≤ R.locals) {σ : hp} {t0 : Nat} {H : Heap} {locs : List Loc} {ls : Array Slot} (hh : hw D dA base σ H) (hS : hs base s.heap H locs) (hl : lk ls 1 [(0, .inr (some t0))]) (h : S_X4_x σ t0 = some z) : W p l e R s m args below meth c H locs 0 0 (MQ below (qG D dA base (some (.int z)) σ) args s 0 0 (fun q => base ≤ q)) (F0 m 0 ls []) := by
  unfold S_X4_x at h
  refine q_aload_n X dX4_x_0 rfl hl 0 rfl ?_
  obtain ⟨t1, e_t1, h⟩ := o_b h
  refine q_gR X hh fa_X4_9 rfl e_t1 dX4_x_1 ?_
  refine lv_iconst (v := (4 : Int32)) X.1 X.2.1 dX4_x_4 (by decide) ?_
  obtain ⟨t5, e_t5, h⟩ := o_b h
  refine q_ldI X hh e_t5 dX4_x_5 ?_
  refine lv_iconst (v := (3 : Int32)) X.1 X.2.1 dX4_x_6 (by decide) ?_
  refine lv_ishr X.1 X.2.1 dX4_x_7 ?_
  refine lv_bipush (v := (7 : Int32)) X.1 X.2.1 dX4_x_8 (by decide) ?_
  refine lv_iand X.1 X.2.1 dX4_x_10 ?_
  cases h
  exact q_iret X hret hlk hh hS dX4_x_11
set_option maxRecDepth 100000 in
theorem M_X4_x (l : Launch) (D : va_G) (dA : Nat → ClassId) (base : Nat) (σ : hp) (t0 : Nat) {z : Int32} (h : S_X4_x σ t0 = some z) : mt l yX4_x cX4_x 1 (some .int) 0 0 D dA base σ [.ref t0] (some (.int z)) σ 0 0 := by
  refine Met.ofW (cc := cX4_x) (maxL := 1) (ret := some .int) (by decide) rfl ?_
  intro p e s m args below meth c s₁ B hml hv
  obtain ⟨rfl, hh, hK⟩ := hv
  have X : cx p s m ([.ref t0] : List Value).toArray c cX4_x RX4 1 D dA := ⟨B.exec, B.bytes, findClass_of_methodNamed B.named, hml, fun w hw => atoms_spec (ws := .code yX4_x cX4_x 1 (some .int) :: G) B.pre w (List.mem_cons_of_mem _ hw), hK⟩
  have hl := lk_entry [.inr (some t0)] (n := 1) (Nat.le_of_ble_eq_true rfl)
  rw [lg_entry_eq]
  have hl : lk ((lg_sl ([.ref t0] : List Value) ++ List.replicate (1 - (lg_sl ([.ref t0] : List Value)).length) Slot.unset).toArray) 1 [(0, .inr (some t0))] := hl
  generalize (lg_sl ([.ref t0] : List Value) ++ List.replicate (1 - (lg_sl ([.ref t0] : List Value)).length) Slot.unset).toArray = ls at hl ⊢
  exact K_X4_x_0 X B.returns B.notSynchronized ⟨Nat.le_refl _, Nat.le_refl _⟩ hh va_S.rf hl h
set_option maxHeartbeats 4000000 in
set_option maxRecDepth 100000 in
theorem K_X4_y_0 {p : Program} {l : Launch} {e : Env} {R : Room} {s : State} {m : MethodId} {args : Array Value} {below : List Frame} {meth : Method} {c : Code} {D : va_G} {dA : Nat → ClassId} {base : Nat} {z : Int32} (X : cx p s m args c cX4_y RX4 1 D dA) (hret : meth.sig.returnType = some .int) (hlk : meth.locks = false) (hR : 0 ≤ R.frames ∧ 0 ≤ R.locals) {σ : hp} {t0 : Nat} {H : Heap} {locs : List Loc} {ls : Array Slot} (hh : hw D dA base σ H) (hS : hs base s.heap H locs) (hl : lk ls 1 [(0, .inr (some t0))]) (h : S_X4_y σ t0 = some z) : W p l e R s m args below meth c H locs 0 0 (MQ below (qG D dA base (some (.int z)) σ) args s 0 0 (fun q => base ≤ q)) (F0 m 0 ls []) := by
  unfold S_X4_y at h
  refine q_aload_n X dX4_y_0 rfl hl 0 rfl ?_
  obtain ⟨t1, e_t1, h⟩ := o_b h
  refine q_gR X hh fa_X4_9 rfl e_t1 dX4_y_1 ?_
  refine lv_iconst (v := (4 : Int32)) X.1 X.2.1 dX4_y_4 (by decide) ?_
  obtain ⟨t5, e_t5, h⟩ := o_b h
  refine q_ldI X hh e_t5 dX4_y_5 ?_
  refine lv_bipush (v := (7 : Int32)) X.1 X.2.1 dX4_y_6 (by decide) ?_
  refine lv_iand X.1 X.2.1 dX4_y_8 ?_
  cases h
  exact q_iret X hret hlk hh hS dX4_y_9
set_option maxRecDepth 100000 in
theorem M_X4_y (l : Launch) (D : va_G) (dA : Nat → ClassId) (base : Nat) (σ : hp) (t0 : Nat) {z : Int32} (h : S_X4_y σ t0 = some z) : mt l yX4_y cX4_y 1 (some .int) 0 0 D dA base σ [.ref t0] (some (.int z)) σ 0 0 := by
  refine Met.ofW (cc := cX4_y) (maxL := 1) (ret := some .int) (by decide) rfl ?_
  intro p e s m args below meth c s₁ B hml hv
  obtain ⟨rfl, hh, hK⟩ := hv
  have X : cx p s m ([.ref t0] : List Value).toArray c cX4_y RX4 1 D dA := ⟨B.exec, B.bytes, findClass_of_methodNamed B.named, hml, fun w hw => atoms_spec (ws := .code yX4_y cX4_y 1 (some .int) :: G) B.pre w (List.mem_cons_of_mem _ hw), hK⟩
  have hl := lk_entry [.inr (some t0)] (n := 1) (Nat.le_of_ble_eq_true rfl)
  rw [lg_entry_eq]
  have hl : lk ((lg_sl ([.ref t0] : List Value) ++ List.replicate (1 - (lg_sl ([.ref t0] : List Value)).length) Slot.unset).toArray) 1 [(0, .inr (some t0))] := hl
  generalize (lg_sl ([.ref t0] : List Value) ++ List.replicate (1 - (lg_sl ([.ref t0] : List Value)).length) Slot.unset).toArray = ls at hl ⊢
  exact K_X4_y_0 X B.returns B.notSynchronized ⟨Nat.le_refl _, Nat.le_refl _⟩ hh va_S.rf hl h
set_option maxHeartbeats 4000000 in
set_option maxRecDepth 100000 in
theorem K_X4_isMessageWellFormed_19 {p : Program} {l : Launch} {e : Env} {R : Room} {s : State} {m : MethodId} {args : Array Value} {below : List Frame} {meth : Method} {c : Code} {D : va_G} {dA : Nat → ClassId} {base : Nat} {z : Int32} (X : cx p s m args c cX4_isMessageWellFormed RX4 3 D dA) (hret : meth.sig.returnType = some .boolean) (hlk : meth.locks = false) (hR : 0 ≤ R.frames ∧ 0 ≤ R.locals) {σ : hp} {H : Heap} {locs : List Loc} {ls : Array Slot} (hh : hw D dA base σ H) (hS : hs base s.heap H locs) (hl : lk ls 3 []) (h : S_X4_isMessageWellFormed_19 σ = some z) : W p l e R s m args below meth c H locs 0 0 (MQ below (qG D dA base (some (.int z)) σ) args s 0 0 (fun q => base ≤ q)) (F0 m 19 ls []) := by
  unfold S_X4_isMessageWellFormed_19 at h
  refine lv_iconst (v := (0 : Int32)) X.1 X.2.1 dX4_isMessageWellFormed_19 (by decide) ?_
  cases h
  exact q_zret X hret hlk hh hS (by rfl) dX4_isMessageWellFormed_20
set_option maxHeartbeats 4000000 in
set_option maxRecDepth 100000 in
theorem K_X4_isMessageWellFormed_26_b {p : Program} {l : Launch} {e : Env} {R : Room} {s : State} {m : MethodId} {args : Array Value} {below : List Frame} {meth : Method} {c : Code} {D : va_G} {dA : Nat → ClassId} {base : Nat} {rec26 : hp → Nat → Int32 → Option (Int32)} {z : Int32} (X : cx p s m args c cX4_isMessageWellFormed RX4 3 D dA) (hret : meth.sig.returnType = some .boolean) (hlk : meth.locks = false) (hR : 0 ≤ R.frames ∧ 0 ≤ R.locals) (hr26 : ∀ (σ : hp) (t0 : Nat) (v2 : Int32) (H : Heap) (locs : List Loc) (ls : Array Slot), hw D dA base σ H → hs base s.heap H locs → lk ls 3 [(0, .inr (some t0)), (2, .inl v2)] → rec26 σ t0 v2 = some z → W p l e R s m args below meth c H locs 0 0 (MQ below (qG D dA base (some (.int z)) σ) args s 0 0 (fun q => base ≤ q)) (F0 m 26 ls [])) {σ : hp} {t0 : Nat} {v2 : Int32} {H : Heap} {locs : List Loc} {ls : Array Slot} (hh : hw D dA base σ H) (hS : hs base s.heap H locs) (hl : lk ls 3 [(0, .inr (some t0)), (2, .inl v2)]) (h : S_X4_isMessageWellFormed_26_b rec26 σ t0 v2 = some z) : W p l e R s m args below meth c H locs 0 0 (MQ below (qG D dA base (some (.int z)) σ) args s 0 0 (fun q => base ≤ q)) (F0 m 26 ls []) := by
  unfold S_X4_isMessageWellFormed_26_b at h
  refine q_iload_n X dX4_isMessageWellFormed_26 rfl hl 1 rfl ?_
  refine lv_bipush (v := (38 : Int32)) X.1 X.2.1 dX4_isMessageWellFormed_27 (by decide) ?_
  refine lv_icmp_ge (tgt := 49) X.1 X.2.1 dX4_isMessageWellFormed_29 (by decide) (fun c29 => ?_) (fun c29 => ?_)
  · rw [if_pos c29] at h
    refine lv_iconst (v := (1 : Int32)) X.1 X.2.1 dX4_isMessageWellFormed_49 (by decide) ?_
    cases h
    exact q_zret X hret hlk hh hS (by rfl) dX4_isMessageWellFormed_50
  · rw [if_neg c29] at h
    refine q_aload_n X dX4_isMessageWellFormed_32 rfl hl 0 rfl ?_
    obtain ⟨t33, e_t33, h⟩ := o_b h
    refine q_gR X hh fa_X4_9 rfl e_t33 dX4_isMessageWellFormed_33 ?_
    refine q_iload_n X dX4_isMessageWellFormed_36 rfl hl 1 rfl ?_
    obtain ⟨t37, e_t37, h⟩ := o_b h
    refine q_ldI X hh e_t37 dX4_isMessageWellFormed_37 ?_
    refine lv_if_eq (tgt := 43) X.1 X.2.1 dX4_isMessageWellFormed_38 (by decide) (fun c38 => ?_) (fun c38 => ?_)
    · rw [if_pos c38] at h
      refine q_iinc (v := (1 : Int32)) (lv' := [(2, .inl (v2 + (1 : Int32))), (0, .inr (some t0))]) X dX4_isMessageWellFormed_43 hl 1 rfl (by decide) (by decide) rfl (fun ls hl => ?_)
      refine lv_goto (tgt := 26) X.1 X.2.1 dX4_isMessageWellFormed_46 (by decide) ?_
      exact hr26 _ _ _ _ _ _ hh hS (lk_sub hl [1, 0] rfl) h
    · rw [if_neg c38] at h
      refine lv_iconst (v := (0 : Int32)) X.1 X.2.1 dX4_isMessageWellFormed_41 (by decide) ?_
      cases h
      exact q_zret X hret hlk hh hS (by rfl) dX4_isMessageWellFormed_42
theorem K_X4_isMessageWellFormed_26 {p : Program} {l : Launch} {e : Env} {R : Room} {s : State} {m : MethodId} {args : Array Value} {below : List Frame} {meth : Method} {c : Code} {D : va_G} {dA : Nat → ClassId} {base : Nat} {z : Int32} (X : cx p s m args c cX4_isMessageWellFormed RX4 3 D dA) (hret : meth.sig.returnType = some .boolean) (hlk : meth.locks = false) (hR : 0 ≤ R.frames ∧ 0 ≤ R.locals) : ∀ (n : Nat) (σ : hp) (t0 : Nat) (v2 : Int32) (H : Heap) (locs : List Loc) (ls : Array Slot), hw D dA base σ H → hs base s.heap H locs → lk ls 3 [(0, .inr (some t0)), (2, .inl v2)] → S_X4_isMessageWellFormed_26 n σ t0 v2 = some z → W p l e R s m args below meth c H locs 0 0 (MQ below (qG D dA base (some (.int z)) σ) args s 0 0 (fun q => base ≤ q)) (F0 m 26 ls []) := by
  intro n
  induction n with
  | zero => intro σ t0 v2 H locs ls hh hS hl h; cases h
  | succ n ih => intro σ t0 v2 H locs ls hh hS hl h; exact K_X4_isMessageWellFormed_26_b X hret hlk hR ih hh hS hl h
set_option maxHeartbeats 4000000 in
set_option maxRecDepth 100000 in
theorem K_X4_isMessageWellFormed_0 {p : Program} {l : Launch} {e : Env} {R : Room} {s : State} {m : MethodId} {args : Array Value} {below : List Frame} {meth : Method} {c : Code} {D : va_G} {dA : Nat → ClassId} {base : Nat} {z : Int32} (X : cx p s m args c cX4_isMessageWellFormed RX4 3 D dA) (hret : meth.sig.returnType = some .boolean) (hlk : meth.locks = false) (hR : 0 ≤ R.frames ∧ 0 ≤ R.locals) {σ : hp} {t0 : Nat} {H : Heap} {locs : List Loc} {ls : Array Slot} (hh : hw D dA base σ H) (hS : hs base s.heap H locs) (hl : lk ls 3 [(0, .inr (some t0))]) (h : S_X4_isMessageWellFormed σ t0 = some z) : W p l e R s m args below meth c H locs 0 0 (MQ below (qG D dA base (some (.int z)) σ) args s 0 0 (fun q => base ≤ q)) (F0 m 0 ls []) := by
  unfold S_X4_isMessageWellFormed at h
  refine q_aload_n X dX4_isMessageWellFormed_0 rfl hl 0 rfl ?_
  obtain ⟨t1, e_t1, h⟩ := o_b h
  refine q_gR X hh fa_X4_9 rfl e_t1 dX4_isMessageWellFormed_1 ?_
  refine lv_bipush (v := (6 : Int32)) X.1 X.2.1 dX4_isMessageWellFormed_4 (by decide) ?_
  obtain ⟨t6, e_t6, h⟩ := o_b h
  refine q_ldI X hh e_t6 dX4_isMessageWellFormed_6 ?_
  refine q_istore_n (lv' := [(1, .inl t6), (0, .inr (some t0))]) X dX4_isMessageWellFormed_7 rfl hl (by decide) rfl (fun ls hl => ?_)
  refine q_iload_n X dX4_isMessageWellFormed_8 rfl hl 0 rfl ?_
  refine lv_iconst (v := (1 : Int32)) X.1 X.2.1 dX4_isMessageWellFormed_9 (by decide) ?_
  refine lv_icmp_lt (tgt := 19) X.1 X.2.1 dX4_isMessageWellFormed_10 (by decide) (fun c10 => ?_) (fun c10 => ?_)
  · rw [if_pos c10] at h
    exact K_X4_isMessageWellFormed_19 X hret hlk hR hh hS (lk_sub hl [] rfl) h
  · rw [if_neg c10] at h
    refine q_iload_n X dX4_isMessageWellFormed_13 rfl hl 0 rfl ?_
    refine lv_bipush (v := (31 : Int32)) X.1 X.2.1 dX4_isMessageWellFormed_14 (by decide) ?_
    refine lv_icmp_le (tgt := 21) X.1 X.2.1 dX4_isMessageWellFormed_16 (by decide) (fun c16 => ?_) (fun c16 => ?_)
    · rw [if_pos c16] at h
      refine lv_bipush (v := (7 : Int32)) X.1 X.2.1 dX4_isMessageWellFormed_21 (by decide) ?_
      refine q_iload_n X dX4_isMessageWellFormed_23 rfl hl 0 rfl ?_
      refine lv_iadd X.1 X.2.1 dX4_isMessageWellFormed_24 ?_
      refine q_istore_n (lv' := [(2, .inl ((7 : Int32) + t6)), (1, .inl t6), (0, .inr (some t0))]) X dX4_isMessageWellFormed_25 rfl hl (by decide) rfl (fun ls hl => ?_)
      exact K_X4_isMessageWellFormed_26 X hret hlk hR FU _ _ _ _ _ _ hh hS (lk_sub hl [2, 0] rfl) h
    · rw [if_neg c16] at h
      exact K_X4_isMessageWellFormed_19 X hret hlk hR hh hS (lk_sub hl [] rfl) h
set_option maxRecDepth 100000 in
theorem M_X4_isMessageWellFormed (l : Launch) (D : va_G) (dA : Nat → ClassId) (base : Nat) (σ : hp) (t0 : Nat) {z : Int32} (h : S_X4_isMessageWellFormed σ t0 = some z) : mt l yX4_isMessageWellFormed cX4_isMessageWellFormed 3 (some .boolean) 0 0 D dA base σ [.ref t0] (some (.int z)) σ 0 0 := by
  refine Met.ofW (cc := cX4_isMessageWellFormed) (maxL := 3) (ret := some .boolean) (by decide) rfl ?_
  intro p e s m args below meth c s₁ B hml hv
  obtain ⟨rfl, hh, hK⟩ := hv
  have X : cx p s m ([.ref t0] : List Value).toArray c cX4_isMessageWellFormed RX4 3 D dA := ⟨B.exec, B.bytes, findClass_of_methodNamed B.named, hml, fun w hw => atoms_spec (ws := .code yX4_isMessageWellFormed cX4_isMessageWellFormed 3 (some .boolean) :: G) B.pre w (List.mem_cons_of_mem _ hw), hK⟩
  have hl := lk_entry [.inr (some t0)] (n := 3) (Nat.le_of_ble_eq_true rfl)
  rw [lg_entry_eq]
  have hl : lk ((lg_sl ([.ref t0] : List Value) ++ List.replicate (3 - (lg_sl ([.ref t0] : List Value)).length) Slot.unset).toArray) 3 [(0, .inr (some t0))] := hl
  generalize (lg_sl ([.ref t0] : List Value) ++ List.replicate (3 - (lg_sl ([.ref t0] : List Value)).length) Slot.unset).toArray = ls at hl ⊢
  exact K_X4_isMessageWellFormed_0 X B.returns B.notSynchronized ⟨Nat.le_refl _, Nat.le_refl _⟩ hh va_S.rf hl h
set_option maxHeartbeats 4000000 in
set_option maxRecDepth 100000 in
theorem K_X4_hasHead_72 {p : Program} {l : Launch} {e : Env} {R : Room} {s : State} {m : MethodId} {args : Array Value} {below : List Frame} {meth : Method} {c : Code} {D : va_G} {dA : Nat → ClassId} {base : Nat} {z : Int32} (X : cx p s m args c cX4_hasHead RX4 6 D dA) (hret : meth.sig.returnType = some .boolean) (hlk : meth.locks = false) (hR : 0 ≤ R.frames ∧ 0 ≤ R.locals) {σ : hp} {w0 : Int32} {H : Heap} {locs : List Loc} {ls : Array Slot} (hh : hw D dA base σ H) (hS : hs base s.heap H locs) (hl : lk ls 6 []) (h : S_X4_hasHead_72 σ w0 = some z) : W p l e R s m args below meth c H locs 0 0 (MQ below (qG D dA base (some (.int z)) σ) args s 0 0 (fun q => base ≤ q)) (F0 m 72 ls [.int w0]) := by
  unfold S_X4_hasHead_72 at h
  obtain ⟨z72, e_z72, h⟩ := o_b h
  cases h
  exact q_zret X hret hlk hh hS e_z72 dX4_hasHead_72
set_option maxHeartbeats 4000000 in
set_option maxRecDepth 100000 in
theorem K_X4_hasHead_71 {p : Program} {l : Launch} {e : Env} {R : Room} {s : State} {m : MethodId} {args : Array Value} {below : List Frame} {meth : Method} {c : Code} {D : va_G} {dA : Nat → ClassId} {base : Nat} {z : Int32} (X : cx p s m args c cX4_hasHead RX4 6 D dA) (hret : meth.sig.returnType = some .boolean) (hlk : meth.locks = false) (hR : 0 ≤ R.frames ∧ 0 ≤ R.locals) {σ : hp} {H : Heap} {locs : List Loc} {ls : Array Slot} (hh : hw D dA base σ H) (hS : hs base s.heap H locs) (hl : lk ls 6 []) (h : S_X4_hasHead_71 σ = some z) : W p l e R s m args below meth c H locs 0 0 (MQ below (qG D dA base (some (.int z)) σ) args s 0 0 (fun q => base ≤ q)) (F0 m 71 ls []) := by
  unfold S_X4_hasHead_71 at h
  refine lv_iconst (v := (0 : Int32)) X.1 X.2.1 dX4_hasHead_71 (by decide) ?_
  exact K_X4_hasHead_72 X hret hlk hR hh hS (lk_sub hl [] rfl) h
set_option maxHeartbeats 4000000 in
set_option maxRecDepth 100000 in
theorem K_X4_hasHead_0 {p : Program} {l : Launch} {e : Env} {R : Room} {s : State} {m : MethodId} {args : Array Value} {below : List Frame} {meth : Method} {c : Code} {D : va_G} {dA : Nat → ClassId} {base : Nat} {z : Int32} (X : cx p s m args c cX4_hasHead RX4 6 D dA) (hret : meth.sig.returnType = some .boolean) (hlk : meth.locks = false) (hR : 0 ≤ R.frames ∧ 0 ≤ R.locals) {σ : hp} {t0 : Nat} {v1 : Int32} {v2 : Int32} {v3 : Int32} {H : Heap} {locs : List Loc} {ls : Array Slot} (hh : hw D dA base σ H) (hS : hs base s.heap H locs) (hl : lk ls 6 [(0, .inr (some t0)), (1, .inl v1), (2, .inl v2), (3, .inl v3)]) (h : S_X4_hasHead σ t0 v1 v2 v3 = some z) : W p l e R s m args below meth c H locs 0 0 (MQ below (qG D dA base (some (.int z)) σ) args s 0 0 (fun q => base ≤ q)) (F0 m 0 ls []) := by
  unfold S_X4_hasHead at h
  refine q_iload_n X dX4_hasHead_0 rfl hl 3 rfl ?_
  refine lv_sipush (v := (255 : Int32)) X.1 X.2.1 dX4_hasHead_1 (by decide) ?_
  refine lv_iand X.1 X.2.1 dX4_hasHead_4 ?_
  refine q_istore (lv' := [(4, .inl (v3 &&& (255 : Int32))), (0, .inr (some t0)), (1, .inl v1), (2, .inl v2), (3, .inl v3)]) X dX4_hasHead_5 hl (by decide) rfl (fun ls hl => ?_)
  refine q_iload_n X dX4_hasHead_7 rfl hl 4 rfl ?_
  refine lv_bipush (v := (8 : Int32)) X.1 X.2.1 dX4_hasHead_8 (by decide) ?_
  refine lv_ishr X.1 X.2.1 dX4_hasHead_10 ?_
  refine lv_sipush (v := (255 : Int32)) X.1 X.2.1 dX4_hasHead_11 (by decide) ?_
  refine lv_iand X.1 X.2.1 dX4_hasHead_14 ?_
  refine q_istore (lv' := [(5, .inl ((v3 >>> ((8 : Int32) &&& 31)) &&& (255 : Int32))), (4, .inl (v3 &&& (255 : Int32))), (0, .inr (some t0)), (1, .inl v1), (2, .inl v2), (3, .inl v3)]) X dX4_hasHead_15 hl (by decide) rfl (fun ls hl => ?_)
  refine q_aload_n X dX4_hasHead_17 rfl hl 2 rfl ?_
  obtain ⟨t18, e_t18, h⟩ := o_b h
  refine q_gR X hh fa_X4_9 rfl e_t18 dX4_hasHead_18 ?_
  refine lv_iconst (v := (1 : Int32)) X.1 X.2.1 dX4_hasHead_21 (by decide) ?_
  obtain ⟨t22, e_t22, h⟩ := o_b h
  refine q_ldI X hh e_t22 dX4_hasHead_22 ?_
  refine q_iload_n X dX4_hasHead_23 rfl hl 3 rfl ?_
  refine lv_icmp_ne (tgt := 71) X.1 X.2.1 dX4_hasHead_24 (by decide) (fun c24 => ?_) (fun c24 => ?_)
  · rw [if_neg c24] at h
    exact K_X4_hasHead_71 X hret hlk hR hh hS (lk_sub hl [] rfl) h
  · rw [if_pos c24] at h
    refine q_aload_n X dX4_hasHead_27 rfl hl 2 rfl ?_
    obtain ⟨t28, e_t28, h⟩ := o_b h
    refine q_gR X hh fa_X4_9 rfl e_t28 dX4_hasHead_28 ?_
    refine lv_iconst (v := (2 : Int32)) X.1 X.2.1 dX4_hasHead_31 (by decide) ?_
    obtain ⟨t32, e_t32, h⟩ := o_b h
    refine q_ldI X hh e_t32 dX4_hasHead_32 ?_
    refine q_iload X dX4_hasHead_33 hl 1 rfl ?_
    refine lv_icmp_ne (tgt := 71) X.1 X.2.1 dX4_hasHead_35 (by decide) (fun c35 => ?_) (fun c35 => ?_)
    · rw [if_neg c35] at h
      exact K_X4_hasHead_71 X hret hlk hR hh hS (lk_sub hl [] rfl) h
    · rw [if_pos c35] at h
      refine q_aload_n X dX4_hasHead_38 rfl hl 2 rfl ?_
      obtain ⟨t39, e_t39, h⟩ := o_b h
      refine q_gR X hh fa_X4_9 rfl e_t39 dX4_hasHead_39 ?_
      refine lv_iconst (v := (3 : Int32)) X.1 X.2.1 dX4_hasHead_42 (by decide) ?_
      obtain ⟨t43, e_t43, h⟩ := o_b h
      refine q_ldI X hh e_t43 dX4_hasHead_43 ?_
      refine q_iload X dX4_hasHead_44 hl 0 rfl ?_
      refine lv_icmp_ne (tgt := 71) X.1 X.2.1 dX4_hasHead_46 (by decide) (fun c46 => ?_) (fun c46 => ?_)
      · rw [if_neg c46] at h
        exact K_X4_hasHead_71 X hret hlk hR hh hS (lk_sub hl [] rfl) h
      · rw [if_pos c46] at h
        refine q_aload_n X dX4_hasHead_49 rfl hl 2 rfl ?_
        obtain ⟨t50, e_t50, h⟩ := o_b h
        refine q_gR X hh fa_X4_9 rfl e_t50 dX4_hasHead_50 ?_
        refine lv_iconst (v := (5 : Int32)) X.1 X.2.1 dX4_hasHead_53 (by decide) ?_
        obtain ⟨t54, e_t54, h⟩ := o_b h
        refine q_ldI X hh e_t54 dX4_hasHead_54 ?_
        refine q_iload_n X dX4_hasHead_55 rfl hl 3 rfl ?_
        refine q_iload X dX4_hasHead_56 hl 1 rfl ?_
        refine lv_ixor X.1 X.2.1 dX4_hasHead_58 ?_
        refine q_iload X dX4_hasHead_59 hl 0 rfl ?_
        refine lv_ixor X.1 X.2.1 dX4_hasHead_61 ?_
        refine q_iload_n X dX4_hasHead_62 rfl hl 4 rfl ?_
        refine lv_ixor X.1 X.2.1 dX4_hasHead_63 ?_
        refine lv_icmp_ne (tgt := 71) X.1 X.2.1 dX4_hasHead_64 (by decide) (fun c64 => ?_) (fun c64 => ?_)
        · rw [if_neg c64] at h
          exact K_X4_hasHead_71 X hret hlk hR hh hS (lk_sub hl [] rfl) h
        · rw [if_pos c64] at h
          refine lv_iconst (v := (1 : Int32)) X.1 X.2.1 dX4_hasHead_67 (by decide) ?_
          refine lv_goto (tgt := 72) X.1 X.2.1 dX4_hasHead_68 (by decide) ?_
          exact K_X4_hasHead_72 X hret hlk hR hh hS (lk_sub hl [] rfl) h
set_option maxRecDepth 100000 in
theorem M_X4_hasHead (l : Launch) (D : va_G) (dA : Nat → ClassId) (base : Nat) (σ : hp) (t0 : Nat) (v1 : Int32) (v2 : Int32) (v3 : Int32) {z : Int32} (h : S_X4_hasHead σ t0 v1 v2 v3 = some z) : mt l yX4_hasHead cX4_hasHead 6 (some .boolean) 0 0 D dA base σ [.ref t0, .int v1, .int v2, .int v3] (some (.int z)) σ 0 0 := by
  refine Met.ofW (cc := cX4_hasHead) (maxL := 6) (ret := some .boolean) (by decide) rfl ?_
  intro p e s m args below meth c s₁ B hml hv
  obtain ⟨rfl, hh, hK⟩ := hv
  have X : cx p s m ([.ref t0, .int v1, .int v2, .int v3] : List Value).toArray c cX4_hasHead RX4 6 D dA := ⟨B.exec, B.bytes, findClass_of_methodNamed B.named, hml, fun w hw => atoms_spec (ws := .code yX4_hasHead cX4_hasHead 6 (some .boolean) :: G) B.pre w (List.mem_cons_of_mem _ hw), hK⟩
  have hl := lk_entry [.inr (some t0), .inl v1, .inl v2, .inl v3] (n := 6) (Nat.le_of_ble_eq_true rfl)
  rw [lg_entry_eq]
  have hl : lk ((lg_sl ([.ref t0, .int v1, .int v2, .int v3] : List Value) ++ List.replicate (6 - (lg_sl ([.ref t0, .int v1, .int v2, .int v3] : List Value)).length) Slot.unset).toArray) 6 [(0, .inr (some t0)), (1, .inl v1), (2, .inl v2), (3, .inl v3)] := hl
  generalize (lg_sl ([.ref t0, .int v1, .int v2, .int v3] : List Value) ++ List.replicate (6 - (lg_sl ([.ref t0, .int v1, .int v2, .int v3] : List Value)).length) Slot.unset).toArray = ls at hl ⊢
  exact K_X4_hasHead_0 X B.returns B.notSynchronized ⟨Nat.le_refl _, Nat.le_refl _⟩ hh va_S.rf hl h
set_option maxHeartbeats 4000000 in
set_option maxRecDepth 100000 in
theorem K_X4_isControl_31 {p : Program} {l : Launch} {e : Env} {R : Room} {s : State} {m : MethodId} {args : Array Value} {below : List Frame} {meth : Method} {c : Code} {D : va_G} {dA : Nat → ClassId} {base : Nat} {z : Int32} (X : cx p s m args c cX4_isControl RX4 1 D dA) (hret : meth.sig.returnType = some .boolean) (hlk : meth.locks = false) (hR : 0 ≤ R.frames ∧ 0 ≤ R.locals) {σ : hp} {w0 : Int32} {H : Heap} {locs : List Loc} {ls : Array Slot} (hh : hw D dA base σ H) (hS : hs base s.heap H locs) (hl : lk ls 1 []) (h : S_X4_isControl_31 σ w0 = some z) : W p l e R s m args below meth c H locs 0 0 (MQ below (qG D dA base (some (.int z)) σ) args s 0 0 (fun q => base ≤ q)) (F0 m 31 ls [.int w0]) := by
  unfold S_X4_isControl_31 at h
  obtain ⟨z31, e_z31, h⟩ := o_b h
  cases h
  exact q_zret X hret hlk hh hS e_z31 dX4_isControl_31
set_option maxHeartbeats 4000000 in
set_option maxRecDepth 100000 in
theorem K_X4_isControl_26 {p : Program} {l : Launch} {e : Env} {R : Room} {s : State} {m : MethodId} {args : Array Value} {below : List Frame} {meth : Method} {c : Code} {D : va_G} {dA : Nat → ClassId} {base : Nat} {z : Int32} (X : cx p s m args c cX4_isControl RX4 1 D dA) (hret : meth.sig.returnType = some .boolean) (hlk : meth.locks = false) (hR : 0 ≤ R.frames ∧ 0 ≤ R.locals) {σ : hp} {H : Heap} {locs : List Loc} {ls : Array Slot} (hh : hw D dA base σ H) (hS : hs base s.heap H locs) (hl : lk ls 1 []) (h : S_X4_isControl_26 σ = some z) : W p l e R s m args below meth c H locs 0 0 (MQ below (qG D dA base (some (.int z)) σ) args s 0 0 (fun q => base ≤ q)) (F0 m 26 ls []) := by
  unfold S_X4_isControl_26 at h
  refine lv_iconst (v := (1 : Int32)) X.1 X.2.1 dX4_isControl_26 (by decide) ?_
  refine lv_goto (tgt := 31) X.1 X.2.1 dX4_isControl_27 (by decide) ?_
  exact K_X4_isControl_31 X hret hlk hR hh hS (lk_sub hl [] rfl) h
set_option maxHeartbeats 4000000 in
set_option maxRecDepth 100000 in
theorem K_X4_isControl_0 {p : Program} {l : Launch} {e : Env} {R : Room} {s : State} {m : MethodId} {args : Array Value} {below : List Frame} {meth : Method} {c : Code} {D : va_G} {dA : Nat → ClassId} {base : Nat} {z : Int32} (X : cx p s m args c cX4_isControl RX4 1 D dA) (hret : meth.sig.returnType = some .boolean) (hlk : meth.locks = false) (hR : 0 ≤ R.frames ∧ 0 ≤ R.locals) {σ : hp} {v0 : Int32} {H : Heap} {locs : List Loc} {ls : Array Slot} (hh : hw D dA base σ H) (hS : hs base s.heap H locs) (hl : lk ls 1 [(0, .inl v0)]) (h : S_X4_isControl σ v0 = some z) : W p l e R s m args below meth c H locs 0 0 (MQ below (qG D dA base (some (.int z)) σ) args s 0 0 (fun q => base ≤ q)) (F0 m 0 ls []) := by
  unfold S_X4_isControl at h
  refine q_iload_n X dX4_isControl_0 rfl hl 0 rfl ?_
  refine lv_iconst (v := (1 : Int32)) X.1 X.2.1 dX4_isControl_1 (by decide) ?_
  refine lv_icmp_eq (tgt := 26) X.1 X.2.1 dX4_isControl_2 (by decide) (fun c2 => ?_) (fun c2 => ?_)
  · rw [if_pos c2] at h
    exact K_X4_isControl_26 X hret hlk hR hh hS (lk_sub hl [] rfl) h
  · rw [if_neg c2] at h
    refine q_iload_n X dX4_isControl_5 rfl hl 0 rfl ?_
    refine lv_iconst (v := (2 : Int32)) X.1 X.2.1 dX4_isControl_6 (by decide) ?_
    refine lv_icmp_eq (tgt := 26) X.1 X.2.1 dX4_isControl_7 (by decide) (fun c7 => ?_) (fun c7 => ?_)
    · rw [if_pos c7] at h
      exact K_X4_isControl_26 X hret hlk hR hh hS (lk_sub hl [] rfl) h
    · rw [if_neg c7] at h
      refine q_iload_n X dX4_isControl_10 rfl hl 0 rfl ?_
      refine lv_iconst (v := (4 : Int32)) X.1 X.2.1 dX4_isControl_11 (by decide) ?_
      refine lv_icmp_eq (tgt := 26) X.1 X.2.1 dX4_isControl_12 (by decide) (fun c12 => ?_) (fun c12 => ?_)
      · rw [if_pos c12] at h
        exact K_X4_isControl_26 X hret hlk hR hh hS (lk_sub hl [] rfl) h
      · rw [if_neg c12] at h
        refine q_iload_n X dX4_isControl_15 rfl hl 0 rfl ?_
        refine lv_iconst (v := (5 : Int32)) X.1 X.2.1 dX4_isControl_16 (by decide) ?_
        refine lv_icmp_eq (tgt := 26) X.1 X.2.1 dX4_isControl_17 (by decide) (fun c17 => ?_) (fun c17 => ?_)
        · rw [if_pos c17] at h
          exact K_X4_isControl_26 X hret hlk hR hh hS (lk_sub hl [] rfl) h
        · rw [if_neg c17] at h
          refine q_iload_n X dX4_isControl_20 rfl hl 0 rfl ?_
          refine lv_bipush (v := (7 : Int32)) X.1 X.2.1 dX4_isControl_21 (by decide) ?_
          refine lv_icmp_ne (tgt := 30) X.1 X.2.1 dX4_isControl_23 (by decide) (fun c23 => ?_) (fun c23 => ?_)
          · rw [if_neg c23] at h
            refine lv_iconst (v := (0 : Int32)) X.1 X.2.1 dX4_isControl_30 (by decide) ?_
            exact K_X4_isControl_31 X hret hlk hR hh hS (lk_sub hl [] rfl) h
          · rw [if_pos c23] at h
            exact K_X4_isControl_26 X hret hlk hR hh hS (lk_sub hl [] rfl) h
set_option maxRecDepth 100000 in
theorem M_X4_isControl (l : Launch) (D : va_G) (dA : Nat → ClassId) (base : Nat) (σ : hp) (v0 : Int32) {z : Int32} (h : S_X4_isControl σ v0 = some z) : mt l yX4_isControl cX4_isControl 1 (some .boolean) 0 0 D dA base σ [.int v0] (some (.int z)) σ 0 0 := by
  refine Met.ofW (cc := cX4_isControl) (maxL := 1) (ret := some .boolean) (by decide) rfl ?_
  intro p e s m args below meth c s₁ B hml hv
  obtain ⟨rfl, hh, hK⟩ := hv
  have X : cx p s m ([.int v0] : List Value).toArray c cX4_isControl RX4 1 D dA := ⟨B.exec, B.bytes, findClass_of_methodNamed B.named, hml, fun w hw => atoms_spec (ws := .code yX4_isControl cX4_isControl 1 (some .boolean) :: G) B.pre w (List.mem_cons_of_mem _ hw), hK⟩
  have hl := lk_entry [.inl v0] (n := 1) (Nat.le_of_ble_eq_true rfl)
  rw [lg_entry_eq]
  have hl : lk ((lg_sl ([.int v0] : List Value) ++ List.replicate (1 - (lg_sl ([.int v0] : List Value)).length) Slot.unset).toArray) 1 [(0, .inl v0)] := hl
  generalize (lg_sl ([.int v0] : List Value) ++ List.replicate (1 - (lg_sl ([.int v0] : List Value)).length) Slot.unset).toArray = ls at hl ⊢
  exact K_X4_isControl_0 X B.returns B.notSynchronized ⟨Nat.le_refl _, Nat.le_refl _⟩ hh va_S.rf hl h
set_option maxHeartbeats 4000000 in
set_option maxRecDepth 100000 in
theorem K_X4_isGood_65 {p : Program} {l : Launch} {e : Env} {R : Room} {s : State} {m : MethodId} {args : Array Value} {below : List Frame} {meth : Method} {c : Code} {D : va_G} {dA : Nat → ClassId} {base : Nat} {z : Int32} (X : cx p s m args c cX4_isGood RX4 2 D dA) (hret : meth.sig.returnType = some .boolean) (hlk : meth.locks = false) (hR : 1 ≤ R.frames ∧ 25 ≤ R.locals) {σ : hp} {w0 : Int32} {H : Heap} {locs : List Loc} {ls : Array Slot} (hh : hw D dA base σ H) (hS : hs base s.heap H locs) (hl : lk ls 2 []) (h : S_X4_isGood_65 σ w0 = some z) : W p l e R s m args below meth c H locs 0 0 (MQ below (qG D dA base (some (.int z)) σ) args s 0 0 (fun q => base ≤ q)) (F0 m 65 ls [.int w0]) := by
  unfold S_X4_isGood_65 at h
  obtain ⟨z65, e_z65, h⟩ := o_b h
  cases h
  exact q_zret X hret hlk hh hS e_z65 dX4_isGood_65
set_option maxHeartbeats 4000000 in
set_option maxRecDepth 100000 in
theorem K_X4_isGood_64 {p : Program} {l : Launch} {e : Env} {R : Room} {s : State} {m : MethodId} {args : Array Value} {below : List Frame} {meth : Method} {c : Code} {D : va_G} {dA : Nat → ClassId} {base : Nat} {z : Int32} (X : cx p s m args c cX4_isGood RX4 2 D dA) (hret : meth.sig.returnType = some .boolean) (hlk : meth.locks = false) (hR : 1 ≤ R.frames ∧ 25 ≤ R.locals) {σ : hp} {H : Heap} {locs : List Loc} {ls : Array Slot} (hh : hw D dA base σ H) (hS : hs base s.heap H locs) (hl : lk ls 2 []) (h : S_X4_isGood_64 σ = some z) : W p l e R s m args below meth c H locs 0 0 (MQ below (qG D dA base (some (.int z)) σ) args s 0 0 (fun q => base ≤ q)) (F0 m 64 ls []) := by
  unfold S_X4_isGood_64 at h
  refine lv_iconst (v := (0 : Int32)) X.1 X.2.1 dX4_isGood_64 (by decide) ?_
  exact K_X4_isGood_65 X hret hlk hR hh hS (lk_sub hl [] rfl) h
set_option maxHeartbeats 4000000 in
set_option maxRecDepth 100000 in
theorem K_X4_isGood_102 {p : Program} {l : Launch} {e : Env} {R : Room} {s : State} {m : MethodId} {args : Array Value} {below : List Frame} {meth : Method} {c : Code} {D : va_G} {dA : Nat → ClassId} {base : Nat} {z : Int32} (X : cx p s m args c cX4_isGood RX4 2 D dA) (hret : meth.sig.returnType = some .boolean) (hlk : meth.locks = false) (hR : 1 ≤ R.frames ∧ 25 ≤ R.locals) {σ : hp} {w0 : Int32} {H : Heap} {locs : List Loc} {ls : Array Slot} (hh : hw D dA base σ H) (hS : hs base s.heap H locs) (hl : lk ls 2 []) (h : S_X4_isGood_102 σ w0 = some z) : W p l e R s m args below meth c H locs 0 0 (MQ below (qG D dA base (some (.int z)) σ) args s 0 0 (fun q => base ≤ q)) (F0 m 102 ls [.int w0]) := by
  unfold S_X4_isGood_102 at h
  obtain ⟨z102, e_z102, h⟩ := o_b h
  cases h
  exact q_zret X hret hlk hh hS e_z102 dX4_isGood_102
set_option maxHeartbeats 4000000 in
set_option maxRecDepth 100000 in
theorem K_X4_isGood_101 {p : Program} {l : Launch} {e : Env} {R : Room} {s : State} {m : MethodId} {args : Array Value} {below : List Frame} {meth : Method} {c : Code} {D : va_G} {dA : Nat → ClassId} {base : Nat} {z : Int32} (X : cx p s m args c cX4_isGood RX4 2 D dA) (hret : meth.sig.returnType = some .boolean) (hlk : meth.locks = false) (hR : 1 ≤ R.frames ∧ 25 ≤ R.locals) {σ : hp} {H : Heap} {locs : List Loc} {ls : Array Slot} (hh : hw D dA base σ H) (hS : hs base s.heap H locs) (hl : lk ls 2 []) (h : S_X4_isGood_101 σ = some z) : W p l e R s m args below meth c H locs 0 0 (MQ below (qG D dA base (some (.int z)) σ) args s 0 0 (fun q => base ≤ q)) (F0 m 101 ls []) := by
  unfold S_X4_isGood_101 at h
  refine lv_iconst (v := (0 : Int32)) X.1 X.2.1 dX4_isGood_101 (by decide) ?_
  exact K_X4_isGood_102 X hret hlk hR hh hS (lk_sub hl [] rfl) h
set_option maxHeartbeats 4000000 in
set_option maxRecDepth 100000 in
theorem K_X4_isGood_0 {p : Program} {l : Launch} {e : Env} {R : Room} {s : State} {m : MethodId} {args : Array Value} {below : List Frame} {meth : Method} {c : Code} {D : va_G} {dA : Nat → ClassId} {base : Nat} {z : Int32} (X : cx p s m args c cX4_isGood RX4 2 D dA) (hret : meth.sig.returnType = some .boolean) (hlk : meth.locks = false) (hR : 1 ≤ R.frames ∧ 25 ≤ R.locals) {σ : hp} {t0 : Nat} {H : Heap} {locs : List Loc} {ls : Array Slot} (hh : hw D dA base σ H) (hS : hs base s.heap H locs) (hl : lk ls 2 [(0, .inr (some t0))]) (h : S_X4_isGood σ t0 = some z) : W p l e R s m args below meth c H locs 0 0 (MQ below (qG D dA base (some (.int z)) σ) args s 0 0 (fun q => base ≤ q)) (F0 m 0 ls []) := by
  unfold S_X4_isGood at h
  refine q_aload_n X dX4_isGood_0 rfl hl 0 rfl ?_
  obtain ⟨t1, e_t1, h⟩ := o_b h
  refine q_gR X hh fa_X4_9 rfl e_t1 dX4_isGood_1 ?_
  refine lv_iconst (v := (0 : Int32)) X.1 X.2.1 dX4_isGood_4 (by decide) ?_
  obtain ⟨t5, e_t5, h⟩ := o_b h
  refine q_ldI X hh e_t5 dX4_isGood_5 ?_
  refine lv_bipush (v := (16 : Int32)) X.1 X.2.1 dX4_isGood_6 (by decide) ?_
  refine lv_icmp_eq (tgt := 13) X.1 X.2.1 dX4_isGood_8 (by decide) (fun c8 => ?_) (fun c8 => ?_)
  · rw [if_pos c8] at h
    refine q_aload_n X dX4_isGood_13 rfl hl 0 rfl ?_
    obtain ⟨t14, e_t14, h⟩ := o_b h
    refine q_gR X hh fa_X4_9 rfl e_t14 dX4_isGood_14 ?_
    refine lv_iconst (v := (4 : Int32)) X.1 X.2.1 dX4_isGood_17 (by decide) ?_
    obtain ⟨t18, e_t18, h⟩ := o_b h
    refine q_ldI X hh e_t18 dX4_isGood_18 ?_
    refine q_istore_n (lv' := [(1, .inl t18), (0, .inr (some t0))]) X dX4_isGood_19 rfl hl (by decide) rfl (fun ls hl => ?_)
    refine q_aload_n X dX4_isGood_20 rfl hl 1 rfl ?_
    obtain ⟨b21, e_b21, h⟩ := o_b h
    obtain ⟨q21, e_q21, h⟩ := o_b h
    refine q_cV (As := []) X hh hS hl cf_X4_30 (cN := 4) rfl rfl e_b21 rfl (M_X4_isData l D dA base σ b21  e_q21) ⟨Nat.le_trans (by decide) hR.1, Nat.le_trans (by decide) hR.2⟩ (cat8 [] (Nat.le_of_ble_eq_true rfl)) dX4_isGood_21 ⟨Nat.zero_le _, Nat.zero_le _⟩ rfl rfl (fun H locs hh hS => ?_)
    refine lv_if_eq (tgt := 66) X.1 X.2.1 dX4_isGood_24 (by decide) (fun c24 => ?_) (fun c24 => ?_)
    · rw [if_pos c24] at h
      refine q_iload_n X dX4_isGood_66 rfl hl 0 rfl ?_
      refine lv_bipush (v := (6 : Int32)) X.1 X.2.1 dX4_isGood_67 (by decide) ?_
      refine lv_ishr X.1 X.2.1 dX4_isGood_69 ?_
      refine lv_if_ne (tgt := 101) X.1 X.2.1 dX4_isGood_70 (by decide) (fun c70 => ?_) (fun c70 => ?_)
      · rw [if_neg c70] at h
        exact K_X4_isGood_101 X hret hlk hR hh hS (lk_sub hl [] rfl) h
      · rw [if_pos c70] at h
        refine q_aload_n X dX4_isGood_73 rfl hl 1 rfl ?_
        obtain ⟨b74, e_b74, h⟩ := o_b h
        obtain ⟨q74, e_q74, h⟩ := o_b h
        refine q_cV (As := []) X hh hS hl cf_X4_41 (cN := 4) rfl rfl e_b74 rfl (M_X4_x l D dA base σ b74  e_q74) ⟨Nat.le_trans (by decide) hR.1, Nat.le_trans (by decide) hR.2⟩ (cat8 [] (Nat.le_of_ble_eq_true rfl)) dX4_isGood_74 ⟨Nat.zero_le _, Nat.zero_le _⟩ rfl rfl (fun H locs hh hS => ?_)
        obtain ⟨q77, e_q77, h⟩ := o_b h
        refine q_cS (As := [.int q74]) X hh hS hl cf_X4_44 rfl (M_X4_isControl l D dA base σ q74 e_q77) ⟨Nat.le_trans (by decide) hR.1, Nat.le_trans (by decide) hR.2⟩ (cat8 [] (Nat.le_of_ble_eq_true rfl)) dX4_isGood_77 ⟨Nat.zero_le _, Nat.zero_le _⟩ rfl rfl (fun H locs hh hS => ?_)
        refine lv_if_eq (tgt := 101) X.1 X.2.1 dX4_isGood_80 (by decide) (fun c80 => ?_) (fun c80 => ?_)
        · rw [if_pos c80] at h
          exact K_X4_isGood_101 X hret hlk hR hh hS (lk_sub hl [] rfl) h
        · rw [if_neg c80] at h
          refine q_aload_n X dX4_isGood_83 rfl hl 1 rfl ?_
          refine lv_bipush (v := (9 : Int32)) X.1 X.2.1 dX4_isGood_84 (by decide) ?_
          refine q_iload_n X dX4_isGood_86 rfl hl 0 rfl ?_
          refine q_ldc X ck_X4_17 dX4_isGood_87 ?_
          refine q_iload_n X dX4_isGood_89 rfl hl 0 rfl ?_
          refine lv_isub X.1 X.2.1 dX4_isGood_90 ?_
          obtain ⟨b91, e_b91, h⟩ := o_b h
          obtain ⟨q91, e_q91, h⟩ := o_b h
          refine q_cV (As := [.int (9 : Int32), .int t18, .int ((43690 : Int32) - t18)]) X hh hS hl cf_X4_37 (cN := 4) rfl rfl e_b91 rfl (M_X4_hasHead l D dA base σ b91 (9 : Int32) t18 ((43690 : Int32) - t18) e_q91) ⟨Nat.le_trans (by decide) hR.1, Nat.le_trans (by decide) hR.2⟩ (cat8 [] (Nat.le_of_ble_eq_true rfl)) dX4_isGood_91 ⟨Nat.zero_le _, Nat.zero_le _⟩ rfl rfl (fun H locs hh hS => ?_)
          refine lv_if_eq (tgt := 101) X.1 X.2.1 dX4_isGood_94 (by decide) (fun c94 => ?_) (fun c94 => ?_)
          · rw [if_pos c94] at h
            exact K_X4_isGood_101 X hret hlk hR hh hS (lk_sub hl [] rfl) h
          · rw [if_neg c94] at h
            refine lv_iconst (v := (1 : Int32)) X.1 X.2.1 dX4_isGood_97 (by decide) ?_
            refine lv_goto (tgt := 102) X.1 X.2.1 dX4_isGood_98 (by decide) ?_
            exact K_X4_isGood_102 X hret hlk hR hh hS (lk_sub hl [] rfl) h
    · rw [if_neg c24] at h
      refine q_iload_n X dX4_isGood_27 rfl hl 0 rfl ?_
      refine lv_bipush (v := (6 : Int32)) X.1 X.2.1 dX4_isGood_28 (by decide) ?_
      refine lv_ishr X.1 X.2.1 dX4_isGood_30 ?_
      refine lv_iconst (v := (2 : Int32)) X.1 X.2.1 dX4_isGood_31 (by decide) ?_
      refine lv_icmp_ne (tgt := 64) X.1 X.2.1 dX4_isGood_32 (by decide) (fun c32 => ?_) (fun c32 => ?_)
      · rw [if_neg c32] at h
        exact K_X4_isGood_64 X hret hlk hR hh hS (lk_sub hl [] rfl) h
      · rw [if_pos c32] at h
        refine q_aload_n X dX4_isGood_35 rfl hl 1 rfl ?_
        obtain ⟨b36, e_b36, h⟩ := o_b h
        obtain ⟨q36, e_q36, h⟩ := o_b h
        refine q_cV (As := []) X hh hS hl cf_X4_34 (cN := 4) rfl rfl e_b36 rfl (M_X4_isMessageWellFormed l D dA base σ b36  e_q36) ⟨Nat.le_trans (by decide) hR.1, Nat.le_trans (by decide) hR.2⟩ (cat8 [] (Nat.le_of_ble_eq_true rfl)) dX4_isGood_36 ⟨Nat.zero_le _, Nat.zero_le _⟩ rfl rfl (fun H locs hh hS => ?_)
        refine lv_if_eq (tgt := 64) X.1 X.2.1 dX4_isGood_39 (by decide) (fun c39 => ?_) (fun c39 => ?_)
        · rw [if_pos c39] at h
          exact K_X4_isGood_64 X hret hlk hR hh hS (lk_sub hl [] rfl) h
        · rw [if_neg c39] at h
          refine q_aload_n X dX4_isGood_42 rfl hl 1 rfl ?_
          refine lv_iconst (v := (1 : Int32)) X.1 X.2.1 dX4_isGood_43 (by decide) ?_
          refine q_iload_n X dX4_isGood_44 rfl hl 0 rfl ?_
          refine q_ldc X ck_X4_17 dX4_isGood_45 ?_
          refine q_aload_n X dX4_isGood_47 rfl hl 1 rfl ?_
          obtain ⟨b48, e_b48, h⟩ := o_b h
          obtain ⟨q48, e_q48, h⟩ := o_b h
          refine q_cV (As := []) X hh hS hl cf_X4_26 (cN := 4) rfl rfl e_b48 rfl (M_X4_sum l D dA base σ b48  e_q48) ⟨Nat.le_trans (by decide) hR.1, Nat.le_trans (by decide) hR.2⟩ (cat8 [.inl (43690 : Int32), .inl t18, .inl (1 : Int32), .inr (some t0)] (Nat.le_of_ble_eq_true rfl)) dX4_isGood_48 ⟨Nat.zero_le _, Nat.zero_le _⟩ rfl rfl (fun H locs hh hS => ?_)
          refine q_iload_n X dX4_isGood_51 rfl hl 0 rfl ?_
          refine lv_ixor X.1 X.2.1 dX4_isGood_52 ?_
          refine lv_isub X.1 X.2.1 dX4_isGood_53 ?_
          obtain ⟨b54, e_b54, h⟩ := o_b h
          obtain ⟨q54, e_q54, h⟩ := o_b h
          refine q_cV (As := [.int (1 : Int32), .int t18, .int ((43690 : Int32) - (q48 ^^^ t18))]) X hh hS hl cf_X4_37 (cN := 4) rfl rfl e_b54 rfl (M_X4_hasHead l D dA base σ b54 (1 : Int32) t18 ((43690 : Int32) - (q48 ^^^ t18)) e_q54) ⟨Nat.le_trans (by decide) hR.1, Nat.le_trans (by decide) hR.2⟩ (cat8 [] (Nat.le_of_ble_eq_true rfl)) dX4_isGood_54 ⟨Nat.zero_le _, Nat.zero_le _⟩ rfl rfl (fun H locs hh hS => ?_)
          refine lv_if_eq (tgt := 64) X.1 X.2.1 dX4_isGood_57 (by decide) (fun c57 => ?_) (fun c57 => ?_)
          · rw [if_pos c57] at h
            exact K_X4_isGood_64 X hret hlk hR hh hS (lk_sub hl [] rfl) h
          · rw [if_neg c57] at h
            refine lv_iconst (v := (1 : Int32)) X.1 X.2.1 dX4_isGood_60 (by decide) ?_
            refine lv_goto (tgt := 65) X.1 X.2.1 dX4_isGood_61 (by decide) ?_
            exact K_X4_isGood_65 X hret hlk hR hh hS (lk_sub hl [] rfl) h
  · rw [if_neg c8] at h
    refine lv_iconst (v := (0 : Int32)) X.1 X.2.1 dX4_isGood_11 (by decide) ?_
    cases h
    exact q_zret X hret hlk hh hS (by rfl) dX4_isGood_12
set_option maxRecDepth 100000 in
theorem M_X4_isGood (l : Launch) (D : va_G) (dA : Nat → ClassId) (base : Nat) (σ : hp) (t0 : Nat) {z : Int32} (h : S_X4_isGood σ t0 = some z) : mt l yX4_isGood cX4_isGood 2 (some .boolean) 1 25 D dA base σ [.ref t0] (some (.int z)) σ 0 0 := by
  refine Met.ofW (cc := cX4_isGood) (maxL := 2) (ret := some .boolean) (by decide) rfl ?_
  intro p e s m args below meth c s₁ B hml hv
  obtain ⟨rfl, hh, hK⟩ := hv
  have X : cx p s m ([.ref t0] : List Value).toArray c cX4_isGood RX4 2 D dA := ⟨B.exec, B.bytes, findClass_of_methodNamed B.named, hml, fun w hw => atoms_spec (ws := .code yX4_isGood cX4_isGood 2 (some .boolean) :: G) B.pre w (List.mem_cons_of_mem _ hw), hK⟩
  have hl := lk_entry [.inr (some t0)] (n := 2) (Nat.le_of_ble_eq_true rfl)
  rw [lg_entry_eq]
  have hl : lk ((lg_sl ([.ref t0] : List Value) ++ List.replicate (2 - (lg_sl ([.ref t0] : List Value)).length) Slot.unset).toArray) 2 [(0, .inr (some t0))] := hl
  generalize (lg_sl ([.ref t0] : List Value) ++ List.replicate (2 - (lg_sl ([.ref t0] : List Value)).length) Slot.unset).toArray = ls at hl ⊢
  exact K_X4_isGood_0 X B.returns B.notSynchronized ⟨Nat.le_refl _, Nat.le_refl _⟩ hh va_S.rf hl h
theorem mo_X6_init_53 {rec35 : hp → Nat → Int32 → Option (hp)} {z : hp} (hm35 : ∀ (σ : hp) (t0 : Nat) (v1 : Int32), rec35 σ t0 v1 = some z → le4 σ z) {σ : hp} {t0 : Nat} {v1 : Int32} {w0 : Option Nat} {w1 : Int32} {w2 : Option Nat} (h : S_X6_init_53 rec35 σ t0 v1 w0 w1 w2 = some z) : le4 σ z := by
  unfold S_X6_init_53 at h
  obtain ⟨s53, e_s53, h⟩ := o_b h
  exact ((e_stQ e_s53).le).tr (hm35 _ _ _ h)
set_option maxHeartbeats 4000000 in
set_option maxRecDepth 100000 in
theorem K_X6_init_53 {p : Program} {l : Launch} {e : Env} {R : Room} {s : State} {m : MethodId} {args : Array Value} {below : List Frame} {meth : Method} {c : Code} {D : va_G} {dA : Nat → ClassId} {base : Nat} {rec35 : hp → Nat → Int32 → Option (hp)} {z : hp} (X : cx p s m args c cX6_init RX6 2 D dA) (hret : meth.sig.returnType = none) (hlk : meth.locks = false) (hR : 2 ≤ R.frames ∧ 41 ≤ R.locals) (hin : meth.name = "<init>") {n0 s0 : Nat} (hRc : z.2.2.2.1 ≤ n0 + R.cells ∧ z.2.2.2.2 ≤ s0 + R.slots) (hm35 : ∀ (σ : hp) (t0 : Nat) (v1 : Int32), rec35 σ t0 v1 = some z → le4 σ z) (hr35 : ∀ (σ : hp) (t0 : Nat) (v1 : Int32) (H : Heap) (locs : List Loc) (ls : Array Slot), n0 ≤ σ.2.2.2.1 ∧ s0 ≤ σ.2.2.2.2 → hw D dA base σ H → hs base s.heap H locs → lk ls 2 [(0, .inr (some t0)), (1, .inl v1)] → rec35 σ t0 v1 = some z → W p l e R s m args below meth c H locs (σ.2.2.2.1 - n0) (σ.2.2.2.2 - s0) (MQ below (qG D dA base none z) args s (z.2.2.2.1 - n0) (z.2.2.2.2 - s0) (fun q => base ≤ q)) (F0 m 35 ls [])) {σ : hp} {t0 : Nat} {v1 : Int32} {w0 : Option Nat} {w1 : Int32} {w2 : Option Nat} {H : Heap} {locs : List Loc} {ls : Array Slot} (hn : n0 ≤ σ.2.2.2.1 ∧ s0 ≤ σ.2.2.2.2) (hh : hw D dA base σ H) (hS : hs base s.heap H locs) (hl : lk ls 2 [(0, .inr (some t0)), (1, .inl v1)]) (h : S_X6_init_53 rec35 σ t0 v1 w0 w1 w2 = some z) : W p l e R s m args below meth c H locs (σ.2.2.2.1 - n0) (σ.2.2.2.2 - s0) (MQ below (qG D dA base none z) args s (z.2.2.2.1 - n0) (z.2.2.2.2 - s0) (fun q => base ≤ q)) (F0 m 53 ls [va_rf w2, .int w1, va_rf w0]) := by
  have hz0 := mo_X6_init_53 hm35 h
  have hcl : σ.2.2.2.1 - n0 ≤ R.cells ∧ σ.2.2.2.2 - s0 ≤ R.slots := by unfold le4 at hz0; omega
  unfold S_X6_init_53 at h
  obtain ⟨s53, e_s53, h⟩ := o_b h
  refine q_stQ (cN := 3) X hh hS (by decide) rfl rfl e_s53 dX6_init_53 (fun H locs hh hS => ?_)
  refine q_iinc (v := (1 : Int32)) (lv' := [(1, .inl (v1 + (1 : Int32))), (0, .inr (some t0))]) X dX6_init_54 hl 1 rfl (by decide) (by decide) rfl (fun ls hl => ?_)
  refine lv_goto (tgt := 35) X.1 X.2.1 dX6_init_57 (by decide) ?_
  have ys53 : eq4 σ s53 := (e_stQ e_s53)
  refine W.cs (cells' := s53.2.2.2.1 - n0) (slots' := s53.2.2.2.2 - s0) (by rw [show s53.2.2.2 = σ.2.2.2 from ys53]) (by rw [show s53.2.2.2 = σ.2.2.2 from ys53]) ?_
  have hn : n0 ≤ s53.2.2.2.1 ∧ s0 ≤ s53.2.2.2.2 := by rw [show s53.2.2.2 = σ.2.2.2 from ys53]; exact hn
  have hcl : s53.2.2.2.1 - n0 ≤ R.cells ∧ s53.2.2.2.2 - s0 ≤ R.slots := by rw [show s53.2.2.2 = σ.2.2.2 from ys53]; exact hcl
  exact hr35 _ _ _ _ _ _ hn hh hS (lk_sub hl [1, 0] rfl) h
theorem mo_X6_init_49 {rec35 : hp → Nat → Int32 → Option (hp)} {z : hp} (hm35 : ∀ (σ : hp) (t0 : Nat) (v1 : Int32), rec35 σ t0 v1 = some z → le4 σ z) {σ : hp} {t0 : Nat} {v1 : Int32} {w0 : Option Nat} {w1 : Int32} {w2 : Option Nat} (h : S_X6_init_49 rec35 σ t0 v1 w0 w1 w2 = some z) : le4 σ z := by
  unfold S_X6_init_49 at h
  obtain ⟨b50, e_b50, h⟩ := o_b h
  obtain ⟨q50, e_q50, h⟩ := o_b h
  exact ((mo_X3_init_0 e_q50)).tr (mo_X6_init_53 hm35 h)
set_option maxHeartbeats 4000000 in
set_option maxRecDepth 100000 in
theorem K_X6_init_49 {p : Program} {l : Launch} {e : Env} {R : Room} {s : State} {m : MethodId} {args : Array Value} {below : List Frame} {meth : Method} {c : Code} {D : va_G} {dA : Nat → ClassId} {base : Nat} {rec35 : hp → Nat → Int32 → Option (hp)} {z : hp} (X : cx p s m args c cX6_init RX6 2 D dA) (hret : meth.sig.returnType = none) (hlk : meth.locks = false) (hR : 2 ≤ R.frames ∧ 41 ≤ R.locals) (hin : meth.name = "<init>") {n0 s0 : Nat} (hRc : z.2.2.2.1 ≤ n0 + R.cells ∧ z.2.2.2.2 ≤ s0 + R.slots) (hm35 : ∀ (σ : hp) (t0 : Nat) (v1 : Int32), rec35 σ t0 v1 = some z → le4 σ z) (hr35 : ∀ (σ : hp) (t0 : Nat) (v1 : Int32) (H : Heap) (locs : List Loc) (ls : Array Slot), n0 ≤ σ.2.2.2.1 ∧ s0 ≤ σ.2.2.2.2 → hw D dA base σ H → hs base s.heap H locs → lk ls 2 [(0, .inr (some t0)), (1, .inl v1)] → rec35 σ t0 v1 = some z → W p l e R s m args below meth c H locs (σ.2.2.2.1 - n0) (σ.2.2.2.2 - s0) (MQ below (qG D dA base none z) args s (z.2.2.2.1 - n0) (z.2.2.2.2 - s0) (fun q => base ≤ q)) (F0 m 35 ls [])) {σ : hp} {t0 : Nat} {v1 : Int32} {w0 : Option Nat} {w1 : Int32} {w2 : Option Nat} {H : Heap} {locs : List Loc} {ls : Array Slot} (hn : n0 ≤ σ.2.2.2.1 ∧ s0 ≤ σ.2.2.2.2) (hh : hw D dA base σ H) (hS : hs base s.heap H locs) (hl : lk ls 2 [(0, .inr (some t0)), (1, .inl v1)]) (h : S_X6_init_49 rec35 σ t0 v1 w0 w1 w2 = some z) : W p l e R s m args below meth c H locs (σ.2.2.2.1 - n0) (σ.2.2.2.2 - s0) (MQ below (qG D dA base none z) args s (z.2.2.2.1 - n0) (z.2.2.2.2 - s0) (fun q => base ≤ q)) (F0 m 49 ls [va_rf w2, .int w1, va_rf w0]) := by
  have hz0 := mo_X6_init_49 hm35 h
  have hcl : σ.2.2.2.1 - n0 ≤ R.cells ∧ σ.2.2.2.2 - s0 ≤ R.slots := by unfold le4 at hz0; omega
  unfold S_X6_init_49 at h
  refine lv_dup X.1 X.2.1 dX6_init_49 (vv_cat (.inr w2)) ?_
  obtain ⟨b50, e_b50, h⟩ := o_b h
  obtain ⟨q50, e_q50, h⟩ := o_b h
  have g50 := mo_X6_init_53 hm35 h
  have f50 := mo_X3_init_0 e_q50
  unfold le4 at g50 f50
  refine q_cN (As := []) X hh hS hl cf_X6_28 e_b50 rfl (M_X3_init l D dA base σ b50  e_q50) ⟨Nat.le_trans (by decide) hR.1, Nat.le_trans (by decide) hR.2⟩ (cat8 [.inr w2, .inl w1, .inr w0] (Nat.le_of_ble_eq_true rfl)) dX6_init_50 ⟨by omega, by omega⟩ rfl (fun H locs hh hS => ?_)
  refine W.cs (cells' := q50.2.2.2.1 - n0) (slots' := q50.2.2.2.2 - s0) (by omega) (by omega) ?_
  have hn : n0 ≤ q50.2.2.2.1 ∧ s0 ≤ q50.2.2.2.2 := by omega
  exact K_X6_init_53 X hret hlk hR hin hRc hm35 hr35 hn hh hS (lk_sub hl [0, 1] rfl) h
theorem mo_X6_init_35_b {rec35 : hp → Nat → Int32 → Option (hp)} {z : hp} (hm35 : ∀ (σ : hp) (t0 : Nat) (v1 : Int32), rec35 σ t0 v1 = some z → le4 σ z) {σ : hp} {t0 : Nat} {v1 : Int32} (h : S_X6_init_35_b rec35 σ t0 v1 = some z) : le4 σ z := by
  unfold S_X6_init_35_b at h
  by_cases c38 : (20 : Int32) ≤ v1
  · rw [if_pos c38] at h
    cases h
    exact le4.rf _
  · rw [if_neg c38] at h
    obtain ⟨t42, e_t42, h⟩ := o_b h
    obtain ⟨q46, e_q46, h⟩ := o_b h
    exact ((m_nw e_q46)).tr (mo_X6_init_49 hm35 h)
theorem mo_X6_init_35 {z : hp} : ∀ (n : Nat) (σ : hp) (t0 : Nat) (v1 : Int32), S_X6_init_35 n σ t0 v1 = some z → le4 σ z := by
  intro n
  induction n with
  | zero => intro σ t0 v1 h; cases h
  | succ n ih => intro σ t0 v1 h; exact mo_X6_init_35_b ih h
set_option maxHeartbeats 4000000 in
set_option maxRecDepth 100000 in
theorem K_X6_init_35_b {p : Program} {l : Launch} {e : Env} {R : Room} {s : State} {m : MethodId} {args : Array Value} {below : List Frame} {meth : Method} {c : Code} {D : va_G} {dA : Nat → ClassId} {base : Nat} {rec35 : hp → Nat → Int32 → Option (hp)} {z : hp} (X : cx p s m args c cX6_init RX6 2 D dA) (hret : meth.sig.returnType = none) (hlk : meth.locks = false) (hR : 2 ≤ R.frames ∧ 41 ≤ R.locals) (hin : meth.name = "<init>") {n0 s0 : Nat} (hRc : z.2.2.2.1 ≤ n0 + R.cells ∧ z.2.2.2.2 ≤ s0 + R.slots) (hm35 : ∀ (σ : hp) (t0 : Nat) (v1 : Int32), rec35 σ t0 v1 = some z → le4 σ z) (hr35 : ∀ (σ : hp) (t0 : Nat) (v1 : Int32) (H : Heap) (locs : List Loc) (ls : Array Slot), n0 ≤ σ.2.2.2.1 ∧ s0 ≤ σ.2.2.2.2 → hw D dA base σ H → hs base s.heap H locs → lk ls 2 [(0, .inr (some t0)), (1, .inl v1)] → rec35 σ t0 v1 = some z → W p l e R s m args below meth c H locs (σ.2.2.2.1 - n0) (σ.2.2.2.2 - s0) (MQ below (qG D dA base none z) args s (z.2.2.2.1 - n0) (z.2.2.2.2 - s0) (fun q => base ≤ q)) (F0 m 35 ls [])) {σ : hp} {t0 : Nat} {v1 : Int32} {H : Heap} {locs : List Loc} {ls : Array Slot} (hn : n0 ≤ σ.2.2.2.1 ∧ s0 ≤ σ.2.2.2.2) (hh : hw D dA base σ H) (hS : hs base s.heap H locs) (hl : lk ls 2 [(0, .inr (some t0)), (1, .inl v1)]) (h : S_X6_init_35_b rec35 σ t0 v1 = some z) : W p l e R s m args below meth c H locs (σ.2.2.2.1 - n0) (σ.2.2.2.2 - s0) (MQ below (qG D dA base none z) args s (z.2.2.2.1 - n0) (z.2.2.2.2 - s0) (fun q => base ≤ q)) (F0 m 35 ls []) := by
  have hz0 := mo_X6_init_35_b hm35 h
  have hcl : σ.2.2.2.1 - n0 ≤ R.cells ∧ σ.2.2.2.2 - s0 ≤ R.slots := by unfold le4 at hz0; omega
  unfold S_X6_init_35_b at h
  refine q_iload_n X dX6_init_35 rfl hl 1 rfl ?_
  refine lv_bipush (v := (20 : Int32)) X.1 X.2.1 dX6_init_36 (by decide) ?_
  refine lv_icmp_ge (tgt := 60) X.1 X.2.1 dX6_init_38 (by decide) (fun c38 => ?_) (fun c38 => ?_)
  · rw [if_pos c38] at h
    cases h
    exact q_vret X hret hlk hh hS dX6_init_60
  · rw [if_neg c38] at h
    refine q_aload_n X dX6_init_41 rfl hl 0 rfl ?_
    obtain ⟨t42, e_t42, h⟩ := o_b h
    refine q_gR X hh fa_X6_24 rfl e_t42 dX6_init_42 ?_
    refine q_iload_n X dX6_init_45 rfl hl 1 rfl ?_
    obtain ⟨q46, e_q46, h⟩ := o_b h
    have g46 := mo_X6_init_49 hm35 h
    have f46 := l_nw e_q46
    unfold le4 at g46
    refine q_nw X hh hS fn_X6_22 e_q46 dX6_init_46 (by omega) (by omega) (fun H hh hS => ?_)
    refine W.cs (cells' := q46.2.2.2.2.1 - n0) (slots' := q46.2.2.2.2.2 - s0) (by omega) (by omega) ?_
    have hn : n0 ≤ q46.2.2.2.2.1 ∧ s0 ≤ q46.2.2.2.2.2 := by omega
    exact K_X6_init_49 X hret hlk hR hin hRc hm35 hr35 hn hh hS (lk_sub hl [0, 1] rfl) h
theorem K_X6_init_35 {p : Program} {l : Launch} {e : Env} {R : Room} {s : State} {m : MethodId} {args : Array Value} {below : List Frame} {meth : Method} {c : Code} {D : va_G} {dA : Nat → ClassId} {base : Nat} {z : hp} (X : cx p s m args c cX6_init RX6 2 D dA) (hret : meth.sig.returnType = none) (hlk : meth.locks = false) (hR : 2 ≤ R.frames ∧ 41 ≤ R.locals) (hin : meth.name = "<init>") {n0 s0 : Nat} (hRc : z.2.2.2.1 ≤ n0 + R.cells ∧ z.2.2.2.2 ≤ s0 + R.slots) : ∀ (n : Nat) (σ : hp) (t0 : Nat) (v1 : Int32) (H : Heap) (locs : List Loc) (ls : Array Slot), n0 ≤ σ.2.2.2.1 ∧ s0 ≤ σ.2.2.2.2 → hw D dA base σ H → hs base s.heap H locs → lk ls 2 [(0, .inr (some t0)), (1, .inl v1)] → S_X6_init_35 n σ t0 v1 = some z → W p l e R s m args below meth c H locs (σ.2.2.2.1 - n0) (σ.2.2.2.2 - s0) (MQ below (qG D dA base none z) args s (z.2.2.2.1 - n0) (z.2.2.2.2 - s0) (fun q => base ≤ q)) (F0 m 35 ls []) := by
  intro n
  induction n with
  | zero => intro σ t0 v1 H locs ls hn hh hS hl h; cases h
  | succ n ih => intro σ t0 v1 H locs ls hn hh hS hl h; exact K_X6_init_35_b X hret hlk hR hin hRc (mo_X6_init_35 n) ih hn hh hS hl h
theorem mo_X6_init_30 {z : hp} {σ : hp} {t0 : Nat} {w0 : Option Nat} {w1 : Option Nat} (h : S_X6_init_30 σ t0 w0 w1 = some z) : le4 σ z := by
  unfold S_X6_init_30 at h
  obtain ⟨s30, e_s30, h⟩ := o_b h
  exact ((e_pR e_s30).le).tr (mo_X6_init_35 FU _ _ _ h)
set_option maxHeartbeats 4000000 in
set_option maxRecDepth 100000 in
theorem K_X6_init_30 {p : Program} {l : Launch} {e : Env} {R : Room} {s : State} {m : MethodId} {args : Array Value} {below : List Frame} {meth : Method} {c : Code} {D : va_G} {dA : Nat → ClassId} {base : Nat} {z : hp} (X : cx p s m args c cX6_init RX6 2 D dA) (hret : meth.sig.returnType = none) (hlk : meth.locks = false) (hR : 2 ≤ R.frames ∧ 41 ≤ R.locals) (hin : meth.name = "<init>") {n0 s0 : Nat} (hRc : z.2.2.2.1 ≤ n0 + R.cells ∧ z.2.2.2.2 ≤ s0 + R.slots) {σ : hp} {t0 : Nat} {w0 : Option Nat} {w1 : Option Nat} {H : Heap} {locs : List Loc} {ls : Array Slot} (hn : n0 ≤ σ.2.2.2.1 ∧ s0 ≤ σ.2.2.2.2) (hh : hw D dA base σ H) (hS : hs base s.heap H locs) (hl : lk ls 2 [(0, .inr (some t0))]) (h : S_X6_init_30 σ t0 w0 w1 = some z) : W p l e R s m args below meth c H locs (σ.2.2.2.1 - n0) (σ.2.2.2.2 - s0) (MQ below (qG D dA base none z) args s (z.2.2.2.1 - n0) (z.2.2.2.2 - s0) (fun q => base ≤ q)) (F0 m 30 ls [va_rf w1, va_rf w0]) := by
  have hz0 := mo_X6_init_30 h
  have hcl : σ.2.2.2.1 - n0 ≤ R.cells ∧ σ.2.2.2.2 - s0 ≤ R.slots := by unfold le4 at hz0; omega
  unfold S_X6_init_30 at h
  obtain ⟨s30, e_s30, h⟩ := o_b h
  refine q_pR X hh hS fp_X6_24 (fun _ => hin) rfl (Or.inr ⟨_, rfl⟩) e_s30 dX6_init_30 (fun H locs hh hS => ?_)
  refine lv_iconst (v := (0 : Int32)) X.1 X.2.1 dX6_init_33 (by decide) ?_
  refine q_istore_n (lv' := [(1, .inl (0 : Int32)), (0, .inr (some t0))]) X dX6_init_34 rfl hl (by decide) rfl (fun ls hl => ?_)
  have ys30 : eq4 σ s30 := (e_pR e_s30)
  refine W.cs (cells' := s30.2.2.2.1 - n0) (slots' := s30.2.2.2.2 - s0) (by rw [show s30.2.2.2 = σ.2.2.2 from ys30]) (by rw [show s30.2.2.2 = σ.2.2.2 from ys30]) ?_
  have hn : n0 ≤ s30.2.2.2.1 ∧ s0 ≤ s30.2.2.2.2 := by rw [show s30.2.2.2 = σ.2.2.2 from ys30]; exact hn
  have hcl : s30.2.2.2.1 - n0 ≤ R.cells ∧ s30.2.2.2.2 - s0 ≤ R.slots := by rw [show s30.2.2.2 = σ.2.2.2 from ys30]; exact hcl
  exact K_X6_init_35 X hret hlk hR hin hRc FU _ _ _ _ _ _ hn hh hS (lk_sub hl [1, 0] rfl) h
theorem mo_X6_init_0 {z : hp} {σ : hp} {t0 : Nat} (h : S_X6_init σ t0 = some z) : le4 σ z := by
  unfold S_X6_init at h
  obtain ⟨s6, e_s6, h⟩ := o_b h
  obtain ⟨s11, e_s11, h⟩ := o_b h
  obtain ⟨s16, e_s16, h⟩ := o_b h
  obtain ⟨s21, e_s21, h⟩ := o_b h
  obtain ⟨q27, e_q27, h⟩ := o_b h
  exact ((((((e_pI e_s6).le).tr (e_pI e_s11).le).tr (e_pI e_s16).le).tr (e_pI e_s21).le).tr (m_na e_q27)).tr (mo_X6_init_30 h)
set_option maxHeartbeats 4000000 in
set_option maxRecDepth 100000 in
theorem K_X6_init_0 {p : Program} {l : Launch} {e : Env} {R : Room} {s : State} {m : MethodId} {args : Array Value} {below : List Frame} {meth : Method} {c : Code} {D : va_G} {dA : Nat → ClassId} {base : Nat} {z : hp} (X : cx p s m args c cX6_init RX6 2 D dA) (hret : meth.sig.returnType = none) (hlk : meth.locks = false) (hR : 2 ≤ R.frames ∧ 41 ≤ R.locals) (hin : meth.name = "<init>") {n0 s0 : Nat} (hRc : z.2.2.2.1 ≤ n0 + R.cells ∧ z.2.2.2.2 ≤ s0 + R.slots) {σ : hp} {t0 : Nat} {H : Heap} {locs : List Loc} {ls : Array Slot} (hn : n0 ≤ σ.2.2.2.1 ∧ s0 ≤ σ.2.2.2.2) (hh : hw D dA base σ H) (hS : hs base s.heap H locs) (hl : lk ls 2 [(0, .inr (some t0))]) (h : S_X6_init σ t0 = some z) : W p l e R s m args below meth c H locs (σ.2.2.2.1 - n0) (σ.2.2.2.2 - s0) (MQ below (qG D dA base none z) args s (z.2.2.2.1 - n0) (z.2.2.2.2 - s0) (fun q => base ≤ q)) (F0 m 0 ls []) := by
  have hz0 := mo_X6_init_0 h
  have hcl : σ.2.2.2.1 - n0 ≤ R.cells ∧ σ.2.2.2.2 - s0 ≤ R.slots := by unfold le4 at hz0; omega
  unfold S_X6_init at h
  refine q_aload_n X dX6_init_0 rfl hl 0 rfl ?_
  refine q_objInit X hl cj_X6_3 gj_o1 gj_o2 dX6_init_1 ⟨Nat.le_trans (by decide) hR.1, Nat.le_trans (by decide) hR.2⟩ (cat8 [] (Nat.le_of_ble_eq_true rfl)) ?_
  refine q_aload_n X dX6_init_4 rfl hl 0 rfl ?_
  refine lv_iconst (v := (0 : Int32)) X.1 X.2.1 dX6_init_5 (by decide) ?_
  obtain ⟨s6, e_s6, h⟩ := o_b h
  refine q_pI X hh hS fp_X6_9 (fun h => by cases h) rfl e_s6 dX6_init_6 (fun H locs hh hS => ?_)
  refine q_aload_n X dX6_init_9 rfl hl 0 rfl ?_
  refine lv_iconst (v := (1 : Int32)) X.1 X.2.1 dX6_init_10 (by decide) ?_
  obtain ⟨s11, e_s11, h⟩ := o_b h
  refine q_pI X hh hS fp_X6_13 (fun h => by cases h) rfl e_s11 dX6_init_11 (fun H locs hh hS => ?_)
  refine q_aload_n X dX6_init_14 rfl hl 0 rfl ?_
  refine lv_iconst (v := (0 : Int32)) X.1 X.2.1 dX6_init_15 (by decide) ?_
  obtain ⟨s16, e_s16, h⟩ := o_b h
  refine q_pI X hh hS fp_X6_16 (fun h => by cases h) rfl e_s16 dX6_init_16 (fun H locs hh hS => ?_)
  refine q_aload_n X dX6_init_19 rfl hl 0 rfl ?_
  refine lv_iconst (v := (0 : Int32)) X.1 X.2.1 dX6_init_20 (by decide) ?_
  obtain ⟨s21, e_s21, h⟩ := o_b h
  refine q_pI X hh hS fp_X6_19 (fun h => by cases h) rfl e_s21 dX6_init_21 (fun H locs hh hS => ?_)
  refine q_aload_n X dX6_init_24 rfl hl 0 rfl ?_
  refine lv_bipush (v := (20 : Int32)) X.1 X.2.1 dX6_init_25 (by decide) ?_
  obtain ⟨q27, e_q27, h⟩ := o_b h
  have ys21 : eq4 σ s21 := ((((e_pI e_s6)).tr (e_pI e_s11)).tr (e_pI e_s16)).tr (e_pI e_s21)
  refine W.cs (cells' := s21.2.2.2.1 - n0) (slots' := s21.2.2.2.2 - s0) (by rw [show s21.2.2.2 = σ.2.2.2 from ys21]) (by rw [show s21.2.2.2 = σ.2.2.2 from ys21]) ?_
  have hn : n0 ≤ s21.2.2.2.1 ∧ s0 ≤ s21.2.2.2.2 := by rw [show s21.2.2.2 = σ.2.2.2 from ys21]; exact hn
  have hcl : s21.2.2.2.1 - n0 ≤ R.cells ∧ s21.2.2.2.2 - s0 ≤ R.slots := by rw [show s21.2.2.2 = σ.2.2.2 from ys21]; exact hcl
  have g27 := mo_X6_init_30 h
  have f27 := l_na e_q27
  unfold le4 at g27
  refine q_naQ (t := 6) X hh hS (by decide) rfl (gm 104 (by decide +kernel) rfl) (by decide) e_q27 dX6_init_27 (by omega) (by omega) (fun H hh hS => ?_)
  refine W.cs (cells' := q27.2.2.2.2.1 - n0) (slots' := q27.2.2.2.2.2 - s0) (by omega) (by omega) ?_
  have hn : n0 ≤ q27.2.2.2.2.1 ∧ s0 ≤ q27.2.2.2.2.2 := by omega
  exact K_X6_init_30 X hret hlk hR hin hRc hn hh hS (lk_sub hl [0] rfl) h
set_option maxRecDepth 100000 in
theorem M_X6_init (l : Launch) (D : va_G) (dA : Nat → ClassId) (base : Nat) (σ : hp) (t0 : Nat) {z : hp} (h : S_X6_init σ t0 = some z) : mt l yX6_init cX6_init 2 (none) 2 41 D dA base σ [.ref t0] none z (z.2.2.2.1 - σ.2.2.2.1) (z.2.2.2.2 - σ.2.2.2.2) := by
  have hzz := mo_X6_init_0 h
  unfold le4 at hzz
  refine Met.ofW (cc := cX6_init) (maxL := 2) (ret := none) (by decide) rfl ?_
  intro p e s m args below meth c s₁ B hml hv
  obtain ⟨rfl, hh, hK⟩ := hv
  have X : cx p s m ([.ref t0] : List Value).toArray c cX6_init RX6 2 D dA := ⟨B.exec, B.bytes, findClass_of_methodNamed B.named, hml, fun w hw => atoms_spec (ws := .code yX6_init cX6_init 2 (none) :: G) B.pre w (List.mem_cons_of_mem _ hw), hK⟩
  have hl := lk_entry [.inr (some t0)] (n := 2) (Nat.le_of_ble_eq_true rfl)
  rw [lg_entry_eq]
  have hl : lk ((lg_sl ([.ref t0] : List Value) ++ List.replicate (2 - (lg_sl ([.ref t0] : List Value)).length) Slot.unset).toArray) 2 [(0, .inr (some t0))] := hl
  generalize (lg_sl ([.ref t0] : List Value) ++ List.replicate (2 - (lg_sl ([.ref t0] : List Value)).length) Slot.unset).toArray = ls at hl ⊢
  refine W.cs (cells' := σ.2.2.2.1 - σ.2.2.2.1) (slots' := σ.2.2.2.2 - σ.2.2.2.2) (Nat.sub_self _).symm (Nat.sub_self _).symm ?_
  exact K_X6_init_0 X B.returns B.notSynchronized ⟨Nat.le_refl _, Nat.le_refl _⟩ (name_of_methodNamed B.named B.method).1 (n0 := σ.2.2.2.1) (s0 := σ.2.2.2.2) ⟨by show _ ≤ _ + (_ - _); omega, by show _ ≤ _ + (_ - _); omega⟩ ⟨Nat.le_refl _, Nat.le_refl _⟩ hh va_S.rf hl h
theorem mo_X5_init_34 {z : hp} {σ : hp} {t0 : Nat} {v1 : Int32} {v2 : Option Nat} {w0 : Option Nat} {w1 : Option Nat} (h : S_X5_init_34 σ t0 v1 v2 w0 w1 = some z) : le4 σ z := by
  unfold S_X5_init_34 at h
  obtain ⟨s34, e_s34, h⟩ := o_b h
  obtain ⟨s39, e_s39, h⟩ := o_b h
  obtain ⟨s44, e_s44, h⟩ := o_b h
  obtain ⟨s49, e_s49, h⟩ := o_b h
  obtain ⟨s54, e_s54, h⟩ := o_b h
  obtain ⟨z59, e_z59, h⟩ := o_b h
  obtain ⟨s59, e_s59, h⟩ := o_b h
  obtain ⟨s64, e_s64, h⟩ := o_b h
  obtain ⟨s69, e_s69, h⟩ := o_b h
  obtain ⟨s74, e_s74, h⟩ := o_b h
  obtain ⟨s79, e_s79, h⟩ := o_b h
  obtain ⟨s84, e_s84, h⟩ := o_b h
  cases h
  exact (((((((((((e_pR e_s34).le).tr (e_pI e_s39).le).tr (e_pI e_s44).le).tr (e_pI e_s49).le).tr (e_pI e_s54).le).tr (e_pI e_s59).le).tr (e_pI e_s64).le).tr (e_pI e_s69).le).tr (e_pI e_s74).le).tr (e_pI e_s79).le).tr (e_pR e_s84).le
set_option maxHeartbeats 4000000 in
set_option maxRecDepth 100000 in
theorem K_X5_init_34 {p : Program} {l : Launch} {e : Env} {R : Room} {s : State} {m : MethodId} {args : Array Value} {below : List Frame} {meth : Method} {c : Code} {D : va_G} {dA : Nat → ClassId} {base : Nat} {z : hp} (X : cx p s m args c cX5_init RX5 3 D dA) (hret : meth.sig.returnType = none) (hlk : meth.locks = false) (hR : 3 ≤ R.frames ∧ 62 ≤ R.locals) (hin : meth.name = "<init>") {n0 s0 : Nat} (hRc : z.2.2.2.1 ≤ n0 + R.cells ∧ z.2.2.2.2 ≤ s0 + R.slots) {σ : hp} {t0 : Nat} {v1 : Int32} {v2 : Option Nat} {w0 : Option Nat} {w1 : Option Nat} {H : Heap} {locs : List Loc} {ls : Array Slot} (hn : n0 ≤ σ.2.2.2.1 ∧ s0 ≤ σ.2.2.2.2) (hh : hw D dA base σ H) (hS : hs base s.heap H locs) (hl : lk ls 3 [(0, .inr (some t0)), (1, .inl v1), (2, .inr v2)]) (h : S_X5_init_34 σ t0 v1 v2 w0 w1 = some z) : W p l e R s m args below meth c H locs (σ.2.2.2.1 - n0) (σ.2.2.2.2 - s0) (MQ below (qG D dA base none z) args s (z.2.2.2.1 - n0) (z.2.2.2.2 - s0) (fun q => base ≤ q)) (F0 m 34 ls [va_rf w1, va_rf w0]) := by
  have hz0 := mo_X5_init_34 h
  have hcl : σ.2.2.2.1 - n0 ≤ R.cells ∧ σ.2.2.2.2 - s0 ≤ R.slots := by unfold le4 at hz0; omega
  unfold S_X5_init_34 at h
  obtain ⟨s34, e_s34, h⟩ := o_b h
  refine q_pR X hh hS fp_X5_28 (fun _ => hin) rfl (Or.inl ⟨_, rfl⟩) e_s34 dX5_init_34 (fun H locs hh hS => ?_)
  refine q_aload_n X dX5_init_37 rfl hl 0 rfl ?_
  refine lv_iconst (v := (0 : Int32)) X.1 X.2.1 dX5_init_38 (by decide) ?_
  obtain ⟨s39, e_s39, h⟩ := o_b h
  refine q_pI X hh hS fp_X5_32 (fun h => by cases h) rfl e_s39 dX5_init_39 (fun H locs hh hS => ?_)
  refine q_aload_n X dX5_init_42 rfl hl 0 rfl ?_
  refine lv_iconst (v := (0 : Int32)) X.1 X.2.1 dX5_init_43 (by decide) ?_
  obtain ⟨s44, e_s44, h⟩ := o_b h
  refine q_pI X hh hS fp_X5_36 (fun h => by cases h) rfl e_s44 dX5_init_44 (fun H locs hh hS => ?_)
  refine q_aload_n X dX5_init_47 rfl hl 0 rfl ?_
  refine lv_iconst (v := (-1 : Int32)) X.1 X.2.1 dX5_init_48 (by decide) ?_
  obtain ⟨s49, e_s49, h⟩ := o_b h
  refine q_pI X hh hS fp_X5_39 (fun h => by cases h) rfl e_s49 dX5_init_49 (fun H locs hh hS => ?_)
  refine q_aload_n X dX5_init_52 rfl hl 0 rfl ?_
  refine lv_iconst (v := (0 : Int32)) X.1 X.2.1 dX5_init_53 (by decide) ?_
  obtain ⟨s54, e_s54, h⟩ := o_b h
  refine q_pI X hh hS fp_X5_42 (fun h => by cases h) rfl e_s54 dX5_init_54 (fun H locs hh hS => ?_)
  refine q_aload_n X dX5_init_57 rfl hl 0 rfl ?_
  refine lv_iconst (v := (0 : Int32)) X.1 X.2.1 dX5_init_58 (by decide) ?_
  obtain ⟨z59, e_z59, h⟩ := o_b h
  obtain ⟨s59, e_s59, h⟩ := o_b h
  refine q_pZ X hh hS fp_X5_45 (fun h => by cases h) rfl e_z59 e_s59 dX5_init_59 (fun H locs hh hS => ?_)
  refine q_aload_n X dX5_init_62 rfl hl 0 rfl ?_
  refine lv_iconst (v := (0 : Int32)) X.1 X.2.1 dX5_init_63 (by decide) ?_
  obtain ⟨s64, e_s64, h⟩ := o_b h
  refine q_pI X hh hS fp_X5_49 (fun h => by cases h) rfl e_s64 dX5_init_64 (fun H locs hh hS => ?_)
  refine q_aload_n X dX5_init_67 rfl hl 0 rfl ?_
  refine lv_iconst (v := (0 : Int32)) X.1 X.2.1 dX5_init_68 (by decide) ?_
  obtain ⟨s69, e_s69, h⟩ := o_b h
  refine q_pI X hh hS fp_X5_52 (fun h => by cases h) rfl e_s69 dX5_init_69 (fun H locs hh hS => ?_)
  refine q_aload_n X dX5_init_72 rfl hl 0 rfl ?_
  refine lv_iconst (v := (0 : Int32)) X.1 X.2.1 dX5_init_73 (by decide) ?_
  obtain ⟨s74, e_s74, h⟩ := o_b h
  refine q_pI X hh hS fp_X5_55 (fun h => by cases h) rfl e_s74 dX5_init_74 (fun H locs hh hS => ?_)
  refine q_aload_n X dX5_init_77 rfl hl 0 rfl ?_
  refine q_iload_n X dX5_init_78 rfl hl 1 rfl ?_
  obtain ⟨s79, e_s79, h⟩ := o_b h
  refine q_pI X hh hS fp_X5_58 (fun _ => hin) rfl e_s79 dX5_init_79 (fun H locs hh hS => ?_)
  refine q_aload_n X dX5_init_82 rfl hl 0 rfl ?_
  refine q_aload_n X dX5_init_83 rfl hl 2 rfl ?_
  obtain ⟨s84, e_s84, h⟩ := o_b h
  refine q_pR X hh hS fp_X5_61 (fun _ => hin) rfl (Or.inl ⟨_, rfl⟩) e_s84 dX5_init_84 (fun H locs hh hS => ?_)
  have ys84 : eq4 σ s84 := (((((((((((e_pR e_s34)).tr (e_pI e_s39)).tr (e_pI e_s44)).tr (e_pI e_s49)).tr (e_pI e_s54)).tr (e_pI e_s59)).tr (e_pI e_s64)).tr (e_pI e_s69)).tr (e_pI e_s74)).tr (e_pI e_s79)).tr (e_pR e_s84)
  refine W.cs (cells' := s84.2.2.2.1 - n0) (slots' := s84.2.2.2.2 - s0) (by rw [show s84.2.2.2 = σ.2.2.2 from ys84]) (by rw [show s84.2.2.2 = σ.2.2.2 from ys84]) ?_
  have hn : n0 ≤ s84.2.2.2.1 ∧ s0 ≤ s84.2.2.2.2 := by rw [show s84.2.2.2 = σ.2.2.2 from ys84]; exact hn
  have hcl : s84.2.2.2.1 - n0 ≤ R.cells ∧ s84.2.2.2.2 - s0 ≤ R.slots := by rw [show s84.2.2.2 = σ.2.2.2 from ys84]; exact hcl
  cases h
  exact q_vret X hret hlk hh hS dX5_init_87
theorem mo_X5_init_30 {z : hp} {σ : hp} {t0 : Nat} {v1 : Int32} {v2 : Option Nat} {w0 : Option Nat} {w1 : Option Nat} (h : S_X5_init_30 σ t0 v1 v2 w0 w1 = some z) : le4 σ z := by
  unfold S_X5_init_30 at h
  obtain ⟨b31, e_b31, h⟩ := o_b h
  obtain ⟨q31, e_q31, h⟩ := o_b h
  exact ((mo_X1_init_0 e_q31)).tr (mo_X5_init_34 h)
set_option maxHeartbeats 4000000 in
set_option maxRecDepth 100000 in
theorem K_X5_init_30 {p : Program} {l : Launch} {e : Env} {R : Room} {s : State} {m : MethodId} {args : Array Value} {below : List Frame} {meth : Method} {c : Code} {D : va_G} {dA : Nat → ClassId} {base : Nat} {z : hp} (X : cx p s m args c cX5_init RX5 3 D dA) (hret : meth.sig.returnType = none) (hlk : meth.locks = false) (hR : 3 ≤ R.frames ∧ 62 ≤ R.locals) (hin : meth.name = "<init>") {n0 s0 : Nat} (hRc : z.2.2.2.1 ≤ n0 + R.cells ∧ z.2.2.2.2 ≤ s0 + R.slots) {σ : hp} {t0 : Nat} {v1 : Int32} {v2 : Option Nat} {w0 : Option Nat} {w1 : Option Nat} {H : Heap} {locs : List Loc} {ls : Array Slot} (hn : n0 ≤ σ.2.2.2.1 ∧ s0 ≤ σ.2.2.2.2) (hh : hw D dA base σ H) (hS : hs base s.heap H locs) (hl : lk ls 3 [(0, .inr (some t0)), (1, .inl v1), (2, .inr v2)]) (h : S_X5_init_30 σ t0 v1 v2 w0 w1 = some z) : W p l e R s m args below meth c H locs (σ.2.2.2.1 - n0) (σ.2.2.2.2 - s0) (MQ below (qG D dA base none z) args s (z.2.2.2.1 - n0) (z.2.2.2.2 - s0) (fun q => base ≤ q)) (F0 m 30 ls [va_rf w1, va_rf w0]) := by
  have hz0 := mo_X5_init_30 h
  have hcl : σ.2.2.2.1 - n0 ≤ R.cells ∧ σ.2.2.2.2 - s0 ≤ R.slots := by unfold le4 at hz0; omega
  unfold S_X5_init_30 at h
  refine lv_dup X.1 X.2.1 dX5_init_30 (vv_cat (.inr w1)) ?_
  obtain ⟨b31, e_b31, h⟩ := o_b h
  obtain ⟨q31, e_q31, h⟩ := o_b h
  have g31 := mo_X5_init_34 h
  have f31 := mo_X1_init_0 e_q31
  unfold le4 at g31 f31
  refine q_cN (As := []) X hh hS hl cf_X5_27 e_b31 rfl (M_X1_init l D dA base σ b31  e_q31) ⟨Nat.le_trans (by decide) hR.1, Nat.le_trans (by decide) hR.2⟩ (cat8 [.inr w1, .inr w0] (Nat.le_of_ble_eq_true rfl)) dX5_init_31 ⟨by omega, by omega⟩ rfl (fun H locs hh hS => ?_)
  refine W.cs (cells' := q31.2.2.2.1 - n0) (slots' := q31.2.2.2.2 - s0) (by omega) (by omega) ?_
  have hn : n0 ≤ q31.2.2.2.1 ∧ s0 ≤ q31.2.2.2.2 := by omega
  exact K_X5_init_34 X hret hlk hR hin hRc hn hh hS (lk_sub hl [0, 1, 2] rfl) h
theorem mo_X5_init_23 {z : hp} {σ : hp} {t0 : Nat} {v1 : Int32} {v2 : Option Nat} {w0 : Option Nat} {w1 : Option Nat} (h : S_X5_init_23 σ t0 v1 v2 w0 w1 = some z) : le4 σ z := by
  unfold S_X5_init_23 at h
  obtain ⟨s23, e_s23, h⟩ := o_b h
  obtain ⟨q27, e_q27, h⟩ := o_b h
  exact (((e_pR e_s23).le).tr (m_nw e_q27)).tr (mo_X5_init_30 h)
set_option maxHeartbeats 4000000 in
set_option maxRecDepth 100000 in
theorem K_X5_init_23 {p : Program} {l : Launch} {e : Env} {R : Room} {s : State} {m : MethodId} {args : Array Value} {below : List Frame} {meth : Method} {c : Code} {D : va_G} {dA : Nat → ClassId} {base : Nat} {z : hp} (X : cx p s m args c cX5_init RX5 3 D dA) (hret : meth.sig.returnType = none) (hlk : meth.locks = false) (hR : 3 ≤ R.frames ∧ 62 ≤ R.locals) (hin : meth.name = "<init>") {n0 s0 : Nat} (hRc : z.2.2.2.1 ≤ n0 + R.cells ∧ z.2.2.2.2 ≤ s0 + R.slots) {σ : hp} {t0 : Nat} {v1 : Int32} {v2 : Option Nat} {w0 : Option Nat} {w1 : Option Nat} {H : Heap} {locs : List Loc} {ls : Array Slot} (hn : n0 ≤ σ.2.2.2.1 ∧ s0 ≤ σ.2.2.2.2) (hh : hw D dA base σ H) (hS : hs base s.heap H locs) (hl : lk ls 3 [(0, .inr (some t0)), (1, .inl v1), (2, .inr v2)]) (h : S_X5_init_23 σ t0 v1 v2 w0 w1 = some z) : W p l e R s m args below meth c H locs (σ.2.2.2.1 - n0) (σ.2.2.2.2 - s0) (MQ below (qG D dA base none z) args s (z.2.2.2.1 - n0) (z.2.2.2.2 - s0) (fun q => base ≤ q)) (F0 m 23 ls [va_rf w1, va_rf w0]) := by
  have hz0 := mo_X5_init_23 h
  have hcl : σ.2.2.2.1 - n0 ≤ R.cells ∧ σ.2.2.2.2 - s0 ≤ R.slots := by unfold le4 at hz0; omega
  unfold S_X5_init_23 at h
  obtain ⟨s23, e_s23, h⟩ := o_b h
  refine q_pR X hh hS fp_X5_21 (fun _ => hin) rfl (Or.inl ⟨_, rfl⟩) e_s23 dX5_init_23 (fun H locs hh hS => ?_)
  refine q_aload_n X dX5_init_26 rfl hl 0 rfl ?_
  obtain ⟨q27, e_q27, h⟩ := o_b h
  have ys23 : eq4 σ s23 := (e_pR e_s23)
  refine W.cs (cells' := s23.2.2.2.1 - n0) (slots' := s23.2.2.2.2 - s0) (by rw [show s23.2.2.2 = σ.2.2.2 from ys23]) (by rw [show s23.2.2.2 = σ.2.2.2 from ys23]) ?_
  have hn : n0 ≤ s23.2.2.2.1 ∧ s0 ≤ s23.2.2.2.2 := by rw [show s23.2.2.2 = σ.2.2.2 from ys23]; exact hn
  have hcl : s23.2.2.2.1 - n0 ≤ R.cells ∧ s23.2.2.2.2 - s0 ≤ R.slots := by rw [show s23.2.2.2 = σ.2.2.2 from ys23]; exact hcl
  have g27 := mo_X5_init_30 h
  have f27 := l_nw e_q27
  unfold le4 at g27
  refine q_nw X hh hS fn_X5_25 e_q27 dX5_init_27 (by omega) (by omega) (fun H hh hS => ?_)
  refine W.cs (cells' := q27.2.2.2.2.1 - n0) (slots' := q27.2.2.2.2.2 - s0) (by omega) (by omega) ?_
  have hn : n0 ≤ q27.2.2.2.2.1 ∧ s0 ≤ q27.2.2.2.2.2 := by omega
  exact K_X5_init_30 X hret hlk hR hin hRc hn hh hS (lk_sub hl [0, 1, 2] rfl) h
theorem mo_X5_init_19 {z : hp} {σ : hp} {t0 : Nat} {v1 : Int32} {v2 : Option Nat} {w0 : Option Nat} {w1 : Option Nat} (h : S_X5_init_19 σ t0 v1 v2 w0 w1 = some z) : le4 σ z := by
  unfold S_X5_init_19 at h
  obtain ⟨b20, e_b20, h⟩ := o_b h
  obtain ⟨q20, e_q20, h⟩ := o_b h
  exact ((mo_X6_init_0 e_q20)).tr (mo_X5_init_23 h)
set_option maxHeartbeats 4000000 in
set_option maxRecDepth 100000 in
theorem K_X5_init_19 {p : Program} {l : Launch} {e : Env} {R : Room} {s : State} {m : MethodId} {args : Array Value} {below : List Frame} {meth : Method} {c : Code} {D : va_G} {dA : Nat → ClassId} {base : Nat} {z : hp} (X : cx p s m args c cX5_init RX5 3 D dA) (hret : meth.sig.returnType = none) (hlk : meth.locks = false) (hR : 3 ≤ R.frames ∧ 62 ≤ R.locals) (hin : meth.name = "<init>") {n0 s0 : Nat} (hRc : z.2.2.2.1 ≤ n0 + R.cells ∧ z.2.2.2.2 ≤ s0 + R.slots) {σ : hp} {t0 : Nat} {v1 : Int32} {v2 : Option Nat} {w0 : Option Nat} {w1 : Option Nat} {H : Heap} {locs : List Loc} {ls : Array Slot} (hn : n0 ≤ σ.2.2.2.1 ∧ s0 ≤ σ.2.2.2.2) (hh : hw D dA base σ H) (hS : hs base s.heap H locs) (hl : lk ls 3 [(0, .inr (some t0)), (1, .inl v1), (2, .inr v2)]) (h : S_X5_init_19 σ t0 v1 v2 w0 w1 = some z) : W p l e R s m args below meth c H locs (σ.2.2.2.1 - n0) (σ.2.2.2.2 - s0) (MQ below (qG D dA base none z) args s (z.2.2.2.1 - n0) (z.2.2.2.2 - s0) (fun q => base ≤ q)) (F0 m 19 ls [va_rf w1, va_rf w0]) := by
  have hz0 := mo_X5_init_19 h
  have hcl : σ.2.2.2.1 - n0 ≤ R.cells ∧ σ.2.2.2.2 - s0 ≤ R.slots := by unfold le4 at hz0; omega
  unfold S_X5_init_19 at h
  refine lv_dup X.1 X.2.1 dX5_init_19 (vv_cat (.inr w1)) ?_
  obtain ⟨b20, e_b20, h⟩ := o_b h
  obtain ⟨q20, e_q20, h⟩ := o_b h
  have g20 := mo_X5_init_23 h
  have f20 := mo_X6_init_0 e_q20
  unfold le4 at g20 f20
  refine q_cI (As := []) X hh hS hl cf_X5_20 e_b20 rfl (M_X6_init l D dA base σ b20  e_q20) ⟨Nat.le_trans (by decide) hR.1, Nat.le_trans (by decide) hR.2⟩ (cat8 [.inr w1, .inr w0] (Nat.le_of_ble_eq_true rfl)) dX5_init_20 ⟨by omega, by omega⟩ rfl (fun H locs hh hS => ?_)
  refine W.cs (cells' := q20.2.2.2.1 - n0) (slots' := q20.2.2.2.2 - s0) (by omega) (by omega) ?_
  have hn : n0 ≤ q20.2.2.2.1 ∧ s0 ≤ q20.2.2.2.2 := by omega
  exact K_X5_init_23 X hret hlk hR hin hRc hn hh hS (lk_sub hl [0, 1, 2] rfl) h
theorem mo_X5_init_12 {z : hp} {σ : hp} {t0 : Nat} {v1 : Int32} {v2 : Option Nat} {w0 : Option Nat} {w1 : Option Nat} (h : S_X5_init_12 σ t0 v1 v2 w0 w1 = some z) : le4 σ z := by
  unfold S_X5_init_12 at h
  obtain ⟨s12, e_s12, h⟩ := o_b h
  obtain ⟨q16, e_q16, h⟩ := o_b h
  exact (((e_pR e_s12).le).tr (m_nw e_q16)).tr (mo_X5_init_19 h)
set_option maxHeartbeats 4000000 in
set_option maxRecDepth 100000 in
theorem K_X5_init_12 {p : Program} {l : Launch} {e : Env} {R : Room} {s : State} {m : MethodId} {args : Array Value} {below : List Frame} {meth : Method} {c : Code} {D : va_G} {dA : Nat → ClassId} {base : Nat} {z : hp} (X : cx p s m args c cX5_init RX5 3 D dA) (hret : meth.sig.returnType = none) (hlk : meth.locks = false) (hR : 3 ≤ R.frames ∧ 62 ≤ R.locals) (hin : meth.name = "<init>") {n0 s0 : Nat} (hRc : z.2.2.2.1 ≤ n0 + R.cells ∧ z.2.2.2.2 ≤ s0 + R.slots) {σ : hp} {t0 : Nat} {v1 : Int32} {v2 : Option Nat} {w0 : Option Nat} {w1 : Option Nat} {H : Heap} {locs : List Loc} {ls : Array Slot} (hn : n0 ≤ σ.2.2.2.1 ∧ s0 ≤ σ.2.2.2.2) (hh : hw D dA base σ H) (hS : hs base s.heap H locs) (hl : lk ls 3 [(0, .inr (some t0)), (1, .inl v1), (2, .inr v2)]) (h : S_X5_init_12 σ t0 v1 v2 w0 w1 = some z) : W p l e R s m args below meth c H locs (σ.2.2.2.1 - n0) (σ.2.2.2.2 - s0) (MQ below (qG D dA base none z) args s (z.2.2.2.1 - n0) (z.2.2.2.2 - s0) (fun q => base ≤ q)) (F0 m 12 ls [va_rf w1, va_rf w0]) := by
  have hz0 := mo_X5_init_12 h
  have hcl : σ.2.2.2.1 - n0 ≤ R.cells ∧ σ.2.2.2.2 - s0 ≤ R.slots := by unfold le4 at hz0; omega
  unfold S_X5_init_12 at h
  obtain ⟨s12, e_s12, h⟩ := o_b h
  refine q_pR X hh hS fp_X5_12 (fun _ => hin) rfl (Or.inl ⟨_, rfl⟩) e_s12 dX5_init_12 (fun H locs hh hS => ?_)
  refine q_aload_n X dX5_init_15 rfl hl 0 rfl ?_
  obtain ⟨q16, e_q16, h⟩ := o_b h
  have ys12 : eq4 σ s12 := (e_pR e_s12)
  refine W.cs (cells' := s12.2.2.2.1 - n0) (slots' := s12.2.2.2.2 - s0) (by rw [show s12.2.2.2 = σ.2.2.2 from ys12]) (by rw [show s12.2.2.2 = σ.2.2.2 from ys12]) ?_
  have hn : n0 ≤ s12.2.2.2.1 ∧ s0 ≤ s12.2.2.2.2 := by rw [show s12.2.2.2 = σ.2.2.2 from ys12]; exact hn
  have hcl : s12.2.2.2.1 - n0 ≤ R.cells ∧ s12.2.2.2.2 - s0 ≤ R.slots := by rw [show s12.2.2.2 = σ.2.2.2 from ys12]; exact hcl
  have g16 := mo_X5_init_19 h
  have f16 := l_nw e_q16
  unfold le4 at g16
  refine q_nw X hh hS fn_X5_18 e_q16 dX5_init_16 (by omega) (by omega) (fun H hh hS => ?_)
  refine W.cs (cells' := q16.2.2.2.2.1 - n0) (slots' := q16.2.2.2.2.2 - s0) (by omega) (by omega) ?_
  have hn : n0 ≤ q16.2.2.2.2.1 ∧ s0 ≤ q16.2.2.2.2.2 := by omega
  exact K_X5_init_19 X hret hlk hR hin hRc hn hh hS (lk_sub hl [0, 1, 2] rfl) h
theorem mo_X5_init_8 {z : hp} {σ : hp} {t0 : Nat} {v1 : Int32} {v2 : Option Nat} {w0 : Option Nat} {w1 : Option Nat} (h : S_X5_init_8 σ t0 v1 v2 w0 w1 = some z) : le4 σ z := by
  unfold S_X5_init_8 at h
  obtain ⟨b9, e_b9, h⟩ := o_b h
  obtain ⟨q9, e_q9, h⟩ := o_b h
  exact ((mo_X0_init_0 e_q9)).tr (mo_X5_init_12 h)
set_option maxHeartbeats 4000000 in
set_option maxRecDepth 100000 in
theorem K_X5_init_8 {p : Program} {l : Launch} {e : Env} {R : Room} {s : State} {m : MethodId} {args : Array Value} {below : List Frame} {meth : Method} {c : Code} {D : va_G} {dA : Nat → ClassId} {base : Nat} {z : hp} (X : cx p s m args c cX5_init RX5 3 D dA) (hret : meth.sig.returnType = none) (hlk : meth.locks = false) (hR : 3 ≤ R.frames ∧ 62 ≤ R.locals) (hin : meth.name = "<init>") {n0 s0 : Nat} (hRc : z.2.2.2.1 ≤ n0 + R.cells ∧ z.2.2.2.2 ≤ s0 + R.slots) {σ : hp} {t0 : Nat} {v1 : Int32} {v2 : Option Nat} {w0 : Option Nat} {w1 : Option Nat} {H : Heap} {locs : List Loc} {ls : Array Slot} (hn : n0 ≤ σ.2.2.2.1 ∧ s0 ≤ σ.2.2.2.2) (hh : hw D dA base σ H) (hS : hs base s.heap H locs) (hl : lk ls 3 [(0, .inr (some t0)), (1, .inl v1), (2, .inr v2)]) (h : S_X5_init_8 σ t0 v1 v2 w0 w1 = some z) : W p l e R s m args below meth c H locs (σ.2.2.2.1 - n0) (σ.2.2.2.2 - s0) (MQ below (qG D dA base none z) args s (z.2.2.2.1 - n0) (z.2.2.2.2 - s0) (fun q => base ≤ q)) (F0 m 8 ls [va_rf w1, va_rf w0]) := by
  have hz0 := mo_X5_init_8 h
  have hcl : σ.2.2.2.1 - n0 ≤ R.cells ∧ σ.2.2.2.2 - s0 ≤ R.slots := by unfold le4 at hz0; omega
  unfold S_X5_init_8 at h
  refine lv_dup X.1 X.2.1 dX5_init_8 (vv_cat (.inr w1)) ?_
  obtain ⟨b9, e_b9, h⟩ := o_b h
  obtain ⟨q9, e_q9, h⟩ := o_b h
  have g9 := mo_X5_init_12 h
  have f9 := mo_X0_init_0 e_q9
  unfold le4 at g9 f9
  refine q_cN (As := []) X hh hS hl cf_X5_11 e_b9 rfl (M_X0_init l D dA base σ b9  e_q9) ⟨Nat.le_trans (by decide) hR.1, Nat.le_trans (by decide) hR.2⟩ (cat8 [.inr w1, .inr w0] (Nat.le_of_ble_eq_true rfl)) dX5_init_9 ⟨by omega, by omega⟩ rfl (fun H locs hh hS => ?_)
  refine W.cs (cells' := q9.2.2.2.1 - n0) (slots' := q9.2.2.2.2 - s0) (by omega) (by omega) ?_
  have hn : n0 ≤ q9.2.2.2.1 ∧ s0 ≤ q9.2.2.2.2 := by omega
  exact K_X5_init_12 X hret hlk hR hin hRc hn hh hS (lk_sub hl [0, 1, 2] rfl) h
theorem mo_X5_init_0 {z : hp} {σ : hp} {t0 : Nat} {v1 : Int32} {v2 : Option Nat} (h : S_X5_init σ t0 v1 v2 = some z) : le4 σ z := by
  unfold S_X5_init at h
  obtain ⟨q5, e_q5, h⟩ := o_b h
  exact ((m_nw e_q5)).tr (mo_X5_init_8 h)
set_option maxHeartbeats 4000000 in
set_option maxRecDepth 100000 in
theorem K_X5_init_0 {p : Program} {l : Launch} {e : Env} {R : Room} {s : State} {m : MethodId} {args : Array Value} {below : List Frame} {meth : Method} {c : Code} {D : va_G} {dA : Nat → ClassId} {base : Nat} {z : hp} (X : cx p s m args c cX5_init RX5 3 D dA) (hret : meth.sig.returnType = none) (hlk : meth.locks = false) (hR : 3 ≤ R.frames ∧ 62 ≤ R.locals) (hin : meth.name = "<init>") {n0 s0 : Nat} (hRc : z.2.2.2.1 ≤ n0 + R.cells ∧ z.2.2.2.2 ≤ s0 + R.slots) {σ : hp} {t0 : Nat} {v1 : Int32} {v2 : Option Nat} {H : Heap} {locs : List Loc} {ls : Array Slot} (hn : n0 ≤ σ.2.2.2.1 ∧ s0 ≤ σ.2.2.2.2) (hh : hw D dA base σ H) (hS : hs base s.heap H locs) (hl : lk ls 3 [(0, .inr (some t0)), (1, .inl v1), (2, .inr v2)]) (h : S_X5_init σ t0 v1 v2 = some z) : W p l e R s m args below meth c H locs (σ.2.2.2.1 - n0) (σ.2.2.2.2 - s0) (MQ below (qG D dA base none z) args s (z.2.2.2.1 - n0) (z.2.2.2.2 - s0) (fun q => base ≤ q)) (F0 m 0 ls []) := by
  have hz0 := mo_X5_init_0 h
  have hcl : σ.2.2.2.1 - n0 ≤ R.cells ∧ σ.2.2.2.2 - s0 ≤ R.slots := by unfold le4 at hz0; omega
  unfold S_X5_init at h
  refine q_aload_n X dX5_init_0 rfl hl 0 rfl ?_
  refine q_objInit X hl cj_X5_3 gj_o1 gj_o2 dX5_init_1 ⟨Nat.le_trans (by decide) hR.1, Nat.le_trans (by decide) hR.2⟩ (cat8 [] (Nat.le_of_ble_eq_true rfl)) ?_
  refine q_aload_n X dX5_init_4 rfl hl 0 rfl ?_
  obtain ⟨q5, e_q5, h⟩ := o_b h
  have g5 := mo_X5_init_8 h
  have f5 := l_nw e_q5
  unfold le4 at g5
  refine q_nw X hh hS fn_X5_9 e_q5 dX5_init_5 (by omega) (by omega) (fun H hh hS => ?_)
  refine W.cs (cells' := q5.2.2.2.2.1 - n0) (slots' := q5.2.2.2.2.2 - s0) (by omega) (by omega) ?_
  have hn : n0 ≤ q5.2.2.2.2.1 ∧ s0 ≤ q5.2.2.2.2.2 := by omega
  exact K_X5_init_8 X hret hlk hR hin hRc hn hh hS (lk_sub hl [0, 1, 2] rfl) h
set_option maxRecDepth 100000 in
theorem M_X5_init (l : Launch) (D : va_G) (dA : Nat → ClassId) (base : Nat) (σ : hp) (t0 : Nat) (v1 : Int32) (v2 : Option Nat) {z : hp} (h : S_X5_init σ t0 v1 v2 = some z) : mt l yX5_init cX5_init 3 (none) 3 62 D dA base σ [.ref t0, .int v1, va_rf v2] none z (z.2.2.2.1 - σ.2.2.2.1) (z.2.2.2.2 - σ.2.2.2.2) := by
  have hzz := mo_X5_init_0 h
  unfold le4 at hzz
  refine Met.ofW (cc := cX5_init) (maxL := 3) (ret := none) (by decide) rfl ?_
  intro p e s m args below meth c s₁ B hml hv
  obtain ⟨rfl, hh, hK⟩ := hv
  have X : cx p s m ([.ref t0, .int v1, va_rf v2] : List Value).toArray c cX5_init RX5 3 D dA := ⟨B.exec, B.bytes, findClass_of_methodNamed B.named, hml, fun w hw => atoms_spec (ws := .code yX5_init cX5_init 3 (none) :: G) B.pre w (List.mem_cons_of_mem _ hw), hK⟩
  have hl := lk_entry [.inr (some t0), .inl v1, .inr v2] (n := 3) (Nat.le_of_ble_eq_true rfl)
  rw [lg_entry_eq]
  have hl : lk ((lg_sl ([.ref t0, .int v1, va_rf v2] : List Value) ++ List.replicate (3 - (lg_sl ([.ref t0, .int v1, va_rf v2] : List Value)).length) Slot.unset).toArray) 3 [(0, .inr (some t0)), (1, .inl v1), (2, .inr v2)] := hl
  generalize (lg_sl ([.ref t0, .int v1, va_rf v2] : List Value) ++ List.replicate (3 - (lg_sl ([.ref t0, .int v1, va_rf v2] : List Value)).length) Slot.unset).toArray = ls at hl ⊢
  refine W.cs (cells' := σ.2.2.2.1 - σ.2.2.2.1) (slots' := σ.2.2.2.2 - σ.2.2.2.2) (Nat.sub_self _).symm (Nat.sub_self _).symm ?_
  exact K_X5_init_0 X B.returns B.notSynchronized ⟨Nat.le_refl _, Nat.le_refl _⟩ (name_of_methodNamed B.named B.method).1 (n0 := σ.2.2.2.1) (s0 := σ.2.2.2.2) ⟨by show _ ≤ _ + (_ - _); omega, by show _ ≤ _ + (_ - _); omega⟩ ⟨Nat.le_refl _, Nat.le_refl _⟩ hh va_S.rf hl h
