/-! Walks: written by wip/whole/gen/emit.py. X5_addFile X5_doAsMaster X5_takeOffer X5_doAsSlave X5_executeWhatIsWhole X5_takeData X5_takeInit X5_takeAnswer X5_takeControl X5_receive -/
theorem ke_X5_addFile_51_b {rec15 : hp → Nat → Option Nat → Int32 → Option (hp)} {rec51 : hp → Nat → Option Nat → Int32 → Option Nat → Int32 → Int32 → Option (hp)} {z : hp} (hm15 : ∀ (σ : hp) (t0 : Nat) (v1 : Option Nat) (v2 : Int32), rec15 σ t0 v1 v2 = some z → eq4 σ z) (hm51 : ∀ (σ : hp) (t0 : Nat) (v1 : Option Nat) (v2 : Int32) (v3 : Option Nat) (v4 : Int32) (v5 : Int32), rec51 σ t0 v1 v2 v3 v4 v5 = some z → eq4 σ z) {σ : hp} {t0 : Nat} {v1 : Option Nat} {v2 : Int32} {v3 : Option Nat} {v4 : Int32} {v5 : Int32} (h : S_X5_addFile_51_b rec15 rec51 σ t0 v1 v2 v3 v4 v5 = some z) : eq4 σ z := by
  unfold S_X5_addFile_51_b at h
  by_cases c55 : v4 ≤ v5
  · rw [if_pos c55] at h
    exact (hm15 _ _ _ _ h)
  · rw [if_neg c55] at h
    obtain ⟨t60, e_t60, h⟩ := o_b h
    obtain ⟨t65, e_t65, h⟩ := o_b h
    obtain ⟨b66, e_b66, h⟩ := o_b h
    obtain ⟨q66, e_q66, h⟩ := o_b h
    exact ((ke_X3_append_0 e_q66)).tr (hm51 _ _ _ _ _ _ _ h)
theorem ke_X5_addFile_51 {rec15 : hp → Nat → Option Nat → Int32 → Option (hp)} {z : hp} (hm15 : ∀ (σ : hp) (t0 : Nat) (v1 : Option Nat) (v2 : Int32), rec15 σ t0 v1 v2 = some z → eq4 σ z) : ∀ (n : Nat) (σ : hp) (t0 : Nat) (v1 : Option Nat) (v2 : Int32) (v3 : Option Nat) (v4 : Int32) (v5 : Int32), S_X5_addFile_51 rec15 n σ t0 v1 v2 v3 v4 v5 = some z → eq4 σ z := by
  intro n
  induction n with
  | zero => intro σ t0 v1 v2 v3 v4 v5 h; cases h
  | succ n ih => intro σ t0 v1 v2 v3 v4 v5 h; exact ke_X5_addFile_51_b hm15 ih h
set_option maxHeartbeats 4000000 in
set_option maxRecDepth 100000 in
theorem K_X5_addFile_51_b {p : Program} {l : Launch} {e : Env} {R : Room} {s : State} {m : MethodId} {args : Array Value} {below : List Frame} {meth : Method} {c : Code} {D : va_G} {dA : Nat → ClassId} {base : Nat} {rec15 : hp → Nat → Option Nat → Int32 → Option (hp)} {rec51 : hp → Nat → Option Nat → Int32 → Option Nat → Int32 → Int32 → Option (hp)} {z : hp} (X : cx p s m args c cX5_addFile RX5 6 D dA) (hret : meth.sig.returnType = none) (hlk : meth.locks = false) (hR : 1 ≤ R.frames ∧ 22 ≤ R.locals) (hr15 : ∀ (σ : hp) (t0 : Nat) (v1 : Option Nat) (v2 : Int32) (H : Heap) (locs : List Loc) (ls : Array Slot), hw D dA base σ H → hs base s.heap H locs → lk ls 6 [(0, .inr (some t0)), (1, .inr v1), (2, .inl v2)] → rec15 σ t0 v1 v2 = some z → W p l e R s m args below meth c H locs 0 0 (MQ below (qG D dA base none z) args s 0 0 (fun q => base ≤ q)) (F0 m 15 ls [])) (hr51 : ∀ (σ : hp) (t0 : Nat) (v1 : Option Nat) (v2 : Int32) (v3 : Option Nat) (v4 : Int32) (v5 : Int32) (H : Heap) (locs : List Loc) (ls : Array Slot), hw D dA base σ H → hs base s.heap H locs → lk ls 6 [(0, .inr (some t0)), (1, .inr v1), (2, .inl v2), (3, .inr v3), (4, .inl v4), (5, .inl v5)] → rec51 σ t0 v1 v2 v3 v4 v5 = some z → W p l e R s m args below meth c H locs 0 0 (MQ below (qG D dA base none z) args s 0 0 (fun q => base ≤ q)) (F0 m 51 ls [])) {σ : hp} {t0 : Nat} {v1 : Option Nat} {v2 : Int32} {v3 : Option Nat} {v4 : Int32} {v5 : Int32} {H : Heap} {locs : List Loc} {ls : Array Slot} (hh : hw D dA base σ H) (hS : hs base s.heap H locs) (hl : lk ls 6 [(0, .inr (some t0)), (1, .inr v1), (2, .inl v2), (3, .inr v3), (4, .inl v4), (5, .inl v5)]) (h : S_X5_addFile_51_b rec15 rec51 σ t0 v1 v2 v3 v4 v5 = some z) : W p l e R s m args below meth c H locs 0 0 (MQ below (qG D dA base none z) args s 0 0 (fun q => base ≤ q)) (F0 m 51 ls []) := by
  unfold S_X5_addFile_51_b at h
  refine q_iload X dX5_addFile_51 hl 5 rfl ?_
  refine q_iload X dX5_addFile_53 hl 4 rfl ?_
  refine lv_icmp_ge (tgt := 75) X.1 X.2.1 dX5_addFile_55 (by decide) (fun c55 => ?_) (fun c55 => ?_)
  · rw [if_pos c55] at h
    refine q_iinc (v := (30 : Int32)) (lv' := [(2, .inl (v2 + (30 : Int32))), (0, .inr (some t0)), (1, .inr v1), (3, .inr v3), (4, .inl v4), (5, .inl v5)]) X dX5_addFile_75 hl 2 rfl (by decide) (by decide) rfl (fun ls hl => ?_)
    refine lv_goto (tgt := 15) X.1 X.2.1 dX5_addFile_78 (by decide) ?_
    exact hr15 _ _ _ _ _ _ _ hh hS (lk_sub hl [1, 2, 0] rfl) h
  · rw [if_neg c55] at h
    refine q_aload_n X dX5_addFile_58 rfl hl 3 rfl ?_
    refine q_aload_n X dX5_addFile_59 rfl hl 1 rfl ?_
    obtain ⟨t60, e_t60, h⟩ := o_b h
    refine q_gR X hh fa_X5_217 rfl e_t60 dX5_addFile_60 ?_
    refine q_iload X dX5_addFile_63 hl 5 rfl ?_
    obtain ⟨t65, e_t65, h⟩ := o_b h
    refine q_ldI X hh e_t65 dX5_addFile_65 ?_
    obtain ⟨b66, e_b66, h⟩ := o_b h
    obtain ⟨q66, e_q66, h⟩ := o_b h
    refine q_cV (As := [.int t65]) X hh hS hl cf_X5_212 (cN := 3) rfl rfl e_b66 rfl (M_X3_append l D dA base σ b66 t65 e_q66) ⟨Nat.le_trans (by decide) hR.1, Nat.le_trans (by decide) hR.2⟩ (cat8 [] (Nat.le_of_ble_eq_true rfl)) dX5_addFile_66 ⟨Nat.zero_le _, Nat.zero_le _⟩ rfl rfl (fun H locs hh hS => ?_)
    refine q_iinc (v := (1 : Int32)) (lv' := [(5, .inl (v5 + (1 : Int32))), (0, .inr (some t0)), (1, .inr v1), (2, .inl v2), (3, .inr v3), (4, .inl v4)]) X dX5_addFile_69 hl 5 rfl (by decide) (by decide) rfl (fun ls hl => ?_)
    refine lv_goto (tgt := 51) X.1 X.2.1 dX5_addFile_72 (by decide) ?_
    exact hr51 _ _ _ _ _ _ _ _ _ _ hh hS (lk_sub hl [1, 2, 3, 4, 5, 0] rfl) h
theorem K_X5_addFile_51 {p : Program} {l : Launch} {e : Env} {R : Room} {s : State} {m : MethodId} {args : Array Value} {below : List Frame} {meth : Method} {c : Code} {D : va_G} {dA : Nat → ClassId} {base : Nat} {rec15 : hp → Nat → Option Nat → Int32 → Option (hp)} {z : hp} (X : cx p s m args c cX5_addFile RX5 6 D dA) (hret : meth.sig.returnType = none) (hlk : meth.locks = false) (hR : 1 ≤ R.frames ∧ 22 ≤ R.locals) (hr15 : ∀ (σ : hp) (t0 : Nat) (v1 : Option Nat) (v2 : Int32) (H : Heap) (locs : List Loc) (ls : Array Slot), hw D dA base σ H → hs base s.heap H locs → lk ls 6 [(0, .inr (some t0)), (1, .inr v1), (2, .inl v2)] → rec15 σ t0 v1 v2 = some z → W p l e R s m args below meth c H locs 0 0 (MQ below (qG D dA base none z) args s 0 0 (fun q => base ≤ q)) (F0 m 15 ls [])) : ∀ (n : Nat) (σ : hp) (t0 : Nat) (v1 : Option Nat) (v2 : Int32) (v3 : Option Nat) (v4 : Int32) (v5 : Int32) (H : Heap) (locs : List Loc) (ls : Array Slot), hw D dA base σ H → hs base s.heap H locs → lk ls 6 [(0, .inr (some t0)), (1, .inr v1), (2, .inl v2), (3, .inr v3), (4, .inl v4), (5, .inl v5)] → S_X5_addFile_51 rec15 n σ t0 v1 v2 v3 v4 v5 = some z → W p l e R s m args below meth c H locs 0 0 (MQ below (qG D dA base none z) args s 0 0 (fun q => base ≤ q)) (F0 m 51 ls []) := by
  intro n
  induction n with
  | zero => intro σ t0 v1 v2 v3 v4 v5 H locs ls hh hS hl h; cases h
  | succ n ih => intro σ t0 v1 v2 v3 v4 v5 H locs ls hh hS hl h; exact K_X5_addFile_51_b X hret hlk hR hr15 ih hh hS hl h
theorem ke_X5_addFile_15_b {rec15 : hp → Nat → Option Nat → Int32 → Option (hp)} {z : hp} (hm15 : ∀ (σ : hp) (t0 : Nat) (v1 : Option Nat) (v2 : Int32), rec15 σ t0 v1 v2 = some z → eq4 σ z) {σ : hp} {t0 : Nat} {v1 : Option Nat} {v2 : Int32} (h : S_X5_addFile_15_b rec15 σ t0 v1 v2 = some z) : eq4 σ z := by
  unfold S_X5_addFile_15_b at h
  obtain ⟨t17, e_t17, h⟩ := o_b h
  obtain ⟨t20, e_t20, h⟩ := o_b h
  by_cases c21 : t20 ≤ v2
  · rw [if_pos c21] at h
    cases h
    exact eq4.rf _
  · rw [if_neg c21] at h
    obtain ⟨t25, e_t25, h⟩ := o_b h
    obtain ⟨b30, e_b30, h⟩ := o_b h
    obtain ⟨q30, e_q30, h⟩ := o_b h
    obtain ⟨t39, e_t39, h⟩ := o_b h
    obtain ⟨t42, e_t42, h⟩ := o_b h
    exact ((ke_X6_add_0 e_q30)).tr (ke_X5_addFile_51 hm15 FU _ _ _ _ _ _ _ h)
theorem ke_X5_addFile_15 {z : hp} : ∀ (n : Nat) (σ : hp) (t0 : Nat) (v1 : Option Nat) (v2 : Int32), S_X5_addFile_15 n σ t0 v1 v2 = some z → eq4 σ z := by
  intro n
  induction n with
  | zero => intro σ t0 v1 v2 h; cases h
  | succ n ih => intro σ t0 v1 v2 h; exact ke_X5_addFile_15_b ih h
set_option maxHeartbeats 4000000 in
set_option maxRecDepth 100000 in
theorem K_X5_addFile_15_b {p : Program} {l : Launch} {e : Env} {R : Room} {s : State} {m : MethodId} {args : Array Value} {below : List Frame} {meth : Method} {c : Code} {D : va_G} {dA : Nat → ClassId} {base : Nat} {rec15 : hp → Nat → Option Nat → Int32 → Option (hp)} {z : hp} (X : cx p s m args c cX5_addFile RX5 6 D dA) (hret : meth.sig.returnType = none) (hlk : meth.locks = false) (hR : 1 ≤ R.frames ∧ 22 ≤ R.locals) (hr15 : ∀ (σ : hp) (t0 : Nat) (v1 : Option Nat) (v2 : Int32) (H : Heap) (locs : List Loc) (ls : Array Slot), hw D dA base σ H → hs base s.heap H locs → lk ls 6 [(0, .inr (some t0)), (1, .inr v1), (2, .inl v2)] → rec15 σ t0 v1 v2 = some z → W p l e R s m args below meth c H locs 0 0 (MQ below (qG D dA base none z) args s 0 0 (fun q => base ≤ q)) (F0 m 15 ls [])) {σ : hp} {t0 : Nat} {v1 : Option Nat} {v2 : Int32} {H : Heap} {locs : List Loc} {ls : Array Slot} (hh : hw D dA base σ H) (hS : hs base s.heap H locs) (hl : lk ls 6 [(0, .inr (some t0)), (1, .inr v1), (2, .inl v2)]) (h : S_X5_addFile_15_b rec15 σ t0 v1 v2 = some z) : W p l e R s m args below meth c H locs 0 0 (MQ below (qG D dA base none z) args s 0 0 (fun q => base ≤ q)) (F0 m 15 ls []) := by
  unfold S_X5_addFile_15_b at h
  refine q_iload_n X dX5_addFile_15 rfl hl 2 rfl ?_
  refine q_aload_n X dX5_addFile_16 rfl hl 1 rfl ?_
  obtain ⟨t17, e_t17, h⟩ := o_b h
  refine q_gR X hh fa_X5_217 rfl e_t17 dX5_addFile_17 ?_
  obtain ⟨t20, e_t20, h⟩ := o_b h
  refine q_len X hh (t := 0) rfl e_t20 dX5_addFile_20 ?_
  refine lv_icmp_ge (tgt := 81) X.1 X.2.1 dX5_addFile_21 (by decide) (fun c21 => ?_) (fun c21 => ?_)
  · rw [if_pos c21] at h
    cases h
    exact q_vret X hret hlk hh hS dX5_addFile_81
  · rw [if_neg c21] at h
    refine q_aload_n X dX5_addFile_24 rfl hl 0 rfl ?_
    obtain ⟨t25, e_t25, h⟩ := o_b h
    refine q_gR X hh fa_X5_21 rfl e_t25 dX5_addFile_25 ?_
    refine lv_bipush (v := (68 : Int32)) X.1 X.2.1 dX5_addFile_28 (by decide) ?_
    obtain ⟨b30, e_b30, h⟩ := o_b h
    obtain ⟨q30, e_q30, h⟩ := o_b h
    refine q_cV (As := [.int (68 : Int32)]) X hh hS hl cf_X5_187 (cN := 6) rfl rfl e_b30 rfl (M_X6_add l D dA base σ b30 (68 : Int32) e_q30) ⟨Nat.le_trans (by decide) hR.1, Nat.le_trans (by decide) hR.2⟩ (cat8 [] (Nat.le_of_ble_eq_true rfl)) dX5_addFile_30 ⟨Nat.zero_le _, Nat.zero_le _⟩ rfl rfl (fun H locs hh hS => ?_)
    refine q_astore_n (lv' := [(3, .inr q30.1), (0, .inr (some t0)), (1, .inr v1), (2, .inl v2)]) X dX5_addFile_33 rfl hl (by decide) rfl (fun ls hl => ?_)
    refine q_iload_n X dX5_addFile_34 rfl hl 3 rfl ?_
    refine lv_bipush (v := (30 : Int32)) X.1 X.2.1 dX5_addFile_35 (by decide) ?_
    refine lv_iadd X.1 X.2.1 dX5_addFile_37 ?_
    refine q_aload_n X dX5_addFile_38 rfl hl 2 rfl ?_
    obtain ⟨t39, e_t39, h⟩ := o_b h
    refine q_gR X hh fa_X5_217 rfl e_t39 dX5_addFile_39 ?_
    obtain ⟨t42, e_t42, h⟩ := o_b h
    refine q_len X hh (t := 0) rfl e_t42 dX5_addFile_42 ?_
    refine q_min X hl cj_X5_221 gj_m1 gj_m2 gj_m3 ⟨Nat.le_trans (by decide) hR.1, Nat.le_trans (by decide) hR.2⟩ (cat8 [] (Nat.le_of_ble_eq_true rfl)) (Nat.zero_le _) (Nat.zero_le _) dX5_addFile_43 ?_
    refine q_istore (lv' := [(4, .inl (if t42 < (v2 + (30 : Int32)) then t42 else (v2 + (30 : Int32)))), (3, .inr q30.1), (0, .inr (some t0)), (1, .inr v1), (2, .inl v2)]) X dX5_addFile_46 hl (by decide) rfl (fun ls hl => ?_)
    refine q_iload_n X dX5_addFile_48 rfl hl 4 rfl ?_
    refine q_istore (lv' := [(5, .inl v2), (4, .inl (if t42 < (v2 + (30 : Int32)) then t42 else (v2 + (30 : Int32)))), (3, .inr q30.1), (0, .inr (some t0)), (1, .inr v1), (2, .inl v2)]) X dX5_addFile_49 hl (by decide) rfl (fun ls hl => ?_)
    exact K_X5_addFile_51 X hret hlk hR hr15 FU _ _ _ _ _ _ _ _ _ _ hh hS (lk_sub hl [3, 4, 5, 2, 1, 0] rfl) h
theorem K_X5_addFile_15 {p : Program} {l : Launch} {e : Env} {R : Room} {s : State} {m : MethodId} {args : Array Value} {below : List Frame} {meth : Method} {c : Code} {D : va_G} {dA : Nat → ClassId} {base : Nat} {z : hp} (X : cx p s m args c cX5_addFile RX5 6 D dA) (hret : meth.sig.returnType = none) (hlk : meth.locks = false) (hR : 1 ≤ R.frames ∧ 22 ≤ R.locals) : ∀ (n : Nat) (σ : hp) (t0 : Nat) (v1 : Option Nat) (v2 : Int32) (H : Heap) (locs : List Loc) (ls : Array Slot), hw D dA base σ H → hs base s.heap H locs → lk ls 6 [(0, .inr (some t0)), (1, .inr v1), (2, .inl v2)] → S_X5_addFile_15 n σ t0 v1 v2 = some z → W p l e R s m args below meth c H locs 0 0 (MQ below (qG D dA base none z) args s 0 0 (fun q => base ≤ q)) (F0 m 15 ls []) := by
  intro n
  induction n with
  | zero => intro σ t0 v1 v2 H locs ls hh hS hl h; cases h
  | succ n ih => intro σ t0 v1 v2 H locs ls hh hS hl h; exact K_X5_addFile_15_b X hret hlk hR ih hh hS hl h
theorem ke_X5_addFile_0 {z : hp} {σ : hp} {t0 : Nat} (h : S_X5_addFile σ t0 = some z) : eq4 σ z := by
  unfold S_X5_addFile at h
  obtain ⟨t1, e_t1, h⟩ := o_b h
  obtain ⟨b4, e_b4, h⟩ := o_b h
  obtain ⟨q4, e_q4, h⟩ := o_b h
  by_cases c9 : q4 = none
  · rw [if_pos c9] at h
    cases h
    exact eq4.rf _
  · rw [if_neg c9] at h
    exact (ke_X5_addFile_15 FU _ _ _ _ h)
set_option maxHeartbeats 4000000 in
set_option maxRecDepth 100000 in
theorem K_X5_addFile_0 {p : Program} {l : Launch} {e : Env} {R : Room} {s : State} {m : MethodId} {args : Array Value} {below : List Frame} {meth : Method} {c : Code} {D : va_G} {dA : Nat → ClassId} {base : Nat} {z : hp} (X : cx p s m args c cX5_addFile RX5 6 D dA) (hret : meth.sig.returnType = none) (hlk : meth.locks = false) (hR : 1 ≤ R.frames ∧ 22 ≤ R.locals) {σ : hp} {t0 : Nat} {H : Heap} {locs : List Loc} {ls : Array Slot} (hh : hw D dA base σ H) (hS : hs base s.heap H locs) (hl : lk ls 6 [(0, .inr (some t0))]) (h : S_X5_addFile σ t0 = some z) : W p l e R s m args below meth c H locs 0 0 (MQ below (qG D dA base none z) args s 0 0 (fun q => base ≤ q)) (F0 m 0 ls []) := by
  unfold S_X5_addFile at h
  refine q_aload_n X dX5_addFile_0 rfl hl 0 rfl ?_
  obtain ⟨t1, e_t1, h⟩ := o_b h
  refine q_gR X hh fa_X5_12 rfl e_t1 dX5_addFile_1 ?_
  obtain ⟨b4, e_b4, h⟩ := o_b h
  obtain ⟨q4, e_q4, h⟩ := o_b h
  refine q_cV (As := []) X hh hS hl cf_X5_205 (cN := 0) rfl rfl e_b4 rfl (M_X0_firstJob l D dA base σ b4  e_q4) ⟨Nat.le_trans (by decide) hR.1, Nat.le_trans (by decide) hR.2⟩ (cat8 [] (Nat.le_of_ble_eq_true rfl)) dX5_addFile_4 ⟨Nat.zero_le _, Nat.zero_le _⟩ rfl rfl (fun H locs hh hS => ?_)
  refine q_astore_n (lv' := [(1, .inr q4), (0, .inr (some t0))]) X dX5_addFile_7 rfl hl (by decide) rfl (fun ls hl => ?_)
  refine q_aload_n X dX5_addFile_8 rfl hl 0 rfl ?_
  refine q_ifnonnull (tgt := 13) X dX5_addFile_9 (by decide) (fun c9 => ?_) (fun c9 => ?_)
  · rw [if_neg c9] at h
    refine lv_iconst (v := (0 : Int32)) X.1 X.2.1 dX5_addFile_13 (by decide) ?_
    refine q_istore_n (lv' := [(2, .inl (0 : Int32)), (1, .inr q4), (0, .inr (some t0))]) X dX5_addFile_14 rfl hl (by decide) rfl (fun ls hl => ?_)
    exact K_X5_addFile_15 X hret hlk hR FU _ _ _ _ _ _ _ hh hS (lk_sub hl [2, 1, 0] rfl) h
  · rw [if_pos c9] at h
    cases h
    exact q_vret X hret hlk hh hS dX5_addFile_12
set_option maxRecDepth 100000 in
theorem M_X5_addFile (l : Launch) (D : va_G) (dA : Nat → ClassId) (base : Nat) (σ : hp) (t0 : Nat) {z : hp} (h : S_X5_addFile σ t0 = some z) : mt l yX5_addFile cX5_addFile 6 (none) 1 22 D dA base σ [.ref t0] none z 0 0 := by
  refine Met.ofW (cc := cX5_addFile) (maxL := 6) (ret := none) (by decide) rfl ?_
  intro p e s m args below meth c s₁ B hml hv
  obtain ⟨rfl, hh, hK⟩ := hv
  have X : cx p s m ([.ref t0] : List Value).toArray c cX5_addFile RX5 6 D dA := ⟨B.exec, B.bytes, findClass_of_methodNamed B.named, hml, fun w hw => atoms_spec (ws := .code yX5_addFile cX5_addFile 6 (none) :: G) B.pre w (List.mem_cons_of_mem _ hw), hK⟩
  have hl := lk_entry [.inr (some t0)] (n := 6) (Nat.le_of_ble_eq_true rfl)
  rw [lg_entry_eq]
  have hl : lk ((lg_sl ([.ref t0] : List Value) ++ List.replicate (6 - (lg_sl ([.ref t0] : List Value)).length) Slot.unset).toArray) 6 [(0, .inr (some t0))] := hl
  generalize (lg_sl ([.ref t0] : List Value) ++ List.replicate (6 - (lg_sl ([.ref t0] : List Value)).length) Slot.unset).toArray = ls at hl ⊢
  exact K_X5_addFile_0 X B.returns B.notSynchronized ⟨Nat.le_refl _, Nat.le_refl _⟩ hh va_S.rf hl h
theorem ke_X5_doAsMaster_116 {z : hp} {σ : hp} (h : S_X5_doAsMaster_116 σ = some z) : eq4 σ z := by
  unfold S_X5_doAsMaster_116 at h
  cases h
  exact eq4.rf _
set_option maxHeartbeats 4000000 in
set_option maxRecDepth 100000 in
theorem K_X5_doAsMaster_116 {p : Program} {l : Launch} {e : Env} {R : Room} {s : State} {m : MethodId} {args : Array Value} {below : List Frame} {meth : Method} {c : Code} {D : va_G} {dA : Nat → ClassId} {base : Nat} {z : hp} (X : cx p s m args c cX5_doAsMaster RX5 2 D dA) (hret : meth.sig.returnType = none) (hlk : meth.locks = false) (hR : 2 ≤ R.frames ∧ 48 ≤ R.locals) {σ : hp} {H : Heap} {locs : List Loc} {ls : Array Slot} (hh : hw D dA base σ H) (hS : hs base s.heap H locs) (hl : lk ls 2 []) (h : S_X5_doAsMaster_116 σ = some z) : W p l e R s m args below meth c H locs 0 0 (MQ below (qG D dA base none z) args s 0 0 (fun q => base ≤ q)) (F0 m 116 ls []) := by
  unfold S_X5_doAsMaster_116 at h
  cases h
  exact q_vret X hret hlk hh hS dX5_doAsMaster_116
theorem ke_X5_doAsMaster_64 {z : hp} {σ : hp} {t0 : Nat} (h : S_X5_doAsMaster_64 σ t0 = some z) : eq4 σ z := by
  unfold S_X5_doAsMaster_64 at h
  obtain ⟨t65, e_t65, h⟩ := o_b h
  obtain ⟨b68, e_b68, h⟩ := o_b h
  obtain ⟨q68, e_q68, h⟩ := o_b h
  by_cases c71 : q68.1 = (0 : Int32)
  · rw [if_pos c71] at h
    exact ((ke_X0_dropFirstJob_0 e_q68)).tr (ke_X5_doAsMaster_116 h)
  · rw [if_neg c71] at h
    obtain ⟨b75, e_b75, h⟩ := o_b h
    obtain ⟨q75, e_q75, h⟩ := o_b h
    exact (((ke_X0_dropFirstJob_0 e_q68)).tr (ke_X5_goOn_0 e_q75)).tr (ke_X5_doAsMaster_116 h)
set_option maxHeartbeats 4000000 in
set_option maxRecDepth 100000 in
theorem K_X5_doAsMaster_64 {p : Program} {l : Launch} {e : Env} {R : Room} {s : State} {m : MethodId} {args : Array Value} {below : List Frame} {meth : Method} {c : Code} {D : va_G} {dA : Nat → ClassId} {base : Nat} {z : hp} (X : cx p s m args c cX5_doAsMaster RX5 2 D dA) (hret : meth.sig.returnType = none) (hlk : meth.locks = false) (hR : 2 ≤ R.frames ∧ 48 ≤ R.locals) {σ : hp} {t0 : Nat} {H : Heap} {locs : List Loc} {ls : Array Slot} (hh : hw D dA base σ H) (hS : hs base s.heap H locs) (hl : lk ls 2 [(0, .inr (some t0))]) (h : S_X5_doAsMaster_64 σ t0 = some z) : W p l e R s m args below meth c H locs 0 0 (MQ below (qG D dA base none z) args s 0 0 (fun q => base ≤ q)) (F0 m 64 ls []) := by
  unfold S_X5_doAsMaster_64 at h
  refine q_aload_n X dX5_doAsMaster_64 rfl hl 0 rfl ?_
  obtain ⟨t65, e_t65, h⟩ := o_b h
  refine q_gR X hh fa_X5_12 rfl e_t65 dX5_doAsMaster_65 ?_
  obtain ⟨b68, e_b68, h⟩ := o_b h
  obtain ⟨q68, e_q68, h⟩ := o_b h
  refine q_cV (As := []) X hh hS hl cf_X5_169 (cN := 0) rfl rfl e_b68 rfl (M_X0_dropFirstJob l D dA base σ b68  e_q68) ⟨Nat.le_trans (by decide) hR.1, Nat.le_trans (by decide) hR.2⟩ (cat8 [] (Nat.le_of_ble_eq_true rfl)) dX5_doAsMaster_68 ⟨Nat.zero_le _, Nat.zero_le _⟩ rfl rfl (fun H locs hh hS => ?_)
  refine lv_if_eq (tgt := 116) X.1 X.2.1 dX5_doAsMaster_71 (by decide) (fun c71 => ?_) (fun c71 => ?_)
  · rw [if_pos c71] at h
    exact K_X5_doAsMaster_116 X hret hlk hR hh hS (lk_sub hl [] rfl) h
  · rw [if_neg c71] at h
    refine q_aload_n X dX5_doAsMaster_74 rfl hl 0 rfl ?_
    obtain ⟨b75, e_b75, h⟩ := o_b h
    obtain ⟨q75, e_q75, h⟩ := o_b h
    refine q_cV (As := []) X hh hS hl cf_X5_144 (cN := 5) rfl rfl e_b75 rfl (M_X5_goOn l D dA base q68.2 b75  e_q75) ⟨Nat.le_trans (by decide) hR.1, Nat.le_trans (by decide) hR.2⟩ (cat8 [] (Nat.le_of_ble_eq_true rfl)) dX5_doAsMaster_75 ⟨Nat.zero_le _, Nat.zero_le _⟩ rfl rfl (fun H locs hh hS => ?_)
    refine lv_goto (tgt := 116) X.1 X.2.1 dX5_doAsMaster_78 (by decide) ?_
    exact K_X5_doAsMaster_116 X hret hlk hR hh hS (lk_sub hl [] rfl) h
theorem ke_X5_doAsMaster_0 {z : hp} {σ : hp} {t0 : Nat} {v1 : Option Nat} (h : S_X5_doAsMaster σ t0 v1 = some z) : eq4 σ z := by
  unfold S_X5_doAsMaster at h
  obtain ⟨b1, e_b1, h⟩ := o_b h
  obtain ⟨q1, e_q1, h⟩ := o_b h
  by_cases c5 : q1 = (1 : Int32)
  · rw [if_pos c5] at h
    obtain ⟨b11, e_b11, h⟩ := o_b h
    obtain ⟨q11, e_q11, h⟩ := o_b h
    by_cases c14_67 : q11 = (67 : Int32)
    · rw [if_pos c14_67] at h
      exact (ke_X5_doAsMaster_64 h)
    · rw [if_neg c14_67] at h
      by_cases c14_72 : q11 = (72 : Int32)
      · rw [if_pos c14_72] at h
        obtain ⟨t89, e_t89, h⟩ := o_b h
        obtain ⟨b92, e_b92, h⟩ := o_b h
        obtain ⟨q92, e_q92, h⟩ := o_b h
        obtain ⟨b97, e_b97, h⟩ := o_b h
        obtain ⟨q97, e_q97, h⟩ := o_b h
        obtain ⟨b102, e_b102, h⟩ := o_b h
        obtain ⟨q102, e_q102, h⟩ := o_b h
        exact ((((ke_X7_add_0 e_q92)).tr (ke_X4_fillControl_0 e_q97)).tr (ke_X5_begin_0 e_q102)).tr (ke_X5_doAsMaster_116 h)
      · rw [if_neg c14_72] at h
        by_cases c14_78 : q11 = (78 : Int32)
        · rw [if_pos c14_78] at h
          exact (ke_X5_doAsMaster_64 h)
        · rw [if_neg c14_78] at h
          by_cases c14_84 : q11 = (84 : Int32)
          · rw [if_pos c14_84] at h
            obtain ⟨s110, e_s110, h⟩ := o_b h
            exact ((e_pI e_s110)).tr (ke_X5_doAsMaster_116 h)
          · rw [if_neg c14_84] at h
            by_cases c14_89 : q11 = (89 : Int32)
            · rw [if_pos c14_89] at h
              obtain ⟨b82, e_b82, h⟩ := o_b h
              obtain ⟨q82, e_q82, h⟩ := o_b h
              exact ((ke_X5_addFile_0 e_q82)).tr (ke_X5_doAsMaster_116 h)
            · rw [if_neg c14_89] at h
              exact (ke_X5_doAsMaster_116 h)
  · rw [if_neg c5] at h
    cases h
    exact eq4.rf _
set_option maxHeartbeats 4000000 in
set_option maxRecDepth 100000 in
theorem K_X5_doAsMaster_0 {p : Program} {l : Launch} {e : Env} {R : Room} {s : State} {m : MethodId} {args : Array Value} {below : List Frame} {meth : Method} {c : Code} {D : va_G} {dA : Nat → ClassId} {base : Nat} {z : hp} (X : cx p s m args c cX5_doAsMaster RX5 2 D dA) (hret : meth.sig.returnType = none) (hlk : meth.locks = false) (hR : 2 ≤ R.frames ∧ 48 ≤ R.locals) {σ : hp} {t0 : Nat} {v1 : Option Nat} {H : Heap} {locs : List Loc} {ls : Array Slot} (hh : hw D dA base σ H) (hS : hs base s.heap H locs) (hl : lk ls 2 [(0, .inr (some t0)), (1, .inr v1)]) (h : S_X5_doAsMaster σ t0 v1 = some z) : W p l e R s m args below meth c H locs 0 0 (MQ below (qG D dA base none z) args s 0 0 (fun q => base ≤ q)) (F0 m 0 ls []) := by
  unfold S_X5_doAsMaster at h
  refine q_aload_n X dX5_doAsMaster_0 rfl hl 1 rfl ?_
  obtain ⟨b1, e_b1, h⟩ := o_b h
  obtain ⟨q1, e_q1, h⟩ := o_b h
  refine q_cV (As := []) X hh hS hl cf_X5_163 (cN := 4) rfl rfl e_b1 rfl (M_X4_messageLength l D dA base σ b1  e_q1) ⟨Nat.le_trans (by decide) hR.1, Nat.le_trans (by decide) hR.2⟩ (cat8 [] (Nat.le_of_ble_eq_true rfl)) dX5_doAsMaster_1 ⟨Nat.zero_le _, Nat.zero_le _⟩ rfl rfl (fun H locs hh hS => ?_)
  refine lv_iconst (v := (1 : Int32)) X.1 X.2.1 dX5_doAsMaster_4 (by decide) ?_
  refine lv_icmp_eq (tgt := 9) X.1 X.2.1 dX5_doAsMaster_5 (by decide) (fun c5 => ?_) (fun c5 => ?_)
  · rw [if_pos c5] at h
    refine q_aload_n X dX5_doAsMaster_9 rfl hl 1 rfl ?_
    refine lv_iconst (v := (0 : Int32)) X.1 X.2.1 dX5_doAsMaster_10 (by decide) ?_
    obtain ⟨b11, e_b11, h⟩ := o_b h
    obtain ⟨q11, e_q11, h⟩ := o_b h
    refine q_cV (As := [.int (0 : Int32)]) X hh hS hl cf_X5_166 (cN := 4) rfl rfl e_b11 rfl (M_X4_messageByte l D dA base σ b11 (0 : Int32) e_q11) ⟨Nat.le_trans (by decide) hR.1, Nat.le_trans (by decide) hR.2⟩ (cat8 [] (Nat.le_of_ble_eq_true rfl)) dX5_doAsMaster_11 ⟨Nat.zero_le _, Nat.zero_le _⟩ rfl rfl (fun H locs hh hS => ?_)
    by_cases c14_67 : q11 = (67 : Int32)
    · rw [if_pos c14_67] at h
      refine q_lin (tgt := 64) X dX5_doAsMaster_14 c14_67 (by decide) rfl (by decide) ?_
      exact K_X5_doAsMaster_64 X hret hlk hR hh hS (lk_sub hl [0] rfl) h
    · rw [if_neg c14_67] at h
      by_cases c14_72 : q11 = (72 : Int32)
      · rw [if_pos c14_72] at h
        refine q_lin (tgt := 88) X dX5_doAsMaster_14 c14_72 (by decide) rfl (by decide) ?_
        refine q_aload_n X dX5_doAsMaster_88 rfl hl 0 rfl ?_
        obtain ⟨t89, e_t89, h⟩ := o_b h
        refine q_gR X hh fa_X5_61 rfl e_t89 dX5_doAsMaster_89 ?_
        obtain ⟨b92, e_b92, h⟩ := o_b h
        obtain ⟨q92, e_q92, h⟩ := o_b h
        refine q_cV (As := []) X hh hS hl cf_X5_78 (cN := 7) rfl rfl e_b92 rfl (M_X7_add l D dA base σ b92  e_q92) ⟨Nat.le_trans (by decide) hR.1, Nat.le_trans (by decide) hR.2⟩ (cat8 [] (Nat.le_of_ble_eq_true rfl)) dX5_doAsMaster_92 ⟨Nat.zero_le _, Nat.zero_le _⟩ rfl rfl (fun H locs hh hS => ?_)
        refine lv_iconst (v := (1 : Int32)) X.1 X.2.1 dX5_doAsMaster_95 (by decide) ?_
        refine lv_iconst (v := (0 : Int32)) X.1 X.2.1 dX5_doAsMaster_96 (by decide) ?_
        obtain ⟨b97, e_b97, h⟩ := o_b h
        obtain ⟨q97, e_q97, h⟩ := o_b h
        refine q_cV (As := [.int (1 : Int32), .int (0 : Int32)]) X hh hS hl cf_X5_86 (cN := 4) rfl rfl e_b97 rfl (M_X4_fillControl l D dA base q92.2 b97 (1 : Int32) (0 : Int32) e_q97) ⟨Nat.le_trans (by decide) hR.1, Nat.le_trans (by decide) hR.2⟩ (cat8 [] (Nat.le_of_ble_eq_true rfl)) dX5_doAsMaster_97 ⟨Nat.zero_le _, Nat.zero_le _⟩ rfl rfl (fun H locs hh hS => ?_)
        refine q_aload_n X dX5_doAsMaster_100 rfl hl 0 rfl ?_
        refine lv_iconst (v := (0 : Int32)) X.1 X.2.1 dX5_doAsMaster_101 (by decide) ?_
        obtain ⟨b102, e_b102, h⟩ := o_b h
        obtain ⟨q102, e_q102, h⟩ := o_b h
        refine q_cV (As := [.int (0 : Int32)]) X hh hS hl cf_X5_71 (cN := 5) rfl rfl e_b102 rfl (M_X5_begin l D dA base q97 b102 (0 : Int32) e_q102) ⟨Nat.le_trans (by decide) hR.1, Nat.le_trans (by decide) hR.2⟩ (cat8 [] (Nat.le_of_ble_eq_true rfl)) dX5_doAsMaster_102 ⟨Nat.zero_le _, Nat.zero_le _⟩ rfl rfl (fun H locs hh hS => ?_)
        refine lv_goto (tgt := 116) X.1 X.2.1 dX5_doAsMaster_105 (by decide) ?_
        exact K_X5_doAsMaster_116 X hret hlk hR hh hS (lk_sub hl [] rfl) h
      · rw [if_neg c14_72] at h
        by_cases c14_78 : q11 = (78 : Int32)
        · rw [if_pos c14_78] at h
          refine q_lin (tgt := 64) X dX5_doAsMaster_14 c14_78 (by decide) rfl (by decide) ?_
          exact K_X5_doAsMaster_64 X hret hlk hR hh hS (lk_sub hl [0] rfl) h
        · rw [if_neg c14_78] at h
          by_cases c14_84 : q11 = (84 : Int32)
          · rw [if_pos c14_84] at h
            refine q_lin (tgt := 108) X dX5_doAsMaster_14 c14_84 (by decide) rfl (by decide) ?_
            refine q_aload_n X dX5_doAsMaster_108 rfl hl 0 rfl ?_
            refine lv_iconst (v := (3 : Int32)) X.1 X.2.1 dX5_doAsMaster_109 (by decide) ?_
            obtain ⟨s110, e_s110, h⟩ := o_b h
            refine q_pI X hh hS fp_X5_32 (fun h => by cases h) rfl e_s110 dX5_doAsMaster_110 (fun H locs hh hS => ?_)
            refine lv_goto (tgt := 116) X.1 X.2.1 dX5_doAsMaster_113 (by decide) ?_
            exact K_X5_doAsMaster_116 X hret hlk hR hh hS (lk_sub hl [] rfl) h
          · rw [if_neg c14_84] at h
            by_cases c14_89 : q11 = (89 : Int32)
            · rw [if_pos c14_89] at h
              refine q_lin (tgt := 81) X dX5_doAsMaster_14 c14_89 (by decide) rfl (by decide) ?_
              refine q_aload_n X dX5_doAsMaster_81 rfl hl 0 rfl ?_
              obtain ⟨b82, e_b82, h⟩ := o_b h
              obtain ⟨q82, e_q82, h⟩ := o_b h
              refine q_cV (As := []) X hh hS hl cf_X5_172 (cN := 5) rfl rfl e_b82 rfl (M_X5_addFile l D dA base σ b82  e_q82) ⟨Nat.le_trans (by decide) hR.1, Nat.le_trans (by decide) hR.2⟩ (cat8 [] (Nat.le_of_ble_eq_true rfl)) dX5_doAsMaster_82 ⟨Nat.zero_le _, Nat.zero_le _⟩ rfl rfl (fun H locs hh hS => ?_)
              refine lv_goto (tgt := 116) X.1 X.2.1 dX5_doAsMaster_85 (by decide) ?_
              exact K_X5_doAsMaster_116 X hret hlk hR hh hS (lk_sub hl [] rfl) h
            · rw [if_neg c14_89] at h
              refine lv_lookup (tgt := 116) X.1 X.2.1 dX5_doAsMaster_14 (by decide) (by show Op.lookupswitch.offset [(67, 50), (72, 74), (78, 50), (84, 94), (89, 67)] 102 _ = 102; rw [lv_osw c14_67 (by decide), lv_osw c14_72 (by decide), lv_osw c14_78 (by decide), lv_osw c14_84 (by decide), lv_osw c14_89 (by decide)]; rfl) (by decide) ?_
              exact K_X5_doAsMaster_116 X hret hlk hR hh hS (lk_sub hl [] rfl) h
  · rw [if_neg c5] at h
    cases h
    exact q_vret X hret hlk hh hS dX5_doAsMaster_8
set_option maxRecDepth 100000 in
theorem M_X5_doAsMaster (l : Launch) (D : va_G) (dA : Nat → ClassId) (base : Nat) (σ : hp) (t0 : Nat) (v1 : Option Nat) {z : hp} (h : S_X5_doAsMaster σ t0 v1 = some z) : mt l yX5_doAsMaster cX5_doAsMaster 2 (none) 2 48 D dA base σ [.ref t0, va_rf v1] none z 0 0 := by
  refine Met.ofW (cc := cX5_doAsMaster) (maxL := 2) (ret := none) (by decide) rfl ?_
  intro p e s m args below meth c s₁ B hml hv
  obtain ⟨rfl, hh, hK⟩ := hv
  have X : cx p s m ([.ref t0, va_rf v1] : List Value).toArray c cX5_doAsMaster RX5 2 D dA := ⟨B.exec, B.bytes, findClass_of_methodNamed B.named, hml, fun w hw => atoms_spec (ws := .code yX5_doAsMaster cX5_doAsMaster 2 (none) :: G) B.pre w (List.mem_cons_of_mem _ hw), hK⟩
  have hl := lk_entry [.inr (some t0), .inr v1] (n := 2) (Nat.le_of_ble_eq_true rfl)
  rw [lg_entry_eq]
  have hl : lk ((lg_sl ([.ref t0, va_rf v1] : List Value) ++ List.replicate (2 - (lg_sl ([.ref t0, va_rf v1] : List Value)).length) Slot.unset).toArray) 2 [(0, .inr (some t0)), (1, .inr v1)] := hl
  generalize (lg_sl ([.ref t0, va_rf v1] : List Value) ++ List.replicate (2 - (lg_sl ([.ref t0, va_rf v1] : List Value)).length) Slot.unset).toArray = ls at hl ⊢
  exact K_X5_doAsMaster_0 X B.returns B.notSynchronized ⟨Nat.le_refl _, Nat.le_refl _⟩ hh va_S.rf hl h
theorem ke_X5_takeOffer_50 {z : hp} {σ : hp} (h : S_X5_takeOffer_50 σ = some z) : eq4 σ z := by
  unfold S_X5_takeOffer_50 at h
  cases h
  exact eq4.rf _
set_option maxHeartbeats 4000000 in
set_option maxRecDepth 100000 in
theorem K_X5_takeOffer_50 {p : Program} {l : Launch} {e : Env} {R : Room} {s : State} {m : MethodId} {args : Array Value} {below : List Frame} {meth : Method} {c : Code} {D : va_G} {dA : Nat → ClassId} {base : Nat} {z : hp} (X : cx p s m args c cX5_takeOffer RX5 3 D dA) (hret : meth.sig.returnType = none) (hlk : meth.locks = false) (hR : 1 ≤ R.frames ∧ 22 ≤ R.locals) {σ : hp} {H : Heap} {locs : List Loc} {ls : Array Slot} (hh : hw D dA base σ H) (hS : hs base s.heap H locs) (hl : lk ls 3 []) (h : S_X5_takeOffer_50 σ = some z) : W p l e R s m args below meth c H locs 0 0 (MQ below (qG D dA base none z) args s 0 0 (fun q => base ≤ q)) (F0 m 50 ls []) := by
  unfold S_X5_takeOffer_50 at h
  cases h
  exact q_vret X hret hlk hh hS dX5_takeOffer_50
theorem ke_X5_takeOffer_0 {z : hp} {σ : hp} {t0 : Nat} {v1 : Int32} {v2 : Int32} (h : S_X5_takeOffer σ t0 v1 v2 = some z) : eq4 σ z := by
  unfold S_X5_takeOffer at h
  by_cases c3 : v2 ≤ (100 : Int32)
  · rw [if_pos c3] at h
    obtain ⟨t8, e_t8, h⟩ := o_b h
    obtain ⟨b12, e_b12, h⟩ := o_b h
    obtain ⟨q12, e_q12, h⟩ := o_b h
    by_cases c15 : q12 = (0 : Int32)
    · rw [if_pos c15] at h
      obtain ⟨t32, e_t32, h⟩ := o_b h
      obtain ⟨b37, e_b37, h⟩ := o_b h
      obtain ⟨q37, e_q37, h⟩ := o_b h
      obtain ⟨t42, e_t42, h⟩ := o_b h
      obtain ⟨b47, e_b47, h⟩ := o_b h
      obtain ⟨q47, e_q47, h⟩ := o_b h
      exact (((ke_X6_add_0 e_q37)).tr (ke_X1_begin_0 e_q47)).tr (ke_X5_takeOffer_50 h)
    · rw [if_neg c15] at h
      obtain ⟨t19, e_t19, h⟩ := o_b h
      obtain ⟨b24, e_b24, h⟩ := o_b h
      obtain ⟨q24, e_q24, h⟩ := o_b h
      exact ((ke_X6_add_0 e_q24)).tr (ke_X5_takeOffer_50 h)
  · rw [if_neg c3] at h
    cases h
    exact eq4.rf _
set_option maxHeartbeats 4000000 in
set_option maxRecDepth 100000 in
theorem K_X5_takeOffer_0 {p : Program} {l : Launch} {e : Env} {R : Room} {s : State} {m : MethodId} {args : Array Value} {below : List Frame} {meth : Method} {c : Code} {D : va_G} {dA : Nat → ClassId} {base : Nat} {z : hp} (X : cx p s m args c cX5_takeOffer RX5 3 D dA) (hret : meth.sig.returnType = none) (hlk : meth.locks = false) (hR : 1 ≤ R.frames ∧ 22 ≤ R.locals) {σ : hp} {t0 : Nat} {v1 : Int32} {v2 : Int32} {H : Heap} {locs : List Loc} {ls : Array Slot} (hh : hw D dA base σ H) (hS : hs base s.heap H locs) (hl : lk ls 3 [(0, .inr (some t0)), (1, .inl v1), (2, .inl v2)]) (h : S_X5_takeOffer σ t0 v1 v2 = some z) : W p l e R s m args below meth c H locs 0 0 (MQ below (qG D dA base none z) args s 0 0 (fun q => base ≤ q)) (F0 m 0 ls []) := by
  unfold S_X5_takeOffer at h
  refine q_iload_n X dX5_takeOffer_0 rfl hl 2 rfl ?_
  refine lv_bipush (v := (100 : Int32)) X.1 X.2.1 dX5_takeOffer_1 (by decide) ?_
  refine lv_icmp_le (tgt := 7) X.1 X.2.1 dX5_takeOffer_3 (by decide) (fun c3 => ?_) (fun c3 => ?_)
  · rw [if_pos c3] at h
    refine q_aload_n X dX5_takeOffer_7 rfl hl 0 rfl ?_
    obtain ⟨t8, e_t8, h⟩ := o_b h
    refine q_gR X hh fa_X5_12 rfl e_t8 dX5_takeOffer_8 ?_
    refine q_iload_n X dX5_takeOffer_11 rfl hl 1 rfl ?_
    obtain ⟨b12, e_b12, h⟩ := o_b h
    obtain ⟨q12, e_q12, h⟩ := o_b h
    refine q_cV (As := [.int v1]) X hh hS hl cf_X5_189 (cN := 0) rfl rfl e_b12 rfl (M_X0_hasDone l D dA base σ b12 v1 e_q12) ⟨Nat.le_trans (by decide) hR.1, Nat.le_trans (by decide) hR.2⟩ (cat8 [] (Nat.le_of_ble_eq_true rfl)) dX5_takeOffer_12 ⟨Nat.zero_le _, Nat.zero_le _⟩ rfl rfl (fun H locs hh hS => ?_)
    refine lv_if_eq (tgt := 31) X.1 X.2.1 dX5_takeOffer_15 (by decide) (fun c15 => ?_) (fun c15 => ?_)
    · rw [if_pos c15] at h
      refine q_aload_n X dX5_takeOffer_31 rfl hl 0 rfl ?_
      obtain ⟨t32, e_t32, h⟩ := o_b h
      refine q_gR X hh fa_X5_21 rfl e_t32 dX5_takeOffer_32 ?_
      refine lv_bipush (v := (89 : Int32)) X.1 X.2.1 dX5_takeOffer_35 (by decide) ?_
      obtain ⟨b37, e_b37, h⟩ := o_b h
      obtain ⟨q37, e_q37, h⟩ := o_b h
      refine q_cV (As := [.int (89 : Int32)]) X hh hS hl cf_X5_187 (cN := 6) rfl rfl e_b37 rfl (M_X6_add l D dA base σ b37 (89 : Int32) e_q37) ⟨Nat.le_trans (by decide) hR.1, Nat.le_trans (by decide) hR.2⟩ (cat8 [] (Nat.le_of_ble_eq_true rfl)) dX5_takeOffer_37 ⟨Nat.zero_le _, Nat.zero_le _⟩ rfl rfl (fun H locs hh hS => ?_)
      refine lv_pop X.1 X.2.1 dX5_takeOffer_40 (vv_cat (.inr q37.1)) ?_
      refine q_aload_n X dX5_takeOffer_41 rfl hl 0 rfl ?_
      obtain ⟨t42, e_t42, h⟩ := o_b h
      refine q_gR X hh fa_X5_28 rfl e_t42 dX5_takeOffer_42 ?_
      refine q_iload_n X dX5_takeOffer_45 rfl hl 1 rfl ?_
      refine q_iload_n X dX5_takeOffer_46 rfl hl 2 rfl ?_
      obtain ⟨b47, e_b47, h⟩ := o_b h
      obtain ⟨q47, e_q47, h⟩ := o_b h
      refine q_cV (As := [.int v1, .int v2]) X hh hS hl cf_X5_192 (cN := 1) rfl rfl e_b47 rfl (M_X1_begin l D dA base q37.2 b47 v1 v2 e_q47) ⟨Nat.le_trans (by decide) hR.1, Nat.le_trans (by decide) hR.2⟩ (cat8 [] (Nat.le_of_ble_eq_true rfl)) dX5_takeOffer_47 ⟨Nat.zero_le _, Nat.zero_le _⟩ rfl rfl (fun H locs hh hS => ?_)
      exact K_X5_takeOffer_50 X hret hlk hR hh hS (lk_sub hl [] rfl) h
    · rw [if_neg c15] at h
      refine q_aload_n X dX5_takeOffer_18 rfl hl 0 rfl ?_
      obtain ⟨t19, e_t19, h⟩ := o_b h
      refine q_gR X hh fa_X5_21 rfl e_t19 dX5_takeOffer_19 ?_
      refine lv_bipush (v := (78 : Int32)) X.1 X.2.1 dX5_takeOffer_22 (by decide) ?_
      obtain ⟨b24, e_b24, h⟩ := o_b h
      obtain ⟨q24, e_q24, h⟩ := o_b h
      refine q_cV (As := [.int (78 : Int32)]) X hh hS hl cf_X5_187 (cN := 6) rfl rfl e_b24 rfl (M_X6_add l D dA base σ b24 (78 : Int32) e_q24) ⟨Nat.le_trans (by decide) hR.1, Nat.le_trans (by decide) hR.2⟩ (cat8 [] (Nat.le_of_ble_eq_true rfl)) dX5_takeOffer_24 ⟨Nat.zero_le _, Nat.zero_le _⟩ rfl rfl (fun H locs hh hS => ?_)
      refine lv_pop X.1 X.2.1 dX5_takeOffer_27 (vv_cat (.inr q24.1)) ?_
      refine lv_goto (tgt := 50) X.1 X.2.1 dX5_takeOffer_28 (by decide) ?_
      exact K_X5_takeOffer_50 X hret hlk hR hh hS (lk_sub hl [] rfl) h
  · rw [if_neg c3] at h
    cases h
    exact q_vret X hret hlk hh hS dX5_takeOffer_6
set_option maxRecDepth 100000 in
theorem M_X5_takeOffer (l : Launch) (D : va_G) (dA : Nat → ClassId) (base : Nat) (σ : hp) (t0 : Nat) (v1 : Int32) (v2 : Int32) {z : hp} (h : S_X5_takeOffer σ t0 v1 v2 = some z) : mt l yX5_takeOffer cX5_takeOffer 3 (none) 1 22 D dA base σ [.ref t0, .int v1, .int v2] none z 0 0 := by
  refine Met.ofW (cc := cX5_takeOffer) (maxL := 3) (ret := none) (by decide) rfl ?_
  intro p e s m args below meth c s₁ B hml hv
  obtain ⟨rfl, hh, hK⟩ := hv
  have X : cx p s m ([.ref t0, .int v1, .int v2] : List Value).toArray c cX5_takeOffer RX5 3 D dA := ⟨B.exec, B.bytes, findClass_of_methodNamed B.named, hml, fun w hw => atoms_spec (ws := .code yX5_takeOffer cX5_takeOffer 3 (none) :: G) B.pre w (List.mem_cons_of_mem _ hw), hK⟩
  have hl := lk_entry [.inr (some t0), .inl v1, .inl v2] (n := 3) (Nat.le_of_ble_eq_true rfl)
  rw [lg_entry_eq]
  have hl : lk ((lg_sl ([.ref t0, .int v1, .int v2] : List Value) ++ List.replicate (3 - (lg_sl ([.ref t0, .int v1, .int v2] : List Value)).length) Slot.unset).toArray) 3 [(0, .inr (some t0)), (1, .inl v1), (2, .inl v2)] := hl
  generalize (lg_sl ([.ref t0, .int v1, .int v2] : List Value) ++ List.replicate (3 - (lg_sl ([.ref t0, .int v1, .int v2] : List Value)).length) Slot.unset).toArray = ls at hl ⊢
  exact K_X5_takeOffer_0 X B.returns B.notSynchronized ⟨Nat.le_refl _, Nat.le_refl _⟩ hh va_S.rf hl h
theorem ke_X5_doAsSlave_119 {z : hp} {σ : hp} (h : S_X5_doAsSlave_119 σ = some z) : eq4 σ z := by
  unfold S_X5_doAsSlave_119 at h
  cases h
  exact eq4.rf _
set_option maxHeartbeats 4000000 in
set_option maxRecDepth 100000 in
theorem K_X5_doAsSlave_119 {p : Program} {l : Launch} {e : Env} {R : Room} {s : State} {m : MethodId} {args : Array Value} {below : List Frame} {meth : Method} {c : Code} {D : va_G} {dA : Nat → ClassId} {base : Nat} {z : hp} (X : cx p s m args c cX5_doAsSlave RX5 4 D dA) (hret : meth.sig.returnType = none) (hlk : meth.locks = false) (hR : 2 ≤ R.frames ∧ 44 ≤ R.locals) {σ : hp} {H : Heap} {locs : List Loc} {ls : Array Slot} (hh : hw D dA base σ H) (hS : hs base s.heap H locs) (hl : lk ls 4 []) (h : S_X5_doAsSlave_119 σ = some z) : W p l e R s m args below meth c H locs 0 0 (MQ below (qG D dA base none z) args s 0 0 (fun q => base ≤ q)) (F0 m 119 ls []) := by
  unfold S_X5_doAsSlave_119 at h
  cases h
  exact q_vret X hret hlk hh hS dX5_doAsSlave_119
theorem ke_X5_doAsSlave_39 {z : hp} {σ : hp} {t0 : Nat} {v1 : Option Nat} {v2 : Int32} {v3 : Int32} (h : S_X5_doAsSlave_39 σ t0 v1 v2 v3 = some z) : eq4 σ z := by
  unfold S_X5_doAsSlave_39 at h
  by_cases c42 : v3 = (68 : Int32)
  · rw [if_pos c42] at h
    obtain ⟨t46, e_t46, h⟩ := o_b h
    obtain ⟨t49, e_t49, h⟩ := o_b h
    by_cases c52 : t49 = (0 : Int32)
    · rw [if_pos c52] at h
      exact (ke_X5_doAsSlave_119 h)
    · rw [if_neg c52] at h
      obtain ⟨t56, e_t56, h⟩ := o_b h
      obtain ⟨b60, e_b60, h⟩ := o_b h
      obtain ⟨q60, e_q60, h⟩ := o_b h
      exact ((ke_X1_takePart_0 e_q60)).tr (ke_X5_doAsSlave_119 h)
  · rw [if_neg c42] at h
    by_cases c69 : v3 = (72 : Int32)
    · rw [if_pos c69] at h
      by_cases c74 : v2 = (1 : Int32)
      · rw [if_pos c74] at h
        obtain ⟨t78, e_t78, h⟩ := o_b h
        obtain ⟨b81, e_b81, h⟩ := o_b h
        obtain ⟨q81, e_q81, h⟩ := o_b h
        by_cases c84 : q81 = (0 : Int32)
        · rw [if_pos c84] at h
          obtain ⟨t88, e_t88, h⟩ := o_b h
          obtain ⟨b93, e_b93, h⟩ := o_b h
          obtain ⟨q93, e_q93, h⟩ := o_b h
          exact ((ke_X6_add_0 e_q93)).tr (ke_X5_doAsSlave_119 h)
        · rw [if_neg c84] at h
          obtain ⟨t101, e_t101, h⟩ := o_b h
          obtain ⟨b106, e_b106, h⟩ := o_b h
          obtain ⟨q106, e_q106, h⟩ := o_b h
          obtain ⟨s112, e_s112, h⟩ := o_b h
          obtain ⟨b116, e_b116, h⟩ := o_b h
          obtain ⟨q116, e_q116, h⟩ := o_b h
          exact ((((ke_X6_add_0 e_q106)).tr (e_pI e_s112)).tr (ke_X5_goOn_0 e_q116)).tr (ke_X5_doAsSlave_119 h)
      · rw [if_neg c74] at h
        exact (ke_X5_doAsSlave_119 h)
    · rw [if_neg c69] at h
      exact (ke_X5_doAsSlave_119 h)
set_option maxHeartbeats 4000000 in
set_option maxRecDepth 100000 in
theorem K_X5_doAsSlave_39 {p : Program} {l : Launch} {e : Env} {R : Room} {s : State} {m : MethodId} {args : Array Value} {below : List Frame} {meth : Method} {c : Code} {D : va_G} {dA : Nat → ClassId} {base : Nat} {z : hp} (X : cx p s m args c cX5_doAsSlave RX5 4 D dA) (hret : meth.sig.returnType = none) (hlk : meth.locks = false) (hR : 2 ≤ R.frames ∧ 44 ≤ R.locals) {σ : hp} {t0 : Nat} {v1 : Option Nat} {v2 : Int32} {v3 : Int32} {H : Heap} {locs : List Loc} {ls : Array Slot} (hh : hw D dA base σ H) (hS : hs base s.heap H locs) (hl : lk ls 4 [(0, .inr (some t0)), (1, .inr v1), (2, .inl v2), (3, .inl v3)]) (h : S_X5_doAsSlave_39 σ t0 v1 v2 v3 = some z) : W p l e R s m args below meth c H locs 0 0 (MQ below (qG D dA base none z) args s 0 0 (fun q => base ≤ q)) (F0 m 39 ls []) := by
  unfold S_X5_doAsSlave_39 at h
  refine q_iload_n X dX5_doAsSlave_39 rfl hl 3 rfl ?_
  refine lv_bipush (v := (68 : Int32)) X.1 X.2.1 dX5_doAsSlave_40 (by decide) ?_
  refine lv_icmp_ne (tgt := 66) X.1 X.2.1 dX5_doAsSlave_42 (by decide) (fun c42 => ?_) (fun c42 => ?_)
  · rw [if_neg c42] at h
    refine q_iload_n X dX5_doAsSlave_66 rfl hl 3 rfl ?_
    refine lv_bipush (v := (72 : Int32)) X.1 X.2.1 dX5_doAsSlave_67 (by decide) ?_
    refine lv_icmp_ne (tgt := 119) X.1 X.2.1 dX5_doAsSlave_69 (by decide) (fun c69 => ?_) (fun c69 => ?_)
    · rw [if_neg c69] at h
      exact K_X5_doAsSlave_119 X hret hlk hR hh hS (lk_sub hl [] rfl) h
    · rw [if_pos c69] at h
      refine q_iload_n X dX5_doAsSlave_72 rfl hl 2 rfl ?_
      refine lv_iconst (v := (1 : Int32)) X.1 X.2.1 dX5_doAsSlave_73 (by decide) ?_
      refine lv_icmp_ne (tgt := 119) X.1 X.2.1 dX5_doAsSlave_74 (by decide) (fun c74 => ?_) (fun c74 => ?_)
      · rw [if_neg c74] at h
        exact K_X5_doAsSlave_119 X hret hlk hR hh hS (lk_sub hl [] rfl) h
      · rw [if_pos c74] at h
        refine q_aload_n X dX5_doAsSlave_77 rfl hl 0 rfl ?_
        obtain ⟨t78, e_t78, h⟩ := o_b h
        refine q_gR X hh fa_X5_12 rfl e_t78 dX5_doAsSlave_78 ?_
        obtain ⟨b81, e_b81, h⟩ := o_b h
        obtain ⟨q81, e_q81, h⟩ := o_b h
        refine q_cV (As := []) X hh hS hl cf_X5_184 (cN := 0) rfl rfl e_b81 rfl (M_X0_jobsLeft l D dA base σ b81  e_q81) ⟨Nat.le_trans (by decide) hR.1, Nat.le_trans (by decide) hR.2⟩ (cat8 [] (Nat.le_of_ble_eq_true rfl)) dX5_doAsSlave_81 ⟨Nat.zero_le _, Nat.zero_le _⟩ rfl rfl (fun H locs hh hS => ?_)
        refine lv_if_ne (tgt := 100) X.1 X.2.1 dX5_doAsSlave_84 (by decide) (fun c84 => ?_) (fun c84 => ?_)
        · rw [if_neg c84] at h
          refine q_aload_n X dX5_doAsSlave_100 rfl hl 0 rfl ?_
          obtain ⟨t101, e_t101, h⟩ := o_b h
          refine q_gR X hh fa_X5_21 rfl e_t101 dX5_doAsSlave_101 ?_
          refine lv_bipush (v := (84 : Int32)) X.1 X.2.1 dX5_doAsSlave_104 (by decide) ?_
          obtain ⟨b106, e_b106, h⟩ := o_b h
          obtain ⟨q106, e_q106, h⟩ := o_b h
          refine q_cV (As := [.int (84 : Int32)]) X hh hS hl cf_X5_187 (cN := 6) rfl rfl e_b106 rfl (M_X6_add l D dA base σ b106 (84 : Int32) e_q106) ⟨Nat.le_trans (by decide) hR.1, Nat.le_trans (by decide) hR.2⟩ (cat8 [] (Nat.le_of_ble_eq_true rfl)) dX5_doAsSlave_106 ⟨Nat.zero_le _, Nat.zero_le _⟩ rfl rfl (fun H locs hh hS => ?_)
          refine lv_pop X.1 X.2.1 dX5_doAsSlave_109 (vv_cat (.inr q106.1)) ?_
          refine q_aload_n X dX5_doAsSlave_110 rfl hl 0 rfl ?_
          refine lv_iconst (v := (2 : Int32)) X.1 X.2.1 dX5_doAsSlave_111 (by decide) ?_
          obtain ⟨s112, e_s112, h⟩ := o_b h
          refine q_pI X hh hS fp_X5_32 (fun h => by cases h) rfl e_s112 dX5_doAsSlave_112 (fun H locs hh hS => ?_)
          refine q_aload_n X dX5_doAsSlave_115 rfl hl 0 rfl ?_
          obtain ⟨b116, e_b116, h⟩ := o_b h
          obtain ⟨q116, e_q116, h⟩ := o_b h
          refine q_cV (As := []) X hh hS hl cf_X5_144 (cN := 5) rfl rfl e_b116 rfl (M_X5_goOn l D dA base s112 b116  e_q116) ⟨Nat.le_trans (by decide) hR.1, Nat.le_trans (by decide) hR.2⟩ (cat8 [] (Nat.le_of_ble_eq_true rfl)) dX5_doAsSlave_116 ⟨Nat.zero_le _, Nat.zero_le _⟩ rfl rfl (fun H locs hh hS => ?_)
          exact K_X5_doAsSlave_119 X hret hlk hR hh hS (lk_sub hl [] rfl) h
        · rw [if_pos c84] at h
          refine q_aload_n X dX5_doAsSlave_87 rfl hl 0 rfl ?_
          obtain ⟨t88, e_t88, h⟩ := o_b h
          refine q_gR X hh fa_X5_21 rfl e_t88 dX5_doAsSlave_88 ?_
          refine lv_bipush (v := (72 : Int32)) X.1 X.2.1 dX5_doAsSlave_91 (by decide) ?_
          obtain ⟨b93, e_b93, h⟩ := o_b h
          obtain ⟨q93, e_q93, h⟩ := o_b h
          refine q_cV (As := [.int (72 : Int32)]) X hh hS hl cf_X5_187 (cN := 6) rfl rfl e_b93 rfl (M_X6_add l D dA base σ b93 (72 : Int32) e_q93) ⟨Nat.le_trans (by decide) hR.1, Nat.le_trans (by decide) hR.2⟩ (cat8 [] (Nat.le_of_ble_eq_true rfl)) dX5_doAsSlave_93 ⟨Nat.zero_le _, Nat.zero_le _⟩ rfl rfl (fun H locs hh hS => ?_)
          refine lv_pop X.1 X.2.1 dX5_doAsSlave_96 (vv_cat (.inr q93.1)) ?_
          refine lv_goto (tgt := 119) X.1 X.2.1 dX5_doAsSlave_97 (by decide) ?_
          exact K_X5_doAsSlave_119 X hret hlk hR hh hS (lk_sub hl [] rfl) h
  · rw [if_pos c42] at h
    refine q_aload_n X dX5_doAsSlave_45 rfl hl 0 rfl ?_
    obtain ⟨t46, e_t46, h⟩ := o_b h
    refine q_gR X hh fa_X5_28 rfl e_t46 dX5_doAsSlave_46 ?_
    obtain ⟨t49, e_t49, h⟩ := o_b h
    refine q_gIN X hh e_t49 dX5_doAsSlave_49 ?_
    refine lv_if_eq (tgt := 119) X.1 X.2.1 dX5_doAsSlave_52 (by decide) (fun c52 => ?_) (fun c52 => ?_)
    · rw [if_pos c52] at h
      exact K_X5_doAsSlave_119 X hret hlk hR hh hS (lk_sub hl [] rfl) h
    · rw [if_neg c52] at h
      refine q_aload_n X dX5_doAsSlave_55 rfl hl 0 rfl ?_
      obtain ⟨t56, e_t56, h⟩ := o_b h
      refine q_gR X hh fa_X5_28 rfl e_t56 dX5_doAsSlave_56 ?_
      refine q_aload_n X dX5_doAsSlave_59 rfl hl 1 rfl ?_
      obtain ⟨b60, e_b60, h⟩ := o_b h
      obtain ⟨q60, e_q60, h⟩ := o_b h
      refine q_cV (As := [va_rf v1]) X hh hS hl cf_X5_181 (cN := 1) rfl rfl e_b60 rfl (M_X1_takePart l D dA base σ b60 v1 e_q60) ⟨Nat.le_trans (by decide) hR.1, Nat.le_trans (by decide) hR.2⟩ (cat8 [] (Nat.le_of_ble_eq_true rfl)) dX5_doAsSlave_60 ⟨Nat.zero_le _, Nat.zero_le _⟩ rfl rfl (fun H locs hh hS => ?_)
      refine lv_goto (tgt := 119) X.1 X.2.1 dX5_doAsSlave_63 (by decide) ?_
      exact K_X5_doAsSlave_119 X hret hlk hR hh hS (lk_sub hl [] rfl) h
theorem ke_X5_doAsSlave_0 {z : hp} {σ : hp} {t0 : Nat} {v1 : Option Nat} (h : S_X5_doAsSlave σ t0 v1 = some z) : eq4 σ z := by
  unfold S_X5_doAsSlave at h
  obtain ⟨b1, e_b1, h⟩ := o_b h
  obtain ⟨q1, e_q1, h⟩ := o_b h
  obtain ⟨b7, e_b7, h⟩ := o_b h
  obtain ⟨q7, e_q7, h⟩ := o_b h
  by_cases c14 : q7 = (83 : Int32)
  · rw [if_pos c14] at h
    by_cases c19 : q1 = (3 : Int32)
    · rw [if_pos c19] at h
      obtain ⟨b25, e_b25, h⟩ := o_b h
      obtain ⟨q25, e_q25, h⟩ := o_b h
      obtain ⟨b30, e_b30, h⟩ := o_b h
      obtain ⟨q30, e_q30, h⟩ := o_b h
      obtain ⟨b33, e_b33, h⟩ := o_b h
      obtain ⟨q33, e_q33, h⟩ := o_b h
      exact ((ke_X5_takeOffer_0 e_q33)).tr (ke_X5_doAsSlave_119 h)
    · rw [if_neg c19] at h
      exact (ke_X5_doAsSlave_39 h)
  · rw [if_neg c14] at h
    exact (ke_X5_doAsSlave_39 h)
set_option maxHeartbeats 4000000 in
set_option maxRecDepth 100000 in
theorem K_X5_doAsSlave_0 {p : Program} {l : Launch} {e : Env} {R : Room} {s : State} {m : MethodId} {args : Array Value} {below : List Frame} {meth : Method} {c : Code} {D : va_G} {dA : Nat → ClassId} {base : Nat} {z : hp} (X : cx p s m args c cX5_doAsSlave RX5 4 D dA) (hret : meth.sig.returnType = none) (hlk : meth.locks = false) (hR : 2 ≤ R.frames ∧ 44 ≤ R.locals) {σ : hp} {t0 : Nat} {v1 : Option Nat} {H : Heap} {locs : List Loc} {ls : Array Slot} (hh : hw D dA base σ H) (hS : hs base s.heap H locs) (hl : lk ls 4 [(0, .inr (some t0)), (1, .inr v1)]) (h : S_X5_doAsSlave σ t0 v1 = some z) : W p l e R s m args below meth c H locs 0 0 (MQ below (qG D dA base none z) args s 0 0 (fun q => base ≤ q)) (F0 m 0 ls []) := by
  unfold S_X5_doAsSlave at h
  refine q_aload_n X dX5_doAsSlave_0 rfl hl 1 rfl ?_
  obtain ⟨b1, e_b1, h⟩ := o_b h
  obtain ⟨q1, e_q1, h⟩ := o_b h
  refine q_cV (As := []) X hh hS hl cf_X5_163 (cN := 4) rfl rfl e_b1 rfl (M_X4_messageLength l D dA base σ b1  e_q1) ⟨Nat.le_trans (by decide) hR.1, Nat.le_trans (by decide) hR.2⟩ (cat8 [] (Nat.le_of_ble_eq_true rfl)) dX5_doAsSlave_1 ⟨Nat.zero_le _, Nat.zero_le _⟩ rfl rfl (fun H locs hh hS => ?_)
  refine q_istore_n (lv' := [(2, .inl q1), (0, .inr (some t0)), (1, .inr v1)]) X dX5_doAsSlave_4 rfl hl (by decide) rfl (fun ls hl => ?_)
  refine q_aload_n X dX5_doAsSlave_5 rfl hl 2 rfl ?_
  refine lv_iconst (v := (0 : Int32)) X.1 X.2.1 dX5_doAsSlave_6 (by decide) ?_
  obtain ⟨b7, e_b7, h⟩ := o_b h
  obtain ⟨q7, e_q7, h⟩ := o_b h
  refine q_cV (As := [.int (0 : Int32)]) X hh hS hl cf_X5_166 (cN := 4) rfl rfl e_b7 rfl (M_X4_messageByte l D dA base σ b7 (0 : Int32) e_q7) ⟨Nat.le_trans (by decide) hR.1, Nat.le_trans (by decide) hR.2⟩ (cat8 [] (Nat.le_of_ble_eq_true rfl)) dX5_doAsSlave_7 ⟨Nat.zero_le _, Nat.zero_le _⟩ rfl rfl (fun H locs hh hS => ?_)
  refine q_istore_n (lv' := [(3, .inl q7), (2, .inl q1), (0, .inr (some t0)), (1, .inr v1)]) X dX5_doAsSlave_10 rfl hl (by decide) rfl (fun ls hl => ?_)
  refine q_iload_n X dX5_doAsSlave_11 rfl hl 0 rfl ?_
  refine lv_bipush (v := (83 : Int32)) X.1 X.2.1 dX5_doAsSlave_12 (by decide) ?_
  refine lv_icmp_ne (tgt := 39) X.1 X.2.1 dX5_doAsSlave_14 (by decide) (fun c14 => ?_) (fun c14 => ?_)
  · rw [if_neg c14] at h
    exact K_X5_doAsSlave_39 X hret hlk hR hh hS (lk_sub hl [2, 3, 1, 0] rfl) h
  · rw [if_pos c14] at h
    refine q_iload_n X dX5_doAsSlave_17 rfl hl 1 rfl ?_
    refine lv_iconst (v := (3 : Int32)) X.1 X.2.1 dX5_doAsSlave_18 (by decide) ?_
    refine lv_icmp_ne (tgt := 39) X.1 X.2.1 dX5_doAsSlave_19 (by decide) (fun c19 => ?_) (fun c19 => ?_)
    · rw [if_neg c19] at h
      exact K_X5_doAsSlave_39 X hret hlk hR hh hS (lk_sub hl [2, 3, 1, 0] rfl) h
    · rw [if_pos c19] at h
      refine q_aload_n X dX5_doAsSlave_22 rfl hl 2 rfl ?_
      refine q_aload_n X dX5_doAsSlave_23 rfl hl 3 rfl ?_
      refine lv_iconst (v := (1 : Int32)) X.1 X.2.1 dX5_doAsSlave_24 (by decide) ?_
      obtain ⟨b25, e_b25, h⟩ := o_b h
      obtain ⟨q25, e_q25, h⟩ := o_b h
      refine q_cV (As := [.int (1 : Int32)]) X hh hS hl cf_X5_166 (cN := 4) rfl rfl e_b25 rfl (M_X4_messageByte l D dA base σ b25 (1 : Int32) e_q25) ⟨Nat.le_trans (by decide) hR.1, Nat.le_trans (by decide) hR.2⟩ (cat8 [.inr (some t0)] (Nat.le_of_ble_eq_true rfl)) dX5_doAsSlave_25 ⟨Nat.zero_le _, Nat.zero_le _⟩ rfl rfl (fun H locs hh hS => ?_)
      refine q_aload_n X dX5_doAsSlave_28 rfl hl 3 rfl ?_
      refine lv_iconst (v := (2 : Int32)) X.1 X.2.1 dX5_doAsSlave_29 (by decide) ?_
      obtain ⟨b30, e_b30, h⟩ := o_b h
      obtain ⟨q30, e_q30, h⟩ := o_b h
      refine q_cV (As := [.int (2 : Int32)]) X hh hS hl cf_X5_166 (cN := 4) rfl rfl e_b30 rfl (M_X4_messageByte l D dA base σ b30 (2 : Int32) e_q30) ⟨Nat.le_trans (by decide) hR.1, Nat.le_trans (by decide) hR.2⟩ (cat8 [.inl q25, .inr (some t0)] (Nat.le_of_ble_eq_true rfl)) dX5_doAsSlave_30 ⟨Nat.zero_le _, Nat.zero_le _⟩ rfl rfl (fun H locs hh hS => ?_)
      obtain ⟨b33, e_b33, h⟩ := o_b h
      obtain ⟨q33, e_q33, h⟩ := o_b h
      refine q_cV (As := [.int q25, .int q30]) X hh hS hl cf_X5_175 (cN := 5) rfl rfl e_b33 rfl (M_X5_takeOffer l D dA base σ b33 q25 q30 e_q33) ⟨Nat.le_trans (by decide) hR.1, Nat.le_trans (by decide) hR.2⟩ (cat8 [] (Nat.le_of_ble_eq_true rfl)) dX5_doAsSlave_33 ⟨Nat.zero_le _, Nat.zero_le _⟩ rfl rfl (fun H locs hh hS => ?_)
      refine lv_goto (tgt := 119) X.1 X.2.1 dX5_doAsSlave_36 (by decide) ?_
      exact K_X5_doAsSlave_119 X hret hlk hR hh hS (lk_sub hl [] rfl) h
set_option maxRecDepth 100000 in
theorem M_X5_doAsSlave (l : Launch) (D : va_G) (dA : Nat → ClassId) (base : Nat) (σ : hp) (t0 : Nat) (v1 : Option Nat) {z : hp} (h : S_X5_doAsSlave σ t0 v1 = some z) : mt l yX5_doAsSlave cX5_doAsSlave 4 (none) 2 44 D dA base σ [.ref t0, va_rf v1] none z 0 0 := by
  refine Met.ofW (cc := cX5_doAsSlave) (maxL := 4) (ret := none) (by decide) rfl ?_
  intro p e s m args below meth c s₁ B hml hv
  obtain ⟨rfl, hh, hK⟩ := hv
  have X : cx p s m ([.ref t0, va_rf v1] : List Value).toArray c cX5_doAsSlave RX5 4 D dA := ⟨B.exec, B.bytes, findClass_of_methodNamed B.named, hml, fun w hw => atoms_spec (ws := .code yX5_doAsSlave cX5_doAsSlave 4 (none) :: G) B.pre w (List.mem_cons_of_mem _ hw), hK⟩
  have hl := lk_entry [.inr (some t0), .inr v1] (n := 4) (Nat.le_of_ble_eq_true rfl)
  rw [lg_entry_eq]
  have hl : lk ((lg_sl ([.ref t0, va_rf v1] : List Value) ++ List.replicate (4 - (lg_sl ([.ref t0, va_rf v1] : List Value)).length) Slot.unset).toArray) 4 [(0, .inr (some t0)), (1, .inr v1)] := hl
  generalize (lg_sl ([.ref t0, va_rf v1] : List Value) ++ List.replicate (4 - (lg_sl ([.ref t0, va_rf v1] : List Value)).length) Slot.unset).toArray = ls at hl ⊢
  exact K_X5_doAsSlave_0 X B.returns B.notSynchronized ⟨Nat.le_refl _, Nat.le_refl _⟩ hh va_S.rf hl h
theorem mo_X5_executeWhatIsWhole_41 {z : hp} {σ : hp} (h : S_X5_executeWhatIsWhole_41 σ = some z) : le4 σ z := by
  unfold S_X5_executeWhatIsWhole_41 at h
  cases h
  exact le4.rf _
set_option maxHeartbeats 4000000 in
set_option maxRecDepth 100000 in
theorem K_X5_executeWhatIsWhole_41 {p : Program} {l : Launch} {e : Env} {R : Room} {s : State} {m : MethodId} {args : Array Value} {below : List Frame} {meth : Method} {c : Code} {D : va_G} {dA : Nat → ClassId} {base : Nat} {z : hp} (X : cx p s m args c cX5_executeWhatIsWhole RX5 1 D dA) (hret : meth.sig.returnType = none) (hlk : meth.locks = false) (hR : 3 ≤ R.frames ∧ 69 ≤ R.locals) {n0 s0 : Nat} (hRc : z.2.2.2.1 ≤ n0 + R.cells ∧ z.2.2.2.2 ≤ s0 + R.slots) {σ : hp} {H : Heap} {locs : List Loc} {ls : Array Slot} (hn : n0 ≤ σ.2.2.2.1 ∧ s0 ≤ σ.2.2.2.2) (hh : hw D dA base σ H) (hS : hs base s.heap H locs) (hl : lk ls 1 []) (h : S_X5_executeWhatIsWhole_41 σ = some z) : W p l e R s m args below meth c H locs (σ.2.2.2.1 - n0) (σ.2.2.2.2 - s0) (MQ below (qG D dA base none z) args s (z.2.2.2.1 - n0) (z.2.2.2.2 - s0) (fun q => base ≤ q)) (F0 m 41 ls []) := by
  have hz0 := mo_X5_executeWhatIsWhole_41 h
  have hcl : σ.2.2.2.1 - n0 ≤ R.cells ∧ σ.2.2.2.2 - s0 ≤ R.slots := by unfold le4 at hz0; omega
  unfold S_X5_executeWhatIsWhole_41 at h
  cases h
  exact q_vret X hret hlk hh hS dX5_executeWhatIsWhole_41
theorem mo_X5_executeWhatIsWhole_21 {z : hp} {σ : hp} {t0 : Nat} {w0 : Option Nat} {w1 : Option Nat} (h : S_X5_executeWhatIsWhole_21 σ t0 w0 w1 = some z) : le4 σ z := by
  unfold S_X5_executeWhatIsWhole_21 at h
  obtain ⟨b21, e_b21, h⟩ := o_b h
  obtain ⟨q21, e_q21, h⟩ := o_b h
  obtain ⟨t25, e_t25, h⟩ := o_b h
  obtain ⟨b28, e_b28, h⟩ := o_b h
  obtain ⟨q28, e_q28, h⟩ := o_b h
  obtain ⟨t32, e_t32, h⟩ := o_b h
  obtain ⟨b37, e_b37, h⟩ := o_b h
  obtain ⟨q37, e_q37, h⟩ := o_b h
  exact ((((ke_X0_addDone_0 e_q21).le).tr (ke_X1_forget_0 e_q28).le).tr (ke_X6_add_0 e_q37).le).tr (mo_X5_executeWhatIsWhole_41 h)
set_option maxHeartbeats 4000000 in
set_option maxRecDepth 100000 in
theorem K_X5_executeWhatIsWhole_21 {p : Program} {l : Launch} {e : Env} {R : Room} {s : State} {m : MethodId} {args : Array Value} {below : List Frame} {meth : Method} {c : Code} {D : va_G} {dA : Nat → ClassId} {base : Nat} {z : hp} (X : cx p s m args c cX5_executeWhatIsWhole RX5 1 D dA) (hret : meth.sig.returnType = none) (hlk : meth.locks = false) (hR : 3 ≤ R.frames ∧ 69 ≤ R.locals) {n0 s0 : Nat} (hRc : z.2.2.2.1 ≤ n0 + R.cells ∧ z.2.2.2.2 ≤ s0 + R.slots) {σ : hp} {t0 : Nat} {w0 : Option Nat} {w1 : Option Nat} {H : Heap} {locs : List Loc} {ls : Array Slot} (hn : n0 ≤ σ.2.2.2.1 ∧ s0 ≤ σ.2.2.2.2) (hh : hw D dA base σ H) (hS : hs base s.heap H locs) (hl : lk ls 1 [(0, .inr (some t0))]) (h : S_X5_executeWhatIsWhole_21 σ t0 w0 w1 = some z) : W p l e R s m args below meth c H locs (σ.2.2.2.1 - n0) (σ.2.2.2.2 - s0) (MQ below (qG D dA base none z) args s (z.2.2.2.1 - n0) (z.2.2.2.2 - s0) (fun q => base ≤ q)) (F0 m 21 ls [va_rf w1, va_rf w0]) := by
  have hz0 := mo_X5_executeWhatIsWhole_21 h
  have hcl : σ.2.2.2.1 - n0 ≤ R.cells ∧ σ.2.2.2.2 - s0 ≤ R.slots := by unfold le4 at hz0; omega
  unfold S_X5_executeWhatIsWhole_21 at h
  obtain ⟨b21, e_b21, h⟩ := o_b h
  obtain ⟨q21, e_q21, h⟩ := o_b h
  have f21 := ke_X0_addDone_0 e_q21
  refine q_cV (As := [va_rf w1]) X hh hS hl cf_X5_201 (cN := 0) rfl rfl e_b21 rfl (M_X0_addDone l D dA base σ b21 w1 e_q21) ⟨Nat.le_trans (by decide) hR.1, Nat.le_trans (by decide) hR.2⟩ (cat8 [] (Nat.le_of_ble_eq_true rfl)) dX5_executeWhatIsWhole_21 ⟨Nat.le_trans (Nat.le_of_eq (Nat.add_zero _)) hcl.1, Nat.le_trans (Nat.le_of_eq (Nat.add_zero _)) hcl.2⟩ rfl rfl (fun H locs hh hS => ?_)
  refine W.cs (cells' := σ.2.2.2.1 - n0) (slots' := σ.2.2.2.2 - s0) (Nat.add_zero _) (Nat.add_zero _) ?_
  refine q_aload_n X dX5_executeWhatIsWhole_24 rfl hl 0 rfl ?_
  obtain ⟨t25, e_t25, h⟩ := o_b h
  refine q_gR X hh fa_X5_28 rfl e_t25 dX5_executeWhatIsWhole_25 ?_
  obtain ⟨b28, e_b28, h⟩ := o_b h
  obtain ⟨q28, e_q28, h⟩ := o_b h
  have yq21 : eq4 σ q21 := f21
  refine W.cs (cells' := q21.2.2.2.1 - n0) (slots' := q21.2.2.2.2 - s0) (by rw [show q21.2.2.2 = σ.2.2.2 from yq21]) (by rw [show q21.2.2.2 = σ.2.2.2 from yq21]) ?_
  have hn : n0 ≤ q21.2.2.2.1 ∧ s0 ≤ q21.2.2.2.2 := by rw [show q21.2.2.2 = σ.2.2.2 from yq21]; exact hn
  have hcl : q21.2.2.2.1 - n0 ≤ R.cells ∧ q21.2.2.2.2 - s0 ≤ R.slots := by rw [show q21.2.2.2 = σ.2.2.2 from yq21]; exact hcl
  have f28 := ke_X1_forget_0 e_q28
  refine q_cV (As := []) X hh hS hl cf_X5_68 (cN := 1) rfl rfl e_b28 rfl (M_X1_forget l D dA base q21 b28  e_q28) ⟨Nat.le_trans (by decide) hR.1, Nat.le_trans (by decide) hR.2⟩ (cat8 [] (Nat.le_of_ble_eq_true rfl)) dX5_executeWhatIsWhole_28 ⟨Nat.le_trans (Nat.le_of_eq (Nat.add_zero _)) hcl.1, Nat.le_trans (Nat.le_of_eq (Nat.add_zero _)) hcl.2⟩ rfl rfl (fun H locs hh hS => ?_)
  refine W.cs (cells' := q21.2.2.2.1 - n0) (slots' := q21.2.2.2.2 - s0) (Nat.add_zero _) (Nat.add_zero _) ?_
  refine q_aload_n X dX5_executeWhatIsWhole_31 rfl hl 0 rfl ?_
  obtain ⟨t32, e_t32, h⟩ := o_b h
  refine q_gR X hh fa_X5_21 rfl e_t32 dX5_executeWhatIsWhole_32 ?_
  refine lv_bipush (v := (67 : Int32)) X.1 X.2.1 dX5_executeWhatIsWhole_35 (by decide) ?_
  obtain ⟨b37, e_b37, h⟩ := o_b h
  obtain ⟨q37, e_q37, h⟩ := o_b h
  have yq28 : eq4 q21 q28 := f28
  refine W.cs (cells' := q28.2.2.2.1 - n0) (slots' := q28.2.2.2.2 - s0) (by rw [show q28.2.2.2 = q21.2.2.2 from yq28]) (by rw [show q28.2.2.2 = q21.2.2.2 from yq28]) ?_
  have hn : n0 ≤ q28.2.2.2.1 ∧ s0 ≤ q28.2.2.2.2 := by rw [show q28.2.2.2 = q21.2.2.2 from yq28]; exact hn
  have hcl : q28.2.2.2.1 - n0 ≤ R.cells ∧ q28.2.2.2.2 - s0 ≤ R.slots := by rw [show q28.2.2.2 = q21.2.2.2 from yq28]; exact hcl
  have f37 := ke_X6_add_0 e_q37
  refine q_cV (As := [.int (67 : Int32)]) X hh hS hl cf_X5_187 (cN := 6) rfl rfl e_b37 rfl (M_X6_add l D dA base q28 b37 (67 : Int32) e_q37) ⟨Nat.le_trans (by decide) hR.1, Nat.le_trans (by decide) hR.2⟩ (cat8 [] (Nat.le_of_ble_eq_true rfl)) dX5_executeWhatIsWhole_37 ⟨Nat.le_trans (Nat.le_of_eq (Nat.add_zero _)) hcl.1, Nat.le_trans (Nat.le_of_eq (Nat.add_zero _)) hcl.2⟩ rfl rfl (fun H locs hh hS => ?_)
  refine W.cs (cells' := q28.2.2.2.1 - n0) (slots' := q28.2.2.2.2 - s0) (Nat.add_zero _) (Nat.add_zero _) ?_
  refine lv_pop X.1 X.2.1 dX5_executeWhatIsWhole_40 (vv_cat (.inr q37.1)) ?_
  have yq37_2 : eq4 q28 q37.2 := f37
  refine W.cs (cells' := q37.2.2.2.2.1 - n0) (slots' := q37.2.2.2.2.2 - s0) (by rw [show q37.2.2.2.2 = q28.2.2.2 from yq37_2]) (by rw [show q37.2.2.2.2 = q28.2.2.2 from yq37_2]) ?_
  have hn : n0 ≤ q37.2.2.2.2.1 ∧ s0 ≤ q37.2.2.2.2.2 := by rw [show q37.2.2.2.2 = q28.2.2.2 from yq37_2]; exact hn
  have hcl : q37.2.2.2.2.1 - n0 ≤ R.cells ∧ q37.2.2.2.2.2 - s0 ≤ R.slots := by rw [show q37.2.2.2.2 = q28.2.2.2 from yq37_2]; exact hcl
  exact K_X5_executeWhatIsWhole_41 X hret hlk hR hRc hn hh hS (lk_sub hl [] rfl) h
theorem mo_X5_executeWhatIsWhole_0 {z : hp} {σ : hp} {t0 : Nat} (h : S_X5_executeWhatIsWhole σ t0 = some z) : le4 σ z := by
  unfold S_X5_executeWhatIsWhole at h
  obtain ⟨t1, e_t1, h⟩ := o_b h
  obtain ⟨b4, e_b4, h⟩ := o_b h
  obtain ⟨q4, e_q4, h⟩ := o_b h
  by_cases c7 : q4 = (0 : Int32)
  · rw [if_pos c7] at h
    exact (mo_X5_executeWhatIsWhole_41 h)
  · rw [if_neg c7] at h
    obtain ⟨t11, e_t11, h⟩ := o_b h
    obtain ⟨t15, e_t15, h⟩ := o_b h
    obtain ⟨b18, e_b18, h⟩ := o_b h
    obtain ⟨q18, e_q18, h⟩ := o_b h
    exact ((mo_X1_job_0 e_q18)).tr (mo_X5_executeWhatIsWhole_21 h)
set_option maxHeartbeats 4000000 in
set_option maxRecDepth 100000 in
theorem K_X5_executeWhatIsWhole_0 {p : Program} {l : Launch} {e : Env} {R : Room} {s : State} {m : MethodId} {args : Array Value} {below : List Frame} {meth : Method} {c : Code} {D : va_G} {dA : Nat → ClassId} {base : Nat} {z : hp} (X : cx p s m args c cX5_executeWhatIsWhole RX5 1 D dA) (hret : meth.sig.returnType = none) (hlk : meth.locks = false) (hR : 3 ≤ R.frames ∧ 69 ≤ R.locals) {n0 s0 : Nat} (hRc : z.2.2.2.1 ≤ n0 + R.cells ∧ z.2.2.2.2 ≤ s0 + R.slots) {σ : hp} {t0 : Nat} {H : Heap} {locs : List Loc} {ls : Array Slot} (hn : n0 ≤ σ.2.2.2.1 ∧ s0 ≤ σ.2.2.2.2) (hh : hw D dA base σ H) (hS : hs base s.heap H locs) (hl : lk ls 1 [(0, .inr (some t0))]) (h : S_X5_executeWhatIsWhole σ t0 = some z) : W p l e R s m args below meth c H locs (σ.2.2.2.1 - n0) (σ.2.2.2.2 - s0) (MQ below (qG D dA base none z) args s (z.2.2.2.1 - n0) (z.2.2.2.2 - s0) (fun q => base ≤ q)) (F0 m 0 ls []) := by
  have hz0 := mo_X5_executeWhatIsWhole_0 h
  have hcl : σ.2.2.2.1 - n0 ≤ R.cells ∧ σ.2.2.2.2 - s0 ≤ R.slots := by unfold le4 at hz0; omega
  unfold S_X5_executeWhatIsWhole at h
  refine q_aload_n X dX5_executeWhatIsWhole_0 rfl hl 0 rfl ?_
  obtain ⟨t1, e_t1, h⟩ := o_b h
  refine q_gR X hh fa_X5_28 rfl e_t1 dX5_executeWhatIsWhole_1 ?_
  obtain ⟨b4, e_b4, h⟩ := o_b h
  obtain ⟨q4, e_q4, h⟩ := o_b h
  refine q_cV (As := []) X hh hS hl cf_X5_194 (cN := 1) rfl rfl e_b4 rfl (M_X1_isWhole l D dA base σ b4  e_q4) ⟨Nat.le_trans (by decide) hR.1, Nat.le_trans (by decide) hR.2⟩ (cat8 [] (Nat.le_of_ble_eq_true rfl)) dX5_executeWhatIsWhole_4 ⟨Nat.le_trans (Nat.le_of_eq (Nat.add_zero _)) hcl.1, Nat.le_trans (Nat.le_of_eq (Nat.add_zero _)) hcl.2⟩ rfl rfl (fun H locs hh hS => ?_)
  refine W.cs (cells' := σ.2.2.2.1 - n0) (slots' := σ.2.2.2.2 - s0) (Nat.add_zero _) (Nat.add_zero _) ?_
  refine lv_if_eq (tgt := 41) X.1 X.2.1 dX5_executeWhatIsWhole_7 (by decide) (fun c7 => ?_) (fun c7 => ?_)
  · rw [if_pos c7] at h
    exact K_X5_executeWhatIsWhole_41 X hret hlk hR hRc hn hh hS (lk_sub hl [] rfl) h
  · rw [if_neg c7] at h
    refine q_aload_n X dX5_executeWhatIsWhole_10 rfl hl 0 rfl ?_
    obtain ⟨t11, e_t11, h⟩ := o_b h
    refine q_gR X hh fa_X5_12 rfl e_t11 dX5_executeWhatIsWhole_11 ?_
    refine q_aload_n X dX5_executeWhatIsWhole_14 rfl hl 0 rfl ?_
    obtain ⟨t15, e_t15, h⟩ := o_b h
    refine q_gR X hh fa_X5_28 rfl e_t15 dX5_executeWhatIsWhole_15 ?_
    obtain ⟨b18, e_b18, h⟩ := o_b h
    obtain ⟨q18, e_q18, h⟩ := o_b h
    have g18 := mo_X5_executeWhatIsWhole_21 h
    have f18 := mo_X1_job_0 e_q18
    unfold le4 at g18 f18
    refine q_cV (As := []) X hh hS hl cf_X5_197 (cN := 1) rfl rfl e_b18 rfl (M_X1_job l D dA base σ b18  e_q18) ⟨Nat.le_trans (by decide) hR.1, Nat.le_trans (by decide) hR.2⟩ (cat8 [.inr t11] (Nat.le_of_ble_eq_true rfl)) dX5_executeWhatIsWhole_18 ⟨by omega, by omega⟩ rfl rfl (fun H locs hh hS => ?_)
    refine W.cs (cells' := q18.2.2.2.2.1 - n0) (slots' := q18.2.2.2.2.2 - s0) (by omega) (by omega) ?_
    have hn : n0 ≤ q18.2.2.2.2.1 ∧ s0 ≤ q18.2.2.2.2.2 := by omega
    exact K_X5_executeWhatIsWhole_21 X hret hlk hR hRc hn hh hS (lk_sub hl [0] rfl) h
set_option maxRecDepth 100000 in
theorem M_X5_executeWhatIsWhole (l : Launch) (D : va_G) (dA : Nat → ClassId) (base : Nat) (σ : hp) (t0 : Nat) {z : hp} (h : S_X5_executeWhatIsWhole σ t0 = some z) : mt l yX5_executeWhatIsWhole cX5_executeWhatIsWhole 1 (none) 3 69 D dA base σ [.ref t0] none z (z.2.2.2.1 - σ.2.2.2.1) (z.2.2.2.2 - σ.2.2.2.2) := by
  have hzz := mo_X5_executeWhatIsWhole_0 h
  unfold le4 at hzz
  refine Met.ofW (cc := cX5_executeWhatIsWhole) (maxL := 1) (ret := none) (by decide) rfl ?_
  intro p e s m args below meth c s₁ B hml hv
  obtain ⟨rfl, hh, hK⟩ := hv
  have X : cx p s m ([.ref t0] : List Value).toArray c cX5_executeWhatIsWhole RX5 1 D dA := ⟨B.exec, B.bytes, findClass_of_methodNamed B.named, hml, fun w hw => atoms_spec (ws := .code yX5_executeWhatIsWhole cX5_executeWhatIsWhole 1 (none) :: G) B.pre w (List.mem_cons_of_mem _ hw), hK⟩
  have hl := lk_entry [.inr (some t0)] (n := 1) (Nat.le_of_ble_eq_true rfl)
  rw [lg_entry_eq]
  have hl : lk ((lg_sl ([.ref t0] : List Value) ++ List.replicate (1 - (lg_sl ([.ref t0] : List Value)).length) Slot.unset).toArray) 1 [(0, .inr (some t0))] := hl
  generalize (lg_sl ([.ref t0] : List Value) ++ List.replicate (1 - (lg_sl ([.ref t0] : List Value)).length) Slot.unset).toArray = ls at hl ⊢
  refine W.cs (cells' := σ.2.2.2.1 - σ.2.2.2.1) (slots' := σ.2.2.2.2 - σ.2.2.2.2) (Nat.sub_self _).symm (Nat.sub_self _).symm ?_
  exact K_X5_executeWhatIsWhole_0 X B.returns B.notSynchronized ⟨Nat.le_refl _, Nat.le_refl _⟩ (n0 := σ.2.2.2.1) (s0 := σ.2.2.2.2) ⟨by show _ ≤ _ + (_ - _); omega, by show _ ≤ _ + (_ - _); omega⟩ ⟨Nat.le_refl _, Nat.le_refl _⟩ hh va_S.rf hl h
theorem mo_X5_takeData_104 {z : hp} {σ : hp} (h : S_X5_takeData_104 σ = some z) : le4 σ z := by
  unfold S_X5_takeData_104 at h
  cases h
  exact le4.rf _
set_option maxHeartbeats 4000000 in
set_option maxRecDepth 100000 in
theorem K_X5_takeData_104 {p : Program} {l : Launch} {e : Env} {R : Room} {s : State} {m : MethodId} {args : Array Value} {below : List Frame} {meth : Method} {c : Code} {D : va_G} {dA : Nat → ClassId} {base : Nat} {z : hp} (X : cx p s m args c cX5_takeData RX5 2 D dA) (hret : meth.sig.returnType = none) (hlk : meth.locks = false) (hR : 4 ≤ R.frames ∧ 89 ≤ R.locals) {n0 s0 : Nat} (hRc : z.2.2.2.1 ≤ n0 + R.cells ∧ z.2.2.2.2 ≤ s0 + R.slots) {σ : hp} {H : Heap} {locs : List Loc} {ls : Array Slot} (hn : n0 ≤ σ.2.2.2.1 ∧ s0 ≤ σ.2.2.2.2) (hh : hw D dA base σ H) (hS : hs base s.heap H locs) (hl : lk ls 2 []) (h : S_X5_takeData_104 σ = some z) : W p l e R s m args below meth c H locs (σ.2.2.2.1 - n0) (σ.2.2.2.2 - s0) (MQ below (qG D dA base none z) args s (z.2.2.2.1 - n0) (z.2.2.2.2 - s0) (fun q => base ≤ q)) (F0 m 104 ls []) := by
  have hz0 := mo_X5_takeData_104 h
  have hcl : σ.2.2.2.1 - n0 ≤ R.cells ∧ σ.2.2.2.2 - s0 ≤ R.slots := by unfold le4 at hz0; omega
  unfold S_X5_takeData_104 at h
  cases h
  exact q_vret X hret hlk hh hS dX5_takeData_104
theorem mo_X5_takeData_0 {z : hp} {σ : hp} {t0 : Nat} {v1 : Option Nat} (h : S_X5_takeData σ t0 v1 = some z) : le4 σ z := by
  unfold S_X5_takeData at h
  obtain ⟨b2, e_b2, h⟩ := o_b h
  obtain ⟨q2, e_q2, h⟩ := o_b h
  obtain ⟨b5, e_b5, h⟩ := o_b h
  obtain ⟨q5, e_q5, h⟩ := o_b h
  obtain ⟨t10, e_t10, h⟩ := o_b h
  obtain ⟨b13, e_b13, h⟩ := o_b h
  obtain ⟨q13, e_q13, h⟩ := o_b h
  obtain ⟨b16, e_b16, h⟩ := o_b h
  obtain ⟨q16, e_q16, h⟩ := o_b h
  obtain ⟨b20, e_b20, h⟩ := o_b h
  obtain ⟨q20, e_q20, h⟩ := o_b h
  obtain ⟨t24, e_t24, h⟩ := o_b h
  by_cases c32 : q20 = ((t24 + (1 : Int32)) &&& (7 : Int32))
  · rw [if_pos c32] at h
    obtain ⟨b53, e_b53, h⟩ := o_b h
    obtain ⟨q53, e_q53, h⟩ := o_b h
    obtain ⟨s56, e_s56, h⟩ := o_b h
    obtain ⟨z61, e_z61, h⟩ := o_b h
    obtain ⟨s61, e_s61, h⟩ := o_b h
    obtain ⟨t65, e_t65, h⟩ := o_b h
    obtain ⟨b68, e_b68, h⟩ := o_b h
    obtain ⟨q68, e_q68, h⟩ := o_b h
    obtain ⟨t73, e_t73, h⟩ := o_b h
    obtain ⟨b76, e_b76, h⟩ := o_b h
    obtain ⟨q76, e_q76, h⟩ := o_b h
    obtain ⟨t80, e_t80, h⟩ := o_b h
    by_cases c84 : t80 = (2 : Int32)
    · rw [if_pos c84] at h
      obtain ⟨b89, e_b89, h⟩ := o_b h
      obtain ⟨q89, e_q89, h⟩ := o_b h
      exact (((((((((ke_X5_takeAcknowledgement_0 e_q5).le).tr (ke_X6_letOut_0 e_q13).le).tr (ke_X5_sendOutFrom_0 e_q16).le).tr (e_pI e_s56).le).tr (e_pI e_s61).le).tr (ke_X7_add_0 e_q68).le).tr (ke_X4_fillControl_0 e_q76).le).tr (ke_X5_doAsMaster_0 e_q89).le).tr (mo_X5_takeData_104 h)
    · rw [if_neg c84] at h
      obtain ⟨b97, e_b97, h⟩ := o_b h
      obtain ⟨q97, e_q97, h⟩ := o_b h
      obtain ⟨b101, e_b101, h⟩ := o_b h
      obtain ⟨q101, e_q101, h⟩ := o_b h
      exact ((((((((((ke_X5_takeAcknowledgement_0 e_q5).le).tr (ke_X6_letOut_0 e_q13).le).tr (ke_X5_sendOutFrom_0 e_q16).le).tr (e_pI e_s56).le).tr (e_pI e_s61).le).tr (ke_X7_add_0 e_q68).le).tr (ke_X4_fillControl_0 e_q76).le).tr (ke_X5_doAsSlave_0 e_q97).le).tr (mo_X5_executeWhatIsWhole_0 e_q101)).tr (mo_X5_takeData_104 h)
  · rw [if_neg c32] at h
    obtain ⟨t36, e_t36, h⟩ := o_b h
    obtain ⟨b39, e_b39, h⟩ := o_b h
    obtain ⟨q39, e_q39, h⟩ := o_b h
    obtain ⟨t44, e_t44, h⟩ := o_b h
    obtain ⟨b47, e_b47, h⟩ := o_b h
    obtain ⟨q47, e_q47, h⟩ := o_b h
    cases h
    exact (((((ke_X5_takeAcknowledgement_0 e_q5).le).tr (ke_X6_letOut_0 e_q13).le).tr (ke_X5_sendOutFrom_0 e_q16).le).tr (ke_X7_add_0 e_q39).le).tr (ke_X4_fillControl_0 e_q47).le
set_option maxHeartbeats 4000000 in
set_option maxRecDepth 100000 in
theorem K_X5_takeData_0 {p : Program} {l : Launch} {e : Env} {R : Room} {s : State} {m : MethodId} {args : Array Value} {below : List Frame} {meth : Method} {c : Code} {D : va_G} {dA : Nat → ClassId} {base : Nat} {z : hp} (X : cx p s m args c cX5_takeData RX5 2 D dA) (hret : meth.sig.returnType = none) (hlk : meth.locks = false) (hR : 4 ≤ R.frames ∧ 89 ≤ R.locals) {n0 s0 : Nat} (hRc : z.2.2.2.1 ≤ n0 + R.cells ∧ z.2.2.2.2 ≤ s0 + R.slots) {σ : hp} {t0 : Nat} {v1 : Option Nat} {H : Heap} {locs : List Loc} {ls : Array Slot} (hn : n0 ≤ σ.2.2.2.1 ∧ s0 ≤ σ.2.2.2.2) (hh : hw D dA base σ H) (hS : hs base s.heap H locs) (hl : lk ls 2 [(0, .inr (some t0)), (1, .inr v1)]) (h : S_X5_takeData σ t0 v1 = some z) : W p l e R s m args below meth c H locs (σ.2.2.2.1 - n0) (σ.2.2.2.2 - s0) (MQ below (qG D dA base none z) args s (z.2.2.2.1 - n0) (z.2.2.2.2 - s0) (fun q => base ≤ q)) (F0 m 0 ls []) := by
  have hz0 := mo_X5_takeData_0 h
  have hcl : σ.2.2.2.1 - n0 ≤ R.cells ∧ σ.2.2.2.2 - s0 ≤ R.slots := by unfold le4 at hz0; omega
  unfold S_X5_takeData at h
  refine q_aload_n X dX5_takeData_0 rfl hl 0 rfl ?_
  refine q_aload_n X dX5_takeData_1 rfl hl 1 rfl ?_
  obtain ⟨b2, e_b2, h⟩ := o_b h
  obtain ⟨q2, e_q2, h⟩ := o_b h
  refine q_cV (As := []) X hh hS hl cf_X5_114 (cN := 4) rfl rfl e_b2 rfl (M_X4_y l D dA base σ b2  e_q2) ⟨Nat.le_trans (by decide) hR.1, Nat.le_trans (by decide) hR.2⟩ (cat8 [.inr (some t0)] (Nat.le_of_ble_eq_true rfl)) dX5_takeData_2 ⟨Nat.le_trans (Nat.le_of_eq (Nat.add_zero _)) hcl.1, Nat.le_trans (Nat.le_of_eq (Nat.add_zero _)) hcl.2⟩ rfl rfl (fun H locs hh hS => ?_)
  refine W.cs (cells' := σ.2.2.2.1 - n0) (slots' := σ.2.2.2.2 - s0) (Nat.add_zero _) (Nat.add_zero _) ?_
  obtain ⟨b5, e_b5, h⟩ := o_b h
  obtain ⟨q5, e_q5, h⟩ := o_b h
  have f5 := ke_X5_takeAcknowledgement_0 e_q5
  refine q_cV (As := [.int q2]) X hh hS hl cf_X5_147 (cN := 5) rfl rfl e_b5 rfl (M_X5_takeAcknowledgement l D dA base σ b5 q2 e_q5) ⟨Nat.le_trans (by decide) hR.1, Nat.le_trans (by decide) hR.2⟩ (cat8 [] (Nat.le_of_ble_eq_true rfl)) dX5_takeData_5 ⟨Nat.le_trans (Nat.le_of_eq (Nat.add_zero _)) hcl.1, Nat.le_trans (Nat.le_of_eq (Nat.add_zero _)) hcl.2⟩ rfl rfl (fun H locs hh hS => ?_)
  refine W.cs (cells' := σ.2.2.2.1 - n0) (slots' := σ.2.2.2.2 - s0) (Nat.add_zero _) (Nat.add_zero _) ?_
  refine q_aload_n X dX5_takeData_8 rfl hl 0 rfl ?_
  refine q_aload_n X dX5_takeData_9 rfl hl 0 rfl ?_
  obtain ⟨t10, e_t10, h⟩ := o_b h
  refine q_gR X hh fa_X5_21 rfl e_t10 dX5_takeData_10 ?_
  obtain ⟨b13, e_b13, h⟩ := o_b h
  obtain ⟨q13, e_q13, h⟩ := o_b h
  have yq5 : eq4 σ q5 := f5
  refine W.cs (cells' := q5.2.2.2.1 - n0) (slots' := q5.2.2.2.2 - s0) (by rw [show q5.2.2.2 = σ.2.2.2 from yq5]) (by rw [show q5.2.2.2 = σ.2.2.2 from yq5]) ?_
  have hn : n0 ≤ q5.2.2.2.1 ∧ s0 ≤ q5.2.2.2.2 := by rw [show q5.2.2.2 = σ.2.2.2 from yq5]; exact hn
  have hcl : q5.2.2.2.1 - n0 ≤ R.cells ∧ q5.2.2.2.2 - s0 ≤ R.slots := by rw [show q5.2.2.2 = σ.2.2.2 from yq5]; exact hcl
  have f13 := ke_X6_letOut_0 e_q13
  refine q_cV (As := []) X hh hS hl cf_X5_126 (cN := 6) rfl rfl e_b13 rfl (M_X6_letOut l D dA base q5 b13  e_q13) ⟨Nat.le_trans (by decide) hR.1, Nat.le_trans (by decide) hR.2⟩ (cat8 [.inr (some t0)] (Nat.le_of_ble_eq_true rfl)) dX5_takeData_13 ⟨Nat.le_trans (Nat.le_of_eq (Nat.add_zero _)) hcl.1, Nat.le_trans (Nat.le_of_eq (Nat.add_zero _)) hcl.2⟩ rfl rfl (fun H locs hh hS => ?_)
  refine W.cs (cells' := q5.2.2.2.1 - n0) (slots' := q5.2.2.2.2 - s0) (Nat.add_zero _) (Nat.add_zero _) ?_
  obtain ⟨b16, e_b16, h⟩ := o_b h
  obtain ⟨q16, e_q16, h⟩ := o_b h
  have yq13_2 : eq4 q5 q13.2 := f13
  refine W.cs (cells' := q13.2.2.2.2.1 - n0) (slots' := q13.2.2.2.2.2 - s0) (by rw [show q13.2.2.2.2 = q5.2.2.2 from yq13_2]) (by rw [show q13.2.2.2.2 = q5.2.2.2 from yq13_2]) ?_
  have hn : n0 ≤ q13.2.2.2.2.1 ∧ s0 ≤ q13.2.2.2.2.2 := by rw [show q13.2.2.2.2 = q5.2.2.2 from yq13_2]; exact hn
  have hcl : q13.2.2.2.2.1 - n0 ≤ R.cells ∧ q13.2.2.2.2.2 - s0 ≤ R.slots := by rw [show q13.2.2.2.2 = q5.2.2.2 from yq13_2]; exact hcl
  have f16 := ke_X5_sendOutFrom_0 e_q16
  refine q_cV (As := [.int q13.1]) X hh hS hl cf_X5_129 (cN := 5) rfl rfl e_b16 rfl (M_X5_sendOutFrom l D dA base q13.2 b16 q13.1 e_q16) ⟨Nat.le_trans (by decide) hR.1, Nat.le_trans (by decide) hR.2⟩ (cat8 [] (Nat.le_of_ble_eq_true rfl)) dX5_takeData_16 ⟨Nat.le_trans (Nat.le_of_eq (Nat.add_zero _)) hcl.1, Nat.le_trans (Nat.le_of_eq (Nat.add_zero _)) hcl.2⟩ rfl rfl (fun H locs hh hS => ?_)
  refine W.cs (cells' := q13.2.2.2.2.1 - n0) (slots' := q13.2.2.2.2.2 - s0) (Nat.add_zero _) (Nat.add_zero _) ?_
  refine q_aload_n X dX5_takeData_19 rfl hl 1 rfl ?_
  obtain ⟨b20, e_b20, h⟩ := o_b h
  obtain ⟨q20, e_q20, h⟩ := o_b h
  refine q_cV (As := []) X hh hS hl cf_X5_104 (cN := 4) rfl rfl e_b20 rfl (M_X4_x l D dA base q16 b20  e_q20) ⟨Nat.le_trans (by decide) hR.1, Nat.le_trans (by decide) hR.2⟩ (cat8 [] (Nat.le_of_ble_eq_true rfl)) dX5_takeData_20 ⟨Nat.le_trans (Nat.le_of_eq (Nat.add_zero _)) hcl.1, Nat.le_trans (Nat.le_of_eq (Nat.add_zero _)) hcl.2⟩ rfl rfl (fun H locs hh hS => ?_)
  refine W.cs (cells' := q13.2.2.2.2.1 - n0) (slots' := q13.2.2.2.2.2 - s0) (Nat.add_zero _) (Nat.add_zero _) ?_
  refine q_aload_n X dX5_takeData_23 rfl hl 0 rfl ?_
  obtain ⟨t24, e_t24, h⟩ := o_b h
  refine q_gI X hh fa_X5_42 rfl e_t24 dX5_takeData_24 ?_
  refine lv_iconst (v := (1 : Int32)) X.1 X.2.1 dX5_takeData_27 (by decide) ?_
  refine lv_iadd X.1 X.2.1 dX5_takeData_28 ?_
  refine lv_bipush (v := (7 : Int32)) X.1 X.2.1 dX5_takeData_29 (by decide) ?_
  refine lv_iand X.1 X.2.1 dX5_takeData_31 ?_
  refine lv_icmp_eq (tgt := 51) X.1 X.2.1 dX5_takeData_32 (by decide) (fun c32 => ?_) (fun c32 => ?_)
  · rw [if_pos c32] at h
    refine q_aload_n X dX5_takeData_51 rfl hl 0 rfl ?_
    refine q_aload_n X dX5_takeData_52 rfl hl 1 rfl ?_
    obtain ⟨b53, e_b53, h⟩ := o_b h
    obtain ⟨q53, e_q53, h⟩ := o_b h
    refine q_cV (As := []) X hh hS hl cf_X5_104 (cN := 4) rfl rfl e_b53 rfl (M_X4_x l D dA base q16 b53  e_q53) ⟨Nat.le_trans (by decide) hR.1, Nat.le_trans (by decide) hR.2⟩ (cat8 [.inr (some t0)] (Nat.le_of_ble_eq_true rfl)) dX5_takeData_53 ⟨Nat.le_trans (Nat.le_of_eq (Nat.add_zero _)) hcl.1, Nat.le_trans (Nat.le_of_eq (Nat.add_zero _)) hcl.2⟩ rfl rfl (fun H locs hh hS => ?_)
    refine W.cs (cells' := q13.2.2.2.2.1 - n0) (slots' := q13.2.2.2.2.2 - s0) (Nat.add_zero _) (Nat.add_zero _) ?_
    obtain ⟨s56, e_s56, h⟩ := o_b h
    refine q_pI X hh hS fp_X5_42 (fun h => by cases h) rfl e_s56 dX5_takeData_56 (fun H locs hh hS => ?_)
    refine q_aload_n X dX5_takeData_59 rfl hl 0 rfl ?_
    refine lv_iconst (v := (1 : Int32)) X.1 X.2.1 dX5_takeData_60 (by decide) ?_
    obtain ⟨z61, e_z61, h⟩ := o_b h
    obtain ⟨s61, e_s61, h⟩ := o_b h
    refine q_pZ X hh hS fp_X5_45 (fun h => by cases h) rfl e_z61 e_s61 dX5_takeData_61 (fun H locs hh hS => ?_)
    refine q_aload_n X dX5_takeData_64 rfl hl 0 rfl ?_
    obtain ⟨t65, e_t65, h⟩ := o_b h
    refine q_gR X hh fa_X5_61 rfl e_t65 dX5_takeData_65 ?_
    obtain ⟨b68, e_b68, h⟩ := o_b h
    obtain ⟨q68, e_q68, h⟩ := o_b h
    have ys61 : eq4 q13.2 s61 := ((f16).tr (e_pI e_s56)).tr (e_pI e_s61)
    refine W.cs (cells' := s61.2.2.2.1 - n0) (slots' := s61.2.2.2.2 - s0) (by rw [show s61.2.2.2 = q13.2.2.2.2 from ys61]) (by rw [show s61.2.2.2 = q13.2.2.2.2 from ys61]) ?_
    have hn : n0 ≤ s61.2.2.2.1 ∧ s0 ≤ s61.2.2.2.2 := by rw [show s61.2.2.2 = q13.2.2.2.2 from ys61]; exact hn
    have hcl : s61.2.2.2.1 - n0 ≤ R.cells ∧ s61.2.2.2.2 - s0 ≤ R.slots := by rw [show s61.2.2.2 = q13.2.2.2.2 from ys61]; exact hcl
    have f68 := ke_X7_add_0 e_q68
    refine q_cV (As := []) X hh hS hl cf_X5_78 (cN := 7) rfl rfl e_b68 rfl (M_X7_add l D dA base s61 b68  e_q68) ⟨Nat.le_trans (by decide) hR.1, Nat.le_trans (by decide) hR.2⟩ (cat8 [] (Nat.le_of_ble_eq_true rfl)) dX5_takeData_68 ⟨Nat.le_trans (Nat.le_of_eq (Nat.add_zero _)) hcl.1, Nat.le_trans (Nat.le_of_eq (Nat.add_zero _)) hcl.2⟩ rfl rfl (fun H locs hh hS => ?_)
    refine W.cs (cells' := s61.2.2.2.1 - n0) (slots' := s61.2.2.2.2 - s0) (Nat.add_zero _) (Nat.add_zero _) ?_
    refine lv_iconst (v := (4 : Int32)) X.1 X.2.1 dX5_takeData_71 (by decide) ?_
    refine q_aload_n X dX5_takeData_72 rfl hl 0 rfl ?_
    obtain ⟨t73, e_t73, h⟩ := o_b h
    refine q_gI X hh fa_X5_42 rfl e_t73 dX5_takeData_73 ?_
    obtain ⟨b76, e_b76, h⟩ := o_b h
    obtain ⟨q76, e_q76, h⟩ := o_b h
    have yq68_2 : eq4 s61 q68.2 := f68
    refine W.cs (cells' := q68.2.2.2.2.1 - n0) (slots' := q68.2.2.2.2.2 - s0) (by rw [show q68.2.2.2.2 = s61.2.2.2 from yq68_2]) (by rw [show q68.2.2.2.2 = s61.2.2.2 from yq68_2]) ?_
    have hn : n0 ≤ q68.2.2.2.2.1 ∧ s0 ≤ q68.2.2.2.2.2 := by rw [show q68.2.2.2.2 = s61.2.2.2 from yq68_2]; exact hn
    have hcl : q68.2.2.2.2.1 - n0 ≤ R.cells ∧ q68.2.2.2.2.2 - s0 ≤ R.slots := by rw [show q68.2.2.2.2 = s61.2.2.2 from yq68_2]; exact hcl
    have f76 := ke_X4_fillControl_0 e_q76
    refine q_cV (As := [.int (4 : Int32), .int t73]) X hh hS hl cf_X5_86 (cN := 4) rfl rfl e_b76 rfl (M_X4_fillControl l D dA base q68.2 b76 (4 : Int32) t73 e_q76) ⟨Nat.le_trans (by decide) hR.1, Nat.le_trans (by decide) hR.2⟩ (cat8 [] (Nat.le_of_ble_eq_true rfl)) dX5_takeData_76 ⟨Nat.le_trans (Nat.le_of_eq (Nat.add_zero _)) hcl.1, Nat.le_trans (Nat.le_of_eq (Nat.add_zero _)) hcl.2⟩ rfl rfl (fun H locs hh hS => ?_)
    refine W.cs (cells' := q68.2.2.2.2.1 - n0) (slots' := q68.2.2.2.2.2 - s0) (Nat.add_zero _) (Nat.add_zero _) ?_
    refine q_aload_n X dX5_takeData_79 rfl hl 0 rfl ?_
    obtain ⟨t80, e_t80, h⟩ := o_b h
    refine q_gI X hh fa_X5_32 rfl e_t80 dX5_takeData_80 ?_
    refine lv_iconst (v := (2 : Int32)) X.1 X.2.1 dX5_takeData_83 (by decide) ?_
    refine lv_icmp_ne (tgt := 95) X.1 X.2.1 dX5_takeData_84 (by decide) (fun c84 => ?_) (fun c84 => ?_)
    · rw [if_neg c84] at h
      refine q_aload_n X dX5_takeData_95 rfl hl 0 rfl ?_
      refine q_aload_n X dX5_takeData_96 rfl hl 1 rfl ?_
      obtain ⟨b97, e_b97, h⟩ := o_b h
      obtain ⟨q97, e_q97, h⟩ := o_b h
      have yq76 : eq4 q68.2 q76 := f76
      refine W.cs (cells' := q76.2.2.2.1 - n0) (slots' := q76.2.2.2.2 - s0) (by rw [show q76.2.2.2 = q68.2.2.2.2 from yq76]) (by rw [show q76.2.2.2 = q68.2.2.2.2 from yq76]) ?_
      have hn : n0 ≤ q76.2.2.2.1 ∧ s0 ≤ q76.2.2.2.2 := by rw [show q76.2.2.2 = q68.2.2.2.2 from yq76]; exact hn
      have hcl : q76.2.2.2.1 - n0 ≤ R.cells ∧ q76.2.2.2.2 - s0 ≤ R.slots := by rw [show q76.2.2.2 = q68.2.2.2.2 from yq76]; exact hcl
      have f97 := ke_X5_doAsSlave_0 e_q97
      refine q_cV (As := [va_rf v1]) X hh hS hl cf_X5_157 (cN := 5) rfl rfl e_b97 rfl (M_X5_doAsSlave l D dA base q76 b97 v1 e_q97) ⟨Nat.le_trans (by decide) hR.1, Nat.le_trans (by decide) hR.2⟩ (cat8 [] (Nat.le_of_ble_eq_true rfl)) dX5_takeData_97 ⟨Nat.le_trans (Nat.le_of_eq (Nat.add_zero _)) hcl.1, Nat.le_trans (Nat.le_of_eq (Nat.add_zero _)) hcl.2⟩ rfl rfl (fun H locs hh hS => ?_)
      refine W.cs (cells' := q76.2.2.2.1 - n0) (slots' := q76.2.2.2.2 - s0) (Nat.add_zero _) (Nat.add_zero _) ?_
      refine q_aload_n X dX5_takeData_100 rfl hl 0 rfl ?_
      obtain ⟨b101, e_b101, h⟩ := o_b h
      obtain ⟨q101, e_q101, h⟩ := o_b h
      have yq97 : eq4 q76 q97 := f97
      refine W.cs (cells' := q97.2.2.2.1 - n0) (slots' := q97.2.2.2.2 - s0) (by rw [show q97.2.2.2 = q76.2.2.2 from yq97]) (by rw [show q97.2.2.2 = q76.2.2.2 from yq97]) ?_
      have hn : n0 ≤ q97.2.2.2.1 ∧ s0 ≤ q97.2.2.2.2 := by rw [show q97.2.2.2 = q76.2.2.2 from yq97]; exact hn
      have hcl : q97.2.2.2.1 - n0 ≤ R.cells ∧ q97.2.2.2.2 - s0 ≤ R.slots := by rw [show q97.2.2.2 = q76.2.2.2 from yq97]; exact hcl
      have g101 := mo_X5_takeData_104 h
      have f101 := mo_X5_executeWhatIsWhole_0 e_q101
      unfold le4 at g101 f101
      refine q_cV (As := []) X hh hS hl cf_X5_160 (cN := 5) rfl rfl e_b101 rfl (M_X5_executeWhatIsWhole l D dA base q97 b101  e_q101) ⟨Nat.le_trans (by decide) hR.1, Nat.le_trans (by decide) hR.2⟩ (cat8 [] (Nat.le_of_ble_eq_true rfl)) dX5_takeData_101 ⟨by omega, by omega⟩ rfl rfl (fun H locs hh hS => ?_)
      refine W.cs (cells' := q101.2.2.2.1 - n0) (slots' := q101.2.2.2.2 - s0) (by omega) (by omega) ?_
      have hn : n0 ≤ q101.2.2.2.1 ∧ s0 ≤ q101.2.2.2.2 := by omega
      exact K_X5_takeData_104 X hret hlk hR hRc hn hh hS (lk_sub hl [] rfl) h
    · rw [if_pos c84] at h
      refine q_aload_n X dX5_takeData_87 rfl hl 0 rfl ?_
      refine q_aload_n X dX5_takeData_88 rfl hl 1 rfl ?_
      obtain ⟨b89, e_b89, h⟩ := o_b h
      obtain ⟨q89, e_q89, h⟩ := o_b h
      have yq76 : eq4 q68.2 q76 := f76
      refine W.cs (cells' := q76.2.2.2.1 - n0) (slots' := q76.2.2.2.2 - s0) (by rw [show q76.2.2.2 = q68.2.2.2.2 from yq76]) (by rw [show q76.2.2.2 = q68.2.2.2.2 from yq76]) ?_
      have hn : n0 ≤ q76.2.2.2.1 ∧ s0 ≤ q76.2.2.2.2 := by rw [show q76.2.2.2 = q68.2.2.2.2 from yq76]; exact hn
      have hcl : q76.2.2.2.1 - n0 ≤ R.cells ∧ q76.2.2.2.2 - s0 ≤ R.slots := by rw [show q76.2.2.2 = q68.2.2.2.2 from yq76]; exact hcl
      have f89 := ke_X5_doAsMaster_0 e_q89
      refine q_cV (As := [va_rf v1]) X hh hS hl cf_X5_154 (cN := 5) rfl rfl e_b89 rfl (M_X5_doAsMaster l D dA base q76 b89 v1 e_q89) ⟨Nat.le_trans (by decide) hR.1, Nat.le_trans (by decide) hR.2⟩ (cat8 [] (Nat.le_of_ble_eq_true rfl)) dX5_takeData_89 ⟨Nat.le_trans (Nat.le_of_eq (Nat.add_zero _)) hcl.1, Nat.le_trans (Nat.le_of_eq (Nat.add_zero _)) hcl.2⟩ rfl rfl (fun H locs hh hS => ?_)
      refine W.cs (cells' := q76.2.2.2.1 - n0) (slots' := q76.2.2.2.2 - s0) (Nat.add_zero _) (Nat.add_zero _) ?_
      refine lv_goto (tgt := 104) X.1 X.2.1 dX5_takeData_92 (by decide) ?_
      have yq89 : eq4 q76 q89 := f89
      refine W.cs (cells' := q89.2.2.2.1 - n0) (slots' := q89.2.2.2.2 - s0) (by rw [show q89.2.2.2 = q76.2.2.2 from yq89]) (by rw [show q89.2.2.2 = q76.2.2.2 from yq89]) ?_
      have hn : n0 ≤ q89.2.2.2.1 ∧ s0 ≤ q89.2.2.2.2 := by rw [show q89.2.2.2 = q76.2.2.2 from yq89]; exact hn
      have hcl : q89.2.2.2.1 - n0 ≤ R.cells ∧ q89.2.2.2.2 - s0 ≤ R.slots := by rw [show q89.2.2.2 = q76.2.2.2 from yq89]; exact hcl
      exact K_X5_takeData_104 X hret hlk hR hRc hn hh hS (lk_sub hl [] rfl) h
  · rw [if_neg c32] at h
    refine q_aload_n X dX5_takeData_35 rfl hl 0 rfl ?_
    obtain ⟨t36, e_t36, h⟩ := o_b h
    refine q_gR X hh fa_X5_61 rfl e_t36 dX5_takeData_36 ?_
    obtain ⟨b39, e_b39, h⟩ := o_b h
    obtain ⟨q39, e_q39, h⟩ := o_b h
    have yq16 : eq4 q13.2 q16 := f16
    refine W.cs (cells' := q16.2.2.2.1 - n0) (slots' := q16.2.2.2.2 - s0) (by rw [show q16.2.2.2 = q13.2.2.2.2 from yq16]) (by rw [show q16.2.2.2 = q13.2.2.2.2 from yq16]) ?_
    have hn : n0 ≤ q16.2.2.2.1 ∧ s0 ≤ q16.2.2.2.2 := by rw [show q16.2.2.2 = q13.2.2.2.2 from yq16]; exact hn
    have hcl : q16.2.2.2.1 - n0 ≤ R.cells ∧ q16.2.2.2.2 - s0 ≤ R.slots := by rw [show q16.2.2.2 = q13.2.2.2.2 from yq16]; exact hcl
    have f39 := ke_X7_add_0 e_q39
    refine q_cV (As := []) X hh hS hl cf_X5_78 (cN := 7) rfl rfl e_b39 rfl (M_X7_add l D dA base q16 b39  e_q39) ⟨Nat.le_trans (by decide) hR.1, Nat.le_trans (by decide) hR.2⟩ (cat8 [] (Nat.le_of_ble_eq_true rfl)) dX5_takeData_39 ⟨Nat.le_trans (Nat.le_of_eq (Nat.add_zero _)) hcl.1, Nat.le_trans (Nat.le_of_eq (Nat.add_zero _)) hcl.2⟩ rfl rfl (fun H locs hh hS => ?_)
    refine W.cs (cells' := q16.2.2.2.1 - n0) (slots' := q16.2.2.2.2 - s0) (Nat.add_zero _) (Nat.add_zero _) ?_
    refine lv_iconst (v := (4 : Int32)) X.1 X.2.1 dX5_takeData_42 (by decide) ?_
    refine q_aload_n X dX5_takeData_43 rfl hl 0 rfl ?_
    obtain ⟨t44, e_t44, h⟩ := o_b h
    refine q_gI X hh fa_X5_42 rfl e_t44 dX5_takeData_44 ?_
    obtain ⟨b47, e_b47, h⟩ := o_b h
    obtain ⟨q47, e_q47, h⟩ := o_b h
    have yq39_2 : eq4 q16 q39.2 := f39
    refine W.cs (cells' := q39.2.2.2.2.1 - n0) (slots' := q39.2.2.2.2.2 - s0) (by rw [show q39.2.2.2.2 = q16.2.2.2 from yq39_2]) (by rw [show q39.2.2.2.2 = q16.2.2.2 from yq39_2]) ?_
    have hn : n0 ≤ q39.2.2.2.2.1 ∧ s0 ≤ q39.2.2.2.2.2 := by rw [show q39.2.2.2.2 = q16.2.2.2 from yq39_2]; exact hn
    have hcl : q39.2.2.2.2.1 - n0 ≤ R.cells ∧ q39.2.2.2.2.2 - s0 ≤ R.slots := by rw [show q39.2.2.2.2 = q16.2.2.2 from yq39_2]; exact hcl
    have f47 := ke_X4_fillControl_0 e_q47
    refine q_cV (As := [.int (4 : Int32), .int t44]) X hh hS hl cf_X5_86 (cN := 4) rfl rfl e_b47 rfl (M_X4_fillControl l D dA base q39.2 b47 (4 : Int32) t44 e_q47) ⟨Nat.le_trans (by decide) hR.1, Nat.le_trans (by decide) hR.2⟩ (cat8 [] (Nat.le_of_ble_eq_true rfl)) dX5_takeData_47 ⟨Nat.le_trans (Nat.le_of_eq (Nat.add_zero _)) hcl.1, Nat.le_trans (Nat.le_of_eq (Nat.add_zero _)) hcl.2⟩ rfl rfl (fun H locs hh hS => ?_)
    refine W.cs (cells' := q39.2.2.2.2.1 - n0) (slots' := q39.2.2.2.2.2 - s0) (Nat.add_zero _) (Nat.add_zero _) ?_
    have yq47 : eq4 q39.2 q47 := f47
    refine W.cs (cells' := q47.2.2.2.1 - n0) (slots' := q47.2.2.2.2 - s0) (by rw [show q47.2.2.2 = q39.2.2.2.2 from yq47]) (by rw [show q47.2.2.2 = q39.2.2.2.2 from yq47]) ?_
    have hn : n0 ≤ q47.2.2.2.1 ∧ s0 ≤ q47.2.2.2.2 := by rw [show q47.2.2.2 = q39.2.2.2.2 from yq47]; exact hn
    have hcl : q47.2.2.2.1 - n0 ≤ R.cells ∧ q47.2.2.2.2 - s0 ≤ R.slots := by rw [show q47.2.2.2 = q39.2.2.2.2 from yq47]; exact hcl
    cases h
    exact q_vret X hret hlk hh hS dX5_takeData_50
set_option maxRecDepth 100000 in
theorem M_X5_takeData (l : Launch) (D : va_G) (dA : Nat → ClassId) (base : Nat) (σ : hp) (t0 : Nat) (v1 : Option Nat) {z : hp} (h : S_X5_takeData σ t0 v1 = some z) : mt l yX5_takeData cX5_takeData 2 (none) 4 89 D dA base σ [.ref t0, va_rf v1] none z (z.2.2.2.1 - σ.2.2.2.1) (z.2.2.2.2 - σ.2.2.2.2) := by
  have hzz := mo_X5_takeData_0 h
  unfold le4 at hzz
  refine Met.ofW (cc := cX5_takeData) (maxL := 2) (ret := none) (by decide) rfl ?_
  intro p e s m args below meth c s₁ B hml hv
  obtain ⟨rfl, hh, hK⟩ := hv
  have X : cx p s m ([.ref t0, va_rf v1] : List Value).toArray c cX5_takeData RX5 2 D dA := ⟨B.exec, B.bytes, findClass_of_methodNamed B.named, hml, fun w hw => atoms_spec (ws := .code yX5_takeData cX5_takeData 2 (none) :: G) B.pre w (List.mem_cons_of_mem _ hw), hK⟩
  have hl := lk_entry [.inr (some t0), .inr v1] (n := 2) (Nat.le_of_ble_eq_true rfl)
  rw [lg_entry_eq]
  have hl : lk ((lg_sl ([.ref t0, va_rf v1] : List Value) ++ List.replicate (2 - (lg_sl ([.ref t0, va_rf v1] : List Value)).length) Slot.unset).toArray) 2 [(0, .inr (some t0)), (1, .inr v1)] := hl
  generalize (lg_sl ([.ref t0, va_rf v1] : List Value) ++ List.replicate (2 - (lg_sl ([.ref t0, va_rf v1] : List Value)).length) Slot.unset).toArray = ls at hl ⊢
  refine W.cs (cells' := σ.2.2.2.1 - σ.2.2.2.1) (slots' := σ.2.2.2.2 - σ.2.2.2.2) (Nat.sub_self _).symm (Nat.sub_self _).symm ?_
  exact K_X5_takeData_0 X B.returns B.notSynchronized ⟨Nat.le_refl _, Nat.le_refl _⟩ (n0 := σ.2.2.2.1) (s0 := σ.2.2.2.2) ⟨by show _ ≤ _ + (_ - _); omega, by show _ ≤ _ + (_ - _); omega⟩ ⟨Nat.le_refl _, Nat.le_refl _⟩ hh va_S.rf hl h
theorem ke_X5_takeInit_58 {z : hp} {σ : hp} (h : S_X5_takeInit_58 σ = some z) : eq4 σ z := by
  unfold S_X5_takeInit_58 at h
  cases h
  exact eq4.rf _
set_option maxHeartbeats 4000000 in
set_option maxRecDepth 100000 in
theorem K_X5_takeInit_58 {p : Program} {l : Launch} {e : Env} {R : Room} {s : State} {m : MethodId} {args : Array Value} {below : List Frame} {meth : Method} {c : Code} {D : va_G} {dA : Nat → ClassId} {base : Nat} {z : hp} (X : cx p s m args c cX5_takeInit RX5 4 D dA) (hret : meth.sig.returnType = none) (hlk : meth.locks = false) (hR : 2 ≤ R.frames ∧ 48 ≤ R.locals) {σ : hp} {H : Heap} {locs : List Loc} {ls : Array Slot} (hh : hw D dA base σ H) (hS : hs base s.heap H locs) (hl : lk ls 4 []) (h : S_X5_takeInit_58 σ = some z) : W p l e R s m args below meth c H locs 0 0 (MQ below (qG D dA base none z) args s 0 0 (fun q => base ≤ q)) (F0 m 58 ls []) := by
  unfold S_X5_takeInit_58 at h
  cases h
  exact q_vret X hret hlk hh hS dX5_takeInit_58
theorem ke_X5_takeInit_49 {z : hp} {σ : hp} {t0 : Nat} {v1 : Int32} {v2 : Int32} {w0 : Int32} (h : S_X5_takeInit_49 σ t0 v1 v2 w0 = some z) : eq4 σ z := by
  unfold S_X5_takeInit_49 at h
  by_cases c51 : v2 = (0 : Int32)
  · rw [if_pos c51] at h
    by_cases c55 : w0 = (0 : Int32)
    · rw [if_pos c55] at h
      obtain ⟨b61, e_b61, h⟩ := o_b h
      obtain ⟨q61, e_q61, h⟩ := o_b h
      obtain ⟨s66, e_s66, h⟩ := o_b h
      obtain ⟨t70, e_t70, h⟩ := o_b h
      obtain ⟨b73, e_b73, h⟩ := o_b h
      obtain ⟨q73, e_q73, h⟩ := o_b h
      obtain ⟨b78, e_b78, h⟩ := o_b h
      obtain ⟨q78, e_q78, h⟩ := o_b h
      cases h
      exact ((((ke_X5_begin_0 e_q61)).tr (e_pI e_s66)).tr (ke_X7_add_0 e_q73)).tr (ke_X4_fillControl_0 e_q78)
    · rw [if_neg c55] at h
      exact (ke_X5_takeInit_58 h)
  · rw [if_neg c51] at h
    exact (ke_X5_takeInit_58 h)
set_option maxHeartbeats 4000000 in
set_option maxRecDepth 100000 in
theorem K_X5_takeInit_49 {p : Program} {l : Launch} {e : Env} {R : Room} {s : State} {m : MethodId} {args : Array Value} {below : List Frame} {meth : Method} {c : Code} {D : va_G} {dA : Nat → ClassId} {base : Nat} {z : hp} (X : cx p s m args c cX5_takeInit RX5 4 D dA) (hret : meth.sig.returnType = none) (hlk : meth.locks = false) (hR : 2 ≤ R.frames ∧ 48 ≤ R.locals) {σ : hp} {t0 : Nat} {v1 : Int32} {v2 : Int32} {w0 : Int32} {H : Heap} {locs : List Loc} {ls : Array Slot} (hh : hw D dA base σ H) (hS : hs base s.heap H locs) (hl : lk ls 4 [(0, .inr (some t0)), (1, .inl v1), (2, .inl v2)]) (h : S_X5_takeInit_49 σ t0 v1 v2 w0 = some z) : W p l e R s m args below meth c H locs 0 0 (MQ below (qG D dA base none z) args s 0 0 (fun q => base ≤ q)) (F0 m 49 ls [.int w0]) := by
  unfold S_X5_takeInit_49 at h
  refine q_istore_n (lv' := [(3, .inl w0), (0, .inr (some t0)), (1, .inl v1), (2, .inl v2)]) X dX5_takeInit_49 rfl hl (by decide) rfl (fun ls hl => ?_)
  refine q_iload_n X dX5_takeInit_50 rfl hl 3 rfl ?_
  refine lv_if_ne (tgt := 58) X.1 X.2.1 dX5_takeInit_51 (by decide) (fun c51 => ?_) (fun c51 => ?_)
  · rw [if_neg c51] at h
    exact K_X5_takeInit_58 X hret hlk hR hh hS (lk_sub hl [] rfl) h
  · rw [if_pos c51] at h
    refine q_iload_n X dX5_takeInit_54 rfl hl 0 rfl ?_
    refine lv_if_eq (tgt := 59) X.1 X.2.1 dX5_takeInit_55 (by decide) (fun c55 => ?_) (fun c55 => ?_)
    · rw [if_pos c55] at h
      refine q_aload_n X dX5_takeInit_59 rfl hl 1 rfl ?_
      refine lv_iconst (v := (3 : Int32)) X.1 X.2.1 dX5_takeInit_60 (by decide) ?_
      obtain ⟨b61, e_b61, h⟩ := o_b h
      obtain ⟨q61, e_q61, h⟩ := o_b h
      refine q_cV (As := [.int (3 : Int32)]) X hh hS hl cf_X5_71 (cN := 5) rfl rfl e_b61 rfl (M_X5_begin l D dA base σ b61 (3 : Int32) e_q61) ⟨Nat.le_trans (by decide) hR.1, Nat.le_trans (by decide) hR.2⟩ (cat8 [] (Nat.le_of_ble_eq_true rfl)) dX5_takeInit_61 ⟨Nat.zero_le _, Nat.zero_le _⟩ rfl rfl (fun H locs hh hS => ?_)
      refine q_aload_n X dX5_takeInit_64 rfl hl 1 rfl ?_
      refine q_iload_n X dX5_takeInit_65 rfl hl 2 rfl ?_
      obtain ⟨s66, e_s66, h⟩ := o_b h
      refine q_pI X hh hS fp_X5_39 (fun h => by cases h) rfl e_s66 dX5_takeInit_66 (fun H locs hh hS => ?_)
      refine q_aload_n X dX5_takeInit_69 rfl hl 1 rfl ?_
      obtain ⟨t70, e_t70, h⟩ := o_b h
      refine q_gR X hh fa_X5_61 rfl e_t70 dX5_takeInit_70 ?_
      obtain ⟨b73, e_b73, h⟩ := o_b h
      obtain ⟨q73, e_q73, h⟩ := o_b h
      refine q_cV (As := []) X hh hS hl cf_X5_78 (cN := 7) rfl rfl e_b73 rfl (M_X7_add l D dA base s66 b73  e_q73) ⟨Nat.le_trans (by decide) hR.1, Nat.le_trans (by decide) hR.2⟩ (cat8 [] (Nat.le_of_ble_eq_true rfl)) dX5_takeInit_73 ⟨Nat.zero_le _, Nat.zero_le _⟩ rfl rfl (fun H locs hh hS => ?_)
      refine lv_iconst (v := (5 : Int32)) X.1 X.2.1 dX5_takeInit_76 (by decide) ?_
      refine q_iload_n X dX5_takeInit_77 rfl hl 2 rfl ?_
      obtain ⟨b78, e_b78, h⟩ := o_b h
      obtain ⟨q78, e_q78, h⟩ := o_b h
      refine q_cV (As := [.int (5 : Int32), .int v1]) X hh hS hl cf_X5_86 (cN := 4) rfl rfl e_b78 rfl (M_X4_fillControl l D dA base q73.2 b78 (5 : Int32) v1 e_q78) ⟨Nat.le_trans (by decide) hR.1, Nat.le_trans (by decide) hR.2⟩ (cat8 [] (Nat.le_of_ble_eq_true rfl)) dX5_takeInit_78 ⟨Nat.zero_le _, Nat.zero_le _⟩ rfl rfl (fun H locs hh hS => ?_)
      cases h
      exact q_vret X hret hlk hh hS dX5_takeInit_81
    · rw [if_neg c55] at h
      exact K_X5_takeInit_58 X hret hlk hR hh hS (lk_sub hl [] rfl) h
theorem ke_X5_takeInit_48 {z : hp} {σ : hp} {t0 : Nat} {v1 : Int32} {v2 : Int32} (h : S_X5_takeInit_48 σ t0 v1 v2 = some z) : eq4 σ z := by
  unfold S_X5_takeInit_48 at h
  exact (ke_X5_takeInit_49 h)
set_option maxHeartbeats 4000000 in
set_option maxRecDepth 100000 in
theorem K_X5_takeInit_48 {p : Program} {l : Launch} {e : Env} {R : Room} {s : State} {m : MethodId} {args : Array Value} {below : List Frame} {meth : Method} {c : Code} {D : va_G} {dA : Nat → ClassId} {base : Nat} {z : hp} (X : cx p s m args c cX5_takeInit RX5 4 D dA) (hret : meth.sig.returnType = none) (hlk : meth.locks = false) (hR : 2 ≤ R.frames ∧ 48 ≤ R.locals) {σ : hp} {t0 : Nat} {v1 : Int32} {v2 : Int32} {H : Heap} {locs : List Loc} {ls : Array Slot} (hh : hw D dA base σ H) (hS : hs base s.heap H locs) (hl : lk ls 4 [(0, .inr (some t0)), (1, .inl v1), (2, .inl v2)]) (h : S_X5_takeInit_48 σ t0 v1 v2 = some z) : W p l e R s m args below meth c H locs 0 0 (MQ below (qG D dA base none z) args s 0 0 (fun q => base ≤ q)) (F0 m 48 ls []) := by
  unfold S_X5_takeInit_48 at h
  refine lv_iconst (v := (0 : Int32)) X.1 X.2.1 dX5_takeInit_48 (by decide) ?_
  exact K_X5_takeInit_49 X hret hlk hR hh hS (lk_sub hl [0, 1, 2] rfl) h
theorem ke_X5_takeInit_20 {z : hp} {σ : hp} {t0 : Nat} {v1 : Int32} {w0 : Int32} (h : S_X5_takeInit_20 σ t0 v1 w0 = some z) : eq4 σ z := by
  unfold S_X5_takeInit_20 at h
  obtain ⟨t22, e_t22, h⟩ := o_b h
  by_cases c26 : t22 = (3 : Int32)
  · rw [if_pos c26] at h
    obtain ⟨t30, e_t30, h⟩ := o_b h
    by_cases c34 : t30 = v1
    · rw [if_pos c34] at h
      obtain ⟨t38, e_t38, h⟩ := o_b h
      by_cases c41 : t38 = (0 : Int32)
      · rw [if_pos c41] at h
        exact (ke_X5_takeInit_48 h)
      · rw [if_neg c41] at h
        exact (ke_X5_takeInit_49 h)
    · rw [if_neg c34] at h
      exact (ke_X5_takeInit_48 h)
  · rw [if_neg c26] at h
    exact (ke_X5_takeInit_48 h)
set_option maxHeartbeats 4000000 in
set_option maxRecDepth 100000 in
theorem K_X5_takeInit_20 {p : Program} {l : Launch} {e : Env} {R : Room} {s : State} {m : MethodId} {args : Array Value} {below : List Frame} {meth : Method} {c : Code} {D : va_G} {dA : Nat → ClassId} {base : Nat} {z : hp} (X : cx p s m args c cX5_takeInit RX5 4 D dA) (hret : meth.sig.returnType = none) (hlk : meth.locks = false) (hR : 2 ≤ R.frames ∧ 48 ≤ R.locals) {σ : hp} {t0 : Nat} {v1 : Int32} {w0 : Int32} {H : Heap} {locs : List Loc} {ls : Array Slot} (hh : hw D dA base σ H) (hS : hs base s.heap H locs) (hl : lk ls 4 [(0, .inr (some t0)), (1, .inl v1)]) (h : S_X5_takeInit_20 σ t0 v1 w0 = some z) : W p l e R s m args below meth c H locs 0 0 (MQ below (qG D dA base none z) args s 0 0 (fun q => base ≤ q)) (F0 m 20 ls [.int w0]) := by
  unfold S_X5_takeInit_20 at h
  refine q_istore_n (lv' := [(2, .inl w0), (0, .inr (some t0)), (1, .inl v1)]) X dX5_takeInit_20 rfl hl (by decide) rfl (fun ls hl => ?_)
  refine q_aload_n X dX5_takeInit_21 rfl hl 1 rfl ?_
  obtain ⟨t22, e_t22, h⟩ := o_b h
  refine q_gI X hh fa_X5_32 rfl e_t22 dX5_takeInit_22 ?_
  refine lv_iconst (v := (3 : Int32)) X.1 X.2.1 dX5_takeInit_25 (by decide) ?_
  refine lv_icmp_ne (tgt := 48) X.1 X.2.1 dX5_takeInit_26 (by decide) (fun c26 => ?_) (fun c26 => ?_)
  · rw [if_neg c26] at h
    exact K_X5_takeInit_48 X hret hlk hR hh hS (lk_sub hl [1, 2, 0] rfl) h
  · rw [if_pos c26] at h
    refine q_aload_n X dX5_takeInit_29 rfl hl 1 rfl ?_
    obtain ⟨t30, e_t30, h⟩ := o_b h
    refine q_gI X hh fa_X5_39 rfl e_t30 dX5_takeInit_30 ?_
    refine q_iload_n X dX5_takeInit_33 rfl hl 2 rfl ?_
    refine lv_icmp_ne (tgt := 48) X.1 X.2.1 dX5_takeInit_34 (by decide) (fun c34 => ?_) (fun c34 => ?_)
    · rw [if_neg c34] at h
      exact K_X5_takeInit_48 X hret hlk hR hh hS (lk_sub hl [1, 2, 0] rfl) h
    · rw [if_pos c34] at h
      refine q_aload_n X dX5_takeInit_37 rfl hl 1 rfl ?_
      obtain ⟨t38, e_t38, h⟩ := o_b h
      refine q_gI X hh fa_X5_45 rfl e_t38 dX5_takeInit_38 ?_
      refine lv_if_eq (tgt := 48) X.1 X.2.1 dX5_takeInit_41 (by decide) (fun c41 => ?_) (fun c41 => ?_)
      · rw [if_pos c41] at h
        exact K_X5_takeInit_48 X hret hlk hR hh hS (lk_sub hl [1, 2, 0] rfl) h
      · rw [if_neg c41] at h
        refine lv_iconst (v := (1 : Int32)) X.1 X.2.1 dX5_takeInit_44 (by decide) ?_
        refine lv_goto (tgt := 49) X.1 X.2.1 dX5_takeInit_45 (by decide) ?_
        exact K_X5_takeInit_49 X hret hlk hR hh hS (lk_sub hl [1, 2, 0] rfl) h
theorem ke_X5_takeInit_19 {z : hp} {σ : hp} {t0 : Nat} {v1 : Int32} (h : S_X5_takeInit_19 σ t0 v1 = some z) : eq4 σ z := by
  unfold S_X5_takeInit_19 at h
  exact (ke_X5_takeInit_20 h)
set_option maxHeartbeats 4000000 in
set_option maxRecDepth 100000 in
theorem K_X5_takeInit_19 {p : Program} {l : Launch} {e : Env} {R : Room} {s : State} {m : MethodId} {args : Array Value} {below : List Frame} {meth : Method} {c : Code} {D : va_G} {dA : Nat → ClassId} {base : Nat} {z : hp} (X : cx p s m args c cX5_takeInit RX5 4 D dA) (hret : meth.sig.returnType = none) (hlk : meth.locks = false) (hR : 2 ≤ R.frames ∧ 48 ≤ R.locals) {σ : hp} {t0 : Nat} {v1 : Int32} {H : Heap} {locs : List Loc} {ls : Array Slot} (hh : hw D dA base σ H) (hS : hs base s.heap H locs) (hl : lk ls 4 [(0, .inr (some t0)), (1, .inl v1)]) (h : S_X5_takeInit_19 σ t0 v1 = some z) : W p l e R s m args below meth c H locs 0 0 (MQ below (qG D dA base none z) args s 0 0 (fun q => base ≤ q)) (F0 m 19 ls []) := by
  unfold S_X5_takeInit_19 at h
  refine lv_iconst (v := (0 : Int32)) X.1 X.2.1 dX5_takeInit_19 (by decide) ?_
  exact K_X5_takeInit_20 X hret hlk hR hh hS (lk_sub hl [0, 1] rfl) h
theorem ke_X5_takeInit_0 {z : hp} {σ : hp} {t0 : Nat} {v1 : Int32} (h : S_X5_takeInit σ t0 v1 = some z) : eq4 σ z := by
  unfold S_X5_takeInit at h
  obtain ⟨t1, e_t1, h⟩ := o_b h
  by_cases c4 : t1 = (0 : Int32)
  · rw [if_pos c4] at h
    obtain ⟨t8, e_t8, h⟩ := o_b h
    by_cases c12 : t8 = (1 : Int32)
    · rw [if_pos c12] at h
      exact (ke_X5_takeInit_20 h)
    · rw [if_neg c12] at h
      exact (ke_X5_takeInit_19 h)
  · rw [if_neg c4] at h
    exact (ke_X5_takeInit_19 h)
set_option maxHeartbeats 4000000 in
set_option maxRecDepth 100000 in
theorem K_X5_takeInit_0 {p : Program} {l : Launch} {e : Env} {R : Room} {s : State} {m : MethodId} {args : Array Value} {below : List Frame} {meth : Method} {c : Code} {D : va_G} {dA : Nat → ClassId} {base : Nat} {z : hp} (X : cx p s m args c cX5_takeInit RX5 4 D dA) (hret : meth.sig.returnType = none) (hlk : meth.locks = false) (hR : 2 ≤ R.frames ∧ 48 ≤ R.locals) {σ : hp} {t0 : Nat} {v1 : Int32} {H : Heap} {locs : List Loc} {ls : Array Slot} (hh : hw D dA base σ H) (hS : hs base s.heap H locs) (hl : lk ls 4 [(0, .inr (some t0)), (1, .inl v1)]) (h : S_X5_takeInit σ t0 v1 = some z) : W p l e R s m args below meth c H locs 0 0 (MQ below (qG D dA base none z) args s 0 0 (fun q => base ≤ q)) (F0 m 0 ls []) := by
  unfold S_X5_takeInit at h
  refine q_aload_n X dX5_takeInit_0 rfl hl 0 rfl ?_
  obtain ⟨t1, e_t1, h⟩ := o_b h
  refine q_gI X hh fa_X5_58 rfl e_t1 dX5_takeInit_1 ?_
  refine lv_if_ne (tgt := 19) X.1 X.2.1 dX5_takeInit_4 (by decide) (fun c4 => ?_) (fun c4 => ?_)
  · rw [if_neg c4] at h
    exact K_X5_takeInit_19 X hret hlk hR hh hS (lk_sub hl [0, 1] rfl) h
  · rw [if_pos c4] at h
    refine q_aload_n X dX5_takeInit_7 rfl hl 0 rfl ?_
    obtain ⟨t8, e_t8, h⟩ := o_b h
    refine q_gI X hh fa_X5_32 rfl e_t8 dX5_takeInit_8 ?_
    refine lv_iconst (v := (1 : Int32)) X.1 X.2.1 dX5_takeInit_11 (by decide) ?_
    refine lv_icmp_ne (tgt := 19) X.1 X.2.1 dX5_takeInit_12 (by decide) (fun c12 => ?_) (fun c12 => ?_)
    · rw [if_neg c12] at h
      exact K_X5_takeInit_19 X hret hlk hR hh hS (lk_sub hl [0, 1] rfl) h
    · rw [if_pos c12] at h
      refine lv_iconst (v := (1 : Int32)) X.1 X.2.1 dX5_takeInit_15 (by decide) ?_
      refine lv_goto (tgt := 20) X.1 X.2.1 dX5_takeInit_16 (by decide) ?_
      exact K_X5_takeInit_20 X hret hlk hR hh hS (lk_sub hl [0, 1] rfl) h
set_option maxRecDepth 100000 in
theorem M_X5_takeInit (l : Launch) (D : va_G) (dA : Nat → ClassId) (base : Nat) (σ : hp) (t0 : Nat) (v1 : Int32) {z : hp} (h : S_X5_takeInit σ t0 v1 = some z) : mt l yX5_takeInit cX5_takeInit 4 (none) 2 48 D dA base σ [.ref t0, .int v1] none z 0 0 := by
  refine Met.ofW (cc := cX5_takeInit) (maxL := 4) (ret := none) (by decide) rfl ?_
  intro p e s m args below meth c s₁ B hml hv
  obtain ⟨rfl, hh, hK⟩ := hv
  have X : cx p s m ([.ref t0, .int v1] : List Value).toArray c cX5_takeInit RX5 4 D dA := ⟨B.exec, B.bytes, findClass_of_methodNamed B.named, hml, fun w hw => atoms_spec (ws := .code yX5_takeInit cX5_takeInit 4 (none) :: G) B.pre w (List.mem_cons_of_mem _ hw), hK⟩
  have hl := lk_entry [.inr (some t0), .inl v1] (n := 4) (Nat.le_of_ble_eq_true rfl)
  rw [lg_entry_eq]
  have hl : lk ((lg_sl ([.ref t0, .int v1] : List Value) ++ List.replicate (4 - (lg_sl ([.ref t0, .int v1] : List Value)).length) Slot.unset).toArray) 4 [(0, .inr (some t0)), (1, .inl v1)] := hl
  generalize (lg_sl ([.ref t0, .int v1] : List Value) ++ List.replicate (4 - (lg_sl ([.ref t0, .int v1] : List Value)).length) Slot.unset).toArray = ls at hl ⊢
  exact K_X5_takeInit_0 X B.returns B.notSynchronized ⟨Nat.le_refl _, Nat.le_refl _⟩ hh va_S.rf hl h
theorem ke_X5_takeAnswer_25 {z : hp} {σ : hp} (h : S_X5_takeAnswer_25 σ = some z) : eq4 σ z := by
  unfold S_X5_takeAnswer_25 at h
  cases h
  exact eq4.rf _
set_option maxHeartbeats 4000000 in
set_option maxRecDepth 100000 in
theorem K_X5_takeAnswer_25 {p : Program} {l : Launch} {e : Env} {R : Room} {s : State} {m : MethodId} {args : Array Value} {below : List Frame} {meth : Method} {c : Code} {D : va_G} {dA : Nat → ClassId} {base : Nat} {z : hp} (X : cx p s m args c cX5_takeAnswer RX5 2 D dA) (hret : meth.sig.returnType = none) (hlk : meth.locks = false) (hR : 2 ≤ R.frames ∧ 44 ≤ R.locals) {σ : hp} {H : Heap} {locs : List Loc} {ls : Array Slot} (hh : hw D dA base σ H) (hS : hs base s.heap H locs) (hl : lk ls 2 []) (h : S_X5_takeAnswer_25 σ = some z) : W p l e R s m args below meth c H locs 0 0 (MQ below (qG D dA base none z) args s 0 0 (fun q => base ≤ q)) (F0 m 25 ls []) := by
  unfold S_X5_takeAnswer_25 at h
  cases h
  exact q_vret X hret hlk hh hS dX5_takeAnswer_25
theorem ke_X5_takeAnswer_0 {z : hp} {σ : hp} {t0 : Nat} {v1 : Int32} (h : S_X5_takeAnswer σ t0 v1 = some z) : eq4 σ z := by
  unfold S_X5_takeAnswer at h
  obtain ⟨t1, e_t1, h⟩ := o_b h
  by_cases c5 : t1 = (1 : Int32)
  · rw [if_pos c5] at h
    obtain ⟨t9, e_t9, h⟩ := o_b h
    by_cases c13 : t9 = v1
    · rw [if_pos c13] at h
      obtain ⟨b18, e_b18, h⟩ := o_b h
      obtain ⟨q18, e_q18, h⟩ := o_b h
      obtain ⟨b22, e_b22, h⟩ := o_b h
      obtain ⟨q22, e_q22, h⟩ := o_b h
      exact (((ke_X5_begin_0 e_q18)).tr (ke_X5_goOn_0 e_q22)).tr (ke_X5_takeAnswer_25 h)
    · rw [if_neg c13] at h
      exact (ke_X5_takeAnswer_25 h)
  · rw [if_neg c5] at h
    exact (ke_X5_takeAnswer_25 h)
set_option maxHeartbeats 4000000 in
set_option maxRecDepth 100000 in
theorem K_X5_takeAnswer_0 {p : Program} {l : Launch} {e : Env} {R : Room} {s : State} {m : MethodId} {args : Array Value} {below : List Frame} {meth : Method} {c : Code} {D : va_G} {dA : Nat → ClassId} {base : Nat} {z : hp} (X : cx p s m args c cX5_takeAnswer RX5 2 D dA) (hret : meth.sig.returnType = none) (hlk : meth.locks = false) (hR : 2 ≤ R.frames ∧ 44 ≤ R.locals) {σ : hp} {t0 : Nat} {v1 : Int32} {H : Heap} {locs : List Loc} {ls : Array Slot} (hh : hw D dA base σ H) (hS : hs base s.heap H locs) (hl : lk ls 2 [(0, .inr (some t0)), (1, .inl v1)]) (h : S_X5_takeAnswer σ t0 v1 = some z) : W p l e R s m args below meth c H locs 0 0 (MQ below (qG D dA base none z) args s 0 0 (fun q => base ≤ q)) (F0 m 0 ls []) := by
  unfold S_X5_takeAnswer at h
  refine q_aload_n X dX5_takeAnswer_0 rfl hl 0 rfl ?_
  obtain ⟨t1, e_t1, h⟩ := o_b h
  refine q_gI X hh fa_X5_32 rfl e_t1 dX5_takeAnswer_1 ?_
  refine lv_iconst (v := (1 : Int32)) X.1 X.2.1 dX5_takeAnswer_4 (by decide) ?_
  refine lv_icmp_ne (tgt := 25) X.1 X.2.1 dX5_takeAnswer_5 (by decide) (fun c5 => ?_) (fun c5 => ?_)
  · rw [if_neg c5] at h
    exact K_X5_takeAnswer_25 X hret hlk hR hh hS (lk_sub hl [] rfl) h
  · rw [if_pos c5] at h
    refine q_aload_n X dX5_takeAnswer_8 rfl hl 0 rfl ?_
    obtain ⟨t9, e_t9, h⟩ := o_b h
    refine q_gI X hh fa_X5_36 rfl e_t9 dX5_takeAnswer_9 ?_
    refine q_iload_n X dX5_takeAnswer_12 rfl hl 1 rfl ?_
    refine lv_icmp_ne (tgt := 25) X.1 X.2.1 dX5_takeAnswer_13 (by decide) (fun c13 => ?_) (fun c13 => ?_)
    · rw [if_neg c13] at h
      exact K_X5_takeAnswer_25 X hret hlk hR hh hS (lk_sub hl [] rfl) h
    · rw [if_pos c13] at h
      refine q_aload_n X dX5_takeAnswer_16 rfl hl 0 rfl ?_
      refine lv_iconst (v := (2 : Int32)) X.1 X.2.1 dX5_takeAnswer_17 (by decide) ?_
      obtain ⟨b18, e_b18, h⟩ := o_b h
      obtain ⟨q18, e_q18, h⟩ := o_b h
      refine q_cV (As := [.int (2 : Int32)]) X hh hS hl cf_X5_71 (cN := 5) rfl rfl e_b18 rfl (M_X5_begin l D dA base σ b18 (2 : Int32) e_q18) ⟨Nat.le_trans (by decide) hR.1, Nat.le_trans (by decide) hR.2⟩ (cat8 [] (Nat.le_of_ble_eq_true rfl)) dX5_takeAnswer_18 ⟨Nat.zero_le _, Nat.zero_le _⟩ rfl rfl (fun H locs hh hS => ?_)
      refine q_aload_n X dX5_takeAnswer_21 rfl hl 0 rfl ?_
      obtain ⟨b22, e_b22, h⟩ := o_b h
      obtain ⟨q22, e_q22, h⟩ := o_b h
      refine q_cV (As := []) X hh hS hl cf_X5_144 (cN := 5) rfl rfl e_b22 rfl (M_X5_goOn l D dA base q18 b22  e_q22) ⟨Nat.le_trans (by decide) hR.1, Nat.le_trans (by decide) hR.2⟩ (cat8 [] (Nat.le_of_ble_eq_true rfl)) dX5_takeAnswer_22 ⟨Nat.zero_le _, Nat.zero_le _⟩ rfl rfl (fun H locs hh hS => ?_)
      exact K_X5_takeAnswer_25 X hret hlk hR hh hS (lk_sub hl [] rfl) h
set_option maxRecDepth 100000 in
theorem M_X5_takeAnswer (l : Launch) (D : va_G) (dA : Nat → ClassId) (base : Nat) (σ : hp) (t0 : Nat) (v1 : Int32) {z : hp} (h : S_X5_takeAnswer σ t0 v1 = some z) : mt l yX5_takeAnswer cX5_takeAnswer 2 (none) 2 44 D dA base σ [.ref t0, .int v1] none z 0 0 := by
  refine Met.ofW (cc := cX5_takeAnswer) (maxL := 2) (ret := none) (by decide) rfl ?_
  intro p e s m args below meth c s₁ B hml hv
  obtain ⟨rfl, hh, hK⟩ := hv
  have X : cx p s m ([.ref t0, .int v1] : List Value).toArray c cX5_takeAnswer RX5 2 D dA := ⟨B.exec, B.bytes, findClass_of_methodNamed B.named, hml, fun w hw => atoms_spec (ws := .code yX5_takeAnswer cX5_takeAnswer 2 (none) :: G) B.pre w (List.mem_cons_of_mem _ hw), hK⟩
  have hl := lk_entry [.inr (some t0), .inl v1] (n := 2) (Nat.le_of_ble_eq_true rfl)
  rw [lg_entry_eq]
  have hl : lk ((lg_sl ([.ref t0, .int v1] : List Value) ++ List.replicate (2 - (lg_sl ([.ref t0, .int v1] : List Value)).length) Slot.unset).toArray) 2 [(0, .inr (some t0)), (1, .inl v1)] := hl
  generalize (lg_sl ([.ref t0, .int v1] : List Value) ++ List.replicate (2 - (lg_sl ([.ref t0, .int v1] : List Value)).length) Slot.unset).toArray = ls at hl ⊢
  exact K_X5_takeAnswer_0 X B.returns B.notSynchronized ⟨Nat.le_refl _, Nat.le_refl _⟩ hh va_S.rf hl h
theorem ke_X5_takeControl_31 {z : hp} {σ : hp} (h : S_X5_takeControl_31 σ = some z) : eq4 σ z := by
  unfold S_X5_takeControl_31 at h
  cases h
  exact eq4.rf _
set_option maxHeartbeats 4000000 in
set_option maxRecDepth 100000 in
theorem K_X5_takeControl_31 {p : Program} {l : Launch} {e : Env} {R : Room} {s : State} {m : MethodId} {args : Array Value} {below : List Frame} {meth : Method} {c : Code} {D : va_G} {dA : Nat → ClassId} {base : Nat} {z : hp} (X : cx p s m args c cX5_takeControl RX5 3 D dA) (hret : meth.sig.returnType = none) (hlk : meth.locks = false) (hR : 3 ≤ R.frames ∧ 71 ≤ R.locals) {σ : hp} {H : Heap} {locs : List Loc} {ls : Array Slot} (hh : hw D dA base σ H) (hS : hs base s.heap H locs) (hl : lk ls 3 []) (h : S_X5_takeControl_31 σ = some z) : W p l e R s m args below meth c H locs 0 0 (MQ below (qG D dA base none z) args s 0 0 (fun q => base ≤ q)) (F0 m 31 ls []) := by
  unfold S_X5_takeControl_31 at h
  cases h
  exact q_vret X hret hlk hh hS dX5_takeControl_31
theorem ke_X5_takeControl_0 {z : hp} {σ : hp} {t0 : Nat} {v1 : Int32} {v2 : Int32} (h : S_X5_takeControl σ t0 v1 v2 = some z) : eq4 σ z := by
  unfold S_X5_takeControl at h
  by_cases c2 : v1 = (1 : Int32)
  · rw [if_pos c2] at h
    obtain ⟨b7, e_b7, h⟩ := o_b h
    obtain ⟨q7, e_q7, h⟩ := o_b h
    cases h
    exact (ke_X5_begin_0 e_q7)
  · rw [if_neg c2] at h
    obtain ⟨b13, e_b13, h⟩ := o_b h
    obtain ⟨q13, e_q13, h⟩ := o_b h
    by_cases c18 : v1 = (2 : Int32)
    · rw [if_pos c18] at h
      obtain ⟨s23, e_s23, h⟩ := o_b h
      obtain ⟨b28, e_b28, h⟩ := o_b h
      obtain ⟨q28, e_q28, h⟩ := o_b h
      exact ((((ke_X5_takeAcknowledgement_0 e_q13)).tr (e_pI e_s23)).tr (ke_X5_sendOutFrom_0 e_q28)).tr (ke_X5_takeControl_31 h)
    · rw [if_neg c18] at h
      exact ((ke_X5_takeAcknowledgement_0 e_q13)).tr (ke_X5_takeControl_31 h)
set_option maxHeartbeats 4000000 in
set_option maxRecDepth 100000 in
theorem K_X5_takeControl_0 {p : Program} {l : Launch} {e : Env} {R : Room} {s : State} {m : MethodId} {args : Array Value} {below : List Frame} {meth : Method} {c : Code} {D : va_G} {dA : Nat → ClassId} {base : Nat} {z : hp} (X : cx p s m args c cX5_takeControl RX5 3 D dA) (hret : meth.sig.returnType = none) (hlk : meth.locks = false) (hR : 3 ≤ R.frames ∧ 71 ≤ R.locals) {σ : hp} {t0 : Nat} {v1 : Int32} {v2 : Int32} {H : Heap} {locs : List Loc} {ls : Array Slot} (hh : hw D dA base σ H) (hS : hs base s.heap H locs) (hl : lk ls 3 [(0, .inr (some t0)), (1, .inl v1), (2, .inl v2)]) (h : S_X5_takeControl σ t0 v1 v2 = some z) : W p l e R s m args below meth c H locs 0 0 (MQ below (qG D dA base none z) args s 0 0 (fun q => base ≤ q)) (F0 m 0 ls []) := by
  unfold S_X5_takeControl at h
  refine q_iload_n X dX5_takeControl_0 rfl hl 1 rfl ?_
  refine lv_iconst (v := (1 : Int32)) X.1 X.2.1 dX5_takeControl_1 (by decide) ?_
  refine lv_icmp_ne (tgt := 11) X.1 X.2.1 dX5_takeControl_2 (by decide) (fun c2 => ?_) (fun c2 => ?_)
  · rw [if_neg c2] at h
    refine q_aload_n X dX5_takeControl_11 rfl hl 0 rfl ?_
    refine q_iload_n X dX5_takeControl_12 rfl hl 2 rfl ?_
    obtain ⟨b13, e_b13, h⟩ := o_b h
    obtain ⟨q13, e_q13, h⟩ := o_b h
    refine q_cV (As := [.int v2]) X hh hS hl cf_X5_147 (cN := 5) rfl rfl e_b13 rfl (M_X5_takeAcknowledgement l D dA base σ b13 v2 e_q13) ⟨Nat.le_trans (by decide) hR.1, Nat.le_trans (by decide) hR.2⟩ (cat8 [] (Nat.le_of_ble_eq_true rfl)) dX5_takeControl_13 ⟨Nat.zero_le _, Nat.zero_le _⟩ rfl rfl (fun H locs hh hS => ?_)
    refine q_iload_n X dX5_takeControl_16 rfl hl 1 rfl ?_
    refine lv_iconst (v := (2 : Int32)) X.1 X.2.1 dX5_takeControl_17 (by decide) ?_
    refine lv_icmp_ne (tgt := 31) X.1 X.2.1 dX5_takeControl_18 (by decide) (fun c18 => ?_) (fun c18 => ?_)
    · rw [if_neg c18] at h
      exact K_X5_takeControl_31 X hret hlk hR hh hS (lk_sub hl [] rfl) h
    · rw [if_pos c18] at h
      refine q_aload_n X dX5_takeControl_21 rfl hl 0 rfl ?_
      refine lv_iconst (v := (0 : Int32)) X.1 X.2.1 dX5_takeControl_22 (by decide) ?_
      obtain ⟨s23, e_s23, h⟩ := o_b h
      refine q_pI X hh hS fp_X5_49 (fun h => by cases h) rfl e_s23 dX5_takeControl_23 (fun H locs hh hS => ?_)
      refine q_aload_n X dX5_takeControl_26 rfl hl 0 rfl ?_
      refine lv_iconst (v := (0 : Int32)) X.1 X.2.1 dX5_takeControl_27 (by decide) ?_
      obtain ⟨b28, e_b28, h⟩ := o_b h
      obtain ⟨q28, e_q28, h⟩ := o_b h
      refine q_cV (As := [.int (0 : Int32)]) X hh hS hl cf_X5_129 (cN := 5) rfl rfl e_b28 rfl (M_X5_sendOutFrom l D dA base s23 b28 (0 : Int32) e_q28) ⟨Nat.le_trans (by decide) hR.1, Nat.le_trans (by decide) hR.2⟩ (cat8 [] (Nat.le_of_ble_eq_true rfl)) dX5_takeControl_28 ⟨Nat.zero_le _, Nat.zero_le _⟩ rfl rfl (fun H locs hh hS => ?_)
      exact K_X5_takeControl_31 X hret hlk hR hh hS (lk_sub hl [] rfl) h
  · rw [if_pos c2] at h
    refine q_aload_n X dX5_takeControl_5 rfl hl 0 rfl ?_
    refine lv_iconst (v := (0 : Int32)) X.1 X.2.1 dX5_takeControl_6 (by decide) ?_
    obtain ⟨b7, e_b7, h⟩ := o_b h
    obtain ⟨q7, e_q7, h⟩ := o_b h
    refine q_cV (As := [.int (0 : Int32)]) X hh hS hl cf_X5_71 (cN := 5) rfl rfl e_b7 rfl (M_X5_begin l D dA base σ b7 (0 : Int32) e_q7) ⟨Nat.le_trans (by decide) hR.1, Nat.le_trans (by decide) hR.2⟩ (cat8 [] (Nat.le_of_ble_eq_true rfl)) dX5_takeControl_7 ⟨Nat.zero_le _, Nat.zero_le _⟩ rfl rfl (fun H locs hh hS => ?_)
    cases h
    exact q_vret X hret hlk hh hS dX5_takeControl_10
set_option maxRecDepth 100000 in
theorem M_X5_takeControl (l : Launch) (D : va_G) (dA : Nat → ClassId) (base : Nat) (σ : hp) (t0 : Nat) (v1 : Int32) (v2 : Int32) {z : hp} (h : S_X5_takeControl σ t0 v1 v2 = some z) : mt l yX5_takeControl cX5_takeControl 3 (none) 3 71 D dA base σ [.ref t0, .int v1, .int v2] none z 0 0 := by
  refine Met.ofW (cc := cX5_takeControl) (maxL := 3) (ret := none) (by decide) rfl ?_
  intro p e s m args below meth c s₁ B hml hv
  obtain ⟨rfl, hh, hK⟩ := hv
  have X : cx p s m ([.ref t0, .int v1, .int v2] : List Value).toArray c cX5_takeControl RX5 3 D dA := ⟨B.exec, B.bytes, findClass_of_methodNamed B.named, hml, fun w hw => atoms_spec (ws := .code yX5_takeControl cX5_takeControl 3 (none) :: G) B.pre w (List.mem_cons_of_mem _ hw), hK⟩
  have hl := lk_entry [.inr (some t0), .inl v1, .inl v2] (n := 3) (Nat.le_of_ble_eq_true rfl)
  rw [lg_entry_eq]
  have hl : lk ((lg_sl ([.ref t0, .int v1, .int v2] : List Value) ++ List.replicate (3 - (lg_sl ([.ref t0, .int v1, .int v2] : List Value)).length) Slot.unset).toArray) 3 [(0, .inr (some t0)), (1, .inl v1), (2, .inl v2)] := hl
  generalize (lg_sl ([.ref t0, .int v1, .int v2] : List Value) ++ List.replicate (3 - (lg_sl ([.ref t0, .int v1, .int v2] : List Value)).length) Slot.unset).toArray = ls at hl ⊢
  exact K_X5_takeControl_0 X B.returns B.notSynchronized ⟨Nat.le_refl _, Nat.le_refl _⟩ hh va_S.rf hl h
theorem mo_X5_receive_29 {z : Int32 × hp} {σ : hp} (h : S_X5_receive_29 σ = some z) : le4 σ z.2 := by
  unfold S_X5_receive_29 at h
  cases h
  show le4 σ σ
  exact le4.rf _
set_option maxHeartbeats 4000000 in
set_option maxRecDepth 100000 in
theorem K_X5_receive_29 {p : Program} {l : Launch} {e : Env} {R : Room} {s : State} {m : MethodId} {args : Array Value} {below : List Frame} {meth : Method} {c : Code} {D : va_G} {dA : Nat → ClassId} {base : Nat} {z : Int32 × hp} (X : cx p s m args c cX5_receive RX5 3 D dA) (hret : meth.sig.returnType = some .boolean) (hlk : meth.locks = false) (hR : 5 ≤ R.frames ∧ 110 ≤ R.locals) {n0 s0 : Nat} (hRc : z.2.2.2.2.1 ≤ n0 + R.cells ∧ z.2.2.2.2.2 ≤ s0 + R.slots) {σ : hp} {H : Heap} {locs : List Loc} {ls : Array Slot} (hn : n0 ≤ σ.2.2.2.1 ∧ s0 ≤ σ.2.2.2.2) (hh : hw D dA base σ H) (hS : hs base s.heap H locs) (hl : lk ls 3 []) (h : S_X5_receive_29 σ = some z) : W p l e R s m args below meth c H locs (σ.2.2.2.1 - n0) (σ.2.2.2.2 - s0) (MQ below (qG D dA base (some (.int z.1)) z.2) args s (z.2.2.2.2.1 - n0) (z.2.2.2.2.2 - s0) (fun q => base ≤ q)) (F0 m 29 ls []) := by
  have hz0 := mo_X5_receive_29 h
  have hcl : σ.2.2.2.1 - n0 ≤ R.cells ∧ σ.2.2.2.2 - s0 ≤ R.slots := by unfold le4 at hz0; omega
  unfold S_X5_receive_29 at h
  refine lv_iconst (v := (0 : Int32)) X.1 X.2.1 dX5_receive_29 (by decide) ?_
  cases h
  exact q_zret X hret hlk hh hS (by rfl) dX5_receive_30
theorem mo_X5_receive_112 {z : Int32 × hp} {σ : hp} {t0 : Nat} (h : S_X5_receive_112 σ t0 = some z) : le4 σ z.2 := by
  unfold S_X5_receive_112 at h
  obtain ⟨t114, e_t114, h⟩ := o_b h
  obtain ⟨b117, e_b117, h⟩ := o_b h
  obtain ⟨q117, e_q117, h⟩ := o_b h
  obtain ⟨b120, e_b120, h⟩ := o_b h
  obtain ⟨q120, e_q120, h⟩ := o_b h
  cases h
  show le4 σ q120
  exact ((ke_X6_letOut_0 e_q117).le).tr (ke_X5_sendOutFrom_0 e_q120).le
set_option maxHeartbeats 4000000 in
set_option maxRecDepth 100000 in
theorem K_X5_receive_112 {p : Program} {l : Launch} {e : Env} {R : Room} {s : State} {m : MethodId} {args : Array Value} {below : List Frame} {meth : Method} {c : Code} {D : va_G} {dA : Nat → ClassId} {base : Nat} {z : Int32 × hp} (X : cx p s m args c cX5_receive RX5 3 D dA) (hret : meth.sig.returnType = some .boolean) (hlk : meth.locks = false) (hR : 5 ≤ R.frames ∧ 110 ≤ R.locals) {n0 s0 : Nat} (hRc : z.2.2.2.2.1 ≤ n0 + R.cells ∧ z.2.2.2.2.2 ≤ s0 + R.slots) {σ : hp} {t0 : Nat} {H : Heap} {locs : List Loc} {ls : Array Slot} (hn : n0 ≤ σ.2.2.2.1 ∧ s0 ≤ σ.2.2.2.2) (hh : hw D dA base σ H) (hS : hs base s.heap H locs) (hl : lk ls 3 [(0, .inr (some t0))]) (h : S_X5_receive_112 σ t0 = some z) : W p l e R s m args below meth c H locs (σ.2.2.2.1 - n0) (σ.2.2.2.2 - s0) (MQ below (qG D dA base (some (.int z.1)) z.2) args s (z.2.2.2.2.1 - n0) (z.2.2.2.2.2 - s0) (fun q => base ≤ q)) (F0 m 112 ls []) := by
  have hz0 := mo_X5_receive_112 h
  have hcl : σ.2.2.2.1 - n0 ≤ R.cells ∧ σ.2.2.2.2 - s0 ≤ R.slots := by unfold le4 at hz0; omega
  unfold S_X5_receive_112 at h
  refine q_aload_n X dX5_receive_112 rfl hl 0 rfl ?_
  refine q_aload_n X dX5_receive_113 rfl hl 0 rfl ?_
  obtain ⟨t114, e_t114, h⟩ := o_b h
  refine q_gR X hh fa_X5_21 rfl e_t114 dX5_receive_114 ?_
  obtain ⟨b117, e_b117, h⟩ := o_b h
  obtain ⟨q117, e_q117, h⟩ := o_b h
  have f117 := ke_X6_letOut_0 e_q117
  refine q_cV (As := []) X hh hS hl cf_X5_126 (cN := 6) rfl rfl e_b117 rfl (M_X6_letOut l D dA base σ b117  e_q117) ⟨Nat.le_trans (by decide) hR.1, Nat.le_trans (by decide) hR.2⟩ (cat8 [.inr (some t0)] (Nat.le_of_ble_eq_true rfl)) dX5_receive_117 ⟨Nat.le_trans (Nat.le_of_eq (Nat.add_zero _)) hcl.1, Nat.le_trans (Nat.le_of_eq (Nat.add_zero _)) hcl.2⟩ rfl rfl (fun H locs hh hS => ?_)
  refine W.cs (cells' := σ.2.2.2.1 - n0) (slots' := σ.2.2.2.2 - s0) (Nat.add_zero _) (Nat.add_zero _) ?_
  obtain ⟨b120, e_b120, h⟩ := o_b h
  obtain ⟨q120, e_q120, h⟩ := o_b h
  have yq117_2 : eq4 σ q117.2 := f117
  refine W.cs (cells' := q117.2.2.2.2.1 - n0) (slots' := q117.2.2.2.2.2 - s0) (by rw [show q117.2.2.2.2 = σ.2.2.2 from yq117_2]) (by rw [show q117.2.2.2.2 = σ.2.2.2 from yq117_2]) ?_
  have hn : n0 ≤ q117.2.2.2.2.1 ∧ s0 ≤ q117.2.2.2.2.2 := by rw [show q117.2.2.2.2 = σ.2.2.2 from yq117_2]; exact hn
  have hcl : q117.2.2.2.2.1 - n0 ≤ R.cells ∧ q117.2.2.2.2.2 - s0 ≤ R.slots := by rw [show q117.2.2.2.2 = σ.2.2.2 from yq117_2]; exact hcl
  have f120 := ke_X5_sendOutFrom_0 e_q120
  refine q_cV (As := [.int q117.1]) X hh hS hl cf_X5_129 (cN := 5) rfl rfl e_b120 rfl (M_X5_sendOutFrom l D dA base q117.2 b120 q117.1 e_q120) ⟨Nat.le_trans (by decide) hR.1, Nat.le_trans (by decide) hR.2⟩ (cat8 [] (Nat.le_of_ble_eq_true rfl)) dX5_receive_120 ⟨Nat.le_trans (Nat.le_of_eq (Nat.add_zero _)) hcl.1, Nat.le_trans (Nat.le_of_eq (Nat.add_zero _)) hcl.2⟩ rfl rfl (fun H locs hh hS => ?_)
  refine W.cs (cells' := q117.2.2.2.2.1 - n0) (slots' := q117.2.2.2.2.2 - s0) (Nat.add_zero _) (Nat.add_zero _) ?_
  refine lv_iconst (v := (1 : Int32)) X.1 X.2.1 dX5_receive_123 (by decide) ?_
  have yq120 : eq4 q117.2 q120 := f120
  refine W.cs (cells' := q120.2.2.2.1 - n0) (slots' := q120.2.2.2.2 - s0) (by rw [show q120.2.2.2 = q117.2.2.2.2 from yq120]) (by rw [show q120.2.2.2 = q117.2.2.2.2 from yq120]) ?_
  have hn : n0 ≤ q120.2.2.2.1 ∧ s0 ≤ q120.2.2.2.2 := by rw [show q120.2.2.2 = q117.2.2.2.2 from yq120]; exact hn
  have hcl : q120.2.2.2.1 - n0 ≤ R.cells ∧ q120.2.2.2.2 - s0 ≤ R.slots := by rw [show q120.2.2.2 = q117.2.2.2.2 from yq120]; exact hcl
  cases h
  exact q_zret X hret hlk hh hS (by rfl) dX5_receive_124
theorem mo_X5_receive_60 {z : Int32 × hp} {σ : hp} {t0 : Nat} (h : S_X5_receive_60 σ t0 = some z) : le4 σ z.2 := by
  unfold S_X5_receive_60 at h
  exact (mo_X5_receive_112 h)
set_option maxHeartbeats 4000000 in
set_option maxRecDepth 100000 in
theorem K_X5_receive_60 {p : Program} {l : Launch} {e : Env} {R : Room} {s : State} {m : MethodId} {args : Array Value} {below : List Frame} {meth : Method} {c : Code} {D : va_G} {dA : Nat → ClassId} {base : Nat} {z : Int32 × hp} (X : cx p s m args c cX5_receive RX5 3 D dA) (hret : meth.sig.returnType = some .boolean) (hlk : meth.locks = false) (hR : 5 ≤ R.frames ∧ 110 ≤ R.locals) {n0 s0 : Nat} (hRc : z.2.2.2.2.1 ≤ n0 + R.cells ∧ z.2.2.2.2.2 ≤ s0 + R.slots) {σ : hp} {t0 : Nat} {H : Heap} {locs : List Loc} {ls : Array Slot} (hn : n0 ≤ σ.2.2.2.1 ∧ s0 ≤ σ.2.2.2.2) (hh : hw D dA base σ H) (hS : hs base s.heap H locs) (hl : lk ls 3 [(0, .inr (some t0))]) (h : S_X5_receive_60 σ t0 = some z) : W p l e R s m args below meth c H locs (σ.2.2.2.1 - n0) (σ.2.2.2.2 - s0) (MQ below (qG D dA base (some (.int z.1)) z.2) args s (z.2.2.2.2.1 - n0) (z.2.2.2.2.2 - s0) (fun q => base ≤ q)) (F0 m 60 ls []) := by
  have hz0 := mo_X5_receive_60 h
  have hcl : σ.2.2.2.1 - n0 ≤ R.cells ∧ σ.2.2.2.2 - s0 ≤ R.slots := by unfold le4 at hz0; omega
  unfold S_X5_receive_60 at h
  refine lv_goto (tgt := 112) X.1 X.2.1 dX5_receive_60 (by decide) ?_
  exact K_X5_receive_112 X hret hlk hR hRc hn hh hS (lk_sub hl [0] rfl) h
theorem mo_X5_receive_0 {z : Int32 × hp} {σ : hp} {t0 : Nat} {v1 : Option Nat} (h : S_X5_receive σ t0 v1 = some z) : le4 σ z.2 := by
  unfold S_X5_receive at h
  obtain ⟨b1, e_b1, h⟩ := o_b h
  obtain ⟨q1, e_q1, h⟩ := o_b h
  by_cases c4 : q1 = (0 : Int32)
  · rw [if_pos c4] at h
    obtain ⟨b8, e_b8, h⟩ := o_b h
    obtain ⟨q8, e_q8, h⟩ := o_b h
    by_cases c11 : q8 = (0 : Int32)
    · rw [if_pos c11] at h
      exact (mo_X5_receive_29 h)
    · rw [if_neg c11] at h
      obtain ⟨t15, e_t15, h⟩ := o_b h
      obtain ⟨b18, e_b18, h⟩ := o_b h
      obtain ⟨q18, e_q18, h⟩ := o_b h
      obtain ⟨t23, e_t23, h⟩ := o_b h
      obtain ⟨b26, e_b26, h⟩ := o_b h
      obtain ⟨q26, e_q26, h⟩ := o_b h
      exact (((ke_X7_add_0 e_q18).le).tr (ke_X4_fillControl_0 e_q26).le).tr (mo_X5_receive_29 h)
  · rw [if_neg c4] at h
    obtain ⟨s33, e_s33, h⟩ := o_b h
    obtain ⟨b37, e_b37, h⟩ := o_b h
    obtain ⟨q37, e_q37, h⟩ := o_b h
    obtain ⟨b42, e_b42, h⟩ := o_b h
    obtain ⟨q42, e_q42, h⟩ := o_b h
    by_cases c45 : q42 = (0 : Int32)
    · rw [if_pos c45] at h
      by_cases c66 : q37 = (7 : Int32)
      · rw [if_pos c66] at h
        obtain ⟨b71, e_b71, h⟩ := o_b h
        obtain ⟨q71, e_q71, h⟩ := o_b h
        obtain ⟨b74, e_b74, h⟩ := o_b h
        obtain ⟨q74, e_q74, h⟩ := o_b h
        exact (((e_pI e_s33).le).tr (ke_X5_takeInit_0 e_q74).le).tr (mo_X5_receive_112 h)
      · rw [if_neg c66] at h
        by_cases c82 : q37 = (5 : Int32)
        · rw [if_pos c82] at h
          obtain ⟨b87, e_b87, h⟩ := o_b h
          obtain ⟨q87, e_q87, h⟩ := o_b h
          obtain ⟨b90, e_b90, h⟩ := o_b h
          obtain ⟨q90, e_q90, h⟩ := o_b h
          exact (((e_pI e_s33).le).tr (ke_X5_takeAnswer_0 e_q90).le).tr (mo_X5_receive_112 h)
        · rw [if_neg c82] at h
          obtain ⟨b97, e_b97, h⟩ := o_b h
          obtain ⟨q97, e_q97, h⟩ := o_b h
          by_cases c100 : q97 = (0 : Int32)
          · rw [if_pos c100] at h
            exact ((e_pI e_s33).le).tr (mo_X5_receive_112 h)
          · rw [if_neg c100] at h
            obtain ⟨b106, e_b106, h⟩ := o_b h
            obtain ⟨q106, e_q106, h⟩ := o_b h
            obtain ⟨b109, e_b109, h⟩ := o_b h
            obtain ⟨q109, e_q109, h⟩ := o_b h
            exact (((e_pI e_s33).le).tr (ke_X5_takeControl_0 e_q109).le).tr (mo_X5_receive_112 h)
    · rw [if_neg c45] at h
      obtain ⟨b49, e_b49, h⟩ := o_b h
      obtain ⟨q49, e_q49, h⟩ := o_b h
      by_cases c52 : q49 = (0 : Int32)
      · rw [if_pos c52] at h
        exact ((e_pI e_s33).le).tr (mo_X5_receive_112 h)
      · rw [if_neg c52] at h
        obtain ⟨b57, e_b57, h⟩ := o_b h
        obtain ⟨q57, e_q57, h⟩ := o_b h
        exact (((e_pI e_s33).le).tr (mo_X5_takeData_0 e_q57)).tr (mo_X5_receive_60 h)
set_option maxHeartbeats 4000000 in
set_option maxRecDepth 100000 in
theorem K_X5_receive_0 {p : Program} {l : Launch} {e : Env} {R : Room} {s : State} {m : MethodId} {args : Array Value} {below : List Frame} {meth : Method} {c : Code} {D : va_G} {dA : Nat → ClassId} {base : Nat} {z : Int32 × hp} (X : cx p s m args c cX5_receive RX5 3 D dA) (hret : meth.sig.returnType = some .boolean) (hlk : meth.locks = false) (hR : 5 ≤ R.frames ∧ 110 ≤ R.locals) {n0 s0 : Nat} (hRc : z.2.2.2.2.1 ≤ n0 + R.cells ∧ z.2.2.2.2.2 ≤ s0 + R.slots) {σ : hp} {t0 : Nat} {v1 : Option Nat} {H : Heap} {locs : List Loc} {ls : Array Slot} (hn : n0 ≤ σ.2.2.2.1 ∧ s0 ≤ σ.2.2.2.2) (hh : hw D dA base σ H) (hS : hs base s.heap H locs) (hl : lk ls 3 [(0, .inr (some t0)), (1, .inr v1)]) (h : S_X5_receive σ t0 v1 = some z) : W p l e R s m args below meth c H locs (σ.2.2.2.1 - n0) (σ.2.2.2.2 - s0) (MQ below (qG D dA base (some (.int z.1)) z.2) args s (z.2.2.2.2.1 - n0) (z.2.2.2.2.2 - s0) (fun q => base ≤ q)) (F0 m 0 ls []) := by
  have hz0 := mo_X5_receive_0 h
  have hcl : σ.2.2.2.1 - n0 ≤ R.cells ∧ σ.2.2.2.2 - s0 ≤ R.slots := by unfold le4 at hz0; omega
  unfold S_X5_receive at h
  refine q_aload_n X dX5_receive_0 rfl hl 1 rfl ?_
  obtain ⟨b1, e_b1, h⟩ := o_b h
  obtain ⟨q1, e_q1, h⟩ := o_b h
  refine q_cV (As := []) X hh hS hl cf_X5_101 (cN := 4) rfl rfl e_b1 rfl (M_X4_isGood l D dA base σ b1  e_q1) ⟨Nat.le_trans (by decide) hR.1, Nat.le_trans (by decide) hR.2⟩ (cat8 [] (Nat.le_of_ble_eq_true rfl)) dX5_receive_1 ⟨Nat.le_trans (Nat.le_of_eq (Nat.add_zero _)) hcl.1, Nat.le_trans (Nat.le_of_eq (Nat.add_zero _)) hcl.2⟩ rfl rfl (fun H locs hh hS => ?_)
  refine W.cs (cells' := σ.2.2.2.1 - n0) (slots' := σ.2.2.2.2 - s0) (Nat.add_zero _) (Nat.add_zero _) ?_
  refine lv_if_ne (tgt := 31) X.1 X.2.1 dX5_receive_4 (by decide) (fun c4 => ?_) (fun c4 => ?_)
  · rw [if_neg c4] at h
    refine q_aload_n X dX5_receive_31 rfl hl 0 rfl ?_
    refine lv_iconst (v := (0 : Int32)) X.1 X.2.1 dX5_receive_32 (by decide) ?_
    obtain ⟨s33, e_s33, h⟩ := o_b h
    refine q_pI X hh hS fp_X5_55 (fun h => by cases h) rfl e_s33 dX5_receive_33 (fun H locs hh hS => ?_)
    refine q_aload_n X dX5_receive_36 rfl hl 1 rfl ?_
    obtain ⟨b37, e_b37, h⟩ := o_b h
    obtain ⟨q37, e_q37, h⟩ := o_b h
    refine q_cV (As := []) X hh hS hl cf_X5_104 (cN := 4) rfl rfl e_b37 rfl (M_X4_x l D dA base s33 b37  e_q37) ⟨Nat.le_trans (by decide) hR.1, Nat.le_trans (by decide) hR.2⟩ (cat8 [] (Nat.le_of_ble_eq_true rfl)) dX5_receive_37 ⟨Nat.le_trans (Nat.le_of_eq (Nat.add_zero _)) hcl.1, Nat.le_trans (Nat.le_of_eq (Nat.add_zero _)) hcl.2⟩ rfl rfl (fun H locs hh hS => ?_)
    refine W.cs (cells' := σ.2.2.2.1 - n0) (slots' := σ.2.2.2.2 - s0) (Nat.add_zero _) (Nat.add_zero _) ?_
    refine q_istore_n (lv' := [(2, .inl q37), (0, .inr (some t0)), (1, .inr v1)]) X dX5_receive_40 rfl hl (by decide) rfl (fun ls hl => ?_)
    refine q_aload_n X dX5_receive_41 rfl hl 2 rfl ?_
    obtain ⟨b42, e_b42, h⟩ := o_b h
    obtain ⟨q42, e_q42, h⟩ := o_b h
    refine q_cV (As := []) X hh hS hl cf_X5_107 (cN := 4) rfl rfl e_b42 rfl (M_X4_isData l D dA base s33 b42  e_q42) ⟨Nat.le_trans (by decide) hR.1, Nat.le_trans (by decide) hR.2⟩ (cat8 [] (Nat.le_of_ble_eq_true rfl)) dX5_receive_42 ⟨Nat.le_trans (Nat.le_of_eq (Nat.add_zero _)) hcl.1, Nat.le_trans (Nat.le_of_eq (Nat.add_zero _)) hcl.2⟩ rfl rfl (fun H locs hh hS => ?_)
    refine W.cs (cells' := σ.2.2.2.1 - n0) (slots' := σ.2.2.2.2 - s0) (Nat.add_zero _) (Nat.add_zero _) ?_
    refine lv_if_eq (tgt := 63) X.1 X.2.1 dX5_receive_45 (by decide) (fun c45 => ?_) (fun c45 => ?_)
    · rw [if_pos c45] at h
      refine q_iload_n X dX5_receive_63 rfl hl 0 rfl ?_
      refine lv_bipush (v := (7 : Int32)) X.1 X.2.1 dX5_receive_64 (by decide) ?_
      refine lv_icmp_ne (tgt := 80) X.1 X.2.1 dX5_receive_66 (by decide) (fun c66 => ?_) (fun c66 => ?_)
      · rw [if_neg c66] at h
        refine q_iload_n X dX5_receive_80 rfl hl 0 rfl ?_
        refine lv_iconst (v := (5 : Int32)) X.1 X.2.1 dX5_receive_81 (by decide) ?_
        refine lv_icmp_ne (tgt := 96) X.1 X.2.1 dX5_receive_82 (by decide) (fun c82 => ?_) (fun c82 => ?_)
        · rw [if_neg c82] at h
          refine q_aload_n X dX5_receive_96 rfl hl 1 rfl ?_
          obtain ⟨b97, e_b97, h⟩ := o_b h
          obtain ⟨q97, e_q97, h⟩ := o_b h
          refine q_cV (As := []) X hh hS hl cf_X5_97 (cN := 5) rfl rfl e_b97 rfl (M_X5_isOpen l D dA base s33 b97  e_q97) ⟨Nat.le_trans (by decide) hR.1, Nat.le_trans (by decide) hR.2⟩ (cat8 [] (Nat.le_of_ble_eq_true rfl)) dX5_receive_97 ⟨Nat.le_trans (Nat.le_of_eq (Nat.add_zero _)) hcl.1, Nat.le_trans (Nat.le_of_eq (Nat.add_zero _)) hcl.2⟩ rfl rfl (fun H locs hh hS => ?_)
          refine W.cs (cells' := σ.2.2.2.1 - n0) (slots' := σ.2.2.2.2 - s0) (Nat.add_zero _) (Nat.add_zero _) ?_
          refine lv_if_eq (tgt := 112) X.1 X.2.1 dX5_receive_100 (by decide) (fun c100 => ?_) (fun c100 => ?_)
          · rw [if_pos c100] at h
            have ys33 : eq4 σ s33 := (e_pI e_s33)
            refine W.cs (cells' := s33.2.2.2.1 - n0) (slots' := s33.2.2.2.2 - s0) (by rw [show s33.2.2.2 = σ.2.2.2 from ys33]) (by rw [show s33.2.2.2 = σ.2.2.2 from ys33]) ?_
            have hn : n0 ≤ s33.2.2.2.1 ∧ s0 ≤ s33.2.2.2.2 := by rw [show s33.2.2.2 = σ.2.2.2 from ys33]; exact hn
            have hcl : s33.2.2.2.1 - n0 ≤ R.cells ∧ s33.2.2.2.2 - s0 ≤ R.slots := by rw [show s33.2.2.2 = σ.2.2.2 from ys33]; exact hcl
            exact K_X5_receive_112 X hret hlk hR hRc hn hh hS (lk_sub hl [1] rfl) h
          · rw [if_neg c100] at h
            refine q_aload_n X dX5_receive_103 rfl hl 1 rfl ?_
            refine q_iload_n X dX5_receive_104 rfl hl 0 rfl ?_
            refine q_aload_n X dX5_receive_105 rfl hl 2 rfl ?_
            obtain ⟨b106, e_b106, h⟩ := o_b h
            obtain ⟨q106, e_q106, h⟩ := o_b h
            refine q_cV (As := []) X hh hS hl cf_X5_114 (cN := 4) rfl rfl e_b106 rfl (M_X4_y l D dA base s33 b106  e_q106) ⟨Nat.le_trans (by decide) hR.1, Nat.le_trans (by decide) hR.2⟩ (cat8 [.inl q37, .inr (some t0)] (Nat.le_of_ble_eq_true rfl)) dX5_receive_106 ⟨Nat.le_trans (Nat.le_of_eq (Nat.add_zero _)) hcl.1, Nat.le_trans (Nat.le_of_eq (Nat.add_zero _)) hcl.2⟩ rfl rfl (fun H locs hh hS => ?_)
            refine W.cs (cells' := σ.2.2.2.1 - n0) (slots' := σ.2.2.2.2 - s0) (Nat.add_zero _) (Nat.add_zero _) ?_
            obtain ⟨b109, e_b109, h⟩ := o_b h
            obtain ⟨q109, e_q109, h⟩ := o_b h
            have ys33 : eq4 σ s33 := (e_pI e_s33)
            refine W.cs (cells' := s33.2.2.2.1 - n0) (slots' := s33.2.2.2.2 - s0) (by rw [show s33.2.2.2 = σ.2.2.2 from ys33]) (by rw [show s33.2.2.2 = σ.2.2.2 from ys33]) ?_
            have hn : n0 ≤ s33.2.2.2.1 ∧ s0 ≤ s33.2.2.2.2 := by rw [show s33.2.2.2 = σ.2.2.2 from ys33]; exact hn
            have hcl : s33.2.2.2.1 - n0 ≤ R.cells ∧ s33.2.2.2.2 - s0 ≤ R.slots := by rw [show s33.2.2.2 = σ.2.2.2 from ys33]; exact hcl
            have f109 := ke_X5_takeControl_0 e_q109
            refine q_cV (As := [.int q37, .int q106]) X hh hS hl cf_X5_123 (cN := 5) rfl rfl e_b109 rfl (M_X5_takeControl l D dA base s33 b109 q37 q106 e_q109) ⟨Nat.le_trans (by decide) hR.1, Nat.le_trans (by decide) hR.2⟩ (cat8 [] (Nat.le_of_ble_eq_true rfl)) dX5_receive_109 ⟨Nat.le_trans (Nat.le_of_eq (Nat.add_zero _)) hcl.1, Nat.le_trans (Nat.le_of_eq (Nat.add_zero _)) hcl.2⟩ rfl rfl (fun H locs hh hS => ?_)
            refine W.cs (cells' := s33.2.2.2.1 - n0) (slots' := s33.2.2.2.2 - s0) (Nat.add_zero _) (Nat.add_zero _) ?_
            have yq109 : eq4 s33 q109 := f109
            refine W.cs (cells' := q109.2.2.2.1 - n0) (slots' := q109.2.2.2.2 - s0) (by rw [show q109.2.2.2 = s33.2.2.2 from yq109]) (by rw [show q109.2.2.2 = s33.2.2.2 from yq109]) ?_
            have hn : n0 ≤ q109.2.2.2.1 ∧ s0 ≤ q109.2.2.2.2 := by rw [show q109.2.2.2 = s33.2.2.2 from yq109]; exact hn
            have hcl : q109.2.2.2.1 - n0 ≤ R.cells ∧ q109.2.2.2.2 - s0 ≤ R.slots := by rw [show q109.2.2.2 = s33.2.2.2 from yq109]; exact hcl
            exact K_X5_receive_112 X hret hlk hR hRc hn hh hS (lk_sub hl [1] rfl) h
        · rw [if_pos c82] at h
          refine q_aload_n X dX5_receive_85 rfl hl 1 rfl ?_
          refine q_aload_n X dX5_receive_86 rfl hl 2 rfl ?_
          obtain ⟨b87, e_b87, h⟩ := o_b h
          obtain ⟨q87, e_q87, h⟩ := o_b h
          refine q_cV (As := []) X hh hS hl cf_X5_114 (cN := 4) rfl rfl e_b87 rfl (M_X4_y l D dA base s33 b87  e_q87) ⟨Nat.le_trans (by decide) hR.1, Nat.le_trans (by decide) hR.2⟩ (cat8 [.inr (some t0)] (Nat.le_of_ble_eq_true rfl)) dX5_receive_87 ⟨Nat.le_trans (Nat.le_of_eq (Nat.add_zero _)) hcl.1, Nat.le_trans (Nat.le_of_eq (Nat.add_zero _)) hcl.2⟩ rfl rfl (fun H locs hh hS => ?_)
          refine W.cs (cells' := σ.2.2.2.1 - n0) (slots' := σ.2.2.2.2 - s0) (Nat.add_zero _) (Nat.add_zero _) ?_
          obtain ⟨b90, e_b90, h⟩ := o_b h
          obtain ⟨q90, e_q90, h⟩ := o_b h
          have ys33 : eq4 σ s33 := (e_pI e_s33)
          refine W.cs (cells' := s33.2.2.2.1 - n0) (slots' := s33.2.2.2.2 - s0) (by rw [show s33.2.2.2 = σ.2.2.2 from ys33]) (by rw [show s33.2.2.2 = σ.2.2.2 from ys33]) ?_
          have hn : n0 ≤ s33.2.2.2.1 ∧ s0 ≤ s33.2.2.2.2 := by rw [show s33.2.2.2 = σ.2.2.2 from ys33]; exact hn
          have hcl : s33.2.2.2.1 - n0 ≤ R.cells ∧ s33.2.2.2.2 - s0 ≤ R.slots := by rw [show s33.2.2.2 = σ.2.2.2 from ys33]; exact hcl
          have f90 := ke_X5_takeAnswer_0 e_q90
          refine q_cV (As := [.int q87]) X hh hS hl cf_X5_120 (cN := 5) rfl rfl e_b90 rfl (M_X5_takeAnswer l D dA base s33 b90 q87 e_q90) ⟨Nat.le_trans (by decide) hR.1, Nat.le_trans (by decide) hR.2⟩ (cat8 [] (Nat.le_of_ble_eq_true rfl)) dX5_receive_90 ⟨Nat.le_trans (Nat.le_of_eq (Nat.add_zero _)) hcl.1, Nat.le_trans (Nat.le_of_eq (Nat.add_zero _)) hcl.2⟩ rfl rfl (fun H locs hh hS => ?_)
          refine W.cs (cells' := s33.2.2.2.1 - n0) (slots' := s33.2.2.2.2 - s0) (Nat.add_zero _) (Nat.add_zero _) ?_
          refine lv_goto (tgt := 112) X.1 X.2.1 dX5_receive_93 (by decide) ?_
          have yq90 : eq4 s33 q90 := f90
          refine W.cs (cells' := q90.2.2.2.1 - n0) (slots' := q90.2.2.2.2 - s0) (by rw [show q90.2.2.2 = s33.2.2.2 from yq90]) (by rw [show q90.2.2.2 = s33.2.2.2 from yq90]) ?_
          have hn : n0 ≤ q90.2.2.2.1 ∧ s0 ≤ q90.2.2.2.2 := by rw [show q90.2.2.2 = s33.2.2.2 from yq90]; exact hn
          have hcl : q90.2.2.2.1 - n0 ≤ R.cells ∧ q90.2.2.2.2 - s0 ≤ R.slots := by rw [show q90.2.2.2 = s33.2.2.2 from yq90]; exact hcl
          exact K_X5_receive_112 X hret hlk hR hRc hn hh hS (lk_sub hl [1] rfl) h
      · rw [if_pos c66] at h
        refine q_aload_n X dX5_receive_69 rfl hl 1 rfl ?_
        refine q_aload_n X dX5_receive_70 rfl hl 2 rfl ?_
        obtain ⟨b71, e_b71, h⟩ := o_b h
        obtain ⟨q71, e_q71, h⟩ := o_b h
        refine q_cV (As := []) X hh hS hl cf_X5_114 (cN := 4) rfl rfl e_b71 rfl (M_X4_y l D dA base s33 b71  e_q71) ⟨Nat.le_trans (by decide) hR.1, Nat.le_trans (by decide) hR.2⟩ (cat8 [.inr (some t0)] (Nat.le_of_ble_eq_true rfl)) dX5_receive_71 ⟨Nat.le_trans (Nat.le_of_eq (Nat.add_zero _)) hcl.1, Nat.le_trans (Nat.le_of_eq (Nat.add_zero _)) hcl.2⟩ rfl rfl (fun H locs hh hS => ?_)
        refine W.cs (cells' := σ.2.2.2.1 - n0) (slots' := σ.2.2.2.2 - s0) (Nat.add_zero _) (Nat.add_zero _) ?_
        obtain ⟨b74, e_b74, h⟩ := o_b h
        obtain ⟨q74, e_q74, h⟩ := o_b h
        have ys33 : eq4 σ s33 := (e_pI e_s33)
        refine W.cs (cells' := s33.2.2.2.1 - n0) (slots' := s33.2.2.2.2 - s0) (by rw [show s33.2.2.2 = σ.2.2.2 from ys33]) (by rw [show s33.2.2.2 = σ.2.2.2 from ys33]) ?_
        have hn : n0 ≤ s33.2.2.2.1 ∧ s0 ≤ s33.2.2.2.2 := by rw [show s33.2.2.2 = σ.2.2.2 from ys33]; exact hn
        have hcl : s33.2.2.2.1 - n0 ≤ R.cells ∧ s33.2.2.2.2 - s0 ≤ R.slots := by rw [show s33.2.2.2 = σ.2.2.2 from ys33]; exact hcl
        have f74 := ke_X5_takeInit_0 e_q74
        refine q_cV (As := [.int q71]) X hh hS hl cf_X5_117 (cN := 5) rfl rfl e_b74 rfl (M_X5_takeInit l D dA base s33 b74 q71 e_q74) ⟨Nat.le_trans (by decide) hR.1, Nat.le_trans (by decide) hR.2⟩ (cat8 [] (Nat.le_of_ble_eq_true rfl)) dX5_receive_74 ⟨Nat.le_trans (Nat.le_of_eq (Nat.add_zero _)) hcl.1, Nat.le_trans (Nat.le_of_eq (Nat.add_zero _)) hcl.2⟩ rfl rfl (fun H locs hh hS => ?_)
        refine W.cs (cells' := s33.2.2.2.1 - n0) (slots' := s33.2.2.2.2 - s0) (Nat.add_zero _) (Nat.add_zero _) ?_
        refine lv_goto (tgt := 112) X.1 X.2.1 dX5_receive_77 (by decide) ?_
        have yq74 : eq4 s33 q74 := f74
        refine W.cs (cells' := q74.2.2.2.1 - n0) (slots' := q74.2.2.2.2 - s0) (by rw [show q74.2.2.2 = s33.2.2.2 from yq74]) (by rw [show q74.2.2.2 = s33.2.2.2 from yq74]) ?_
        have hn : n0 ≤ q74.2.2.2.1 ∧ s0 ≤ q74.2.2.2.2 := by rw [show q74.2.2.2 = s33.2.2.2 from yq74]; exact hn
        have hcl : q74.2.2.2.1 - n0 ≤ R.cells ∧ q74.2.2.2.2 - s0 ≤ R.slots := by rw [show q74.2.2.2 = s33.2.2.2 from yq74]; exact hcl
        exact K_X5_receive_112 X hret hlk hR hRc hn hh hS (lk_sub hl [1] rfl) h
    · rw [if_neg c45] at h
      refine q_aload_n X dX5_receive_48 rfl hl 1 rfl ?_
      obtain ⟨b49, e_b49, h⟩ := o_b h
      obtain ⟨q49, e_q49, h⟩ := o_b h
      refine q_cV (As := []) X hh hS hl cf_X5_97 (cN := 5) rfl rfl e_b49 rfl (M_X5_isOpen l D dA base s33 b49  e_q49) ⟨Nat.le_trans (by decide) hR.1, Nat.le_trans (by decide) hR.2⟩ (cat8 [] (Nat.le_of_ble_eq_true rfl)) dX5_receive_49 ⟨Nat.le_trans (Nat.le_of_eq (Nat.add_zero _)) hcl.1, Nat.le_trans (Nat.le_of_eq (Nat.add_zero _)) hcl.2⟩ rfl rfl (fun H locs hh hS => ?_)
      refine W.cs (cells' := σ.2.2.2.1 - n0) (slots' := σ.2.2.2.2 - s0) (Nat.add_zero _) (Nat.add_zero _) ?_
      refine lv_if_eq (tgt := 112) X.1 X.2.1 dX5_receive_52 (by decide) (fun c52 => ?_) (fun c52 => ?_)
      · rw [if_pos c52] at h
        have ys33 : eq4 σ s33 := (e_pI e_s33)
        refine W.cs (cells' := s33.2.2.2.1 - n0) (slots' := s33.2.2.2.2 - s0) (by rw [show s33.2.2.2 = σ.2.2.2 from ys33]) (by rw [show s33.2.2.2 = σ.2.2.2 from ys33]) ?_
        have hn : n0 ≤ s33.2.2.2.1 ∧ s0 ≤ s33.2.2.2.2 := by rw [show s33.2.2.2 = σ.2.2.2 from ys33]; exact hn
        have hcl : s33.2.2.2.1 - n0 ≤ R.cells ∧ s33.2.2.2.2 - s0 ≤ R.slots := by rw [show s33.2.2.2 = σ.2.2.2 from ys33]; exact hcl
        exact K_X5_receive_112 X hret hlk hR hRc hn hh hS (lk_sub hl [1] rfl) h
      · rw [if_neg c52] at h
        refine q_aload_n X dX5_receive_55 rfl hl 1 rfl ?_
        refine q_aload_n X dX5_receive_56 rfl hl 2 rfl ?_
        obtain ⟨b57, e_b57, h⟩ := o_b h
        obtain ⟨q57, e_q57, h⟩ := o_b h
        have ys33 : eq4 σ s33 := (e_pI e_s33)
        refine W.cs (cells' := s33.2.2.2.1 - n0) (slots' := s33.2.2.2.2 - s0) (by rw [show s33.2.2.2 = σ.2.2.2 from ys33]) (by rw [show s33.2.2.2 = σ.2.2.2 from ys33]) ?_
        have hn : n0 ≤ s33.2.2.2.1 ∧ s0 ≤ s33.2.2.2.2 := by rw [show s33.2.2.2 = σ.2.2.2 from ys33]; exact hn
        have hcl : s33.2.2.2.1 - n0 ≤ R.cells ∧ s33.2.2.2.2 - s0 ≤ R.slots := by rw [show s33.2.2.2 = σ.2.2.2 from ys33]; exact hcl
        have g57 := mo_X5_receive_60 h
        have f57 := mo_X5_takeData_0 e_q57
        unfold le4 at g57 f57
        refine q_cV (As := [va_rf v1]) X hh hS hl cf_X5_110 (cN := 5) rfl rfl e_b57 rfl (M_X5_takeData l D dA base s33 b57 v1 e_q57) ⟨Nat.le_trans (by decide) hR.1, Nat.le_trans (by decide) hR.2⟩ (cat8 [] (Nat.le_of_ble_eq_true rfl)) dX5_receive_57 ⟨by omega, by omega⟩ rfl rfl (fun H locs hh hS => ?_)
        refine W.cs (cells' := q57.2.2.2.1 - n0) (slots' := q57.2.2.2.2 - s0) (by omega) (by omega) ?_
        have hn : n0 ≤ q57.2.2.2.1 ∧ s0 ≤ q57.2.2.2.2 := by omega
        exact K_X5_receive_60 X hret hlk hR hRc hn hh hS (lk_sub hl [1] rfl) h
  · rw [if_pos c4] at h
    refine q_aload_n X dX5_receive_7 rfl hl 0 rfl ?_
    obtain ⟨b8, e_b8, h⟩ := o_b h
    obtain ⟨q8, e_q8, h⟩ := o_b h
    refine q_cV (As := []) X hh hS hl cf_X5_97 (cN := 5) rfl rfl e_b8 rfl (M_X5_isOpen l D dA base σ b8  e_q8) ⟨Nat.le_trans (by decide) hR.1, Nat.le_trans (by decide) hR.2⟩ (cat8 [] (Nat.le_of_ble_eq_true rfl)) dX5_receive_8 ⟨Nat.le_trans (Nat.le_of_eq (Nat.add_zero _)) hcl.1, Nat.le_trans (Nat.le_of_eq (Nat.add_zero _)) hcl.2⟩ rfl rfl (fun H locs hh hS => ?_)
    refine W.cs (cells' := σ.2.2.2.1 - n0) (slots' := σ.2.2.2.2 - s0) (Nat.add_zero _) (Nat.add_zero _) ?_
    refine lv_if_eq (tgt := 29) X.1 X.2.1 dX5_receive_11 (by decide) (fun c11 => ?_) (fun c11 => ?_)
    · rw [if_pos c11] at h
      exact K_X5_receive_29 X hret hlk hR hRc hn hh hS (lk_sub hl [] rfl) h
    · rw [if_neg c11] at h
      refine q_aload_n X dX5_receive_14 rfl hl 0 rfl ?_
      obtain ⟨t15, e_t15, h⟩ := o_b h
      refine q_gR X hh fa_X5_61 rfl e_t15 dX5_receive_15 ?_
      obtain ⟨b18, e_b18, h⟩ := o_b h
      obtain ⟨q18, e_q18, h⟩ := o_b h
      have f18 := ke_X7_add_0 e_q18
      refine q_cV (As := []) X hh hS hl cf_X5_78 (cN := 7) rfl rfl e_b18 rfl (M_X7_add l D dA base σ b18  e_q18) ⟨Nat.le_trans (by decide) hR.1, Nat.le_trans (by decide) hR.2⟩ (cat8 [] (Nat.le_of_ble_eq_true rfl)) dX5_receive_18 ⟨Nat.le_trans (Nat.le_of_eq (Nat.add_zero _)) hcl.1, Nat.le_trans (Nat.le_of_eq (Nat.add_zero _)) hcl.2⟩ rfl rfl (fun H locs hh hS => ?_)
      refine W.cs (cells' := σ.2.2.2.1 - n0) (slots' := σ.2.2.2.2 - s0) (Nat.add_zero _) (Nat.add_zero _) ?_
      refine lv_iconst (v := (2 : Int32)) X.1 X.2.1 dX5_receive_21 (by decide) ?_
      refine q_aload_n X dX5_receive_22 rfl hl 0 rfl ?_
      obtain ⟨t23, e_t23, h⟩ := o_b h
      refine q_gI X hh fa_X5_42 rfl e_t23 dX5_receive_23 ?_
      obtain ⟨b26, e_b26, h⟩ := o_b h
      obtain ⟨q26, e_q26, h⟩ := o_b h
      have yq18_2 : eq4 σ q18.2 := f18
      refine W.cs (cells' := q18.2.2.2.2.1 - n0) (slots' := q18.2.2.2.2.2 - s0) (by rw [show q18.2.2.2.2 = σ.2.2.2 from yq18_2]) (by rw [show q18.2.2.2.2 = σ.2.2.2 from yq18_2]) ?_
      have hn : n0 ≤ q18.2.2.2.2.1 ∧ s0 ≤ q18.2.2.2.2.2 := by rw [show q18.2.2.2.2 = σ.2.2.2 from yq18_2]; exact hn
      have hcl : q18.2.2.2.2.1 - n0 ≤ R.cells ∧ q18.2.2.2.2.2 - s0 ≤ R.slots := by rw [show q18.2.2.2.2 = σ.2.2.2 from yq18_2]; exact hcl
      have f26 := ke_X4_fillControl_0 e_q26
      refine q_cV (As := [.int (2 : Int32), .int t23]) X hh hS hl cf_X5_86 (cN := 4) rfl rfl e_b26 rfl (M_X4_fillControl l D dA base q18.2 b26 (2 : Int32) t23 e_q26) ⟨Nat.le_trans (by decide) hR.1, Nat.le_trans (by decide) hR.2⟩ (cat8 [] (Nat.le_of_ble_eq_true rfl)) dX5_receive_26 ⟨Nat.le_trans (Nat.le_of_eq (Nat.add_zero _)) hcl.1, Nat.le_trans (Nat.le_of_eq (Nat.add_zero _)) hcl.2⟩ rfl rfl (fun H locs hh hS => ?_)
      refine W.cs (cells' := q18.2.2.2.2.1 - n0) (slots' := q18.2.2.2.2.2 - s0) (Nat.add_zero _) (Nat.add_zero _) ?_
      have yq26 : eq4 q18.2 q26 := f26
      refine W.cs (cells' := q26.2.2.2.1 - n0) (slots' := q26.2.2.2.2 - s0) (by rw [show q26.2.2.2 = q18.2.2.2.2 from yq26]) (by rw [show q26.2.2.2 = q18.2.2.2.2 from yq26]) ?_
      have hn : n0 ≤ q26.2.2.2.1 ∧ s0 ≤ q26.2.2.2.2 := by rw [show q26.2.2.2 = q18.2.2.2.2 from yq26]; exact hn
      have hcl : q26.2.2.2.1 - n0 ≤ R.cells ∧ q26.2.2.2.2 - s0 ≤ R.slots := by rw [show q26.2.2.2 = q18.2.2.2.2 from yq26]; exact hcl
      exact K_X5_receive_29 X hret hlk hR hRc hn hh hS (lk_sub hl [] rfl) h
set_option maxRecDepth 100000 in
theorem M_X5_receive (l : Launch) (D : va_G) (dA : Nat → ClassId) (base : Nat) (σ : hp) (t0 : Nat) (v1 : Option Nat) {z : Int32 × hp} (h : S_X5_receive σ t0 v1 = some z) : mt l yX5_receive cX5_receive 3 (some .boolean) 5 110 D dA base σ [.ref t0, va_rf v1] (some (.int z.1)) z.2 (z.2.2.2.2.1 - σ.2.2.2.1) (z.2.2.2.2.2 - σ.2.2.2.2) := by
  have hzz := mo_X5_receive_0 h
  unfold le4 at hzz
  refine Met.ofW (cc := cX5_receive) (maxL := 3) (ret := some .boolean) (by decide) rfl ?_
  intro p e s m args below meth c s₁ B hml hv
  obtain ⟨rfl, hh, hK⟩ := hv
  have X : cx p s m ([.ref t0, va_rf v1] : List Value).toArray c cX5_receive RX5 3 D dA := ⟨B.exec, B.bytes, findClass_of_methodNamed B.named, hml, fun w hw => atoms_spec (ws := .code yX5_receive cX5_receive 3 (some .boolean) :: G) B.pre w (List.mem_cons_of_mem _ hw), hK⟩
  have hl := lk_entry [.inr (some t0), .inr v1] (n := 3) (Nat.le_of_ble_eq_true rfl)
  rw [lg_entry_eq]
  have hl : lk ((lg_sl ([.ref t0, va_rf v1] : List Value) ++ List.replicate (3 - (lg_sl ([.ref t0, va_rf v1] : List Value)).length) Slot.unset).toArray) 3 [(0, .inr (some t0)), (1, .inr v1)] := hl
  generalize (lg_sl ([.ref t0, va_rf v1] : List Value) ++ List.replicate (3 - (lg_sl ([.ref t0, va_rf v1] : List Value)).length) Slot.unset).toArray = ls at hl ⊢
  refine W.cs (cells' := σ.2.2.2.1 - σ.2.2.2.1) (slots' := σ.2.2.2.2 - σ.2.2.2.2) (Nat.sub_self _).symm (Nat.sub_self _).symm ?_
  exact K_X5_receive_0 X B.returns B.notSynchronized ⟨Nat.le_refl _, Nat.le_refl _⟩ (n0 := σ.2.2.2.1) (s0 := σ.2.2.2.2) ⟨by show _ ≤ _ + (_ - _); omega, by show _ ≤ _ + (_ - _); omega⟩ ⟨Nat.le_refl _, Nat.le_refl _⟩ hh va_S.rf hl h
