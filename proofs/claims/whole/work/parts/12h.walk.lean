/-! Walks: written by wip/whole/gen/emit.py. X9_forget X9_flow X9_begin X9_more X9_send X9_say X9_goOn X9_sendFile -/
theorem ke_X9_forget_0 {z : hp} {σ : hp} {t0 : Nat} {v1 : Int32} {v2 : Int32} (h : S_X9_forget σ t0 v1 v2 = some z) : eq4 σ z := by
  unfold S_X9_forget at h
  obtain ⟨t1, e_t1, h⟩ := o_b h
  obtain ⟨s6, e_s6, h⟩ := o_b h
  obtain ⟨t8, e_t8, h⟩ := o_b h
  obtain ⟨z13, e_z13, h⟩ := o_b h
  obtain ⟨s13, e_s13, h⟩ := o_b h
  obtain ⟨t15, e_t15, h⟩ := o_b h
  obtain ⟨z20, e_z20, h⟩ := o_b h
  obtain ⟨s20, e_s20, h⟩ := o_b h
  obtain ⟨t22, e_t22, h⟩ := o_b h
  obtain ⟨s27, e_s27, h⟩ := o_b h
  obtain ⟨t29, e_t29, h⟩ := o_b h
  obtain ⟨s34, e_s34, h⟩ := o_b h
  obtain ⟨t36, e_t36, h⟩ := o_b h
  obtain ⟨s41, e_s41, h⟩ := o_b h
  obtain ⟨t43, e_t43, h⟩ := o_b h
  obtain ⟨s48, e_s48, h⟩ := o_b h
  obtain ⟨t50, e_t50, h⟩ := o_b h
  obtain ⟨z55, e_z55, h⟩ := o_b h
  obtain ⟨s55, e_s55, h⟩ := o_b h
  obtain ⟨t57, e_t57, h⟩ := o_b h
  obtain ⟨s62, e_s62, h⟩ := o_b h
  obtain ⟨t64, e_t64, h⟩ := o_b h
  obtain ⟨s69, e_s69, h⟩ := o_b h
  cases h
  exact ((((((((((e_stI e_s6)).tr (e_stI e_s13)).tr (e_stI e_s20)).tr (e_stI e_s27)).tr (e_stI e_s34)).tr (e_stI e_s41)).tr (e_stI e_s48)).tr (e_stI e_s55)).tr (e_stI e_s62)).tr (e_stI e_s69)
set_option maxHeartbeats 4000000 in
set_option maxRecDepth 100000 in
theorem K_X9_forget_0 {p : Program} {l : Launch} {e : Env} {R : Room} {s : State} {m : MethodId} {args : Array Value} {below : List Frame} {meth : Method} {c : Code} {D : va_G} {dA : Nat → ClassId} {base : Nat} {z : hp} (X : cx p s m args c cX9_forget RX9 3 D dA) (hret : meth.sig.returnType = none) (hlk : meth.locks = false) (hR : 0 ≤ R.frames ∧ 0 ≤ R.locals) {σ : hp} {t0 : Nat} {v1 : Int32} {v2 : Int32} {H : Heap} {locs : List Loc} {ls : Array Slot} (hh : hw D dA base σ H) (hS : hs base s.heap H locs) (hl : lk ls 3 [(0, .inr (some t0)), (1, .inl v1), (2, .inl v2)]) (h : S_X9_forget σ t0 v1 v2 = some z) : W p l e R s m args below meth c H locs 0 0 (MQ below (qG D dA base none z) args s 0 0 (fun q => base ≤ q)) (F0 m 0 ls []) := by
  unfold S_X9_forget at h
  refine q_aload_n X dX9_forget_0 rfl hl 0 rfl ?_
  obtain ⟨t1, e_t1, h⟩ := o_b h
  refine q_gR X hh fa_X9_56 rfl e_t1 dX9_forget_1 ?_
  refine q_iload_n X dX9_forget_4 rfl hl 1 rfl ?_
  refine q_iload_n X dX9_forget_5 rfl hl 2 rfl ?_
  obtain ⟨s6, e_s6, h⟩ := o_b h
  refine q_stI X hh hS e_s6 dX9_forget_6 (fun H locs hh hS => ?_)
  refine q_aload_n X dX9_forget_7 rfl hl 0 rfl ?_
  obtain ⟨t8, e_t8, h⟩ := o_b h
  refine q_gR X hh fa_X9_59 rfl e_t8 dX9_forget_8 ?_
  refine q_iload_n X dX9_forget_11 rfl hl 1 rfl ?_
  refine lv_iconst (v := (0 : Int32)) X.1 X.2.1 dX9_forget_12 (by decide) ?_
  obtain ⟨z13, e_z13, h⟩ := o_b h
  obtain ⟨s13, e_s13, h⟩ := o_b h
  refine q_stZ X hh hS e_z13 e_s13 dX9_forget_13 (fun H locs hh hS => ?_)
  refine q_aload_n X dX9_forget_14 rfl hl 0 rfl ?_
  obtain ⟨t15, e_t15, h⟩ := o_b h
  refine q_gR X hh fa_X9_66 rfl e_t15 dX9_forget_15 ?_
  refine q_iload_n X dX9_forget_18 rfl hl 1 rfl ?_
  refine lv_iconst (v := (0 : Int32)) X.1 X.2.1 dX9_forget_19 (by decide) ?_
  obtain ⟨z20, e_z20, h⟩ := o_b h
  obtain ⟨s20, e_s20, h⟩ := o_b h
  refine q_stZ X hh hS e_z20 e_s20 dX9_forget_20 (fun H locs hh hS => ?_)
  refine q_aload_n X dX9_forget_21 rfl hl 0 rfl ?_
  obtain ⟨t22, e_t22, h⟩ := o_b h
  refine q_gR X hh fa_X9_69 rfl e_t22 dX9_forget_22 ?_
  refine q_iload_n X dX9_forget_25 rfl hl 1 rfl ?_
  refine lv_iconst (v := (0 : Int32)) X.1 X.2.1 dX9_forget_26 (by decide) ?_
  obtain ⟨s27, e_s27, h⟩ := o_b h
  refine q_stI X hh hS e_s27 dX9_forget_27 (fun H locs hh hS => ?_)
  refine q_aload_n X dX9_forget_28 rfl hl 0 rfl ?_
  obtain ⟨t29, e_t29, h⟩ := o_b h
  refine q_gR X hh fa_X9_72 rfl e_t29 dX9_forget_29 ?_
  refine q_iload_n X dX9_forget_32 rfl hl 1 rfl ?_
  refine lv_iconst (v := (0 : Int32)) X.1 X.2.1 dX9_forget_33 (by decide) ?_
  obtain ⟨s34, e_s34, h⟩ := o_b h
  refine q_stI X hh hS e_s34 dX9_forget_34 (fun H locs hh hS => ?_)
  refine q_aload_n X dX9_forget_35 rfl hl 0 rfl ?_
  obtain ⟨t36, e_t36, h⟩ := o_b h
  refine q_gR X hh fa_X9_75 rfl e_t36 dX9_forget_36 ?_
  refine q_iload_n X dX9_forget_39 rfl hl 1 rfl ?_
  refine lv_iconst (v := (0 : Int32)) X.1 X.2.1 dX9_forget_40 (by decide) ?_
  obtain ⟨s41, e_s41, h⟩ := o_b h
  refine q_stI X hh hS e_s41 dX9_forget_41 (fun H locs hh hS => ?_)
  refine q_aload_n X dX9_forget_42 rfl hl 0 rfl ?_
  obtain ⟨t43, e_t43, h⟩ := o_b h
  refine q_gR X hh fa_X9_84 rfl e_t43 dX9_forget_43 ?_
  refine q_iload_n X dX9_forget_46 rfl hl 1 rfl ?_
  refine lv_iconst (v := (0 : Int32)) X.1 X.2.1 dX9_forget_47 (by decide) ?_
  obtain ⟨s48, e_s48, h⟩ := o_b h
  refine q_stI X hh hS e_s48 dX9_forget_48 (fun H locs hh hS => ?_)
  refine q_aload_n X dX9_forget_49 rfl hl 0 rfl ?_
  obtain ⟨t50, e_t50, h⟩ := o_b h
  refine q_gR X hh fa_X9_90 rfl e_t50 dX9_forget_50 ?_
  refine q_iload_n X dX9_forget_53 rfl hl 1 rfl ?_
  refine lv_iconst (v := (0 : Int32)) X.1 X.2.1 dX9_forget_54 (by decide) ?_
  obtain ⟨z55, e_z55, h⟩ := o_b h
  obtain ⟨s55, e_s55, h⟩ := o_b h
  refine q_stZ X hh hS e_z55 e_s55 dX9_forget_55 (fun H locs hh hS => ?_)
  refine q_aload_n X dX9_forget_56 rfl hl 0 rfl ?_
  obtain ⟨t57, e_t57, h⟩ := o_b h
  refine q_gR X hh fa_X9_105 rfl e_t57 dX9_forget_57 ?_
  refine q_iload_n X dX9_forget_60 rfl hl 1 rfl ?_
  refine lv_iconst (v := (0 : Int32)) X.1 X.2.1 dX9_forget_61 (by decide) ?_
  obtain ⟨s62, e_s62, h⟩ := o_b h
  refine q_stI X hh hS e_s62 dX9_forget_62 (fun H locs hh hS => ?_)
  refine q_aload_n X dX9_forget_63 rfl hl 0 rfl ?_
  obtain ⟨t64, e_t64, h⟩ := o_b h
  refine q_gR X hh fa_X9_108 rfl e_t64 dX9_forget_64 ?_
  refine q_iload_n X dX9_forget_67 rfl hl 1 rfl ?_
  refine lv_iconst (v := (0 : Int32)) X.1 X.2.1 dX9_forget_68 (by decide) ?_
  obtain ⟨s69, e_s69, h⟩ := o_b h
  refine q_stI X hh hS e_s69 dX9_forget_69 (fun H locs hh hS => ?_)
  cases h
  exact q_vret X hret hlk hh hS dX9_forget_70
set_option maxRecDepth 100000 in
theorem M_X9_forget (l : Launch) (D : va_G) (dA : Nat → ClassId) (base : Nat) (σ : hp) (t0 : Nat) (v1 : Int32) (v2 : Int32) {z : hp} (h : S_X9_forget σ t0 v1 v2 = some z) : mt l yX9_forget cX9_forget 3 (none) 0 0 D dA base σ [.ref t0, .int v1, .int v2] none z 0 0 := by
  refine Met.ofW (cc := cX9_forget) (maxL := 3) (ret := none) (by decide) rfl ?_
  intro p e s m args below meth c s₁ B hml hv
  obtain ⟨rfl, hh, hK⟩ := hv
  have X : cx p s m ([.ref t0, .int v1, .int v2] : List Value).toArray c cX9_forget RX9 3 D dA := ⟨B.exec, B.bytes, findClass_of_methodNamed B.named, hml, fun w hw => atoms_spec (ws := .code yX9_forget cX9_forget 3 (none) :: G) B.pre w (List.mem_cons_of_mem _ hw), hK⟩
  have hl := lk_entry [.inr (some t0), .inl v1, .inl v2] (n := 3) (Nat.le_of_ble_eq_true rfl)
  rw [lg_entry_eq]
  have hl : lk ((lg_sl ([.ref t0, .int v1, .int v2] : List Value) ++ List.replicate (3 - (lg_sl ([.ref t0, .int v1, .int v2] : List Value)).length) Slot.unset).toArray) 3 [(0, .inr (some t0)), (1, .inl v1), (2, .inl v2)] := hl
  generalize (lg_sl ([.ref t0, .int v1, .int v2] : List Value) ++ List.replicate (3 - (lg_sl ([.ref t0, .int v1, .int v2] : List Value)).length) Slot.unset).toArray = ls at hl ⊢
  exact K_X9_forget_0 X B.returns B.notSynchronized ⟨Nat.le_refl _, Nat.le_refl _⟩ hh va_S.rf hl h
theorem ke_X9_flow_142_b {rec0 : hp → Nat → Int32 → Option (hp)} {rec142 : hp → Nat → Int32 → Int32 → Option (hp)} {z : hp} (hm0 : ∀ (σ : hp) (t0 : Nat) (v1 : Int32), rec0 σ t0 v1 = some z → eq4 σ z) (hm142 : ∀ (σ : hp) (t0 : Nat) (v1 : Int32) (v2 : Int32), rec142 σ t0 v1 v2 = some z → eq4 σ z) {σ : hp} {t0 : Nat} {v1 : Int32} {v2 : Int32} (h : S_X9_flow_142_b rec0 rec142 σ t0 v1 v2 = some z) : eq4 σ z := by
  unfold S_X9_flow_142_b at h
  obtain ⟨t146, e_t146, h⟩ := o_b h
  obtain ⟨t150, e_t150, h⟩ := o_b h
  by_cases c152 : ((32 : Int32) * t150) ≤ v2
  · rw [if_pos c152] at h
    obtain ⟨t191, e_t191, h⟩ := o_b h
    obtain ⟨t195, e_t195, h⟩ := o_b h
    obtain ⟨b198, e_b198, h⟩ := o_b h
    obtain ⟨q198, e_q198, h⟩ := o_b h
    exact ((ke_X9_data_0 e_q198)).tr (hm0 _ _ _ h)
  · rw [if_neg c152] at h
    obtain ⟨t156, e_t156, h⟩ := o_b h
    obtain ⟨t167, e_t167, h⟩ := o_b h
    obtain ⟨t180, e_t180, h⟩ := o_b h
    obtain ⟨s181, e_s181, h⟩ := o_b h
    exact ((e_stI e_s181)).tr (hm142 _ _ _ _ h)
theorem ke_X9_flow_142 {rec0 : hp → Nat → Int32 → Option (hp)} {z : hp} (hm0 : ∀ (σ : hp) (t0 : Nat) (v1 : Int32), rec0 σ t0 v1 = some z → eq4 σ z) : ∀ (n : Nat) (σ : hp) (t0 : Nat) (v1 : Int32) (v2 : Int32), S_X9_flow_142 rec0 n σ t0 v1 v2 = some z → eq4 σ z := by
  intro n
  induction n with
  | zero => intro σ t0 v1 v2 h; cases h
  | succ n ih => intro σ t0 v1 v2 h; exact ke_X9_flow_142_b hm0 ih h
set_option maxHeartbeats 4000000 in
set_option maxRecDepth 100000 in
theorem K_X9_flow_142_b {p : Program} {l : Launch} {e : Env} {R : Room} {s : State} {m : MethodId} {args : Array Value} {below : List Frame} {meth : Method} {c : Code} {D : va_G} {dA : Nat → ClassId} {base : Nat} {rec0 : hp → Nat → Int32 → Option (hp)} {rec142 : hp → Nat → Int32 → Int32 → Option (hp)} {z : hp} (X : cx p s m args c cX9_flow RX9 3 D dA) (hret : meth.sig.returnType = none) (hlk : meth.locks = false) (hR : 4 ≤ R.frames ∧ 91 ≤ R.locals) (hr0 : ∀ (σ : hp) (t0 : Nat) (v1 : Int32) (H : Heap) (locs : List Loc) (ls : Array Slot), hw D dA base σ H → hs base s.heap H locs → lk ls 3 [(0, .inr (some t0)), (1, .inl v1)] → rec0 σ t0 v1 = some z → W p l e R s m args below meth c H locs 0 0 (MQ below (qG D dA base none z) args s 0 0 (fun q => base ≤ q)) (F0 m 0 ls [])) (hr142 : ∀ (σ : hp) (t0 : Nat) (v1 : Int32) (v2 : Int32) (H : Heap) (locs : List Loc) (ls : Array Slot), hw D dA base σ H → hs base s.heap H locs → lk ls 3 [(0, .inr (some t0)), (1, .inl v1), (2, .inl v2)] → rec142 σ t0 v1 v2 = some z → W p l e R s m args below meth c H locs 0 0 (MQ below (qG D dA base none z) args s 0 0 (fun q => base ≤ q)) (F0 m 142 ls [])) {σ : hp} {t0 : Nat} {v1 : Int32} {v2 : Int32} {H : Heap} {locs : List Loc} {ls : Array Slot} (hh : hw D dA base σ H) (hS : hs base s.heap H locs) (hl : lk ls 3 [(0, .inr (some t0)), (1, .inl v1), (2, .inl v2)]) (h : S_X9_flow_142_b rec0 rec142 σ t0 v1 v2 = some z) : W p l e R s m args below meth c H locs 0 0 (MQ below (qG D dA base none z) args s 0 0 (fun q => base ≤ q)) (F0 m 142 ls []) := by
  unfold S_X9_flow_142_b at h
  refine q_iload_n X dX9_flow_142 rfl hl 2 rfl ?_
  refine lv_bipush (v := (32 : Int32)) X.1 X.2.1 dX9_flow_143 (by decide) ?_
  refine q_aload_n X dX9_flow_145 rfl hl 0 rfl ?_
  obtain ⟨t146, e_t146, h⟩ := o_b h
  refine q_gR X hh fa_X9_84 rfl e_t146 dX9_flow_146 ?_
  refine q_iload_n X dX9_flow_149 rfl hl 1 rfl ?_
  obtain ⟨t150, e_t150, h⟩ := o_b h
  refine q_ldI X hh e_t150 dX9_flow_150 ?_
  refine lv_imul X.1 X.2.1 dX9_flow_151 ?_
  refine lv_icmp_ge (tgt := 188) X.1 X.2.1 dX9_flow_152 (by decide) (fun c152 => ?_) (fun c152 => ?_)
  · rw [if_pos c152] at h
    refine q_aload_n X dX9_flow_188 rfl hl 0 rfl ?_
    refine q_iload_n X dX9_flow_189 rfl hl 1 rfl ?_
    refine q_aload_n X dX9_flow_190 rfl hl 0 rfl ?_
    obtain ⟨t191, e_t191, h⟩ := o_b h
    refine q_gR X hh fa_X9_75 rfl e_t191 dX9_flow_191 ?_
    refine q_iload_n X dX9_flow_194 rfl hl 1 rfl ?_
    obtain ⟨t195, e_t195, h⟩ := o_b h
    refine q_ldI X hh e_t195 dX9_flow_195 ?_
    refine lv_iconst (v := (1 : Int32)) X.1 X.2.1 dX9_flow_196 (by decide) ?_
    refine lv_isub X.1 X.2.1 dX9_flow_197 ?_
    obtain ⟨b198, e_b198, h⟩ := o_b h
    obtain ⟨q198, e_q198, h⟩ := o_b h
    refine q_cV (As := [.int v1, .int (t195 - (1 : Int32))]) X hh hS hl cf_X9_145 (cN := 9) rfl rfl e_b198 rfl (M_X9_data l D dA base σ b198 v1 (t195 - (1 : Int32)) e_q198) ⟨Nat.le_trans (by decide) hR.1, Nat.le_trans (by decide) hR.2⟩ (cat8 [] (Nat.le_of_ble_eq_true rfl)) dX9_flow_198 ⟨Nat.zero_le _, Nat.zero_le _⟩ rfl rfl (fun H locs hh hS => ?_)
    refine lv_goto (tgt := 0) X.1 X.2.1 dX9_flow_201 (by decide) ?_
    exact hr0 _ _ _ _ _ _ hh hS (lk_sub hl [0, 1] rfl) h
  · rw [if_neg c152] at h
    refine q_aload_n X dX9_flow_155 rfl hl 0 rfl ?_
    obtain ⟨t156, e_t156, h⟩ := o_b h
    refine q_gR X hh fa_X9_87 rfl e_t156 dX9_flow_156 ?_
    refine lv_sipush (v := (512 : Int32)) X.1 X.2.1 dX9_flow_159 (by decide) ?_
    refine q_iload_n X dX9_flow_162 rfl hl 1 rfl ?_
    refine lv_imul X.1 X.2.1 dX9_flow_163 ?_
    refine q_iload_n X dX9_flow_164 rfl hl 2 rfl ?_
    refine lv_iadd X.1 X.2.1 dX9_flow_165 ?_
    refine q_aload_n X dX9_flow_166 rfl hl 0 rfl ?_
    obtain ⟨t167, e_t167, h⟩ := o_b h
    refine q_gR X hh fa_X9_87 rfl e_t167 dX9_flow_167 ?_
    refine lv_sipush (v := (512 : Int32)) X.1 X.2.1 dX9_flow_170 (by decide) ?_
    refine q_iload_n X dX9_flow_173 rfl hl 1 rfl ?_
    refine lv_imul X.1 X.2.1 dX9_flow_174 ?_
    refine q_iload_n X dX9_flow_175 rfl hl 2 rfl ?_
    refine lv_iadd X.1 X.2.1 dX9_flow_176 ?_
    refine lv_bipush (v := (32 : Int32)) X.1 X.2.1 dX9_flow_177 (by decide) ?_
    refine lv_iadd X.1 X.2.1 dX9_flow_179 ?_
    obtain ⟨t180, e_t180, h⟩ := o_b h
    refine q_ldI X hh e_t180 dX9_flow_180 ?_
    obtain ⟨s181, e_s181, h⟩ := o_b h
    refine q_stI X hh hS e_s181 dX9_flow_181 (fun H locs hh hS => ?_)
    refine q_iinc (v := (1 : Int32)) (lv' := [(2, .inl (v2 + (1 : Int32))), (0, .inr (some t0)), (1, .inl v1)]) X dX9_flow_182 hl 2 rfl (by decide) (by decide) rfl (fun ls hl => ?_)
    refine lv_goto (tgt := 142) X.1 X.2.1 dX9_flow_185 (by decide) ?_
    exact hr142 _ _ _ _ _ _ _ hh hS (lk_sub hl [1, 2, 0] rfl) h
theorem K_X9_flow_142 {p : Program} {l : Launch} {e : Env} {R : Room} {s : State} {m : MethodId} {args : Array Value} {below : List Frame} {meth : Method} {c : Code} {D : va_G} {dA : Nat → ClassId} {base : Nat} {rec0 : hp → Nat → Int32 → Option (hp)} {z : hp} (X : cx p s m args c cX9_flow RX9 3 D dA) (hret : meth.sig.returnType = none) (hlk : meth.locks = false) (hR : 4 ≤ R.frames ∧ 91 ≤ R.locals) (hr0 : ∀ (σ : hp) (t0 : Nat) (v1 : Int32) (H : Heap) (locs : List Loc) (ls : Array Slot), hw D dA base σ H → hs base s.heap H locs → lk ls 3 [(0, .inr (some t0)), (1, .inl v1)] → rec0 σ t0 v1 = some z → W p l e R s m args below meth c H locs 0 0 (MQ below (qG D dA base none z) args s 0 0 (fun q => base ≤ q)) (F0 m 0 ls [])) : ∀ (n : Nat) (σ : hp) (t0 : Nat) (v1 : Int32) (v2 : Int32) (H : Heap) (locs : List Loc) (ls : Array Slot), hw D dA base σ H → hs base s.heap H locs → lk ls 3 [(0, .inr (some t0)), (1, .inl v1), (2, .inl v2)] → S_X9_flow_142 rec0 n σ t0 v1 v2 = some z → W p l e R s m args below meth c H locs 0 0 (MQ below (qG D dA base none z) args s 0 0 (fun q => base ≤ q)) (F0 m 142 ls []) := by
  intro n
  induction n with
  | zero => intro σ t0 v1 v2 H locs ls hh hS hl h; cases h
  | succ n ih => intro σ t0 v1 v2 H locs ls hh hS hl h; exact K_X9_flow_142_b X hret hlk hR hr0 ih hh hS hl h
theorem ke_X9_flow_75_b {rec0 : hp → Nat → Int32 → Option (hp)} {rec75 : hp → Nat → Int32 → Int32 → Option (hp)} {z : hp} (hm0 : ∀ (σ : hp) (t0 : Nat) (v1 : Int32), rec0 σ t0 v1 = some z → eq4 σ z) (hm75 : ∀ (σ : hp) (t0 : Nat) (v1 : Int32) (v2 : Int32), rec75 σ t0 v1 v2 = some z → eq4 σ z) {σ : hp} {t0 : Nat} {v1 : Int32} {v2 : Int32} (h : S_X9_flow_75_b rec0 rec75 σ t0 v1 v2 = some z) : eq4 σ z := by
  unfold S_X9_flow_75_b at h
  by_cases c78 : (32 : Int32) ≤ v2
  · rw [if_pos c78] at h
    obtain ⟨t121, e_t121, h⟩ := o_b h
    obtain ⟨t126, e_t126, h⟩ := o_b h
    obtain ⟨s129, e_s129, h⟩ := o_b h
    obtain ⟨t131, e_t131, h⟩ := o_b h
    obtain ⟨t136, e_t136, h⟩ := o_b h
    obtain ⟨s139, e_s139, h⟩ := o_b h
    exact (((e_stI e_s129)).tr (e_stI e_s139)).tr (ke_X9_flow_142 hm0 FU _ _ _ _ h)
  · rw [if_neg c78] at h
    obtain ⟨t82, e_t82, h⟩ := o_b h
    obtain ⟨t92, e_t92, h⟩ := o_b h
    obtain ⟨t96, e_t96, h⟩ := o_b h
    obtain ⟨t102, e_t102, h⟩ := o_b h
    obtain ⟨t112, e_t112, h⟩ := o_b h
    obtain ⟨s113, e_s113, h⟩ := o_b h
    exact ((e_stI e_s113)).tr (hm75 _ _ _ _ h)
theorem ke_X9_flow_75 {rec0 : hp → Nat → Int32 → Option (hp)} {z : hp} (hm0 : ∀ (σ : hp) (t0 : Nat) (v1 : Int32), rec0 σ t0 v1 = some z → eq4 σ z) : ∀ (n : Nat) (σ : hp) (t0 : Nat) (v1 : Int32) (v2 : Int32), S_X9_flow_75 rec0 n σ t0 v1 v2 = some z → eq4 σ z := by
  intro n
  induction n with
  | zero => intro σ t0 v1 v2 h; cases h
  | succ n ih => intro σ t0 v1 v2 h; exact ke_X9_flow_75_b hm0 ih h
set_option maxHeartbeats 4000000 in
set_option maxRecDepth 100000 in
theorem K_X9_flow_75_b {p : Program} {l : Launch} {e : Env} {R : Room} {s : State} {m : MethodId} {args : Array Value} {below : List Frame} {meth : Method} {c : Code} {D : va_G} {dA : Nat → ClassId} {base : Nat} {rec0 : hp → Nat → Int32 → Option (hp)} {rec75 : hp → Nat → Int32 → Int32 → Option (hp)} {z : hp} (X : cx p s m args c cX9_flow RX9 3 D dA) (hret : meth.sig.returnType = none) (hlk : meth.locks = false) (hR : 4 ≤ R.frames ∧ 91 ≤ R.locals) (hr0 : ∀ (σ : hp) (t0 : Nat) (v1 : Int32) (H : Heap) (locs : List Loc) (ls : Array Slot), hw D dA base σ H → hs base s.heap H locs → lk ls 3 [(0, .inr (some t0)), (1, .inl v1)] → rec0 σ t0 v1 = some z → W p l e R s m args below meth c H locs 0 0 (MQ below (qG D dA base none z) args s 0 0 (fun q => base ≤ q)) (F0 m 0 ls [])) (hr75 : ∀ (σ : hp) (t0 : Nat) (v1 : Int32) (v2 : Int32) (H : Heap) (locs : List Loc) (ls : Array Slot), hw D dA base σ H → hs base s.heap H locs → lk ls 3 [(0, .inr (some t0)), (1, .inl v1), (2, .inl v2)] → rec75 σ t0 v1 v2 = some z → W p l e R s m args below meth c H locs 0 0 (MQ below (qG D dA base none z) args s 0 0 (fun q => base ≤ q)) (F0 m 75 ls [])) {σ : hp} {t0 : Nat} {v1 : Int32} {v2 : Int32} {H : Heap} {locs : List Loc} {ls : Array Slot} (hh : hw D dA base σ H) (hS : hs base s.heap H locs) (hl : lk ls 3 [(0, .inr (some t0)), (1, .inl v1), (2, .inl v2)]) (h : S_X9_flow_75_b rec0 rec75 σ t0 v1 v2 = some z) : W p l e R s m args below meth c H locs 0 0 (MQ below (qG D dA base none z) args s 0 0 (fun q => base ≤ q)) (F0 m 75 ls []) := by
  unfold S_X9_flow_75_b at h
  refine q_iload_n X dX9_flow_75 rfl hl 2 rfl ?_
  refine lv_bipush (v := (32 : Int32)) X.1 X.2.1 dX9_flow_76 (by decide) ?_
  refine lv_icmp_ge (tgt := 120) X.1 X.2.1 dX9_flow_78 (by decide) (fun c78 => ?_) (fun c78 => ?_)
  · rw [if_pos c78] at h
    refine q_aload_n X dX9_flow_120 rfl hl 0 rfl ?_
    obtain ⟨t121, e_t121, h⟩ := o_b h
    refine q_gR X hh fa_X9_75 rfl e_t121 dX9_flow_121 ?_
    refine q_iload_n X dX9_flow_124 rfl hl 1 rfl ?_
    refine lv_dup2_11 X.1 X.2.1 dX9_flow_125 (vv_cat (.inl v1)) (vv_cat (.inr t121)) ?_
    obtain ⟨t126, e_t126, h⟩ := o_b h
    refine q_ldI X hh e_t126 dX9_flow_126 ?_
    refine lv_iconst (v := (1 : Int32)) X.1 X.2.1 dX9_flow_127 (by decide) ?_
    refine lv_iadd X.1 X.2.1 dX9_flow_128 ?_
    obtain ⟨s129, e_s129, h⟩ := o_b h
    refine q_stI X hh hS e_s129 dX9_flow_129 (fun H locs hh hS => ?_)
    refine q_aload_n X dX9_flow_130 rfl hl 0 rfl ?_
    obtain ⟨t131, e_t131, h⟩ := o_b h
    refine q_gR X hh fa_X9_84 rfl e_t131 dX9_flow_131 ?_
    refine q_iload_n X dX9_flow_134 rfl hl 1 rfl ?_
    refine lv_dup2_11 X.1 X.2.1 dX9_flow_135 (vv_cat (.inl v1)) (vv_cat (.inr t131)) ?_
    obtain ⟨t136, e_t136, h⟩ := o_b h
    refine q_ldI X hh e_t136 dX9_flow_136 ?_
    refine lv_iconst (v := (1 : Int32)) X.1 X.2.1 dX9_flow_137 (by decide) ?_
    refine lv_isub X.1 X.2.1 dX9_flow_138 ?_
    obtain ⟨s139, e_s139, h⟩ := o_b h
    refine q_stI X hh hS e_s139 dX9_flow_139 (fun H locs hh hS => ?_)
    refine lv_iconst (v := (0 : Int32)) X.1 X.2.1 dX9_flow_140 (by decide) ?_
    refine q_istore_n (lv' := [(2, .inl (0 : Int32)), (0, .inr (some t0)), (1, .inl v1)]) X dX9_flow_141 rfl hl (by decide) rfl (fun ls hl => ?_)
    exact K_X9_flow_142 X hret hlk hR hr0 FU _ _ _ _ _ _ _ hh hS (lk_sub hl [1, 2, 0] rfl) h
  · rw [if_neg c78] at h
    refine q_aload_n X dX9_flow_81 rfl hl 0 rfl ?_
    obtain ⟨t82, e_t82, h⟩ := o_b h
    refine q_gR X hh fa_X9_81 rfl e_t82 dX9_flow_82 ?_
    refine lv_bipush (v := (96 : Int32)) X.1 X.2.1 dX9_flow_85 (by decide) ?_
    refine q_iload_n X dX9_flow_87 rfl hl 1 rfl ?_
    refine lv_imul X.1 X.2.1 dX9_flow_88 ?_
    refine lv_bipush (v := (32 : Int32)) X.1 X.2.1 dX9_flow_89 (by decide) ?_
    refine q_aload_n X dX9_flow_91 rfl hl 0 rfl ?_
    obtain ⟨t92, e_t92, h⟩ := o_b h
    refine q_gR X hh fa_X9_75 rfl e_t92 dX9_flow_92 ?_
    refine q_iload_n X dX9_flow_95 rfl hl 1 rfl ?_
    obtain ⟨t96, e_t96, h⟩ := o_b h
    refine q_ldI X hh e_t96 dX9_flow_96 ?_
    refine lv_imul X.1 X.2.1 dX9_flow_97 ?_
    refine lv_iadd X.1 X.2.1 dX9_flow_98 ?_
    refine q_iload_n X dX9_flow_99 rfl hl 2 rfl ?_
    refine lv_iadd X.1 X.2.1 dX9_flow_100 ?_
    refine q_aload_n X dX9_flow_101 rfl hl 0 rfl ?_
    obtain ⟨t102, e_t102, h⟩ := o_b h
    refine q_gR X hh fa_X9_87 rfl e_t102 dX9_flow_102 ?_
    refine lv_sipush (v := (512 : Int32)) X.1 X.2.1 dX9_flow_105 (by decide) ?_
    refine q_iload_n X dX9_flow_108 rfl hl 1 rfl ?_
    refine lv_imul X.1 X.2.1 dX9_flow_109 ?_
    refine q_iload_n X dX9_flow_110 rfl hl 2 rfl ?_
    refine lv_iadd X.1 X.2.1 dX9_flow_111 ?_
    obtain ⟨t112, e_t112, h⟩ := o_b h
    refine q_ldI X hh e_t112 dX9_flow_112 ?_
    obtain ⟨s113, e_s113, h⟩ := o_b h
    refine q_stI X hh hS e_s113 dX9_flow_113 (fun H locs hh hS => ?_)
    refine q_iinc (v := (1 : Int32)) (lv' := [(2, .inl (v2 + (1 : Int32))), (0, .inr (some t0)), (1, .inl v1)]) X dX9_flow_114 hl 2 rfl (by decide) (by decide) rfl (fun ls hl => ?_)
    refine lv_goto (tgt := 75) X.1 X.2.1 dX9_flow_117 (by decide) ?_
    exact hr75 _ _ _ _ _ _ _ hh hS (lk_sub hl [1, 2, 0] rfl) h
theorem K_X9_flow_75 {p : Program} {l : Launch} {e : Env} {R : Room} {s : State} {m : MethodId} {args : Array Value} {below : List Frame} {meth : Method} {c : Code} {D : va_G} {dA : Nat → ClassId} {base : Nat} {rec0 : hp → Nat → Int32 → Option (hp)} {z : hp} (X : cx p s m args c cX9_flow RX9 3 D dA) (hret : meth.sig.returnType = none) (hlk : meth.locks = false) (hR : 4 ≤ R.frames ∧ 91 ≤ R.locals) (hr0 : ∀ (σ : hp) (t0 : Nat) (v1 : Int32) (H : Heap) (locs : List Loc) (ls : Array Slot), hw D dA base σ H → hs base s.heap H locs → lk ls 3 [(0, .inr (some t0)), (1, .inl v1)] → rec0 σ t0 v1 = some z → W p l e R s m args below meth c H locs 0 0 (MQ below (qG D dA base none z) args s 0 0 (fun q => base ≤ q)) (F0 m 0 ls [])) : ∀ (n : Nat) (σ : hp) (t0 : Nat) (v1 : Int32) (v2 : Int32) (H : Heap) (locs : List Loc) (ls : Array Slot), hw D dA base σ H → hs base s.heap H locs → lk ls 3 [(0, .inr (some t0)), (1, .inl v1), (2, .inl v2)] → S_X9_flow_75 rec0 n σ t0 v1 v2 = some z → W p l e R s m args below meth c H locs 0 0 (MQ below (qG D dA base none z) args s 0 0 (fun q => base ≤ q)) (F0 m 75 ls []) := by
  intro n
  induction n with
  | zero => intro σ t0 v1 v2 H locs ls hh hS hl h; cases h
  | succ n ih => intro σ t0 v1 v2 H locs ls hh hS hl h; exact K_X9_flow_75_b X hret hlk hR hr0 ih hh hS hl h
theorem ke_X9_flow_35 {rec0 : hp → Nat → Int32 → Option (hp)} {z : hp} (hm0 : ∀ (σ : hp) (t0 : Nat) (v1 : Int32), rec0 σ t0 v1 = some z → eq4 σ z) {σ : hp} {t0 : Nat} {v1 : Int32} (h : S_X9_flow_35 rec0 σ t0 v1 = some z) : eq4 σ z := by
  unfold S_X9_flow_35 at h
  obtain ⟨t36, e_t36, h⟩ := o_b h
  obtain ⟨t41, e_t41, h⟩ := o_b h
  obtain ⟨t45, e_t45, h⟩ := o_b h
  obtain ⟨s51, e_s51, h⟩ := o_b h
  obtain ⟨t53, e_t53, h⟩ := o_b h
  obtain ⟨t60, e_t60, h⟩ := o_b h
  obtain ⟨t64, e_t64, h⟩ := o_b h
  obtain ⟨t67, e_t67, h⟩ := o_b h
  obtain ⟨t71, e_t71, h⟩ := o_b h
  obtain ⟨s72, e_s72, h⟩ := o_b h
  exact (((e_stI e_s51)).tr (e_stI e_s72)).tr (ke_X9_flow_75 hm0 FU _ _ _ _ h)
set_option maxHeartbeats 4000000 in
set_option maxRecDepth 100000 in
theorem K_X9_flow_35 {p : Program} {l : Launch} {e : Env} {R : Room} {s : State} {m : MethodId} {args : Array Value} {below : List Frame} {meth : Method} {c : Code} {D : va_G} {dA : Nat → ClassId} {base : Nat} {rec0 : hp → Nat → Int32 → Option (hp)} {z : hp} (X : cx p s m args c cX9_flow RX9 3 D dA) (hret : meth.sig.returnType = none) (hlk : meth.locks = false) (hR : 4 ≤ R.frames ∧ 91 ≤ R.locals) (hr0 : ∀ (σ : hp) (t0 : Nat) (v1 : Int32) (H : Heap) (locs : List Loc) (ls : Array Slot), hw D dA base σ H → hs base s.heap H locs → lk ls 3 [(0, .inr (some t0)), (1, .inl v1)] → rec0 σ t0 v1 = some z → W p l e R s m args below meth c H locs 0 0 (MQ below (qG D dA base none z) args s 0 0 (fun q => base ≤ q)) (F0 m 0 ls [])) {σ : hp} {t0 : Nat} {v1 : Int32} {H : Heap} {locs : List Loc} {ls : Array Slot} (hh : hw D dA base σ H) (hS : hs base s.heap H locs) (hl : lk ls 3 [(0, .inr (some t0)), (1, .inl v1)]) (h : S_X9_flow_35 rec0 σ t0 v1 = some z) : W p l e R s m args below meth c H locs 0 0 (MQ below (qG D dA base none z) args s 0 0 (fun q => base ≤ q)) (F0 m 35 ls []) := by
  unfold S_X9_flow_35 at h
  refine q_aload_n X dX9_flow_35 rfl hl 0 rfl ?_
  obtain ⟨t36, e_t36, h⟩ := o_b h
  refine q_gR X hh fa_X9_72 rfl e_t36 dX9_flow_36 ?_
  refine q_iload_n X dX9_flow_39 rfl hl 1 rfl ?_
  refine q_aload_n X dX9_flow_40 rfl hl 0 rfl ?_
  obtain ⟨t41, e_t41, h⟩ := o_b h
  refine q_gR X hh fa_X9_72 rfl e_t41 dX9_flow_41 ?_
  refine q_iload_n X dX9_flow_44 rfl hl 1 rfl ?_
  obtain ⟨t45, e_t45, h⟩ := o_b h
  refine q_ldI X hh e_t45 dX9_flow_45 ?_
  refine lv_iconst (v := (1 : Int32)) X.1 X.2.1 dX9_flow_46 (by decide) ?_
  refine lv_iadd X.1 X.2.1 dX9_flow_47 ?_
  refine lv_bipush (v := (8 : Int32)) X.1 X.2.1 dX9_flow_48 (by decide) ?_
  refine lv_irem X.1 X.2.1 dX9_flow_50 (by decide) ?_
  obtain ⟨s51, e_s51, h⟩ := o_b h
  refine q_stI X hh hS e_s51 dX9_flow_51 (fun H locs hh hS => ?_)
  refine q_aload_n X dX9_flow_52 rfl hl 0 rfl ?_
  obtain ⟨t53, e_t53, h⟩ := o_b h
  refine q_gR X hh fa_X9_78 rfl e_t53 dX9_flow_53 ?_
  refine lv_iconst (v := (3 : Int32)) X.1 X.2.1 dX9_flow_56 (by decide) ?_
  refine q_iload_n X dX9_flow_57 rfl hl 1 rfl ?_
  refine lv_imul X.1 X.2.1 dX9_flow_58 ?_
  refine q_aload_n X dX9_flow_59 rfl hl 0 rfl ?_
  obtain ⟨t60, e_t60, h⟩ := o_b h
  refine q_gR X hh fa_X9_75 rfl e_t60 dX9_flow_60 ?_
  refine q_iload_n X dX9_flow_63 rfl hl 1 rfl ?_
  obtain ⟨t64, e_t64, h⟩ := o_b h
  refine q_ldI X hh e_t64 dX9_flow_64 ?_
  refine lv_iadd X.1 X.2.1 dX9_flow_65 ?_
  refine q_aload_n X dX9_flow_66 rfl hl 0 rfl ?_
  obtain ⟨t67, e_t67, h⟩ := o_b h
  refine q_gR X hh fa_X9_72 rfl e_t67 dX9_flow_67 ?_
  refine q_iload_n X dX9_flow_70 rfl hl 1 rfl ?_
  obtain ⟨t71, e_t71, h⟩ := o_b h
  refine q_ldI X hh e_t71 dX9_flow_71 ?_
  obtain ⟨s72, e_s72, h⟩ := o_b h
  refine q_stI X hh hS e_s72 dX9_flow_72 (fun H locs hh hS => ?_)
  refine lv_iconst (v := (0 : Int32)) X.1 X.2.1 dX9_flow_73 (by decide) ?_
  refine q_istore_n (lv' := [(2, .inl (0 : Int32)), (0, .inr (some t0)), (1, .inl v1)]) X dX9_flow_74 rfl hl (by decide) rfl (fun ls hl => ?_)
  exact K_X9_flow_75 X hret hlk hR hr0 FU _ _ _ _ _ _ _ hh hS (lk_sub hl [1, 2, 0] rfl) h
theorem ke_X9_flow_204 {z : hp} {σ : hp} (h : S_X9_flow_204 σ = some z) : eq4 σ z := by
  unfold S_X9_flow_204 at h
  cases h
  exact eq4.rf _
set_option maxHeartbeats 4000000 in
set_option maxRecDepth 100000 in
theorem K_X9_flow_204 {p : Program} {l : Launch} {e : Env} {R : Room} {s : State} {m : MethodId} {args : Array Value} {below : List Frame} {meth : Method} {c : Code} {D : va_G} {dA : Nat → ClassId} {base : Nat} {z : hp} (X : cx p s m args c cX9_flow RX9 3 D dA) (hret : meth.sig.returnType = none) (hlk : meth.locks = false) (hR : 4 ≤ R.frames ∧ 91 ≤ R.locals) {σ : hp} {H : Heap} {locs : List Loc} {ls : Array Slot} (hh : hw D dA base σ H) (hS : hs base s.heap H locs) (hl : lk ls 3 []) (h : S_X9_flow_204 σ = some z) : W p l e R s m args below meth c H locs 0 0 (MQ below (qG D dA base none z) args s 0 0 (fun q => base ≤ q)) (F0 m 204 ls []) := by
  unfold S_X9_flow_204 at h
  cases h
  exact q_vret X hret hlk hh hS dX9_flow_204
theorem ke_X9_flow_h0_b {rec0 : hp → Nat → Int32 → Option (hp)} {z : hp} (hm0 : ∀ (σ : hp) (t0 : Nat) (v1 : Int32), rec0 σ t0 v1 = some z → eq4 σ z) {σ : hp} {t0 : Nat} {v1 : Int32} (h : S_X9_flow_h0_b rec0 σ t0 v1 = some z) : eq4 σ z := by
  unfold S_X9_flow_h0_b at h
  obtain ⟨t1, e_t1, h⟩ := o_b h
  obtain ⟨t5, e_t5, h⟩ := o_b h
  by_cases c6 : t5 ≤ (0 : Int32)
  · rw [if_pos c6] at h
    exact (ke_X9_flow_204 h)
  · rw [if_neg c6] at h
    obtain ⟨t10, e_t10, h⟩ := o_b h
    obtain ⟨t14, e_t14, h⟩ := o_b h
    by_cases c16 : (3 : Int32) ≤ t14
    · rw [if_pos c16] at h
      exact (ke_X9_flow_204 h)
    · rw [if_neg c16] at h
      obtain ⟨t20, e_t20, h⟩ := o_b h
      obtain ⟨t24, e_t24, h⟩ := o_b h
      by_cases c25 : t24 = (0 : Int32)
      · rw [if_pos c25] at h
        obtain ⟨t29, e_t29, h⟩ := o_b h
        obtain ⟨s34, e_s34, h⟩ := o_b h
        exact ((e_stI e_s34)).tr (ke_X9_flow_35 hm0 h)
      · rw [if_neg c25] at h
        exact (ke_X9_flow_35 hm0 h)
theorem ke_X9_flow_h0 {z : hp} : ∀ (n : Nat) (σ : hp) (t0 : Nat) (v1 : Int32), S_X9_flow_h0 n σ t0 v1 = some z → eq4 σ z := by
  intro n
  induction n with
  | zero => intro σ t0 v1 h; cases h
  | succ n ih => intro σ t0 v1 h; exact ke_X9_flow_h0_b ih h
set_option maxHeartbeats 4000000 in
set_option maxRecDepth 100000 in
theorem K_X9_flow_h0_b {p : Program} {l : Launch} {e : Env} {R : Room} {s : State} {m : MethodId} {args : Array Value} {below : List Frame} {meth : Method} {c : Code} {D : va_G} {dA : Nat → ClassId} {base : Nat} {rec0 : hp → Nat → Int32 → Option (hp)} {z : hp} (X : cx p s m args c cX9_flow RX9 3 D dA) (hret : meth.sig.returnType = none) (hlk : meth.locks = false) (hR : 4 ≤ R.frames ∧ 91 ≤ R.locals) (hr0 : ∀ (σ : hp) (t0 : Nat) (v1 : Int32) (H : Heap) (locs : List Loc) (ls : Array Slot), hw D dA base σ H → hs base s.heap H locs → lk ls 3 [(0, .inr (some t0)), (1, .inl v1)] → rec0 σ t0 v1 = some z → W p l e R s m args below meth c H locs 0 0 (MQ below (qG D dA base none z) args s 0 0 (fun q => base ≤ q)) (F0 m 0 ls [])) {σ : hp} {t0 : Nat} {v1 : Int32} {H : Heap} {locs : List Loc} {ls : Array Slot} (hh : hw D dA base σ H) (hS : hs base s.heap H locs) (hl : lk ls 3 [(0, .inr (some t0)), (1, .inl v1)]) (h : S_X9_flow_h0_b rec0 σ t0 v1 = some z) : W p l e R s m args below meth c H locs 0 0 (MQ below (qG D dA base none z) args s 0 0 (fun q => base ≤ q)) (F0 m 0 ls []) := by
  unfold S_X9_flow_h0_b at h
  refine q_aload_n X dX9_flow_0 rfl hl 0 rfl ?_
  obtain ⟨t1, e_t1, h⟩ := o_b h
  refine q_gR X hh fa_X9_84 rfl e_t1 dX9_flow_1 ?_
  refine q_iload_n X dX9_flow_4 rfl hl 1 rfl ?_
  obtain ⟨t5, e_t5, h⟩ := o_b h
  refine q_ldI X hh e_t5 dX9_flow_5 ?_
  refine lv_if_le (tgt := 204) X.1 X.2.1 dX9_flow_6 (by decide) (fun c6 => ?_) (fun c6 => ?_)
  · rw [if_pos c6] at h
    exact K_X9_flow_204 X hret hlk hR hh hS (lk_sub hl [] rfl) h
  · rw [if_neg c6] at h
    refine q_aload_n X dX9_flow_9 rfl hl 0 rfl ?_
    obtain ⟨t10, e_t10, h⟩ := o_b h
    refine q_gR X hh fa_X9_75 rfl e_t10 dX9_flow_10 ?_
    refine q_iload_n X dX9_flow_13 rfl hl 1 rfl ?_
    obtain ⟨t14, e_t14, h⟩ := o_b h
    refine q_ldI X hh e_t14 dX9_flow_14 ?_
    refine lv_iconst (v := (3 : Int32)) X.1 X.2.1 dX9_flow_15 (by decide) ?_
    refine lv_icmp_ge (tgt := 204) X.1 X.2.1 dX9_flow_16 (by decide) (fun c16 => ?_) (fun c16 => ?_)
    · rw [if_pos c16] at h
      exact K_X9_flow_204 X hret hlk hR hh hS (lk_sub hl [] rfl) h
    · rw [if_neg c16] at h
      refine q_aload_n X dX9_flow_19 rfl hl 0 rfl ?_
      obtain ⟨t20, e_t20, h⟩ := o_b h
      refine q_gR X hh fa_X9_75 rfl e_t20 dX9_flow_20 ?_
      refine q_iload_n X dX9_flow_23 rfl hl 1 rfl ?_
      obtain ⟨t24, e_t24, h⟩ := o_b h
      refine q_ldI X hh e_t24 dX9_flow_24 ?_
      refine lv_if_ne (tgt := 35) X.1 X.2.1 dX9_flow_25 (by decide) (fun c25 => ?_) (fun c25 => ?_)
      · rw [if_neg c25] at h
        exact K_X9_flow_35 X hret hlk hR hr0 hh hS (lk_sub hl [0, 1] rfl) h
      · rw [if_pos c25] at h
        refine q_aload_n X dX9_flow_28 rfl hl 0 rfl ?_
        obtain ⟨t29, e_t29, h⟩ := o_b h
        refine q_gR X hh fa_X9_105 rfl e_t29 dX9_flow_29 ?_
        refine q_iload_n X dX9_flow_32 rfl hl 1 rfl ?_
        refine lv_iconst (v := (0 : Int32)) X.1 X.2.1 dX9_flow_33 (by decide) ?_
        obtain ⟨s34, e_s34, h⟩ := o_b h
        refine q_stI X hh hS e_s34 dX9_flow_34 (fun H locs hh hS => ?_)
        exact K_X9_flow_35 X hret hlk hR hr0 hh hS (lk_sub hl [0, 1] rfl) h
theorem K_X9_flow_h0 {p : Program} {l : Launch} {e : Env} {R : Room} {s : State} {m : MethodId} {args : Array Value} {below : List Frame} {meth : Method} {c : Code} {D : va_G} {dA : Nat → ClassId} {base : Nat} {z : hp} (X : cx p s m args c cX9_flow RX9 3 D dA) (hret : meth.sig.returnType = none) (hlk : meth.locks = false) (hR : 4 ≤ R.frames ∧ 91 ≤ R.locals) : ∀ (n : Nat) (σ : hp) (t0 : Nat) (v1 : Int32) (H : Heap) (locs : List Loc) (ls : Array Slot), hw D dA base σ H → hs base s.heap H locs → lk ls 3 [(0, .inr (some t0)), (1, .inl v1)] → S_X9_flow_h0 n σ t0 v1 = some z → W p l e R s m args below meth c H locs 0 0 (MQ below (qG D dA base none z) args s 0 0 (fun q => base ≤ q)) (F0 m 0 ls []) := by
  intro n
  induction n with
  | zero => intro σ t0 v1 H locs ls hh hS hl h; cases h
  | succ n ih => intro σ t0 v1 H locs ls hh hS hl h; exact K_X9_flow_h0_b X hret hlk hR ih hh hS hl h
theorem ke_X9_flow_0 {z : hp} {σ : hp} {t0 : Nat} {v1 : Int32} (h : S_X9_flow σ t0 v1 = some z) : eq4 σ z := ke_X9_flow_h0 FU _ _ _ h
set_option maxRecDepth 100000 in
theorem M_X9_flow (l : Launch) (D : va_G) (dA : Nat → ClassId) (base : Nat) (σ : hp) (t0 : Nat) (v1 : Int32) {z : hp} (h : S_X9_flow σ t0 v1 = some z) : mt l yX9_flow cX9_flow 3 (none) 4 91 D dA base σ [.ref t0, .int v1] none z 0 0 := by
  refine Met.ofW (cc := cX9_flow) (maxL := 3) (ret := none) (by decide) rfl ?_
  intro p e s m args below meth c s₁ B hml hv
  obtain ⟨rfl, hh, hK⟩ := hv
  have X : cx p s m ([.ref t0, .int v1] : List Value).toArray c cX9_flow RX9 3 D dA := ⟨B.exec, B.bytes, findClass_of_methodNamed B.named, hml, fun w hw => atoms_spec (ws := .code yX9_flow cX9_flow 3 (none) :: G) B.pre w (List.mem_cons_of_mem _ hw), hK⟩
  have hl := lk_entry [.inr (some t0), .inl v1] (n := 3) (Nat.le_of_ble_eq_true rfl)
  rw [lg_entry_eq]
  have hl : lk ((lg_sl ([.ref t0, .int v1] : List Value) ++ List.replicate (3 - (lg_sl ([.ref t0, .int v1] : List Value)).length) Slot.unset).toArray) 3 [(0, .inr (some t0)), (1, .inl v1)] := hl
  generalize (lg_sl ([.ref t0, .int v1] : List Value) ++ List.replicate (3 - (lg_sl ([.ref t0, .int v1] : List Value)).length) Slot.unset).toArray = ls at hl ⊢
  exact K_X9_flow_h0 X B.returns B.notSynchronized ⟨Nat.le_refl _, Nat.le_refl _⟩ FU _ _ _ _ _ _ hh va_S.rf hl h
theorem ke_X9_begin_2_b {rec2 : hp → Nat → Int32 → Int32 → Option (hp)} {z : hp} (hm2 : ∀ (σ : hp) (t0 : Nat) (v1 : Int32) (v2 : Int32), rec2 σ t0 v1 v2 = some z → eq4 σ z) {σ : hp} {t0 : Nat} {v1 : Int32} {v2 : Int32} (h : S_X9_begin_2_b rec2 σ t0 v1 v2 = some z) : eq4 σ z := by
  unfold S_X9_begin_2_b at h
  by_cases c5 : (32 : Int32) ≤ v2
  · rw [if_pos c5] at h
    obtain ⟨t22, e_t22, h⟩ := o_b h
    obtain ⟨s27, e_s27, h⟩ := o_b h
    obtain ⟨t29, e_t29, h⟩ := o_b h
    obtain ⟨s34, e_s34, h⟩ := o_b h
    cases h
    exact ((e_stI e_s27)).tr (e_stI e_s34)
  · rw [if_neg c5] at h
    obtain ⟨t9, e_t9, h⟩ := o_b h
    obtain ⟨s14, e_s14, h⟩ := o_b h
    exact ((e_stI e_s14)).tr (hm2 _ _ _ _ h)
theorem ke_X9_begin_2 {z : hp} : ∀ (n : Nat) (σ : hp) (t0 : Nat) (v1 : Int32) (v2 : Int32), S_X9_begin_2 n σ t0 v1 v2 = some z → eq4 σ z := by
  intro n
  induction n with
  | zero => intro σ t0 v1 v2 h; cases h
  | succ n ih => intro σ t0 v1 v2 h; exact ke_X9_begin_2_b ih h
set_option maxHeartbeats 4000000 in
set_option maxRecDepth 100000 in
theorem K_X9_begin_2_b {p : Program} {l : Launch} {e : Env} {R : Room} {s : State} {m : MethodId} {args : Array Value} {below : List Frame} {meth : Method} {c : Code} {D : va_G} {dA : Nat → ClassId} {base : Nat} {rec2 : hp → Nat → Int32 → Int32 → Option (hp)} {z : hp} (X : cx p s m args c cX9_begin RX9 3 D dA) (hret : meth.sig.returnType = none) (hlk : meth.locks = false) (hR : 0 ≤ R.frames ∧ 0 ≤ R.locals) (hr2 : ∀ (σ : hp) (t0 : Nat) (v1 : Int32) (v2 : Int32) (H : Heap) (locs : List Loc) (ls : Array Slot), hw D dA base σ H → hs base s.heap H locs → lk ls 3 [(0, .inr (some t0)), (1, .inl v1), (2, .inl v2)] → rec2 σ t0 v1 v2 = some z → W p l e R s m args below meth c H locs 0 0 (MQ below (qG D dA base none z) args s 0 0 (fun q => base ≤ q)) (F0 m 2 ls [])) {σ : hp} {t0 : Nat} {v1 : Int32} {v2 : Int32} {H : Heap} {locs : List Loc} {ls : Array Slot} (hh : hw D dA base σ H) (hS : hs base s.heap H locs) (hl : lk ls 3 [(0, .inr (some t0)), (1, .inl v1), (2, .inl v2)]) (h : S_X9_begin_2_b rec2 σ t0 v1 v2 = some z) : W p l e R s m args below meth c H locs 0 0 (MQ below (qG D dA base none z) args s 0 0 (fun q => base ≤ q)) (F0 m 2 ls []) := by
  unfold S_X9_begin_2_b at h
  refine q_iload_n X dX9_begin_2 rfl hl 2 rfl ?_
  refine lv_bipush (v := (32 : Int32)) X.1 X.2.1 dX9_begin_3 (by decide) ?_
  refine lv_icmp_ge (tgt := 21) X.1 X.2.1 dX9_begin_5 (by decide) (fun c5 => ?_) (fun c5 => ?_)
  · rw [if_pos c5] at h
    refine q_aload_n X dX9_begin_21 rfl hl 0 rfl ?_
    obtain ⟨t22, e_t22, h⟩ := o_b h
    refine q_gR X hh fa_X9_111 rfl e_t22 dX9_begin_22 ?_
    refine lv_iconst (v := (0 : Int32)) X.1 X.2.1 dX9_begin_25 (by decide) ?_
    refine lv_iconst (v := (1 : Int32)) X.1 X.2.1 dX9_begin_26 (by decide) ?_
    obtain ⟨s27, e_s27, h⟩ := o_b h
    refine q_stI X hh hS e_s27 dX9_begin_27 (fun H locs hh hS => ?_)
    refine q_aload_n X dX9_begin_28 rfl hl 0 rfl ?_
    obtain ⟨t29, e_t29, h⟩ := o_b h
    refine q_gR X hh fa_X9_111 rfl e_t29 dX9_begin_29 ?_
    refine lv_iconst (v := (1 : Int32)) X.1 X.2.1 dX9_begin_32 (by decide) ?_
    refine q_iload_n X dX9_begin_33 rfl hl 1 rfl ?_
    obtain ⟨s34, e_s34, h⟩ := o_b h
    refine q_stI X hh hS e_s34 dX9_begin_34 (fun H locs hh hS => ?_)
    cases h
    exact q_vret X hret hlk hh hS dX9_begin_35
  · rw [if_neg c5] at h
    refine q_aload_n X dX9_begin_8 rfl hl 0 rfl ?_
    obtain ⟨t9, e_t9, h⟩ := o_b h
    refine q_gR X hh fa_X9_111 rfl e_t9 dX9_begin_9 ?_
    refine q_iload_n X dX9_begin_12 rfl hl 2 rfl ?_
    refine lv_iconst (v := (0 : Int32)) X.1 X.2.1 dX9_begin_13 (by decide) ?_
    obtain ⟨s14, e_s14, h⟩ := o_b h
    refine q_stI X hh hS e_s14 dX9_begin_14 (fun H locs hh hS => ?_)
    refine q_iinc (v := (1 : Int32)) (lv' := [(2, .inl (v2 + (1 : Int32))), (0, .inr (some t0)), (1, .inl v1)]) X dX9_begin_15 hl 2 rfl (by decide) (by decide) rfl (fun ls hl => ?_)
    refine lv_goto (tgt := 2) X.1 X.2.1 dX9_begin_18 (by decide) ?_
    exact hr2 _ _ _ _ _ _ _ hh hS (lk_sub hl [1, 2, 0] rfl) h
theorem K_X9_begin_2 {p : Program} {l : Launch} {e : Env} {R : Room} {s : State} {m : MethodId} {args : Array Value} {below : List Frame} {meth : Method} {c : Code} {D : va_G} {dA : Nat → ClassId} {base : Nat} {z : hp} (X : cx p s m args c cX9_begin RX9 3 D dA) (hret : meth.sig.returnType = none) (hlk : meth.locks = false) (hR : 0 ≤ R.frames ∧ 0 ≤ R.locals) : ∀ (n : Nat) (σ : hp) (t0 : Nat) (v1 : Int32) (v2 : Int32) (H : Heap) (locs : List Loc) (ls : Array Slot), hw D dA base σ H → hs base s.heap H locs → lk ls 3 [(0, .inr (some t0)), (1, .inl v1), (2, .inl v2)] → S_X9_begin_2 n σ t0 v1 v2 = some z → W p l e R s m args below meth c H locs 0 0 (MQ below (qG D dA base none z) args s 0 0 (fun q => base ≤ q)) (F0 m 2 ls []) := by
  intro n
  induction n with
  | zero => intro σ t0 v1 v2 H locs ls hh hS hl h; cases h
  | succ n ih => intro σ t0 v1 v2 H locs ls hh hS hl h; exact K_X9_begin_2_b X hret hlk hR ih hh hS hl h
theorem ke_X9_begin_0 {z : hp} {σ : hp} {t0 : Nat} {v1 : Int32} (h : S_X9_begin σ t0 v1 = some z) : eq4 σ z := by
  unfold S_X9_begin at h
  exact (ke_X9_begin_2 FU _ _ _ _ h)
set_option maxHeartbeats 4000000 in
set_option maxRecDepth 100000 in
theorem K_X9_begin_0 {p : Program} {l : Launch} {e : Env} {R : Room} {s : State} {m : MethodId} {args : Array Value} {below : List Frame} {meth : Method} {c : Code} {D : va_G} {dA : Nat → ClassId} {base : Nat} {z : hp} (X : cx p s m args c cX9_begin RX9 3 D dA) (hret : meth.sig.returnType = none) (hlk : meth.locks = false) (hR : 0 ≤ R.frames ∧ 0 ≤ R.locals) {σ : hp} {t0 : Nat} {v1 : Int32} {H : Heap} {locs : List Loc} {ls : Array Slot} (hh : hw D dA base σ H) (hS : hs base s.heap H locs) (hl : lk ls 3 [(0, .inr (some t0)), (1, .inl v1)]) (h : S_X9_begin σ t0 v1 = some z) : W p l e R s m args below meth c H locs 0 0 (MQ below (qG D dA base none z) args s 0 0 (fun q => base ≤ q)) (F0 m 0 ls []) := by
  unfold S_X9_begin at h
  refine lv_iconst (v := (0 : Int32)) X.1 X.2.1 dX9_begin_0 (by decide) ?_
  refine q_istore_n (lv' := [(2, .inl (0 : Int32)), (0, .inr (some t0)), (1, .inl v1)]) X dX9_begin_1 rfl hl (by decide) rfl (fun ls hl => ?_)
  exact K_X9_begin_2 X hret hlk hR FU _ _ _ _ _ _ _ hh hS (lk_sub hl [1, 2, 0] rfl) h
set_option maxRecDepth 100000 in
theorem M_X9_begin (l : Launch) (D : va_G) (dA : Nat → ClassId) (base : Nat) (σ : hp) (t0 : Nat) (v1 : Int32) {z : hp} (h : S_X9_begin σ t0 v1 = some z) : mt l yX9_begin cX9_begin 3 (none) 0 0 D dA base σ [.ref t0, .int v1] none z 0 0 := by
  refine Met.ofW (cc := cX9_begin) (maxL := 3) (ret := none) (by decide) rfl ?_
  intro p e s m args below meth c s₁ B hml hv
  obtain ⟨rfl, hh, hK⟩ := hv
  have X : cx p s m ([.ref t0, .int v1] : List Value).toArray c cX9_begin RX9 3 D dA := ⟨B.exec, B.bytes, findClass_of_methodNamed B.named, hml, fun w hw => atoms_spec (ws := .code yX9_begin cX9_begin 3 (none) :: G) B.pre w (List.mem_cons_of_mem _ hw), hK⟩
  have hl := lk_entry [.inr (some t0), .inl v1] (n := 3) (Nat.le_of_ble_eq_true rfl)
  rw [lg_entry_eq]
  have hl : lk ((lg_sl ([.ref t0, .int v1] : List Value) ++ List.replicate (3 - (lg_sl ([.ref t0, .int v1] : List Value)).length) Slot.unset).toArray) 3 [(0, .inr (some t0)), (1, .inl v1)] := hl
  generalize (lg_sl ([.ref t0, .int v1] : List Value) ++ List.replicate (3 - (lg_sl ([.ref t0, .int v1] : List Value)).length) Slot.unset).toArray = ls at hl ⊢
  exact K_X9_begin_0 X B.returns B.notSynchronized ⟨Nat.le_refl _, Nat.le_refl _⟩ hh va_S.rf hl h
theorem ke_X9_more_0 {z : hp} {σ : hp} {t0 : Nat} {v1 : Int32} (h : S_X9_more σ t0 v1 = some z) : eq4 σ z := by
  unfold S_X9_more at h
  obtain ⟨t1, e_t1, h⟩ := o_b h
  obtain ⟨t6, e_t6, h⟩ := o_b h
  obtain ⟨s9, e_s9, h⟩ := o_b h
  obtain ⟨t11, e_t11, h⟩ := o_b h
  obtain ⟨t15, e_t15, h⟩ := o_b h
  obtain ⟨t19, e_t19, h⟩ := o_b h
  obtain ⟨s21, e_s21, h⟩ := o_b h
  cases h
  exact ((e_stI e_s9)).tr (e_stI e_s21)
set_option maxHeartbeats 4000000 in
set_option maxRecDepth 100000 in
theorem K_X9_more_0 {p : Program} {l : Launch} {e : Env} {R : Room} {s : State} {m : MethodId} {args : Array Value} {below : List Frame} {meth : Method} {c : Code} {D : va_G} {dA : Nat → ClassId} {base : Nat} {z : hp} (X : cx p s m args c cX9_more RX9 2 D dA) (hret : meth.sig.returnType = none) (hlk : meth.locks = false) (hR : 0 ≤ R.frames ∧ 0 ≤ R.locals) {σ : hp} {t0 : Nat} {v1 : Int32} {H : Heap} {locs : List Loc} {ls : Array Slot} (hh : hw D dA base σ H) (hS : hs base s.heap H locs) (hl : lk ls 2 [(0, .inr (some t0)), (1, .inl v1)]) (h : S_X9_more σ t0 v1 = some z) : W p l e R s m args below meth c H locs 0 0 (MQ below (qG D dA base none z) args s 0 0 (fun q => base ≤ q)) (F0 m 0 ls []) := by
  unfold S_X9_more at h
  refine q_aload_n X dX9_more_0 rfl hl 0 rfl ?_
  obtain ⟨t1, e_t1, h⟩ := o_b h
  refine q_gR X hh fa_X9_111 rfl e_t1 dX9_more_1 ?_
  refine lv_iconst (v := (0 : Int32)) X.1 X.2.1 dX9_more_4 (by decide) ?_
  refine lv_dup2_11 X.1 X.2.1 dX9_more_5 (vv_cat (.inl (0 : Int32))) (vv_cat (.inr t1)) ?_
  obtain ⟨t6, e_t6, h⟩ := o_b h
  refine q_ldI X hh e_t6 dX9_more_6 ?_
  refine lv_iconst (v := (1 : Int32)) X.1 X.2.1 dX9_more_7 (by decide) ?_
  refine lv_iadd X.1 X.2.1 dX9_more_8 ?_
  obtain ⟨s9, e_s9, h⟩ := o_b h
  refine q_stI X hh hS e_s9 dX9_more_9 (fun H locs hh hS => ?_)
  refine q_aload_n X dX9_more_10 rfl hl 0 rfl ?_
  obtain ⟨t11, e_t11, h⟩ := o_b h
  refine q_gR X hh fa_X9_111 rfl e_t11 dX9_more_11 ?_
  refine q_aload_n X dX9_more_14 rfl hl 0 rfl ?_
  obtain ⟨t15, e_t15, h⟩ := o_b h
  refine q_gR X hh fa_X9_111 rfl e_t15 dX9_more_15 ?_
  refine lv_iconst (v := (0 : Int32)) X.1 X.2.1 dX9_more_18 (by decide) ?_
  obtain ⟨t19, e_t19, h⟩ := o_b h
  refine q_ldI X hh e_t19 dX9_more_19 ?_
  refine q_iload_n X dX9_more_20 rfl hl 1 rfl ?_
  obtain ⟨s21, e_s21, h⟩ := o_b h
  refine q_stI X hh hS e_s21 dX9_more_21 (fun H locs hh hS => ?_)
  cases h
  exact q_vret X hret hlk hh hS dX9_more_22
set_option maxRecDepth 100000 in
theorem M_X9_more (l : Launch) (D : va_G) (dA : Nat → ClassId) (base : Nat) (σ : hp) (t0 : Nat) (v1 : Int32) {z : hp} (h : S_X9_more σ t0 v1 = some z) : mt l yX9_more cX9_more 2 (none) 0 0 D dA base σ [.ref t0, .int v1] none z 0 0 := by
  refine Met.ofW (cc := cX9_more) (maxL := 2) (ret := none) (by decide) rfl ?_
  intro p e s m args below meth c s₁ B hml hv
  obtain ⟨rfl, hh, hK⟩ := hv
  have X : cx p s m ([.ref t0, .int v1] : List Value).toArray c cX9_more RX9 2 D dA := ⟨B.exec, B.bytes, findClass_of_methodNamed B.named, hml, fun w hw => atoms_spec (ws := .code yX9_more cX9_more 2 (none) :: G) B.pre w (List.mem_cons_of_mem _ hw), hK⟩
  have hl := lk_entry [.inr (some t0), .inl v1] (n := 2) (Nat.le_of_ble_eq_true rfl)
  rw [lg_entry_eq]
  have hl : lk ((lg_sl ([.ref t0, .int v1] : List Value) ++ List.replicate (2 - (lg_sl ([.ref t0, .int v1] : List Value)).length) Slot.unset).toArray) 2 [(0, .inr (some t0)), (1, .inl v1)] := hl
  generalize (lg_sl ([.ref t0, .int v1] : List Value) ++ List.replicate (2 - (lg_sl ([.ref t0, .int v1] : List Value)).length) Slot.unset).toArray = ls at hl ⊢
  exact K_X9_more_0 X B.returns B.notSynchronized ⟨Nat.le_refl _, Nat.le_refl _⟩ hh va_S.rf hl h
theorem ke_X9_send_14_b {rec14 : hp → Nat → Int32 → Int32 → Option (hp)} {z : hp} (hm14 : ∀ (σ : hp) (t0 : Nat) (v1 : Int32) (v2 : Int32), rec14 σ t0 v1 v2 = some z → eq4 σ z) {σ : hp} {t0 : Nat} {v1 : Int32} {v2 : Int32} (h : S_X9_send_14_b rec14 σ t0 v1 v2 = some z) : eq4 σ z := by
  unfold S_X9_send_14_b at h
  by_cases c17 : (32 : Int32) ≤ v2
  · rw [if_pos c17] at h
    obtain ⟨t55, e_t55, h⟩ := o_b h
    obtain ⟨t60, e_t60, h⟩ := o_b h
    obtain ⟨s63, e_s63, h⟩ := o_b h
    obtain ⟨b66, e_b66, h⟩ := o_b h
    obtain ⟨q66, e_q66, h⟩ := o_b h
    cases h
    exact ((e_stI e_s63)).tr (ke_X9_flow_0 e_q66)
  · rw [if_neg c17] at h
    obtain ⟨t21, e_t21, h⟩ := o_b h
    obtain ⟨t32, e_t32, h⟩ := o_b h
    obtain ⟨t36, e_t36, h⟩ := o_b h
    obtain ⟨t42, e_t42, h⟩ := o_b h
    obtain ⟨t46, e_t46, h⟩ := o_b h
    obtain ⟨s47, e_s47, h⟩ := o_b h
    exact ((e_stI e_s47)).tr (hm14 _ _ _ _ h)
theorem ke_X9_send_14 {z : hp} : ∀ (n : Nat) (σ : hp) (t0 : Nat) (v1 : Int32) (v2 : Int32), S_X9_send_14 n σ t0 v1 v2 = some z → eq4 σ z := by
  intro n
  induction n with
  | zero => intro σ t0 v1 v2 h; cases h
  | succ n ih => intro σ t0 v1 v2 h; exact ke_X9_send_14_b ih h
set_option maxHeartbeats 4000000 in
set_option maxRecDepth 100000 in
theorem K_X9_send_14_b {p : Program} {l : Launch} {e : Env} {R : Room} {s : State} {m : MethodId} {args : Array Value} {below : List Frame} {meth : Method} {c : Code} {D : va_G} {dA : Nat → ClassId} {base : Nat} {rec14 : hp → Nat → Int32 → Int32 → Option (hp)} {z : hp} (X : cx p s m args c cX9_send RX9 3 D dA) (hret : meth.sig.returnType = none) (hlk : meth.locks = false) (hR : 5 ≤ R.frames ∧ 113 ≤ R.locals) (hr14 : ∀ (σ : hp) (t0 : Nat) (v1 : Int32) (v2 : Int32) (H : Heap) (locs : List Loc) (ls : Array Slot), hw D dA base σ H → hs base s.heap H locs → lk ls 3 [(0, .inr (some t0)), (1, .inl v1), (2, .inl v2)] → rec14 σ t0 v1 v2 = some z → W p l e R s m args below meth c H locs 0 0 (MQ below (qG D dA base none z) args s 0 0 (fun q => base ≤ q)) (F0 m 14 ls [])) {σ : hp} {t0 : Nat} {v1 : Int32} {v2 : Int32} {H : Heap} {locs : List Loc} {ls : Array Slot} (hh : hw D dA base σ H) (hS : hs base s.heap H locs) (hl : lk ls 3 [(0, .inr (some t0)), (1, .inl v1), (2, .inl v2)]) (h : S_X9_send_14_b rec14 σ t0 v1 v2 = some z) : W p l e R s m args below meth c H locs 0 0 (MQ below (qG D dA base none z) args s 0 0 (fun q => base ≤ q)) (F0 m 14 ls []) := by
  unfold S_X9_send_14_b at h
  refine q_iload_n X dX9_send_14 rfl hl 2 rfl ?_
  refine lv_bipush (v := (32 : Int32)) X.1 X.2.1 dX9_send_15 (by decide) ?_
  refine lv_icmp_ge (tgt := 54) X.1 X.2.1 dX9_send_17 (by decide) (fun c17 => ?_) (fun c17 => ?_)
  · rw [if_pos c17] at h
    refine q_aload_n X dX9_send_54 rfl hl 0 rfl ?_
    obtain ⟨t55, e_t55, h⟩ := o_b h
    refine q_gR X hh fa_X9_84 rfl e_t55 dX9_send_55 ?_
    refine q_iload_n X dX9_send_58 rfl hl 1 rfl ?_
    refine lv_dup2_11 X.1 X.2.1 dX9_send_59 (vv_cat (.inl v1)) (vv_cat (.inr t55)) ?_
    obtain ⟨t60, e_t60, h⟩ := o_b h
    refine q_ldI X hh e_t60 dX9_send_60 ?_
    refine lv_iconst (v := (1 : Int32)) X.1 X.2.1 dX9_send_61 (by decide) ?_
    refine lv_iadd X.1 X.2.1 dX9_send_62 ?_
    obtain ⟨s63, e_s63, h⟩ := o_b h
    refine q_stI X hh hS e_s63 dX9_send_63 (fun H locs hh hS => ?_)
    refine q_aload_n X dX9_send_64 rfl hl 0 rfl ?_
    refine q_iload_n X dX9_send_65 rfl hl 1 rfl ?_
    obtain ⟨b66, e_b66, h⟩ := o_b h
    obtain ⟨q66, e_q66, h⟩ := o_b h
    refine q_cV (As := [.int v1]) X hh hS hl cf_X9_148 (cN := 9) rfl rfl e_b66 rfl (M_X9_flow l D dA base s63 b66 v1 e_q66) ⟨Nat.le_trans (by decide) hR.1, Nat.le_trans (by decide) hR.2⟩ (cat8 [] (Nat.le_of_ble_eq_true rfl)) dX9_send_66 ⟨Nat.zero_le _, Nat.zero_le _⟩ rfl rfl (fun H locs hh hS => ?_)
    cases h
    exact q_vret X hret hlk hh hS dX9_send_69
  · rw [if_neg c17] at h
    refine q_aload_n X dX9_send_20 rfl hl 0 rfl ?_
    obtain ⟨t21, e_t21, h⟩ := o_b h
    refine q_gR X hh fa_X9_87 rfl e_t21 dX9_send_21 ?_
    refine lv_sipush (v := (512 : Int32)) X.1 X.2.1 dX9_send_24 (by decide) ?_
    refine q_iload_n X dX9_send_27 rfl hl 1 rfl ?_
    refine lv_imul X.1 X.2.1 dX9_send_28 ?_
    refine lv_bipush (v := (32 : Int32)) X.1 X.2.1 dX9_send_29 (by decide) ?_
    refine q_aload_n X dX9_send_31 rfl hl 0 rfl ?_
    obtain ⟨t32, e_t32, h⟩ := o_b h
    refine q_gR X hh fa_X9_84 rfl e_t32 dX9_send_32 ?_
    refine q_iload_n X dX9_send_35 rfl hl 1 rfl ?_
    obtain ⟨t36, e_t36, h⟩ := o_b h
    refine q_ldI X hh e_t36 dX9_send_36 ?_
    refine lv_imul X.1 X.2.1 dX9_send_37 ?_
    refine lv_iadd X.1 X.2.1 dX9_send_38 ?_
    refine q_iload_n X dX9_send_39 rfl hl 2 rfl ?_
    refine lv_iadd X.1 X.2.1 dX9_send_40 ?_
    refine q_aload_n X dX9_send_41 rfl hl 0 rfl ?_
    obtain ⟨t42, e_t42, h⟩ := o_b h
    refine q_gR X hh fa_X9_111 rfl e_t42 dX9_send_42 ?_
    refine q_iload_n X dX9_send_45 rfl hl 2 rfl ?_
    obtain ⟨t46, e_t46, h⟩ := o_b h
    refine q_ldI X hh e_t46 dX9_send_46 ?_
    obtain ⟨s47, e_s47, h⟩ := o_b h
    refine q_stI X hh hS e_s47 dX9_send_47 (fun H locs hh hS => ?_)
    refine q_iinc (v := (1 : Int32)) (lv' := [(2, .inl (v2 + (1 : Int32))), (0, .inr (some t0)), (1, .inl v1)]) X dX9_send_48 hl 2 rfl (by decide) (by decide) rfl (fun ls hl => ?_)
    refine lv_goto (tgt := 14) X.1 X.2.1 dX9_send_51 (by decide) ?_
    exact hr14 _ _ _ _ _ _ _ hh hS (lk_sub hl [1, 2, 0] rfl) h
theorem K_X9_send_14 {p : Program} {l : Launch} {e : Env} {R : Room} {s : State} {m : MethodId} {args : Array Value} {below : List Frame} {meth : Method} {c : Code} {D : va_G} {dA : Nat → ClassId} {base : Nat} {z : hp} (X : cx p s m args c cX9_send RX9 3 D dA) (hret : meth.sig.returnType = none) (hlk : meth.locks = false) (hR : 5 ≤ R.frames ∧ 113 ≤ R.locals) : ∀ (n : Nat) (σ : hp) (t0 : Nat) (v1 : Int32) (v2 : Int32) (H : Heap) (locs : List Loc) (ls : Array Slot), hw D dA base σ H → hs base s.heap H locs → lk ls 3 [(0, .inr (some t0)), (1, .inl v1), (2, .inl v2)] → S_X9_send_14 n σ t0 v1 v2 = some z → W p l e R s m args below meth c H locs 0 0 (MQ below (qG D dA base none z) args s 0 0 (fun q => base ≤ q)) (F0 m 14 ls []) := by
  intro n
  induction n with
  | zero => intro σ t0 v1 v2 H locs ls hh hS hl h; cases h
  | succ n ih => intro σ t0 v1 v2 H locs ls hh hS hl h; exact K_X9_send_14_b X hret hlk hR ih hh hS hl h
theorem ke_X9_send_0 {z : hp} {σ : hp} {t0 : Nat} {v1 : Int32} (h : S_X9_send σ t0 v1 = some z) : eq4 σ z := by
  unfold S_X9_send at h
  obtain ⟨t1, e_t1, h⟩ := o_b h
  obtain ⟨t5, e_t5, h⟩ := o_b h
  by_cases c8 : t5 = (16 : Int32)
  · rw [if_pos c8] at h
    cases h
    exact eq4.rf _
  · rw [if_neg c8] at h
    exact (ke_X9_send_14 FU _ _ _ _ h)
set_option maxHeartbeats 4000000 in
set_option maxRecDepth 100000 in
theorem K_X9_send_0 {p : Program} {l : Launch} {e : Env} {R : Room} {s : State} {m : MethodId} {args : Array Value} {below : List Frame} {meth : Method} {c : Code} {D : va_G} {dA : Nat → ClassId} {base : Nat} {z : hp} (X : cx p s m args c cX9_send RX9 3 D dA) (hret : meth.sig.returnType = none) (hlk : meth.locks = false) (hR : 5 ≤ R.frames ∧ 113 ≤ R.locals) {σ : hp} {t0 : Nat} {v1 : Int32} {H : Heap} {locs : List Loc} {ls : Array Slot} (hh : hw D dA base σ H) (hS : hs base s.heap H locs) (hl : lk ls 3 [(0, .inr (some t0)), (1, .inl v1)]) (h : S_X9_send σ t0 v1 = some z) : W p l e R s m args below meth c H locs 0 0 (MQ below (qG D dA base none z) args s 0 0 (fun q => base ≤ q)) (F0 m 0 ls []) := by
  unfold S_X9_send at h
  refine q_aload_n X dX9_send_0 rfl hl 0 rfl ?_
  obtain ⟨t1, e_t1, h⟩ := o_b h
  refine q_gR X hh fa_X9_84 rfl e_t1 dX9_send_1 ?_
  refine q_iload_n X dX9_send_4 rfl hl 1 rfl ?_
  obtain ⟨t5, e_t5, h⟩ := o_b h
  refine q_ldI X hh e_t5 dX9_send_5 ?_
  refine lv_bipush (v := (16 : Int32)) X.1 X.2.1 dX9_send_6 (by decide) ?_
  refine lv_icmp_ne (tgt := 12) X.1 X.2.1 dX9_send_8 (by decide) (fun c8 => ?_) (fun c8 => ?_)
  · rw [if_neg c8] at h
    refine lv_iconst (v := (0 : Int32)) X.1 X.2.1 dX9_send_12 (by decide) ?_
    refine q_istore_n (lv' := [(2, .inl (0 : Int32)), (0, .inr (some t0)), (1, .inl v1)]) X dX9_send_13 rfl hl (by decide) rfl (fun ls hl => ?_)
    exact K_X9_send_14 X hret hlk hR FU _ _ _ _ _ _ _ hh hS (lk_sub hl [1, 2, 0] rfl) h
  · rw [if_pos c8] at h
    cases h
    exact q_vret X hret hlk hh hS dX9_send_11
set_option maxRecDepth 100000 in
theorem M_X9_send (l : Launch) (D : va_G) (dA : Nat → ClassId) (base : Nat) (σ : hp) (t0 : Nat) (v1 : Int32) {z : hp} (h : S_X9_send σ t0 v1 = some z) : mt l yX9_send cX9_send 3 (none) 5 113 D dA base σ [.ref t0, .int v1] none z 0 0 := by
  refine Met.ofW (cc := cX9_send) (maxL := 3) (ret := none) (by decide) rfl ?_
  intro p e s m args below meth c s₁ B hml hv
  obtain ⟨rfl, hh, hK⟩ := hv
  have X : cx p s m ([.ref t0, .int v1] : List Value).toArray c cX9_send RX9 3 D dA := ⟨B.exec, B.bytes, findClass_of_methodNamed B.named, hml, fun w hw => atoms_spec (ws := .code yX9_send cX9_send 3 (none) :: G) B.pre w (List.mem_cons_of_mem _ hw), hK⟩
  have hl := lk_entry [.inr (some t0), .inl v1] (n := 3) (Nat.le_of_ble_eq_true rfl)
  rw [lg_entry_eq]
  have hl : lk ((lg_sl ([.ref t0, .int v1] : List Value) ++ List.replicate (3 - (lg_sl ([.ref t0, .int v1] : List Value)).length) Slot.unset).toArray) 3 [(0, .inr (some t0)), (1, .inl v1)] := hl
  generalize (lg_sl ([.ref t0, .int v1] : List Value) ++ List.replicate (3 - (lg_sl ([.ref t0, .int v1] : List Value)).length) Slot.unset).toArray = ls at hl ⊢
  exact K_X9_send_0 X B.returns B.notSynchronized ⟨Nat.le_refl _, Nat.le_refl _⟩ hh va_S.rf hl h
theorem ke_X9_say_0 {z : hp} {σ : hp} {t0 : Nat} {v1 : Int32} {v2 : Int32} (h : S_X9_say σ t0 v1 v2 = some z) : eq4 σ z := by
  unfold S_X9_say at h
  obtain ⟨b2, e_b2, h⟩ := o_b h
  obtain ⟨q2, e_q2, h⟩ := o_b h
  obtain ⟨b7, e_b7, h⟩ := o_b h
  obtain ⟨q7, e_q7, h⟩ := o_b h
  cases h
  exact ((ke_X9_begin_0 e_q2)).tr (ke_X9_send_0 e_q7)
set_option maxHeartbeats 4000000 in
set_option maxRecDepth 100000 in
theorem K_X9_say_0 {p : Program} {l : Launch} {e : Env} {R : Room} {s : State} {m : MethodId} {args : Array Value} {below : List Frame} {meth : Method} {c : Code} {D : va_G} {dA : Nat → ClassId} {base : Nat} {z : hp} (X : cx p s m args c cX9_say RX9 3 D dA) (hret : meth.sig.returnType = none) (hlk : meth.locks = false) (hR : 6 ≤ R.frames ∧ 135 ≤ R.locals) {σ : hp} {t0 : Nat} {v1 : Int32} {v2 : Int32} {H : Heap} {locs : List Loc} {ls : Array Slot} (hh : hw D dA base σ H) (hS : hs base s.heap H locs) (hl : lk ls 3 [(0, .inr (some t0)), (1, .inl v1), (2, .inl v2)]) (h : S_X9_say σ t0 v1 v2 = some z) : W p l e R s m args below meth c H locs 0 0 (MQ below (qG D dA base none z) args s 0 0 (fun q => base ≤ q)) (F0 m 0 ls []) := by
  unfold S_X9_say at h
  refine q_aload_n X dX9_say_0 rfl hl 0 rfl ?_
  refine q_iload_n X dX9_say_1 rfl hl 2 rfl ?_
  obtain ⟨b2, e_b2, h⟩ := o_b h
  obtain ⟨q2, e_q2, h⟩ := o_b h
  refine q_cV (As := [.int v2]) X hh hS hl cf_X9_151 (cN := 9) rfl rfl e_b2 rfl (M_X9_begin l D dA base σ b2 v2 e_q2) ⟨Nat.le_trans (by decide) hR.1, Nat.le_trans (by decide) hR.2⟩ (cat8 [] (Nat.le_of_ble_eq_true rfl)) dX9_say_2 ⟨Nat.zero_le _, Nat.zero_le _⟩ rfl rfl (fun H locs hh hS => ?_)
  refine q_aload_n X dX9_say_5 rfl hl 0 rfl ?_
  refine q_iload_n X dX9_say_6 rfl hl 1 rfl ?_
  obtain ⟨b7, e_b7, h⟩ := o_b h
  obtain ⟨q7, e_q7, h⟩ := o_b h
  refine q_cV (As := [.int v1]) X hh hS hl cf_X9_154 (cN := 9) rfl rfl e_b7 rfl (M_X9_send l D dA base q2 b7 v1 e_q7) ⟨Nat.le_trans (by decide) hR.1, Nat.le_trans (by decide) hR.2⟩ (cat8 [] (Nat.le_of_ble_eq_true rfl)) dX9_say_7 ⟨Nat.zero_le _, Nat.zero_le _⟩ rfl rfl (fun H locs hh hS => ?_)
  cases h
  exact q_vret X hret hlk hh hS dX9_say_10
set_option maxRecDepth 100000 in
theorem M_X9_say (l : Launch) (D : va_G) (dA : Nat → ClassId) (base : Nat) (σ : hp) (t0 : Nat) (v1 : Int32) (v2 : Int32) {z : hp} (h : S_X9_say σ t0 v1 v2 = some z) : mt l yX9_say cX9_say 3 (none) 6 135 D dA base σ [.ref t0, .int v1, .int v2] none z 0 0 := by
  refine Met.ofW (cc := cX9_say) (maxL := 3) (ret := none) (by decide) rfl ?_
  intro p e s m args below meth c s₁ B hml hv
  obtain ⟨rfl, hh, hK⟩ := hv
  have X : cx p s m ([.ref t0, .int v1, .int v2] : List Value).toArray c cX9_say RX9 3 D dA := ⟨B.exec, B.bytes, findClass_of_methodNamed B.named, hml, fun w hw => atoms_spec (ws := .code yX9_say cX9_say 3 (none) :: G) B.pre w (List.mem_cons_of_mem _ hw), hK⟩
  have hl := lk_entry [.inr (some t0), .inl v1, .inl v2] (n := 3) (Nat.le_of_ble_eq_true rfl)
  rw [lg_entry_eq]
  have hl : lk ((lg_sl ([.ref t0, .int v1, .int v2] : List Value) ++ List.replicate (3 - (lg_sl ([.ref t0, .int v1, .int v2] : List Value)).length) Slot.unset).toArray) 3 [(0, .inr (some t0)), (1, .inl v1), (2, .inl v2)] := hl
  generalize (lg_sl ([.ref t0, .int v1, .int v2] : List Value) ++ List.replicate (3 - (lg_sl ([.ref t0, .int v1, .int v2] : List Value)).length) Slot.unset).toArray = ls at hl ⊢
  exact K_X9_say_0 X B.returns B.notSynchronized ⟨Nat.le_refl _, Nat.le_refl _⟩ hh va_S.rf hl h
theorem ke_X9_goOn_0 {z : hp} {σ : hp} {t0 : Nat} {v1 : Int32} (h : S_X9_goOn σ t0 v1 = some z) : eq4 σ z := by
  unfold S_X9_goOn at h
  obtain ⟨t1, e_t1, h⟩ := o_b h
  obtain ⟨t5, e_t5, h⟩ := o_b h
  by_cases c6 : t5 = (0 : Int32)
  · rw [if_pos c6] at h
    obtain ⟨b13, e_b13, h⟩ := o_b h
    obtain ⟨q13, e_q13, h⟩ := o_b h
    cases h
    exact (ke_X9_say_0 e_q13)
  · rw [if_neg c6] at h
    obtain ⟨t18, e_t18, h⟩ := o_b h
    obtain ⟨t25, e_t25, h⟩ := o_b h
    obtain ⟨b30, e_b30, h⟩ := o_b h
    obtain ⟨q30, e_q30, h⟩ := o_b h
    obtain ⟨b35, e_b35, h⟩ := o_b h
    obtain ⟨q35, e_q35, h⟩ := o_b h
    obtain ⟨t40, e_t40, h⟩ := o_b h
    obtain ⟨t49, e_t49, h⟩ := o_b h
    obtain ⟨b50, e_b50, h⟩ := o_b h
    obtain ⟨q50, e_q50, h⟩ := o_b h
    obtain ⟨b55, e_b55, h⟩ := o_b h
    obtain ⟨q55, e_q55, h⟩ := o_b h
    cases h
    exact ((((ke_X9_begin_0 e_q30)).tr (ke_X9_more_0 e_q35)).tr (ke_X9_more_0 e_q50)).tr (ke_X9_send_0 e_q55)
set_option maxHeartbeats 4000000 in
set_option maxRecDepth 100000 in
theorem K_X9_goOn_0 {p : Program} {l : Launch} {e : Env} {R : Room} {s : State} {m : MethodId} {args : Array Value} {below : List Frame} {meth : Method} {c : Code} {D : va_G} {dA : Nat → ClassId} {base : Nat} {z : hp} (X : cx p s m args c cX9_goOn RX9 3 D dA) (hret : meth.sig.returnType = none) (hlk : meth.locks = false) (hR : 7 ≤ R.frames ∧ 157 ≤ R.locals) {σ : hp} {t0 : Nat} {v1 : Int32} {H : Heap} {locs : List Loc} {ls : Array Slot} (hh : hw D dA base σ H) (hS : hs base s.heap H locs) (hl : lk ls 3 [(0, .inr (some t0)), (1, .inl v1)]) (h : S_X9_goOn σ t0 v1 = some z) : W p l e R s m args below meth c H locs 0 0 (MQ below (qG D dA base none z) args s 0 0 (fun q => base ≤ q)) (F0 m 0 ls []) := by
  unfold S_X9_goOn at h
  refine q_aload_n X dX9_goOn_0 rfl hl 0 rfl ?_
  obtain ⟨t1, e_t1, h⟩ := o_b h
  refine q_gR X hh fa_X9_19 rfl e_t1 dX9_goOn_1 ?_
  refine q_iload_n X dX9_goOn_4 rfl hl 1 rfl ?_
  obtain ⟨t5, e_t5, h⟩ := o_b h
  refine q_ldI X hh e_t5 dX9_goOn_5 ?_
  refine lv_if_ne (tgt := 17) X.1 X.2.1 dX9_goOn_6 (by decide) (fun c6 => ?_) (fun c6 => ?_)
  · rw [if_neg c6] at h
    refine q_aload_n X dX9_goOn_17 rfl hl 0 rfl ?_
    obtain ⟨t18, e_t18, h⟩ := o_b h
    refine q_gR X hh fa_X9_22 rfl e_t18 dX9_goOn_18 ?_
    refine lv_bipush (v := (30 : Int32)) X.1 X.2.1 dX9_goOn_21 (by decide) ?_
    refine q_iload_n X dX9_goOn_23 rfl hl 1 rfl ?_
    refine lv_imul X.1 X.2.1 dX9_goOn_24 ?_
    obtain ⟨t25, e_t25, h⟩ := o_b h
    refine q_ldI X hh e_t25 dX9_goOn_25 ?_
    refine q_istore_n (lv' := [(2, .inl t25), (0, .inr (some t0)), (1, .inl v1)]) X dX9_goOn_26 rfl hl (by decide) rfl (fun ls hl => ?_)
    refine q_aload_n X dX9_goOn_27 rfl hl 1 rfl ?_
    refine lv_bipush (v := (83 : Int32)) X.1 X.2.1 dX9_goOn_28 (by decide) ?_
    obtain ⟨b30, e_b30, h⟩ := o_b h
    obtain ⟨q30, e_q30, h⟩ := o_b h
    refine q_cV (As := [.int (83 : Int32)]) X hh hS hl cf_X9_151 (cN := 9) rfl rfl e_b30 rfl (M_X9_begin l D dA base σ b30 (83 : Int32) e_q30) ⟨Nat.le_trans (by decide) hR.1, Nat.le_trans (by decide) hR.2⟩ (cat8 [] (Nat.le_of_ble_eq_true rfl)) dX9_goOn_30 ⟨Nat.zero_le _, Nat.zero_le _⟩ rfl rfl (fun H locs hh hS => ?_)
    refine q_aload_n X dX9_goOn_33 rfl hl 1 rfl ?_
    refine q_iload_n X dX9_goOn_34 rfl hl 0 rfl ?_
    obtain ⟨b35, e_b35, h⟩ := o_b h
    obtain ⟨q35, e_q35, h⟩ := o_b h
    refine q_cV (As := [.int t25]) X hh hS hl cf_X9_160 (cN := 9) rfl rfl e_b35 rfl (M_X9_more l D dA base q30 b35 t25 e_q35) ⟨Nat.le_trans (by decide) hR.1, Nat.le_trans (by decide) hR.2⟩ (cat8 [] (Nat.le_of_ble_eq_true rfl)) dX9_goOn_35 ⟨Nat.zero_le _, Nat.zero_le _⟩ rfl rfl (fun H locs hh hS => ?_)
    refine q_aload_n X dX9_goOn_38 rfl hl 1 rfl ?_
    refine q_aload_n X dX9_goOn_39 rfl hl 1 rfl ?_
    obtain ⟨t40, e_t40, h⟩ := o_b h
    refine q_gR X hh fa_X9_13 rfl e_t40 dX9_goOn_40 ?_
    refine lv_bipush (v := (30 : Int32)) X.1 X.2.1 dX9_goOn_43 (by decide) ?_
    refine q_iload_n X dX9_goOn_45 rfl hl 2 rfl ?_
    refine lv_imul X.1 X.2.1 dX9_goOn_46 ?_
    refine q_iload_n X dX9_goOn_47 rfl hl 0 rfl ?_
    refine lv_iadd X.1 X.2.1 dX9_goOn_48 ?_
    obtain ⟨t49, e_t49, h⟩ := o_b h
    refine q_ldI X hh e_t49 dX9_goOn_49 ?_
    obtain ⟨b50, e_b50, h⟩ := o_b h
    obtain ⟨q50, e_q50, h⟩ := o_b h
    refine q_cV (As := [.int t49]) X hh hS hl cf_X9_160 (cN := 9) rfl rfl e_b50 rfl (M_X9_more l D dA base q35 b50 t49 e_q50) ⟨Nat.le_trans (by decide) hR.1, Nat.le_trans (by decide) hR.2⟩ (cat8 [] (Nat.le_of_ble_eq_true rfl)) dX9_goOn_50 ⟨Nat.zero_le _, Nat.zero_le _⟩ rfl rfl (fun H locs hh hS => ?_)
    refine q_aload_n X dX9_goOn_53 rfl hl 1 rfl ?_
    refine q_iload_n X dX9_goOn_54 rfl hl 2 rfl ?_
    obtain ⟨b55, e_b55, h⟩ := o_b h
    obtain ⟨q55, e_q55, h⟩ := o_b h
    refine q_cV (As := [.int v1]) X hh hS hl cf_X9_154 (cN := 9) rfl rfl e_b55 rfl (M_X9_send l D dA base q50 b55 v1 e_q55) ⟨Nat.le_trans (by decide) hR.1, Nat.le_trans (by decide) hR.2⟩ (cat8 [] (Nat.le_of_ble_eq_true rfl)) dX9_goOn_55 ⟨Nat.zero_le _, Nat.zero_le _⟩ rfl rfl (fun H locs hh hS => ?_)
    cases h
    exact q_vret X hret hlk hh hS dX9_goOn_58
  · rw [if_pos c6] at h
    refine q_aload_n X dX9_goOn_9 rfl hl 0 rfl ?_
    refine q_iload_n X dX9_goOn_10 rfl hl 1 rfl ?_
    refine lv_bipush (v := (72 : Int32)) X.1 X.2.1 dX9_goOn_11 (by decide) ?_
    obtain ⟨b13, e_b13, h⟩ := o_b h
    obtain ⟨q13, e_q13, h⟩ := o_b h
    refine q_cV (As := [.int v1, .int (72 : Int32)]) X hh hS hl cf_X9_157 (cN := 9) rfl rfl e_b13 rfl (M_X9_say l D dA base σ b13 v1 (72 : Int32) e_q13) ⟨Nat.le_trans (by decide) hR.1, Nat.le_trans (by decide) hR.2⟩ (cat8 [] (Nat.le_of_ble_eq_true rfl)) dX9_goOn_13 ⟨Nat.zero_le _, Nat.zero_le _⟩ rfl rfl (fun H locs hh hS => ?_)
    cases h
    exact q_vret X hret hlk hh hS dX9_goOn_16
set_option maxRecDepth 100000 in
theorem M_X9_goOn (l : Launch) (D : va_G) (dA : Nat → ClassId) (base : Nat) (σ : hp) (t0 : Nat) (v1 : Int32) {z : hp} (h : S_X9_goOn σ t0 v1 = some z) : mt l yX9_goOn cX9_goOn 3 (none) 7 157 D dA base σ [.ref t0, .int v1] none z 0 0 := by
  refine Met.ofW (cc := cX9_goOn) (maxL := 3) (ret := none) (by decide) rfl ?_
  intro p e s m args below meth c s₁ B hml hv
  obtain ⟨rfl, hh, hK⟩ := hv
  have X : cx p s m ([.ref t0, .int v1] : List Value).toArray c cX9_goOn RX9 3 D dA := ⟨B.exec, B.bytes, findClass_of_methodNamed B.named, hml, fun w hw => atoms_spec (ws := .code yX9_goOn cX9_goOn 3 (none) :: G) B.pre w (List.mem_cons_of_mem _ hw), hK⟩
  have hl := lk_entry [.inr (some t0), .inl v1] (n := 3) (Nat.le_of_ble_eq_true rfl)
  rw [lg_entry_eq]
  have hl : lk ((lg_sl ([.ref t0, .int v1] : List Value) ++ List.replicate (3 - (lg_sl ([.ref t0, .int v1] : List Value)).length) Slot.unset).toArray) 3 [(0, .inr (some t0)), (1, .inl v1)] := hl
  generalize (lg_sl ([.ref t0, .int v1] : List Value) ++ List.replicate (3 - (lg_sl ([.ref t0, .int v1] : List Value)).length) Slot.unset).toArray = ls at hl ⊢
  exact K_X9_goOn_0 X B.returns B.notSynchronized ⟨Nat.le_refl _, Nat.le_refl _⟩ hh va_S.rf hl h
theorem ke_X9_sendFile_85 {rec25 : hp → Nat → Int32 → Int32 → Int32 → Int32 → Option (hp)} {z : hp} (hm25 : ∀ (σ : hp) (t0 : Nat) (v1 : Int32) (v2 : Int32) (v3 : Int32) (v4 : Int32), rec25 σ t0 v1 v2 v3 v4 = some z → eq4 σ z) {σ : hp} {t0 : Nat} {v1 : Int32} {v2 : Int32} {v3 : Int32} {v4 : Int32} (h : S_X9_sendFile_85 rec25 σ t0 v1 v2 v3 v4 = some z) : eq4 σ z := by
  unfold S_X9_sendFile_85 at h
  obtain ⟨b87, e_b87, h⟩ := o_b h
  obtain ⟨q87, e_q87, h⟩ := o_b h
  exact ((ke_X9_send_0 e_q87)).tr (hm25 _ _ _ _ _ _ h)
set_option maxHeartbeats 4000000 in
set_option maxRecDepth 100000 in
theorem K_X9_sendFile_85 {p : Program} {l : Launch} {e : Env} {R : Room} {s : State} {m : MethodId} {args : Array Value} {below : List Frame} {meth : Method} {c : Code} {D : va_G} {dA : Nat → ClassId} {base : Nat} {rec25 : hp → Nat → Int32 → Int32 → Int32 → Int32 → Option (hp)} {z : hp} (X : cx p s m args c cX9_sendFile RX9 6 D dA) (hret : meth.sig.returnType = none) (hlk : meth.locks = false) (hR : 6 ≤ R.frames ∧ 135 ≤ R.locals) (hr25 : ∀ (σ : hp) (t0 : Nat) (v1 : Int32) (v2 : Int32) (v3 : Int32) (v4 : Int32) (H : Heap) (locs : List Loc) (ls : Array Slot), hw D dA base σ H → hs base s.heap H locs → lk ls 6 [(0, .inr (some t0)), (1, .inl v1), (2, .inl v2), (3, .inl v3), (4, .inl v4)] → rec25 σ t0 v1 v2 v3 v4 = some z → W p l e R s m args below meth c H locs 0 0 (MQ below (qG D dA base none z) args s 0 0 (fun q => base ≤ q)) (F0 m 25 ls [])) {σ : hp} {t0 : Nat} {v1 : Int32} {v2 : Int32} {v3 : Int32} {v4 : Int32} {H : Heap} {locs : List Loc} {ls : Array Slot} (hh : hw D dA base σ H) (hS : hs base s.heap H locs) (hl : lk ls 6 [(0, .inr (some t0)), (1, .inl v1), (2, .inl v2), (3, .inl v3), (4, .inl v4)]) (h : S_X9_sendFile_85 rec25 σ t0 v1 v2 v3 v4 = some z) : W p l e R s m args below meth c H locs 0 0 (MQ below (qG D dA base none z) args s 0 0 (fun q => base ≤ q)) (F0 m 85 ls []) := by
  unfold S_X9_sendFile_85 at h
  refine q_aload_n X dX9_sendFile_85 rfl hl 0 rfl ?_
  refine q_iload_n X dX9_sendFile_86 rfl hl 1 rfl ?_
  obtain ⟨b87, e_b87, h⟩ := o_b h
  obtain ⟨q87, e_q87, h⟩ := o_b h
  refine q_cV (As := [.int v1]) X hh hS hl cf_X9_154 (cN := 9) rfl rfl e_b87 rfl (M_X9_send l D dA base σ b87 v1 e_q87) ⟨Nat.le_trans (by decide) hR.1, Nat.le_trans (by decide) hR.2⟩ (cat8 [] (Nat.le_of_ble_eq_true rfl)) dX9_sendFile_87 ⟨Nat.zero_le _, Nat.zero_le _⟩ rfl rfl (fun H locs hh hS => ?_)
  refine q_iinc (v := (30 : Int32)) (lv' := [(4, .inl (v4 + (30 : Int32))), (0, .inr (some t0)), (1, .inl v1), (2, .inl v2), (3, .inl v3)]) X dX9_sendFile_90 hl 4 rfl (by decide) (by decide) rfl (fun ls hl => ?_)
  refine lv_goto (tgt := 25) X.1 X.2.1 dX9_sendFile_93 (by decide) ?_
  exact hr25 _ _ _ _ _ _ _ _ _ hh hS (lk_sub hl [1, 2, 3, 4, 0] rfl) h
theorem ke_X9_sendFile_41_b {rec25 : hp → Nat → Int32 → Int32 → Int32 → Int32 → Option (hp)} {rec41 : hp → Nat → Int32 → Int32 → Int32 → Int32 → Int32 → Option (hp)} {z : hp} (hm25 : ∀ (σ : hp) (t0 : Nat) (v1 : Int32) (v2 : Int32) (v3 : Int32) (v4 : Int32), rec25 σ t0 v1 v2 v3 v4 = some z → eq4 σ z) (hm41 : ∀ (σ : hp) (t0 : Nat) (v1 : Int32) (v2 : Int32) (v3 : Int32) (v4 : Int32) (v5 : Int32), rec41 σ t0 v1 v2 v3 v4 v5 = some z → eq4 σ z) {σ : hp} {t0 : Nat} {v1 : Int32} {v2 : Int32} {v3 : Int32} {v4 : Int32} {v5 : Int32} (h : S_X9_sendFile_41_b rec25 rec41 σ t0 v1 v2 v3 v4 v5 = some z) : eq4 σ z := by
  unfold S_X9_sendFile_41_b at h
  by_cases c44 : v3 ≤ v5
  · rw [if_pos c44] at h
    exact (ke_X9_sendFile_85 hm25 h)
  · rw [if_neg c44] at h
    by_cases c54 : (v4 + (30 : Int32)) ≤ v5
    · rw [if_pos c54] at h
      exact (ke_X9_sendFile_85 hm25 h)
    · rw [if_neg c54] at h
      obtain ⟨t59, e_t59, h⟩ := o_b h
      obtain ⟨t75, e_t75, h⟩ := o_b h
      obtain ⟨b76, e_b76, h⟩ := o_b h
      obtain ⟨q76, e_q76, h⟩ := o_b h
      exact ((ke_X9_more_0 e_q76)).tr (hm41 _ _ _ _ _ _ _ h)
theorem ke_X9_sendFile_41 {rec25 : hp → Nat → Int32 → Int32 → Int32 → Int32 → Option (hp)} {z : hp} (hm25 : ∀ (σ : hp) (t0 : Nat) (v1 : Int32) (v2 : Int32) (v3 : Int32) (v4 : Int32), rec25 σ t0 v1 v2 v3 v4 = some z → eq4 σ z) : ∀ (n : Nat) (σ : hp) (t0 : Nat) (v1 : Int32) (v2 : Int32) (v3 : Int32) (v4 : Int32) (v5 : Int32), S_X9_sendFile_41 rec25 n σ t0 v1 v2 v3 v4 v5 = some z → eq4 σ z := by
  intro n
  induction n with
  | zero => intro σ t0 v1 v2 v3 v4 v5 h; cases h
  | succ n ih => intro σ t0 v1 v2 v3 v4 v5 h; exact ke_X9_sendFile_41_b hm25 ih h
set_option maxHeartbeats 4000000 in
set_option maxRecDepth 100000 in
theorem K_X9_sendFile_41_b {p : Program} {l : Launch} {e : Env} {R : Room} {s : State} {m : MethodId} {args : Array Value} {below : List Frame} {meth : Method} {c : Code} {D : va_G} {dA : Nat → ClassId} {base : Nat} {rec25 : hp → Nat → Int32 → Int32 → Int32 → Int32 → Option (hp)} {rec41 : hp → Nat → Int32 → Int32 → Int32 → Int32 → Int32 → Option (hp)} {z : hp} (X : cx p s m args c cX9_sendFile RX9 6 D dA) (hret : meth.sig.returnType = none) (hlk : meth.locks = false) (hR : 6 ≤ R.frames ∧ 135 ≤ R.locals) (hr25 : ∀ (σ : hp) (t0 : Nat) (v1 : Int32) (v2 : Int32) (v3 : Int32) (v4 : Int32) (H : Heap) (locs : List Loc) (ls : Array Slot), hw D dA base σ H → hs base s.heap H locs → lk ls 6 [(0, .inr (some t0)), (1, .inl v1), (2, .inl v2), (3, .inl v3), (4, .inl v4)] → rec25 σ t0 v1 v2 v3 v4 = some z → W p l e R s m args below meth c H locs 0 0 (MQ below (qG D dA base none z) args s 0 0 (fun q => base ≤ q)) (F0 m 25 ls [])) (hr41 : ∀ (σ : hp) (t0 : Nat) (v1 : Int32) (v2 : Int32) (v3 : Int32) (v4 : Int32) (v5 : Int32) (H : Heap) (locs : List Loc) (ls : Array Slot), hw D dA base σ H → hs base s.heap H locs → lk ls 6 [(0, .inr (some t0)), (1, .inl v1), (2, .inl v2), (3, .inl v3), (4, .inl v4), (5, .inl v5)] → rec41 σ t0 v1 v2 v3 v4 v5 = some z → W p l e R s m args below meth c H locs 0 0 (MQ below (qG D dA base none z) args s 0 0 (fun q => base ≤ q)) (F0 m 41 ls [])) {σ : hp} {t0 : Nat} {v1 : Int32} {v2 : Int32} {v3 : Int32} {v4 : Int32} {v5 : Int32} {H : Heap} {locs : List Loc} {ls : Array Slot} (hh : hw D dA base σ H) (hS : hs base s.heap H locs) (hl : lk ls 6 [(0, .inr (some t0)), (1, .inl v1), (2, .inl v2), (3, .inl v3), (4, .inl v4), (5, .inl v5)]) (h : S_X9_sendFile_41_b rec25 rec41 σ t0 v1 v2 v3 v4 v5 = some z) : W p l e R s m args below meth c H locs 0 0 (MQ below (qG D dA base none z) args s 0 0 (fun q => base ≤ q)) (F0 m 41 ls []) := by
  unfold S_X9_sendFile_41_b at h
  refine q_iload X dX9_sendFile_41 hl 5 rfl ?_
  refine q_iload_n X dX9_sendFile_43 rfl hl 3 rfl ?_
  refine lv_icmp_ge (tgt := 85) X.1 X.2.1 dX9_sendFile_44 (by decide) (fun c44 => ?_) (fun c44 => ?_)
  · rw [if_pos c44] at h
    exact K_X9_sendFile_85 X hret hlk hR hr25 hh hS (lk_sub hl [0, 1, 2, 3, 4] rfl) h
  · rw [if_neg c44] at h
    refine q_iload X dX9_sendFile_47 hl 5 rfl ?_
    refine q_iload X dX9_sendFile_49 hl 4 rfl ?_
    refine lv_bipush (v := (30 : Int32)) X.1 X.2.1 dX9_sendFile_51 (by decide) ?_
    refine lv_iadd X.1 X.2.1 dX9_sendFile_53 ?_
    refine lv_icmp_ge (tgt := 85) X.1 X.2.1 dX9_sendFile_54 (by decide) (fun c54 => ?_) (fun c54 => ?_)
    · rw [if_pos c54] at h
      exact K_X9_sendFile_85 X hret hlk hR hr25 hh hS (lk_sub hl [0, 1, 2, 3, 4] rfl) h
    · rw [if_neg c54] at h
      refine q_aload_n X dX9_sendFile_57 rfl hl 0 rfl ?_
      refine q_aload_n X dX9_sendFile_58 rfl hl 0 rfl ?_
      obtain ⟨t59, e_t59, h⟩ := o_b h
      refine q_gR X hh fa_X9_16 rfl e_t59 dX9_sendFile_59 ?_
      refine lv_sipush (v := (3000 : Int32)) X.1 X.2.1 dX9_sendFile_62 (by decide) ?_
      refine q_iload_n X dX9_sendFile_65 rfl hl 1 rfl ?_
      refine lv_imul X.1 X.2.1 dX9_sendFile_66 ?_
      refine lv_bipush (v := (100 : Int32)) X.1 X.2.1 dX9_sendFile_67 (by decide) ?_
      refine q_iload_n X dX9_sendFile_69 rfl hl 2 rfl ?_
      refine lv_imul X.1 X.2.1 dX9_sendFile_70 ?_
      refine lv_iadd X.1 X.2.1 dX9_sendFile_71 ?_
      refine q_iload X dX9_sendFile_72 hl 5 rfl ?_
      refine lv_iadd X.1 X.2.1 dX9_sendFile_74 ?_
      obtain ⟨t75, e_t75, h⟩ := o_b h
      refine q_ldI X hh e_t75 dX9_sendFile_75 ?_
      obtain ⟨b76, e_b76, h⟩ := o_b h
      obtain ⟨q76, e_q76, h⟩ := o_b h
      refine q_cV (As := [.int t75]) X hh hS hl cf_X9_160 (cN := 9) rfl rfl e_b76 rfl (M_X9_more l D dA base σ b76 t75 e_q76) ⟨Nat.le_trans (by decide) hR.1, Nat.le_trans (by decide) hR.2⟩ (cat8 [] (Nat.le_of_ble_eq_true rfl)) dX9_sendFile_76 ⟨Nat.zero_le _, Nat.zero_le _⟩ rfl rfl (fun H locs hh hS => ?_)
      refine q_iinc (v := (1 : Int32)) (lv' := [(5, .inl (v5 + (1 : Int32))), (0, .inr (some t0)), (1, .inl v1), (2, .inl v2), (3, .inl v3), (4, .inl v4)]) X dX9_sendFile_79 hl 5 rfl (by decide) (by decide) rfl (fun ls hl => ?_)
      refine lv_goto (tgt := 41) X.1 X.2.1 dX9_sendFile_82 (by decide) ?_
      exact hr41 _ _ _ _ _ _ _ _ _ _ hh hS (lk_sub hl [1, 2, 3, 4, 5, 0] rfl) h
theorem K_X9_sendFile_41 {p : Program} {l : Launch} {e : Env} {R : Room} {s : State} {m : MethodId} {args : Array Value} {below : List Frame} {meth : Method} {c : Code} {D : va_G} {dA : Nat → ClassId} {base : Nat} {rec25 : hp → Nat → Int32 → Int32 → Int32 → Int32 → Option (hp)} {z : hp} (X : cx p s m args c cX9_sendFile RX9 6 D dA) (hret : meth.sig.returnType = none) (hlk : meth.locks = false) (hR : 6 ≤ R.frames ∧ 135 ≤ R.locals) (hr25 : ∀ (σ : hp) (t0 : Nat) (v1 : Int32) (v2 : Int32) (v3 : Int32) (v4 : Int32) (H : Heap) (locs : List Loc) (ls : Array Slot), hw D dA base σ H → hs base s.heap H locs → lk ls 6 [(0, .inr (some t0)), (1, .inl v1), (2, .inl v2), (3, .inl v3), (4, .inl v4)] → rec25 σ t0 v1 v2 v3 v4 = some z → W p l e R s m args below meth c H locs 0 0 (MQ below (qG D dA base none z) args s 0 0 (fun q => base ≤ q)) (F0 m 25 ls [])) : ∀ (n : Nat) (σ : hp) (t0 : Nat) (v1 : Int32) (v2 : Int32) (v3 : Int32) (v4 : Int32) (v5 : Int32) (H : Heap) (locs : List Loc) (ls : Array Slot), hw D dA base σ H → hs base s.heap H locs → lk ls 6 [(0, .inr (some t0)), (1, .inl v1), (2, .inl v2), (3, .inl v3), (4, .inl v4), (5, .inl v5)] → S_X9_sendFile_41 rec25 n σ t0 v1 v2 v3 v4 v5 = some z → W p l e R s m args below meth c H locs 0 0 (MQ below (qG D dA base none z) args s 0 0 (fun q => base ≤ q)) (F0 m 41 ls []) := by
  intro n
  induction n with
  | zero => intro σ t0 v1 v2 v3 v4 v5 H locs ls hh hS hl h; cases h
  | succ n ih => intro σ t0 v1 v2 v3 v4 v5 H locs ls hh hS hl h; exact K_X9_sendFile_41_b X hret hlk hR hr25 ih hh hS hl h
theorem ke_X9_sendFile_25_b {rec25 : hp → Nat → Int32 → Int32 → Int32 → Int32 → Option (hp)} {z : hp} (hm25 : ∀ (σ : hp) (t0 : Nat) (v1 : Int32) (v2 : Int32) (v3 : Int32) (v4 : Int32), rec25 σ t0 v1 v2 v3 v4 = some z → eq4 σ z) {σ : hp} {t0 : Nat} {v1 : Int32} {v2 : Int32} {v3 : Int32} {v4 : Int32} (h : S_X9_sendFile_25_b rec25 σ t0 v1 v2 v3 v4 = some z) : eq4 σ z := by
  unfold S_X9_sendFile_25_b at h
  by_cases c28 : v3 ≤ v4
  · rw [if_pos c28] at h
    cases h
    exact eq4.rf _
  · rw [if_neg c28] at h
    obtain ⟨b34, e_b34, h⟩ := o_b h
    obtain ⟨q34, e_q34, h⟩ := o_b h
    exact ((ke_X9_begin_0 e_q34)).tr (ke_X9_sendFile_41 hm25 FU _ _ _ _ _ _ _ h)
theorem ke_X9_sendFile_25 {z : hp} : ∀ (n : Nat) (σ : hp) (t0 : Nat) (v1 : Int32) (v2 : Int32) (v3 : Int32) (v4 : Int32), S_X9_sendFile_25 n σ t0 v1 v2 v3 v4 = some z → eq4 σ z := by
  intro n
  induction n with
  | zero => intro σ t0 v1 v2 v3 v4 h; cases h
  | succ n ih => intro σ t0 v1 v2 v3 v4 h; exact ke_X9_sendFile_25_b ih h
set_option maxHeartbeats 4000000 in
set_option maxRecDepth 100000 in
theorem K_X9_sendFile_25_b {p : Program} {l : Launch} {e : Env} {R : Room} {s : State} {m : MethodId} {args : Array Value} {below : List Frame} {meth : Method} {c : Code} {D : va_G} {dA : Nat → ClassId} {base : Nat} {rec25 : hp → Nat → Int32 → Int32 → Int32 → Int32 → Option (hp)} {z : hp} (X : cx p s m args c cX9_sendFile RX9 6 D dA) (hret : meth.sig.returnType = none) (hlk : meth.locks = false) (hR : 6 ≤ R.frames ∧ 135 ≤ R.locals) (hr25 : ∀ (σ : hp) (t0 : Nat) (v1 : Int32) (v2 : Int32) (v3 : Int32) (v4 : Int32) (H : Heap) (locs : List Loc) (ls : Array Slot), hw D dA base σ H → hs base s.heap H locs → lk ls 6 [(0, .inr (some t0)), (1, .inl v1), (2, .inl v2), (3, .inl v3), (4, .inl v4)] → rec25 σ t0 v1 v2 v3 v4 = some z → W p l e R s m args below meth c H locs 0 0 (MQ below (qG D dA base none z) args s 0 0 (fun q => base ≤ q)) (F0 m 25 ls [])) {σ : hp} {t0 : Nat} {v1 : Int32} {v2 : Int32} {v3 : Int32} {v4 : Int32} {H : Heap} {locs : List Loc} {ls : Array Slot} (hh : hw D dA base σ H) (hS : hs base s.heap H locs) (hl : lk ls 6 [(0, .inr (some t0)), (1, .inl v1), (2, .inl v2), (3, .inl v3), (4, .inl v4)]) (h : S_X9_sendFile_25_b rec25 σ t0 v1 v2 v3 v4 = some z) : W p l e R s m args below meth c H locs 0 0 (MQ below (qG D dA base none z) args s 0 0 (fun q => base ≤ q)) (F0 m 25 ls []) := by
  unfold S_X9_sendFile_25_b at h
  refine q_iload X dX9_sendFile_25 hl 4 rfl ?_
  refine q_iload_n X dX9_sendFile_27 rfl hl 3 rfl ?_
  refine lv_icmp_ge (tgt := 96) X.1 X.2.1 dX9_sendFile_28 (by decide) (fun c28 => ?_) (fun c28 => ?_)
  · rw [if_pos c28] at h
    cases h
    exact q_vret X hret hlk hh hS dX9_sendFile_96
  · rw [if_neg c28] at h
    refine q_aload_n X dX9_sendFile_31 rfl hl 0 rfl ?_
    refine lv_bipush (v := (68 : Int32)) X.1 X.2.1 dX9_sendFile_32 (by decide) ?_
    obtain ⟨b34, e_b34, h⟩ := o_b h
    obtain ⟨q34, e_q34, h⟩ := o_b h
    refine q_cV (As := [.int (68 : Int32)]) X hh hS hl cf_X9_151 (cN := 9) rfl rfl e_b34 rfl (M_X9_begin l D dA base σ b34 (68 : Int32) e_q34) ⟨Nat.le_trans (by decide) hR.1, Nat.le_trans (by decide) hR.2⟩ (cat8 [] (Nat.le_of_ble_eq_true rfl)) dX9_sendFile_34 ⟨Nat.zero_le _, Nat.zero_le _⟩ rfl rfl (fun H locs hh hS => ?_)
    refine q_iload X dX9_sendFile_37 hl 4 rfl ?_
    refine q_istore (lv' := [(5, .inl v4), (0, .inr (some t0)), (1, .inl v1), (2, .inl v2), (3, .inl v3), (4, .inl v4)]) X dX9_sendFile_39 hl (by decide) rfl (fun ls hl => ?_)
    exact K_X9_sendFile_41 X hret hlk hR hr25 FU _ _ _ _ _ _ _ _ _ _ hh hS (lk_sub hl [1, 2, 3, 4, 5, 0] rfl) h
theorem K_X9_sendFile_25 {p : Program} {l : Launch} {e : Env} {R : Room} {s : State} {m : MethodId} {args : Array Value} {below : List Frame} {meth : Method} {c : Code} {D : va_G} {dA : Nat → ClassId} {base : Nat} {z : hp} (X : cx p s m args c cX9_sendFile RX9 6 D dA) (hret : meth.sig.returnType = none) (hlk : meth.locks = false) (hR : 6 ≤ R.frames ∧ 135 ≤ R.locals) : ∀ (n : Nat) (σ : hp) (t0 : Nat) (v1 : Int32) (v2 : Int32) (v3 : Int32) (v4 : Int32) (H : Heap) (locs : List Loc) (ls : Array Slot), hw D dA base σ H → hs base s.heap H locs → lk ls 6 [(0, .inr (some t0)), (1, .inl v1), (2, .inl v2), (3, .inl v3), (4, .inl v4)] → S_X9_sendFile_25 n σ t0 v1 v2 v3 v4 = some z → W p l e R s m args below meth c H locs 0 0 (MQ below (qG D dA base none z) args s 0 0 (fun q => base ≤ q)) (F0 m 25 ls []) := by
  intro n
  induction n with
  | zero => intro σ t0 v1 v2 v3 v4 H locs ls hh hS hl h; cases h
  | succ n ih => intro σ t0 v1 v2 v3 v4 H locs ls hh hS hl h; exact K_X9_sendFile_25_b X hret hlk hR ih hh hS hl h
theorem ke_X9_sendFile_0 {z : hp} {σ : hp} {t0 : Nat} {v1 : Int32} (h : S_X9_sendFile σ t0 v1 = some z) : eq4 σ z := by
  unfold S_X9_sendFile at h
  obtain ⟨t1, e_t1, h⟩ := o_b h
  obtain ⟨t8, e_t8, h⟩ := o_b h
  obtain ⟨t11, e_t11, h⟩ := o_b h
  obtain ⟨t20, e_t20, h⟩ := o_b h
  exact (ke_X9_sendFile_25 FU _ _ _ _ _ _ h)
set_option maxHeartbeats 4000000 in
set_option maxRecDepth 100000 in
theorem K_X9_sendFile_0 {p : Program} {l : Launch} {e : Env} {R : Room} {s : State} {m : MethodId} {args : Array Value} {below : List Frame} {meth : Method} {c : Code} {D : va_G} {dA : Nat → ClassId} {base : Nat} {z : hp} (X : cx p s m args c cX9_sendFile RX9 6 D dA) (hret : meth.sig.returnType = none) (hlk : meth.locks = false) (hR : 6 ≤ R.frames ∧ 135 ≤ R.locals) {σ : hp} {t0 : Nat} {v1 : Int32} {H : Heap} {locs : List Loc} {ls : Array Slot} (hh : hw D dA base σ H) (hS : hs base s.heap H locs) (hl : lk ls 6 [(0, .inr (some t0)), (1, .inl v1)]) (h : S_X9_sendFile σ t0 v1 = some z) : W p l e R s m args below meth c H locs 0 0 (MQ below (qG D dA base none z) args s 0 0 (fun q => base ≤ q)) (F0 m 0 ls []) := by
  unfold S_X9_sendFile at h
  refine q_aload_n X dX9_sendFile_0 rfl hl 0 rfl ?_
  obtain ⟨t1, e_t1, h⟩ := o_b h
  refine q_gR X hh fa_X9_22 rfl e_t1 dX9_sendFile_1 ?_
  refine lv_bipush (v := (30 : Int32)) X.1 X.2.1 dX9_sendFile_4 (by decide) ?_
  refine q_iload_n X dX9_sendFile_6 rfl hl 1 rfl ?_
  refine lv_imul X.1 X.2.1 dX9_sendFile_7 ?_
  obtain ⟨t8, e_t8, h⟩ := o_b h
  refine q_ldI X hh e_t8 dX9_sendFile_8 ?_
  refine q_istore_n (lv' := [(2, .inl t8), (0, .inr (some t0)), (1, .inl v1)]) X dX9_sendFile_9 rfl hl (by decide) rfl (fun ls hl => ?_)
  refine q_aload_n X dX9_sendFile_10 rfl hl 1 rfl ?_
  obtain ⟨t11, e_t11, h⟩ := o_b h
  refine q_gR X hh fa_X9_13 rfl e_t11 dX9_sendFile_11 ?_
  refine lv_bipush (v := (30 : Int32)) X.1 X.2.1 dX9_sendFile_14 (by decide) ?_
  refine q_iload_n X dX9_sendFile_16 rfl hl 2 rfl ?_
  refine lv_imul X.1 X.2.1 dX9_sendFile_17 ?_
  refine q_iload_n X dX9_sendFile_18 rfl hl 0 rfl ?_
  refine lv_iadd X.1 X.2.1 dX9_sendFile_19 ?_
  obtain ⟨t20, e_t20, h⟩ := o_b h
  refine q_ldI X hh e_t20 dX9_sendFile_20 ?_
  refine q_istore_n (lv' := [(3, .inl t20), (2, .inl t8), (0, .inr (some t0)), (1, .inl v1)]) X dX9_sendFile_21 rfl hl (by decide) rfl (fun ls hl => ?_)
  refine lv_iconst (v := (0 : Int32)) X.1 X.2.1 dX9_sendFile_22 (by decide) ?_
  refine q_istore (lv' := [(4, .inl (0 : Int32)), (3, .inl t20), (2, .inl t8), (0, .inr (some t0)), (1, .inl v1)]) X dX9_sendFile_23 hl (by decide) rfl (fun ls hl => ?_)
  exact K_X9_sendFile_25 X hret hlk hR FU _ _ _ _ _ _ _ _ _ hh hS (lk_sub hl [3, 4, 2, 1, 0] rfl) h
set_option maxRecDepth 100000 in
theorem M_X9_sendFile (l : Launch) (D : va_G) (dA : Nat → ClassId) (base : Nat) (σ : hp) (t0 : Nat) (v1 : Int32) {z : hp} (h : S_X9_sendFile σ t0 v1 = some z) : mt l yX9_sendFile cX9_sendFile 6 (none) 6 135 D dA base σ [.ref t0, .int v1] none z 0 0 := by
  refine Met.ofW (cc := cX9_sendFile) (maxL := 6) (ret := none) (by decide) rfl ?_
  intro p e s m args below meth c s₁ B hml hv
  obtain ⟨rfl, hh, hK⟩ := hv
  have X : cx p s m ([.ref t0, .int v1] : List Value).toArray c cX9_sendFile RX9 6 D dA := ⟨B.exec, B.bytes, findClass_of_methodNamed B.named, hml, fun w hw => atoms_spec (ws := .code yX9_sendFile cX9_sendFile 6 (none) :: G) B.pre w (List.mem_cons_of_mem _ hw), hK⟩
  have hl := lk_entry [.inr (some t0), .inl v1] (n := 6) (Nat.le_of_ble_eq_true rfl)
  rw [lg_entry_eq]
  have hl : lk ((lg_sl ([.ref t0, .int v1] : List Value) ++ List.replicate (6 - (lg_sl ([.ref t0, .int v1] : List Value)).length) Slot.unset).toArray) 6 [(0, .inr (some t0)), (1, .inl v1)] := hl
  generalize (lg_sl ([.ref t0, .int v1] : List Value) ++ List.replicate (6 - (lg_sl ([.ref t0, .int v1] : List Value)).length) Slot.unset).toArray = ls at hl ⊢
  exact K_X9_sendFile_0 X B.returns B.notSynchronized ⟨Nat.le_refl _, Nat.le_refl _⟩ hh va_S.rf hl h
