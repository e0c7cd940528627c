/-! Walks: written by wip/whole/gen/emit.py. X0_init X0_jobsLeft X2_init X0_addJob X0_firstJob X0_dropFirstJob X0_hasDone X0_addDone X0_doneJob X1_init X1_forget X1_begin X4_messageLength X4_messageByte X1_takePart X1_isWhole X1_job X3_init X3_append X4_init X4_fillHead X4_fillControl -/
theorem mo_X0_init_30 {z : hp} {σ : hp} {t0 : Nat} {w0 : Option Nat} {w1 : Option Nat} (h : S_X0_init_30 σ t0 w0 w1 = some z) : le4 σ z := by
  unfold S_X0_init_30 at h
  obtain ⟨s30, e_s30, h⟩ := o_b h
  obtain ⟨s35, e_s35, h⟩ := o_b h
  obtain ⟨s40, e_s40, h⟩ := o_b h
  cases h
  exact (((e_pR e_s30).le).tr (e_pI e_s35).le).tr (e_pI e_s40).le
set_option maxHeartbeats 4000000 in
set_option maxRecDepth 100000 in
theorem K_X0_init_30 {p : Program} {l : Launch} {e : Env} {R : Room} {s : State} {m : MethodId} {args : Array Value} {below : List Frame} {meth : Method} {c : Code} {D : va_G} {dA : Nat → ClassId} {base : Nat} {z : hp} (X : cx p s m args c cX0_init RX0 1 D dA) (hret : meth.sig.returnType = none) (hlk : meth.locks = false) (hR : 1 ≤ R.frames ∧ 21 ≤ R.locals) (hin : meth.name = "<init>") {n0 s0 : Nat} (hRc : z.2.2.2.1 ≤ n0 + R.cells ∧ z.2.2.2.2 ≤ s0 + R.slots) {σ : hp} {t0 : Nat} {w0 : Option Nat} {w1 : Option Nat} {H : Heap} {locs : List Loc} {ls : Array Slot} (hn : n0 ≤ σ.2.2.2.1 ∧ s0 ≤ σ.2.2.2.2) (hh : hw D dA base σ H) (hS : hs base s.heap H locs) (hl : lk ls 1 [(0, .inr (some t0))]) (h : S_X0_init_30 σ t0 w0 w1 = some z) : W p l e R s m args below meth c H locs (σ.2.2.2.1 - n0) (σ.2.2.2.2 - s0) (MQ below (qG D dA base none z) args s (z.2.2.2.1 - n0) (z.2.2.2.2 - s0) (fun q => base ≤ q)) (F0 m 30 ls [va_rf w1, va_rf w0]) := by
  have hz0 := mo_X0_init_30 h
  have hcl : σ.2.2.2.1 - n0 ≤ R.cells ∧ σ.2.2.2.2 - s0 ≤ R.slots := by unfold le4 at hz0; omega
  unfold S_X0_init_30 at h
  obtain ⟨s30, e_s30, h⟩ := o_b h
  refine q_pR X hh hS fp_X0_24 (fun _ => hin) rfl (Or.inr ⟨_, rfl⟩) e_s30 dX0_init_30 (fun H locs hh hS => ?_)
  refine q_aload_n X dX0_init_33 rfl hl 0 rfl ?_
  refine lv_iconst (v := (0 : Int32)) X.1 X.2.1 dX0_init_34 (by decide) ?_
  obtain ⟨s35, e_s35, h⟩ := o_b h
  refine q_pI X hh hS fp_X0_27 (fun h => by cases h) rfl e_s35 dX0_init_35 (fun H locs hh hS => ?_)
  refine q_aload_n X dX0_init_38 rfl hl 0 rfl ?_
  refine lv_iconst (v := (0 : Int32)) X.1 X.2.1 dX0_init_39 (by decide) ?_
  obtain ⟨s40, e_s40, h⟩ := o_b h
  refine q_pI X hh hS fp_X0_30 (fun h => by cases h) rfl e_s40 dX0_init_40 (fun H locs hh hS => ?_)
  have ys40 : eq4 σ s40 := (((e_pR e_s30)).tr (e_pI e_s35)).tr (e_pI e_s40)
  refine W.cs (cells' := s40.2.2.2.1 - n0) (slots' := s40.2.2.2.2 - s0) (by rw [show s40.2.2.2 = σ.2.2.2 from ys40]) (by rw [show s40.2.2.2 = σ.2.2.2 from ys40]) ?_
  have hn : n0 ≤ s40.2.2.2.1 ∧ s0 ≤ s40.2.2.2.2 := by rw [show s40.2.2.2 = σ.2.2.2 from ys40]; exact hn
  have hcl : s40.2.2.2.1 - n0 ≤ R.cells ∧ s40.2.2.2.2 - s0 ≤ R.slots := by rw [show s40.2.2.2 = σ.2.2.2 from ys40]; exact hcl
  cases h
  exact q_vret X hret hlk hh hS dX0_init_43
theorem mo_X0_init_10 {z : hp} {σ : hp} {t0 : Nat} {w0 : Option Nat} {w1 : Option Nat} (h : S_X0_init_10 σ t0 w0 w1 = some z) : le4 σ z := by
  unfold S_X0_init_10 at h
  obtain ⟨s10, e_s10, h⟩ := o_b h
  obtain ⟨s15, e_s15, h⟩ := o_b h
  obtain ⟨s20, e_s20, h⟩ := o_b h
  obtain ⟨q27, e_q27, h⟩ := o_b h
  exact (((((e_pR e_s10).le).tr (e_pI e_s15).le).tr (e_pI e_s20).le).tr (m_na e_q27)).tr (mo_X0_init_30 h)
set_option maxHeartbeats 4000000 in
set_option maxRecDepth 100000 in
theorem K_X0_init_10 {p : Program} {l : Launch} {e : Env} {R : Room} {s : State} {m : MethodId} {args : Array Value} {below : List Frame} {meth : Method} {c : Code} {D : va_G} {dA : Nat → ClassId} {base : Nat} {z : hp} (X : cx p s m args c cX0_init RX0 1 D dA) (hret : meth.sig.returnType = none) (hlk : meth.locks = false) (hR : 1 ≤ R.frames ∧ 21 ≤ R.locals) (hin : meth.name = "<init>") {n0 s0 : Nat} (hRc : z.2.2.2.1 ≤ n0 + R.cells ∧ z.2.2.2.2 ≤ s0 + R.slots) {σ : hp} {t0 : Nat} {w0 : Option Nat} {w1 : Option Nat} {H : Heap} {locs : List Loc} {ls : Array Slot} (hn : n0 ≤ σ.2.2.2.1 ∧ s0 ≤ σ.2.2.2.2) (hh : hw D dA base σ H) (hS : hs base s.heap H locs) (hl : lk ls 1 [(0, .inr (some t0))]) (h : S_X0_init_10 σ t0 w0 w1 = some z) : W p l e R s m args below meth c H locs (σ.2.2.2.1 - n0) (σ.2.2.2.2 - s0) (MQ below (qG D dA base none z) args s (z.2.2.2.1 - n0) (z.2.2.2.2 - s0) (fun q => base ≤ q)) (F0 m 10 ls [va_rf w1, va_rf w0]) := by
  have hz0 := mo_X0_init_10 h
  have hcl : σ.2.2.2.1 - n0 ≤ R.cells ∧ σ.2.2.2.2 - s0 ≤ R.slots := by unfold le4 at hz0; omega
  unfold S_X0_init_10 at h
  obtain ⟨s10, e_s10, h⟩ := o_b h
  refine q_pR X hh hS fp_X0_13 (fun _ => hin) rfl (Or.inr ⟨_, rfl⟩) e_s10 dX0_init_10 (fun H locs hh hS => ?_)
  refine q_aload_n X dX0_init_13 rfl hl 0 rfl ?_
  refine lv_iconst (v := (0 : Int32)) X.1 X.2.1 dX0_init_14 (by decide) ?_
  obtain ⟨s15, e_s15, h⟩ := o_b h
  refine q_pI X hh hS fp_X0_17 (fun h => by cases h) rfl e_s15 dX0_init_15 (fun H locs hh hS => ?_)
  refine q_aload_n X dX0_init_18 rfl hl 0 rfl ?_
  refine lv_iconst (v := (0 : Int32)) X.1 X.2.1 dX0_init_19 (by decide) ?_
  obtain ⟨s20, e_s20, h⟩ := o_b h
  refine q_pI X hh hS fp_X0_21 (fun h => by cases h) rfl e_s20 dX0_init_20 (fun H locs hh hS => ?_)
  refine q_aload_n X dX0_init_23 rfl hl 0 rfl ?_
  refine lv_sipush (v := (256 : Int32)) X.1 X.2.1 dX0_init_24 (by decide) ?_
  obtain ⟨q27, e_q27, h⟩ := o_b h
  have ys20 : eq4 σ s20 := (((e_pR e_s10)).tr (e_pI e_s15)).tr (e_pI e_s20)
  refine W.cs (cells' := s20.2.2.2.1 - n0) (slots' := s20.2.2.2.2 - s0) (by rw [show s20.2.2.2 = σ.2.2.2 from ys20]) (by rw [show s20.2.2.2 = σ.2.2.2 from ys20]) ?_
  have hn : n0 ≤ s20.2.2.2.1 ∧ s0 ≤ s20.2.2.2.2 := by rw [show s20.2.2.2 = σ.2.2.2 from ys20]; exact hn
  have hcl : s20.2.2.2.1 - n0 ≤ R.cells ∧ s20.2.2.2.2 - s0 ≤ R.slots := by rw [show s20.2.2.2 = σ.2.2.2 from ys20]; exact hcl
  have g27 := mo_X0_init_30 h
  have f27 := l_na e_q27
  unfold le4 at g27
  refine q_naQ (t := 5) X hh hS (by decide) rfl (gm 72 (by decide +kernel) rfl) (by decide) e_q27 dX0_init_27 (by omega) (by omega) (fun H hh hS => ?_)
  refine W.cs (cells' := q27.2.2.2.2.1 - n0) (slots' := q27.2.2.2.2.2 - s0) (by omega) (by omega) ?_
  have hn : n0 ≤ q27.2.2.2.2.1 ∧ s0 ≤ q27.2.2.2.2.2 := by omega
  exact K_X0_init_30 X hret hlk hR hin hRc hn hh hS (lk_sub hl [0] rfl) h
theorem mo_X0_init_0 {z : hp} {σ : hp} {t0 : Nat} (h : S_X0_init σ t0 = some z) : le4 σ z := by
  unfold S_X0_init at h
  obtain ⟨q7, e_q7, h⟩ := o_b h
  exact ((m_na e_q7)).tr (mo_X0_init_10 h)
set_option maxHeartbeats 4000000 in
set_option maxRecDepth 100000 in
theorem K_X0_init_0 {p : Program} {l : Launch} {e : Env} {R : Room} {s : State} {m : MethodId} {args : Array Value} {below : List Frame} {meth : Method} {c : Code} {D : va_G} {dA : Nat → ClassId} {base : Nat} {z : hp} (X : cx p s m args c cX0_init RX0 1 D dA) (hret : meth.sig.returnType = none) (hlk : meth.locks = false) (hR : 1 ≤ R.frames ∧ 21 ≤ R.locals) (hin : meth.name = "<init>") {n0 s0 : Nat} (hRc : z.2.2.2.1 ≤ n0 + R.cells ∧ z.2.2.2.2 ≤ s0 + R.slots) {σ : hp} {t0 : Nat} {H : Heap} {locs : List Loc} {ls : Array Slot} (hn : n0 ≤ σ.2.2.2.1 ∧ s0 ≤ σ.2.2.2.2) (hh : hw D dA base σ H) (hS : hs base s.heap H locs) (hl : lk ls 1 [(0, .inr (some t0))]) (h : S_X0_init σ t0 = some z) : W p l e R s m args below meth c H locs (σ.2.2.2.1 - n0) (σ.2.2.2.2 - s0) (MQ below (qG D dA base none z) args s (z.2.2.2.1 - n0) (z.2.2.2.2 - s0) (fun q => base ≤ q)) (F0 m 0 ls []) := by
  have hz0 := mo_X0_init_0 h
  have hcl : σ.2.2.2.1 - n0 ≤ R.cells ∧ σ.2.2.2.2 - s0 ≤ R.slots := by unfold le4 at hz0; omega
  unfold S_X0_init at h
  refine q_aload_n X dX0_init_0 rfl hl 0 rfl ?_
  refine q_objInit X hl cj_X0_3 gj_o1 gj_o2 dX0_init_1 ⟨Nat.le_trans (by decide) hR.1, Nat.le_trans (by decide) hR.2⟩ (cat8 [] (Nat.le_of_ble_eq_true rfl)) ?_
  refine q_aload_n X dX0_init_4 rfl hl 0 rfl ?_
  refine lv_bipush (v := (30 : Int32)) X.1 X.2.1 dX0_init_5 (by decide) ?_
  obtain ⟨q7, e_q7, h⟩ := o_b h
  have g7 := mo_X0_init_10 h
  have f7 := l_na e_q7
  unfold le4 at g7
  refine q_naQ (t := 5) X hh hS (by decide) rfl (gm 72 (by decide +kernel) rfl) (by decide) e_q7 dX0_init_7 (by omega) (by omega) (fun H hh hS => ?_)
  refine W.cs (cells' := q7.2.2.2.2.1 - n0) (slots' := q7.2.2.2.2.2 - s0) (by omega) (by omega) ?_
  have hn : n0 ≤ q7.2.2.2.2.1 ∧ s0 ≤ q7.2.2.2.2.2 := by omega
  exact K_X0_init_10 X hret hlk hR hin hRc hn hh hS (lk_sub hl [0] rfl) h
set_option maxRecDepth 100000 in
theorem M_X0_init (l : Launch) (D : va_G) (dA : Nat → ClassId) (base : Nat) (σ : hp) (t0 : Nat) {z : hp} (h : S_X0_init σ t0 = some z) : mt l yX0_init cX0_init 1 (none) 1 21 D dA base σ [.ref t0] none z (z.2.2.2.1 - σ.2.2.2.1) (z.2.2.2.2 - σ.2.2.2.2) := by
  have hzz := mo_X0_init_0 h
  unfold le4 at hzz
  refine Met.ofW (cc := cX0_init) (maxL := 1) (ret := none) (by decide) rfl ?_
  intro p e s m args below meth c s₁ B hml hv
  obtain ⟨rfl, hh, hK⟩ := hv
  have X : cx p s m ([.ref t0] : List Value).toArray c cX0_init RX0 1 D dA := ⟨B.exec, B.bytes, findClass_of_methodNamed B.named, hml, fun w hw => atoms_spec (ws := .code yX0_init cX0_init 1 (none) :: G) B.pre w (List.mem_cons_of_mem _ hw), hK⟩
  have hl := lk_entry [.inr (some t0)] (n := 1) (Nat.le_of_ble_eq_true rfl)
  rw [lg_entry_eq]
  have hl : lk ((lg_sl ([.ref t0] : List Value) ++ List.replicate (1 - (lg_sl ([.ref t0] : List Value)).length) Slot.unset).toArray) 1 [(0, .inr (some t0))] := hl
  generalize (lg_sl ([.ref t0] : List Value) ++ List.replicate (1 - (lg_sl ([.ref t0] : List Value)).length) Slot.unset).toArray = ls at hl ⊢
  refine W.cs (cells' := σ.2.2.2.1 - σ.2.2.2.1) (slots' := σ.2.2.2.2 - σ.2.2.2.2) (Nat.sub_self _).symm (Nat.sub_self _).symm ?_
  exact K_X0_init_0 X B.returns B.notSynchronized ⟨Nat.le_refl _, Nat.le_refl _⟩ (name_of_methodNamed B.named B.method).1 (n0 := σ.2.2.2.1) (s0 := σ.2.2.2.2) ⟨by show _ ≤ _ + (_ - _); omega, by show _ ≤ _ + (_ - _); omega⟩ ⟨Nat.le_refl _, Nat.le_refl _⟩ hh va_S.rf hl h
set_option maxHeartbeats 4000000 in
set_option maxRecDepth 100000 in
theorem K_X0_jobsLeft_0 {p : Program} {l : Launch} {e : Env} {R : Room} {s : State} {m : MethodId} {args : Array Value} {below : List Frame} {meth : Method} {c : Code} {D : va_G} {dA : Nat → ClassId} {base : Nat} {z : Int32} (X : cx p s m args c cX0_jobsLeft RX0 1 D dA) (hret : meth.sig.returnType = some .int) (hlk : meth.locks = false) (hR : 0 ≤ R.frames ∧ 0 ≤ R.locals) {σ : hp} {t0 : Nat} {H : Heap} {locs : List Loc} {ls : Array Slot} (hh : hw D dA base σ H) (hS : hs base s.heap H locs) (hl : lk ls 1 [(0, .inr (some t0))]) (h : S_X0_jobsLeft σ t0 = some z) : W p l e R s m args below meth c H locs 0 0 (MQ below (qG D dA base (some (.int z)) σ) args s 0 0 (fun q => base ≤ q)) (F0 m 0 ls []) := by
  unfold S_X0_jobsLeft at h
  refine q_aload_n X dX0_jobsLeft_0 rfl hl 0 rfl ?_
  obtain ⟨t1, e_t1, h⟩ := o_b h
  refine q_gI X hh fa_X0_21 rfl e_t1 dX0_jobsLeft_1 ?_
  refine q_aload_n X dX0_jobsLeft_4 rfl hl 0 rfl ?_
  obtain ⟨t5, e_t5, h⟩ := o_b h
  refine q_gI X hh fa_X0_17 rfl e_t5 dX0_jobsLeft_5 ?_
  refine lv_isub X.1 X.2.1 dX0_jobsLeft_8 ?_
  cases h
  exact q_iret X hret hlk hh hS dX0_jobsLeft_9
set_option maxRecDepth 100000 in
theorem M_X0_jobsLeft (l : Launch) (D : va_G) (dA : Nat → ClassId) (base : Nat) (σ : hp) (t0 : Nat) {z : Int32} (h : S_X0_jobsLeft σ t0 = some z) : mt l yX0_jobsLeft cX0_jobsLeft 1 (some .int) 0 0 D dA base σ [.ref t0] (some (.int z)) σ 0 0 := by
  refine Met.ofW (cc := cX0_jobsLeft) (maxL := 1) (ret := some .int) (by decide) rfl ?_
  intro p e s m args below meth c s₁ B hml hv
  obtain ⟨rfl, hh, hK⟩ := hv
  have X : cx p s m ([.ref t0] : List Value).toArray c cX0_jobsLeft RX0 1 D dA := ⟨B.exec, B.bytes, findClass_of_methodNamed B.named, hml, fun w hw => atoms_spec (ws := .code yX0_jobsLeft cX0_jobsLeft 1 (some .int) :: G) B.pre w (List.mem_cons_of_mem _ hw), hK⟩
  have hl := lk_entry [.inr (some t0)] (n := 1) (Nat.le_of_ble_eq_true rfl)
  rw [lg_entry_eq]
  have hl : lk ((lg_sl ([.ref t0] : List Value) ++ List.replicate (1 - (lg_sl ([.ref t0] : List Value)).length) Slot.unset).toArray) 1 [(0, .inr (some t0))] := hl
  generalize (lg_sl ([.ref t0] : List Value) ++ List.replicate (1 - (lg_sl ([.ref t0] : List Value)).length) Slot.unset).toArray = ls at hl ⊢
  exact K_X0_jobsLeft_0 X B.returns B.notSynchronized ⟨Nat.le_refl _, Nat.le_refl _⟩ hh va_S.rf hl h
theorem mo_X2_init_13 {z : hp} {σ : hp} {t0 : Nat} {v2 : Option Nat} {v3 : Int32} {w0 : Option Nat} {w1 : Option Nat} (h : S_X2_init_13 σ t0 v2 v3 w0 w1 = some z) : le4 σ z := by
  unfold S_X2_init_13 at h
  obtain ⟨s13, e_s13, h⟩ := o_b h
  obtain ⟨t19, e_t19, h⟩ := o_b h
  obtain ⟨s24, e_s24, h⟩ := o_b h
  cases h
  exact ((e_pR e_s13).le).tr (e_cpy e_s24).le
set_option maxHeartbeats 4000000 in
set_option maxRecDepth 100000 in
theorem K_X2_init_13 {p : Program} {l : Launch} {e : Env} {R : Room} {s : State} {m : MethodId} {args : Array Value} {below : List Frame} {meth : Method} {c : Code} {D : va_G} {dA : Nat → ClassId} {base : Nat} {z : hp} (X : cx p s m args c cX2_init RX2 4 D dA) (hret : meth.sig.returnType = none) (hlk : meth.locks = false) (hR : 1 ≤ R.frames ∧ 26 ≤ R.locals) (hin : meth.name = "<init>") {n0 s0 : Nat} (hRc : z.2.2.2.1 ≤ n0 + R.cells ∧ z.2.2.2.2 ≤ s0 + R.slots) {σ : hp} {t0 : Nat} {v2 : Option Nat} {v3 : Int32} {w0 : Option Nat} {w1 : Option Nat} {H : Heap} {locs : List Loc} {ls : Array Slot} (hn : n0 ≤ σ.2.2.2.1 ∧ s0 ≤ σ.2.2.2.2) (hh : hw D dA base σ H) (hS : hs base s.heap H locs) (hl : lk ls 4 [(0, .inr (some t0)), (2, .inr v2), (3, .inl v3)]) (h : S_X2_init_13 σ t0 v2 v3 w0 w1 = some z) : W p l e R s m args below meth c H locs (σ.2.2.2.1 - n0) (σ.2.2.2.2 - s0) (MQ below (qG D dA base none z) args s (z.2.2.2.1 - n0) (z.2.2.2.2 - s0) (fun q => base ≤ q)) (F0 m 13 ls [va_rf w1, va_rf w0]) := by
  have hz0 := mo_X2_init_13 h
  have hcl : σ.2.2.2.1 - n0 ≤ R.cells ∧ σ.2.2.2.2 - s0 ≤ R.slots := by unfold le4 at hz0; omega
  unfold S_X2_init_13 at h
  obtain ⟨s13, e_s13, h⟩ := o_b h
  refine q_pR X hh hS fp_X2_13 (fun _ => hin) rfl (Or.inr ⟨_, rfl⟩) e_s13 dX2_init_13 (fun H locs hh hS => ?_)
  refine q_aload_n X dX2_init_16 rfl hl 1 rfl ?_
  refine lv_iconst (v := (0 : Int32)) X.1 X.2.1 dX2_init_17 (by decide) ?_
  refine q_aload_n X dX2_init_18 rfl hl 0 rfl ?_
  obtain ⟨t19, e_t19, h⟩ := o_b h
  refine q_gR X hh fa_X2_13 rfl e_t19 dX2_init_19 ?_
  refine lv_iconst (v := (0 : Int32)) X.1 X.2.1 dX2_init_22 (by decide) ?_
  refine q_iload_n X dX2_init_23 rfl hl 2 rfl ?_
  obtain ⟨s24, e_s24, h⟩ := o_b h
  refine q_cpy X hh hS hl cj_X2_17 gj_a1 gj_a2 gj_a3 e_s24 (Nat.le_trans (by decide) hR.1) (Nat.le_trans (by decide) hR.2) dX2_init_24 (fun H locs hh hS => ?_)
  have ys24 : eq4 σ s24 := ((e_pR e_s13)).tr (e_cpy e_s24)
  refine W.cs (cells' := s24.2.2.2.1 - n0) (slots' := s24.2.2.2.2 - s0) (by rw [show s24.2.2.2 = σ.2.2.2 from ys24]) (by rw [show s24.2.2.2 = σ.2.2.2 from ys24]) ?_
  have hn : n0 ≤ s24.2.2.2.1 ∧ s0 ≤ s24.2.2.2.2 := by rw [show s24.2.2.2 = σ.2.2.2 from ys24]; exact hn
  have hcl : s24.2.2.2.1 - n0 ≤ R.cells ∧ s24.2.2.2.2 - s0 ≤ R.slots := by rw [show s24.2.2.2 = σ.2.2.2 from ys24]; exact hcl
  cases h
  exact q_vret X hret hlk hh hS dX2_init_27
theorem mo_X2_init_0 {z : hp} {σ : hp} {t0 : Nat} {v1 : Int32} {v2 : Option Nat} {v3 : Int32} (h : S_X2_init σ t0 v1 v2 v3 = some z) : le4 σ z := by
  unfold S_X2_init at h
  obtain ⟨s6, e_s6, h⟩ := o_b h
  obtain ⟨q11, e_q11, h⟩ := o_b h
  exact (((e_pI e_s6).le).tr (m_na e_q11)).tr (mo_X2_init_13 h)
set_option maxHeartbeats 4000000 in
set_option maxRecDepth 100000 in
theorem K_X2_init_0 {p : Program} {l : Launch} {e : Env} {R : Room} {s : State} {m : MethodId} {args : Array Value} {below : List Frame} {meth : Method} {c : Code} {D : va_G} {dA : Nat → ClassId} {base : Nat} {z : hp} (X : cx p s m args c cX2_init RX2 4 D dA) (hret : meth.sig.returnType = none) (hlk : meth.locks = false) (hR : 1 ≤ R.frames ∧ 26 ≤ R.locals) (hin : meth.name = "<init>") {n0 s0 : Nat} (hRc : z.2.2.2.1 ≤ n0 + R.cells ∧ z.2.2.2.2 ≤ s0 + R.slots) {σ : hp} {t0 : Nat} {v1 : Int32} {v2 : Option Nat} {v3 : Int32} {H : Heap} {locs : List Loc} {ls : Array Slot} (hn : n0 ≤ σ.2.2.2.1 ∧ s0 ≤ σ.2.2.2.2) (hh : hw D dA base σ H) (hS : hs base s.heap H locs) (hl : lk ls 4 [(0, .inr (some t0)), (1, .inl v1), (2, .inr v2), (3, .inl v3)]) (h : S_X2_init σ t0 v1 v2 v3 = some z) : W p l e R s m args below meth c H locs (σ.2.2.2.1 - n0) (σ.2.2.2.2 - s0) (MQ below (qG D dA base none z) args s (z.2.2.2.1 - n0) (z.2.2.2.2 - s0) (fun q => base ≤ q)) (F0 m 0 ls []) := by
  have hz0 := mo_X2_init_0 h
  have hcl : σ.2.2.2.1 - n0 ≤ R.cells ∧ σ.2.2.2.2 - s0 ≤ R.slots := by unfold le4 at hz0; omega
  unfold S_X2_init at h
  refine q_aload_n X dX2_init_0 rfl hl 0 rfl ?_
  refine q_objInit X hl cj_X2_1 gj_o1 gj_o2 dX2_init_1 ⟨Nat.le_trans (by decide) hR.1, Nat.le_trans (by decide) hR.2⟩ (cat8 [] (Nat.le_of_ble_eq_true rfl)) ?_
  refine q_aload_n X dX2_init_4 rfl hl 0 rfl ?_
  refine q_iload_n X dX2_init_5 rfl hl 1 rfl ?_
  obtain ⟨s6, e_s6, h⟩ := o_b h
  refine q_pI X hh hS fp_X2_7 (fun _ => hin) rfl e_s6 dX2_init_6 (fun H locs hh hS => ?_)
  refine q_aload_n X dX2_init_9 rfl hl 0 rfl ?_
  refine q_iload_n X dX2_init_10 rfl hl 3 rfl ?_
  obtain ⟨q11, e_q11, h⟩ := o_b h
  have ys6 : eq4 σ s6 := (e_pI e_s6)
  refine W.cs (cells' := s6.2.2.2.1 - n0) (slots' := s6.2.2.2.2 - s0) (by rw [show s6.2.2.2 = σ.2.2.2 from ys6]) (by rw [show s6.2.2.2 = σ.2.2.2 from ys6]) ?_
  have hn : n0 ≤ s6.2.2.2.1 ∧ s0 ≤ s6.2.2.2.2 := by rw [show s6.2.2.2 = σ.2.2.2 from ys6]; exact hn
  have hcl : s6.2.2.2.1 - n0 ≤ R.cells ∧ s6.2.2.2.2 - s0 ≤ R.slots := by rw [show s6.2.2.2 = σ.2.2.2 from ys6]; exact hcl
  have g11 := mo_X2_init_13 h
  have f11 := l_na e_q11
  unfold le4 at g11
  refine q_naI (t := 0) X hh hS (by decide) rfl rfl (fun _ _ => rfl) (by decide) (gm 43 (by decide +kernel) rfl) e_q11 dX2_init_11 (by omega) (by omega) (fun H hh hS => ?_)
  refine W.cs (cells' := q11.2.2.2.2.1 - n0) (slots' := q11.2.2.2.2.2 - s0) (by omega) (by omega) ?_
  have hn : n0 ≤ q11.2.2.2.2.1 ∧ s0 ≤ q11.2.2.2.2.2 := by omega
  exact K_X2_init_13 X hret hlk hR hin hRc hn hh hS (lk_sub hl [0, 2, 3] rfl) h
set_option maxRecDepth 100000 in
theorem M_X2_init (l : Launch) (D : va_G) (dA : Nat → ClassId) (base : Nat) (σ : hp) (t0 : Nat) (v1 : Int32) (v2 : Option Nat) (v3 : Int32) {z : hp} (h : S_X2_init σ t0 v1 v2 v3 = some z) : mt l yX2_init cX2_init 4 (none) 1 26 D dA base σ [.ref t0, .int v1, va_rf v2, .int v3] none z (z.2.2.2.1 - σ.2.2.2.1) (z.2.2.2.2 - σ.2.2.2.2) := by
  have hzz := mo_X2_init_0 h
  unfold le4 at hzz
  refine Met.ofW (cc := cX2_init) (maxL := 4) (ret := none) (by decide) rfl ?_
  intro p e s m args below meth c s₁ B hml hv
  obtain ⟨rfl, hh, hK⟩ := hv
  have X : cx p s m ([.ref t0, .int v1, va_rf v2, .int v3] : List Value).toArray c cX2_init RX2 4 D dA := ⟨B.exec, B.bytes, findClass_of_methodNamed B.named, hml, fun w hw => atoms_spec (ws := .code yX2_init cX2_init 4 (none) :: G) B.pre w (List.mem_cons_of_mem _ hw), hK⟩
  have hl := lk_entry [.inr (some t0), .inl v1, .inr v2, .inl v3] (n := 4) (Nat.le_of_ble_eq_true rfl)
  rw [lg_entry_eq]
  have hl : lk ((lg_sl ([.ref t0, .int v1, va_rf v2, .int v3] : List Value) ++ List.replicate (4 - (lg_sl ([.ref t0, .int v1, va_rf v2, .int v3] : List Value)).length) Slot.unset).toArray) 4 [(0, .inr (some t0)), (1, .inl v1), (2, .inr v2), (3, .inl v3)] := hl
  generalize (lg_sl ([.ref t0, .int v1, va_rf v2, .int v3] : List Value) ++ List.replicate (4 - (lg_sl ([.ref t0, .int v1, va_rf v2, .int v3] : List Value)).length) Slot.unset).toArray = ls at hl ⊢
  refine W.cs (cells' := σ.2.2.2.1 - σ.2.2.2.1) (slots' := σ.2.2.2.2 - σ.2.2.2.2) (Nat.sub_self _).symm (Nat.sub_self _).symm ?_
  exact K_X2_init_0 X B.returns B.notSynchronized ⟨Nat.le_refl _, Nat.le_refl _⟩ (name_of_methodNamed B.named B.method).1 (n0 := σ.2.2.2.1) (s0 := σ.2.2.2.2) ⟨by show _ ≤ _ + (_ - _); omega, by show _ ≤ _ + (_ - _); omega⟩ ⟨Nat.le_refl _, Nat.le_refl _⟩ hh va_S.rf hl h
theorem mo_X0_addJob_31 {z : Int32 × hp} {σ : hp} {t0 : Nat} {v3 : Int32} {w0 : Option Nat} {w1 : Int32} {w2 : Option Nat} (h : S_X0_addJob_31 σ t0 v3 w0 w1 w2 = some z) : le4 σ z.2 := by
  unfold S_X0_addJob_31 at h
  obtain ⟨s31, e_s31, h⟩ := o_b h
  obtain ⟨t34, e_t34, h⟩ := o_b h
  obtain ⟨s39, e_s39, h⟩ := o_b h
  cases h
  show le4 σ s39
  exact ((e_stQ e_s31).le).tr (e_pI e_s39).le
set_option maxHeartbeats 4000000 in
set_option maxRecDepth 100000 in
theorem K_X0_addJob_31 {p : Program} {l : Launch} {e : Env} {R : Room} {s : State} {m : MethodId} {args : Array Value} {below : List Frame} {meth : Method} {c : Code} {D : va_G} {dA : Nat → ClassId} {base : Nat} {z : Int32 × hp} (X : cx p s m args c cX0_addJob RX0 4 D dA) (hret : meth.sig.returnType = some .int) (hlk : meth.locks = false) (hR : 2 ≤ R.frames ∧ 49 ≤ R.locals) {n0 s0 : Nat} (hRc : z.2.2.2.2.1 ≤ n0 + R.cells ∧ z.2.2.2.2.2 ≤ s0 + R.slots) {σ : hp} {t0 : Nat} {v3 : Int32} {w0 : Option Nat} {w1 : Int32} {w2 : Option Nat} {H : Heap} {locs : List Loc} {ls : Array Slot} (hn : n0 ≤ σ.2.2.2.1 ∧ s0 ≤ σ.2.2.2.2) (hh : hw D dA base σ H) (hS : hs base s.heap H locs) (hl : lk ls 4 [(0, .inr (some t0)), (3, .inl v3)]) (h : S_X0_addJob_31 σ t0 v3 w0 w1 w2 = some z) : W p l e R s m args below meth c H locs (σ.2.2.2.1 - n0) (σ.2.2.2.2 - s0) (MQ below (qG D dA base (some (.int z.1)) z.2) args s (z.2.2.2.2.1 - n0) (z.2.2.2.2.2 - s0) (fun q => base ≤ q)) (F0 m 31 ls [va_rf w2, .int w1, va_rf w0]) := by
  have hz0 := mo_X0_addJob_31 h
  have hcl : σ.2.2.2.1 - n0 ≤ R.cells ∧ σ.2.2.2.2 - s0 ≤ R.slots := by unfold le4 at hz0; omega
  unfold S_X0_addJob_31 at h
  obtain ⟨s31, e_s31, h⟩ := o_b h
  refine q_stQ (cN := 2) X hh hS (by decide) rfl rfl e_s31 dX0_addJob_31 (fun H locs hh hS => ?_)
  refine q_aload_n X dX0_addJob_32 rfl hl 0 rfl ?_
  refine lv_dup X.1 X.2.1 dX0_addJob_33 (vv_cat (.inr (some t0))) ?_
  obtain ⟨t34, e_t34, h⟩ := o_b h
  refine q_gI X hh fa_X0_21 rfl e_t34 dX0_addJob_34 ?_
  refine lv_iconst (v := (1 : Int32)) X.1 X.2.1 dX0_addJob_37 (by decide) ?_
  refine lv_iadd X.1 X.2.1 dX0_addJob_38 ?_
  obtain ⟨s39, e_s39, h⟩ := o_b h
  refine q_pI X hh hS fp_X0_21 (fun h => by cases h) rfl e_s39 dX0_addJob_39 (fun H locs hh hS => ?_)
  refine q_iload_n X dX0_addJob_42 rfl hl 1 rfl ?_
  have ys39 : eq4 σ s39 := ((e_stQ e_s31)).tr (e_pI e_s39)
  refine W.cs (cells' := s39.2.2.2.1 - n0) (slots' := s39.2.2.2.2 - s0) (by rw [show s39.2.2.2 = σ.2.2.2 from ys39]) (by rw [show s39.2.2.2 = σ.2.2.2 from ys39]) ?_
  have hn : n0 ≤ s39.2.2.2.1 ∧ s0 ≤ s39.2.2.2.2 := by rw [show s39.2.2.2 = σ.2.2.2 from ys39]; exact hn
  have hcl : s39.2.2.2.1 - n0 ≤ R.cells ∧ s39.2.2.2.2 - s0 ≤ R.slots := by rw [show s39.2.2.2 = σ.2.2.2 from ys39]; exact hcl
  cases h
  exact q_iret X hret hlk hh hS dX0_addJob_43
theorem mo_X0_addJob_24 {z : Int32 × hp} {σ : hp} {t0 : Nat} {v1 : Option Nat} {v2 : Int32} {v3 : Int32} {w0 : Option Nat} {w1 : Int32} {w2 : Option Nat} (h : S_X0_addJob_24 σ t0 v1 v2 v3 w0 w1 w2 = some z) : le4 σ z.2 := by
  unfold S_X0_addJob_24 at h
  obtain ⟨b28, e_b28, h⟩ := o_b h
  obtain ⟨q28, e_q28, h⟩ := o_b h
  exact ((mo_X2_init_0 e_q28)).tr (mo_X0_addJob_31 h)
set_option maxHeartbeats 4000000 in
set_option maxRecDepth 100000 in
theorem K_X0_addJob_24 {p : Program} {l : Launch} {e : Env} {R : Room} {s : State} {m : MethodId} {args : Array Value} {below : List Frame} {meth : Method} {c : Code} {D : va_G} {dA : Nat → ClassId} {base : Nat} {z : Int32 × hp} (X : cx p s m args c cX0_addJob RX0 4 D dA) (hret : meth.sig.returnType = some .int) (hlk : meth.locks = false) (hR : 2 ≤ R.frames ∧ 49 ≤ R.locals) {n0 s0 : Nat} (hRc : z.2.2.2.2.1 ≤ n0 + R.cells ∧ z.2.2.2.2.2 ≤ s0 + R.slots) {σ : hp} {t0 : Nat} {v1 : Option Nat} {v2 : Int32} {v3 : Int32} {w0 : Option Nat} {w1 : Int32} {w2 : Option Nat} {H : Heap} {locs : List Loc} {ls : Array Slot} (hn : n0 ≤ σ.2.2.2.1 ∧ s0 ≤ σ.2.2.2.2) (hh : hw D dA base σ H) (hS : hs base s.heap H locs) (hl : lk ls 4 [(0, .inr (some t0)), (1, .inr v1), (2, .inl v2), (3, .inl v3)]) (h : S_X0_addJob_24 σ t0 v1 v2 v3 w0 w1 w2 = some z) : W p l e R s m args below meth c H locs (σ.2.2.2.1 - n0) (σ.2.2.2.2 - s0) (MQ below (qG D dA base (some (.int z.1)) z.2) args s (z.2.2.2.2.1 - n0) (z.2.2.2.2.2 - s0) (fun q => base ≤ q)) (F0 m 24 ls [va_rf w2, .int w1, va_rf w0]) := by
  have hz0 := mo_X0_addJob_24 h
  have hcl : σ.2.2.2.1 - n0 ≤ R.cells ∧ σ.2.2.2.2 - s0 ≤ R.slots := by unfold le4 at hz0; omega
  unfold S_X0_addJob_24 at h
  refine lv_dup X.1 X.2.1 dX0_addJob_24 (vv_cat (.inr w2)) ?_
  refine q_iload_n X dX0_addJob_25 rfl hl 3 rfl ?_
  refine q_aload_n X dX0_addJob_26 rfl hl 1 rfl ?_
  refine q_iload_n X dX0_addJob_27 rfl hl 2 rfl ?_
  obtain ⟨b28, e_b28, h⟩ := o_b h
  obtain ⟨q28, e_q28, h⟩ := o_b h
  have g28 := mo_X0_addJob_31 h
  have f28 := mo_X2_init_0 e_q28
  unfold le4 at g28 f28
  refine q_cI (As := [.int v3, va_rf v1, .int v2]) X hh hS hl cf_X0_33 e_b28 rfl (M_X2_init l D dA base σ b28 v3 v1 v2 e_q28) ⟨Nat.le_trans (by decide) hR.1, Nat.le_trans (by decide) hR.2⟩ (cat8 [.inr w2, .inl w1, .inr w0] (Nat.le_of_ble_eq_true rfl)) dX0_addJob_28 ⟨by omega, by omega⟩ rfl (fun H locs hh hS => ?_)
  refine W.cs (cells' := q28.2.2.2.1 - n0) (slots' := q28.2.2.2.2 - s0) (by omega) (by omega) ?_
  have hn : n0 ≤ q28.2.2.2.1 ∧ s0 ≤ q28.2.2.2.2 := by omega
  exact K_X0_addJob_31 X hret hlk hR hRc hn hh hS (lk_sub hl [0, 3] rfl) h
theorem mo_X0_addJob_0 {z : Int32 × hp} {σ : hp} {t0 : Nat} {v1 : Option Nat} {v2 : Int32} (h : S_X0_addJob σ t0 v1 v2 = some z) : le4 σ z.2 := by
  unfold S_X0_addJob at h
  obtain ⟨t1, e_t1, h⟩ := o_b h
  by_cases c6 : t1 < (30 : Int32)
  · rw [if_pos c6] at h
    obtain ⟨t12, e_t12, h⟩ := o_b h
    obtain ⟨t17, e_t17, h⟩ := o_b h
    obtain ⟨q21, e_q21, h⟩ := o_b h
    exact ((m_nw e_q21)).tr (mo_X0_addJob_24 h)
  · rw [if_neg c6] at h
    cases h
    show le4 σ σ
    exact le4.rf _
set_option maxHeartbeats 4000000 in
set_option maxRecDepth 100000 in
theorem K_X0_addJob_0 {p : Program} {l : Launch} {e : Env} {R : Room} {s : State} {m : MethodId} {args : Array Value} {below : List Frame} {meth : Method} {c : Code} {D : va_G} {dA : Nat → ClassId} {base : Nat} {z : Int32 × hp} (X : cx p s m args c cX0_addJob RX0 4 D dA) (hret : meth.sig.returnType = some .int) (hlk : meth.locks = false) (hR : 2 ≤ R.frames ∧ 49 ≤ R.locals) {n0 s0 : Nat} (hRc : z.2.2.2.2.1 ≤ n0 + R.cells ∧ z.2.2.2.2.2 ≤ s0 + R.slots) {σ : hp} {t0 : Nat} {v1 : Option Nat} {v2 : Int32} {H : Heap} {locs : List Loc} {ls : Array Slot} (hn : n0 ≤ σ.2.2.2.1 ∧ s0 ≤ σ.2.2.2.2) (hh : hw D dA base σ H) (hS : hs base s.heap H locs) (hl : lk ls 4 [(0, .inr (some t0)), (1, .inr v1), (2, .inl v2)]) (h : S_X0_addJob σ t0 v1 v2 = some z) : W p l e R s m args below meth c H locs (σ.2.2.2.1 - n0) (σ.2.2.2.2 - s0) (MQ below (qG D dA base (some (.int z.1)) z.2) args s (z.2.2.2.2.1 - n0) (z.2.2.2.2.2 - s0) (fun q => base ≤ q)) (F0 m 0 ls []) := by
  have hz0 := mo_X0_addJob_0 h
  have hcl : σ.2.2.2.1 - n0 ≤ R.cells ∧ σ.2.2.2.2 - s0 ≤ R.slots := by unfold le4 at hz0; omega
  unfold S_X0_addJob at h
  refine q_aload_n X dX0_addJob_0 rfl hl 0 rfl ?_
  obtain ⟨t1, e_t1, h⟩ := o_b h
  refine q_gI X hh fa_X0_21 rfl e_t1 dX0_addJob_1 ?_
  refine lv_bipush (v := (30 : Int32)) X.1 X.2.1 dX0_addJob_4 (by decide) ?_
  refine lv_icmp_lt (tgt := 11) X.1 X.2.1 dX0_addJob_6 (by decide) (fun c6 => ?_) (fun c6 => ?_)
  · rw [if_pos c6] at h
    refine q_aload_n X dX0_addJob_11 rfl hl 0 rfl ?_
    obtain ⟨t12, e_t12, h⟩ := o_b h
    refine q_gI X hh fa_X0_21 rfl e_t12 dX0_addJob_12 ?_
    refine q_istore_n (lv' := [(3, .inl t12), (0, .inr (some t0)), (1, .inr v1), (2, .inl v2)]) X dX0_addJob_15 rfl hl (by decide) rfl (fun ls hl => ?_)
    refine q_aload_n X dX0_addJob_16 rfl hl 1 rfl ?_
    obtain ⟨t17, e_t17, h⟩ := o_b h
    refine q_gR X hh fa_X0_13 rfl e_t17 dX0_addJob_17 ?_
    refine q_iload_n X dX0_addJob_20 rfl hl 0 rfl ?_
    obtain ⟨q21, e_q21, h⟩ := o_b h
    have g21 := mo_X0_addJob_24 h
    have f21 := l_nw e_q21
    unfold le4 at g21
    refine q_nw X hh hS fn_X0_11 e_q21 dX0_addJob_21 (by omega) (by omega) (fun H hh hS => ?_)
    refine W.cs (cells' := q21.2.2.2.2.1 - n0) (slots' := q21.2.2.2.2.2 - s0) (by omega) (by omega) ?_
    have hn : n0 ≤ q21.2.2.2.2.1 ∧ s0 ≤ q21.2.2.2.2.2 := by omega
    exact K_X0_addJob_24 X hret hlk hR hRc hn hh hS (lk_sub hl [1, 2, 3, 0] rfl) h
  · rw [if_neg c6] at h
    refine lv_iconst (v := (-1 : Int32)) X.1 X.2.1 dX0_addJob_9 (by decide) ?_
    cases h
    exact q_iret X hret hlk hh hS dX0_addJob_10
set_option maxRecDepth 100000 in
theorem M_X0_addJob (l : Launch) (D : va_G) (dA : Nat → ClassId) (base : Nat) (σ : hp) (t0 : Nat) (v1 : Option Nat) (v2 : Int32) {z : Int32 × hp} (h : S_X0_addJob σ t0 v1 v2 = some z) : mt l yX0_addJob cX0_addJob 4 (some .int) 2 49 D dA base σ [.ref t0, va_rf v1, .int v2] (some (.int z.1)) z.2 (z.2.2.2.2.1 - σ.2.2.2.1) (z.2.2.2.2.2 - σ.2.2.2.2) := by
  have hzz := mo_X0_addJob_0 h
  unfold le4 at hzz
  refine Met.ofW (cc := cX0_addJob) (maxL := 4) (ret := some .int) (by decide) rfl ?_
  intro p e s m args below meth c s₁ B hml hv
  obtain ⟨rfl, hh, hK⟩ := hv
  have X : cx p s m ([.ref t0, va_rf v1, .int v2] : List Value).toArray c cX0_addJob RX0 4 D dA := ⟨B.exec, B.bytes, findClass_of_methodNamed B.named, hml, fun w hw => atoms_spec (ws := .code yX0_addJob cX0_addJob 4 (some .int) :: G) B.pre w (List.mem_cons_of_mem _ hw), hK⟩
  have hl := lk_entry [.inr (some t0), .inr v1, .inl v2] (n := 4) (Nat.le_of_ble_eq_true rfl)
  rw [lg_entry_eq]
  have hl : lk ((lg_sl ([.ref t0, va_rf v1, .int v2] : List Value) ++ List.replicate (4 - (lg_sl ([.ref t0, va_rf v1, .int v2] : List Value)).length) Slot.unset).toArray) 4 [(0, .inr (some t0)), (1, .inr v1), (2, .inl v2)] := hl
  generalize (lg_sl ([.ref t0, va_rf v1, .int v2] : List Value) ++ List.replicate (4 - (lg_sl ([.ref t0, va_rf v1, .int v2] : List Value)).length) Slot.unset).toArray = ls at hl ⊢
  refine W.cs (cells' := σ.2.2.2.1 - σ.2.2.2.1) (slots' := σ.2.2.2.2 - σ.2.2.2.2) (Nat.sub_self _).symm (Nat.sub_self _).symm ?_
  exact K_X0_addJob_0 X B.returns B.notSynchronized ⟨Nat.le_refl _, Nat.le_refl _⟩ (n0 := σ.2.2.2.1) (s0 := σ.2.2.2.2) ⟨by show _ ≤ _ + (_ - _); omega, by show _ ≤ _ + (_ - _); omega⟩ ⟨Nat.le_refl _, Nat.le_refl _⟩ hh va_S.rf hl h
set_option maxHeartbeats 4000000 in
set_option maxRecDepth 100000 in
theorem K_X0_firstJob_24 {p : Program} {l : Launch} {e : Env} {R : Room} {s : State} {m : MethodId} {args : Array Value} {below : List Frame} {meth : Method} {c : Code} {D : va_G} {dA : Nat → ClassId} {base : Nat} {z : Option Nat} (X : cx p s m args c cX0_firstJob RX0 1 D dA) (hret : meth.sig.returnType = some (.object "SpoolLink$Job")) (hlk : meth.locks = false) (hR : 0 ≤ R.frames ∧ 0 ≤ R.locals) {σ : hp} {w0 : Option Nat} {H : Heap} {locs : List Loc} {ls : Array Slot} (hh : hw D dA base σ H) (hS : hs base s.heap H locs) (hl : lk ls 1 []) (h : S_X0_firstJob_24 σ w0 = some z) : W p l e R s m args below meth c H locs 0 0 (MQ below (qG D dA base (some (va_rf z)) σ) args s 0 0 (fun q => base ≤ q)) (F0 m 24 ls [va_rf w0]) := by
  unfold S_X0_firstJob_24 at h
  cases h
  exact q_aret X hret hlk hh hS dX0_firstJob_24
set_option maxHeartbeats 4000000 in
set_option maxRecDepth 100000 in
theorem K_X0_firstJob_0 {p : Program} {l : Launch} {e : Env} {R : Room} {s : State} {m : MethodId} {args : Array Value} {below : List Frame} {meth : Method} {c : Code} {D : va_G} {dA : Nat → ClassId} {base : Nat} {z : Option Nat} (X : cx p s m args c cX0_firstJob RX0 1 D dA) (hret : meth.sig.returnType = some (.object "SpoolLink$Job")) (hlk : meth.locks = false) (hR : 0 ≤ R.frames ∧ 0 ≤ R.locals) {σ : hp} {t0 : Nat} {H : Heap} {locs : List Loc} {ls : Array Slot} (hh : hw D dA base σ H) (hS : hs base s.heap H locs) (hl : lk ls 1 [(0, .inr (some t0))]) (h : S_X0_firstJob σ t0 = some z) : W p l e R s m args below meth c H locs 0 0 (MQ below (qG D dA base (some (va_rf z)) σ) args s 0 0 (fun q => base ≤ q)) (F0 m 0 ls []) := by
  unfold S_X0_firstJob at h
  refine q_aload_n X dX0_firstJob_0 rfl hl 0 rfl ?_
  obtain ⟨t1, e_t1, h⟩ := o_b h
  refine q_gI X hh fa_X0_17 rfl e_t1 dX0_firstJob_1 ?_
  refine q_aload_n X dX0_firstJob_4 rfl hl 0 rfl ?_
  obtain ⟨t5, e_t5, h⟩ := o_b h
  refine q_gI X hh fa_X0_21 rfl e_t5 dX0_firstJob_5 ?_
  refine lv_icmp_ge (tgt := 23) X.1 X.2.1 dX0_firstJob_8 (by decide) (fun c8 => ?_) (fun c8 => ?_)
  · rw [if_pos c8] at h
    refine q_nul X dX0_firstJob_23 ?_
    exact K_X0_firstJob_24 X hret hlk hR hh hS (lk_sub hl [] rfl) h
  · rw [if_neg c8] at h
    refine q_aload_n X dX0_firstJob_11 rfl hl 0 rfl ?_
    obtain ⟨t12, e_t12, h⟩ := o_b h
    refine q_gR X hh fa_X0_13 rfl e_t12 dX0_firstJob_12 ?_
    refine q_aload_n X dX0_firstJob_15 rfl hl 0 rfl ?_
    obtain ⟨t16, e_t16, h⟩ := o_b h
    refine q_gI X hh fa_X0_17 rfl e_t16 dX0_firstJob_16 ?_
    obtain ⟨t19, e_t19, h⟩ := o_b h
    refine q_ldQ X hh (by decide) rfl e_t19 dX0_firstJob_19 ?_
    refine lv_goto (tgt := 24) X.1 X.2.1 dX0_firstJob_20 (by decide) ?_
    exact K_X0_firstJob_24 X hret hlk hR hh hS (lk_sub hl [] rfl) h
set_option maxRecDepth 100000 in
theorem M_X0_firstJob (l : Launch) (D : va_G) (dA : Nat → ClassId) (base : Nat) (σ : hp) (t0 : Nat) {z : Option Nat} (h : S_X0_firstJob σ t0 = some z) : mt l yX0_firstJob cX0_firstJob 1 (some (.object "SpoolLink$Job")) 0 0 D dA base σ [.ref t0] (some (va_rf z)) σ 0 0 := by
  refine Met.ofW (cc := cX0_firstJob) (maxL := 1) (ret := some (.object "SpoolLink$Job")) (by decide) rfl ?_
  intro p e s m args below meth c s₁ B hml hv
  obtain ⟨rfl, hh, hK⟩ := hv
  have X : cx p s m ([.ref t0] : List Value).toArray c cX0_firstJob RX0 1 D dA := ⟨B.exec, B.bytes, findClass_of_methodNamed B.named, hml, fun w hw => atoms_spec (ws := .code yX0_firstJob cX0_firstJob 1 (some (.object "SpoolLink$Job")) :: G) B.pre w (List.mem_cons_of_mem _ hw), hK⟩
  have hl := lk_entry [.inr (some t0)] (n := 1) (Nat.le_of_ble_eq_true rfl)
  rw [lg_entry_eq]
  have hl : lk ((lg_sl ([.ref t0] : List Value) ++ List.replicate (1 - (lg_sl ([.ref t0] : List Value)).length) Slot.unset).toArray) 1 [(0, .inr (some t0))] := hl
  generalize (lg_sl ([.ref t0] : List Value) ++ List.replicate (1 - (lg_sl ([.ref t0] : List Value)).length) Slot.unset).toArray = ls at hl ⊢
  exact K_X0_firstJob_0 X B.returns B.notSynchronized ⟨Nat.le_refl _, Nat.le_refl _⟩ hh va_S.rf hl h
theorem ke_X0_dropFirstJob_0 {z : Int32 × hp} {σ : hp} {t0 : Nat} (h : S_X0_dropFirstJob σ t0 = some z) : eq4 σ z.2 := by
  unfold S_X0_dropFirstJob at h
  obtain ⟨t1, e_t1, h⟩ := o_b h
  obtain ⟨t5, e_t5, h⟩ := o_b h
  by_cases c8 : t1 < t5
  · rw [if_pos c8] at h
    obtain ⟨t15, e_t15, h⟩ := o_b h
    obtain ⟨s20, e_s20, h⟩ := o_b h
    cases h
    show eq4 σ s20
    exact (e_pI e_s20)
  · rw [if_neg c8] at h
    cases h
    show eq4 σ σ
    exact eq4.rf _
set_option maxHeartbeats 4000000 in
set_option maxRecDepth 100000 in
theorem K_X0_dropFirstJob_0 {p : Program} {l : Launch} {e : Env} {R : Room} {s : State} {m : MethodId} {args : Array Value} {below : List Frame} {meth : Method} {c : Code} {D : va_G} {dA : Nat → ClassId} {base : Nat} {z : Int32 × hp} (X : cx p s m args c cX0_dropFirstJob RX0 1 D dA) (hret : meth.sig.returnType = some .boolean) (hlk : meth.locks = false) (hR : 0 ≤ R.frames ∧ 0 ≤ R.locals) {σ : hp} {t0 : Nat} {H : Heap} {locs : List Loc} {ls : Array Slot} (hh : hw D dA base σ H) (hS : hs base s.heap H locs) (hl : lk ls 1 [(0, .inr (some t0))]) (h : S_X0_dropFirstJob σ t0 = some z) : W p l e R s m args below meth c H locs 0 0 (MQ below (qG D dA base (some (.int z.1)) z.2) args s 0 0 (fun q => base ≤ q)) (F0 m 0 ls []) := by
  unfold S_X0_dropFirstJob at h
  refine q_aload_n X dX0_dropFirstJob_0 rfl hl 0 rfl ?_
  obtain ⟨t1, e_t1, h⟩ := o_b h
  refine q_gI X hh fa_X0_17 rfl e_t1 dX0_dropFirstJob_1 ?_
  refine q_aload_n X dX0_dropFirstJob_4 rfl hl 0 rfl ?_
  obtain ⟨t5, e_t5, h⟩ := o_b h
  refine q_gI X hh fa_X0_21 rfl e_t5 dX0_dropFirstJob_5 ?_
  refine lv_icmp_lt (tgt := 13) X.1 X.2.1 dX0_dropFirstJob_8 (by decide) (fun c8 => ?_) (fun c8 => ?_)
  · rw [if_pos c8] at h
    refine q_aload_n X dX0_dropFirstJob_13 rfl hl 0 rfl ?_
    refine lv_dup X.1 X.2.1 dX0_dropFirstJob_14 (vv_cat (.inr (some t0))) ?_
    obtain ⟨t15, e_t15, h⟩ := o_b h
    refine q_gI X hh fa_X0_17 rfl e_t15 dX0_dropFirstJob_15 ?_
    refine lv_iconst (v := (1 : Int32)) X.1 X.2.1 dX0_dropFirstJob_18 (by decide) ?_
    refine lv_iadd X.1 X.2.1 dX0_dropFirstJob_19 ?_
    obtain ⟨s20, e_s20, h⟩ := o_b h
    refine q_pI X hh hS fp_X0_17 (fun h => by cases h) rfl e_s20 dX0_dropFirstJob_20 (fun H locs hh hS => ?_)
    refine lv_iconst (v := (1 : Int32)) X.1 X.2.1 dX0_dropFirstJob_23 (by decide) ?_
    cases h
    exact q_zret X hret hlk hh hS (by rfl) dX0_dropFirstJob_24
  · rw [if_neg c8] at h
    refine lv_iconst (v := (0 : Int32)) X.1 X.2.1 dX0_dropFirstJob_11 (by decide) ?_
    cases h
    exact q_zret X hret hlk hh hS (by rfl) dX0_dropFirstJob_12
set_option maxRecDepth 100000 in
theorem M_X0_dropFirstJob (l : Launch) (D : va_G) (dA : Nat → ClassId) (base : Nat) (σ : hp) (t0 : Nat) {z : Int32 × hp} (h : S_X0_dropFirstJob σ t0 = some z) : mt l yX0_dropFirstJob cX0_dropFirstJob 1 (some .boolean) 0 0 D dA base σ [.ref t0] (some (.int z.1)) z.2 0 0 := by
  refine Met.ofW (cc := cX0_dropFirstJob) (maxL := 1) (ret := some .boolean) (by decide) rfl ?_
  intro p e s m args below meth c s₁ B hml hv
  obtain ⟨rfl, hh, hK⟩ := hv
  have X : cx p s m ([.ref t0] : List Value).toArray c cX0_dropFirstJob RX0 1 D dA := ⟨B.exec, B.bytes, findClass_of_methodNamed B.named, hml, fun w hw => atoms_spec (ws := .code yX0_dropFirstJob cX0_dropFirstJob 1 (some .boolean) :: G) B.pre w (List.mem_cons_of_mem _ hw), hK⟩
  have hl := lk_entry [.inr (some t0)] (n := 1) (Nat.le_of_ble_eq_true rfl)
  rw [lg_entry_eq]
  have hl : lk ((lg_sl ([.ref t0] : List Value) ++ List.replicate (1 - (lg_sl ([.ref t0] : List Value)).length) Slot.unset).toArray) 1 [(0, .inr (some t0))] := hl
  generalize (lg_sl ([.ref t0] : List Value) ++ List.replicate (1 - (lg_sl ([.ref t0] : List Value)).length) Slot.unset).toArray = ls at hl ⊢
  exact K_X0_dropFirstJob_0 X B.returns B.notSynchronized ⟨Nat.le_refl _, Nat.le_refl _⟩ hh va_S.rf hl h
set_option maxHeartbeats 4000000 in
set_option maxRecDepth 100000 in
theorem K_X0_hasDone_2_b {p : Program} {l : Launch} {e : Env} {R : Room} {s : State} {m : MethodId} {args : Array Value} {below : List Frame} {meth : Method} {c : Code} {D : va_G} {dA : Nat → ClassId} {base : Nat} {rec2 : hp → Nat → Int32 → Int32 → Option (Int32)} {z : Int32} (X : cx p s m args c cX0_hasDone RX0 3 D dA) (hret : meth.sig.returnType = some .boolean) (hlk : meth.locks = false) (hR : 0 ≤ R.frames ∧ 0 ≤ R.locals) (hr2 : ∀ (σ : hp) (t0 : Nat) (v1 : Int32) (v2 : Int32) (H : Heap) (locs : List Loc) (ls : Array Slot), hw D dA base σ H → hs base s.heap H locs → lk ls 3 [(0, .inr (some t0)), (1, .inl v1), (2, .inl v2)] → rec2 σ t0 v1 v2 = some z → W p l e R s m args below meth c H locs 0 0 (MQ below (qG D dA base (some (.int z)) σ) args s 0 0 (fun q => base ≤ q)) (F0 m 2 ls [])) {σ : hp} {t0 : Nat} {v1 : Int32} {v2 : Int32} {H : Heap} {locs : List Loc} {ls : Array Slot} (hh : hw D dA base σ H) (hS : hs base s.heap H locs) (hl : lk ls 3 [(0, .inr (some t0)), (1, .inl v1), (2, .inl v2)]) (h : S_X0_hasDone_2_b rec2 σ t0 v1 v2 = some z) : W p l e R s m args below meth c H locs 0 0 (MQ below (qG D dA base (some (.int z)) σ) args s 0 0 (fun q => base ≤ q)) (F0 m 2 ls []) := by
  unfold S_X0_hasDone_2_b at h
  refine q_iload_n X dX0_hasDone_2 rfl hl 2 rfl ?_
  refine q_aload_n X dX0_hasDone_3 rfl hl 0 rfl ?_
  obtain ⟨t4, e_t4, h⟩ := o_b h
  refine q_gI X hh fa_X0_27 rfl e_t4 dX0_hasDone_4 ?_
  refine lv_icmp_ge (tgt := 31) X.1 X.2.1 dX0_hasDone_7 (by decide) (fun c7 => ?_) (fun c7 => ?_)
  · rw [if_pos c7] at h
    refine lv_iconst (v := (0 : Int32)) X.1 X.2.1 dX0_hasDone_31 (by decide) ?_
    cases h
    exact q_zret X hret hlk hh hS (by rfl) dX0_hasDone_32
  · rw [if_neg c7] at h
    refine q_aload_n X dX0_hasDone_10 rfl hl 0 rfl ?_
    obtain ⟨t11, e_t11, h⟩ := o_b h
    refine q_gR X hh fa_X0_24 rfl e_t11 dX0_hasDone_11 ?_
    refine q_iload_n X dX0_hasDone_14 rfl hl 2 rfl ?_
    obtain ⟨t15, e_t15, h⟩ := o_b h
    refine q_ldQ X hh (by decide) rfl e_t15 dX0_hasDone_15 ?_
    obtain ⟨t16, e_t16, h⟩ := o_b h
    refine q_gI X hh fa_X0_36 rfl e_t16 dX0_hasDone_16 ?_
    refine q_iload_n X dX0_hasDone_19 rfl hl 1 rfl ?_
    refine lv_icmp_ne (tgt := 25) X.1 X.2.1 dX0_hasDone_20 (by decide) (fun c20 => ?_) (fun c20 => ?_)
    · rw [if_neg c20] at h
      refine q_iinc (v := (1 : Int32)) (lv' := [(2, .inl (v2 + (1 : Int32))), (0, .inr (some t0)), (1, .inl v1)]) X dX0_hasDone_25 hl 2 rfl (by decide) (by decide) rfl (fun ls hl => ?_)
      refine lv_goto (tgt := 2) X.1 X.2.1 dX0_hasDone_28 (by decide) ?_
      exact hr2 _ _ _ _ _ _ _ hh hS (lk_sub hl [1, 2, 0] rfl) h
    · rw [if_pos c20] at h
      refine lv_iconst (v := (1 : Int32)) X.1 X.2.1 dX0_hasDone_23 (by decide) ?_
      cases h
      exact q_zret X hret hlk hh hS (by rfl) dX0_hasDone_24
theorem K_X0_hasDone_2 {p : Program} {l : Launch} {e : Env} {R : Room} {s : State} {m : MethodId} {args : Array Value} {below : List Frame} {meth : Method} {c : Code} {D : va_G} {dA : Nat → ClassId} {base : Nat} {z : Int32} (X : cx p s m args c cX0_hasDone RX0 3 D dA) (hret : meth.sig.returnType = some .boolean) (hlk : meth.locks = false) (hR : 0 ≤ R.frames ∧ 0 ≤ R.locals) : ∀ (n : Nat) (σ : hp) (t0 : Nat) (v1 : Int32) (v2 : Int32) (H : Heap) (locs : List Loc) (ls : Array Slot), hw D dA base σ H → hs base s.heap H locs → lk ls 3 [(0, .inr (some t0)), (1, .inl v1), (2, .inl v2)] → S_X0_hasDone_2 n σ t0 v1 v2 = some z → W p l e R s m args below meth c H locs 0 0 (MQ below (qG D dA base (some (.int z)) σ) args s 0 0 (fun q => base ≤ q)) (F0 m 2 ls []) := by
  intro n
  induction n with
  | zero => intro σ t0 v1 v2 H locs ls hh hS hl h; cases h
  | succ n ih => intro σ t0 v1 v2 H locs ls hh hS hl h; exact K_X0_hasDone_2_b X hret hlk hR ih hh hS hl h
set_option maxHeartbeats 4000000 in
set_option maxRecDepth 100000 in
theorem K_X0_hasDone_0 {p : Program} {l : Launch} {e : Env} {R : Room} {s : State} {m : MethodId} {args : Array Value} {below : List Frame} {meth : Method} {c : Code} {D : va_G} {dA : Nat → ClassId} {base : Nat} {z : Int32} (X : cx p s m args c cX0_hasDone RX0 3 D dA) (hret : meth.sig.returnType = some .boolean) (hlk : meth.locks = false) (hR : 0 ≤ R.frames ∧ 0 ≤ R.locals) {σ : hp} {t0 : Nat} {v1 : Int32} {H : Heap} {locs : List Loc} {ls : Array Slot} (hh : hw D dA base σ H) (hS : hs base s.heap H locs) (hl : lk ls 3 [(0, .inr (some t0)), (1, .inl v1)]) (h : S_X0_hasDone σ t0 v1 = some z) : W p l e R s m args below meth c H locs 0 0 (MQ below (qG D dA base (some (.int z)) σ) args s 0 0 (fun q => base ≤ q)) (F0 m 0 ls []) := by
  unfold S_X0_hasDone at h
  refine lv_iconst (v := (0 : Int32)) X.1 X.2.1 dX0_hasDone_0 (by decide) ?_
  refine q_istore_n (lv' := [(2, .inl (0 : Int32)), (0, .inr (some t0)), (1, .inl v1)]) X dX0_hasDone_1 rfl hl (by decide) rfl (fun ls hl => ?_)
  exact K_X0_hasDone_2 X hret hlk hR FU _ _ _ _ _ _ _ hh hS (lk_sub hl [1, 2, 0] rfl) h
set_option maxRecDepth 100000 in
theorem M_X0_hasDone (l : Launch) (D : va_G) (dA : Nat → ClassId) (base : Nat) (σ : hp) (t0 : Nat) (v1 : Int32) {z : Int32} (h : S_X0_hasDone σ t0 v1 = some z) : mt l yX0_hasDone cX0_hasDone 3 (some .boolean) 0 0 D dA base σ [.ref t0, .int v1] (some (.int z)) σ 0 0 := by
  refine Met.ofW (cc := cX0_hasDone) (maxL := 3) (ret := some .boolean) (by decide) rfl ?_
  intro p e s m args below meth c s₁ B hml hv
  obtain ⟨rfl, hh, hK⟩ := hv
  have X : cx p s m ([.ref t0, .int v1] : List Value).toArray c cX0_hasDone RX0 3 D dA := ⟨B.exec, B.bytes, findClass_of_methodNamed B.named, hml, fun w hw => atoms_spec (ws := .code yX0_hasDone cX0_hasDone 3 (some .boolean) :: G) B.pre w (List.mem_cons_of_mem _ hw), hK⟩
  have hl := lk_entry [.inr (some t0), .inl v1] (n := 3) (Nat.le_of_ble_eq_true rfl)
  rw [lg_entry_eq]
  have hl : lk ((lg_sl ([.ref t0, .int v1] : List Value) ++ List.replicate (3 - (lg_sl ([.ref t0, .int v1] : List Value)).length) Slot.unset).toArray) 3 [(0, .inr (some t0)), (1, .inl v1)] := hl
  generalize (lg_sl ([.ref t0, .int v1] : List Value) ++ List.replicate (3 - (lg_sl ([.ref t0, .int v1] : List Value)).length) Slot.unset).toArray = ls at hl ⊢
  exact K_X0_hasDone_0 X B.returns B.notSynchronized ⟨Nat.le_refl _, Nat.le_refl _⟩ hh va_S.rf hl h
theorem ke_X0_addDone_30 {z : hp} {σ : hp} (h : S_X0_addDone_30 σ = some z) : eq4 σ z := by
  unfold S_X0_addDone_30 at h
  cases h
  exact eq4.rf _
set_option maxHeartbeats 4000000 in
set_option maxRecDepth 100000 in
theorem K_X0_addDone_30 {p : Program} {l : Launch} {e : Env} {R : Room} {s : State} {m : MethodId} {args : Array Value} {below : List Frame} {meth : Method} {c : Code} {D : va_G} {dA : Nat → ClassId} {base : Nat} {z : hp} (X : cx p s m args c cX0_addDone RX0 2 D dA) (hret : meth.sig.returnType = none) (hlk : meth.locks = false) (hR : 0 ≤ R.frames ∧ 0 ≤ R.locals) {σ : hp} {H : Heap} {locs : List Loc} {ls : Array Slot} (hh : hw D dA base σ H) (hS : hs base s.heap H locs) (hl : lk ls 2 []) (h : S_X0_addDone_30 σ = some z) : W p l e R s m args below meth c H locs 0 0 (MQ below (qG D dA base none z) args s 0 0 (fun q => base ≤ q)) (F0 m 30 ls []) := by
  unfold S_X0_addDone_30 at h
  cases h
  exact q_vret X hret hlk hh hS dX0_addDone_30
theorem ke_X0_addDone_0 {z : hp} {σ : hp} {t0 : Nat} {v1 : Option Nat} (h : S_X0_addDone σ t0 v1 = some z) : eq4 σ z := by
  unfold S_X0_addDone at h
  obtain ⟨t1, e_t1, h⟩ := o_b h
  by_cases c7 : (256 : Int32) ≤ t1
  · rw [if_pos c7] at h
    exact (ke_X0_addDone_30 h)
  · rw [if_neg c7] at h
    obtain ⟨t11, e_t11, h⟩ := o_b h
    obtain ⟨t15, e_t15, h⟩ := o_b h
    obtain ⟨s19, e_s19, h⟩ := o_b h
    obtain ⟨t22, e_t22, h⟩ := o_b h
    obtain ⟨s27, e_s27, h⟩ := o_b h
    exact (((e_stQ e_s19)).tr (e_pI e_s27)).tr (ke_X0_addDone_30 h)
set_option maxHeartbeats 4000000 in
set_option maxRecDepth 100000 in
theorem K_X0_addDone_0 {p : Program} {l : Launch} {e : Env} {R : Room} {s : State} {m : MethodId} {args : Array Value} {below : List Frame} {meth : Method} {c : Code} {D : va_G} {dA : Nat → ClassId} {base : Nat} {z : hp} (X : cx p s m args c cX0_addDone RX0 2 D dA) (hret : meth.sig.returnType = none) (hlk : meth.locks = false) (hR : 0 ≤ R.frames ∧ 0 ≤ R.locals) {σ : hp} {t0 : Nat} {v1 : Option Nat} {H : Heap} {locs : List Loc} {ls : Array Slot} (hh : hw D dA base σ H) (hS : hs base s.heap H locs) (hl : lk ls 2 [(0, .inr (some t0)), (1, .inr v1)]) (h : S_X0_addDone σ t0 v1 = some z) : W p l e R s m args below meth c H locs 0 0 (MQ below (qG D dA base none z) args s 0 0 (fun q => base ≤ q)) (F0 m 0 ls []) := by
  unfold S_X0_addDone at h
  refine q_aload_n X dX0_addDone_0 rfl hl 0 rfl ?_
  obtain ⟨t1, e_t1, h⟩ := o_b h
  refine q_gI X hh fa_X0_27 rfl e_t1 dX0_addDone_1 ?_
  refine lv_sipush (v := (256 : Int32)) X.1 X.2.1 dX0_addDone_4 (by decide) ?_
  refine lv_icmp_ge (tgt := 30) X.1 X.2.1 dX0_addDone_7 (by decide) (fun c7 => ?_) (fun c7 => ?_)
  · rw [if_pos c7] at h
    exact K_X0_addDone_30 X hret hlk hR hh hS (lk_sub hl [] rfl) h
  · rw [if_neg c7] at h
    refine q_aload_n X dX0_addDone_10 rfl hl 0 rfl ?_
    obtain ⟨t11, e_t11, h⟩ := o_b h
    refine q_gR X hh fa_X0_24 rfl e_t11 dX0_addDone_11 ?_
    refine q_aload_n X dX0_addDone_14 rfl hl 0 rfl ?_
    obtain ⟨t15, e_t15, h⟩ := o_b h
    refine q_gI X hh fa_X0_27 rfl e_t15 dX0_addDone_15 ?_
    refine q_aload_n X dX0_addDone_18 rfl hl 1 rfl ?_
    obtain ⟨s19, e_s19, h⟩ := o_b h
    refine q_stQ (cN := 2) X hh hS (by decide) rfl rfl e_s19 dX0_addDone_19 (fun H locs hh hS => ?_)
    refine q_aload_n X dX0_addDone_20 rfl hl 0 rfl ?_
    refine lv_dup X.1 X.2.1 dX0_addDone_21 (vv_cat (.inr (some t0))) ?_
    obtain ⟨t22, e_t22, h⟩ := o_b h
    refine q_gI X hh fa_X0_27 rfl e_t22 dX0_addDone_22 ?_
    refine lv_iconst (v := (1 : Int32)) X.1 X.2.1 dX0_addDone_25 (by decide) ?_
    refine lv_iadd X.1 X.2.1 dX0_addDone_26 ?_
    obtain ⟨s27, e_s27, h⟩ := o_b h
    refine q_pI X hh hS fp_X0_27 (fun h => by cases h) rfl e_s27 dX0_addDone_27 (fun H locs hh hS => ?_)
    exact K_X0_addDone_30 X hret hlk hR hh hS (lk_sub hl [] rfl) h
set_option maxRecDepth 100000 in
theorem M_X0_addDone (l : Launch) (D : va_G) (dA : Nat → ClassId) (base : Nat) (σ : hp) (t0 : Nat) (v1 : Option Nat) {z : hp} (h : S_X0_addDone σ t0 v1 = some z) : mt l yX0_addDone cX0_addDone 2 (none) 0 0 D dA base σ [.ref t0, va_rf v1] none z 0 0 := by
  refine Met.ofW (cc := cX0_addDone) (maxL := 2) (ret := none) (by decide) rfl ?_
  intro p e s m args below meth c s₁ B hml hv
  obtain ⟨rfl, hh, hK⟩ := hv
  have X : cx p s m ([.ref t0, va_rf v1] : List Value).toArray c cX0_addDone RX0 2 D dA := ⟨B.exec, B.bytes, findClass_of_methodNamed B.named, hml, fun w hw => atoms_spec (ws := .code yX0_addDone cX0_addDone 2 (none) :: G) B.pre w (List.mem_cons_of_mem _ hw), hK⟩
  have hl := lk_entry [.inr (some t0), .inr v1] (n := 2) (Nat.le_of_ble_eq_true rfl)
  rw [lg_entry_eq]
  have hl : lk ((lg_sl ([.ref t0, va_rf v1] : List Value) ++ List.replicate (2 - (lg_sl ([.ref t0, va_rf v1] : List Value)).length) Slot.unset).toArray) 2 [(0, .inr (some t0)), (1, .inr v1)] := hl
  generalize (lg_sl ([.ref t0, va_rf v1] : List Value) ++ List.replicate (2 - (lg_sl ([.ref t0, va_rf v1] : List Value)).length) Slot.unset).toArray = ls at hl ⊢
  exact K_X0_addDone_0 X B.returns B.notSynchronized ⟨Nat.le_refl _, Nat.le_refl _⟩ hh va_S.rf hl h
set_option maxHeartbeats 4000000 in
set_option maxRecDepth 100000 in
theorem K_X0_doneJob_22 {p : Program} {l : Launch} {e : Env} {R : Room} {s : State} {m : MethodId} {args : Array Value} {below : List Frame} {meth : Method} {c : Code} {D : va_G} {dA : Nat → ClassId} {base : Nat} {z : Option Nat} (X : cx p s m args c cX0_doneJob RX0 2 D dA) (hret : meth.sig.returnType = some (.object "SpoolLink$Job")) (hlk : meth.locks = false) (hR : 0 ≤ R.frames ∧ 0 ≤ R.locals) {σ : hp} {w0 : Option Nat} {H : Heap} {locs : List Loc} {ls : Array Slot} (hh : hw D dA base σ H) (hS : hs base s.heap H locs) (hl : lk ls 2 []) (h : S_X0_doneJob_22 σ w0 = some z) : W p l e R s m args below meth c H locs 0 0 (MQ below (qG D dA base (some (va_rf z)) σ) args s 0 0 (fun q => base ≤ q)) (F0 m 22 ls [va_rf w0]) := by
  unfold S_X0_doneJob_22 at h
  cases h
  exact q_aret X hret hlk hh hS dX0_doneJob_22
set_option maxHeartbeats 4000000 in
set_option maxRecDepth 100000 in
theorem K_X0_doneJob_21 {p : Program} {l : Launch} {e : Env} {R : Room} {s : State} {m : MethodId} {args : Array Value} {below : List Frame} {meth : Method} {c : Code} {D : va_G} {dA : Nat → ClassId} {base : Nat} {z : Option Nat} (X : cx p s m args c cX0_doneJob RX0 2 D dA) (hret : meth.sig.returnType = some (.object "SpoolLink$Job")) (hlk : meth.locks = false) (hR : 0 ≤ R.frames ∧ 0 ≤ R.locals) {σ : hp} {H : Heap} {locs : List Loc} {ls : Array Slot} (hh : hw D dA base σ H) (hS : hs base s.heap H locs) (hl : lk ls 2 []) (h : S_X0_doneJob_21 σ = some z) : W p l e R s m args below meth c H locs 0 0 (MQ below (qG D dA base (some (va_rf z)) σ) args s 0 0 (fun q => base ≤ q)) (F0 m 21 ls []) := by
  unfold S_X0_doneJob_21 at h
  refine q_nul X dX0_doneJob_21 ?_
  exact K_X0_doneJob_22 X hret hlk hR hh hS (lk_sub hl [] rfl) h
set_option maxHeartbeats 4000000 in
set_option maxRecDepth 100000 in
theorem K_X0_doneJob_0 {p : Program} {l : Launch} {e : Env} {R : Room} {s : State} {m : MethodId} {args : Array Value} {below : List Frame} {meth : Method} {c : Code} {D : va_G} {dA : Nat → ClassId} {base : Nat} {z : Option Nat} (X : cx p s m args c cX0_doneJob RX0 2 D dA) (hret : meth.sig.returnType = some (.object "SpoolLink$Job")) (hlk : meth.locks = false) (hR : 0 ≤ R.frames ∧ 0 ≤ R.locals) {σ : hp} {t0 : Nat} {v1 : Int32} {H : Heap} {locs : List Loc} {ls : Array Slot} (hh : hw D dA base σ H) (hS : hs base s.heap H locs) (hl : lk ls 2 [(0, .inr (some t0)), (1, .inl v1)]) (h : S_X0_doneJob σ t0 v1 = some z) : W p l e R s m args below meth c H locs 0 0 (MQ below (qG D dA base (some (va_rf z)) σ) args s 0 0 (fun q => base ≤ q)) (F0 m 0 ls []) := by
  unfold S_X0_doneJob at h
  refine q_iload_n X dX0_doneJob_0 rfl hl 1 rfl ?_
  refine lv_if_lt (tgt := 21) X.1 X.2.1 dX0_doneJob_1 (by decide) (fun c1 => ?_) (fun c1 => ?_)
  · rw [if_pos c1] at h
    exact K_X0_doneJob_21 X hret hlk hR hh hS (lk_sub hl [] rfl) h
  · rw [if_neg c1] at h
    refine q_iload_n X dX0_doneJob_4 rfl hl 1 rfl ?_
    refine q_aload_n X dX0_doneJob_5 rfl hl 0 rfl ?_
    obtain ⟨t6, e_t6, h⟩ := o_b h
    refine q_gI X hh fa_X0_27 rfl e_t6 dX0_doneJob_6 ?_
    refine lv_icmp_ge (tgt := 21) X.1 X.2.1 dX0_doneJob_9 (by decide) (fun c9 => ?_) (fun c9 => ?_)
    · rw [if_pos c9] at h
      exact K_X0_doneJob_21 X hret hlk hR hh hS (lk_sub hl [] rfl) h
    · rw [if_neg c9] at h
      refine q_aload_n X dX0_doneJob_12 rfl hl 0 rfl ?_
      obtain ⟨t13, e_t13, h⟩ := o_b h
      refine q_gR X hh fa_X0_24 rfl e_t13 dX0_doneJob_13 ?_
      refine q_iload_n X dX0_doneJob_16 rfl hl 1 rfl ?_
      obtain ⟨t17, e_t17, h⟩ := o_b h
      refine q_ldQ X hh (by decide) rfl e_t17 dX0_doneJob_17 ?_
      refine lv_goto (tgt := 22) X.1 X.2.1 dX0_doneJob_18 (by decide) ?_
      exact K_X0_doneJob_22 X hret hlk hR hh hS (lk_sub hl [] rfl) h
set_option maxRecDepth 100000 in
theorem M_X0_doneJob (l : Launch) (D : va_G) (dA : Nat → ClassId) (base : Nat) (σ : hp) (t0 : Nat) (v1 : Int32) {z : Option Nat} (h : S_X0_doneJob σ t0 v1 = some z) : mt l yX0_doneJob cX0_doneJob 2 (some (.object "SpoolLink$Job")) 0 0 D dA base σ [.ref t0, .int v1] (some (va_rf z)) σ 0 0 := by
  refine Met.ofW (cc := cX0_doneJob) (maxL := 2) (ret := some (.object "SpoolLink$Job")) (by decide) rfl ?_
  intro p e s m args below meth c s₁ B hml hv
  obtain ⟨rfl, hh, hK⟩ := hv
  have X : cx p s m ([.ref t0, .int v1] : List Value).toArray c cX0_doneJob RX0 2 D dA := ⟨B.exec, B.bytes, findClass_of_methodNamed B.named, hml, fun w hw => atoms_spec (ws := .code yX0_doneJob cX0_doneJob 2 (some (.object "SpoolLink$Job")) :: G) B.pre w (List.mem_cons_of_mem _ hw), hK⟩
  have hl := lk_entry [.inr (some t0), .inl v1] (n := 2) (Nat.le_of_ble_eq_true rfl)
  rw [lg_entry_eq]
  have hl : lk ((lg_sl ([.ref t0, .int v1] : List Value) ++ List.replicate (2 - (lg_sl ([.ref t0, .int v1] : List Value)).length) Slot.unset).toArray) 2 [(0, .inr (some t0)), (1, .inl v1)] := hl
  generalize (lg_sl ([.ref t0, .int v1] : List Value) ++ List.replicate (2 - (lg_sl ([.ref t0, .int v1] : List Value)).length) Slot.unset).toArray = ls at hl ⊢
  exact K_X0_doneJob_0 X B.returns B.notSynchronized ⟨Nat.le_refl _, Nat.le_refl _⟩ hh va_S.rf hl h
theorem mo_X1_init_9 {z : hp} {σ : hp} {t0 : Nat} {w0 : Option Nat} {w1 : Option Nat} (h : S_X1_init_9 σ t0 w0 w1 = some z) : le4 σ z := by
  unfold S_X1_init_9 at h
  obtain ⟨s9, e_s9, h⟩ := o_b h
  obtain ⟨z14, e_z14, h⟩ := o_b h
  obtain ⟨s14, e_s14, h⟩ := o_b h
  obtain ⟨s19, e_s19, h⟩ := o_b h
  obtain ⟨s24, e_s24, h⟩ := o_b h
  obtain ⟨s29, e_s29, h⟩ := o_b h
  cases h
  exact (((((e_pR e_s9).le).tr (e_pI e_s14).le).tr (e_pI e_s19).le).tr (e_pI e_s24).le).tr (e_pI e_s29).le
set_option maxHeartbeats 4000000 in
set_option maxRecDepth 100000 in
theorem K_X1_init_9 {p : Program} {l : Launch} {e : Env} {R : Room} {s : State} {m : MethodId} {args : Array Value} {below : List Frame} {meth : Method} {c : Code} {D : va_G} {dA : Nat → ClassId} {base : Nat} {z : hp} (X : cx p s m args c cX1_init RX1 1 D dA) (hret : meth.sig.returnType = none) (hlk : meth.locks = false) (hR : 1 ≤ R.frames ∧ 21 ≤ R.locals) (hin : meth.name = "<init>") {n0 s0 : Nat} (hRc : z.2.2.2.1 ≤ n0 + R.cells ∧ z.2.2.2.2 ≤ s0 + R.slots) {σ : hp} {t0 : Nat} {w0 : Option Nat} {w1 : Option Nat} {H : Heap} {locs : List Loc} {ls : Array Slot} (hn : n0 ≤ σ.2.2.2.1 ∧ s0 ≤ σ.2.2.2.2) (hh : hw D dA base σ H) (hS : hs base s.heap H locs) (hl : lk ls 1 [(0, .inr (some t0))]) (h : S_X1_init_9 σ t0 w0 w1 = some z) : W p l e R s m args below meth c H locs (σ.2.2.2.1 - n0) (σ.2.2.2.2 - s0) (MQ below (qG D dA base none z) args s (z.2.2.2.1 - n0) (z.2.2.2.2 - s0) (fun q => base ≤ q)) (F0 m 9 ls [va_rf w1, va_rf w0]) := by
  have hz0 := mo_X1_init_9 h
  have hcl : σ.2.2.2.1 - n0 ≤ R.cells ∧ σ.2.2.2.2 - s0 ≤ R.slots := by unfold le4 at hz0; omega
  unfold S_X1_init_9 at h
  obtain ⟨s9, e_s9, h⟩ := o_b h
  refine q_pR X hh hS fp_X1_9 (fun _ => hin) rfl (Or.inr ⟨_, rfl⟩) e_s9 dX1_init_9 (fun H locs hh hS => ?_)
  refine q_aload_n X dX1_init_12 rfl hl 0 rfl ?_
  refine lv_iconst (v := (0 : Int32)) X.1 X.2.1 dX1_init_13 (by decide) ?_
  obtain ⟨z14, e_z14, h⟩ := o_b h
  obtain ⟨s14, e_s14, h⟩ := o_b h
  refine q_pZ X hh hS fp_X1_15 (fun h => by cases h) rfl e_z14 e_s14 dX1_init_14 (fun H locs hh hS => ?_)
  refine q_aload_n X dX1_init_17 rfl hl 0 rfl ?_
  refine lv_iconst (v := (0 : Int32)) X.1 X.2.1 dX1_init_18 (by decide) ?_
  obtain ⟨s19, e_s19, h⟩ := o_b h
  refine q_pI X hh hS fp_X1_19 (fun h => by cases h) rfl e_s19 dX1_init_19 (fun H locs hh hS => ?_)
  refine q_aload_n X dX1_init_22 rfl hl 0 rfl ?_
  refine lv_iconst (v := (0 : Int32)) X.1 X.2.1 dX1_init_23 (by decide) ?_
  obtain ⟨s24, e_s24, h⟩ := o_b h
  refine q_pI X hh hS fp_X1_23 (fun h => by cases h) rfl e_s24 dX1_init_24 (fun H locs hh hS => ?_)
  refine q_aload_n X dX1_init_27 rfl hl 0 rfl ?_
  refine lv_iconst (v := (0 : Int32)) X.1 X.2.1 dX1_init_28 (by decide) ?_
  obtain ⟨s29, e_s29, h⟩ := o_b h
  refine q_pI X hh hS fp_X1_26 (fun h => by cases h) rfl e_s29 dX1_init_29 (fun H locs hh hS => ?_)
  have ys29 : eq4 σ s29 := (((((e_pR e_s9)).tr (e_pI e_s14)).tr (e_pI e_s19)).tr (e_pI e_s24)).tr (e_pI e_s29)
  refine W.cs (cells' := s29.2.2.2.1 - n0) (slots' := s29.2.2.2.2 - s0) (by rw [show s29.2.2.2 = σ.2.2.2 from ys29]) (by rw [show s29.2.2.2 = σ.2.2.2 from ys29]) ?_
  have hn : n0 ≤ s29.2.2.2.1 ∧ s0 ≤ s29.2.2.2.2 := by rw [show s29.2.2.2 = σ.2.2.2 from ys29]; exact hn
  have hcl : s29.2.2.2.1 - n0 ≤ R.cells ∧ s29.2.2.2.2 - s0 ≤ R.slots := by rw [show s29.2.2.2 = σ.2.2.2 from ys29]; exact hcl
  cases h
  exact q_vret X hret hlk hh hS dX1_init_32
theorem mo_X1_init_0 {z : hp} {σ : hp} {t0 : Nat} (h : S_X1_init σ t0 = some z) : le4 σ z := by
  unfold S_X1_init at h
  obtain ⟨q7, e_q7, h⟩ := o_b h
  exact ((m_na e_q7)).tr (mo_X1_init_9 h)
set_option maxHeartbeats 4000000 in
set_option maxRecDepth 100000 in
theorem K_X1_init_0 {p : Program} {l : Launch} {e : Env} {R : Room} {s : State} {m : MethodId} {args : Array Value} {below : List Frame} {meth : Method} {c : Code} {D : va_G} {dA : Nat → ClassId} {base : Nat} {z : hp} (X : cx p s m args c cX1_init RX1 1 D dA) (hret : meth.sig.returnType = none) (hlk : meth.locks = false) (hR : 1 ≤ R.frames ∧ 21 ≤ R.locals) (hin : meth.name = "<init>") {n0 s0 : Nat} (hRc : z.2.2.2.1 ≤ n0 + R.cells ∧ z.2.2.2.2 ≤ s0 + R.slots) {σ : hp} {t0 : Nat} {H : Heap} {locs : List Loc} {ls : Array Slot} (hn : n0 ≤ σ.2.2.2.1 ∧ s0 ≤ σ.2.2.2.2) (hh : hw D dA base σ H) (hS : hs base s.heap H locs) (hl : lk ls 1 [(0, .inr (some t0))]) (h : S_X1_init σ t0 = some z) : W p l e R s m args below meth c H locs (σ.2.2.2.1 - n0) (σ.2.2.2.2 - s0) (MQ below (qG D dA base none z) args s (z.2.2.2.1 - n0) (z.2.2.2.2 - s0) (fun q => base ≤ q)) (F0 m 0 ls []) := by
  have hz0 := mo_X1_init_0 h
  have hcl : σ.2.2.2.1 - n0 ≤ R.cells ∧ σ.2.2.2.2 - s0 ≤ R.slots := by unfold le4 at hz0; omega
  unfold S_X1_init at h
  refine q_aload_n X dX1_init_0 rfl hl 0 rfl ?_
  refine q_objInit X hl cj_X1_3 gj_o1 gj_o2 dX1_init_1 ⟨Nat.le_trans (by decide) hR.1, Nat.le_trans (by decide) hR.2⟩ (cat8 [] (Nat.le_of_ble_eq_true rfl)) ?_
  refine q_aload_n X dX1_init_4 rfl hl 0 rfl ?_
  refine lv_bipush (v := (100 : Int32)) X.1 X.2.1 dX1_init_5 (by decide) ?_
  obtain ⟨q7, e_q7, h⟩ := o_b h
  have g7 := mo_X1_init_9 h
  have f7 := l_na e_q7
  unfold le4 at g7
  refine q_naI (t := 0) X hh hS (by decide) rfl rfl (fun _ _ => rfl) (by decide) (gm 43 (by decide +kernel) rfl) e_q7 dX1_init_7 (by omega) (by omega) (fun H hh hS => ?_)
  refine W.cs (cells' := q7.2.2.2.2.1 - n0) (slots' := q7.2.2.2.2.2 - s0) (by omega) (by omega) ?_
  have hn : n0 ≤ q7.2.2.2.2.1 ∧ s0 ≤ q7.2.2.2.2.2 := by omega
  exact K_X1_init_9 X hret hlk hR hin hRc hn hh hS (lk_sub hl [0] rfl) h
set_option maxRecDepth 100000 in
theorem M_X1_init (l : Launch) (D : va_G) (dA : Nat → ClassId) (base : Nat) (σ : hp) (t0 : Nat) {z : hp} (h : S_X1_init σ t0 = some z) : mt l yX1_init cX1_init 1 (none) 1 21 D dA base σ [.ref t0] none z (z.2.2.2.1 - σ.2.2.2.1) (z.2.2.2.2 - σ.2.2.2.2) := by
  have hzz := mo_X1_init_0 h
  unfold le4 at hzz
  refine Met.ofW (cc := cX1_init) (maxL := 1) (ret := none) (by decide) rfl ?_
  intro p e s m args below meth c s₁ B hml hv
  obtain ⟨rfl, hh, hK⟩ := hv
  have X : cx p s m ([.ref t0] : List Value).toArray c cX1_init RX1 1 D dA := ⟨B.exec, B.bytes, findClass_of_methodNamed B.named, hml, fun w hw => atoms_spec (ws := .code yX1_init cX1_init 1 (none) :: G) B.pre w (List.mem_cons_of_mem _ hw), hK⟩
  have hl := lk_entry [.inr (some t0)] (n := 1) (Nat.le_of_ble_eq_true rfl)
  rw [lg_entry_eq]
  have hl : lk ((lg_sl ([.ref t0] : List Value) ++ List.replicate (1 - (lg_sl ([.ref t0] : List Value)).length) Slot.unset).toArray) 1 [(0, .inr (some t0))] := hl
  generalize (lg_sl ([.ref t0] : List Value) ++ List.replicate (1 - (lg_sl ([.ref t0] : List Value)).length) Slot.unset).toArray = ls at hl ⊢
  refine W.cs (cells' := σ.2.2.2.1 - σ.2.2.2.1) (slots' := σ.2.2.2.2 - σ.2.2.2.2) (Nat.sub_self _).symm (Nat.sub_self _).symm ?_
  exact K_X1_init_0 X B.returns B.notSynchronized ⟨Nat.le_refl _, Nat.le_refl _⟩ (name_of_methodNamed B.named B.method).1 (n0 := σ.2.2.2.1) (s0 := σ.2.2.2.2) ⟨by show _ ≤ _ + (_ - _); omega, by show _ ≤ _ + (_ - _); omega⟩ ⟨Nat.le_refl _, Nat.le_refl _⟩ hh va_S.rf hl h
theorem ke_X1_forget_0 {z : hp} {σ : hp} {t0 : Nat} (h : S_X1_forget σ t0 = some z) : eq4 σ z := by
  unfold S_X1_forget at h
  obtain ⟨z2, e_z2, h⟩ := o_b h
  obtain ⟨s2, e_s2, h⟩ := o_b h
  cases h
  exact (e_pI e_s2)
set_option maxHeartbeats 4000000 in
set_option maxRecDepth 100000 in
theorem K_X1_forget_0 {p : Program} {l : Launch} {e : Env} {R : Room} {s : State} {m : MethodId} {args : Array Value} {below : List Frame} {meth : Method} {c : Code} {D : va_G} {dA : Nat → ClassId} {base : Nat} {z : hp} (X : cx p s m args c cX1_forget RX1 1 D dA) (hret : meth.sig.returnType = none) (hlk : meth.locks = false) (hR : 0 ≤ R.frames ∧ 0 ≤ R.locals) {σ : hp} {t0 : Nat} {H : Heap} {locs : List Loc} {ls : Array Slot} (hh : hw D dA base σ H) (hS : hs base s.heap H locs) (hl : lk ls 1 [(0, .inr (some t0))]) (h : S_X1_forget σ t0 = some z) : W p l e R s m args below meth c H locs 0 0 (MQ below (qG D dA base none z) args s 0 0 (fun q => base ≤ q)) (F0 m 0 ls []) := by
  unfold S_X1_forget at h
  refine q_aload_n X dX1_forget_0 rfl hl 0 rfl ?_
  refine lv_iconst (v := (0 : Int32)) X.1 X.2.1 dX1_forget_1 (by decide) ?_
  obtain ⟨z2, e_z2, h⟩ := o_b h
  obtain ⟨s2, e_s2, h⟩ := o_b h
  refine q_pZ X hh hS fp_X1_15 (fun h => by cases h) rfl e_z2 e_s2 dX1_forget_2 (fun H locs hh hS => ?_)
  cases h
  exact q_vret X hret hlk hh hS dX1_forget_5
set_option maxRecDepth 100000 in
theorem M_X1_forget (l : Launch) (D : va_G) (dA : Nat → ClassId) (base : Nat) (σ : hp) (t0 : Nat) {z : hp} (h : S_X1_forget σ t0 = some z) : mt l yX1_forget cX1_forget 1 (none) 0 0 D dA base σ [.ref t0] none z 0 0 := by
  refine Met.ofW (cc := cX1_forget) (maxL := 1) (ret := none) (by decide) rfl ?_
  intro p e s m args below meth c s₁ B hml hv
  obtain ⟨rfl, hh, hK⟩ := hv
  have X : cx p s m ([.ref t0] : List Value).toArray c cX1_forget RX1 1 D dA := ⟨B.exec, B.bytes, findClass_of_methodNamed B.named, hml, fun w hw => atoms_spec (ws := .code yX1_forget cX1_forget 1 (none) :: G) B.pre w (List.mem_cons_of_mem _ hw), hK⟩
  have hl := lk_entry [.inr (some t0)] (n := 1) (Nat.le_of_ble_eq_true rfl)
  rw [lg_entry_eq]
  have hl : lk ((lg_sl ([.ref t0] : List Value) ++ List.replicate (1 - (lg_sl ([.ref t0] : List Value)).length) Slot.unset).toArray) 1 [(0, .inr (some t0))] := hl
  generalize (lg_sl ([.ref t0] : List Value) ++ List.replicate (1 - (lg_sl ([.ref t0] : List Value)).length) Slot.unset).toArray = ls at hl ⊢
  exact K_X1_forget_0 X B.returns B.notSynchronized ⟨Nat.le_refl _, Nat.le_refl _⟩ hh va_S.rf hl h
theorem ke_X1_begin_0 {z : hp} {σ : hp} {t0 : Nat} {v1 : Int32} {v2 : Int32} (h : S_X1_begin σ t0 v1 v2 = some z) : eq4 σ z := by
  unfold S_X1_begin at h
  obtain ⟨z2, e_z2, h⟩ := o_b h
  obtain ⟨s2, e_s2, h⟩ := o_b h
  obtain ⟨s7, e_s7, h⟩ := o_b h
  obtain ⟨s12, e_s12, h⟩ := o_b h
  obtain ⟨s17, e_s17, h⟩ := o_b h
  cases h
  exact ((((e_pI e_s2)).tr (e_pI e_s7)).tr (e_pI e_s12)).tr (e_pI e_s17)
set_option maxHeartbeats 4000000 in
set_option maxRecDepth 100000 in
theorem K_X1_begin_0 {p : Program} {l : Launch} {e : Env} {R : Room} {s : State} {m : MethodId} {args : Array Value} {below : List Frame} {meth : Method} {c : Code} {D : va_G} {dA : Nat → ClassId} {base : Nat} {z : hp} (X : cx p s m args c cX1_begin RX1 3 D dA) (hret : meth.sig.returnType = none) (hlk : meth.locks = false) (hR : 0 ≤ R.frames ∧ 0 ≤ R.locals) {σ : hp} {t0 : Nat} {v1 : Int32} {v2 : Int32} {H : Heap} {locs : List Loc} {ls : Array Slot} (hh : hw D dA base σ H) (hS : hs base s.heap H locs) (hl : lk ls 3 [(0, .inr (some t0)), (1, .inl v1), (2, .inl v2)]) (h : S_X1_begin σ t0 v1 v2 = some z) : W p l e R s m args below meth c H locs 0 0 (MQ below (qG D dA base none z) args s 0 0 (fun q => base ≤ q)) (F0 m 0 ls []) := by
  unfold S_X1_begin at h
  refine q_aload_n X dX1_begin_0 rfl hl 0 rfl ?_
  refine lv_iconst (v := (1 : Int32)) X.1 X.2.1 dX1_begin_1 (by decide) ?_
  obtain ⟨z2, e_z2, h⟩ := o_b h
  obtain ⟨s2, e_s2, h⟩ := o_b h
  refine q_pZ X hh hS fp_X1_15 (fun h => by cases h) rfl e_z2 e_s2 dX1_begin_2 (fun H locs hh hS => ?_)
  refine q_aload_n X dX1_begin_5 rfl hl 0 rfl ?_
  refine q_iload_n X dX1_begin_6 rfl hl 1 rfl ?_
  obtain ⟨s7, e_s7, h⟩ := o_b h
  refine q_pI X hh hS fp_X1_19 (fun h => by cases h) rfl e_s7 dX1_begin_7 (fun H locs hh hS => ?_)
  refine q_aload_n X dX1_begin_10 rfl hl 0 rfl ?_
  refine q_iload_n X dX1_begin_11 rfl hl 2 rfl ?_
  obtain ⟨s12, e_s12, h⟩ := o_b h
  refine q_pI X hh hS fp_X1_23 (fun h => by cases h) rfl e_s12 dX1_begin_12 (fun H locs hh hS => ?_)
  refine q_aload_n X dX1_begin_15 rfl hl 0 rfl ?_
  refine lv_iconst (v := (0 : Int32)) X.1 X.2.1 dX1_begin_16 (by decide) ?_
  obtain ⟨s17, e_s17, h⟩ := o_b h
  refine q_pI X hh hS fp_X1_26 (fun h => by cases h) rfl e_s17 dX1_begin_17 (fun H locs hh hS => ?_)
  cases h
  exact q_vret X hret hlk hh hS dX1_begin_20
set_option maxRecDepth 100000 in
theorem M_X1_begin (l : Launch) (D : va_G) (dA : Nat → ClassId) (base : Nat) (σ : hp) (t0 : Nat) (v1 : Int32) (v2 : Int32) {z : hp} (h : S_X1_begin σ t0 v1 v2 = some z) : mt l yX1_begin cX1_begin 3 (none) 0 0 D dA base σ [.ref t0, .int v1, .int v2] none z 0 0 := by
  refine Met.ofW (cc := cX1_begin) (maxL := 3) (ret := none) (by decide) rfl ?_
  intro p e s m args below meth c s₁ B hml hv
  obtain ⟨rfl, hh, hK⟩ := hv
  have X : cx p s m ([.ref t0, .int v1, .int v2] : List Value).toArray c cX1_begin RX1 3 D dA := ⟨B.exec, B.bytes, findClass_of_methodNamed B.named, hml, fun w hw => atoms_spec (ws := .code yX1_begin cX1_begin 3 (none) :: G) B.pre w (List.mem_cons_of_mem _ hw), hK⟩
  have hl := lk_entry [.inr (some t0), .inl v1, .inl v2] (n := 3) (Nat.le_of_ble_eq_true rfl)
  rw [lg_entry_eq]
  have hl : lk ((lg_sl ([.ref t0, .int v1, .int v2] : List Value) ++ List.replicate (3 - (lg_sl ([.ref t0, .int v1, .int v2] : List Value)).length) Slot.unset).toArray) 3 [(0, .inr (some t0)), (1, .inl v1), (2, .inl v2)] := hl
  generalize (lg_sl ([.ref t0, .int v1, .int v2] : List Value) ++ List.replicate (3 - (lg_sl ([.ref t0, .int v1, .int v2] : List Value)).length) Slot.unset).toArray = ls at hl ⊢
  exact K_X1_begin_0 X B.returns B.notSynchronized ⟨Nat.le_refl _, Nat.le_refl _⟩ hh va_S.rf hl h
set_option maxHeartbeats 4000000 in
set_option maxRecDepth 100000 in
theorem K_X4_messageLength_0 {p : Program} {l : Launch} {e : Env} {R : Room} {s : State} {m : MethodId} {args : Array Value} {below : List Frame} {meth : Method} {c : Code} {D : va_G} {dA : Nat → ClassId} {base : Nat} {z : Int32} (X : cx p s m args c cX4_messageLength RX4 1 D dA) (hret : meth.sig.returnType = some .int) (hlk : meth.locks = false) (hR : 0 ≤ R.frames ∧ 0 ≤ R.locals) {σ : hp} {t0 : Nat} {H : Heap} {locs : List Loc} {ls : Array Slot} (hh : hw D dA base σ H) (hS : hs base s.heap H locs) (hl : lk ls 1 [(0, .inr (some t0))]) (h : S_X4_messageLength σ t0 = some z) : W p l e R s m args below meth c H locs 0 0 (MQ below (qG D dA base (some (.int z)) σ) args s 0 0 (fun q => base ≤ q)) (F0 m 0 ls []) := by
  unfold S_X4_messageLength at h
  refine q_aload_n X dX4_messageLength_0 rfl hl 0 rfl ?_
  obtain ⟨t1, e_t1, h⟩ := o_b h
  refine q_gR X hh fa_X4_9 rfl e_t1 dX4_messageLength_1 ?_
  refine lv_bipush (v := (6 : Int32)) X.1 X.2.1 dX4_messageLength_4 (by decide) ?_
  obtain ⟨t6, e_t6, h⟩ := o_b h
  refine q_ldI X hh e_t6 dX4_messageLength_6 ?_
  cases h
  exact q_iret X hret hlk hh hS dX4_messageLength_7
set_option maxRecDepth 100000 in
theorem M_X4_messageLength (l : Launch) (D : va_G) (dA : Nat → ClassId) (base : Nat) (σ : hp) (t0 : Nat) {z : Int32} (h : S_X4_messageLength σ t0 = some z) : mt l yX4_messageLength cX4_messageLength 1 (some .int) 0 0 D dA base σ [.ref t0] (some (.int z)) σ 0 0 := by
  refine Met.ofW (cc := cX4_messageLength) (maxL := 1) (ret := some .int) (by decide) rfl ?_
  intro p e s m args below meth c s₁ B hml hv
  obtain ⟨rfl, hh, hK⟩ := hv
  have X : cx p s m ([.ref t0] : List Value).toArray c cX4_messageLength RX4 1 D dA := ⟨B.exec, B.bytes, findClass_of_methodNamed B.named, hml, fun w hw => atoms_spec (ws := .code yX4_messageLength cX4_messageLength 1 (some .int) :: G) B.pre w (List.mem_cons_of_mem _ hw), hK⟩
  have hl := lk_entry [.inr (some t0)] (n := 1) (Nat.le_of_ble_eq_true rfl)
  rw [lg_entry_eq]
  have hl : lk ((lg_sl ([.ref t0] : List Value) ++ List.replicate (1 - (lg_sl ([.ref t0] : List Value)).length) Slot.unset).toArray) 1 [(0, .inr (some t0))] := hl
  generalize (lg_sl ([.ref t0] : List Value) ++ List.replicate (1 - (lg_sl ([.ref t0] : List Value)).length) Slot.unset).toArray = ls at hl ⊢
  exact K_X4_messageLength_0 X B.returns B.notSynchronized ⟨Nat.le_refl _, Nat.le_refl _⟩ hh va_S.rf hl h
set_option maxHeartbeats 4000000 in
set_option maxRecDepth 100000 in
theorem K_X4_messageByte_23 {p : Program} {l : Launch} {e : Env} {R : Room} {s : State} {m : MethodId} {args : Array Value} {below : List Frame} {meth : Method} {c : Code} {D : va_G} {dA : Nat → ClassId} {base : Nat} {z : Int32} (X : cx p s m args c cX4_messageByte RX4 2 D dA) (hret : meth.sig.returnType = some .int) (hlk : meth.locks = false) (hR : 0 ≤ R.frames ∧ 0 ≤ R.locals) {σ : hp} {w0 : Int32} {H : Heap} {locs : List Loc} {ls : Array Slot} (hh : hw D dA base σ H) (hS : hs base s.heap H locs) (hl : lk ls 2 []) (h : S_X4_messageByte_23 σ w0 = some z) : W p l e R s m args below meth c H locs 0 0 (MQ below (qG D dA base (some (.int z)) σ) args s 0 0 (fun q => base ≤ q)) (F0 m 23 ls [.int w0]) := by
  unfold S_X4_messageByte_23 at h
  cases h
  exact q_iret X hret hlk hh hS dX4_messageByte_23
set_option maxHeartbeats 4000000 in
set_option maxRecDepth 100000 in
theorem K_X4_messageByte_22 {p : Program} {l : Launch} {e : Env} {R : Room} {s : State} {m : MethodId} {args : Array Value} {below : List Frame} {meth : Method} {c : Code} {D : va_G} {dA : Nat → ClassId} {base : Nat} {z : Int32} (X : cx p s m args c cX4_messageByte RX4 2 D dA) (hret : meth.sig.returnType = some .int) (hlk : meth.locks = false) (hR : 0 ≤ R.frames ∧ 0 ≤ R.locals) {σ : hp} {H : Heap} {locs : List Loc} {ls : Array Slot} (hh : hw D dA base σ H) (hS : hs base s.heap H locs) (hl : lk ls 2 []) (h : S_X4_messageByte_22 σ = some z) : W p l e R s m args below meth c H locs 0 0 (MQ below (qG D dA base (some (.int z)) σ) args s 0 0 (fun q => base ≤ q)) (F0 m 22 ls []) := by
  unfold S_X4_messageByte_22 at h
  refine lv_iconst (v := (0 : Int32)) X.1 X.2.1 dX4_messageByte_22 (by decide) ?_
  exact K_X4_messageByte_23 X hret hlk hR hh hS (lk_sub hl [] rfl) h
set_option maxHeartbeats 4000000 in
set_option maxRecDepth 100000 in
theorem K_X4_messageByte_0 {p : Program} {l : Launch} {e : Env} {R : Room} {s : State} {m : MethodId} {args : Array Value} {below : List Frame} {meth : Method} {c : Code} {D : va_G} {dA : Nat → ClassId} {base : Nat} {z : Int32} (X : cx p s m args c cX4_messageByte RX4 2 D dA) (hret : meth.sig.returnType = some .int) (hlk : meth.locks = false) (hR : 0 ≤ R.frames ∧ 0 ≤ R.locals) {σ : hp} {t0 : Nat} {v1 : Int32} {H : Heap} {locs : List Loc} {ls : Array Slot} (hh : hw D dA base σ H) (hS : hs base s.heap H locs) (hl : lk ls 2 [(0, .inr (some t0)), (1, .inl v1)]) (h : S_X4_messageByte σ t0 v1 = some z) : W p l e R s m args below meth c H locs 0 0 (MQ below (qG D dA base (some (.int z)) σ) args s 0 0 (fun q => base ≤ q)) (F0 m 0 ls []) := by
  unfold S_X4_messageByte at h
  refine q_iload_n X dX4_messageByte_0 rfl hl 1 rfl ?_
  refine lv_if_lt (tgt := 22) X.1 X.2.1 dX4_messageByte_1 (by decide) (fun c1 => ?_) (fun c1 => ?_)
  · rw [if_pos c1] at h
    exact K_X4_messageByte_22 X hret hlk hR hh hS (lk_sub hl [] rfl) h
  · rw [if_neg c1] at h
    refine q_iload_n X dX4_messageByte_4 rfl hl 1 rfl ?_
    refine lv_bipush (v := (31 : Int32)) X.1 X.2.1 dX4_messageByte_5 (by decide) ?_
    refine lv_icmp_ge (tgt := 22) X.1 X.2.1 dX4_messageByte_7 (by decide) (fun c7 => ?_) (fun c7 => ?_)
    · rw [if_pos c7] at h
      exact K_X4_messageByte_22 X hret hlk hR hh hS (lk_sub hl [] rfl) h
    · rw [if_neg c7] at h
      refine q_aload_n X dX4_messageByte_10 rfl hl 0 rfl ?_
      obtain ⟨t11, e_t11, h⟩ := o_b h
      refine q_gR X hh fa_X4_9 rfl e_t11 dX4_messageByte_11 ?_
      refine lv_bipush (v := (7 : Int32)) X.1 X.2.1 dX4_messageByte_14 (by decide) ?_
      refine q_iload_n X dX4_messageByte_16 rfl hl 1 rfl ?_
      refine lv_iadd X.1 X.2.1 dX4_messageByte_17 ?_
      obtain ⟨t18, e_t18, h⟩ := o_b h
      refine q_ldI X hh e_t18 dX4_messageByte_18 ?_
      refine lv_goto (tgt := 23) X.1 X.2.1 dX4_messageByte_19 (by decide) ?_
      exact K_X4_messageByte_23 X hret hlk hR hh hS (lk_sub hl [] rfl) h
set_option maxRecDepth 100000 in
theorem M_X4_messageByte (l : Launch) (D : va_G) (dA : Nat → ClassId) (base : Nat) (σ : hp) (t0 : Nat) (v1 : Int32) {z : Int32} (h : S_X4_messageByte σ t0 v1 = some z) : mt l yX4_messageByte cX4_messageByte 2 (some .int) 0 0 D dA base σ [.ref t0, .int v1] (some (.int z)) σ 0 0 := by
  refine Met.ofW (cc := cX4_messageByte) (maxL := 2) (ret := some .int) (by decide) rfl ?_
  intro p e s m args below meth c s₁ B hml hv
  obtain ⟨rfl, hh, hK⟩ := hv
  have X : cx p s m ([.ref t0, .int v1] : List Value).toArray c cX4_messageByte RX4 2 D dA := ⟨B.exec, B.bytes, findClass_of_methodNamed B.named, hml, fun w hw => atoms_spec (ws := .code yX4_messageByte cX4_messageByte 2 (some .int) :: G) B.pre w (List.mem_cons_of_mem _ hw), hK⟩
  have hl := lk_entry [.inr (some t0), .inl v1] (n := 2) (Nat.le_of_ble_eq_true rfl)
  rw [lg_entry_eq]
  have hl : lk ((lg_sl ([.ref t0, .int v1] : List Value) ++ List.replicate (2 - (lg_sl ([.ref t0, .int v1] : List Value)).length) Slot.unset).toArray) 2 [(0, .inr (some t0)), (1, .inl v1)] := hl
  generalize (lg_sl ([.ref t0, .int v1] : List Value) ++ List.replicate (2 - (lg_sl ([.ref t0, .int v1] : List Value)).length) Slot.unset).toArray = ls at hl ⊢
  exact K_X4_messageByte_0 X B.returns B.notSynchronized ⟨Nat.le_refl _, Nat.le_refl _⟩ hh va_S.rf hl h
theorem ke_X1_takePart_60 {z : hp} {σ : hp} (h : S_X1_takePart_60 σ = some z) : eq4 σ z := by
  unfold S_X1_takePart_60 at h
  cases h
  exact eq4.rf _
set_option maxHeartbeats 4000000 in
set_option maxRecDepth 100000 in
theorem K_X1_takePart_60 {p : Program} {l : Launch} {e : Env} {R : Room} {s : State} {m : MethodId} {args : Array Value} {below : List Frame} {meth : Method} {c : Code} {D : va_G} {dA : Nat → ClassId} {base : Nat} {z : hp} (X : cx p s m args c cX1_takePart RX1 3 D dA) (hret : meth.sig.returnType = none) (hlk : meth.locks = false) (hR : 1 ≤ R.frames ∧ 21 ≤ R.locals) {σ : hp} {H : Heap} {locs : List Loc} {ls : Array Slot} (hh : hw D dA base σ H) (hS : hs base s.heap H locs) (hl : lk ls 3 []) (h : S_X1_takePart_60 σ = some z) : W p l e R s m args below meth c H locs 0 0 (MQ below (qG D dA base none z) args s 0 0 (fun q => base ≤ q)) (F0 m 60 ls []) := by
  unfold S_X1_takePart_60 at h
  cases h
  exact q_vret X hret hlk hh hS dX1_takePart_60
theorem ke_X1_takePart_2_b {rec2 : hp → Nat → Option Nat → Int32 → Option (hp)} {z : hp} (hm2 : ∀ (σ : hp) (t0 : Nat) (v1 : Option Nat) (v2 : Int32), rec2 σ t0 v1 v2 = some z → eq4 σ z) {σ : hp} {t0 : Nat} {v1 : Option Nat} {v2 : Int32} (h : S_X1_takePart_2_b rec2 σ t0 v1 v2 = some z) : eq4 σ z := by
  unfold S_X1_takePart_2_b at h
  obtain ⟨b4, e_b4, h⟩ := o_b h
  obtain ⟨q4, e_q4, h⟩ := o_b h
  by_cases c7 : q4 ≤ v2
  · rw [if_pos c7] at h
    exact (ke_X1_takePart_60 h)
  · rw [if_neg c7] at h
    obtain ⟨t11, e_t11, h⟩ := o_b h
    obtain ⟨t15, e_t15, h⟩ := o_b h
    by_cases c18 : t15 ≤ t11
    · rw [if_pos c18] at h
      exact (ke_X1_takePart_60 h)
    · rw [if_neg c18] at h
      obtain ⟨t22, e_t22, h⟩ := o_b h
      by_cases c27 : (100 : Int32) ≤ t22
      · rw [if_pos c27] at h
        exact (ke_X1_takePart_60 h)
      · rw [if_neg c27] at h
        obtain ⟨t31, e_t31, h⟩ := o_b h
        obtain ⟨t35, e_t35, h⟩ := o_b h
        obtain ⟨b40, e_b40, h⟩ := o_b h
        obtain ⟨q40, e_q40, h⟩ := o_b h
        obtain ⟨s43, e_s43, h⟩ := o_b h
        obtain ⟨t46, e_t46, h⟩ := o_b h
        obtain ⟨s51, e_s51, h⟩ := o_b h
        exact (((e_stI e_s43)).tr (e_pI e_s51)).tr (hm2 _ _ _ _ h)
theorem ke_X1_takePart_2 {z : hp} : ∀ (n : Nat) (σ : hp) (t0 : Nat) (v1 : Option Nat) (v2 : Int32), S_X1_takePart_2 n σ t0 v1 v2 = some z → eq4 σ z := by
  intro n
  induction n with
  | zero => intro σ t0 v1 v2 h; cases h
  | succ n ih => intro σ t0 v1 v2 h; exact ke_X1_takePart_2_b ih h
set_option maxHeartbeats 4000000 in
set_option maxRecDepth 100000 in
theorem K_X1_takePart_2_b {p : Program} {l : Launch} {e : Env} {R : Room} {s : State} {m : MethodId} {args : Array Value} {below : List Frame} {meth : Method} {c : Code} {D : va_G} {dA : Nat → ClassId} {base : Nat} {rec2 : hp → Nat → Option Nat → Int32 → Option (hp)} {z : hp} (X : cx p s m args c cX1_takePart RX1 3 D dA) (hret : meth.sig.returnType = none) (hlk : meth.locks = false) (hR : 1 ≤ R.frames ∧ 21 ≤ R.locals) (hr2 : ∀ (σ : hp) (t0 : Nat) (v1 : Option Nat) (v2 : Int32) (H : Heap) (locs : List Loc) (ls : Array Slot), hw D dA base σ H → hs base s.heap H locs → lk ls 3 [(0, .inr (some t0)), (1, .inr v1), (2, .inl v2)] → rec2 σ t0 v1 v2 = some z → W p l e R s m args below meth c H locs 0 0 (MQ below (qG D dA base none z) args s 0 0 (fun q => base ≤ q)) (F0 m 2 ls [])) {σ : hp} {t0 : Nat} {v1 : Option Nat} {v2 : Int32} {H : Heap} {locs : List Loc} {ls : Array Slot} (hh : hw D dA base σ H) (hS : hs base s.heap H locs) (hl : lk ls 3 [(0, .inr (some t0)), (1, .inr v1), (2, .inl v2)]) (h : S_X1_takePart_2_b rec2 σ t0 v1 v2 = some z) : W p l e R s m args below meth c H locs 0 0 (MQ below (qG D dA base none z) args s 0 0 (fun q => base ≤ q)) (F0 m 2 ls []) := by
  unfold S_X1_takePart_2_b at h
  refine q_iload_n X dX1_takePart_2 rfl hl 2 rfl ?_
  refine q_aload_n X dX1_takePart_3 rfl hl 1 rfl ?_
  obtain ⟨b4, e_b4, h⟩ := o_b h
  obtain ⟨q4, e_q4, h⟩ := o_b h
  refine q_cV (As := []) X hh hS hl cf_X1_29 (cN := 4) rfl rfl e_b4 rfl (M_X4_messageLength l D dA base σ b4  e_q4) ⟨Nat.le_trans (by decide) hR.1, Nat.le_trans (by decide) hR.2⟩ (cat8 [.inl v2] (Nat.le_of_ble_eq_true rfl)) dX1_takePart_4 ⟨Nat.zero_le _, Nat.zero_le _⟩ rfl rfl (fun H locs hh hS => ?_)
  refine lv_icmp_ge (tgt := 60) X.1 X.2.1 dX1_takePart_7 (by decide) (fun c7 => ?_) (fun c7 => ?_)
  · rw [if_pos c7] at h
    exact K_X1_takePart_60 X hret hlk hR hh hS (lk_sub hl [] rfl) h
  · rw [if_neg c7] at h
    refine q_aload_n X dX1_takePart_10 rfl hl 0 rfl ?_
    obtain ⟨t11, e_t11, h⟩ := o_b h
    refine q_gI X hh fa_X1_26 rfl e_t11 dX1_takePart_11 ?_
    refine q_aload_n X dX1_takePart_14 rfl hl 0 rfl ?_
    obtain ⟨t15, e_t15, h⟩ := o_b h
    refine q_gI X hh fa_X1_23 rfl e_t15 dX1_takePart_15 ?_
    refine lv_icmp_ge (tgt := 60) X.1 X.2.1 dX1_takePart_18 (by decide) (fun c18 => ?_) (fun c18 => ?_)
    · rw [if_pos c18] at h
      exact K_X1_takePart_60 X hret hlk hR hh hS (lk_sub hl [] rfl) h
    · rw [if_neg c18] at h
      refine q_aload_n X dX1_takePart_21 rfl hl 0 rfl ?_
      obtain ⟨t22, e_t22, h⟩ := o_b h
      refine q_gI X hh fa_X1_26 rfl e_t22 dX1_takePart_22 ?_
      refine lv_bipush (v := (100 : Int32)) X.1 X.2.1 dX1_takePart_25 (by decide) ?_
      refine lv_icmp_ge (tgt := 60) X.1 X.2.1 dX1_takePart_27 (by decide) (fun c27 => ?_) (fun c27 => ?_)
      · rw [if_pos c27] at h
        exact K_X1_takePart_60 X hret hlk hR hh hS (lk_sub hl [] rfl) h
      · rw [if_neg c27] at h
        refine q_aload_n X dX1_takePart_30 rfl hl 0 rfl ?_
        obtain ⟨t31, e_t31, h⟩ := o_b h
        refine q_gR X hh fa_X1_9 rfl e_t31 dX1_takePart_31 ?_
        refine q_aload_n X dX1_takePart_34 rfl hl 0 rfl ?_
        obtain ⟨t35, e_t35, h⟩ := o_b h
        refine q_gI X hh fa_X1_26 rfl e_t35 dX1_takePart_35 ?_
        refine q_aload_n X dX1_takePart_38 rfl hl 1 rfl ?_
        refine q_iload_n X dX1_takePart_39 rfl hl 2 rfl ?_
        obtain ⟨b40, e_b40, h⟩ := o_b h
        obtain ⟨q40, e_q40, h⟩ := o_b h
        refine q_cV (As := [.int v2]) X hh hS hl cf_X1_35 (cN := 4) rfl rfl e_b40 rfl (M_X4_messageByte l D dA base σ b40 v2 e_q40) ⟨Nat.le_trans (by decide) hR.1, Nat.le_trans (by decide) hR.2⟩ (cat8 [.inl t35, .inr t31] (Nat.le_of_ble_eq_true rfl)) dX1_takePart_40 ⟨Nat.zero_le _, Nat.zero_le _⟩ rfl rfl (fun H locs hh hS => ?_)
        obtain ⟨s43, e_s43, h⟩ := o_b h
        refine q_stI X hh hS e_s43 dX1_takePart_43 (fun H locs hh hS => ?_)
        refine q_aload_n X dX1_takePart_44 rfl hl 0 rfl ?_
        refine lv_dup X.1 X.2.1 dX1_takePart_45 (vv_cat (.inr (some t0))) ?_
        obtain ⟨t46, e_t46, h⟩ := o_b h
        refine q_gI X hh fa_X1_26 rfl e_t46 dX1_takePart_46 ?_
        refine lv_iconst (v := (1 : Int32)) X.1 X.2.1 dX1_takePart_49 (by decide) ?_
        refine lv_iadd X.1 X.2.1 dX1_takePart_50 ?_
        obtain ⟨s51, e_s51, h⟩ := o_b h
        refine q_pI X hh hS fp_X1_26 (fun h => by cases h) rfl e_s51 dX1_takePart_51 (fun H locs hh hS => ?_)
        refine q_iinc (v := (1 : Int32)) (lv' := [(2, .inl (v2 + (1 : Int32))), (0, .inr (some t0)), (1, .inr v1)]) X dX1_takePart_54 hl 2 rfl (by decide) (by decide) rfl (fun ls hl => ?_)
        refine lv_goto (tgt := 2) X.1 X.2.1 dX1_takePart_57 (by decide) ?_
        exact hr2 _ _ _ _ _ _ _ hh hS (lk_sub hl [1, 2, 0] rfl) h
theorem K_X1_takePart_2 {p : Program} {l : Launch} {e : Env} {R : Room} {s : State} {m : MethodId} {args : Array Value} {below : List Frame} {meth : Method} {c : Code} {D : va_G} {dA : Nat → ClassId} {base : Nat} {z : hp} (X : cx p s m args c cX1_takePart RX1 3 D dA) (hret : meth.sig.returnType = none) (hlk : meth.locks = false) (hR : 1 ≤ R.frames ∧ 21 ≤ R.locals) : ∀ (n : Nat) (σ : hp) (t0 : Nat) (v1 : Option Nat) (v2 : Int32) (H : Heap) (locs : List Loc) (ls : Array Slot), hw D dA base σ H → hs base s.heap H locs → lk ls 3 [(0, .inr (some t0)), (1, .inr v1), (2, .inl v2)] → S_X1_takePart_2 n σ t0 v1 v2 = some z → W p l e R s m args below meth c H locs 0 0 (MQ below (qG D dA base none z) args s 0 0 (fun q => base ≤ q)) (F0 m 2 ls []) := by
  intro n
  induction n with
  | zero => intro σ t0 v1 v2 H locs ls hh hS hl h; cases h
  | succ n ih => intro σ t0 v1 v2 H locs ls hh hS hl h; exact K_X1_takePart_2_b X hret hlk hR ih hh hS hl h
theorem ke_X1_takePart_0 {z : hp} {σ : hp} {t0 : Nat} {v1 : Option Nat} (h : S_X1_takePart σ t0 v1 = some z) : eq4 σ z := by
  unfold S_X1_takePart at h
  exact (ke_X1_takePart_2 FU _ _ _ _ h)
set_option maxHeartbeats 4000000 in
set_option maxRecDepth 100000 in
theorem K_X1_takePart_0 {p : Program} {l : Launch} {e : Env} {R : Room} {s : State} {m : MethodId} {args : Array Value} {below : List Frame} {meth : Method} {c : Code} {D : va_G} {dA : Nat → ClassId} {base : Nat} {z : hp} (X : cx p s m args c cX1_takePart RX1 3 D dA) (hret : meth.sig.returnType = none) (hlk : meth.locks = false) (hR : 1 ≤ R.frames ∧ 21 ≤ R.locals) {σ : hp} {t0 : Nat} {v1 : Option Nat} {H : Heap} {locs : List Loc} {ls : Array Slot} (hh : hw D dA base σ H) (hS : hs base s.heap H locs) (hl : lk ls 3 [(0, .inr (some t0)), (1, .inr v1)]) (h : S_X1_takePart σ t0 v1 = some z) : W p l e R s m args below meth c H locs 0 0 (MQ below (qG D dA base none z) args s 0 0 (fun q => base ≤ q)) (F0 m 0 ls []) := by
  unfold S_X1_takePart at h
  refine lv_iconst (v := (1 : Int32)) X.1 X.2.1 dX1_takePart_0 (by decide) ?_
  refine q_istore_n (lv' := [(2, .inl (1 : Int32)), (0, .inr (some t0)), (1, .inr v1)]) X dX1_takePart_1 rfl hl (by decide) rfl (fun ls hl => ?_)
  exact K_X1_takePart_2 X hret hlk hR FU _ _ _ _ _ _ _ hh hS (lk_sub hl [1, 2, 0] rfl) h
set_option maxRecDepth 100000 in
theorem M_X1_takePart (l : Launch) (D : va_G) (dA : Nat → ClassId) (base : Nat) (σ : hp) (t0 : Nat) (v1 : Option Nat) {z : hp} (h : S_X1_takePart σ t0 v1 = some z) : mt l yX1_takePart cX1_takePart 3 (none) 1 21 D dA base σ [.ref t0, va_rf v1] none z 0 0 := by
  refine Met.ofW (cc := cX1_takePart) (maxL := 3) (ret := none) (by decide) rfl ?_
  intro p e s m args below meth c s₁ B hml hv
  obtain ⟨rfl, hh, hK⟩ := hv
  have X : cx p s m ([.ref t0, va_rf v1] : List Value).toArray c cX1_takePart RX1 3 D dA := ⟨B.exec, B.bytes, findClass_of_methodNamed B.named, hml, fun w hw => atoms_spec (ws := .code yX1_takePart cX1_takePart 3 (none) :: G) B.pre w (List.mem_cons_of_mem _ hw), hK⟩
  have hl := lk_entry [.inr (some t0), .inr v1] (n := 3) (Nat.le_of_ble_eq_true rfl)
  rw [lg_entry_eq]
  have hl : lk ((lg_sl ([.ref t0, va_rf v1] : List Value) ++ List.replicate (3 - (lg_sl ([.ref t0, va_rf v1] : List Value)).length) Slot.unset).toArray) 3 [(0, .inr (some t0)), (1, .inr v1)] := hl
  generalize (lg_sl ([.ref t0, va_rf v1] : List Value) ++ List.replicate (3 - (lg_sl ([.ref t0, va_rf v1] : List Value)).length) Slot.unset).toArray = ls at hl ⊢
  exact K_X1_takePart_0 X B.returns B.notSynchronized ⟨Nat.le_refl _, Nat.le_refl _⟩ hh va_S.rf hl h
set_option maxHeartbeats 4000000 in
set_option maxRecDepth 100000 in
theorem K_X1_isWhole_23 {p : Program} {l : Launch} {e : Env} {R : Room} {s : State} {m : MethodId} {args : Array Value} {below : List Frame} {meth : Method} {c : Code} {D : va_G} {dA : Nat → ClassId} {base : Nat} {z : Int32} (X : cx p s m args c cX1_isWhole RX1 1 D dA) (hret : meth.sig.returnType = some .boolean) (hlk : meth.locks = false) (hR : 0 ≤ R.frames ∧ 0 ≤ R.locals) {σ : hp} {w0 : Int32} {H : Heap} {locs : List Loc} {ls : Array Slot} (hh : hw D dA base σ H) (hS : hs base s.heap H locs) (hl : lk ls 1 []) (h : S_X1_isWhole_23 σ w0 = some z) : W p l e R s m args below meth c H locs 0 0 (MQ below (qG D dA base (some (.int z)) σ) args s 0 0 (fun q => base ≤ q)) (F0 m 23 ls [.int w0]) := by
  unfold S_X1_isWhole_23 at h
  obtain ⟨z23, e_z23, h⟩ := o_b h
  cases h
  exact q_zret X hret hlk hh hS e_z23 dX1_isWhole_23
set_option maxHeartbeats 4000000 in
set_option maxRecDepth 100000 in
theorem K_X1_isWhole_22 {p : Program} {l : Launch} {e : Env} {R : Room} {s : State} {m : MethodId} {args : Array Value} {below : List Frame} {meth : Method} {c : Code} {D : va_G} {dA : Nat → ClassId} {base : Nat} {z : Int32} (X : cx p s m args c cX1_isWhole RX1 1 D dA) (hret : meth.sig.returnType = some .boolean) (hlk : meth.locks = false) (hR : 0 ≤ R.frames ∧ 0 ≤ R.locals) {σ : hp} {H : Heap} {locs : List Loc} {ls : Array Slot} (hh : hw D dA base σ H) (hS : hs base s.heap H locs) (hl : lk ls 1 []) (h : S_X1_isWhole_22 σ = some z) : W p l e R s m args below meth c H locs 0 0 (MQ below (qG D dA base (some (.int z)) σ) args s 0 0 (fun q => base ≤ q)) (F0 m 22 ls []) := by
  unfold S_X1_isWhole_22 at h
  refine lv_iconst (v := (0 : Int32)) X.1 X.2.1 dX1_isWhole_22 (by decide) ?_
  exact K_X1_isWhole_23 X hret hlk hR hh hS (lk_sub hl [] rfl) h
set_option maxHeartbeats 4000000 in
set_option maxRecDepth 100000 in
theorem K_X1_isWhole_0 {p : Program} {l : Launch} {e : Env} {R : Room} {s : State} {m : MethodId} {args : Array Value} {below : List Frame} {meth : Method} {c : Code} {D : va_G} {dA : Nat → ClassId} {base : Nat} {z : Int32} (X : cx p s m args c cX1_isWhole RX1 1 D dA) (hret : meth.sig.returnType = some .boolean) (hlk : meth.locks = false) (hR : 0 ≤ R.frames ∧ 0 ≤ R.locals) {σ : hp} {t0 : Nat} {H : Heap} {locs : List Loc} {ls : Array Slot} (hh : hw D dA base σ H) (hS : hs base s.heap H locs) (hl : lk ls 1 [(0, .inr (some t0))]) (h : S_X1_isWhole σ t0 = some z) : W p l e R s m args below meth c H locs 0 0 (MQ below (qG D dA base (some (.int z)) σ) args s 0 0 (fun q => base ≤ q)) (F0 m 0 ls []) := by
  unfold S_X1_isWhole at h
  refine q_aload_n X dX1_isWhole_0 rfl hl 0 rfl ?_
  obtain ⟨t1, e_t1, h⟩ := o_b h
  refine q_gI X hh fa_X1_15 rfl e_t1 dX1_isWhole_1 ?_
  refine lv_if_eq (tgt := 22) X.1 X.2.1 dX1_isWhole_4 (by decide) (fun c4 => ?_) (fun c4 => ?_)
  · rw [if_pos c4] at h
    exact K_X1_isWhole_22 X hret hlk hR hh hS (lk_sub hl [] rfl) h
  · rw [if_neg c4] at h
    refine q_aload_n X dX1_isWhole_7 rfl hl 0 rfl ?_
    obtain ⟨t8, e_t8, h⟩ := o_b h
    refine q_gI X hh fa_X1_26 rfl e_t8 dX1_isWhole_8 ?_
    refine q_aload_n X dX1_isWhole_11 rfl hl 0 rfl ?_
    obtain ⟨t12, e_t12, h⟩ := o_b h
    refine q_gI X hh fa_X1_23 rfl e_t12 dX1_isWhole_12 ?_
    refine lv_icmp_ne (tgt := 22) X.1 X.2.1 dX1_isWhole_15 (by decide) (fun c15 => ?_) (fun c15 => ?_)
    · rw [if_neg c15] at h
      exact K_X1_isWhole_22 X hret hlk hR hh hS (lk_sub hl [] rfl) h
    · rw [if_pos c15] at h
      refine lv_iconst (v := (1 : Int32)) X.1 X.2.1 dX1_isWhole_18 (by decide) ?_
      refine lv_goto (tgt := 23) X.1 X.2.1 dX1_isWhole_19 (by decide) ?_
      exact K_X1_isWhole_23 X hret hlk hR hh hS (lk_sub hl [] rfl) h
set_option maxRecDepth 100000 in
theorem M_X1_isWhole (l : Launch) (D : va_G) (dA : Nat → ClassId) (base : Nat) (σ : hp) (t0 : Nat) {z : Int32} (h : S_X1_isWhole σ t0 = some z) : mt l yX1_isWhole cX1_isWhole 1 (some .boolean) 0 0 D dA base σ [.ref t0] (some (.int z)) σ 0 0 := by
  refine Met.ofW (cc := cX1_isWhole) (maxL := 1) (ret := some .boolean) (by decide) rfl ?_
  intro p e s m args below meth c s₁ B hml hv
  obtain ⟨rfl, hh, hK⟩ := hv
  have X : cx p s m ([.ref t0] : List Value).toArray c cX1_isWhole RX1 1 D dA := ⟨B.exec, B.bytes, findClass_of_methodNamed B.named, hml, fun w hw => atoms_spec (ws := .code yX1_isWhole cX1_isWhole 1 (some .boolean) :: G) B.pre w (List.mem_cons_of_mem _ hw), hK⟩
  have hl := lk_entry [.inr (some t0)] (n := 1) (Nat.le_of_ble_eq_true rfl)
  rw [lg_entry_eq]
  have hl : lk ((lg_sl ([.ref t0] : List Value) ++ List.replicate (1 - (lg_sl ([.ref t0] : List Value)).length) Slot.unset).toArray) 1 [(0, .inr (some t0))] := hl
  generalize (lg_sl ([.ref t0] : List Value) ++ List.replicate (1 - (lg_sl ([.ref t0] : List Value)).length) Slot.unset).toArray = ls at hl ⊢
  exact K_X1_isWhole_0 X B.returns B.notSynchronized ⟨Nat.le_refl _, Nat.le_refl _⟩ hh va_S.rf hl h
theorem mo_X1_job_19 {z : Option Nat × hp} {σ : hp} {w0 : Option Nat} (h : S_X1_job_19 σ w0 = some z) : le4 σ z.2 := by
  unfold S_X1_job_19 at h
  cases h
  show le4 σ σ
  exact le4.rf _
set_option maxHeartbeats 4000000 in
set_option maxRecDepth 100000 in
theorem K_X1_job_19 {p : Program} {l : Launch} {e : Env} {R : Room} {s : State} {m : MethodId} {args : Array Value} {below : List Frame} {meth : Method} {c : Code} {D : va_G} {dA : Nat → ClassId} {base : Nat} {z : Option Nat × hp} (X : cx p s m args c cX1_job RX1 1 D dA) (hret : meth.sig.returnType = some (.object "SpoolLink$Job")) (hlk : meth.locks = false) (hR : 2 ≤ R.frames ∧ 49 ≤ R.locals) {n0 s0 : Nat} (hRc : z.2.2.2.2.1 ≤ n0 + R.cells ∧ z.2.2.2.2.2 ≤ s0 + R.slots) {σ : hp} {w0 : Option Nat} {H : Heap} {locs : List Loc} {ls : Array Slot} (hn : n0 ≤ σ.2.2.2.1 ∧ s0 ≤ σ.2.2.2.2) (hh : hw D dA base σ H) (hS : hs base s.heap H locs) (hl : lk ls 1 []) (h : S_X1_job_19 σ w0 = some z) : W p l e R s m args below meth c H locs (σ.2.2.2.1 - n0) (σ.2.2.2.2 - s0) (MQ below (qG D dA base (some (va_rf z.1)) z.2) args s (z.2.2.2.2.1 - n0) (z.2.2.2.2.2 - s0) (fun q => base ≤ q)) (F0 m 19 ls [va_rf w0]) := by
  have hz0 := mo_X1_job_19 h
  have hcl : σ.2.2.2.1 - n0 ≤ R.cells ∧ σ.2.2.2.2 - s0 ≤ R.slots := by unfold le4 at hz0; omega
  unfold S_X1_job_19 at h
  cases h
  exact q_aret X hret hlk hh hS dX1_job_19
theorem mo_X1_job_3 {z : Option Nat × hp} {σ : hp} {t0 : Nat} {w0 : Option Nat} (h : S_X1_job_3 σ t0 w0 = some z) : le4 σ z.2 := by
  unfold S_X1_job_3 at h
  obtain ⟨t5, e_t5, h⟩ := o_b h
  obtain ⟨t9, e_t9, h⟩ := o_b h
  obtain ⟨t13, e_t13, h⟩ := o_b h
  obtain ⟨b16, e_b16, h⟩ := o_b h
  obtain ⟨q16, e_q16, h⟩ := o_b h
  exact ((mo_X2_init_0 e_q16)).tr (mo_X1_job_19 h)
set_option maxHeartbeats 4000000 in
set_option maxRecDepth 100000 in
theorem K_X1_job_3 {p : Program} {l : Launch} {e : Env} {R : Room} {s : State} {m : MethodId} {args : Array Value} {below : List Frame} {meth : Method} {c : Code} {D : va_G} {dA : Nat → ClassId} {base : Nat} {z : Option Nat × hp} (X : cx p s m args c cX1_job RX1 1 D dA) (hret : meth.sig.returnType = some (.object "SpoolLink$Job")) (hlk : meth.locks = false) (hR : 2 ≤ R.frames ∧ 49 ≤ R.locals) {n0 s0 : Nat} (hRc : z.2.2.2.2.1 ≤ n0 + R.cells ∧ z.2.2.2.2.2 ≤ s0 + R.slots) {σ : hp} {t0 : Nat} {w0 : Option Nat} {H : Heap} {locs : List Loc} {ls : Array Slot} (hn : n0 ≤ σ.2.2.2.1 ∧ s0 ≤ σ.2.2.2.2) (hh : hw D dA base σ H) (hS : hs base s.heap H locs) (hl : lk ls 1 [(0, .inr (some t0))]) (h : S_X1_job_3 σ t0 w0 = some z) : W p l e R s m args below meth c H locs (σ.2.2.2.1 - n0) (σ.2.2.2.2 - s0) (MQ below (qG D dA base (some (va_rf z.1)) z.2) args s (z.2.2.2.2.1 - n0) (z.2.2.2.2.2 - s0) (fun q => base ≤ q)) (F0 m 3 ls [va_rf w0]) := by
  have hz0 := mo_X1_job_3 h
  have hcl : σ.2.2.2.1 - n0 ≤ R.cells ∧ σ.2.2.2.2 - s0 ≤ R.slots := by unfold le4 at hz0; omega
  unfold S_X1_job_3 at h
  refine lv_dup X.1 X.2.1 dX1_job_3 (vv_cat (.inr w0)) ?_
  refine q_aload_n X dX1_job_4 rfl hl 0 rfl ?_
  obtain ⟨t5, e_t5, h⟩ := o_b h
  refine q_gI X hh fa_X1_19 rfl e_t5 dX1_job_5 ?_
  refine q_aload_n X dX1_job_8 rfl hl 0 rfl ?_
  obtain ⟨t9, e_t9, h⟩ := o_b h
  refine q_gR X hh fa_X1_9 rfl e_t9 dX1_job_9 ?_
  refine q_aload_n X dX1_job_12 rfl hl 0 rfl ?_
  obtain ⟨t13, e_t13, h⟩ := o_b h
  refine q_gI X hh fa_X1_23 rfl e_t13 dX1_job_13 ?_
  obtain ⟨b16, e_b16, h⟩ := o_b h
  obtain ⟨q16, e_q16, h⟩ := o_b h
  have g16 := mo_X1_job_19 h
  have f16 := mo_X2_init_0 e_q16
  unfold le4 at g16 f16
  refine q_cI (As := [.int t5, va_rf t9, .int t13]) X hh hS hl cf_X1_41 e_b16 rfl (M_X2_init l D dA base σ b16 t5 t9 t13 e_q16) ⟨Nat.le_trans (by decide) hR.1, Nat.le_trans (by decide) hR.2⟩ (cat8 [.inr w0] (Nat.le_of_ble_eq_true rfl)) dX1_job_16 ⟨by omega, by omega⟩ rfl (fun H locs hh hS => ?_)
  refine W.cs (cells' := q16.2.2.2.1 - n0) (slots' := q16.2.2.2.2 - s0) (by omega) (by omega) ?_
  have hn : n0 ≤ q16.2.2.2.1 ∧ s0 ≤ q16.2.2.2.2 := by omega
  exact K_X1_job_19 X hret hlk hR hRc hn hh hS (lk_sub hl [] rfl) h
theorem mo_X1_job_0 {z : Option Nat × hp} {σ : hp} {t0 : Nat} (h : S_X1_job σ t0 = some z) : le4 σ z.2 := by
  unfold S_X1_job at h
  obtain ⟨q0, e_q0, h⟩ := o_b h
  exact ((m_nw e_q0)).tr (mo_X1_job_3 h)
set_option maxHeartbeats 4000000 in
set_option maxRecDepth 100000 in
theorem K_X1_job_0 {p : Program} {l : Launch} {e : Env} {R : Room} {s : State} {m : MethodId} {args : Array Value} {below : List Frame} {meth : Method} {c : Code} {D : va_G} {dA : Nat → ClassId} {base : Nat} {z : Option Nat × hp} (X : cx p s m args c cX1_job RX1 1 D dA) (hret : meth.sig.returnType = some (.object "SpoolLink$Job")) (hlk : meth.locks = false) (hR : 2 ≤ R.frames ∧ 49 ≤ R.locals) {n0 s0 : Nat} (hRc : z.2.2.2.2.1 ≤ n0 + R.cells ∧ z.2.2.2.2.2 ≤ s0 + R.slots) {σ : hp} {t0 : Nat} {H : Heap} {locs : List Loc} {ls : Array Slot} (hn : n0 ≤ σ.2.2.2.1 ∧ s0 ≤ σ.2.2.2.2) (hh : hw D dA base σ H) (hS : hs base s.heap H locs) (hl : lk ls 1 [(0, .inr (some t0))]) (h : S_X1_job σ t0 = some z) : W p l e R s m args below meth c H locs (σ.2.2.2.1 - n0) (σ.2.2.2.2 - s0) (MQ below (qG D dA base (some (va_rf z.1)) z.2) args s (z.2.2.2.2.1 - n0) (z.2.2.2.2.2 - s0) (fun q => base ≤ q)) (F0 m 0 ls []) := by
  have hz0 := mo_X1_job_0 h
  have hcl : σ.2.2.2.1 - n0 ≤ R.cells ∧ σ.2.2.2.2 - s0 ≤ R.slots := by unfold le4 at hz0; omega
  unfold S_X1_job at h
  obtain ⟨q0, e_q0, h⟩ := o_b h
  have g0 := mo_X1_job_3 h
  have f0 := l_nw e_q0
  unfold le4 at g0
  refine q_nw X hh hS fn_X1_39 e_q0 dX1_job_0 (by omega) (by omega) (fun H hh hS => ?_)
  refine W.cs (cells' := q0.2.2.2.2.1 - n0) (slots' := q0.2.2.2.2.2 - s0) (by omega) (by omega) ?_
  have hn : n0 ≤ q0.2.2.2.2.1 ∧ s0 ≤ q0.2.2.2.2.2 := by omega
  exact K_X1_job_3 X hret hlk hR hRc hn hh hS (lk_sub hl [0] rfl) h
set_option maxRecDepth 100000 in
theorem M_X1_job (l : Launch) (D : va_G) (dA : Nat → ClassId) (base : Nat) (σ : hp) (t0 : Nat) {z : Option Nat × hp} (h : S_X1_job σ t0 = some z) : mt l yX1_job cX1_job 1 (some (.object "SpoolLink$Job")) 2 49 D dA base σ [.ref t0] (some (va_rf z.1)) z.2 (z.2.2.2.2.1 - σ.2.2.2.1) (z.2.2.2.2.2 - σ.2.2.2.2) := by
  have hzz := mo_X1_job_0 h
  unfold le4 at hzz
  refine Met.ofW (cc := cX1_job) (maxL := 1) (ret := some (.object "SpoolLink$Job")) (by decide) rfl ?_
  intro p e s m args below meth c s₁ B hml hv
  obtain ⟨rfl, hh, hK⟩ := hv
  have X : cx p s m ([.ref t0] : List Value).toArray c cX1_job RX1 1 D dA := ⟨B.exec, B.bytes, findClass_of_methodNamed B.named, hml, fun w hw => atoms_spec (ws := .code yX1_job cX1_job 1 (some (.object "SpoolLink$Job")) :: G) B.pre w (List.mem_cons_of_mem _ hw), hK⟩
  have hl := lk_entry [.inr (some t0)] (n := 1) (Nat.le_of_ble_eq_true rfl)
  rw [lg_entry_eq]
  have hl : lk ((lg_sl ([.ref t0] : List Value) ++ List.replicate (1 - (lg_sl ([.ref t0] : List Value)).length) Slot.unset).toArray) 1 [(0, .inr (some t0))] := hl
  generalize (lg_sl ([.ref t0] : List Value) ++ List.replicate (1 - (lg_sl ([.ref t0] : List Value)).length) Slot.unset).toArray = ls at hl ⊢
  refine W.cs (cells' := σ.2.2.2.1 - σ.2.2.2.1) (slots' := σ.2.2.2.2 - σ.2.2.2.2) (Nat.sub_self _).symm (Nat.sub_self _).symm ?_
  exact K_X1_job_0 X B.returns B.notSynchronized ⟨Nat.le_refl _, Nat.le_refl _⟩ (n0 := σ.2.2.2.1) (s0 := σ.2.2.2.2) ⟨by show _ ≤ _ + (_ - _); omega, by show _ ≤ _ + (_ - _); omega⟩ ⟨Nat.le_refl _, Nat.le_refl _⟩ hh va_S.rf hl h
theorem mo_X3_init_9 {z : hp} {σ : hp} {t0 : Nat} {w0 : Option Nat} {w1 : Option Nat} (h : S_X3_init_9 σ t0 w0 w1 = some z) : le4 σ z := by
  unfold S_X3_init_9 at h
  obtain ⟨s9, e_s9, h⟩ := o_b h
  obtain ⟨s14, e_s14, h⟩ := o_b h
  cases h
  exact ((e_pR e_s9).le).tr (e_pI e_s14).le
set_option maxHeartbeats 4000000 in
set_option maxRecDepth 100000 in
theorem K_X3_init_9 {p : Program} {l : Launch} {e : Env} {R : Room} {s : State} {m : MethodId} {args : Array Value} {below : List Frame} {meth : Method} {c : Code} {D : va_G} {dA : Nat → ClassId} {base : Nat} {z : hp} (X : cx p s m args c cX3_init RX3 1 D dA) (hret : meth.sig.returnType = none) (hlk : meth.locks = false) (hR : 1 ≤ R.frames ∧ 21 ≤ R.locals) (hin : meth.name = "<init>") {n0 s0 : Nat} (hRc : z.2.2.2.1 ≤ n0 + R.cells ∧ z.2.2.2.2 ≤ s0 + R.slots) {σ : hp} {t0 : Nat} {w0 : Option Nat} {w1 : Option Nat} {H : Heap} {locs : List Loc} {ls : Array Slot} (hn : n0 ≤ σ.2.2.2.1 ∧ s0 ≤ σ.2.2.2.2) (hh : hw D dA base σ H) (hS : hs base s.heap H locs) (hl : lk ls 1 [(0, .inr (some t0))]) (h : S_X3_init_9 σ t0 w0 w1 = some z) : W p l e R s m args below meth c H locs (σ.2.2.2.1 - n0) (σ.2.2.2.2 - s0) (MQ below (qG D dA base none z) args s (z.2.2.2.1 - n0) (z.2.2.2.2 - s0) (fun q => base ≤ q)) (F0 m 9 ls [va_rf w1, va_rf w0]) := by
  have hz0 := mo_X3_init_9 h
  have hcl : σ.2.2.2.1 - n0 ≤ R.cells ∧ σ.2.2.2.2 - s0 ≤ R.slots := by unfold le4 at hz0; omega
  unfold S_X3_init_9 at h
  obtain ⟨s9, e_s9, h⟩ := o_b h
  refine q_pR X hh hS fp_X3_9 (fun _ => hin) rfl (Or.inr ⟨_, rfl⟩) e_s9 dX3_init_9 (fun H locs hh hS => ?_)
  refine q_aload_n X dX3_init_12 rfl hl 0 rfl ?_
  refine lv_iconst (v := (0 : Int32)) X.1 X.2.1 dX3_init_13 (by decide) ?_
  obtain ⟨s14, e_s14, h⟩ := o_b h
  refine q_pI X hh hS fp_X3_13 (fun h => by cases h) rfl e_s14 dX3_init_14 (fun H locs hh hS => ?_)
  have ys14 : eq4 σ s14 := ((e_pR e_s9)).tr (e_pI e_s14)
  refine W.cs (cells' := s14.2.2.2.1 - n0) (slots' := s14.2.2.2.2 - s0) (by rw [show s14.2.2.2 = σ.2.2.2 from ys14]) (by rw [show s14.2.2.2 = σ.2.2.2 from ys14]) ?_
  have hn : n0 ≤ s14.2.2.2.1 ∧ s0 ≤ s14.2.2.2.2 := by rw [show s14.2.2.2 = σ.2.2.2 from ys14]; exact hn
  have hcl : s14.2.2.2.1 - n0 ≤ R.cells ∧ s14.2.2.2.2 - s0 ≤ R.slots := by rw [show s14.2.2.2 = σ.2.2.2 from ys14]; exact hcl
  cases h
  exact q_vret X hret hlk hh hS dX3_init_17
theorem mo_X3_init_0 {z : hp} {σ : hp} {t0 : Nat} (h : S_X3_init σ t0 = some z) : le4 σ z := by
  unfold S_X3_init at h
  obtain ⟨q7, e_q7, h⟩ := o_b h
  exact ((m_na e_q7)).tr (mo_X3_init_9 h)
set_option maxHeartbeats 4000000 in
set_option maxRecDepth 100000 in
theorem K_X3_init_0 {p : Program} {l : Launch} {e : Env} {R : Room} {s : State} {m : MethodId} {args : Array Value} {below : List Frame} {meth : Method} {c : Code} {D : va_G} {dA : Nat → ClassId} {base : Nat} {z : hp} (X : cx p s m args c cX3_init RX3 1 D dA) (hret : meth.sig.returnType = none) (hlk : meth.locks = false) (hR : 1 ≤ R.frames ∧ 21 ≤ R.locals) (hin : meth.name = "<init>") {n0 s0 : Nat} (hRc : z.2.2.2.1 ≤ n0 + R.cells ∧ z.2.2.2.2 ≤ s0 + R.slots) {σ : hp} {t0 : Nat} {H : Heap} {locs : List Loc} {ls : Array Slot} (hn : n0 ≤ σ.2.2.2.1 ∧ s0 ≤ σ.2.2.2.2) (hh : hw D dA base σ H) (hS : hs base s.heap H locs) (hl : lk ls 1 [(0, .inr (some t0))]) (h : S_X3_init σ t0 = some z) : W p l e R s m args below meth c H locs (σ.2.2.2.1 - n0) (σ.2.2.2.2 - s0) (MQ below (qG D dA base none z) args s (z.2.2.2.1 - n0) (z.2.2.2.2 - s0) (fun q => base ≤ q)) (F0 m 0 ls []) := by
  have hz0 := mo_X3_init_0 h
  have hcl : σ.2.2.2.1 - n0 ≤ R.cells ∧ σ.2.2.2.2 - s0 ≤ R.slots := by unfold le4 at hz0; omega
  unfold S_X3_init at h
  refine q_aload_n X dX3_init_0 rfl hl 0 rfl ?_
  refine q_objInit X hl cj_X3_1 gj_o1 gj_o2 dX3_init_1 ⟨Nat.le_trans (by decide) hR.1, Nat.le_trans (by decide) hR.2⟩ (cat8 [] (Nat.le_of_ble_eq_true rfl)) ?_
  refine q_aload_n X dX3_init_4 rfl hl 0 rfl ?_
  refine lv_bipush (v := (31 : Int32)) X.1 X.2.1 dX3_init_5 (by decide) ?_
  obtain ⟨q7, e_q7, h⟩ := o_b h
  have g7 := mo_X3_init_9 h
  have f7 := l_na e_q7
  unfold le4 at g7
  refine q_naI (t := 0) X hh hS (by decide) rfl rfl (fun _ _ => rfl) (by decide) (gm 43 (by decide +kernel) rfl) e_q7 dX3_init_7 (by omega) (by omega) (fun H hh hS => ?_)
  refine W.cs (cells' := q7.2.2.2.2.1 - n0) (slots' := q7.2.2.2.2.2 - s0) (by omega) (by omega) ?_
  have hn : n0 ≤ q7.2.2.2.2.1 ∧ s0 ≤ q7.2.2.2.2.2 := by omega
  exact K_X3_init_9 X hret hlk hR hin hRc hn hh hS (lk_sub hl [0] rfl) h
set_option maxRecDepth 100000 in
theorem M_X3_init (l : Launch) (D : va_G) (dA : Nat → ClassId) (base : Nat) (σ : hp) (t0 : Nat) {z : hp} (h : S_X3_init σ t0 = some z) : mt l yX3_init cX3_init 1 (none) 1 21 D dA base σ [.ref t0] none z (z.2.2.2.1 - σ.2.2.2.1) (z.2.2.2.2 - σ.2.2.2.2) := by
  have hzz := mo_X3_init_0 h
  unfold le4 at hzz
  refine Met.ofW (cc := cX3_init) (maxL := 1) (ret := none) (by decide) rfl ?_
  intro p e s m args below meth c s₁ B hml hv
  obtain ⟨rfl, hh, hK⟩ := hv
  have X : cx p s m ([.ref t0] : List Value).toArray c cX3_init RX3 1 D dA := ⟨B.exec, B.bytes, findClass_of_methodNamed B.named, hml, fun w hw => atoms_spec (ws := .code yX3_init cX3_init 1 (none) :: G) B.pre w (List.mem_cons_of_mem _ hw), hK⟩
  have hl := lk_entry [.inr (some t0)] (n := 1) (Nat.le_of_ble_eq_true rfl)
  rw [lg_entry_eq]
  have hl : lk ((lg_sl ([.ref t0] : List Value) ++ List.replicate (1 - (lg_sl ([.ref t0] : List Value)).length) Slot.unset).toArray) 1 [(0, .inr (some t0))] := hl
  generalize (lg_sl ([.ref t0] : List Value) ++ List.replicate (1 - (lg_sl ([.ref t0] : List Value)).length) Slot.unset).toArray = ls at hl ⊢
  refine W.cs (cells' := σ.2.2.2.1 - σ.2.2.2.1) (slots' := σ.2.2.2.2 - σ.2.2.2.2) (Nat.sub_self _).symm (Nat.sub_self _).symm ?_
  exact K_X3_init_0 X B.returns B.notSynchronized ⟨Nat.le_refl _, Nat.le_refl _⟩ (name_of_methodNamed B.named B.method).1 (n0 := σ.2.2.2.1) (s0 := σ.2.2.2.2) ⟨by show _ ≤ _ + (_ - _); omega, by show _ ≤ _ + (_ - _); omega⟩ ⟨Nat.le_refl _, Nat.le_refl _⟩ hh va_S.rf hl h
theorem ke_X3_append_29 {z : hp} {σ : hp} (h : S_X3_append_29 σ = some z) : eq4 σ z := by
  unfold S_X3_append_29 at h
  cases h
  exact eq4.rf _
set_option maxHeartbeats 4000000 in
set_option maxRecDepth 100000 in
theorem K_X3_append_29 {p : Program} {l : Launch} {e : Env} {R : Room} {s : State} {m : MethodId} {args : Array Value} {below : List Frame} {meth : Method} {c : Code} {D : va_G} {dA : Nat → ClassId} {base : Nat} {z : hp} (X : cx p s m args c cX3_append RX3 2 D dA) (hret : meth.sig.returnType = none) (hlk : meth.locks = false) (hR : 0 ≤ R.frames ∧ 0 ≤ R.locals) {σ : hp} {H : Heap} {locs : List Loc} {ls : Array Slot} (hh : hw D dA base σ H) (hS : hs base s.heap H locs) (hl : lk ls 2 []) (h : S_X3_append_29 σ = some z) : W p l e R s m args below meth c H locs 0 0 (MQ below (qG D dA base none z) args s 0 0 (fun q => base ≤ q)) (F0 m 29 ls []) := by
  unfold S_X3_append_29 at h
  cases h
  exact q_vret X hret hlk hh hS dX3_append_29
theorem ke_X3_append_0 {z : hp} {σ : hp} {t0 : Nat} {v1 : Int32} (h : S_X3_append σ t0 v1 = some z) : eq4 σ z := by
  unfold S_X3_append at h
  obtain ⟨t1, e_t1, h⟩ := o_b h
  by_cases c6 : (31 : Int32) ≤ t1
  · rw [if_pos c6] at h
    exact (ke_X3_append_29 h)
  · rw [if_neg c6] at h
    obtain ⟨t10, e_t10, h⟩ := o_b h
    obtain ⟨t14, e_t14, h⟩ := o_b h
    obtain ⟨s18, e_s18, h⟩ := o_b h
    obtain ⟨t21, e_t21, h⟩ := o_b h
    obtain ⟨s26, e_s26, h⟩ := o_b h
    exact (((e_stI e_s18)).tr (e_pI e_s26)).tr (ke_X3_append_29 h)
set_option maxHeartbeats 4000000 in
set_option maxRecDepth 100000 in
theorem K_X3_append_0 {p : Program} {l : Launch} {e : Env} {R : Room} {s : State} {m : MethodId} {args : Array Value} {below : List Frame} {meth : Method} {c : Code} {D : va_G} {dA : Nat → ClassId} {base : Nat} {z : hp} (X : cx p s m args c cX3_append RX3 2 D dA) (hret : meth.sig.returnType = none) (hlk : meth.locks = false) (hR : 0 ≤ R.frames ∧ 0 ≤ R.locals) {σ : hp} {t0 : Nat} {v1 : Int32} {H : Heap} {locs : List Loc} {ls : Array Slot} (hh : hw D dA base σ H) (hS : hs base s.heap H locs) (hl : lk ls 2 [(0, .inr (some t0)), (1, .inl v1)]) (h : S_X3_append σ t0 v1 = some z) : W p l e R s m args below meth c H locs 0 0 (MQ below (qG D dA base none z) args s 0 0 (fun q => base ≤ q)) (F0 m 0 ls []) := by
  unfold S_X3_append at h
  refine q_aload_n X dX3_append_0 rfl hl 0 rfl ?_
  obtain ⟨t1, e_t1, h⟩ := o_b h
  refine q_gI X hh fa_X3_13 rfl e_t1 dX3_append_1 ?_
  refine lv_bipush (v := (31 : Int32)) X.1 X.2.1 dX3_append_4 (by decide) ?_
  refine lv_icmp_ge (tgt := 29) X.1 X.2.1 dX3_append_6 (by decide) (fun c6 => ?_) (fun c6 => ?_)
  · rw [if_pos c6] at h
    exact K_X3_append_29 X hret hlk hR hh hS (lk_sub hl [] rfl) h
  · rw [if_neg c6] at h
    refine q_aload_n X dX3_append_9 rfl hl 0 rfl ?_
    obtain ⟨t10, e_t10, h⟩ := o_b h
    refine q_gR X hh fa_X3_9 rfl e_t10 dX3_append_10 ?_
    refine q_aload_n X dX3_append_13 rfl hl 0 rfl ?_
    obtain ⟨t14, e_t14, h⟩ := o_b h
    refine q_gI X hh fa_X3_13 rfl e_t14 dX3_append_14 ?_
    refine q_iload_n X dX3_append_17 rfl hl 1 rfl ?_
    obtain ⟨s18, e_s18, h⟩ := o_b h
    refine q_stI X hh hS e_s18 dX3_append_18 (fun H locs hh hS => ?_)
    refine q_aload_n X dX3_append_19 rfl hl 0 rfl ?_
    refine lv_dup X.1 X.2.1 dX3_append_20 (vv_cat (.inr (some t0))) ?_
    obtain ⟨t21, e_t21, h⟩ := o_b h
    refine q_gI X hh fa_X3_13 rfl e_t21 dX3_append_21 ?_
    refine lv_iconst (v := (1 : Int32)) X.1 X.2.1 dX3_append_24 (by decide) ?_
    refine lv_iadd X.1 X.2.1 dX3_append_25 ?_
    obtain ⟨s26, e_s26, h⟩ := o_b h
    refine q_pI X hh hS fp_X3_13 (fun h => by cases h) rfl e_s26 dX3_append_26 (fun H locs hh hS => ?_)
    exact K_X3_append_29 X hret hlk hR hh hS (lk_sub hl [] rfl) h
set_option maxRecDepth 100000 in
theorem M_X3_append (l : Launch) (D : va_G) (dA : Nat → ClassId) (base : Nat) (σ : hp) (t0 : Nat) (v1 : Int32) {z : hp} (h : S_X3_append σ t0 v1 = some z) : mt l yX3_append cX3_append 2 (none) 0 0 D dA base σ [.ref t0, .int v1] none z 0 0 := by
  refine Met.ofW (cc := cX3_append) (maxL := 2) (ret := none) (by decide) rfl ?_
  intro p e s m args below meth c s₁ B hml hv
  obtain ⟨rfl, hh, hK⟩ := hv
  have X : cx p s m ([.ref t0, .int v1] : List Value).toArray c cX3_append RX3 2 D dA := ⟨B.exec, B.bytes, findClass_of_methodNamed B.named, hml, fun w hw => atoms_spec (ws := .code yX3_append cX3_append 2 (none) :: G) B.pre w (List.mem_cons_of_mem _ hw), hK⟩
  have hl := lk_entry [.inr (some t0), .inl v1] (n := 2) (Nat.le_of_ble_eq_true rfl)
  rw [lg_entry_eq]
  have hl : lk ((lg_sl ([.ref t0, .int v1] : List Value) ++ List.replicate (2 - (lg_sl ([.ref t0, .int v1] : List Value)).length) Slot.unset).toArray) 2 [(0, .inr (some t0)), (1, .inl v1)] := hl
  generalize (lg_sl ([.ref t0, .int v1] : List Value) ++ List.replicate (2 - (lg_sl ([.ref t0, .int v1] : List Value)).length) Slot.unset).toArray = ls at hl ⊢
  exact K_X3_append_0 X B.returns B.notSynchronized ⟨Nat.le_refl _, Nat.le_refl _⟩ hh va_S.rf hl h
theorem mo_X4_init_9 {z : hp} {σ : hp} {t0 : Nat} {w0 : Option Nat} {w1 : Option Nat} (h : S_X4_init_9 σ t0 w0 w1 = some z) : le4 σ z := by
  unfold S_X4_init_9 at h
  obtain ⟨s9, e_s9, h⟩ := o_b h
  obtain ⟨s14, e_s14, h⟩ := o_b h
  cases h
  exact ((e_pR e_s9).le).tr (e_pI e_s14).le
set_option maxHeartbeats 4000000 in
set_option maxRecDepth 100000 in
theorem K_X4_init_9 {p : Program} {l : Launch} {e : Env} {R : Room} {s : State} {m : MethodId} {args : Array Value} {below : List Frame} {meth : Method} {c : Code} {D : va_G} {dA : Nat → ClassId} {base : Nat} {z : hp} (X : cx p s m args c cX4_init RX4 1 D dA) (hret : meth.sig.returnType = none) (hlk : meth.locks = false) (hR : 1 ≤ R.frames ∧ 21 ≤ R.locals) (hin : meth.name = "<init>") {n0 s0 : Nat} (hRc : z.2.2.2.1 ≤ n0 + R.cells ∧ z.2.2.2.2 ≤ s0 + R.slots) {σ : hp} {t0 : Nat} {w0 : Option Nat} {w1 : Option Nat} {H : Heap} {locs : List Loc} {ls : Array Slot} (hn : n0 ≤ σ.2.2.2.1 ∧ s0 ≤ σ.2.2.2.2) (hh : hw D dA base σ H) (hS : hs base s.heap H locs) (hl : lk ls 1 [(0, .inr (some t0))]) (h : S_X4_init_9 σ t0 w0 w1 = some z) : W p l e R s m args below meth c H locs (σ.2.2.2.1 - n0) (σ.2.2.2.2 - s0) (MQ below (qG D dA base none z) args s (z.2.2.2.1 - n0) (z.2.2.2.2 - s0) (fun q => base ≤ q)) (F0 m 9 ls [va_rf w1, va_rf w0]) := by
  have hz0 := mo_X4_init_9 h
  have hcl : σ.2.2.2.1 - n0 ≤ R.cells ∧ σ.2.2.2.2 - s0 ≤ R.slots := by unfold le4 at hz0; omega
  unfold S_X4_init_9 at h
  obtain ⟨s9, e_s9, h⟩ := o_b h
  refine q_pR X hh hS fp_X4_9 (fun _ => hin) rfl (Or.inr ⟨_, rfl⟩) e_s9 dX4_init_9 (fun H locs hh hS => ?_)
  refine q_aload_n X dX4_init_12 rfl hl 0 rfl ?_
  refine lv_iconst (v := (0 : Int32)) X.1 X.2.1 dX4_init_13 (by decide) ?_
  obtain ⟨s14, e_s14, h⟩ := o_b h
  refine q_pI X hh hS fp_X4_13 (fun h => by cases h) rfl e_s14 dX4_init_14 (fun H locs hh hS => ?_)
  have ys14 : eq4 σ s14 := ((e_pR e_s9)).tr (e_pI e_s14)
  refine W.cs (cells' := s14.2.2.2.1 - n0) (slots' := s14.2.2.2.2 - s0) (by rw [show s14.2.2.2 = σ.2.2.2 from ys14]) (by rw [show s14.2.2.2 = σ.2.2.2 from ys14]) ?_
  have hn : n0 ≤ s14.2.2.2.1 ∧ s0 ≤ s14.2.2.2.2 := by rw [show s14.2.2.2 = σ.2.2.2 from ys14]; exact hn
  have hcl : s14.2.2.2.1 - n0 ≤ R.cells ∧ s14.2.2.2.2 - s0 ≤ R.slots := by rw [show s14.2.2.2 = σ.2.2.2 from ys14]; exact hcl
  cases h
  exact q_vret X hret hlk hh hS dX4_init_17
theorem mo_X4_init_0 {z : hp} {σ : hp} {t0 : Nat} (h : S_X4_init σ t0 = some z) : le4 σ z := by
  unfold S_X4_init at h
  obtain ⟨q7, e_q7, h⟩ := o_b h
  exact ((m_na e_q7)).tr (mo_X4_init_9 h)
set_option maxHeartbeats 4000000 in
set_option maxRecDepth 100000 in
theorem K_X4_init_0 {p : Program} {l : Launch} {e : Env} {R : Room} {s : State} {m : MethodId} {args : Array Value} {below : List Frame} {meth : Method} {c : Code} {D : va_G} {dA : Nat → ClassId} {base : Nat} {z : hp} (X : cx p s m args c cX4_init RX4 1 D dA) (hret : meth.sig.returnType = none) (hlk : meth.locks = false) (hR : 1 ≤ R.frames ∧ 21 ≤ R.locals) (hin : meth.name = "<init>") {n0 s0 : Nat} (hRc : z.2.2.2.1 ≤ n0 + R.cells ∧ z.2.2.2.2 ≤ s0 + R.slots) {σ : hp} {t0 : Nat} {H : Heap} {locs : List Loc} {ls : Array Slot} (hn : n0 ≤ σ.2.2.2.1 ∧ s0 ≤ σ.2.2.2.2) (hh : hw D dA base σ H) (hS : hs base s.heap H locs) (hl : lk ls 1 [(0, .inr (some t0))]) (h : S_X4_init σ t0 = some z) : W p l e R s m args below meth c H locs (σ.2.2.2.1 - n0) (σ.2.2.2.2 - s0) (MQ below (qG D dA base none z) args s (z.2.2.2.1 - n0) (z.2.2.2.2 - s0) (fun q => base ≤ q)) (F0 m 0 ls []) := by
  have hz0 := mo_X4_init_0 h
  have hcl : σ.2.2.2.1 - n0 ≤ R.cells ∧ σ.2.2.2.2 - s0 ≤ R.slots := by unfold le4 at hz0; omega
  unfold S_X4_init at h
  refine q_aload_n X dX4_init_0 rfl hl 0 rfl ?_
  refine q_objInit X hl cj_X4_1 gj_o1 gj_o2 dX4_init_1 ⟨Nat.le_trans (by decide) hR.1, Nat.le_trans (by decide) hR.2⟩ (cat8 [] (Nat.le_of_ble_eq_true rfl)) ?_
  refine q_aload_n X dX4_init_4 rfl hl 0 rfl ?_
  refine lv_bipush (v := (38 : Int32)) X.1 X.2.1 dX4_init_5 (by decide) ?_
  obtain ⟨q7, e_q7, h⟩ := o_b h
  have g7 := mo_X4_init_9 h
  have f7 := l_na e_q7
  unfold le4 at g7
  refine q_naI (t := 0) X hh hS (by decide) rfl rfl (fun _ _ => rfl) (by decide) (gm 43 (by decide +kernel) rfl) e_q7 dX4_init_7 (by omega) (by omega) (fun H hh hS => ?_)
  refine W.cs (cells' := q7.2.2.2.2.1 - n0) (slots' := q7.2.2.2.2.2 - s0) (by omega) (by omega) ?_
  have hn : n0 ≤ q7.2.2.2.2.1 ∧ s0 ≤ q7.2.2.2.2.2 := by omega
  exact K_X4_init_9 X hret hlk hR hin hRc hn hh hS (lk_sub hl [0] rfl) h
set_option maxRecDepth 100000 in
theorem M_X4_init (l : Launch) (D : va_G) (dA : Nat → ClassId) (base : Nat) (σ : hp) (t0 : Nat) {z : hp} (h : S_X4_init σ t0 = some z) : mt l yX4_init cX4_init 1 (none) 1 21 D dA base σ [.ref t0] none z (z.2.2.2.1 - σ.2.2.2.1) (z.2.2.2.2 - σ.2.2.2.2) := by
  have hzz := mo_X4_init_0 h
  unfold le4 at hzz
  refine Met.ofW (cc := cX4_init) (maxL := 1) (ret := none) (by decide) rfl ?_
  intro p e s m args below meth c s₁ B hml hv
  obtain ⟨rfl, hh, hK⟩ := hv
  have X : cx p s m ([.ref t0] : List Value).toArray c cX4_init RX4 1 D dA := ⟨B.exec, B.bytes, findClass_of_methodNamed B.named, hml, fun w hw => atoms_spec (ws := .code yX4_init cX4_init 1 (none) :: G) B.pre w (List.mem_cons_of_mem _ hw), hK⟩
  have hl := lk_entry [.inr (some t0)] (n := 1) (Nat.le_of_ble_eq_true rfl)
  rw [lg_entry_eq]
  have hl : lk ((lg_sl ([.ref t0] : List Value) ++ List.replicate (1 - (lg_sl ([.ref t0] : List Value)).length) Slot.unset).toArray) 1 [(0, .inr (some t0))] := hl
  generalize (lg_sl ([.ref t0] : List Value) ++ List.replicate (1 - (lg_sl ([.ref t0] : List Value)).length) Slot.unset).toArray = ls at hl ⊢
  refine W.cs (cells' := σ.2.2.2.1 - σ.2.2.2.1) (slots' := σ.2.2.2.2 - σ.2.2.2.2) (Nat.sub_self _).symm (Nat.sub_self _).symm ?_
  exact K_X4_init_0 X B.returns B.notSynchronized ⟨Nat.le_refl _, Nat.le_refl _⟩ (name_of_methodNamed B.named B.method).1 (n0 := σ.2.2.2.1) (s0 := σ.2.2.2.2) ⟨by show _ ≤ _ + (_ - _); omega, by show _ ≤ _ + (_ - _); omega⟩ ⟨Nat.le_refl _, Nat.le_refl _⟩ hh va_S.rf hl h
theorem ke_X4_fillHead_0 {z : hp} {σ : hp} {t0 : Nat} {v1 : Int32} {v2 : Int32} {v3 : Int32} (h : S_X4_fillHead σ t0 v1 v2 v3 = some z) : eq4 σ z := by
  unfold S_X4_fillHead at h
  obtain ⟨t18, e_t18, h⟩ := o_b h
  obtain ⟨s24, e_s24, h⟩ := o_b h
  obtain ⟨t26, e_t26, h⟩ := o_b h
  obtain ⟨s31, e_s31, h⟩ := o_b h
  obtain ⟨t33, e_t33, h⟩ := o_b h
  obtain ⟨s39, e_s39, h⟩ := o_b h
  obtain ⟨t41, e_t41, h⟩ := o_b h
  obtain ⟨s47, e_s47, h⟩ := o_b h
  obtain ⟨t49, e_t49, h⟩ := o_b h
  obtain ⟨s54, e_s54, h⟩ := o_b h
  obtain ⟨t56, e_t56, h⟩ := o_b h
  obtain ⟨s69, e_s69, h⟩ := o_b h
  cases h
  exact ((((((e_stI e_s24)).tr (e_stI e_s31)).tr (e_stI e_s39)).tr (e_stI e_s47)).tr (e_stI e_s54)).tr (e_stI e_s69)
set_option maxHeartbeats 4000000 in
set_option maxRecDepth 100000 in
theorem K_X4_fillHead_0 {p : Program} {l : Launch} {e : Env} {R : Room} {s : State} {m : MethodId} {args : Array Value} {below : List Frame} {meth : Method} {c : Code} {D : va_G} {dA : Nat → ClassId} {base : Nat} {z : hp} (X : cx p s m args c cX4_fillHead RX4 6 D dA) (hret : meth.sig.returnType = none) (hlk : meth.locks = false) (hR : 0 ≤ R.frames ∧ 0 ≤ R.locals) {σ : hp} {t0 : Nat} {v1 : Int32} {v2 : Int32} {v3 : Int32} {H : Heap} {locs : List Loc} {ls : Array Slot} (hh : hw D dA base σ H) (hS : hs base s.heap H locs) (hl : lk ls 6 [(0, .inr (some t0)), (1, .inl v1), (2, .inl v2), (3, .inl v3)]) (h : S_X4_fillHead σ t0 v1 v2 v3 = some z) : W p l e R s m args below meth c H locs 0 0 (MQ below (qG D dA base none z) args s 0 0 (fun q => base ≤ q)) (F0 m 0 ls []) := by
  unfold S_X4_fillHead at h
  refine q_iload_n X dX4_fillHead_0 rfl hl 3 rfl ?_
  refine lv_sipush (v := (255 : Int32)) X.1 X.2.1 dX4_fillHead_1 (by decide) ?_
  refine lv_iand X.1 X.2.1 dX4_fillHead_4 ?_
  refine q_istore (lv' := [(4, .inl (v3 &&& (255 : Int32))), (0, .inr (some t0)), (1, .inl v1), (2, .inl v2), (3, .inl v3)]) X dX4_fillHead_5 hl (by decide) rfl (fun ls hl => ?_)
  refine q_iload_n X dX4_fillHead_7 rfl hl 4 rfl ?_
  refine lv_bipush (v := (8 : Int32)) X.1 X.2.1 dX4_fillHead_8 (by decide) ?_
  refine lv_ishr X.1 X.2.1 dX4_fillHead_10 ?_
  refine lv_sipush (v := (255 : Int32)) X.1 X.2.1 dX4_fillHead_11 (by decide) ?_
  refine lv_iand X.1 X.2.1 dX4_fillHead_14 ?_
  refine q_istore (lv' := [(5, .inl ((v3 >>> ((8 : Int32) &&& 31)) &&& (255 : Int32))), (4, .inl (v3 &&& (255 : Int32))), (0, .inr (some t0)), (1, .inl v1), (2, .inl v2), (3, .inl v3)]) X dX4_fillHead_15 hl (by decide) rfl (fun ls hl => ?_)
  refine q_aload_n X dX4_fillHead_17 rfl hl 2 rfl ?_
  obtain ⟨t18, e_t18, h⟩ := o_b h
  refine q_gR X hh fa_X4_9 rfl e_t18 dX4_fillHead_18 ?_
  refine lv_iconst (v := (0 : Int32)) X.1 X.2.1 dX4_fillHead_21 (by decide) ?_
  refine lv_bipush (v := (16 : Int32)) X.1 X.2.1 dX4_fillHead_22 (by decide) ?_
  obtain ⟨s24, e_s24, h⟩ := o_b h
  refine q_stI X hh hS e_s24 dX4_fillHead_24 (fun H locs hh hS => ?_)
  refine q_aload_n X dX4_fillHead_25 rfl hl 2 rfl ?_
  obtain ⟨t26, e_t26, h⟩ := o_b h
  refine q_gR X hh fa_X4_9 rfl e_t26 dX4_fillHead_26 ?_
  refine lv_iconst (v := (1 : Int32)) X.1 X.2.1 dX4_fillHead_29 (by decide) ?_
  refine q_iload_n X dX4_fillHead_30 rfl hl 3 rfl ?_
  obtain ⟨s31, e_s31, h⟩ := o_b h
  refine q_stI X hh hS e_s31 dX4_fillHead_31 (fun H locs hh hS => ?_)
  refine q_aload_n X dX4_fillHead_32 rfl hl 2 rfl ?_
  obtain ⟨t33, e_t33, h⟩ := o_b h
  refine q_gR X hh fa_X4_9 rfl e_t33 dX4_fillHead_33 ?_
  refine lv_iconst (v := (2 : Int32)) X.1 X.2.1 dX4_fillHead_36 (by decide) ?_
  refine q_iload X dX4_fillHead_37 hl 1 rfl ?_
  obtain ⟨s39, e_s39, h⟩ := o_b h
  refine q_stI X hh hS e_s39 dX4_fillHead_39 (fun H locs hh hS => ?_)
  refine q_aload_n X dX4_fillHead_40 rfl hl 2 rfl ?_
  obtain ⟨t41, e_t41, h⟩ := o_b h
  refine q_gR X hh fa_X4_9 rfl e_t41 dX4_fillHead_41 ?_
  refine lv_iconst (v := (3 : Int32)) X.1 X.2.1 dX4_fillHead_44 (by decide) ?_
  refine q_iload X dX4_fillHead_45 hl 0 rfl ?_
  obtain ⟨s47, e_s47, h⟩ := o_b h
  refine q_stI X hh hS e_s47 dX4_fillHead_47 (fun H locs hh hS => ?_)
  refine q_aload_n X dX4_fillHead_48 rfl hl 2 rfl ?_
  obtain ⟨t49, e_t49, h⟩ := o_b h
  refine q_gR X hh fa_X4_9 rfl e_t49 dX4_fillHead_49 ?_
  refine lv_iconst (v := (4 : Int32)) X.1 X.2.1 dX4_fillHead_52 (by decide) ?_
  refine q_iload_n X dX4_fillHead_53 rfl hl 4 rfl ?_
  obtain ⟨s54, e_s54, h⟩ := o_b h
  refine q_stI X hh hS e_s54 dX4_fillHead_54 (fun H locs hh hS => ?_)
  refine q_aload_n X dX4_fillHead_55 rfl hl 2 rfl ?_
  obtain ⟨t56, e_t56, h⟩ := o_b h
  refine q_gR X hh fa_X4_9 rfl e_t56 dX4_fillHead_56 ?_
  refine lv_iconst (v := (5 : Int32)) X.1 X.2.1 dX4_fillHead_59 (by decide) ?_
  refine q_iload_n X dX4_fillHead_60 rfl hl 3 rfl ?_
  refine q_iload X dX4_fillHead_61 hl 1 rfl ?_
  refine lv_ixor X.1 X.2.1 dX4_fillHead_63 ?_
  refine q_iload X dX4_fillHead_64 hl 0 rfl ?_
  refine lv_ixor X.1 X.2.1 dX4_fillHead_66 ?_
  refine q_iload_n X dX4_fillHead_67 rfl hl 4 rfl ?_
  refine lv_ixor X.1 X.2.1 dX4_fillHead_68 ?_
  obtain ⟨s69, e_s69, h⟩ := o_b h
  refine q_stI X hh hS e_s69 dX4_fillHead_69 (fun H locs hh hS => ?_)
  cases h
  exact q_vret X hret hlk hh hS dX4_fillHead_70
set_option maxRecDepth 100000 in
theorem M_X4_fillHead (l : Launch) (D : va_G) (dA : Nat → ClassId) (base : Nat) (σ : hp) (t0 : Nat) (v1 : Int32) (v2 : Int32) (v3 : Int32) {z : hp} (h : S_X4_fillHead σ t0 v1 v2 v3 = some z) : mt l yX4_fillHead cX4_fillHead 6 (none) 0 0 D dA base σ [.ref t0, .int v1, .int v2, .int v3] none z 0 0 := by
  refine Met.ofW (cc := cX4_fillHead) (maxL := 6) (ret := none) (by decide) rfl ?_
  intro p e s m args below meth c s₁ B hml hv
  obtain ⟨rfl, hh, hK⟩ := hv
  have X : cx p s m ([.ref t0, .int v1, .int v2, .int v3] : List Value).toArray c cX4_fillHead RX4 6 D dA := ⟨B.exec, B.bytes, findClass_of_methodNamed B.named, hml, fun w hw => atoms_spec (ws := .code yX4_fillHead cX4_fillHead 6 (none) :: G) B.pre w (List.mem_cons_of_mem _ hw), hK⟩
  have hl := lk_entry [.inr (some t0), .inl v1, .inl v2, .inl v3] (n := 6) (Nat.le_of_ble_eq_true rfl)
  rw [lg_entry_eq]
  have hl : lk ((lg_sl ([.ref t0, .int v1, .int v2, .int v3] : List Value) ++ List.replicate (6 - (lg_sl ([.ref t0, .int v1, .int v2, .int v3] : List Value)).length) Slot.unset).toArray) 6 [(0, .inr (some t0)), (1, .inl v1), (2, .inl v2), (3, .inl v3)] := hl
  generalize (lg_sl ([.ref t0, .int v1, .int v2, .int v3] : List Value) ++ List.replicate (6 - (lg_sl ([.ref t0, .int v1, .int v2, .int v3] : List Value)).length) Slot.unset).toArray = ls at hl ⊢
  exact K_X4_fillHead_0 X B.returns B.notSynchronized ⟨Nat.le_refl _, Nat.le_refl _⟩ hh va_S.rf hl h
theorem ke_X4_fillControl_0 {z : hp} {σ : hp} {t0 : Nat} {v1 : Int32} {v2 : Int32} (h : S_X4_fillControl σ t0 v1 v2 = some z) : eq4 σ z := by
  unfold S_X4_fillControl at h
  obtain ⟨s3, e_s3, h⟩ := o_b h
  obtain ⟨b21, e_b21, h⟩ := o_b h
  obtain ⟨q21, e_q21, h⟩ := o_b h
  cases h
  exact ((e_pI e_s3)).tr (ke_X4_fillHead_0 e_q21)
set_option maxHeartbeats 4000000 in
set_option maxRecDepth 100000 in
theorem K_X4_fillControl_0 {p : Program} {l : Launch} {e : Env} {R : Room} {s : State} {m : MethodId} {args : Array Value} {below : List Frame} {meth : Method} {c : Code} {D : va_G} {dA : Nat → ClassId} {base : Nat} {z : hp} (X : cx p s m args c cX4_fillControl RX4 4 D dA) (hret : meth.sig.returnType = none) (hlk : meth.locks = false) (hR : 1 ≤ R.frames ∧ 25 ≤ R.locals) {σ : hp} {t0 : Nat} {v1 : Int32} {v2 : Int32} {H : Heap} {locs : List Loc} {ls : Array Slot} (hh : hw D dA base σ H) (hS : hs base s.heap H locs) (hl : lk ls 4 [(0, .inr (some t0)), (1, .inl v1), (2, .inl v2)]) (h : S_X4_fillControl σ t0 v1 v2 = some z) : W p l e R s m args below meth c H locs 0 0 (MQ below (qG D dA base none z) args s 0 0 (fun q => base ≤ q)) (F0 m 0 ls []) := by
  unfold S_X4_fillControl at h
  refine q_aload_n X dX4_fillControl_0 rfl hl 0 rfl ?_
  refine lv_bipush (v := (6 : Int32)) X.1 X.2.1 dX4_fillControl_1 (by decide) ?_
  obtain ⟨s3, e_s3, h⟩ := o_b h
  refine q_pI X hh hS fp_X4_13 (fun h => by cases h) rfl e_s3 dX4_fillControl_3 (fun H locs hh hS => ?_)
  refine lv_bipush (v := (8 : Int32)) X.1 X.2.1 dX4_fillControl_6 (by decide) ?_
  refine q_iload_n X dX4_fillControl_8 rfl hl 1 rfl ?_
  refine lv_imul X.1 X.2.1 dX4_fillControl_9 ?_
  refine q_iload_n X dX4_fillControl_10 rfl hl 2 rfl ?_
  refine lv_iadd X.1 X.2.1 dX4_fillControl_11 ?_
  refine q_istore_n (lv' := [(3, .inl (((8 : Int32) * v1) + v2)), (0, .inr (some t0)), (1, .inl v1), (2, .inl v2)]) X dX4_fillControl_12 rfl hl (by decide) rfl (fun ls hl => ?_)
  refine q_aload_n X dX4_fillControl_13 rfl hl 1 rfl ?_
  refine lv_bipush (v := (9 : Int32)) X.1 X.2.1 dX4_fillControl_14 (by decide) ?_
  refine q_iload_n X dX4_fillControl_16 rfl hl 0 rfl ?_
  refine q_ldc X ck_X4_17 dX4_fillControl_17 ?_
  refine q_iload_n X dX4_fillControl_19 rfl hl 0 rfl ?_
  refine lv_isub X.1 X.2.1 dX4_fillControl_20 ?_
  obtain ⟨b21, e_b21, h⟩ := o_b h
  obtain ⟨q21, e_q21, h⟩ := o_b h
  refine q_cV (As := [.int (9 : Int32), .int (((8 : Int32) * v1) + v2), .int ((43690 : Int32) - (((8 : Int32) * v1) + v2))]) X hh hS hl cf_X4_18 (cN := 4) rfl rfl e_b21 rfl (M_X4_fillHead l D dA base s3 b21 (9 : Int32) (((8 : Int32) * v1) + v2) ((43690 : Int32) - (((8 : Int32) * v1) + v2)) e_q21) ⟨Nat.le_trans (by decide) hR.1, Nat.le_trans (by decide) hR.2⟩ (cat8 [] (Nat.le_of_ble_eq_true rfl)) dX4_fillControl_21 ⟨Nat.zero_le _, Nat.zero_le _⟩ rfl rfl (fun H locs hh hS => ?_)
  cases h
  exact q_vret X hret hlk hh hS dX4_fillControl_24
set_option maxRecDepth 100000 in
theorem M_X4_fillControl (l : Launch) (D : va_G) (dA : Nat → ClassId) (base : Nat) (σ : hp) (t0 : Nat) (v1 : Int32) (v2 : Int32) {z : hp} (h : S_X4_fillControl σ t0 v1 v2 = some z) : mt l yX4_fillControl cX4_fillControl 4 (none) 1 25 D dA base σ [.ref t0, .int v1, .int v2] none z 0 0 := by
  refine Met.ofW (cc := cX4_fillControl) (maxL := 4) (ret := none) (by decide) rfl ?_
  intro p e s m args below meth c s₁ B hml hv
  obtain ⟨rfl, hh, hK⟩ := hv
  have X : cx p s m ([.ref t0, .int v1, .int v2] : List Value).toArray c cX4_fillControl RX4 4 D dA := ⟨B.exec, B.bytes, findClass_of_methodNamed B.named, hml, fun w hw => atoms_spec (ws := .code yX4_fillControl cX4_fillControl 4 (none) :: G) B.pre w (List.mem_cons_of_mem _ hw), hK⟩
  have hl := lk_entry [.inr (some t0), .inl v1, .inl v2] (n := 4) (Nat.le_of_ble_eq_true rfl)
  rw [lg_entry_eq]
  have hl : lk ((lg_sl ([.ref t0, .int v1, .int v2] : List Value) ++ List.replicate (4 - (lg_sl ([.ref t0, .int v1, .int v2] : List Value)).length) Slot.unset).toArray) 4 [(0, .inr (some t0)), (1, .inl v1), (2, .inl v2)] := hl
  generalize (lg_sl ([.ref t0, .int v1, .int v2] : List Value) ++ List.replicate (4 - (lg_sl ([.ref t0, .int v1, .int v2] : List Value)).length) Slot.unset).toArray = ls at hl ⊢
  exact K_X4_fillControl_0 X B.returns B.notSynchronized ⟨Nat.le_refl _, Nat.le_refl _⟩ hh va_S.rf hl h
