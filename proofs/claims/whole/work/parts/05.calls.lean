/-! Contracts, calls, ends. -/
def qG (D : va_G) (dA : Nat → ClassId) (base : Nat) (vo : Option Value) (σ' : hp) : Array Value → State → Outcome → State → Prop := fun _ st o t => o = .returned vo ∧ hw D dA base σ' t.heap ∧ va_F (fun q => base ≤ q) st t
def pG (D : va_G) (dA : Nat → ClassId) (base : Nat) (σ : hp) (as : List Value) : Array Value → State → Prop := va_Pc as (fun U => hw D dA base σ U.heap ∧ KK D dA U)
/-- a method's contract: from the heap σ with these arguments it answers vo and leaves the heap σ' -/
def mt (l : Launch) (y : MethodName) (cc : ByteArray) (maxL : Nat) (ret : Option FieldType) (fr lo : Nat) (D : va_G) (dA : Nat → ClassId) (base : Nat) (σ : hp) (as : List Value) (vo : Option Value) (σ' : hp) (mc ms : Nat) : Prop :=
  Met l y (.code y cc maxL ret :: G) { frames := fr, cells := mc, slots := ms, locals := lo } (pG D dA base σ as) (qG D dA base vo σ') mc ms (fun q => base ≤ q)
theorem pG_blind {D : va_G} {dA : Nat → ClassId} {base : Nat} {σ : hp} {as : List Value} : FrameBlind (pG D dA base σ as) := fun a U g mk h => ⟨h.1, h.2.1, h.2.2.calling⟩
def c_V (own : String) (ix : Nat) (y : MethodName) (bytes : ByteArray) (maxL : Nat) (ret : Option FieldType) (n : Nat) : Prop :=
  Cond.methodLink own ix y ∈ G ∧ Cond.instanceMethod y ∈ G ∧ Cond.selects y.cls y y ∈ G ∧ Cond.initialized y.cls ∈ G ∧ Cond.code y bytes maxL ret ∈ G ∧ y.cls ≠ "java/lang/invoke/MethodHandle" ∧ y.cls ≠ "java/lang/invoke/VarHandle" ∧ (parseMethodDescriptor y.desc).map (fun d => d.parameters.length) = some n
def c_S (own : String) (ix : Nat) (y : MethodName) (bytes : ByteArray) (maxL : Nat) (ret : Option FieldType) (n : Nat) : Prop :=
  Cond.methodLink own ix y ∈ G ∧ Cond.static y ∈ G ∧ Cond.initialized y.cls ∈ G ∧ Cond.code y bytes maxL ret ∈ G ∧ y.cls ≠ "java/lang/invoke/MethodHandle" ∧ y.cls ≠ "java/lang/invoke/VarHandle" ∧ (parseMethodDescriptor y.desc).map (fun d => d.parameters.length) = some n
def c_I (own : String) (ix : Nat) (y : MethodName) (bytes : ByteArray) (maxL : Nat) (n : Nat) : Prop :=
  Cond.methodLink own ix y ∈ G ∧ y.name = "<init>" ∧ Cond.instanceMethod y ∈ G ∧ Cond.initialized y.cls ∈ G ∧ Cond.code y bytes maxL none ∈ G ∧ y.cls ≠ "java/lang/invoke/MethodHandle" ∧ y.cls ≠ "java/lang/invoke/VarHandle" ∧ (parseMethodDescriptor y.desc).map (fun d => d.parameters.length) = some n
def c_N (own : String) (ix : Nat) (y : MethodName) (bytes : ByteArray) (maxL : Nat) (n : Nat) : Prop :=
  (∀ U, NW U → va_Nw (.methodLinkNest own ix y "SpoolLink") U) ∧ y.name = "<init>" ∧ Cond.instanceMethod y ∈ G ∧ Cond.initialized y.cls ∈ G ∧ Cond.code y bytes maxL none ∈ G ∧ y.cls ≠ "java/lang/invoke/MethodHandle" ∧ y.cls ≠ "java/lang/invoke/VarHandle" ∧ (parseMethodDescriptor y.desc).map (fun d => d.parameters.length) = some n
section RW
variable {p : Program} {l : Launch} {e : Env} {R : Room} {s : State} {m : MethodId} {args : Array Value} {below : List Frame} {meth : Method} {c : Code} {H : Heap} {locs : List Loc} {cells slots : Nat} {Q : State → Prop}
variable {cc : ByteArray} {pc : Nat} {ls : Array Slot} {rest : List Value} {D : va_G} {dA : Nat → ClassId} {base nL : Nat} {σ σ1 : hp} {H0 : Heap} {own : String} {lv lv' : List (Nat × vk)}
variable {y : MethodName} {bytes : ByteArray} {maxL fr lo ix n mc ms : Nat} {ret : Option FieldType} {vo : Option Value}
theorem q_run {g : List Value} {a : Array Value} (hr : va_Run p l e R s m args below meth c H locs cells slots mc ms (F0 m pc ls g) rest (qG D dA base vo σ1 a) (fun q => base ≤ q)) (hS : hs base H0 H locs)
    (kk : ∀ (H1 : Heap) (locs1 : List Loc), hw D dA base σ1 H1 → hs base H0 H1 locs1 → W p l e R s m args below meth c H1 locs1 (cells + mc) (slots + ms) Q (F0 m (pc + 3) ls (vo.toList ++ rest))) : W p l e R s m args below meth c H locs cells slots Q (F0 m pc ls g) := by
  intro T hT X
  obtain ⟨v, st₀, t, T', L, h0, X', hL, e1, e2, ⟨hv, hp, hz, hk⟩, st⟩ := hr T hT X
  cases hv
  rw [h0] at hz hk
  obtain ⟨t2, a1, b1⟩ := kk T'.heap (locs ++ L) (by rw [e1]; exact hp)
    ⟨Nat.le_trans hS.1 (by rw [e1]; exact hz), fun q h1 h2 => by rw [e1, hk q (Nat.lt_of_lt_of_le h1 hS.1) h2]; exact hS.2.1 q h1 h2, fun q hq => by
      rcases List.mem_append.mp hq with h | h
      · exact hS.2.2 q h
      · exact hL q h⟩ T' rfl X'
  exact ⟨t2, st t2 a1, b1⟩
theorem q_callB (X : cx p s m args c cc own nL D dA) {rm : Room} (hrc : rm.cells = mc) (hrs : rm.slots = ms) (h1 : Cond.methodLink own ix y ∈ G) (h2 : Cond.initialized y.cls ∈ G) (h3 : Cond.code y bytes maxL ret ∈ G) (hd : y.cls ≠ "java/lang/invoke/MethodHandle" ∧ y.cls ≠ "java/lang/invoke/VarHandle" ∧ (parseMethodDescriptor y.desc).map (fun d => d.parameters.length) = some n) (hR : rm.frames + 1 ≤ R.frames ∧ 8 + (maxL + 11) + rm.locals ≤ R.locals) :
    CallB R s args own ix y bytes maxL ret (.code y bytes maxL ret :: G) rm mc ms n :=
  callB_of n X.2.2.2.2.1 (gG _ h3 G (fun _ h => h)) rfl hrc hrs (X.2.2.2.2.1 _ h2) (X.2.2.2.2.1 _ h1) hd hR
theorem q_callV (X : cx p s m args c cc own nL D dA) (hh : hw D dA base σ H) (hS : hs base H0 H locs) (hls : lk ls nL lv) (cf : c_V own ix y bytes maxL ret n) {b cN : Nat} {w : vw_C} (hc : vwCl[cN]? = some w) (hw1 : w.1 = y.cls) (hb : σ.1 b = some (.inl cN)) {As : List Value} (hn : As.length = n)
    (hM : mt l y bytes maxL ret fr lo D dA base σ (.ref b :: As) vo σ1 mc ms) (hR : fr + 1 ≤ R.frames ∧ 8 + (maxL + 11) + lo ≤ R.locals) (hr8 : (rest.map fun v => v.category).sum ≤ 8) (hdg : decode cc pc = .ok (.invokevirtual ix, 3)) (hf : cells + mc ≤ R.cells ∧ slots + ms ≤ R.slots)
    (kk : ∀ (H1 : Heap) (locs1 : List Loc), hw D dA base σ1 H1 → hs base H0 H1 locs1 → W p l e R s m args below meth c H1 locs1 (cells + mc) (slots + ms) Q (F0 m (pc + 3) ls (vo.toList ++ rest))) : W p l e R s m args below meth c H locs cells slots Q (F0 m pc ls (As.reverse ++ va_rf (some b) :: rest)) := by
  obtain ⟨h1, h2, h3, h4, h5, hd⟩ := cf
  obtain ⟨r, g1, cell, q1, q2, q3, -⟩ := (hh.2.2.2 b).obj hb
  have hcls : s.vm.findClass y.cls = some cell.cls := by rw [q2, ← hw1]; exact (X.2.2.2.2.2.1.1 cN w hc).2.1
  refine q_run (va_runV (As := As) (rest := rest) ⟨X.1, X.2.1, X.2.2.2.1, X.2.2.1, X.2.2.2.2.1⟩ hM ⟨q_callB X rfl rfl h1 h4 h5 hd hR, X.2.2.2.2.1 _ h2, X.2.2.2.2.1 _ h3⟩ ⟨pG_blind, ⟨cell, q1, by rw [q3]; rfl, hcls⟩, fun U hU hW => ⟨rfl, by rw [hU]; exact hh, X.2.2.2.2.2.warm hW⟩⟩ rfl hn hls.1 rfl (lv_room hr8) hdg hf) hS kk
theorem q_callS (X : cx p s m args c cc own nL D dA) (hh : hw D dA base σ H) (hS : hs base H0 H locs) (hls : lk ls nL lv) (cf : c_S own ix y bytes maxL ret n) {As : List Value} (hn : As.length = n)
    (hM : mt l y bytes maxL ret fr lo D dA base σ As vo σ1 mc ms) (hR : fr + 1 ≤ R.frames ∧ 8 + (maxL + 11) + lo ≤ R.locals) (hr8 : (rest.map fun v => v.category).sum ≤ 8) (hdg : decode cc pc = .ok (.invokestatic ix, 3)) (hf : cells + mc ≤ R.cells ∧ slots + ms ≤ R.slots)
    (kk : ∀ (H1 : Heap) (locs1 : List Loc), hw D dA base σ1 H1 → hs base H0 H1 locs1 → W p l e R s m args below meth c H1 locs1 (cells + mc) (slots + ms) Q (F0 m (pc + 3) ls (vo.toList ++ rest))) : W p l e R s m args below meth c H locs cells slots Q (F0 m pc ls (As.reverse ++ rest)) := by
  obtain ⟨h1, h2, h4, h5, hd⟩ := cf
  refine q_run (va_runS (As := As) (rest := rest) ⟨X.1, X.2.1, X.2.2.2.1, X.2.2.1, X.2.2.2.2.1⟩ hM ⟨q_callB X rfl rfl h1 h4 h5 hd hR, X.2.2.2.2.1 _ h2⟩ ⟨pG_blind, fun U hU hW => ⟨rfl, by rw [hU]; exact hh, X.2.2.2.2.2.warm hW⟩⟩ rfl hn hls.1 rfl (lv_room hr8) hdg hf) hS kk
theorem q_callI (X : cx p s m args c cc own nL D dA) (hh : hw D dA base σ H) (hS : hs base H0 H locs) (hls : lk ls nL lv) (cf : c_I own ix y bytes maxL n) {b : Nat} {As : List Value} (hn : As.length = n)
    (hM : mt l y bytes maxL none fr lo D dA base σ (.ref b :: As) none σ1 mc ms) (hR : fr + 1 ≤ R.frames ∧ 8 + (maxL + 11) + lo ≤ R.locals) (hr8 : (rest.map fun v => v.category).sum ≤ 8) (hdg : decode cc pc = .ok (.invokespecial ix, 3)) (hf : cells + mc ≤ R.cells ∧ slots + ms ≤ R.slots)
    (kk : ∀ (H1 : Heap) (locs1 : List Loc), hw D dA base σ1 H1 → hs base H0 H1 locs1 → W p l e R s m args below meth c H1 locs1 (cells + mc) (slots + ms) Q (F0 m (pc + 3) ls rest)) : W p l e R s m args below meth c H locs cells slots Q (F0 m pc ls (As.reverse ++ va_rf (some b) :: rest)) := by
  obtain ⟨h1, h0, h2, h4, h5, hd⟩ := cf
  refine q_run (vo := none) (va_runI (As := As) (rest := rest) ⟨X.1, X.2.1, X.2.2.2.1, X.2.2.1, X.2.2.2.2.1⟩ hM ⟨q_callB X rfl rfl h1 h4 h5 hd hR, h0, X.2.2.2.2.1 _ h2⟩ ⟨pG_blind, fun U hU hW => ⟨rfl, by rw [hU]; exact hh, X.2.2.2.2.2.warm hW⟩⟩ rfl hn hls.1 rfl (lv_room hr8) hdg hf) hS kk
theorem q_callN (X : cx p s m args c cc own nL D dA) (hh : hw D dA base σ H) (hS : hs base H0 H locs) (hls : lk ls nL lv) (cf : c_N own ix y bytes maxL n) {b : Nat} {As : List Value} (hn : As.length = n)
    (hM : mt l y bytes maxL none fr lo D dA base σ (.ref b :: As) none σ1 mc ms) (hR : fr + 1 ≤ R.frames ∧ 8 + (maxL + 11) + lo ≤ R.locals) (hr8 : (rest.map fun v => v.category).sum ≤ 8) (hdg : decode cc pc = .ok (.invokespecial ix, 3)) (hf : cells + mc ≤ R.cells ∧ slots + ms ≤ R.slots)
    (kk : ∀ (H1 : Heap) (locs1 : List Loc), hw D dA base σ1 H1 → hs base H0 H1 locs1 → W p l e R s m args below meth c H1 locs1 (cells + mc) (slots + ms) Q (F0 m (pc + 3) ls rest)) : W p l e R s m args below meth c H locs cells slots Q (F0 m pc ls (As.reverse ++ va_rf (some b) :: rest)) := by
  obtain ⟨h1, h0, h2, h4, h5, hd⟩ := cf
  refine q_run (vo := none) (va_runIN (host := "SpoolLink") (As := As) (rest := rest) ⟨X.1, X.2.1, X.2.2.2.1, X.2.2.1, X.2.2.2.2.1⟩ hM ⟨va_cnB n X.2.2.2.2.1 (gG _ h5 G (fun _ h => h)) rfl rfl rfl (h1 s X.2.2.2.2.2.2.2) (X.2.2.2.2.1 _ h4) hd hR, h0, X.2.2.2.2.1 _ h2⟩ ⟨pG_blind, fun U hU hW => ⟨rfl, by rw [hU]; exact hh, X.2.2.2.2.2.warm hW⟩⟩ rfl hn hls.1 rfl (lv_room hr8) hdg hf) hS kk
-- ends
theorem q_end {vo : Option Value} (hh : hw D dA base σ H) (hS : hs base s.heap H locs) (t : State) (ht : t.heap = H) : qG D dA base vo σ args s (.returned vo) t := ⟨rfl, by rw [ht]; exact hh, hS.F ht⟩
theorem q_iret (X : cx p s m args c cc own nL D dA) (hr : meth.sig.returnType = some .int) (hlk : meth.locks = false) (hh : hw D dA base σ H) (hS : hs base s.heap H locs) {v : Int32} (hdg : decode cc pc = .ok (.ireturn, 1)) : W p l e R s m args below meth c H locs cells slots (MQ below (qG D dA base (some (.int v)) σ) args s cells slots (fun q => base ≤ q)) (F0 m pc ls [.int v]) :=
  W.iret X.1 X.2.1 hr (fun t ht _ => q_end hh hS t ht) hS.2.2 hdg hlk
theorem q_zret (X : cx p s m args c cc own nL D dA) (hr : meth.sig.returnType = some .boolean) (hlk : meth.locks = false) (hh : hw D dA base σ H) (hS : hs base s.heap H locs) {x v : Int32} (hz : o_z x = some v) (hdg : decode cc pc = .ok (.ireturn, 1)) : W p l e R s m args below meth c H locs cells slots (MQ below (qG D dA base (some (.int v)) σ) args s cells slots (fun q => base ≤ q)) (F0 m pc ls [.int x]) := by
  obtain ⟨rfl, hz⟩ := o_z_s hz
  exact W.zret X.1 X.2.1 hr (by rcases hz with rfl | rfl <;> rfl) (fun t ht _ => q_end hh hS t ht) hS.2.2 hdg hlk
theorem q_aret (X : cx p s m args c cc own nL D dA) {C : String} (hr : meth.sig.returnType = some (.object C)) (hlk : meth.locks = false) (hh : hw D dA base σ H) (hS : hs base s.heap H locs) {v : Option Nat} (hdg : decode cc pc = .ok (.areturn, 1)) : W p l e R s m args below meth c H locs cells slots (MQ below (qG D dA base (some (va_rf v)) σ) args s cells slots (fun q => base ≤ q)) (F0 m pc ls [va_rf v]) :=
  W.aret X.1 X.2.1 hr (Or.inl ⟨C, rfl⟩) (by cases v with | none => exact Or.inl rfl | some a => exact Or.inr ⟨a, rfl⟩) (fun t ht _ => q_end hh hS t ht) hS.2.2 hdg hlk
theorem q_vret (X : cx p s m args c cc own nL D dA) (hr : meth.sig.returnType = none) (hlk : meth.locks = false) (hh : hw D dA base σ H) (hS : hs base s.heap H locs) (hdg : decode cc pc = .ok (.return_, 1)) : W p l e R s m args below meth c H locs cells slots (MQ below (qG D dA base none σ) args s cells slots (fun q => base ≤ q)) (F0 m pc ls []) :=
  W.vret X.1 X.2.1 hr (fun t ht _ => q_end hh hS t ht) hS.2.2 hdg hlk
-- the JDK's
theorem q_objInit (X : cx p s m args c cc own nL D dA) (hls : lk ls nL lv) (h1 : Cond.methodLink own ix objectInit ∈ G) (h2 : Cond.instanceMethod objectInit ∈ G) (h3 : Cond.code objectInit ⟨#[0xb1]⟩ 1 none ∈ G) {b : Nat} (hdg : decode cc pc = .ok (.invokespecial ix, 3)) (hR : 1 ≤ R.frames ∧ 20 ≤ R.locals) (hr8 : (rest.map fun v => v.category).sum ≤ 8)
    (kk : W p l e R s m args below meth c H locs cells slots Q (F0 m (pc + 3) ls rest)) : W p l e R s m args below meth c H locs cells slots Q (F0 m pc ls (va_rf (some b) :: rest)) := by
  refine W.objInit X.1 X.2.1 X.2.2.1 (X.2.2.2.2.1 _ h1) (X.2.2.2.2.1 _ h2) (X.2.2.2.2.1 _ h3) rfl (by rw [X.2.2.2.1]; exact hls.1) rfl hdg hR.1 ?_ kk
  show 2 * 0 + _ + 12 ≤ _
  omega
theorem q_ldc (X : cx p s m args c cc own nL D dA) {v : Int32} (h : Cond.constant own ix v ∈ G) (hdg : decode cc pc = .ok (.ldc ix, 2)) (kk : W p l e R s m args below meth c H locs cells slots Q (F0 m (pc + 2) ls (.int v :: rest))) : W p l e R s m args below meth c H locs cells slots Q (F0 m pc ls rest) := lv_ldc X.1 X.2.1 X.2.2.1 (X.2.2.2.2.1 _ h) hdg kk
theorem q_min (X : cx p s m args c cc own nL D dA) (hls : lk ls nL lv) (h1 : Cond.methodLink own ix Lib.Math.min.name ∈ G) (h2 : Cond.static Lib.Math.min.name ∈ G) (h3 : Cond.initialized "java/lang/Math" ∈ G) (h4 : Cond.code Lib.Math.min.name Lib.Math.min.code 2 (some .int) ∈ G) (hR : 1 ≤ R.frames ∧ 21 ≤ R.locals) (hr8 : (rest.map fun v => v.category).sum ≤ 8) (hc : cells ≤ R.cells) (hs : slots ≤ R.slots) {x y : Int32} (hdg : decode cc pc = .ok (.invokestatic ix, 3))
    (kk : W p l e R s m args below meth c H locs cells slots Q (F0 m (pc + 3) ls (.int (if y < x then y else x) :: rest))) : W p l e R s m args below meth c H locs cells slots Q (F0 m pc ls (.int y :: .int x :: rest)) :=
  va_mmin X.1 X.2.1 (X.2.2.2.1.trans hls.1.symm) X.2.2.1 (X.2.2.2.2.1 _ h1) (X.2.2.2.2.1 _ h2) (X.2.2.2.2.1 _ h3) (X.2.2.2.2.1 _ h4) hR.1 (by omega) hc hs hdg kk
end RW
