/-! Receivers, making, switches, the order of heaps, a method's entry. -/
abbrev FU : Nat := 1000
def o_rcv (σ : hp) (c : Nat) (r : Option Nat) : Option Nat := match r with
  | none => none
  | some b => if σ.1 b = some (.inl c) then some b else none
theorem o_rcv_s {σ : hp} {c b : Nat} {r : Option Nat} (h : o_rcv σ c r = some b) : r = some b ∧ σ.1 b = some (.inl c) := by
  cases r with
  | none => cases h
  | some a =>
    unfold o_rcv at h
    dsimp only at h
    split at h
    · cases h
      exact ⟨rfl, by assumption⟩
    · cases h
def o_nw (σ : hp) (c n : Nat) : Option (Nat × hp) := some (σ.2.2.2.1, hp_new σ (.inl c) n)
theorem cat8 (vs : List vk) (h : vs.length ≤ 8) : ((vs.map vv).map fun v => v.category).sum ≤ 8 := by
  have key : ∀ vs : List vk, ((vs.map vv).map fun v => v.category).sum = vs.length := by
    intro vs
    induction vs with
    | nil => rfl
    | cons a t ih =>
      rw [List.map_cons, List.map_cons, List.sum_cons, ih, vv_cat, List.length_cons]
      omega
  rw [key]
  exact h
def le4 (a b : hp) : Prop := a.2.2.2.1 ≤ b.2.2.2.1 ∧ a.2.2.2.2 ≤ b.2.2.2.2
def eq4 (a b : hp) : Prop := b.2.2.2 = a.2.2.2
theorem le4.rf (a : hp) : le4 a a := ⟨Nat.le_refl _, Nat.le_refl _⟩
theorem eq4.rf (a : hp) : eq4 a a := rfl
theorem le4.tr {a b c : hp} (h : le4 a b) (k : le4 b c) : le4 a c := ⟨Nat.le_trans h.1 k.1, Nat.le_trans h.2 k.2⟩
theorem eq4.tr {a b c : hp} (h : eq4 a b) (k : eq4 b c) : eq4 a c := Eq.trans k h
theorem eq4.le {a b : hp} (h : eq4 a b) : le4 a b := by unfold eq4 at h; unfold le4; rw [h]; exact ⟨Nat.le_refl _, Nat.le_refl _⟩
theorem e_pI {σ σ1 : hp} {c k : Nat} {r : Option Nat} {x : Int32} (h : o_pI σ c k r x = some σ1) : eq4 σ σ1 := by
  obtain ⟨a, -, -, rfl⟩ := o_pI_s h
  rfl
theorem e_pR {σ σ1 : hp} {c k : Nat} {r x : Option Nat} (h : o_pR σ c k r x = some σ1) : eq4 σ σ1 := by
  obtain ⟨a, -, -, rfl⟩ := o_pR_s h
  rfl
theorem e_stI {σ σ1 : hp} {t : Nat} {r : Option Nat} {i x : Int32} (h : o_stI σ t r i x = some σ1) : eq4 σ σ1 := by
  obtain ⟨a, n, -, -, -, rfl⟩ := o_stI_s h
  rfl
theorem e_stQ {σ σ1 : hp} {t c : Nat} {r x : Option Nat} {i : Int32} (h : o_stQ σ t c r i x = some σ1) : eq4 σ σ1 := by
  obtain ⟨a, n, v, -, -, -, -, -, rfl⟩ := o_stQ_s h
  rfl
theorem e_cpy {σ σ1 : hp} {t : Nat} {r r1 : Option Nat} {sp dp n : Int32} (h : o_cpy σ t r sp r1 dp n = some σ1) : eq4 σ σ1 := by
  obtain ⟨a, n0, b, n1, -, -, -, -, -, rfl⟩ := o_cpy_s h
  rfl
theorem l_na {σ : hp} {t : Nat} {n : Int32} {z : Option Nat × hp} (h : o_na σ t n = some z) : z.2.2.2.2.1 = σ.2.2.2.1 + 1 ∧ z.2.2.2.2.2 = σ.2.2.2.2 + n.toNatClampNeg := by
  obtain ⟨-, -, rfl⟩ := o_na_s h
  exact ⟨rfl, rfl⟩
theorem l_nw {σ : hp} {c n : Nat} {z : Nat × hp} (h : o_nw σ c n = some z) : z.2.2.2.2.1 = σ.2.2.2.1 + 1 ∧ z.2.2.2.2.2 = σ.2.2.2.2 + n := by
  cases h
  exact ⟨rfl, rfl⟩
section RW
variable {p : Program} {l : Launch} {e : Env} {R : Room} {s : State} {m : MethodId} {args : Array Value} {below : List Frame} {meth : Method} {c : Code} {H : Heap} {locs : List Loc} {cells slots : Nat} {Q : State → Prop}
variable {cc : ByteArray} {pc : Nat} {ls : Array Slot} {rest st st2 : List Value} {D : va_G} {dA : Nat → ClassId} {base nL : Nat} {σ σ1 : hp} {H0 : Heap} {own : String} {lv lv' : List (Nat × vk)}
variable {y : MethodName} {bytes : ByteArray} {maxL fr lo ix n mc ms : Nat} {ret : Option FieldType} {vo : Option Value}
theorem q_cV (X : cx p s m args c cc own nL D dA) (hh : hw D dA base σ H) (hS : hs base H0 H locs) (hls : lk ls nL lv) (cf : c_V own ix y bytes maxL ret n) {b cN : Nat} {w : vw_C} (hc : vwCl[cN]? = some w) (hw1 : w.1 = y.cls) {r : Option Nat} (hb : o_rcv σ cN r = some b) {As : List Value} (hn : As.length = n)
    (hM : mt l y bytes maxL ret fr lo D dA base σ (.ref b :: As) vo σ1 mc ms) (hR : fr + 1 ≤ R.frames ∧ 8 + (maxL + 11) + lo ≤ R.locals) (hr8 : (rest.map fun v => v.category).sum ≤ 8) (hdg : decode cc pc = .ok (.invokevirtual ix, 3)) (hf : cells + mc ≤ R.cells ∧ slots + ms ≤ R.slots) (hst : st = As.reverse ++ va_rf r :: rest) (hst2 : vo.toList ++ rest = st2)
    (kk : ∀ (H1 : Heap) (locs1 : List Loc), hw D dA base σ1 H1 → hs base H0 H1 locs1 → W p l e R s m args below meth c H1 locs1 (cells + mc) (slots + ms) Q (F0 m (pc + 3) ls st2)) : W p l e R s m args below meth c H locs cells slots Q (F0 m pc ls st) := by
  subst hst
  subst hst2
  obtain ⟨rfl, hb1⟩ := o_rcv_s hb
  exact q_callV X hh hS hls cf hc hw1 hb1 hn hM hR hr8 hdg hf kk
theorem q_cS (X : cx p s m args c cc own nL D dA) (hh : hw D dA base σ H) (hS : hs base H0 H locs) (hls : lk ls nL lv) (cf : c_S own ix y bytes maxL ret n) {As : List Value} (hn : As.length = n)
    (hM : mt l y bytes maxL ret fr lo D dA base σ As vo σ1 mc ms) (hR : fr + 1 ≤ R.frames ∧ 8 + (maxL + 11) + lo ≤ R.locals) (hr8 : (rest.map fun v => v.category).sum ≤ 8) (hdg : decode cc pc = .ok (.invokestatic ix, 3)) (hf : cells + mc ≤ R.cells ∧ slots + ms ≤ R.slots) (hst : st = As.reverse ++ rest) (hst2 : vo.toList ++ rest = st2)
    (kk : ∀ (H1 : Heap) (locs1 : List Loc), hw D dA base σ1 H1 → hs base H0 H1 locs1 → W p l e R s m args below meth c H1 locs1 (cells + mc) (slots + ms) Q (F0 m (pc + 3) ls st2)) : W p l e R s m args below meth c H locs cells slots Q (F0 m pc ls st) := by
  subst hst
  subst hst2
  exact q_callS X hh hS hls cf hn hM hR hr8 hdg hf kk
theorem q_cI (X : cx p s m args c cc own nL D dA) (hh : hw D dA base σ H) (hS : hs base H0 H locs) (hls : lk ls nL lv) (cf : c_I own ix y bytes maxL n) {b cN : Nat} {r : Option Nat} (hb : o_rcv σ cN r = some b) {As : List Value} (hn : As.length = n)
    (hM : mt l y bytes maxL none fr lo D dA base σ (.ref b :: As) none σ1 mc ms) (hR : fr + 1 ≤ R.frames ∧ 8 + (maxL + 11) + lo ≤ R.locals) (hr8 : (rest.map fun v => v.category).sum ≤ 8) (hdg : decode cc pc = .ok (.invokespecial ix, 3)) (hf : cells + mc ≤ R.cells ∧ slots + ms ≤ R.slots) (hst : st = As.reverse ++ va_rf r :: rest)
    (kk : ∀ (H1 : Heap) (locs1 : List Loc), hw D dA base σ1 H1 → hs base H0 H1 locs1 → W p l e R s m args below meth c H1 locs1 (cells + mc) (slots + ms) Q (F0 m (pc + 3) ls rest)) : W p l e R s m args below meth c H locs cells slots Q (F0 m pc ls st) := by
  subst hst
  obtain ⟨rfl, hb1⟩ := o_rcv_s hb
  exact q_callI X hh hS hls cf hn hM hR hr8 hdg hf kk
theorem q_cN (X : cx p s m args c cc own nL D dA) (hh : hw D dA base σ H) (hS : hs base H0 H locs) (hls : lk ls nL lv) (cf : c_N own ix y bytes maxL n) {b cN : Nat} {r : Option Nat} (hb : o_rcv σ cN r = some b) {As : List Value} (hn : As.length = n)
    (hM : mt l y bytes maxL none fr lo D dA base σ (.ref b :: As) none σ1 mc ms) (hR : fr + 1 ≤ R.frames ∧ 8 + (maxL + 11) + lo ≤ R.locals) (hr8 : (rest.map fun v => v.category).sum ≤ 8) (hdg : decode cc pc = .ok (.invokespecial ix, 3)) (hf : cells + mc ≤ R.cells ∧ slots + ms ≤ R.slots) (hst : st = As.reverse ++ va_rf r :: rest)
    (kk : ∀ (H1 : Heap) (locs1 : List Loc), hw D dA base σ1 H1 → hs base H0 H1 locs1 → W p l e R s m args below meth c H1 locs1 (cells + mc) (slots + ms) Q (F0 m (pc + 3) ls rest)) : W p l e R s m args below meth c H locs cells slots Q (F0 m pc ls st) := by
  subst hst
  obtain ⟨rfl, hb1⟩ := o_rcv_s hb
  exact q_callN X hh hS hls cf hn hM hR hr8 hdg hf kk
theorem q_nw (X : cx p s m args c cc own nL D dA) (hh : hw D dA base σ H) (hS : hs base H0 H locs) {cN : Nat} (hF : f_N own ix cN n) {z : Nat × hp} (h : o_nw σ cN n = some z) (hdg : decode cc pc = .ok (.new ix, 3)) (hcells : cells + 1 ≤ R.cells) (hslots : slots + n ≤ R.slots)
    (kk : ∀ (H1 : Heap), hw D dA base z.2 H1 → hs base H0 H1 locs → W p l e R s m args below meth c H1 locs (cells + 1) (slots + n) Q (F0 m (pc + 3) ls (va_rf (some z.1) :: rest))) : W p l e R s m args below meth c H locs cells slots Q (F0 m pc ls rest) := by
  cases h
  exact q_new X hh hS hF rfl hdg hcells hslots kk
theorem q_tin (X : cx p s m args c cc own nL D dA) {dflt lo hi : Int} {offs : Array Int} {len : Nat} {x v : Int32} {off : Int} {tgt : Nat} (hdg : decode cc pc = .ok (.tableswitch dflt lo hi offs, len)) (hx : x = v) (h1 : ¬ v.toInt < lo) (h2 : ¬ hi < v.toInt) (ho : offs[(v.toInt - lo).toNat]? = some off) (ht : (pc : Int) + off = (tgt : Int))
    (k : W p l e R s m args below meth c H locs cells slots Q (F0 m tgt ls rest)) : W p l e R s m args below meth c H locs cells slots Q (F0 m pc ls (.int x :: rest)) := by
  subst hx
  exact lv_tableIn X.1 X.2.1 hdg h1 h2 ho ht k
theorem q_lin (X : cx p s m args c cc own nL D dA) {dflt : Int} {ps : Array (Int × Int)} {len : Nat} {x v : Int32} {off : Int} {tgt : Nat} (hdg : decode cc pc = .ok (.lookupswitch dflt ps, len)) (hx : x = v) (hp : (ps.toList.zip (ps.toList.drop 1)).all (fun (a, next) => a.1 < next.1) = true) (ho : Op.lookupswitch.offset ps.toList dflt v.toInt = off) (ht : (pc : Int) + off = (tgt : Int))
    (k : W p l e R s m args below meth c H locs cells slots Q (F0 m tgt ls rest)) : W p l e R s m args below meth c H locs cells slots Q (F0 m pc ls (.int x :: rest)) := by
  subst hx
  exact lv_lookup X.1 X.2.1 hdg hp ho ht k
theorem q_nul (X : cx p s m args c cc own nL D dA) (hdg : decode cc pc = .ok (.aconst_null, 1)) (k : W p l e R s m args below meth c H locs cells slots Q (F0 m (pc + 1) ls (va_rf none :: rest))) : W p l e R s m args below meth c H locs cells slots Q (F0 m pc ls rest) := lv_null X.1 X.2.1 hdg k
end RW
theorem lk_entry (vs : List vk) {n : Nat} (h : vs.length ≤ n) : lk ((lg_sl (vs.map vv) ++ List.replicate (n - (lg_sl (vs.map vv)).length) Slot.unset).toArray) n (vs.zipIdx.map fun q => (q.2, q.1)) := by
  have e1 : ∀ vs : List vk, (lg_sl (vs.map vv)).length = vs.length := by
    intro vs
    induction vs with
    | nil => rfl
    | cons a t ih =>
      unfold lg_sl at ih ⊢
      rw [List.map_cons, List.flatMap_cons, if_neg (by rw [vv_cat]; decide), List.length_append, ih]
      simp
      omega
  have e2 : ∀ (vs : List vk) (i : Nat), lv_args i (vs.map vv) = ((vs.zipIdx i).map fun q => (q.2, q.1)).map lkm := by
    intro vs
    induction vs with
    | nil => intro i; rfl
    | cons a t ih =>
      intro i
      rw [List.map_cons, List.zipIdx_cons, List.map_cons, List.map_cons, ← ih (i + 1)]
      show (i, vv a) :: lv_args (if (vv a).category = 2 then i + 2 else i + 1) (t.map vv) = _
      rw [if_neg (by rw [vv_cat]; decide)]
      rfl
  have h1 := lv_entry (vs.map vv) (n := n) (by rw [e1]; exact h)
  rw [e2] at h1
  exact h1
theorem m_na {σ : hp} {t : Nat} {n : Int32} {z : Option Nat × hp} (h : o_na σ t n = some z) : le4 σ z.2 := by
  have := l_na h
  unfold le4
  omega
theorem m_nw {σ : hp} {c n : Nat} {z : Nat × hp} (h : o_nw σ c n = some z) : le4 σ z.2 := by
  have := l_nw h
  unfold le4
  omega
