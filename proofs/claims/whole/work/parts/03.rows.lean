/-! A row an instruction, over the heap as functions. -/
def rkX (c k : Nat) : Bool := (([[0,3], [0], [1], [0], [0], [1,2,3,4], [0], [0,1], [0,1,2], [0,1,2,3,4,5,6,7,8,9,10,12,13,14,15,17,18,19,20,21,22,23,24,25,26,27,28,29,30,31,32,33,34,35,36]] : List (List Nat)).getD c []).contains k
abbrev TY (dA : Nat → ClassId) : List (ClassId × FieldType) := [(dA 0, .int), (dA 1, .boolean), (dA 2, .object "SpoolLink$Wire"), (dA 3, .object "SpoolLink$Packet"), (dA 4, .object "SpoolLink$Site"), (dA 5, .object "SpoolLink$Job"), (dA 6, .object "SpoolLink$Message")]
def aoL : List String := ["SpoolLink$Wire", "SpoolLink$Packet", "SpoolLink$Site", "SpoolLink$Job", "SpoolLink$Message"]
abbrev nw0 : Cond := .methodLinkNest "SpoolLink$Site" 11 yX0_init "SpoolLink"
abbrev nw1 : Cond := .methodLinkNest "SpoolLink$Site" 27 yX1_init "SpoolLink"
abbrev nw2 : Cond := .methodLinkNest "SpoolLink$Window" 28 yX3_init "SpoolLink"
abbrev nw3 : Cond := .methodLinkNest "SpoolLink$Wire" 9 yX4_init "SpoolLink"
abbrev nw4 : Cond := .fieldLinkNest "SpoolLink$Site" 178 "SpoolLink$Intake" "taking" "Z" "SpoolLink"
def NW (U : State) : Prop := va_Nw nw0 U ∧ va_Nw nw1 U ∧ va_Nw nw2 U ∧ va_Nw nw3 U ∧ va_Nw nw4 U
def KK (D : va_G) (dA : Nat → ClassId) (U : State) : Prop := va_K D vwCl (TY dA) U ∧ (∀ C ∈ aoL, va_AO C U) ∧ NW U
theorem KK.warm {D : va_G} {dA : Nat → ClassId} {s U : State} (hW : s.WarmedH U.vm) (h : KK D dA s) : KK D dA U :=
  ⟨h.1.moved hW.alike, fun C hC => (h.2.1 C hC).moved hW.alike, h.2.2.1.warmM hW, h.2.2.2.1.warmM hW, h.2.2.2.2.1.warmM hW, h.2.2.2.2.2.1.warmM hW, h.2.2.2.2.2.2.warmF hW⟩
theorem KK.calling {D : va_G} {dA : Nat → ClassId} {U : State} {g : JFrame} {mk : MethodId} {a : Array Value} (h : KK D dA U) : KK D dA (U.calling g mk a) :=
  ⟨va_K.moved (u := U) (U := U.calling g mk a) (Vm.Alike.refl U.vm) h.1, fun C hC => va_AO.moved (u := U) (U := U.calling g mk a) (Vm.Alike.refl U.vm) (h.2.1 C hC), va_Nw.same rfl (u := U) rfl h.2.2.1, va_Nw.same rfl (u := U) rfl h.2.2.2.1, va_Nw.same rfl (u := U) rfl h.2.2.2.2.1, va_Nw.same rfl (u := U) rfl h.2.2.2.2.2.1, va_Nw.same rfl (u := U) rfl h.2.2.2.2.2.2⟩
abbrev hw (D : va_G) (dA : Nat → ClassId) (base : Nat) (σ : hp) (H : Heap) : Prop := hp_w D dA vwCl rkX base σ H
abbrev hs (base : Nat) (H0 H : Heap) (locs : List Loc) : Prop := va_S (fun q => base ≤ q) H0 H locs
/-- what is fixed in a method's body -/
def cx (p : Program) (s : State) (m : MethodId) (args : Array Value) (c : Code) (cc : ByteArray) (own : String) (nL : Nat) (D : va_G) (dA : Nat → ClassId) : Prop :=
  p.tables.exec = Jvm.exec ∧ c.code = cc ∧ s.vm.findClass own = some m.cls ∧ c.maxLocals = nL ∧ (∀ w ∈ G, w.before args s = true) ∧ KK D dA s
-- locals
abbrev vk : Type := Int32 ⊕ Option Nat
def vv (x : vk) : Value := match x with
  | .inl i => .int i
  | .inr r => va_rf r
theorem vv_cat (x : vk) : (vv x).category = 1 := by
  cases x with
  | inl i => rfl
  | inr r => cases r <;> rfl
def lkm (q : Nat × vk) : Nat × Value := (q.1, vv q.2)
def lk (ls : Array Slot) (n : Nat) (l : List (Nat × vk)) : Prop := lv_has ls n (l.map lkm)
theorem lk_at {ls : Array Slot} {n : Nat} {l : List (Nat × vk)} (h : lk ls n l) (k : Nat) {i : Nat} {x : vk} (hk : l[k]? = some (i, x)) : ls[i]? = some (.val (vv x)) := lv_at h k (by rw [List.getElem?_map, hk]; rfl)
theorem lk_sub {ls : Array Slot} {n : Nat} {l l' : List (Nat × vk)} (h : lk ls n l) (ks : List Nat) (hl : ks.filterMap (fun k => l[k]?) = l') : lk ls n l' := by
  refine ⟨h.1, h.2.1, fun q hq => ?_⟩
  obtain ⟨q0, h0, rfl⟩ := List.mem_map.mp hq
  rw [← hl] at h0
  obtain ⟨k, -, hk⟩ := List.mem_filterMap.mp h0
  exact lk_at h k hk
theorem lk_put {ls : Array Slot} {n i : Nat} {x : vk} {l l' : List (Nat × vk)} (h : lv_has ls n ((i, vv x) :: (l.map lkm).filter (fun q => !(q.1 == i) && !(q.1 + 1 == i && q.2.category == 2)))) (hl : (i, x) :: l.filter (fun q => !(q.1 == i)) = l') : lk ls n l' := by
  subst hl
  unfold lk
  rw [List.map_cons, show (l.filter (fun q => !(q.1 == i))).map lkm = (l.map lkm).filter (fun q => !(q.1 == i) && !(q.1 + 1 == i && q.2.category == 2)) from ?_]
  · exact h
  · rw [List.filter_map]
    congr 1
    apply List.filter_congr
    intro q _
    simp [lkm, vv_cat]
section RW
variable {p : Program} {l : Launch} {e : Env} {R : Room} {s : State} {m : MethodId} {args : Array Value} {below : List Frame} {meth : Method} {c : Code} {H : Heap} {locs : List Loc} {cells slots : Nat} {Q : State → Prop}
variable {cc : ByteArray} {pc : Nat} {ls : Array Slot} {rest : List Value} {D : va_G} {dA : Nat → ClassId} {base nL : Nat} {σ σ1 : hp} {H0 : Heap} {own : String} {lv lv' : List (Nat × vk)}
theorem q_iload_n (X : cx p s m args c cc own nL D dA) {k : Fin 4} {i : Nat} {x : Int32} (hdg : decode cc pc = .ok (.iload_n k, 1)) (hi : (k : Nat) = i) (h : lk ls nL lv) (j : Nat) (hj : lv[j]? = some (i, .inl x))
    (kk : W p l e R s m args below meth c H locs cells slots Q (F0 m (pc + 1) ls (.int x :: rest))) : W p l e R s m args below meth c H locs cells slots Q (F0 m pc ls rest) := lv_iload_n X.1 X.2.1 hdg hi (lk_at h j hj) kk
theorem q_iload (X : cx p s m args c cc own nL D dA) {i : Nat} {x : Int32} (hdg : decode cc pc = .ok (.iload i, 2)) (h : lk ls nL lv) (j : Nat) (hj : lv[j]? = some (i, .inl x))
    (kk : W p l e R s m args below meth c H locs cells slots Q (F0 m (pc + 2) ls (.int x :: rest))) : W p l e R s m args below meth c H locs cells slots Q (F0 m pc ls rest) := lv_iload X.1 X.2.1 hdg (lk_at h j hj) kk
theorem q_aload_n (X : cx p s m args c cc own nL D dA) {k : Fin 4} {i : Nat} {x : Option Nat} (hdg : decode cc pc = .ok (.aload_n k, 1)) (hi : (k : Nat) = i) (h : lk ls nL lv) (j : Nat) (hj : lv[j]? = some (i, .inr x))
    (kk : W p l e R s m args below meth c H locs cells slots Q (F0 m (pc + 1) ls (va_rf x :: rest))) : W p l e R s m args below meth c H locs cells slots Q (F0 m pc ls rest) := by
  have h1 := lk_at h j hj
  cases x with
  | none => exact lv_aload_nN X.1 X.2.1 hdg hi h1 kk
  | some a => exact lv_aload_n X.1 X.2.1 hdg hi h1 kk
theorem q_aload (X : cx p s m args c cc own nL D dA) {i : Nat} {x : Option Nat} (hdg : decode cc pc = .ok (.aload i, 2)) (h : lk ls nL lv) (j : Nat) (hj : lv[j]? = some (i, .inr x))
    (kk : W p l e R s m args below meth c H locs cells slots Q (F0 m (pc + 2) ls (va_rf x :: rest))) : W p l e R s m args below meth c H locs cells slots Q (F0 m pc ls rest) := by
  have h1 := lk_at h j hj
  cases x with
  | none => exact lv_aloadN X.1 X.2.1 hdg h1 kk
  | some a => exact lv_aload X.1 X.2.1 hdg h1 kk
theorem q_istore_n (X : cx p s m args c cc own nL D dA) {k : Fin 4} {i : Nat} {x : Int32} (hdg : decode cc pc = .ok (.istore_n k, 1)) (hi : (k : Nat) = i) (h : lk ls nL lv) (hn : i < nL) (hl : (i, .inl x) :: lv.filter (fun q => !(q.1 == i)) = lv')
    (kk : ∀ ls' : Array Slot, lk ls' nL lv' → W p l e R s m args below meth c H locs cells slots Q (F0 m (pc + 1) ls' rest)) : W p l e R s m args below meth c H locs cells slots Q (F0 m pc ls (.int x :: rest)) :=
  lv_istore_n X.1 X.2.1 hdg hi h hn rfl fun ls' h' => kk ls' (lk_put (x := .inl x) h' hl)
theorem q_istore (X : cx p s m args c cc own nL D dA) {i : Nat} {x : Int32} (hdg : decode cc pc = .ok (.istore i, 2)) (h : lk ls nL lv) (hn : i < nL) (hl : (i, .inl x) :: lv.filter (fun q => !(q.1 == i)) = lv')
    (kk : ∀ ls' : Array Slot, lk ls' nL lv' → W p l e R s m args below meth c H locs cells slots Q (F0 m (pc + 2) ls' rest)) : W p l e R s m args below meth c H locs cells slots Q (F0 m pc ls (.int x :: rest)) :=
  lv_istore X.1 X.2.1 hdg h hn rfl fun ls' h' => kk ls' (lk_put (x := .inl x) h' hl)
theorem q_astore_n (X : cx p s m args c cc own nL D dA) {k : Fin 4} {i : Nat} {x : Option Nat} (hdg : decode cc pc = .ok (.astore_n k, 1)) (hi : (k : Nat) = i) (h : lk ls nL lv) (hn : i < nL) (hl : (i, .inr x) :: lv.filter (fun q => !(q.1 == i)) = lv')
    (kk : ∀ ls' : Array Slot, lk ls' nL lv' → W p l e R s m args below meth c H locs cells slots Q (F0 m (pc + 1) ls' rest)) : W p l e R s m args below meth c H locs cells slots Q (F0 m pc ls (va_rf x :: rest)) := by
  cases x with
  | none => exact lv_astore_nN X.1 X.2.1 hdg hi h hn rfl fun ls' h' => kk ls' (lk_put (x := .inr none) h' hl)
  | some a => exact lv_astore_n X.1 X.2.1 hdg hi h hn rfl fun ls' h' => kk ls' (lk_put (x := .inr (some a)) h' hl)
theorem q_astore (X : cx p s m args c cc own nL D dA) {i : Nat} {x : Option Nat} (hdg : decode cc pc = .ok (.astore i, 2)) (h : lk ls nL lv) (hn : i < nL) (hl : (i, .inr x) :: lv.filter (fun q => !(q.1 == i)) = lv')
    (kk : ∀ ls' : Array Slot, lk ls' nL lv' → W p l e R s m args below meth c H locs cells slots Q (F0 m (pc + 2) ls' rest)) : W p l e R s m args below meth c H locs cells slots Q (F0 m pc ls (va_rf x :: rest)) := by
  cases x with
  | none => exact lv_astoreN X.1 X.2.1 hdg h hn rfl fun ls' h' => kk ls' (lk_put (x := .inr none) h' hl)
  | some a => exact lv_astore X.1 X.2.1 hdg h hn rfl fun ls' h' => kk ls' (lk_put (x := .inr (some a)) h' hl)
theorem q_iinc (X : cx p s m args c cc own nL D dA) {i : Nat} {n : Int} {x v : Int32} (hdg : decode cc pc = .ok (.iinc i n, 3)) (h : lk ls nL lv) (j : Nat) (hj : lv[j]? = some (i, .inl x)) (hv : Int32.ofInt n = v) (hn : i < nL) (hl : (i, .inl (x + v)) :: lv.filter (fun q => !(q.1 == i)) = lv')
    (kk : ∀ ls' : Array Slot, lk ls' nL lv' → W p l e R s m args below meth c H locs cells slots Q (F0 m (pc + 3) ls' rest)) : W p l e R s m args below meth c H locs cells slots Q (F0 m pc ls rest) :=
  lv_iinc (k := j) (x := x) X.1 X.2.1 hdg h (by rw [List.getElem?_map, hj]; rfl) (by rw [hv]) hn rfl fun ls' h' => kk ls' (lk_put (x := .inl (x + v)) h' hl)
theorem q_ifnull (X : cx p s m args c cc own nL D dA) {r : Option Nat} {off : Int} {tgt : Nat} (hdg : decode cc pc = .ok (.ifnull off, 3)) (ht : (pc : Int) + off = (tgt : Int)) (kt : r = none → W p l e R s m args below meth c H locs cells slots Q (F0 m tgt ls rest)) (kf : ¬ r = none → W p l e R s m args below meth c H locs cells slots Q (F0 m (pc + 3) ls rest)) : W p l e R s m args below meth c H locs cells slots Q (F0 m pc ls (va_rf r :: rest)) := by
  cases r with
  | none => exact lv_ifnullN X.1 X.2.1 hdg ht (kt rfl)
  | some a => exact lv_ifnull X.1 X.2.1 hdg (kf (by simp))
theorem q_ifnonnull (X : cx p s m args c cc own nL D dA) {r : Option Nat} {off : Int} {tgt : Nat} (hdg : decode cc pc = .ok (.ifnonnull off, 3)) (ht : (pc : Int) + off = (tgt : Int)) (kt : ¬ r = none → W p l e R s m args below meth c H locs cells slots Q (F0 m tgt ls rest)) (kf : r = none → W p l e R s m args below meth c H locs cells slots Q (F0 m (pc + 3) ls rest)) : W p l e R s m args below meth c H locs cells slots Q (F0 m pc ls (va_rf r :: rest)) := by
  cases r with
  | none => exact lv_ifnonnullN X.1 X.2.1 hdg (kf rfl)
  | some a => exact lv_ifnonnull X.1 X.2.1 hdg ht (kt (by simp))
-- fields
def f_A (own : String) (ix cN k : Nat) : Prop := ∃ (C : String) (T : u_T) (N : Nat), vwCl[cN]? = some (C, T, N) ∧ k < N ∧ (∀ w ∈ u_ws C T N, w ∈ G) ∧ Cond.fieldLink own ix (T k).1 (T k).2.1 (T k).2.2.1 ∈ G
def f_P (own : String) (ix cN k : Nat) (ty : FieldType) (fin : Bool) : Prop := ∃ (C : String) (T : u_T) (N : Nat) (ty0 : Nat → FieldType), vwCl[cN]? = some (C, T, N) ∧ k < N ∧ (∀ w ∈ u_ws C T N, w ∈ G) ∧ Cond.fieldLink own ix (T k).1 (T k).2.1 (T k).2.2.1 ∈ G ∧ (∀ k, k < N → parseFieldDescriptor (T k).2.2.1 = some (ty0 k)) ∧ (∀ a, a < N → ∀ b, b < N → a ≠ b → (T a).2.1 ≠ (T b).2.1) ∧ (T k).2.2.2 = fin ∧ (fin = true → (T k).1 = own) ∧ parseFieldDescriptor (T k).2.2.1 = some ty
theorem q_get (X : cx p s m args c cc own nL D dA) (hh : hw D dA base σ H) {ix cN k a : Nat} (hF : f_A own ix cN k) (ha : σ.1 a = some (.inl cN)) (hdg : decode cc pc = .ok (.getfield ix, 3)) (kk : W p l e R s m args below meth c H locs cells slots Q (F0 m (pc + 3) ls (hp_v rkX cN σ a k :: rest))) : W p l e R s m args below meth c H locs cells slots Q (F0 m pc ls (.ref a :: rest)) := by
  obtain ⟨hx, hb, hown, -, hts, hK, -⟩ := X
  obtain ⟨C, T, N, hc, hk, hin, hl⟩ := hF
  obtain ⟨r, h1, cell, q1, q2, q3, q4⟩ := (hh.2.2.2 a).obj ha
  have hr : r = (C, T, N) := Option.some.inj (h1.symm.trans hc)
  subst hr
  obtain ⟨hS, hfc, kC, hkC, hkind⟩ := hK.1 cN _ hc
  obtain ⟨cf, kf, fi, f, hi, hsl⟩ := hS k hk
  refine W.getf hx hb hown (hts _ hl) hi (u_facts hfc hkC (u_lays hts hin hk) hi).1 q1 (by rw [q3]; exact fun h => by cases h) (v := hp_v rkX cN σ a k) ?_ rfl rfl hdg kk
  rw [hsl, q4 k hk]
theorem q_gI (X : cx p s m args c cc own nL D dA) (hh : hw D dA base σ H) {ix cN k : Nat} (hF : f_A own ix cN k) (hk : rkX cN k = false) {r : Option Nat} {x : Int32} (h : o_gI σ cN k r = some x) (hdg : decode cc pc = .ok (.getfield ix, 3)) (kk : W p l e R s m args below meth c H locs cells slots Q (F0 m (pc + 3) ls (.int x :: rest))) : W p l e R s m args below meth c H locs cells slots Q (F0 m pc ls (va_rf r :: rest)) := by
  obtain ⟨a, rfl, ha, rfl⟩ := o_gI_s h
  refine q_get X hh hF ha hdg ?_
  rw [show hp_v rkX cN σ a k = .int (σ.2.1 a k) by unfold hp_v; rw [if_neg (by rw [hk]; decide)]]
  exact kk
theorem q_gR (X : cx p s m args c cc own nL D dA) (hh : hw D dA base σ H) {ix cN k : Nat} (hF : f_A own ix cN k) (hk : rkX cN k = true) {r x : Option Nat} (h : o_gR σ cN k r = some x) (hdg : decode cc pc = .ok (.getfield ix, 3)) (kk : W p l e R s m args below meth c H locs cells slots Q (F0 m (pc + 3) ls (va_rf x :: rest))) : W p l e R s m args below meth c H locs cells slots Q (F0 m pc ls (va_rf r :: rest)) := by
  obtain ⟨a, rfl, ha, rfl⟩ := o_gR_s h
  refine q_get X hh hF ha hdg ?_
  rw [show hp_v rkX cN σ a k = va_rf (σ.2.2.1 a k) by unfold hp_v; rw [if_pos hk]]
  exact kk
/-- Intake.taking, read by Site -/
theorem q_gIN (X : cx p s m args c cc "SpoolLink$Site" nL D dA) (hh : hw D dA base σ H) {r : Option Nat} {x : Int32} (h : o_gI σ 1 1 r = some x) (hdg : decode cc pc = .ok (.getfield 178, 3)) (kk : W p l e R s m args below meth c H locs cells slots Q (F0 m (pc + 3) ls (.int x :: rest))) : W p l e R s m args below meth c H locs cells slots Q (F0 m pc ls (va_rf r :: rest)) := by
  obtain ⟨a, rfl, ha, rfl⟩ := o_gI_s h
  obtain ⟨hx, hb, hown, -, hts, hK, -, hN⟩ := X
  obtain ⟨r, h1, cell, q1, q2, q3, q4⟩ := (hh.2.2.2 a).obj ha
  have hr : r = (RX1, TX1, 5) := Option.some.inj (h1.symm.trans rfl)
  subst hr
  obtain ⟨hS, hfc, kC, hkC, hkind⟩ := hK.1 1 _ rfl
  obtain ⟨cf, kf, fi, f, hi, hsl⟩ := hS 1 (by decide)
  refine va_Wgetf hx hb hown (va_Nw.use rfl hN.2.2.2.2) hi (u_facts hfc hkC (u_lays hts inX1 (by decide)) hi).1 q1 (by rw [q3]; exact fun h => by cases h) (v := .int (σ.2.1 a 1)) ?_ rfl rfl hdg kk
  rw [hsl, q4 1 (by decide)]
  rfl
theorem q_put (X : cx p s m args c cc own nL D dA) (hh : hw D dA base σ H) (hS0 : hs base H0 H locs) {ix cN k a : Nat} {ty : FieldType} {fin : Bool} (hF : f_P own ix cN k ty fin) (hm : fin = true → meth.name = "<init>") (ha : σ.1 a = some (.inl cN)) {v : Value} (hn : narrow ty v = v) (hfit : fits ty v = true)
    (h1 : σ1.1 = σ.1) (h2 : ∀ b, b ≠ a → σ1.2.1 b = σ.2.1 b) (h3 : ∀ b, b ≠ a → σ1.2.2.1 b = σ.2.2.1 b) (h4 : σ1.2.2.2 = σ.2.2.2) (h5 : ∀ j, updV (hp_v rkX cN σ a) k v j = hp_v rkX cN σ1 a j)
    (hdg : decode cc pc = .ok (.putfield ix, 3)) (kk : ∀ (H1 : Heap) (locs1 : List Loc), hw D dA base σ1 H1 → hs base H0 H1 locs1 → W p l e R s m args below meth c H1 locs1 cells slots Q (F0 m (pc + 3) ls rest)) : W p l e R s m args below meth c H locs cells slots Q (F0 m pc ls (v :: .ref a :: rest)) := by
  obtain ⟨hx, hb, hown, -, hts, hK, -⟩ := X
  obtain ⟨C, T, N, ty0, hc, hk, hin, hl, hty, hnm, hfin, hdecl, hd⟩ := hF
  have hap := va_apart (own := own) hts hin ty0 hty hnm hK hc
  obtain ⟨r, g1, cell, q1, q2, q3, q4⟩ := (hh.2.2.2 a).obj ha
  have hr : r = (C, T, N) := Option.some.inj (g1.symm.trans hc)
  subst hr
  obtain ⟨hS, hfc, kC, hkC, hkind⟩ := hK.1 cN _ hc
  obtain ⟨cf, kf, fi, f, hi, hsl⟩ := hS k hk
  have hlay := hts _ (hin _ (u_in_lay hk))
  unfold u_lay at hlay
  have hst := (u_facts hfc hkC (u_lays hts hin hk) hi).1
  have key : ∀ H' : Heap, H'[a]? = some (cell.setSlot f.slot v) → H'.size = H.size → (∀ q, q ≠ a → H'[q]? = H[q]?) → W p l e R s m args below meth c H' (locs ++ [⟨a, f.slot⟩]) cells slots Q (F0 m (pc + 3) ls rest) := by
    intro H' e1 e2 e3
    rw [hsl] at e1 ⊢
    refine kk H' _ (hh.chg e2 e3 h1 h2 h3 h4 ?_) (hS0.put e2 e3 (hh.2.2.1 a (by rw [ha]; simp)))
    unfold hp_at
    rw [h1, ha]
    exact ⟨_, hc, t_OB.to (V := updV (hp_v rkX cN σ a) k v) ⟨_, e1, q2, q3, t_set q4 hap hk v⟩ (fun j _ => h5 j)⟩
  cases fin with
  | false =>
    rw [if_neg (by rw [hfin]; decide)] at hlay
    have h6 := u_store hfc hkC hkind hlay hi hd hn hfit
    exact W.putK hx hb (f := f) ⟨hown, hts _ hl, ⟨_, _, _, hi⟩, hst⟩ (by rw [q2]; exact h6) q1 q3 (by rw [hsl]; exact k2_hasslot (q4 k hk)) rfl rfl hdg key
  | true =>
    rw [if_pos hfin] at hlay
    have hcf : m.cls = cf := by
      obtain ⟨_, _, c', _, _, _, -, -, hf', -, -, -, hown2, -⟩ := Cond.laysFinal_spec hlay
      have e1 : c' = cf := by have := hi.symm.trans hf'; simp at this; exact this.1.symm
      rw [hdecl rfl] at hown2
      rw [← e1]; exact Option.some.inj (hown.symm.trans hown2)
    have h6 := u_fits hfc hkC hkind (Or.inr hlay) hi hd hn hfit
    exact W.putFinK hx hb hown (hts _ hl) hi hst hcf (hm rfl) (by rw [q2]; exact h6) q1 q3 (by rw [hsl]; exact k2_hasslot (q4 k hk)) rfl rfl hdg key
theorem hpv_I {cN k a : Nat} {x : Int32} (hk : rkX cN k = false) (j : Nat) : updV (hp_v rkX cN σ a) k (.int x) j = hp_v rkX cN (sI σ (up2 σ.2.1 a k x)) a j := by
  unfold updV hp_v sI
  by_cases hj : j = k
  · subst hj
    simp [hk, up2]
  · simp [hj, up2]
theorem hpv_R {cN k a : Nat} {x : Option Nat} (hk : rkX cN k = true) (j : Nat) : updV (hp_v rkX cN σ a) k (va_rf x) j = hp_v rkX cN (sR σ (up2 σ.2.2.1 a k x)) a j := by
  unfold updV hp_v sR
  by_cases hj : j = k
  · subst hj
    simp [hk, up2]
  · simp [hj, up2]
theorem q_pI (X : cx p s m args c cc own nL D dA) (hh : hw D dA base σ H) (hS : hs base H0 H locs) {ix cN k : Nat} {fin : Bool} (hF : f_P own ix cN k .int fin) (hm : fin = true → meth.name = "<init>") (hk : rkX cN k = false) {r : Option Nat} {x : Int32} (h : o_pI σ cN k r x = some σ1)
    (hdg : decode cc pc = .ok (.putfield ix, 3)) (kk : ∀ (H1 : Heap) (locs1 : List Loc), hw D dA base σ1 H1 → hs base H0 H1 locs1 → W p l e R s m args below meth c H1 locs1 cells slots Q (F0 m (pc + 3) ls rest)) : W p l e R s m args below meth c H locs cells slots Q (F0 m pc ls (.int x :: va_rf r :: rest)) := by
  obtain ⟨a, rfl, ha, rfl⟩ := o_pI_s h
  exact q_put (σ1 := sI σ (up2 σ.2.1 a k x)) X hh hS hF hm ha rfl rfl rfl (fun b hb => up2_ne hb) (fun b hb => rfl) rfl (hpv_I hk) hdg kk
theorem q_pZ (X : cx p s m args c cc own nL D dA) (hh : hw D dA base σ H) (hS : hs base H0 H locs) {ix cN k : Nat} {fin : Bool} (hF : f_P own ix cN k .boolean fin) (hm : fin = true → meth.name = "<init>") (hk : rkX cN k = false) {r : Option Nat} {x y : Int32} (hz : o_z x = some y) (h : o_pI σ cN k r y = some σ1)
    (hdg : decode cc pc = .ok (.putfield ix, 3)) (kk : ∀ (H1 : Heap) (locs1 : List Loc), hw D dA base σ1 H1 → hs base H0 H1 locs1 → W p l e R s m args below meth c H1 locs1 cells slots Q (F0 m (pc + 3) ls rest)) : W p l e R s m args below meth c H locs cells slots Q (F0 m pc ls (.int x :: va_rf r :: rest)) := by
  obtain ⟨rfl, hz⟩ := o_z_s hz
  obtain ⟨a, rfl, ha, rfl⟩ := o_pI_s h
  exact q_put (σ1 := sI σ (up2 σ.2.1 a k _)) X hh hS hF hm ha (by rcases hz with rfl | rfl <;> rfl) (by rcases hz with rfl | rfl <;> rfl) rfl (fun b hb => up2_ne hb) (fun b hb => rfl) rfl (hpv_I hk) hdg kk
theorem q_pR (X : cx p s m args c cc own nL D dA) (hh : hw D dA base σ H) (hS : hs base H0 H locs) {ix cN k : Nat} {ty : FieldType} {fin : Bool} (hF : f_P own ix cN k ty fin) (hm : fin = true → meth.name = "<init>") (hk : rkX cN k = true) (hty : (∃ n, ty = .object n) ∨ ∃ t, ty = .array t) {r x : Option Nat} (h : o_pR σ cN k r x = some σ1)
    (hdg : decode cc pc = .ok (.putfield ix, 3)) (kk : ∀ (H1 : Heap) (locs1 : List Loc), hw D dA base σ1 H1 → hs base H0 H1 locs1 → W p l e R s m args below meth c H1 locs1 cells slots Q (F0 m (pc + 3) ls rest)) : W p l e R s m args below meth c H locs cells slots Q (F0 m pc ls (va_rf x :: va_rf r :: rest)) := by
  obtain ⟨a, rfl, ha, rfl⟩ := o_pR_s h
  exact q_put (σ1 := sR σ (up2 σ.2.2.1 a k x)) X hh hS hF hm ha (by rcases hty with ⟨n, rfl⟩ | ⟨t, rfl⟩ <;> cases x <;> rfl) (by rcases hty with ⟨n, rfl⟩ | ⟨t, rfl⟩ <;> cases x <;> rfl) rfl (fun b hb => rfl) (fun b hb => up2_ne hb) rfl (hpv_R hk) hdg kk
end RW
