/-! Rows: arrays, making, calls, ends. -/
theorem o_ldI_s {σ : hp} {t : Nat} {r : Option Nat} {i x : Int32} (h : o_ldI σ t r i = some x) : ∃ a n, r = some a ∧ σ.1 a = some (.inr (t, n)) ∧ vp_in i n ∧ σ.2.1 a i.toNatClampNeg = x := by
  obtain ⟨q, h1, h⟩ := o_b h
  obtain ⟨k, h2, h⟩ := o_b h
  obtain ⟨g1, g2⟩ := o_a_s h1
  obtain ⟨g3, rfl⟩ := o_ix_s h2
  exact ⟨q.1, q.2, g1, g2, g3, Option.some.inj h⟩
theorem o_ldQ_s {σ : hp} {t : Nat} {r x : Option Nat} {i : Int32} (h : o_ldQ σ t r i = some x) : ∃ a n, r = some a ∧ σ.1 a = some (.inr (t, n)) ∧ vp_in i n ∧ σ.2.2.1 a i.toNatClampNeg = x := by
  obtain ⟨q, h1, h⟩ := o_b h
  obtain ⟨k, h2, h⟩ := o_b h
  obtain ⟨g1, g2⟩ := o_a_s h1
  obtain ⟨g3, rfl⟩ := o_ix_s h2
  exact ⟨q.1, q.2, g1, g2, g3, Option.some.inj h⟩
theorem o_len_s {σ : hp} {t : Nat} {r : Option Nat} {x : Int32} (h : o_len σ t r = some x) : ∃ a n, r = some a ∧ σ.1 a = some (.inr (t, n)) ∧ Int32.ofNat n = x := by
  obtain ⟨q, h1, h⟩ := o_b h
  obtain ⟨g1, g2⟩ := o_a_s h1
  exact ⟨q.1, q.2, g1, g2, Option.some.inj h⟩
theorem o_stI_s {σ σ1 : hp} {t : Nat} {r : Option Nat} {i x : Int32} (h : o_stI σ t r i x = some σ1) : ∃ a n, r = some a ∧ σ.1 a = some (.inr (t, n)) ∧ vp_in i n ∧ σ1 = sI σ (up2 σ.2.1 a i.toNatClampNeg x) := by
  obtain ⟨q, h1, h⟩ := o_b h
  obtain ⟨k, h2, h⟩ := o_b h
  obtain ⟨g1, g2⟩ := o_a_s h1
  obtain ⟨g3, rfl⟩ := o_ix_s h2
  exact ⟨q.1, q.2, g1, g2, g3, (Option.some.inj h).symm⟩
theorem o_stQ_s {σ σ1 : hp} {t c : Nat} {r x : Option Nat} {i : Int32} (h : o_stQ σ t c r i x = some σ1) : ∃ a n v, r = some a ∧ σ.1 a = some (.inr (t, n)) ∧ vp_in i n ∧ x = some v ∧ σ.1 v = some (.inl c) ∧ σ1 = sR σ (up2 σ.2.2.1 a i.toNatClampNeg x) := by
  obtain ⟨q, h1, h⟩ := o_b h
  obtain ⟨k, h2, h⟩ := o_b h
  obtain ⟨u, h3, h⟩ := o_b h
  obtain ⟨g1, g2⟩ := o_a_s h1
  obtain ⟨g3, rfl⟩ := o_ix_s h2
  obtain ⟨v, g4, g5⟩ := o_is_s h3
  exact ⟨q.1, q.2, v, g1, g2, g3, g4, g5, (Option.some.inj h).symm⟩
section RW
variable {p : Program} {l : Launch} {e : Env} {R : Room} {s : State} {m : MethodId} {args : Array Value} {below : List Frame} {meth : Method} {c : Code} {H : Heap} {locs : List Loc} {cells slots : Nat} {Q : State → Prop}
variable {cc : ByteArray} {pc : Nat} {ls : Array Slot} {rest : List Value} {D : va_G} {dA : Nat → ClassId} {base nL : Nat} {σ σ1 : hp} {H0 : Heap} {own : String} {lv lv' : List (Nat × vk)}
theorem hpc_i {a t n : Nat} (ht : t < 2) : hp_c dA σ a t n = arrV (dA t) n (fun j => .int (σ.2.1 a j)) := by
  unfold hp_c
  rw [if_pos ht]
  rfl
theorem hpc_q {a t n : Nat} (ht : ¬ t < 2) : hp_c dA σ a t n = arrV (dA t) n (fun j => va_rf (σ.2.2.1 a j)) := by
  unfold hp_c
  rw [if_neg ht]
  rfl
theorem q_ldI (X : cx p s m args c cc own nL D dA) (hh : hw D dA base σ H) {r : Option Nat} {i x : Int32} (h : o_ldI σ 0 r i = some x) (hdg : decode cc pc = .ok (.iaload, 1)) (kk : W p l e R s m args below meth c H locs cells slots Q (F0 m (pc + 1) ls (.int x :: rest))) : W p l e R s m args below meth c H locs cells slots Q (F0 m pc ls (.int i :: va_rf r :: rest)) := by
  obtain ⟨a, n, rfl, ha, hin, rfl⟩ := o_ldI_s h
  have hcell := (hh.2.2.2 a).arr ha
  rw [hpc_i (by decide)] at hcell
  have hlt : i.toNatClampNeg < n := Nat.not_le.mp fun q => hin (Or.inr q)
  exact W.iald (v := .int (σ.2.1 a i.toNatClampNeg)) X.1 X.2.1 hcell ((X.2.2.2.2.2.1.2 0 (dA 0, .int) rfl).1 n _) (fun q => by cases q) (by rw [arrV_size]; exact hin) (by rw [arrV_read _ _ hlt]) rfl rfl hdg kk
theorem q_ldZ (X : cx p s m args c cc own nL D dA) (hh : hw D dA base σ H) {r : Option Nat} {i x : Int32} (h : o_ldI σ 1 r i = some x) (hdg : decode cc pc = .ok (.baload, 1)) (kk : W p l e R s m args below meth c H locs cells slots Q (F0 m (pc + 1) ls (.int x :: rest))) : W p l e R s m args below meth c H locs cells slots Q (F0 m pc ls (.int i :: va_rf r :: rest)) := by
  obtain ⟨a, n, rfl, ha, hin, rfl⟩ := o_ldI_s h
  have hcell := (hh.2.2.2 a).arr ha
  rw [hpc_i (by decide)] at hcell
  have hlt : i.toNatClampNeg < n := Nat.not_le.mp fun q => hin (Or.inr q)
  exact W.zald (v := .int (σ.2.1 a i.toNatClampNeg)) X.1 X.2.1 hcell ((X.2.2.2.2.2.1.2 1 (dA 1, .boolean) rfl).1 n _) (fun q => by cases q) (by rw [arrV_size]; exact hin) (by rw [arrV_read _ _ hlt]) rfl rfl hdg kk
theorem q_ldQ (X : cx p s m args c cc own nL D dA) (hh : hw D dA base σ H) {t : Nat} {C : String} (ht : ¬ t < 2) (hty : (TY dA)[t]? = some (dA t, .object C)) {r x : Option Nat} {i : Int32} (h : o_ldQ σ t r i = some x) (hdg : decode cc pc = .ok (.aaload, 1)) (kk : W p l e R s m args below meth c H locs cells slots Q (F0 m (pc + 1) ls (va_rf x :: rest))) : W p l e R s m args below meth c H locs cells slots Q (F0 m pc ls (.int i :: va_rf r :: rest)) := by
  obtain ⟨a, n, rfl, ha, hin, rfl⟩ := o_ldQ_s h
  have hcell := (hh.2.2.2 a).arr ha
  rw [hpc_q ht] at hcell
  have hlt : i.toNatClampNeg < n := Nat.not_le.mp fun q => hin (Or.inr q)
  exact W.aald (v := va_rf (σ.2.2.1 a i.toNatClampNeg)) (ty := .object C) X.1 X.2.1 hcell ((X.2.2.2.2.2.1.2 t _ hty).1 n _) rfl (fun q => by cases q) (by rw [arrV_size]; exact hin) (by rw [arrV_read _ _ hlt]) rfl rfl hdg kk
theorem q_len (X : cx p s m args c cc own nL D dA) (hh : hw D dA base σ H) {t : Nat} {ty : FieldType} (hty : (TY dA)[t]? = some (dA t, ty)) {r : Option Nat} {x : Int32} (h : o_len σ t r = some x) (hdg : decode cc pc = .ok (.arraylength, 1)) (kk : W p l e R s m args below meth c H locs cells slots Q (F0 m (pc + 1) ls (.int x :: rest))) : W p l e R s m args below meth c H locs cells slots Q (F0 m pc ls (va_rf r :: rest)) := by
  obtain ⟨a, n, rfl, ha, rfl⟩ := o_len_s h
  have hcell := (hh.2.2.2 a).arr ha
  by_cases ht : t < 2
  · rw [hpc_i ht] at hcell
    exact W.alen (n := Int32.ofNat n) X.1 X.2.1 hcell ((X.2.2.2.2.2.1.2 t _ hty).1 n _) (by rw [arrV_size]) rfl rfl hdg kk
  · rw [hpc_q ht] at hcell
    exact W.alen (n := Int32.ofNat n) X.1 X.2.1 hcell ((X.2.2.2.2.2.1.2 t _ hty).1 n _) (by rw [arrV_size]) rfl rfl hdg kk
theorem hp_stI {a t n k : Nat} {x : Int32} {H1 : Heap} {locs1 : List Loc} (hh : hw D dA base σ H) (ha : σ.1 a = some (.inr (t, n))) (ht : t < 2) (e : H1[a]? = some ((arrV (dA t) n (fun j => .int (σ.2.1 a j))).setSlot k (.int x))) (z : H1.size = H.size) (oq : ∀ q, q ≠ a → H1[q]? = H[q]?) : hw D dA base (sI σ (up2 σ.2.1 a k x)) H1 := by
  refine hh.chg z oq rfl (fun b hb => up2_ne hb) (fun b hb => rfl) rfl ?_
  unfold hp_at
  rw [show (sI σ (up2 σ.2.1 a k x)).1 a = some (.inr (t, n)) from ha]
  dsimp only
  rw [e, hpc_i ht, arrV_store]
  congr 2
  funext q
  by_cases hq : q = k
  · subst hq
    simp [updV, up2, sI]
  · simp [updV, up2, sI, hq]
theorem q_stI (X : cx p s m args c cc own nL D dA) (hh : hw D dA base σ H) (hS : hs base H0 H locs) {r : Option Nat} {i x : Int32} (h : o_stI σ 0 r i x = some σ1) (hdg : decode cc pc = .ok (.iastore, 1)) (kk : ∀ (H1 : Heap) (locs1 : List Loc), hw D dA base σ1 H1 → hs base H0 H1 locs1 → W p l e R s m args below meth c H1 locs1 cells slots Q (F0 m (pc + 1) ls rest)) : W p l e R s m args below meth c H locs cells slots Q (F0 m pc ls (.int x :: .int i :: va_rf r :: rest)) := by
  obtain ⟨a, n, rfl, ha, hin, rfl⟩ := o_stI_s h
  have hcell := (hh.2.2.2 a).arr ha
  rw [hpc_i (by decide)] at hcell
  exact W.iast X.1 X.2.1 hcell ((X.2.2.2.2.2.1.2 0 (dA 0, .int) rfl).1 n _) (fun q => by cases q) (by rw [arrV_size]; exact hin) rfl rfl hdg fun H1 e z oq => kk H1 _ (hp_stI (locs1 := locs) hh ha (by decide) e z oq) (hS.put z oq (hh.2.2.1 a (by rw [ha]; simp)))
theorem q_stZ (X : cx p s m args c cc own nL D dA) (hh : hw D dA base σ H) (hS : hs base H0 H locs) {r : Option Nat} {i x y : Int32} (hz : o_z x = some y) (h : o_stI σ 1 r i y = some σ1) (hdg : decode cc pc = .ok (.bastore, 1)) (kk : ∀ (H1 : Heap) (locs1 : List Loc), hw D dA base σ1 H1 → hs base H0 H1 locs1 → W p l e R s m args below meth c H1 locs1 cells slots Q (F0 m (pc + 1) ls rest)) : W p l e R s m args below meth c H locs cells slots Q (F0 m pc ls (.int x :: .int i :: va_rf r :: rest)) := by
  obtain ⟨rfl, hz⟩ := o_z_s hz
  obtain ⟨a, n, rfl, ha, hin, rfl⟩ := o_stI_s h
  have hcell := (hh.2.2.2 a).arr ha
  rw [hpc_i (by decide)] at hcell
  exact W.zast X.1 X.2.1 hcell ((X.2.2.2.2.2.1.2 1 (dA 1, .boolean) rfl).1 n _) (fun q => by cases q) (by rw [arrV_size]; exact hin) rfl rfl hdg fun H1 e z oq => kk H1 _ (hp_stI (locs1 := locs) hh ha (by decide) (by rw [e]; rcases hz with rfl | rfl <;> rfl) z oq) (hS.put z oq (hh.2.2.1 a (by rw [ha]; simp)))
theorem q_stQ (X : cx p s m args c cc own nL D dA) (hh : hw D dA base σ H) (hS : hs base H0 H locs) {t cN : Nat} {w : vw_C} (ht : ¬ t < 2) (hc : vwCl[cN]? = some w) (hty : (TY dA)[t]? = some (dA t, .object w.1)) {r x : Option Nat} {i : Int32} (h : o_stQ σ t cN r i x = some σ1) (hdg : decode cc pc = .ok (.aastore, 1)) (kk : ∀ (H1 : Heap) (locs1 : List Loc), hw D dA base σ1 H1 → hs base H0 H1 locs1 → W p l e R s m args below meth c H1 locs1 cells slots Q (F0 m (pc + 1) ls rest)) : W p l e R s m args below meth c H locs cells slots Q (F0 m pc ls (va_rf x :: .int i :: va_rf r :: rest)) := by
  obtain ⟨a, n, v, rfl, ha, hin, rfl, hv, rfl⟩ := o_stQ_s h
  have hcell := (hh.2.2.2 a).arr ha
  rw [hpc_q ht] at hcell
  have hK := X.2.2.2.2.2.1
  have hlt : i.toNatClampNeg < n := Nat.not_le.mp fun q => hin (Or.inr q)
  have h0 : ¬ i < 0 := fun q => hin (Or.inl q)
  obtain ⟨r', hr', cellV, g1, g2, g3, -⟩ := (hh.2.2.2 v).obj hv
  have hcls := (hK.1 cN w hc).2
  obtain ⟨kA, comp, k1, k2, k3, -⟩ := (hK.2 t _ hty).2
  have hcomp : comp = D.1 cN := Option.some.inj (k3.symm.trans hcls.1)
  subst hcomp
  obtain ⟨kC, hkC, -⟩ := hcls.2
  refine W.aast X.1 X.2.1 hcell (fun q h => by cases h) (fun h => by cases h) k1 k2 rfl hkC ⟨h0, by rw [arrV_size]; exact hlt⟩ g1 (fun q h => by rw [g3] at h; cases h) (by rw [g2]; exact hkC) (by rw [g2]; exact va_assign hcls) rfl rfl hdg fun H1 e z oq => ?_
  refine kk H1 _ (hh.chg z oq rfl (fun b hb => rfl) (fun b hb => up2_ne hb) rfl ?_) (hS.put z oq (hh.2.2.1 a (by rw [ha]; simp)))
  unfold hp_at
  rw [show (sR σ (up2 σ.2.2.1 a i.toNatClampNeg (some v))).1 a = some (.inr (t, n)) from ha]
  dsimp only
  rw [e, hpc_q ht, arrV_store]
  congr 2
  funext q
  by_cases hq : q = i.toNatClampNeg
  · subst hq
    simp [updV, up2, sR, va_rf]
  · simp [updV, up2, sR, hq]
theorem q_naI (X : cx p s m args c cc own nL D dA) (hh : hw D dA base σ H) (hS : hs base H0 H locs) {t : Nat} {atype : ArrayType} (ht : t < 2) (hty : (TY dA)[t]? = some (dA t, newarray.typeOf atype)) (hd : defaultValue (newarray.typeOf atype) = .int 0) (hRA : ∀ (U : State) (cA : ClassId), va_RA U cA (newarray.typeOf atype) = (U.vm.findClass ("[" ++ (newarray.typeOf atype).toString) = some cA)) (hb8 : componentBytes (newarray.typeOf atype) ≤ 4) (hac : Cond.arrayClass (newarray.typeOf atype) ∈ G) {n : Int32} {z : Option Nat × hp} (h : o_na σ t n = some z) (hdg : decode cc pc = .ok (.newarray atype, 2)) (hcells : cells + 1 ≤ R.cells) (hslots : slots + n.toNatClampNeg ≤ R.slots)
    (kk : ∀ (H1 : Heap), hw D dA base z.2 H1 → hs base H0 H1 locs → W p l e R s m args below meth c H1 locs (cells + 1) (slots + n.toNatClampNeg) Q (F0 m (pc + 2) ls (va_rf z.1 :: rest))) : W p l e R s m args below meth c H locs cells slots Q (F0 m pc ls (.int n :: rest)) := by
  obtain ⟨hn, hle, rfl⟩ := o_na_s h
  have hK := X.2.2.2.2.2.1
  refine va_newaK X.1 X.2.1 (X.2.2.2.2.1 _ hac) rfl hdg rfl hn rfl (Nat.le_trans (Nat.mul_le_mul_left _ hb8) (by omega)) hcells hslots (h := σ.2.2.2.1) hh.1 fun H1 cA e1 z1 o1 hAr hNm => ?_
  have hcA : cA = dA t := by
    have h1 := (hK.2 t _ hty).2
    rw [hRA] at h1
    exact Option.some.inj (hNm.symm.trans h1)
  subst hcA
  refine kk H1 (hh.new (by rw [z1, hh.1]) (fun q hq => o1 q (by rw [← hh.1]; exact hq)) ?_) ⟨Nat.le_trans hS.1 (by rw [z1, hh.1]; omega), fun x h1 h2 => (o1 x (by rw [← hh.1]; exact Nat.lt_of_lt_of_le h1 hS.1)).trans (hS.2.1 x h1 h2), hS.2.2⟩
  unfold hp_at
  rw [hh.1, show (hp_new σ (.inr (t, n.toNatClampNeg)) n.toNatClampNeg).1 σ.2.2.2.1 = some (.inr (t, n.toNatClampNeg)) from va_up_self _ _ _]
  dsimp only
  rw [hpc_i ht, e1, hd, show (hp_new σ (.inr (t, n.toNatClampNeg)) n.toNatClampNeg).2.1 σ.2.2.2.1 = fun _ => 0 from va_up_self _ _ _]
theorem q_naQ (X : cx p s m args c cc own nL D dA) (hh : hw D dA base σ H) (hS : hs base H0 H locs) {t ix : Nat} {C : String} (ht : ¬ t < 2) (hty : (TY dA)[t]? = some (dA t, .object C)) (hl : Cond.classLink own ix C ∈ G) (hao : C ∈ aoL) {n : Int32} {z : Option Nat × hp} (h : o_na σ t n = some z) (hdg : decode cc pc = .ok (.anewarray ix, 3)) (hcells : cells + 1 ≤ R.cells) (hslots : slots + n.toNatClampNeg ≤ R.slots)
    (kk : ∀ (H1 : Heap), hw D dA base z.2 H1 → hs base H0 H1 locs → W p l e R s m args below meth c H1 locs (cells + 1) (slots + n.toNatClampNeg) Q (F0 m (pc + 3) ls (va_rf z.1 :: rest))) : W p l e R s m args below meth c H locs cells slots Q (F0 m pc ls (.int n :: rest)) := by
  obtain ⟨hn, hle, rfl⟩ := o_na_s h
  have hK := X.2.2.2.2.2.1
  refine W.anew X.1 X.2.1 X.2.2.1 (X.2.2.2.2.1 _ hl) (va_AO.use (X.2.2.2.2.2.2.1 C hao)) rfl hdg rfl hn (by omega) hcells hslots fun cA kA comp f1 f2 f3 f4 => ?_
  generalize hH1 : H.push ({ cls := cA, slots := Array.replicate n.toNatClampNeg .null, vm := .none } : Cell) = H1
  have z1 : H1.size = H.size + 1 := by rw [← hH1, Array.size_push]
  have e1 : H1[H.size]? = some (arrV cA n.toNatClampNeg (fun _ => .null)) := by rw [← hH1, Array.getElem?_push_size, ← arrV_new]
  have o1 : ∀ q : Nat, q < H.size → H1[q]? = H[q]? := fun q hq => by rw [← hH1, Array.getElem?_push, if_neg (Nat.ne_of_lt hq)]
  have hcA : cA = dA t := by
    obtain ⟨kA', comp', -, -, -, h1⟩ := (hK.2 t _ hty).2
    exact Option.some.inj (f1.symm.trans h1)
  subst hcA
  have key := kk H1 (hh.new z1 o1 (by
    unfold hp_at
    rw [hh.1, show (hp_new σ (.inr (t, n.toNatClampNeg)) n.toNatClampNeg).1 σ.2.2.2.1 = some (.inr (t, n.toNatClampNeg)) from va_up_self _ _ _]
    dsimp only
    rw [hpc_q ht, ← hh.1, e1, hh.1, show (hp_new σ (.inr (t, n.toNatClampNeg)) n.toNatClampNeg).2.2.1 σ.2.2.2.1 = fun _ => none from va_up_self _ _ _]
    rfl)) ⟨Nat.le_trans hS.1 (by omega), fun x h1 h2 => (o1 x (Nat.lt_of_lt_of_le h1 hS.1)).trans (hS.2.1 x h1 h2), hS.2.2⟩
  rw [hh.1]
  exact key
def f_N (own : String) (ix cN n : Nat) : Prop := ∃ (C : String) (T : u_T) (ty : Nat → FieldType), vwCl[cN]? = some (C, T, n) ∧ (∀ w ∈ u_ws C T n, w ∈ G) ∧ (∀ k, k < n → parseFieldDescriptor (T k).2.2.1 = some (ty k)) ∧ Cond.classLink own ix C ∈ G ∧ Cond.instantiable C n ∈ G ∧ Cond.initialized C ∈ G ∧ (∀ k, k < n → defaultValue (ty k) = if rkX cN k = true then .null else .int 0)
theorem q_new (X : cx p s m args c cc own nL D dA) (hh : hw D dA base σ H) (hS : hs base H0 H locs) {ix cN n : Nat} (hF : f_N own ix cN n) {z : Option Nat × hp} (h : o_new σ cN n = some z) (hdg : decode cc pc = .ok (.new ix, 3)) (hcells : cells + 1 ≤ R.cells) (hslots : slots + n ≤ R.slots)
    (kk : ∀ (H1 : Heap), hw D dA base z.2 H1 → hs base H0 H1 locs → W p l e R s m args below meth c H1 locs (cells + 1) (slots + n) Q (F0 m (pc + 3) ls (va_rf z.1 :: rest))) : W p l e R s m args below meth c H locs cells slots Q (F0 m pc ls rest) := by
  cases h
  obtain ⟨C, T, ty, hc, hin, hty, h1, h2, h3, hdv⟩ := hF
  obtain ⟨hx, hb, hown, -, hts, hK, -⟩ := X
  have hKn := hK.1 cN _ hc
  refine W.newcK hx hb hown (hts _ h1) (hts _ h2) (hts _ h3) rfl hdg hcells hslots hKn.2.1 (h := σ.2.2.2.1) hh.1 fun H1 kC hkC e1 z1 o1 => ?_
  refine kk H1 (hh.new (by rw [z1, hh.1]) (fun q hq => o1 q (by rw [← hh.1]; exact hq)) ?_) ⟨Nat.le_trans hS.1 (by rw [z1, hh.1]; omega), fun x h1 h2 => (o1 x (by rw [← hh.1]; exact Nat.lt_of_lt_of_le h1 hS.1)).trans (hS.2.1 x h1 h2), hS.2.2⟩
  unfold hp_at
  rw [hh.1, show (hp_new σ (.inl cN) n).1 σ.2.2.2.1 = some (.inl cN) from va_up_self _ _ _]
  refine ⟨_, hc, (u_born ty hts hin hKn hkC e1 hty).to (fun j hj => ?_)⟩
  rw [hdv j hj]
  unfold hp_v
  rw [show (hp_new σ (.inl cN) n).2.1 σ.2.2.2.1 = fun _ => 0 from va_up_self _ _ _, show (hp_new σ (.inl cN) n).2.2.1 σ.2.2.2.1 = fun _ => none from va_up_self _ _ _]
  rfl
end RW
