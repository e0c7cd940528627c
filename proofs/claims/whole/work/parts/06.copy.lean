/-! System.arraycopy between int arrays. -/
theorem o_cpy_s {σ σ1 : hp} {t : Nat} {r r1 : Option Nat} {sp dp n : Int32} (h : o_cpy σ t r sp r1 dp n = some σ1) : ∃ a n0 b n1, r = some a ∧ σ.1 a = some (.inr (t, n0)) ∧ r1 = some b ∧ σ.1 b = some (.inr (t, n1)) ∧ (¬ sp < 0 ∧ ¬ dp < 0 ∧ ¬ n < 0 ∧ sp.toNatClampNeg + n.toNatClampNeg ≤ n0 ∧ dp.toNatClampNeg + n.toNatClampNeg ≤ n1) ∧ σ1 = sI σ (va_up σ.2.1 b (va_cpy (σ.2.1 a) (σ.2.1 b) sp.toNatClampNeg dp.toNatClampNeg n.toNatClampNeg)) := by
  obtain ⟨q, h1, h⟩ := o_b h
  obtain ⟨q1, h2, h⟩ := o_b h
  obtain ⟨g1, g2⟩ := o_a_s h1
  obtain ⟨g3, g4⟩ := o_a_s h2
  split at h
  · rename_i hc
    exact ⟨q.1, q.2, q1.1, q1.2, g1, g2, g3, g4, hc, (Option.some.inj h).symm⟩
  · cases h
section RW
variable {p : Program} {l : Launch} {e : Env} {R : Room} {s : State} {m : MethodId} {args : Array Value} {below : List Frame} {meth : Method} {c : Code} {H : Heap} {locs : List Loc} {cells slots : Nat} {Q : State → Prop}
variable {cc : ByteArray} {pc : Nat} {ls : Array Slot} {rest : List Value} {D : va_G} {dA : Nat → ClassId} {base nL : Nat} {σ σ1 : hp} {H0 : Heap} {own : String} {lv lv' : List (Nat × vk)}
theorem q_cpy {ix : Nat} (X : cx p s m args c cc own nL D dA) (hh : hw D dA base σ H) (hS : hs base H0 H locs) (hls : lk ls nL lv) (w1 : Cond.methodLink own ix arraycopyName ∈ G) (w2 : Cond.native arraycopyName ∈ G) (w3 : Cond.static arraycopyName ∈ G) (w4 : Cond.initialized "java/lang/System" ∈ G) {r r1 : Option Nat} {sp dp n : Int32} (h : o_cpy σ 0 r sp r1 dp n = some σ1)
    (hframes : 1 ≤ R.frames) (hlocals : (rest.map fun v => v.category).sum + (nativeFrameWords "java/lang/System" "arraycopy" 5 + 11) ≤ R.locals) (hdg : decode cc pc = .ok (.invokestatic ix, 3))
    (kk : ∀ (H1 : Heap) (locs1 : List Loc), hw D dA base σ1 H1 → hs base H0 H1 locs1 → W p l e R s m args below meth c H1 locs1 cells slots Q (F0 m (pc + 3) ls rest)) : W p l e R s m args below meth c H locs cells slots Q (F0 m pc ls (.int n :: .int dp :: va_rf r1 :: .int sp :: va_rf r :: rest)) := by
  obtain ⟨a0, n0, a, n1, rfl, ha0, rfl, ha1, ⟨h1, h2, h3, h4, h5⟩, rfl⟩ := o_cpy_s h
  have nn : ∀ z : Int32, ¬ z < 0 → z.toInt = (z.toNatClampNeg : Int) := by
    intro z hz
    have hz0 : (0 : Int) ≤ z.toInt := by
      have := Int32.not_lt.mp hz
      simpa using Int32.le_iff_toInt_le.mp this
    show z.toInt = ((z.toInt.toNat : Nat) : Int)
    omega
  have hx := X.1
  have hb := X.2.1
  have hK := X.2.2.2.2.2.1
  have hty := hK.2 0 (dA 0, .int) rfl
  have hc0 := (hh.2.2.2 a0).arr ha0
  have hc1 := (hh.2.2.2 a).arr ha1
  rw [hpc_i (by decide)] at hc0 hc1
  intro T hT XS
  obtain ⟨-, k0, hk0, cm0, hkk0⟩ := hty.1 n0 (fun j => .int (σ.2.1 a0 j))
  obtain ⟨-, k1, hk1, cm1, hkk1⟩ := hty.1 n1 (fun j => .int (σ.2.1 a j))
  obtain ⟨vm', X', step⟩ := XS.arraycopy hx X.2.2.1 (X.2.2.2.2.1 _ w1) (X.2.2.2.2.1 _ w2) (X.2.2.2.2.1 _ w3) (X.2.2.2.2.1 _ w4) (src := a0) (dst := a) (cs := arrV (dA 0) n0 (fun j => .int (σ.2.1 a0 j))) (cd := arrV (dA 0) n1 (fun j => .int (σ.2.1 a j))) (srcPos := sp) (destPos := dp) (n := n) (by rw [hT]; exact hc0) (by rw [hT]; exact hc1)
    (fun _ h => by cases h) (fun _ h => by cases h) (fun h => by cases h) (fun h => by cases h) hk0 hk1 hkk0 hkk1 (by simp [refKind]) h1 h2 h3
    (by rw [nn sp h1, nn n h3, arrV_size]; omega)
    (by rw [nn dp h2, nn n h3, arrV_size]; omega)
    (fun vm₁ _ i hi => by
      have e : (arrV (dA 0) n0 (fun j => .int (σ.2.1 a0 j))).slots.getD (sp.toNatClampNeg + i) .null = .int (σ.2.1 a0 (sp.toNatClampNeg + i)) := by
        rw [Array.getD_eq_getD_getElem?, arrV_read _ _ (by omega)]
        rfl
      refine ⟨?_, ?_⟩
      · rw [e]
        rfl
      · rw [e]
        exact trivial)
    (g := F0 m pc ls (.int n :: .int dp :: .ref a :: .int sp :: .ref a0 :: rest)) rfl (by rw [X.2.2.2.1]; exact hls.1) (rest := rest) rfl (by rw [hb]; exact hdg) hframes (by show 2 * 0 + _ + _ ≤ _; omega)
  have e1 : copied (arrV (dA 0) n0 (fun j => .int (σ.2.1 a0 j))) (arrV (dA 0) n1 (fun j => .int (σ.2.1 a j))) sp dp n = arrV (dA 0) n1 (fun j => .int (va_cpy (σ.2.1 a0) (σ.2.1 a) sp.toNatClampNeg dp.toNatClampNeg n.toNatClampNeg j)) := va_copied (fun z => .int z) (dA 0) (dA 0) (σ.2.1 a0) (σ.2.1 a) h4
  rw [e1] at X' step
  have hl : a < H.size := (Array.getElem?_eq_some_iff.mp hc1).1
  generalize hcell : arrV (dA 0) n1 (fun j => Value.int (va_cpy (σ.2.1 a0) (σ.2.1 a) sp.toNatClampNeg dp.toNatClampNeg n.toNatClampNeg j)) = cell at X' step
  have hheap : ((T.setVm vm').setCell a cell).heap = H.setIfInBounds a cell := by rw [← hT]; rfl
  have oq : ∀ q : Nat, q ≠ a → (H.setIfInBounds a cell)[q]? = H[q]? := fun q hq => by simp [Array.getElem?_setIfInBounds, Ne.symm hq]
  have hA : base ≤ a := hh.2.2.1 a (by rw [ha1]; simp)
  obtain ⟨t, a1, b1⟩ := kk (H.setIfInBounds a cell) _ (hh.chg (a := a) (by simp) oq rfl (fun b hb => va_up_ne _ _ hb) (fun b hb => rfl) rfl (by
    unfold hp_at
    rw [show (sI σ (va_up σ.2.1 a (va_cpy (σ.2.1 a0) (σ.2.1 a) sp.toNatClampNeg dp.toNatClampNeg n.toNatClampNeg))).1 a = some (.inr (0, n1)) from ha1]
    dsimp only
    rw [hpc_i (by decide), show (sI σ (va_up σ.2.1 a (va_cpy (σ.2.1 a0) (σ.2.1 a) sp.toNatClampNeg dp.toNatClampNeg n.toNatClampNeg))).2.1 a = va_cpy (σ.2.1 a0) (σ.2.1 a) sp.toNatClampNeg dp.toNatClampNeg n.toNatClampNeg from va_up_self _ _ _, hcell]
    simp [Array.getElem?_setIfInBounds, hl])) ⟨by simp; exact hS.1, fun q g1 g2 => by
      rw [oq q (fun e => g2 (by rw [e]; exact hA))]
      exact hS.2.1 q g1 g2, fun q hq => by
      rcases List.mem_append.mp hq with h | h
      · exact hS.2.2 q h
      · obtain ⟨z, -, hz⟩ := List.mem_map.mp h
        rw [← hz]
        exact hA⟩ _ hheap X'
  exact ⟨t, step t a1, b1⟩
end RW
