/-! The constructors of the class: disk, intake, site, the link. -/
def agr (σ σ' : hp) (lo hi : Nat) : Prop := ∀ a, lo ≤ a → a < hi → σ'.1 a = σ.1 a ∧ σ'.2.1 a = σ.2.1 a ∧ σ'.2.2.1 a = σ.2.2.1 a
theorem agr.tr {σ σ1 σ2 : hp} {lo hi : Nat} (h : agr σ σ1 lo hi) (k : agr σ1 σ2 lo hi) : agr σ σ2 lo hi := fun a a1 a2 => by
  obtain ⟨x1, x2, x3⟩ := h a a1 a2
  obtain ⟨y1, y2, y3⟩ := k a a1 a2
  exact ⟨y1.trans x1, y2.trans x2, y3.trans x3⟩
theorem ext.ag {σ σ' : hp} {k m lo hi : Nat} (x : ext σ σ' k m) (h : hi ≤ σ.2.2.2.1) : agr σ σ' lo hi := fun a _ a2 => x.2.2 a (by omega)
theorem agr.pR {σ : hp} {c j lo hi : Nat} {x : Option Nat} (h : c < lo ∨ hi ≤ c) : agr σ (sR σ (up2 σ.2.2.1 c j x)) lo hi := fun a a1 a2 => ⟨rfl, rfl, up2_ne (by omega)⟩
theorem agr.pI {σ : hp} {c lo hi : Nat} {g : Nat → Int32} (h : c < lo ∨ hi ≤ c) : agr σ (st1 σ c g) lo hi := fun a a1 a2 => ⟨rfl, st1_ne (by omega), rfl⟩
def tk (σ σ' : hp) : Prop := σ.2.2.2.1 ≤ σ'.2.2.2.1 ∧ ∀ a, a < σ.2.2.2.1 → σ'.1 a = σ.1 a
theorem tk.tr {σ σ1 σ2 : hp} (h : tk σ σ1) (k : tk σ1 σ2) : tk σ σ2 := ⟨Nat.le_trans h.1 k.1, fun a ha => (k.2 a (Nat.lt_of_lt_of_le ha h.1)).trans (h.2 a ha)⟩
theorem ext.t {σ σ' : hp} {k m : Nat} (x : ext σ σ' k m) : tk σ σ' := ⟨by rw [x.1]; omega, fun a ha => (x.2.2 a ha).1⟩
theorem wkN.ag {σ σ' : hp} {z : Nat} (h : wkN σ z) (e : agr σ σ' z (z + 42)) : wkN σ' z := ⟨by rw [(e _ (by omega) (by omega)).1]; exact h.1, by rw [(e _ (by omega) (by omega)).2.2]; exact h.2.1, by rw [(e _ (by omega) (by omega)).1]; exact h.2.2.1, fun i hi => ⟨by rw [(e _ (by omega) (by omega)).2.2]; exact (h.2.2.2 i hi).1, (h.2.2.2 i hi).2.of2 (e _ (by omega) (by omega)).1 (e _ (by omega) (by omega)).1 (e _ (by omega) (by omega)).2.2⟩⟩
theorem wkW.ag {σ σ' : hp} {w : Nat} (h : wkW σ w) (e : agr σ σ' w (w + 28)) : wkW σ' w := by
  obtain ⟨h1, h2, h3, h4, h5, h6⟩ := h
  exact ⟨by rw [(e _ (by omega) (by omega)).1]; exact h1, by rw [(e _ (by omega) (by omega)).2.2]; exact h2, by rw [(e _ (by omega) (by omega)).2.2]; exact h3, by rw [(e _ (by omega) (by omega)).1]; exact h4, h5.of2 (e _ (by omega) (by omega)).1 (e _ (by omega) (by omega)).1 (e _ (by omega) (by omega)).2.2, fun i hi => ⟨by rw [(e _ (by omega) (by omega)).2.2]; exact (h6 i hi).1, (h6 i hi).2.of2 (e _ (by omega) (by omega)).1 (e _ (by omega) (by omega)).1 (e _ (by omega) (by omega)).2.2⟩⟩
/-- a new disk -/
def dsk0 (σ : hp) (d : Nat) : Prop := σ.1 d = some (.inl 0) ∧ σ.2.2.1 d 0 = some (d + 1) ∧ σ.2.2.1 d 3 = some (d + 2) ∧ σ.1 (d + 1) = some (.inr (5, 30)) ∧ σ.1 (d + 2) = some (.inr (5, 256)) ∧ σ.2.1 d 1 = 0 ∧ σ.2.1 d 2 = 0 ∧ σ.2.1 d 4 = 0 ∧ σ.2.1 d 5 = 0
theorem dsk0.ag {σ σ' : hp} {d : Nat} (h : dsk0 σ d) (e : agr σ σ' d (d + 3)) : dsk0 σ' d := by
  unfold dsk0
  rw [(e d (by omega) (by omega)).1, (e d (by omega) (by omega)).2.1, (e d (by omega) (by omega)).2.2, (e (d + 1) (by omega) (by omega)).1, (e (d + 2) (by omega) (by omega)).1]
  exact h
theorem n_D (σ : hp) : ∃ σ', S_X0_init (hp_new σ (.inl 0) 6) σ.2.2.2.1 = some σ' ∧ ext σ σ' 3 292 ∧ dsk0 σ' σ.2.2.2.1 := by
  generalize hd : σ.2.2.2.1 = d
  generalize hσa : hp_new σ (.inl 0) 6 = σa
  have xa : ext σ σa 1 6 := by rw [← hσa]; exact ext.nw
  have na : σa.2.2.2.1 = d + 1 := by rw [xa.1, hd]
  have ta : σa.1 d = some (.inl 0) := by rw [← hσa, ← hd]; exact nw_T
  have xb := xa.tr (ext.nw (x := .inr (5, 30)) (n := 30))
  generalize hσb : hp_new σa (.inr (5, 30)) 30 = σb at xb
  have tb : σb.1 d = some (.inl 0) := by rw [← hσb]; show va_up σa.1 σa.2.2.2.1 _ d = _; rw [va_up_ne _ _ (by omega)]; exact ta
  have tb1 : σb.1 (d + 1) = some (.inr (5, 30)) := by rw [← hσb, ← na]; exact nw_T
  have nb : σb.2.2.2.1 = d + 2 := by rw [xb.1, hd]
  have xc := (xb.pR (a := d) (j := 0) (x := some (d + 1)) (by omega)).pI (a := d) (g := upd (upd (σb.2.1 d) 1 0) 2 0) (by omega)
  generalize hσc : sR σb (up2 σb.2.2.1 d 0 (some (d + 1))) = σc at xc
  have tc : σc.1 d = some (.inl 0) := by rw [← hσc]; exact tb
  have ic : σc.2.1 = σb.2.1 := by rw [← hσc]; rfl
  have rc : σc.2.2.1 d 0 = some (d + 1) := by rw [← hσc]; exact up2_s
  generalize hσd : st1 σc d (upd (upd (σb.2.1 d) 1 0) 2 0) = σd at xc
  have xe := xc.tr (ext.nw (x := .inr (5, 256)) (n := 256))
  have nd : σd.2.2.2.1 = d + 2 := by rw [xc.1, hd]
  have td : σd.1 d = some (.inl 0) := by rw [← hσd]; exact tc
  generalize hσe : hp_new σd (.inr (5, 256)) 256 = σe at xe
  have te : σe.1 d = some (.inl 0) := by rw [← hσe]; show va_up σd.1 σd.2.2.2.1 _ d = _; rw [va_up_ne _ _ (by omega)]; exact td
  have te1 : σe.1 (d + 1) = some (.inr (5, 30)) := by rw [← hσe]; show va_up σd.1 σd.2.2.2.1 _ (d + 1) = _; rw [va_up_ne _ _ (by omega), ← hσd, ← hσc]; exact tb1
  have te2 : σe.1 (d + 2) = some (.inr (5, 256)) := by rw [← hσe, ← nd]; exact nw_T
  have ie : σe.2.1 d = upd (upd (σb.2.1 d) 1 0) 2 0 := by rw [← hσe]; show va_up σd.2.1 σd.2.2.2.1 _ d = _; rw [va_up_ne _ _ (by omega), ← hσd, st1_self]
  have re : σe.2.2.1 d 0 = some (d + 1) := by rw [← hσe]; show va_up σd.2.2.1 σd.2.2.2.1 _ d 0 = _; rw [va_up_ne _ _ (by omega), ← hσd]; exact rc
  have xf := (xe.pR (a := d) (j := 3) (x := some (d + 2)) (by omega)).pI (a := d) (g := upd (upd (σe.2.1 d) 4 0) 5 0) (by omega)
  generalize hσf : sR σe (up2 σe.2.2.1 d 3 (some (d + 2))) = σf at xf
  have tf : σf.1 d = some (.inl 0) := by rw [← hσf]; exact te
  have if_ : σf.2.1 = σe.2.1 := by rw [← hσf]; rfl
  have wc : ∀ g : Nat → Int32, (st1 σc d g).1 d = some (.inl 0) := fun g => tc
  have wf : ∀ g : Nat → Int32, (st1 σf d g).1 d = some (.inl 0) := fun g => tf
  simp only [S_X0_init, S_X0_init_10, S_X0_init_30, w_naN (n := 30) (show (30 : Int32) = nI 30 from rfl) (by decide), na, Option.bind_some, hσb, w_pR tb, hσc, w_pI tc, w_pI (wc _), st1_self, st1_st1, ic, hσd, w_naN (n := 256) (show (256 : Int32) = nI 256 from rfl) (by decide), nd, hσe, w_pR te, hσf, w_pI tf, w_pI (wf _), if_]
  refine ⟨_, rfl, xf, tf, ?_, ?_, ?_, ?_, ?_, ?_, ?_, ?_⟩
  · show σf.2.2.1 d 0 = _
    rw [← hσf]
    show up2 σe.2.2.1 d 3 _ d 0 = _
    rw [up2_at, if_neg (by decide)]
    exact re
  · show σf.2.2.1 d 3 = _
    rw [← hσf]
    exact up2_s
  · show σf.1 (d + 1) = _
    rw [← hσf]
    exact te1
  · show σf.1 (d + 2) = _
    rw [← hσf]
    exact te2
  · rw [st1_self, u_n (by decide), u_n (by decide), ie, u_n (by decide), u_s]
  · rw [st1_self, u_n (by decide), u_n (by decide), ie, u_s]
  · rw [st1_self, u_n (by decide), u_s]
  · rw [st1_self, u_s]
/-- a new intake -/
def ink0 (σ : hp) (k : Nat) : Prop := σ.1 k = some (.inl 1) ∧ σ.2.2.1 k 0 = some (k + 1) ∧ σ.1 (k + 1) = some (.inr (0, 100)) ∧ σ.2.1 k 1 = 0 ∧ σ.2.1 k 2 = 0 ∧ σ.2.1 k 3 = 0 ∧ σ.2.1 k 4 = 0 ∧ σ.2.1 (k + 1) = fun _ => 0
theorem ink0.ag {σ σ' : hp} {d : Nat} (h : ink0 σ d) (e : agr σ σ' d (d + 2)) : ink0 σ' d := by
  unfold ink0
  rw [(e d (by omega) (by omega)).1, (e d (by omega) (by omega)).2.1, (e d (by omega) (by omega)).2.2, (e (d + 1) (by omega) (by omega)).1, (e (d + 1) (by omega) (by omega)).2.1]
  exact h
theorem n_I (σ : hp) : ∃ σ', S_X1_init (hp_new σ (.inl 1) 5) σ.2.2.2.1 = some σ' ∧ ext σ σ' 2 105 ∧ ink0 σ' σ.2.2.2.1 := by
  generalize hd : σ.2.2.2.1 = d
  generalize hσa : hp_new σ (.inl 1) 5 = σa
  have xa : ext σ σa 1 5 := by rw [← hσa]; exact ext.nw
  have na : σa.2.2.2.1 = d + 1 := by rw [xa.1, hd]
  have ta : σa.1 d = some (.inl 1) := by rw [← hσa, ← hd]; exact nw_T
  have xb := xa.tr (ext.nw (x := .inr (0, 100)) (n := 100))
  generalize hσb : hp_new σa (.inr (0, 100)) 100 = σb at xb
  have tb : σb.1 d = some (.inl 1) := by rw [← hσb]; show va_up σa.1 σa.2.2.2.1 _ d = _; rw [va_up_ne _ _ (by omega)]; exact ta
  have tb1 : σb.1 (d + 1) = some (.inr (0, 100)) := by rw [← hσb, ← na]; exact nw_T
  have ib1 : σb.2.1 (d + 1) = fun _ => 0 := by rw [← hσb, ← na]; exact nw_I
  have xc := (xb.pR (a := d) (j := 0) (x := some (d + 1)) (by omega)).pI (a := d) (g := upd (upd (upd (upd (σb.2.1 d) 1 0) 2 0) 3 0) 4 0) (by omega)
  generalize hσc : sR σb (up2 σb.2.2.1 d 0 (some (d + 1))) = σc at xc
  have tc : σc.1 d = some (.inl 1) := by rw [← hσc]; exact tb
  have ic : σc.2.1 = σb.2.1 := by rw [← hσc]; rfl
  have wc : ∀ g : Nat → Int32, (st1 σc d g).1 d = some (.inl 1) := fun g => tc
  simp only [S_X1_init, S_X1_init_9, w_naN (n := 100) (show (100 : Int32) = nI 100 from rfl) (by decide), na, Option.bind_some, hσb, w_pR tb, hσc, w_z0, w_pI tc, w_pI (wc _), st1_self, st1_st1, ic]
  refine ⟨_, rfl, xc, tc, ?_, ?_, ?_, ?_, ?_, ?_, ?_⟩
  · show σc.2.2.1 d 0 = _
    rw [← hσc]
    exact up2_s
  · show σc.1 (d + 1) = _
    rw [← hσc]
    exact tb1
  · rw [st1_self, u_n (by decide), u_n (by decide), u_n (by decide), u_s]
  · rw [st1_self, u_n (by decide), u_n (by decide), u_s]
  · rw [st1_self, u_n (by decide), u_s]
  · rw [st1_self, u_s]
  · rw [st1_ne (by omega), ic]
    exact ib1
/-- a new site -/
def sit0 (σ : hp) (s w : Nat) (x : Int32) : Prop := σ.1 s = some (.inl 5) ∧ σ.2.2.1 s 1 = some w ∧ σ.2.2.1 s 2 = some (s + 1) ∧ σ.2.2.1 s 3 = some (s + 4) ∧ σ.2.2.1 s 4 = some (s + 46) ∧ dsk0 σ (s + 1) ∧ wkN σ (s + 4) ∧ winC σ (s + 4) 1 [] [] ∧ ink0 σ (s + 46) ∧ σ.2.1 s 0 = x ∧ σ.2.1 s 5 = 0 ∧ σ.2.1 s 8 = 0 ∧ σ.2.1 s 9 = 0 ∧ σ.2.1 s 11 = 0
theorem sit0.ag {σ σ' : hp} {s w : Nat} {x : Int32} (h : sit0 σ s w x) (e : agr σ σ' s (s + 48)) : sit0 σ' s w x := by
  obtain ⟨h1, h2, h3, h4, h5, h6, h7, h8, h9, h10⟩ := h
  refine ⟨by rw [(e s (by omega) (by omega)).1]; exact h1, by rw [(e s (by omega) (by omega)).2.2]; exact h2, by rw [(e s (by omega) (by omega)).2.2]; exact h3, by rw [(e s (by omega) (by omega)).2.2]; exact h4, by rw [(e s (by omega) (by omega)).2.2]; exact h5, h6.ag (fun a a1 a2 => e a (by omega) (by omega)), h7.ag (fun a a1 a2 => e a (by omega) (by omega)), h8.cg (fun a a1 a2 => (e a (by omega) (by omega)).2.1), h9.ag (fun a a1 a2 => e a (by omega) (by omega)), ?_⟩
  rw [(e s (by omega) (by omega)).2.1]
  exact h10
theorem n_S (σ : hp) (x : Int32) (w : Nat) : ∃ σ', S_X5_init (hp_new σ (.inl 5) 13) σ.2.2.2.1 x (some w) = some σ' ∧ ext σ σ' 48 1095 ∧ sit0 σ' σ.2.2.2.1 w x := by
  generalize hs : σ.2.2.2.1 = s
  generalize hσa : hp_new σ (.inl 5) 13 = σa
  have xa : ext σ σa 1 13 := by rw [← hσa]; exact ext.nw
  have na : σa.2.2.2.1 = s + 1 := by rw [xa.1, hs]
  have ta : σa.1 s = some (.inl 5) := by rw [← hσa, ← hs]; exact nw_T
  obtain ⟨σ1, e1, x1, D1⟩ := n_D σa
  have r0 : (hp_new σa (.inl 0) 6).1 σa.2.2.2.1 = some (.inl 0) := nw_T
  rw [na] at D1 e1 r0
  have t1 : σ1.1 s = some (.inl 5) := by rw [(x1.2.2 _ (by omega)).1]; exact ta
  have y1 := xa.tr x1
  have y2 := y1.pR (a := s) (j := 2) (x := some (s + 1)) (by omega)
  have g2 := agr.pR (σ := σ1) (c := s) (j := 2) (x := some (s + 1)) (lo := s + 1) (hi := s + 4) (by omega)
  have p2 : (sR σ1 (up2 σ1.2.2.1 s 2 (some (s + 1)))).2.2.1 s 2 = some (s + 1) := up2_s
  have t2 : (sR σ1 (up2 σ1.2.2.1 s 2 (some (s + 1)))).1 s = some (.inl 5) := t1
  generalize hσ2 : sR σ1 (up2 σ1.2.2.1 s 2 (some (s + 1))) = σ2 at y2 g2 p2 t2
  have n2 : σ2.2.2.2.1 = s + 4 := by rw [y2.1, hs]
  obtain ⟨σ3, e3, x3, N3, W3⟩ := n_Z σ2
  have r6 : (hp_new σ2 (.inl 6) 5).1 σ2.2.2.2.1 = some (.inl 6) := nw_T
  rw [n2] at N3 W3 e3 r6
  have t3 : σ3.1 s = some (.inl 5) := by rw [(x3.2.2 _ (by omega)).1]; exact t2
  have p3 : σ3.2.2.1 s 2 = some (s + 1) := by rw [(x3.2.2 _ (by omega)).2.2]; exact p2
  have g3 : agr σ1 σ3 (s + 1) (s + 4) := g2.tr (x3.ag (by omega))
  have y4 := (y2.tr x3).pR (a := s) (j := 3) (x := some (s + 4)) (by omega)
  have g4 := agr.pR (σ := σ3) (c := s) (j := 3) (x := some (s + 4)) (lo := s + 1) (hi := s + 46) (by omega)
  have p4 : (sR σ3 (up2 σ3.2.2.1 s 3 (some (s + 4)))).2.2.1 s 3 = some (s + 4) := up2_s
  have p4' : (sR σ3 (up2 σ3.2.2.1 s 3 (some (s + 4)))).2.2.1 s 2 = some (s + 1) := by show up2 σ3.2.2.1 s 3 _ s 2 = _; rw [up2_at, if_neg (by decide)]; exact p3
  have t4 : (sR σ3 (up2 σ3.2.2.1 s 3 (some (s + 4)))).1 s = some (.inl 5) := t3
  generalize hσ4 : sR σ3 (up2 σ3.2.2.1 s 3 (some (s + 4))) = σ4 at y4 g4 p4 p4' t4
  have n4 : σ4.2.2.2.1 = s + 46 := by rw [y4.1, hs]
  obtain ⟨σ5, e5, x5, I5⟩ := n_I σ4
  have r1 : (hp_new σ4 (.inl 1) 5).1 σ4.2.2.2.1 = some (.inl 1) := nw_T
  rw [n4] at I5 e5 r1
  have t5 : σ5.1 s = some (.inl 5) := by rw [(x5.2.2 _ (by omega)).1]; exact t4
  have p5 : σ5.2.2.1 s = σ4.2.2.1 s := (x5.2.2 _ (by omega)).2.2
  have g5 : agr σ3 σ5 (s + 1) (s + 46) := g4.tr (x5.ag (by omega))
  have y6 := (y4.tr x5).pR (a := s) (j := 4) (x := some (s + 46)) (by omega)
  have g6 := agr.pR (σ := σ5) (c := s) (j := 4) (x := some (s + 46)) (lo := s + 1) (hi := s + 48) (by omega)
  have q6 : (sR σ5 (up2 σ5.2.2.1 s 4 (some (s + 46)))).2.2.1 s = fun j => if j = 4 then some (s + 46) else σ4.2.2.1 s j := by
    funext j
    show up2 σ5.2.2.1 s 4 _ s j = _
    rw [up2_at, p5]
  have t6 : (sR σ5 (up2 σ5.2.2.1 s 4 (some (s + 46)))).1 s = some (.inl 5) := t5
  generalize hσ6 : sR σ5 (up2 σ5.2.2.1 s 4 (some (s + 46))) = σ6 at y6 g6 q6 t6
  have w6 : ∀ g : Nat → Int32, (st1 σ6 s g).1 s = some (.inl 5) := fun g => t6
  simp only [S_X5_init, S_X5_init_8, S_X5_init_12, S_X5_init_19, S_X5_init_23, S_X5_init_30, S_X5_init_34, o_nw, na, Option.bind_some, w_rcv r0, e1, w_pR t1, hσ2, n2, w_rcv r6, e3, w_pR t3, hσ4, n4, w_rcv r1, e5, w_pR t5, hσ6, w_pI t6, w_pI (w6 _), st1_self, st1_st1, w_z0, w_pR (w6 _)]
  have y7 := (y6.pI (a := s) (g := upd (upd (upd (upd (upd (upd (upd (upd (upd (σ6.2.1 s) 5 0) 6 0) 7 (-1)) 8 0) 9 0) 10 0) 11 0) 12 0) 0 x) (by omega)).pR (a := s) (j := 1) (x := some w) (by omega)
  have g7 : agr σ5 (sR (st1 σ6 s (upd (upd (upd (upd (upd (upd (upd (upd (upd (σ6.2.1 s) 5 0) 6 0) 7 (-1)) 8 0) 9 0) 10 0) 11 0) 12 0) 0 x)) (up2 (st1 σ6 s (upd (upd (upd (upd (upd (upd (upd (upd (upd (σ6.2.1 s) 5 0) 6 0) 7 (-1)) 8 0) 9 0) 10 0) 11 0) 12 0) 0 x)).2.2.1 s 1 (some w))) (s + 1) (s + 48) := (g6.tr (agr.pI (by omega))).tr (agr.pR (by omega))
  refine ⟨_, rfl, y7, t6, up2_s, ?_, ?_, ?_, ?_, ?_, ?_, ?_, ?_, ?_, ?_, ?_, ?_⟩
  · show up2 σ6.2.2.1 s 1 _ s 2 = _
    rw [up2_at, if_neg (by decide), q6]
    show (if 2 = 4 then _ else _) = _
    rw [if_neg (by decide)]
    exact p4'
  · show up2 σ6.2.2.1 s 1 _ s 3 = _
    rw [up2_at, if_neg (by decide), q6]
    show (if 3 = 4 then _ else _) = _
    rw [if_neg (by decide)]
    exact p4
  · show up2 σ6.2.2.1 s 1 _ s 4 = _
    rw [up2_at, if_neg (by decide), q6]
    show (if 4 = 4 then _ else _) = _
    rw [if_pos rfl]
  · exact D1.ag ((g3.tr (fun a a1 a2 => g5 a (by omega) (by omega))).tr (fun a a1 a2 => g7 a (by omega) (by omega)))
  · exact N3.ag (fun a a1 a2 => (g5.tr (fun a a1 a2 => g7 a (by omega) (by omega))) a (by omega) (by omega))
  · exact W3.cg (fun a a1 a2 => ((g5.tr (fun a a1 a2 => g7 a (by omega) (by omega))) a (by omega) (by omega)).2.1)
  · exact I5.ag (fun a a1 a2 => g7 a (by omega) (by omega))
  · show (st1 σ6 s _).2.1 s 0 = x
    rw [st1_self, u_s]
  · show (st1 σ6 s _).2.1 s 5 = 0
    rw [st1_self, u_n (by decide), u_n (by decide), u_n (by decide), u_n (by decide), u_n (by decide), u_n (by decide), u_n (by decide), u_n (by decide), u_s]
  · show (st1 σ6 s _).2.1 s 8 = 0
    rw [st1_self, u_n (by decide), u_n (by decide), u_n (by decide), u_n (by decide), u_n (by decide), u_s]
  · show (st1 σ6 s _).2.1 s 9 = 0
    rw [st1_self, u_n (by decide), u_n (by decide), u_n (by decide), u_n (by decide), u_s]
  · show (st1 σ6 s _).2.1 s 11 = 0
    rw [st1_self, u_n (by decide), u_n (by decide), u_s]
