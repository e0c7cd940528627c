/-! The constructor of the link; the abstract link at the start. -/
theorem n_L (σ : hp) : ∃ σ', S_X8_init (hp_new σ (.inl 8) 4) σ.2.2.2.1 = some σ' ∧ ext σ σ' 156 3370 ∧ wkO σ' σ.2.2.2.1 ∧ (∀ t, t < 2 → wkW σ' (σ.2.2.2.1 + 2 + 28 * t) ∧ wireC σ' (σ.2.2.2.1 + 2 + 28 * t) [] ∧ sit0 σ' (σ.2.2.2.1 + 59 + 48 * t) (σ.2.2.2.1 + 2 + 28 * t) (nI t)) ∧ σ'.2.1 (σ.2.2.2.1 + 155) = (fun _ => 0) ∧ σ'.2.1 σ.2.2.2.1 3 = 0 := by
  generalize ho : σ.2.2.2.1 = o
  generalize hσa : hp_new σ (.inl 8) 4 = σa
  have xa : ext σ σa 1 4 := by rw [← hσa]; exact ext.nw
  have na : σa.2.2.2.1 = o + 1 := by rw [xa.1, ho]
  have ta : σa.1 o = some (.inl 8) := by rw [← hσa, ← ho]; exact nw_T
  -- the wires' array
  have xb := xa.tr (ext.nw (x := .inr (2, 2)) (n := 2))
  have Tb := (ext.nw (σ := σa) (x := .inr (2, 2)) (n := 2)).t
  have tb1 : (hp_new σa (.inr (2, 2)) 2).1 (o + 1) = some (.inr (2, 2)) := by rw [← na]; exact nw_T
  generalize hσb : hp_new σa (.inr (2, 2)) 2 = σb at xb Tb tb1
  have nb : σb.2.2.2.1 = o + 2 := by rw [xb.1, ho]
  -- wire 0
  obtain ⟨σc, ec, xc, Wc, Qc⟩ := n_W σb
  have rc : (hp_new σb (.inl 7) 4).1 σb.2.2.2.1 = some (.inl 7) := nw_T
  rw [nb] at ec Wc Qc rc
  have tc1 : σc.1 (o + 1) = some (.inr (2, 2)) := by rw [(xc.2.2 _ (by omega)).1]; exact tb1
  have yc := xb.tr xc
  have yd := yc.pR (a := o + 1) (j := 0) (x := some (o + 2)) (by omega)
  have gd := agr.pR (σ := σc) (c := o + 1) (j := 0) (x := some (o + 2)) (lo := o + 2) (hi := o + 30) (by omega)
  have pd : (sR σc (up2 σc.2.2.1 (o + 1) 0 (some (o + 2)))).2.2.1 (o + 1) 0 = some (o + 2) := up2_s
  have td1 : (sR σc (up2 σc.2.2.1 (o + 1) 0 (some (o + 2)))).1 (o + 1) = some (.inr (2, 2)) := tc1
  generalize hσd : sR σc (up2 σc.2.2.1 (o + 1) 0 (some (o + 2))) = σd at yd gd pd td1
  have nd : σd.2.2.2.1 = o + 30 := by rw [yd.1, ho]
  -- wire 1
  obtain ⟨σe, ee, xe, We, Qe⟩ := n_W σd
  have re : (hp_new σd (.inl 7) 4).1 σd.2.2.2.1 = some (.inl 7) := nw_T
  rw [nd] at ee We Qe re
  have te1 : σe.1 (o + 1) = some (.inr (2, 2)) := by rw [(xe.2.2 _ (by omega)).1]; exact td1
  have pe : σe.2.2.1 (o + 1) 0 = some (o + 2) := by rw [(xe.2.2 _ (by omega)).2.2]; exact pd
  have ye := yd.tr xe
  have yf := ye.pR (a := o + 1) (j := 1) (x := some (o + 30)) (by omega)
  have gf := agr.pR (σ := σe) (c := o + 1) (j := 1) (x := some (o + 30)) (lo := o + 2) (hi := o + 58) (by omega)
  have pf0 : (sR σe (up2 σe.2.2.1 (o + 1) 1 (some (o + 30)))).2.2.1 (o + 1) 0 = some (o + 2) := by show up2 σe.2.2.1 (o + 1) 1 _ (o + 1) 0 = _; rw [up2_at, if_neg (by decide)]; exact pe
  have pf1 : (sR σe (up2 σe.2.2.1 (o + 1) 1 (some (o + 30)))).2.2.1 (o + 1) 1 = some (o + 30) := up2_s
  have tf1 : (sR σe (up2 σe.2.2.1 (o + 1) 1 (some (o + 30)))).1 (o + 1) = some (.inr (2, 2)) := te1
  have tf : (sR σe (up2 σe.2.2.1 (o + 1) 1 (some (o + 30)))).1 o = some (.inl 8) := by show σe.1 o = _; rw [(xe.2.2 _ (by omega)).1, ← hσd]; show σc.1 o = _; rw [(xc.2.2 _ (by omega)).1, Tb.2 _ (by omega)]; exact ta
  generalize hσf : sR σe (up2 σe.2.2.1 (o + 1) 1 (some (o + 30))) = σf at yf gf pf0 pf1 tf1 tf
  -- field 0
  have yg := yf.pR (a := o) (j := 0) (x := some (o + 1)) (by omega)
  have gg := agr.pR (σ := σf) (c := o) (j := 0) (x := some (o + 1)) (lo := o + 1) (hi := o + 58) (by omega)
  have pg : (sR σf (up2 σf.2.2.1 o 0 (some (o + 1)))).2.2.1 o 0 = some (o + 1) := up2_s
  have tg : (sR σf (up2 σf.2.2.1 o 0 (some (o + 1)))).1 o = some (.inl 8) := tf
  generalize hσg : sR σf (up2 σf.2.2.1 o 0 (some (o + 1))) = σg at yg gg pg tg
  have ng : σg.2.2.2.1 = o + 58 := by rw [yg.1, ho]
  -- the sites' array
  have xh := ext.nw (σ := σg) (x := .inr (4, 2)) (n := 2)
  have th58 : (hp_new σg (.inr (4, 2)) 2).1 (o + 58) = some (.inr (4, 2)) := by rw [← ng]; exact nw_T
  generalize hσh : hp_new σg (.inr (4, 2)) 2 = σh at xh th58
  have nh : σh.2.2.2.1 = o + 59 := by rw [xh.1, ng]
  have gh : agr σf σh (o + 1) (o + 58) := gg.tr (xh.ag (by omega))
  have th : σh.1 o = some (.inl 8) := by rw [(xh.2.2 _ (by omega)).1]; exact tg
  have ph : σh.2.2.1 o 0 = some (o + 1) := by rw [(xh.2.2 _ (by omega)).2.2]; exact pg
  -- site 0
  have xh2 := ext.nw (σ := σh) (x := .inl 5) (n := 13)
  have gh2 : agr σf (hp_new σh (.inl 5) 13) (o + 1) (o + 58) := gh.tr (xh2.ag (by omega))
  have th2 : (hp_new σh (.inl 5) 13).1 o = some (.inl 8) := by rw [(xh2.2.2 _ (by omega)).1]; exact th
  have ph2 : (hp_new σh (.inl 5) 13).2.2.1 o 0 = some (o + 1) := by rw [(xh2.2.2 _ (by omega)).2.2]; exact ph
  have rh2 : (hp_new σh (.inl 5) 13).1 (o + 59) = some (.inl 5) := by rw [← nh]; exact nw_T
  have ld0 : o_ldQ (hp_new σh (.inl 5) 13) 2 (some (o + 1)) 0 = some (some (o + 2)) := by
    rw [show (0 : Int32) = nI 0 from rfl, w_ldQ (by rw [(gh2 _ (by omega) (by omega)).1]; exact tf1) (by decide) (by decide), (gh2 _ (by omega) (by omega)).2.2, pf0]
  obtain ⟨σi, ei, xi, Si⟩ := n_S σh 0 (o + 2)
  rw [nh] at ei Si
  have gi : agr σf σi (o + 1) (o + 58) := gh.tr (xi.ag (by omega))
  have ti58 : σi.1 (o + 58) = some (.inr (4, 2)) := by rw [(xi.2.2 _ (by omega)).1]; exact th58
  have ti : σi.1 o = some (.inl 8) := by rw [(xi.2.2 _ (by omega)).1]; exact th
  have pi : σi.2.2.1 o 0 = some (o + 1) := by rw [(xi.2.2 _ (by omega)).2.2]; exact ph
  have yi := (yg.tr xh).tr xi
  have yj := yi.pR (a := o + 58) (j := 0) (x := some (o + 59)) (by omega)
  have gj := agr.pR (σ := σi) (c := o + 58) (j := 0) (x := some (o + 59)) (lo := o) (hi := o + 58) (by omega)
  have gj2 := agr.pR (σ := σi) (c := o + 58) (j := 0) (x := some (o + 59)) (lo := o + 59) (hi := o + 107) (by omega)
  have pj : (sR σi (up2 σi.2.2.1 (o + 58) 0 (some (o + 59)))).2.2.1 (o + 58) 0 = some (o + 59) := up2_s
  have tj58 : (sR σi (up2 σi.2.2.1 (o + 58) 0 (some (o + 59)))).1 (o + 58) = some (.inr (4, 2)) := ti58
  generalize hσj : sR σi (up2 σi.2.2.1 (o + 58) 0 (some (o + 59))) = σj at yj gj gj2 pj tj58
  have nj : σj.2.2.2.1 = o + 107 := by rw [yj.1, ho]
  have tj : σj.1 o = some (.inl 8) := by rw [(gj o (by omega) (by omega)).1]; exact ti
  have pj0 : σj.2.2.1 o 0 = some (o + 1) := by rw [(gj o (by omega) (by omega)).2.2]; exact pi
  have gfj : agr σf σj (o + 1) (o + 58) := gi.tr (fun a a1 a2 => gj a (by omega) a2)
  -- site 1
  have xj2 := ext.nw (σ := σj) (x := .inl 5) (n := 13)
  have gj3 : agr σf (hp_new σj (.inl 5) 13) (o + 1) (o + 58) := gfj.tr (xj2.ag (by omega))
  have tj2 : (hp_new σj (.inl 5) 13).1 o = some (.inl 8) := by rw [(xj2.2.2 _ (by omega)).1]; exact tj
  have pj2 : (hp_new σj (.inl 5) 13).2.2.1 o 0 = some (o + 1) := by rw [(xj2.2.2 _ (by omega)).2.2]; exact pj0
  have rj2 : (hp_new σj (.inl 5) 13).1 (o + 107) = some (.inl 5) := by rw [← nj]; exact nw_T
  have ld1 : o_ldQ (hp_new σj (.inl 5) 13) 2 (some (o + 1)) 1 = some (some (o + 30)) := by
    rw [show (1 : Int32) = nI 1 from rfl, w_ldQ (by rw [(gj3 _ (by omega) (by omega)).1]; exact tf1) (by decide) (by decide), (gj3 _ (by omega) (by omega)).2.2, pf1]
  obtain ⟨σk, ek, xk, Sk⟩ := n_S σj 1 (o + 30)
  rw [nj] at ek Sk
  have gk : agr σf σk (o + 1) (o + 58) := gfj.tr (xk.ag (by omega))
  have gik : agr σi σk (o + 59) (o + 107) := gj2.tr (xk.ag (by omega))
  have tk58 : σk.1 (o + 58) = some (.inr (4, 2)) := by rw [(xk.2.2 _ (by omega)).1]; exact tj58
  have tk0 : σk.1 o = some (.inl 8) := by rw [(xk.2.2 _ (by omega)).1]; exact tj
  have pk0 : σk.2.2.1 o 0 = some (o + 1) := by rw [(xk.2.2 _ (by omega)).2.2]; exact pj0
  have pk58 : σk.2.2.1 (o + 58) 0 = some (o + 59) := by rw [(xk.2.2 _ (by omega)).2.2]; exact pj
  have yl := (yj.tr xk).pR (a := o + 58) (j := 1) (x := some (o + 107)) (by omega)
  have gl := agr.pR (σ := σk) (c := o + 58) (j := 1) (x := some (o + 107)) (lo := o) (hi := o + 58) (by omega)
  have gl2 := agr.pR (σ := σk) (c := o + 58) (j := 1) (x := some (o + 107)) (lo := o + 59) (hi := o + 155) (by omega)
  have pl0 : (sR σk (up2 σk.2.2.1 (o + 58) 1 (some (o + 107)))).2.2.1 (o + 58) 0 = some (o + 59) := by show up2 σk.2.2.1 (o + 58) 1 _ (o + 58) 0 = _; rw [up2_at, if_neg (by decide)]; exact pk58
  have pl1 : (sR σk (up2 σk.2.2.1 (o + 58) 1 (some (o + 107)))).2.2.1 (o + 58) 1 = some (o + 107) := up2_s
  have tl58 : (sR σk (up2 σk.2.2.1 (o + 58) 1 (some (o + 107)))).1 (o + 58) = some (.inr (4, 2)) := tk58
  generalize hσl : sR σk (up2 σk.2.2.1 (o + 58) 1 (some (o + 107))) = σl at yl gl gl2 pl0 pl1 tl58
  have tl : σl.1 o = some (.inl 8) := by rw [(gl o (by omega) (by omega)).1]; exact tk0
  have pl : σl.2.2.1 o 0 = some (o + 1) := by rw [(gl o (by omega) (by omega)).2.2]; exact pk0
  have gfl : agr σf σl (o + 1) (o + 58) := gk.tr (fun a a1 a2 => gl a (by omega) a2)
  -- field 1, the next file
  have ym := yl.pR (a := o) (j := 1) (x := some (o + 58)) (by omega)
  have gm := agr.pR (σ := σl) (c := o) (j := 1) (x := some (o + 58)) (lo := o + 1) (hi := o + 155) (by omega)
  have pm0 : (sR σl (up2 σl.2.2.1 o 1 (some (o + 58)))).2.2.1 o 0 = some (o + 1) := by show up2 σl.2.2.1 o 1 _ o 0 = _; rw [up2_at, if_neg (by decide)]; exact pl
  have pm1 : (sR σl (up2 σl.2.2.1 o 1 (some (o + 58)))).2.2.1 o 1 = some (o + 58) := up2_s
  have tm : (sR σl (up2 σl.2.2.1 o 1 (some (o + 58)))).1 o = some (.inl 8) := tl
  generalize hσm : sR σl (up2 σl.2.2.1 o 1 (some (o + 58))) = σm at ym gm pm0 pm1 tm
  have nm : σm.2.2.2.1 = o + 155 := by rw [ym.1, ho]
  have xn := ext.nw (σ := σm) (x := .inr (0, 100)) (n := 100)
  have tn155 : (hp_new σm (.inr (0, 100)) 100).1 (o + 155) = some (.inr (0, 100)) := by rw [← nm]; exact nw_T
  have in155 : (hp_new σm (.inr (0, 100)) 100).2.1 (o + 155) = fun _ => 0 := by rw [← nm]; exact nw_I
  have yn := ym.tr xn
  generalize hσn : hp_new σm (.inr (0, 100)) 100 = σn at xn tn155 in155 yn
  have gn : agr σl σn (o + 1) (o + 155) := gm.tr (xn.ag (by omega))
  have tn : σn.1 o = some (.inl 8) := by rw [(xn.2.2 _ (by omega)).1]; exact tm
  have pn0 : σn.2.2.1 o 0 = some (o + 1) := by rw [(xn.2.2 _ (by omega)).2.2]; exact pm0
  have pn1 : σn.2.2.1 o 1 = some (o + 58) := by rw [(xn.2.2 _ (by omega)).2.2]; exact pm1
  have yp := yn.pR (a := o) (j := 2) (x := some (o + 155)) (by omega)
  have gp := agr.pR (σ := σn) (c := o) (j := 2) (x := some (o + 155)) (lo := o + 1) (hi := o + 156) (by omega)
  have pp0 : (sR σn (up2 σn.2.2.1 o 2 (some (o + 155)))).2.2.1 o 0 = some (o + 1) := by show up2 σn.2.2.1 o 2 _ o 0 = _; rw [up2_at, if_neg (by decide)]; exact pn0
  have pp1 : (sR σn (up2 σn.2.2.1 o 2 (some (o + 155)))).2.2.1 o 1 = some (o + 58) := by show up2 σn.2.2.1 o 2 _ o 1 = _; rw [up2_at, if_neg (by decide)]; exact pn1
  have pp2 : (sR σn (up2 σn.2.2.1 o 2 (some (o + 155)))).2.2.1 o 2 = some (o + 155) := up2_s
  have tp : (sR σn (up2 σn.2.2.1 o 2 (some (o + 155)))).1 o = some (.inl 8) := tn
  generalize hσp : sR σn (up2 σn.2.2.1 o 2 (some (o + 155))) = σp at yp gp pp0 pp1 pp2 tp
  have yq := yp.pI (a := o) (g := upd (σp.2.1 o) 3 0) (by omega)
  have gq := agr.pI (σ := σp) (c := o) (g := upd (σp.2.1 o) 3 0) (lo := o + 1) (hi := o + 156) (by omega)
  have iq : (st1 σp o (upd (σp.2.1 o) 3 0)).2.1 o 3 = 0 := by rw [st1_self, u_s]
  have Tq : (st1 σp o (upd (σp.2.1 o) 3 0)).1 = σp.1 := rfl
  have Rq : (st1 σp o (upd (σp.2.1 o) 3 0)).2.2.1 = σp.2.2.1 := rfl
  have e30 : o_stQ σc 2 7 (some (o + 1)) 0 (some (o + 2)) = some σd := by
    rw [show (0 : Int32) = nI 0 from rfl, w_stQ tc1 (by decide) (by decide) Wc.1, hσd]
  have e31 : o_stQ σe 2 7 (some (o + 1)) 1 (some (o + 30)) = some σf := by
    rw [show (1 : Int32) = nI 1 from rfl, w_stQ te1 (by decide) (by decide) We.1, hσf]
  have e32 : o_stQ σi 4 5 (some (o + 58)) 0 (some (o + 59)) = some σj := by
    rw [show (0 : Int32) = nI 0 from rfl, w_stQ ti58 (by decide) (by decide) Si.1, hσj]
  have e33 : o_stQ σk 4 5 (some (o + 58)) 1 (some (o + 107)) = some σl := by
    rw [show (1 : Int32) = nI 1 from rfl, w_stQ tk58 (by decide) (by decide) Sk.1, hσl]
  simp only [S_X8_init, S_X8_init_9, S_X8_init_14, S_X8_init_18, w_naN (n := 2) (show (2 : Int32) = nI 2 from rfl) (by decide), na, Option.bind_some, hσb, o_nw, nb, w_rcv rc, ec, e30, nd, S_X8_init_24, w_rcv re, ee, S_X8_init_28, e31, w_pR tf, hσg, ng, hσh, S_X8_init_37, nh, S_X8_init_42, w_gR th2, ph2, ld0, w_rcv rh2, ei, S_X8_init_53, e32, nj, S_X8_init_59, w_gR tj2, pj2, ld1, w_rcv rj2, ek, S_X8_init_70, e33, w_pR tl, hσm, w_naN (n := 100) (show (100 : Int32) = nI 100 from rfl) (by decide), nm, hσn, S_X8_init_79, w_pR tn, hσp, w_pI tp]
  generalize st1 σp o (upd (σp.2.1 o) 3 0) = σq at yq gq iq Tq Rq
  have gnq : agr σn σq (o + 1) (o + 155) := fun a a1 a2 => (gp.tr gq) a a1 (by omega)
  have gfq : agr σf σq (o + 1) (o + 58) := gfl.tr (fun a a1 a2 => (gn.tr gnq) a a1 (by omega))
  have glq : agr σl σq (o + 1) (o + 155) := gn.tr gnq
  have gW0 : agr σc σq (o + 2) (o + 30) := ((gd.tr (xe.ag (by omega))).tr (fun a a1 a2 => gf a a1 (by omega))).tr (fun a a1 a2 => gfq a (by omega) (by omega))
  have gW1 : agr σe σq (o + 30) (o + 58) := agr.tr (σ1 := σf) (fun a a1 a2 => gf a (by omega) (by omega)) (fun a a1 a2 => gfq a (by omega) (by omega))
  have gS0 : agr σi σq (o + 59) (o + 107) := (gik.tr (fun a a1 a2 => gl2 a a1 (by omega))).tr (fun a a1 a2 => glq a (by omega) (by omega))
  have gS1 : agr σk σq (o + 107) (o + 155) := agr.tr (σ1 := σl) (fun a a1 a2 => gl2 a (by omega) a2) (fun a a1 a2 => glq a (by omega) (by omega))
  refine ⟨σq, rfl, yq, ⟨by rw [Tq]; exact tp, by rw [Rq]; exact pp0, by rw [Rq]; exact pp1, by rw [Rq]; exact pp2, by rw [(gfq _ (by omega) (by omega)).1]; exact tf1, by rw [(glq _ (by omega) (by omega)).1]; exact tl58, ?_, fun t ht => ?_⟩, fun t ht => ?_, ?_, iq⟩
  · rw [(gp.tr gq (o + 155) (by omega) (by omega)).1]; exact tn155
  · rw [(gfq (o + 1) (by omega) (by omega)).2.2, (glq (o + 58) (by omega) (by omega)).2.2]
    rcases (show t = 0 ∨ t = 1 by omega) with rfl | rfl
    · exact ⟨pf0, pl0⟩
    · exact ⟨pf1, pl1⟩
  · rcases (show t = 0 ∨ t = 1 by omega) with rfl | rfl
    · exact ⟨Wc.ag gW0, Qc.cg (fun a a1 a2 => (gW0 a a1 (by omega)).2.1), Si.ag gS0⟩
    · exact ⟨We.ag gW1, Qe.cg (fun a a1 a2 => (gW1 a a1 (by omega)).2.1), Sk.ag gS1⟩
  · rw [(gp.tr gq (o + 155) (by omega) (by omega)).2.1]; exact in155
/-- the abstract link at the start -/
def A00 : aA := (fun s k => if k = 5 ∧ s < 2 then 1 else 0, fun _ => [], fun _ => [], fun _ => [])
theorem A00_k {s k : Nat} (h : k ≠ 5) : A00.1 s k = 0 := if_neg (fun q => h q.1)
theorem A00_2 {k : Nat} : A00.1 2 k = 0 := if_neg (fun q => absurd q.2 (by decide))
theorem A00_5 {s : Nat} (h : s < 2) : A00.1 s 5 = 1 := if_pos ⟨rfl, h⟩
theorem A00_ok : okA 0 A00 := by
  have z : ∀ k, k ≠ 5 → ∀ s, A00.1 s k = nI 0 := fun k hk s => A00_k hk
  refine ⟨fun s hs => ⟨⟨⟨Or.inl (z 0 (by decide) s), ⟨0, by decide, z 1 (by decide) s⟩, ⟨0, by decide, z 4 (by decide) s⟩, ⟨1, by decide, A00_5 hs⟩, ⟨0, by decide, z 7 (by decide) s⟩, ⟨Or.inl (z 8 (by decide) s), ⟨0, by decide, z 9 (by decide) s⟩, 0, 0, z 11 (by decide) s, z 10 (by decide) s, by decide, by decide, fun q => absurd (z 8 (by decide) s) q⟩, ⟨0, 0, z 12 (by decide) s, z 13 (by decide) s, by decide, by decide, fun j hj => absurd hj (by omega)⟩, ⟨0, by decide, z 14 (by decide) s, fun i hi => absurd hi (by omega), fun i j _ hj => absurd hj (by omega), fun _ i hi => absurd hi (by omega)⟩⟩, Nat.zero_le 3, Nat.zero_le 16, Nat.zero_le 12, fun m hm => absurd hm (List.not_mem_nil), fun m hm => absurd hm (List.not_mem_nil), fun m hm => absurd hm (List.not_mem_nil)⟩, fun _ => rfl, fun _ => ⟨rfl, rfl⟩, fun q => absurd q (by rw [A00_k (by decide)]; decide), 0, z 6 (by decide) s, by decide, fun _ => by decide⟩, 0, by decide, z 100 (by decide) 2, fun i hi => absurd hi (by omega)⟩
theorem A00_C {σ : hp} {o : Nat} {C0 : Nat} (hx : o + 192 ≤ σ.2.2.2.1) (hx2 : σ.2.2.2.1 ≤ o + 192) (hc : σ.2.2.2.2 ≤ C0) (h1 : wkO σ o) (h2 : ∀ t, t < 2 → wkW σ (o + 2 + 28 * t) ∧ wireC σ (o + 2 + 28 * t) [] ∧ sit0 σ (o + 59 + 48 * t) (o + 2 + 28 * t) (nI t)) (h3 : σ.2.1 (o + 155) = fun _ => 0) (h4 : σ.2.1 o 3 = 0) : RepC σ o A00 C0 := by
  have hSk : SkC σ o := by
    refine ⟨h1, fun t ht => ⟨(h2 t ht).1, ?_⟩⟩
    obtain ⟨-, -, s1, s2, s3, s4, s5, ⟨d1, d2, d3, d4, d5, -⟩, n1, -, ⟨i1, i2, i3, -⟩, -⟩ := h2 t ht
    exact ⟨s1, s2, s3, s4, s5, d1, d2, d3, d4, d5, n1, i1, i2, i3⟩
  refine ⟨fun t ht => ?_, fun i hi => ?_, ?_⟩
  · obtain ⟨-, q1, s1, s2, s3, s4, s5, ⟨d1, d2, d3, d4, d5, d6, d7, d8, d9⟩, n1, w1, ⟨i1, i2, i3, i4, i5, i6, i7, i8⟩, r0, r5, r8, r9, r11⟩ := h2 t ht
    have z : ∀ k, k ≠ 5 → A00.1 t k = 0 := fun k hk => A00_k hk
    refine ⟨⟨hSk, ⟨hx, by unfold bB; omega, by unfold bC; omega⟩, q1, by rw [A00_5 ht]; exact w1, r0, ⟨?_, ?_, ?_, ?_, fun i hi => ?_⟩, ?_, ?_, ?_, ?_, fun j hj hl => ?_, fun j hj hl => ?_⟩, r0, ?_, fun q => ?_, fun q => ?_, ?_, ?_, fun q => ?_, ?_, fun q => ?_, fun q => ?_⟩
    · rw [z 8 (by decide)]; exact i4
    · rw [z 9 (by decide)]; exact i5
    · rw [z 10 (by decide)]; exact i6
    · rw [z 11 (by decide)]; exact i7
    · rw [z _ (by omega)]
      have : σ.2.1 (o + 59 + 48 * t + 46 + 1) i = 0 := by rw [i8]
      exact this
    · rw [z 12 (by decide), z 13 (by decide)]; exact d6
    · rw [z 12 (by decide)]; exact d7
    · rw [z 14 (by decide)]; exact d8
    · rw [z 1 (by decide)]; exact d9
    · rw [z 12 (by decide)] at hl
      exact absurd hl (nI_pos (by omega))
    · rw [z 14 (by decide)] at hl
      exact absurd hl (nI_pos (by omega))
    · rw [z 0 (by decide)]; exact r5
    · rw [z 0 (by decide)] at q; exact absurd q (by decide)
    · unfold isOp at q
      rw [z 0 (by decide)] at q; exact absurd q (by decide)
    · rw [z 4 (by decide)]; exact r8
    · rw [z 3 (by decide)]; exact r9
    · unfold isOp at q
      rw [z 0 (by decide)] at q; exact absurd (q.imp id (fun y => y.1)) (by decide)
    · rw [z 7 (by decide)]; exact r11
    · unfold isOp at q
      rw [z 0 (by decide)] at q; exact absurd q (by decide)
    · unfold isOp at q
      rw [z 0 (by decide)] at q; exact absurd q (by decide)
  · rw [h3, A00_2]
  · rw [h4, A00_2]
