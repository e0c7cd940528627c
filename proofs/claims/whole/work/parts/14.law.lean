/-! The law: written by wip/whole/gen/emit.py. -/
def S_L_law_570 (L : Nat) (xs : Nat → Int32) (rec18 : hp → Option Nat → Option Nat → Int32 → Option (hp)) (σ : hp) (v1 : Option Nat) (v2 : Option Nat) (v3 : Int32) : Option hp :=
  rec18 σ v1 v2 (v3 + (4 : Int32))
def S_L_law_144 (L : Nat) (xs : Nat → Int32) (rec18 : hp → Option Nat → Option Nat → Int32 → Option (hp)) (σ : hp) (v1 : Option Nat) (v2 : Option Nat) (v3 : Int32) (w0 : Int32) : Option hp :=
  (o_sc L xs (v3 + (1 : Int32))).bind fun t149 =>
  (o_rcv σ 9 v2).bind fun b150 =>
  (S_X9_queue σ b150 t149).bind fun q150 =>
  if w0 = q150.1 then (S_L_law_570 L xs rec18 q150.2 v1 v2 v3)
  else (none)
def S_L_law_190 (L : Nat) (xs : Nat → Int32) (rec18 : hp → Option Nat → Option Nat → Int32 → Option (hp)) (σ : hp) (v1 : Option Nat) (v2 : Option Nat) (v3 : Int32) (w0 : Int32) : Option hp :=
  (o_sc L xs (v3 + (1 : Int32))).bind fun t195 =>
  (o_rcv σ 9 v2).bind fun b196 =>
  (S_X9_deliver σ b196 t195).bind fun q196 =>
  if w0 = q196.1 then (S_L_law_570 L xs rec18 q196.2 v1 v2 v3)
  else (none)
def S_L_law_315 (L : Nat) (xs : Nat → Int32) (rec18 : hp → Option Nat → Option Nat → Int32 → Option (hp)) (σ : hp) (v1 : Option Nat) (v2 : Option Nat) (v3 : Int32) (w0 : Int32) : Option hp :=
  (o_sc L xs (v3 + (1 : Int32))).bind fun t320 =>
  (o_rcv σ 9 v2).bind fun b321 =>
  (S_X9_settle σ b321 t320).bind fun q321 =>
  if w0 = q321.1 then (S_L_law_570 L xs rec18 q321.2 v1 v2 v3)
  else (none)
def S_L_law_18_b (L : Nat) (xs : Nat → Int32) (rec18 : hp → Option Nat → Option Nat → Int32 → Option (hp)) (σ : hp) (v1 : Option Nat) (v2 : Option Nat) (v3 : Int32) : Option hp :=
  if ((Int32.ofNat L) - (4 : Int32)) < v3 then (some σ)
  else ((o_sc L xs v3).bind fun t28 =>
  if (t28 &&& (15 : Int32)) = (0 : Int32) then ((o_sc L xs (v3 + (1 : Int32))).bind fun t117 =>
  (o_rcv σ 8 v1).bind fun b118 =>
  (S_X8_put σ b118 t117).bind fun q118 =>
  (o_sc L xs (v3 + (1 : Int32))).bind fun t126 =>
  (o_rcv q118.2 9 v2).bind fun b127 =>
  (S_X9_put q118.2 b127 t126).bind fun q127 =>
  if q118.1 = q127.1 then (S_L_law_570 L xs rec18 q127.2 v1 v2 v3)
  else (none))
  else if (t28 &&& (15 : Int32)) = (1 : Int32) then ((o_sc L xs (v3 + (1 : Int32))).bind fun t140 =>
  (o_rcv σ 8 v1).bind fun b141 =>
  (S_X8_queue σ b141 t140).bind fun q141 =>
  S_L_law_144 L xs rec18 q141.2 v1 v2 v3 q141.1)
  else if (t28 &&& (15 : Int32)) = (2 : Int32) then ((o_sc L xs (v3 + (1 : Int32))).bind fun t163 =>
  (o_rcv σ 8 v1).bind fun b164 =>
  (S_X8_call σ b164 t163).bind fun q164 =>
  (o_sc L xs (v3 + (1 : Int32))).bind fun t172 =>
  (o_rcv q164.2 9 v2).bind fun b173 =>
  (S_X9_call q164.2 b173 t172).bind fun q173 =>
  if q164.1 = q173.1 then (S_L_law_570 L xs rec18 q173.2 v1 v2 v3)
  else (none))
  else if (t28 &&& (15 : Int32)) = (3 : Int32) then ((o_sc L xs (v3 + (1 : Int32))).bind fun t186 =>
  (o_rcv σ 8 v1).bind fun b187 =>
  (S_X8_deliver σ b187 t186).bind fun q187 =>
  S_L_law_190 L xs rec18 q187.2 v1 v2 v3 q187.1)
  else if (t28 &&& (15 : Int32)) = (4 : Int32) then ((o_sc L xs (v3 + (1 : Int32))).bind fun t209 =>
  (o_rcv σ 8 v1).bind fun b210 =>
  (S_X8_lose σ b210 t209).bind fun q210 =>
  (o_sc L xs (v3 + (1 : Int32))).bind fun t218 =>
  (o_rcv q210.2 9 v2).bind fun b219 =>
  (S_X9_lose q210.2 b219 t218).bind fun q219 =>
  if q210.1 = q219.1 then (S_L_law_570 L xs rec18 q219.2 v1 v2 v3)
  else (none))
  else if (t28 &&& (15 : Int32)) = (5 : Int32) then ((o_sc L xs (v3 + (1 : Int32))).bind fun t232 =>
  (o_sc L xs (v3 + (2 : Int32))).bind fun t237 =>
  (o_sc L xs (v3 + (3 : Int32))).bind fun t242 =>
  (o_rcv σ 8 v1).bind fun b243 =>
  (S_X8_alter σ b243 t232 t237 t242).bind fun q243 =>
  (o_sc L xs (v3 + (1 : Int32))).bind fun t251 =>
  (o_sc L xs (v3 + (2 : Int32))).bind fun t256 =>
  (o_sc L xs (v3 + (3 : Int32))).bind fun t261 =>
  (o_rcv q243.2 9 v2).bind fun b262 =>
  (S_X9_alter q243.2 b262 t251 t256 t261).bind fun q262 =>
  if q243.1 = q262.1 then (S_L_law_570 L xs rec18 q262.2 v1 v2 v3)
  else (none))
  else if (t28 &&& (15 : Int32)) = (6 : Int32) then ((o_rcv σ 8 v1).bind fun b271 =>
  (S_X8_tick σ b271 ).bind fun q271 =>
  (o_rcv q271.2 9 v2).bind fun b275 =>
  (S_X9_tick q271.2 b275 ).bind fun q275 =>
  if q271.1 = q275.1 then (S_L_law_570 L xs rec18 q275.2 v1 v2 v3)
  else (none))
  else if (t28 &&& (15 : Int32)) = (7 : Int32) then ((o_sc L xs (v3 + (1 : Int32))).bind fun t288 =>
  (o_rcv σ 8 v1).bind fun b289 =>
  (S_X8_crash σ b289 t288).bind fun q289 =>
  (o_sc L xs (v3 + (1 : Int32))).bind fun t297 =>
  (o_rcv q289.2 9 v2).bind fun b298 =>
  (S_X9_crash q289.2 b298 t297).bind fun q298 =>
  if q289.1 = q298.1 then (S_L_law_570 L xs rec18 q298.2 v1 v2 v3)
  else (none))
  else if (t28 &&& (15 : Int32)) = (8 : Int32) then ((o_sc L xs (v3 + (1 : Int32))).bind fun t311 =>
  (o_rcv σ 8 v1).bind fun b312 =>
  (S_X8_settle σ b312 t311).bind fun q312 =>
  S_L_law_315 L xs rec18 q312.2 v1 v2 v3 q312.1)
  else if (t28 &&& (15 : Int32)) = (9 : Int32) then ((o_sc L xs (v3 + (1 : Int32))).bind fun t334 =>
  (o_rcv σ 8 v1).bind fun b335 =>
  (S_X8_waiting σ b335 t334).bind fun q335 =>
  (o_sc L xs (v3 + (1 : Int32))).bind fun t343 =>
  (o_rcv σ 9 v2).bind fun b344 =>
  (S_X9_waiting σ b344 t343).bind fun q344 =>
  if q335 = q344 then (S_L_law_570 L xs rec18 σ v1 v2 v3)
  else (none))
  else if (t28 &&& (15 : Int32)) = (10 : Int32) then ((o_sc L xs (v3 + (1 : Int32))).bind fun t357 =>
  (o_sc L xs (v3 + (2 : Int32))).bind fun t362 =>
  (o_sc L xs (v3 + (3 : Int32))).bind fun t367 =>
  (o_rcv σ 8 v1).bind fun b368 =>
  (S_X8_look σ b368 t357 t362 t367).bind fun q368 =>
  (o_sc L xs (v3 + (1 : Int32))).bind fun t376 =>
  (o_sc L xs (v3 + (2 : Int32))).bind fun t381 =>
  (o_sc L xs (v3 + (3 : Int32))).bind fun t386 =>
  (o_rcv σ 9 v2).bind fun b387 =>
  (S_X9_look σ b387 t376 t381 t386).bind fun q387 =>
  if q368 = q387 then (S_L_law_570 L xs rec18 σ v1 v2 v3)
  else (none))
  else if (t28 &&& (15 : Int32)) = (11 : Int32) then ((o_sc L xs (v3 + (1 : Int32))).bind fun t400 =>
  (o_sc L xs (v3 + (2 : Int32))).bind fun t405 =>
  (o_rcv σ 8 v1).bind fun b406 =>
  (S_X8_told σ b406 t400 t405).bind fun q406 =>
  (o_sc L xs (v3 + (1 : Int32))).bind fun t414 =>
  (o_sc L xs (v3 + (2 : Int32))).bind fun t419 =>
  (o_rcv σ 9 v2).bind fun b420 =>
  (S_X9_told σ b420 t414 t419).bind fun q420 =>
  if q406 = q420 then (S_L_law_570 L xs rec18 σ v1 v2 v3)
  else (none))
  else if (t28 &&& (15 : Int32)) = (12 : Int32) then ((o_sc L xs (v3 + (1 : Int32))).bind fun t433 =>
  (o_sc L xs (v3 + (2 : Int32))).bind fun t438 =>
  (o_rcv σ 8 v1).bind fun b439 =>
  (S_X8_queued σ b439 t433 t438).bind fun q439 =>
  (o_sc L xs (v3 + (1 : Int32))).bind fun t447 =>
  (o_sc L xs (v3 + (2 : Int32))).bind fun t452 =>
  (o_rcv σ 9 v2).bind fun b453 =>
  (S_X9_queued σ b453 t447 t452).bind fun q453 =>
  if q439 = q453 then (S_L_law_570 L xs rec18 σ v1 v2 v3)
  else (none))
  else if (t28 &&& (15 : Int32)) = (13 : Int32) then ((o_sc L xs (v3 + (1 : Int32))).bind fun t466 =>
  (o_sc L xs (v3 + (2 : Int32))).bind fun t471 =>
  (o_rcv σ 8 v1).bind fun b472 =>
  (S_X8_executed σ b472 t466 t471).bind fun q472 =>
  (o_sc L xs (v3 + (1 : Int32))).bind fun t480 =>
  (o_sc L xs (v3 + (2 : Int32))).bind fun t485 =>
  (o_rcv σ 9 v2).bind fun b486 =>
  (S_X9_executed σ b486 t480 t485).bind fun q486 =>
  if q472 = q486 then (S_L_law_570 L xs rec18 σ v1 v2 v3)
  else (none))
  else if (t28 &&& (15 : Int32)) = (14 : Int32) then ((o_sc L xs (v3 + (1 : Int32))).bind fun t499 =>
  (o_sc L xs (v3 + (2 : Int32))).bind fun t504 =>
  (o_sc L xs (v3 + (3 : Int32))).bind fun t509 =>
  (o_rcv σ 8 v1).bind fun b510 =>
  (S_X8_file σ b510 t499 t504 t509).bind fun q510 =>
  (o_sc L xs (v3 + (1 : Int32))).bind fun t518 =>
  (o_sc L xs (v3 + (2 : Int32))).bind fun t523 =>
  (o_sc L xs (v3 + (3 : Int32))).bind fun t528 =>
  (o_rcv σ 9 v2).bind fun b529 =>
  (S_X9_file σ b529 t518 t523 t528).bind fun q529 =>
  if q510 = q529 then (S_L_law_570 L xs rec18 σ v1 v2 v3)
  else (none))
  else if (t28 &&& (15 : Int32)) = (15 : Int32) then ((o_sc L xs (v3 + (1 : Int32))).bind fun t542 =>
  (o_sc L xs (v3 + (2 : Int32))).bind fun t547 =>
  (o_rcv σ 8 v1).bind fun b548 =>
  (S_X8_times σ b548 t542 t547).bind fun q548 =>
  (o_sc L xs (v3 + (1 : Int32))).bind fun t556 =>
  (o_sc L xs (v3 + (2 : Int32))).bind fun t561 =>
  (o_rcv σ 9 v2).bind fun b562 =>
  (S_X9_times σ b562 t556 t561).bind fun q562 =>
  if q548 = q562 then (S_L_law_570 L xs rec18 σ v1 v2 v3)
  else (none))
  else (S_L_law_570 L xs rec18 σ v1 v2 v3))
def S_L_law_18 (L : Nat) (xs : Nat → Int32) : Nat → hp → Option Nat → Option Nat → Int32 → Option (hp)
  | 0, _, _, _, _ => none
  | n + 1, σ, v1, v2, v3 => S_L_law_18_b L xs (S_L_law_18 L xs n) σ v1 v2 v3
def S_L_law_15 (L : Nat) (xs : Nat → Int32) (σ : hp) (v1 : Option Nat) (w0 : Option Nat) : Option hp :=
  S_L_law_18 L xs FU σ v1 w0 (0 : Int32)
def S_L_law_11 (L : Nat) (xs : Nat → Int32) (σ : hp) (v1 : Option Nat) (w0 : Option Nat) : Option hp :=
  (o_rcv σ 9 w0).bind fun b12 =>
  (S_X9_init σ b12 ).bind fun q12 =>
  S_L_law_15 L xs q12 v1 w0
def S_L_law_7 (L : Nat) (xs : Nat → Int32) (σ : hp) (w0 : Option Nat) : Option hp :=
  (o_nw σ 9 37).bind fun q8 =>
  S_L_law_11 L xs q8.2 w0 (some q8.1)
def S_L_law_3 (L : Nat) (xs : Nat → Int32) (σ : hp) (w0 : Option Nat) : Option hp :=
  (o_rcv σ 8 w0).bind fun b4 =>
  (S_X8_init σ b4 ).bind fun q4 =>
  S_L_law_7 L xs q4 w0
def S_L_law (L : Nat) (xs : Nat → Int32) (σ : hp) : Option hp :=
  (o_nw σ 8 4).bind fun q0 =>
  S_L_law_3 L xs q0.2 (some q0.1)
theorem mo_L_law_570 {L : Nat} {xs : Nat → Int32} {rec18 : hp → Option Nat → Option Nat → Int32 → Option (hp)} {z : hp} (hm18 : ∀ (σ : hp) (v1 : Option Nat) (v2 : Option Nat) (v3 : Int32), rec18 σ v1 v2 v3 = some z → le4 σ z) {σ : hp} {v1 : Option Nat} {v2 : Option Nat} {v3 : Int32} (h : S_L_law_570 L xs rec18 σ v1 v2 v3 = some z) : le4 σ z := by
  unfold S_L_law_570 at h
  exact (hm18 _ _ _ _ h)
set_option maxHeartbeats 4000000 in
set_option maxRecDepth 100000 in
theorem K_L_law_570 {p : Program} {l : Launch} {e : Env} {s : State} {m : MethodId} {below : List Frame} {meth : Method} {c : Code} {D : va_G} {dA : Nat → ClassId} {b L : Nat} {xs : Nat → Int32} {rec18 : hp → Option Nat → Option Nat → Int32 → Option (hp)} {z : hp} (X : cx p s m #[Value.ref b] c cL_law RL 4 D dA) (hret : meth.sig.returnType = ret) (hlk : meth.locks = false) (hR : 13 ≤ room_1.frames ∧ 299 ≤ room_1.locals) (hX : va_X b L xs s s.heap) (hbl : b < s.heap.size) (hRc : z.2.2.2.1 ≤ s.heap.size + room_1.cells ∧ z.2.2.2.2 ≤ 0 + room_1.slots) (hm18 : ∀ (σ : hp) (v1 : Option Nat) (v2 : Option Nat) (v3 : Int32), rec18 σ v1 v2 v3 = some z → le4 σ z) (hr18 : ∀ (σ : hp) (v1 : Option Nat) (v2 : Option Nat) (v3 : Int32) (H : Heap) (locs : List Loc) (ls : Array Slot), s.heap.size ≤ σ.2.2.2.1 ∧ 0 ≤ σ.2.2.2.2 → hw D dA s.heap.size σ H → hs s.heap.size s.heap H locs → lk ls 4 [(0, .inr (some b)), (1, .inr v1), (2, .inr v2), (3, .inl v3)] → rec18 σ v1 v2 v3 = some z → W p l e room_1 s m #[Value.ref b] below meth c H locs (σ.2.2.2.1 - s.heap.size) (σ.2.2.2.2 - 0) (lw_Z below #[Value.ref b] s) (F0 m 18 ls [])) {σ : hp} {v1 : Option Nat} {v2 : Option Nat} {v3 : Int32} {H : Heap} {locs : List Loc} {ls : Array Slot} (hn : s.heap.size ≤ σ.2.2.2.1 ∧ 0 ≤ σ.2.2.2.2) (hh : hw D dA s.heap.size σ H) (hS : hs s.heap.size s.heap H locs) (hl : lk ls 4 [(0, .inr (some b)), (1, .inr v1), (2, .inr v2), (3, .inl v3)]) (h : S_L_law_570 L xs rec18 σ v1 v2 v3 = some z) : W p l e room_1 s m #[Value.ref b] below meth c H locs (σ.2.2.2.1 - s.heap.size) (σ.2.2.2.2 - 0) (lw_Z below #[Value.ref b] s) (F0 m 570 ls []) := by
  have hz0 := mo_L_law_570 hm18 h
  have hcl : σ.2.2.2.1 - s.heap.size ≤ room_1.cells ∧ σ.2.2.2.2 - 0 ≤ room_1.slots := by unfold le4 at hz0; omega
  unfold S_L_law_570 at h
  refine q_iinc (v := (4 : Int32)) (lv' := [(3, .inl (v3 + (4 : Int32))), (0, .inr (some b)), (1, .inr v1), (2, .inr v2)]) X dL_law_570 hl 3 rfl (by decide) (by decide) rfl (fun ls hl => ?_)
  refine lv_goto (tgt := 18) X.1 X.2.1 dL_law_573 (by decide) ?_
  exact hr18 _ _ _ _ _ _ _ hn hh hS (lk_sub hl [1, 2, 3, 0] rfl) h
theorem mo_L_law_144 {L : Nat} {xs : Nat → Int32} {rec18 : hp → Option Nat → Option Nat → Int32 → Option (hp)} {z : hp} (hm18 : ∀ (σ : hp) (v1 : Option Nat) (v2 : Option Nat) (v3 : Int32), rec18 σ v1 v2 v3 = some z → le4 σ z) {σ : hp} {v1 : Option Nat} {v2 : Option Nat} {v3 : Int32} {w0 : Int32} (h : S_L_law_144 L xs rec18 σ v1 v2 v3 w0 = some z) : le4 σ z := by
  unfold S_L_law_144 at h
  obtain ⟨t149, e_t149, h⟩ := o_b h
  obtain ⟨b150, e_b150, h⟩ := o_b h
  obtain ⟨q150, e_q150, h⟩ := o_b h
  by_cases c153 : w0 = q150.1
  · rw [if_pos c153] at h
    exact ((ke_X9_queue_0 e_q150).le).tr (mo_L_law_570 hm18 h)
  · rw [if_neg c153] at h
    cases h
set_option maxHeartbeats 4000000 in
set_option maxRecDepth 100000 in
theorem K_L_law_144 {p : Program} {l : Launch} {e : Env} {s : State} {m : MethodId} {below : List Frame} {meth : Method} {c : Code} {D : va_G} {dA : Nat → ClassId} {b L : Nat} {xs : Nat → Int32} {rec18 : hp → Option Nat → Option Nat → Int32 → Option (hp)} {z : hp} (X : cx p s m #[Value.ref b] c cL_law RL 4 D dA) (hret : meth.sig.returnType = ret) (hlk : meth.locks = false) (hR : 13 ≤ room_1.frames ∧ 299 ≤ room_1.locals) (hX : va_X b L xs s s.heap) (hbl : b < s.heap.size) (hRc : z.2.2.2.1 ≤ s.heap.size + room_1.cells ∧ z.2.2.2.2 ≤ 0 + room_1.slots) (hm18 : ∀ (σ : hp) (v1 : Option Nat) (v2 : Option Nat) (v3 : Int32), rec18 σ v1 v2 v3 = some z → le4 σ z) (hr18 : ∀ (σ : hp) (v1 : Option Nat) (v2 : Option Nat) (v3 : Int32) (H : Heap) (locs : List Loc) (ls : Array Slot), s.heap.size ≤ σ.2.2.2.1 ∧ 0 ≤ σ.2.2.2.2 → hw D dA s.heap.size σ H → hs s.heap.size s.heap H locs → lk ls 4 [(0, .inr (some b)), (1, .inr v1), (2, .inr v2), (3, .inl v3)] → rec18 σ v1 v2 v3 = some z → W p l e room_1 s m #[Value.ref b] below meth c H locs (σ.2.2.2.1 - s.heap.size) (σ.2.2.2.2 - 0) (lw_Z below #[Value.ref b] s) (F0 m 18 ls [])) {σ : hp} {v1 : Option Nat} {v2 : Option Nat} {v3 : Int32} {w0 : Int32} {H : Heap} {locs : List Loc} {ls : Array Slot} (hn : s.heap.size ≤ σ.2.2.2.1 ∧ 0 ≤ σ.2.2.2.2) (hh : hw D dA s.heap.size σ H) (hS : hs s.heap.size s.heap H locs) (hl : lk ls 4 [(0, .inr (some b)), (1, .inr v1), (2, .inr v2), (3, .inl v3)]) (h : S_L_law_144 L xs rec18 σ v1 v2 v3 w0 = some z) : W p l e room_1 s m #[Value.ref b] below meth c H locs (σ.2.2.2.1 - s.heap.size) (σ.2.2.2.2 - 0) (lw_Z below #[Value.ref b] s) (F0 m 144 ls [.int w0]) := by
  have hz0 := mo_L_law_144 hm18 h
  have hcl : σ.2.2.2.1 - s.heap.size ≤ room_1.cells ∧ σ.2.2.2.2 - 0 ≤ room_1.slots := by unfold le4 at hz0; omega
  unfold S_L_law_144 at h
  refine q_aload_n X dL_law_144 rfl hl 2 rfl ?_
  refine q_aload_n X dL_law_145 rfl hl 0 rfl ?_
  refine q_iload_n X dL_law_146 rfl hl 3 rfl ?_
  refine lv_iconst (v := (1 : Int32)) X.1 X.2.1 dL_law_147 (by decide) ?_
  refine lv_iadd X.1 X.2.1 dL_law_148 ?_
  obtain ⟨t149, e_t149, h⟩ := o_b h
  refine q_sld X hX hbl hS e_t149 dL_law_149 ?_
  obtain ⟨b150, e_b150, h⟩ := o_b h
  obtain ⟨q150, e_q150, h⟩ := o_b h
  have f150 := ke_X9_queue_0 e_q150
  refine q_cV (As := [.int t149]) X hh hS hl cf_L_21 (cN := 9) rfl rfl e_b150 rfl (M_X9_queue l D dA s.heap.size σ b150 t149 e_q150) ⟨Nat.le_trans (by decide) hR.1, Nat.le_trans (by decide) hR.2⟩ (cat8 [.inl w0] (Nat.le_of_ble_eq_true rfl)) dL_law_150 ⟨Nat.le_trans (Nat.le_of_eq (Nat.add_zero _)) hcl.1, Nat.le_trans (Nat.le_of_eq (Nat.add_zero _)) hcl.2⟩ rfl rfl (fun H locs hh hS => ?_)
  refine W.cs (cells' := σ.2.2.2.1 - s.heap.size) (slots' := σ.2.2.2.2 - 0) (Nat.add_zero _) (Nat.add_zero _) ?_
  refine lv_icmp_eq (tgt := 570) X.1 X.2.1 dL_law_153 (by decide) (fun c153 => ?_) (fun c153 => ?_)
  · rw [if_pos c153] at h
    have yq150_2 : eq4 σ q150.2 := f150
    refine W.cs (cells' := q150.2.2.2.2.1 - s.heap.size) (slots' := q150.2.2.2.2.2 - 0) (by rw [show q150.2.2.2.2 = σ.2.2.2 from yq150_2]) (by rw [show q150.2.2.2.2 = σ.2.2.2 from yq150_2]) ?_
    have hn : s.heap.size ≤ q150.2.2.2.2.1 ∧ 0 ≤ q150.2.2.2.2.2 := by rw [show q150.2.2.2.2 = σ.2.2.2 from yq150_2]; exact hn
    have hcl : q150.2.2.2.2.1 - s.heap.size ≤ room_1.cells ∧ q150.2.2.2.2.2 - 0 ≤ room_1.slots := by rw [show q150.2.2.2.2 = σ.2.2.2 from yq150_2]; exact hcl
    exact K_L_law_570 X hret hlk hR hX hbl hRc hm18 hr18 hn hh hS (lk_sub hl [0, 1, 2, 3] rfl) h
  · rw [if_neg c153] at h
    refine lv_iconst (v := (0 : Int32)) X.1 X.2.1 dL_law_156 (by decide) ?_
    cases h
theorem mo_L_law_190 {L : Nat} {xs : Nat → Int32} {rec18 : hp → Option Nat → Option Nat → Int32 → Option (hp)} {z : hp} (hm18 : ∀ (σ : hp) (v1 : Option Nat) (v2 : Option Nat) (v3 : Int32), rec18 σ v1 v2 v3 = some z → le4 σ z) {σ : hp} {v1 : Option Nat} {v2 : Option Nat} {v3 : Int32} {w0 : Int32} (h : S_L_law_190 L xs rec18 σ v1 v2 v3 w0 = some z) : le4 σ z := by
  unfold S_L_law_190 at h
  obtain ⟨t195, e_t195, h⟩ := o_b h
  obtain ⟨b196, e_b196, h⟩ := o_b h
  obtain ⟨q196, e_q196, h⟩ := o_b h
  by_cases c199 : w0 = q196.1
  · rw [if_pos c199] at h
    exact ((ke_X9_deliver_0 e_q196).le).tr (mo_L_law_570 hm18 h)
  · rw [if_neg c199] at h
    cases h
set_option maxHeartbeats 4000000 in
set_option maxRecDepth 100000 in
theorem K_L_law_190 {p : Program} {l : Launch} {e : Env} {s : State} {m : MethodId} {below : List Frame} {meth : Method} {c : Code} {D : va_G} {dA : Nat → ClassId} {b L : Nat} {xs : Nat → Int32} {rec18 : hp → Option Nat → Option Nat → Int32 → Option (hp)} {z : hp} (X : cx p s m #[Value.ref b] c cL_law RL 4 D dA) (hret : meth.sig.returnType = ret) (hlk : meth.locks = false) (hR : 13 ≤ room_1.frames ∧ 299 ≤ room_1.locals) (hX : va_X b L xs s s.heap) (hbl : b < s.heap.size) (hRc : z.2.2.2.1 ≤ s.heap.size + room_1.cells ∧ z.2.2.2.2 ≤ 0 + room_1.slots) (hm18 : ∀ (σ : hp) (v1 : Option Nat) (v2 : Option Nat) (v3 : Int32), rec18 σ v1 v2 v3 = some z → le4 σ z) (hr18 : ∀ (σ : hp) (v1 : Option Nat) (v2 : Option Nat) (v3 : Int32) (H : Heap) (locs : List Loc) (ls : Array Slot), s.heap.size ≤ σ.2.2.2.1 ∧ 0 ≤ σ.2.2.2.2 → hw D dA s.heap.size σ H → hs s.heap.size s.heap H locs → lk ls 4 [(0, .inr (some b)), (1, .inr v1), (2, .inr v2), (3, .inl v3)] → rec18 σ v1 v2 v3 = some z → W p l e room_1 s m #[Value.ref b] below meth c H locs (σ.2.2.2.1 - s.heap.size) (σ.2.2.2.2 - 0) (lw_Z below #[Value.ref b] s) (F0 m 18 ls [])) {σ : hp} {v1 : Option Nat} {v2 : Option Nat} {v3 : Int32} {w0 : Int32} {H : Heap} {locs : List Loc} {ls : Array Slot} (hn : s.heap.size ≤ σ.2.2.2.1 ∧ 0 ≤ σ.2.2.2.2) (hh : hw D dA s.heap.size σ H) (hS : hs s.heap.size s.heap H locs) (hl : lk ls 4 [(0, .inr (some b)), (1, .inr v1), (2, .inr v2), (3, .inl v3)]) (h : S_L_law_190 L xs rec18 σ v1 v2 v3 w0 = some z) : W p l e room_1 s m #[Value.ref b] below meth c H locs (σ.2.2.2.1 - s.heap.size) (σ.2.2.2.2 - 0) (lw_Z below #[Value.ref b] s) (F0 m 190 ls [.int w0]) := by
  have hz0 := mo_L_law_190 hm18 h
  have hcl : σ.2.2.2.1 - s.heap.size ≤ room_1.cells ∧ σ.2.2.2.2 - 0 ≤ room_1.slots := by unfold le4 at hz0; omega
  unfold S_L_law_190 at h
  refine q_aload_n X dL_law_190 rfl hl 2 rfl ?_
  refine q_aload_n X dL_law_191 rfl hl 0 rfl ?_
  refine q_iload_n X dL_law_192 rfl hl 3 rfl ?_
  refine lv_iconst (v := (1 : Int32)) X.1 X.2.1 dL_law_193 (by decide) ?_
  refine lv_iadd X.1 X.2.1 dL_law_194 ?_
  obtain ⟨t195, e_t195, h⟩ := o_b h
  refine q_sld X hX hbl hS e_t195 dL_law_195 ?_
  obtain ⟨b196, e_b196, h⟩ := o_b h
  obtain ⟨q196, e_q196, h⟩ := o_b h
  have f196 := ke_X9_deliver_0 e_q196
  refine q_cV (As := [.int t195]) X hh hS hl cf_L_30 (cN := 9) rfl rfl e_b196 rfl (M_X9_deliver l D dA s.heap.size σ b196 t195 e_q196) ⟨Nat.le_trans (by decide) hR.1, Nat.le_trans (by decide) hR.2⟩ (cat8 [.inl w0] (Nat.le_of_ble_eq_true rfl)) dL_law_196 ⟨Nat.le_trans (Nat.le_of_eq (Nat.add_zero _)) hcl.1, Nat.le_trans (Nat.le_of_eq (Nat.add_zero _)) hcl.2⟩ rfl rfl (fun H locs hh hS => ?_)
  refine W.cs (cells' := σ.2.2.2.1 - s.heap.size) (slots' := σ.2.2.2.2 - 0) (Nat.add_zero _) (Nat.add_zero _) ?_
  refine lv_icmp_eq (tgt := 570) X.1 X.2.1 dL_law_199 (by decide) (fun c199 => ?_) (fun c199 => ?_)
  · rw [if_pos c199] at h
    have yq196_2 : eq4 σ q196.2 := f196
    refine W.cs (cells' := q196.2.2.2.2.1 - s.heap.size) (slots' := q196.2.2.2.2.2 - 0) (by rw [show q196.2.2.2.2 = σ.2.2.2 from yq196_2]) (by rw [show q196.2.2.2.2 = σ.2.2.2 from yq196_2]) ?_
    have hn : s.heap.size ≤ q196.2.2.2.2.1 ∧ 0 ≤ q196.2.2.2.2.2 := by rw [show q196.2.2.2.2 = σ.2.2.2 from yq196_2]; exact hn
    have hcl : q196.2.2.2.2.1 - s.heap.size ≤ room_1.cells ∧ q196.2.2.2.2.2 - 0 ≤ room_1.slots := by rw [show q196.2.2.2.2 = σ.2.2.2 from yq196_2]; exact hcl
    exact K_L_law_570 X hret hlk hR hX hbl hRc hm18 hr18 hn hh hS (lk_sub hl [0, 1, 2, 3] rfl) h
  · rw [if_neg c199] at h
    refine lv_iconst (v := (0 : Int32)) X.1 X.2.1 dL_law_202 (by decide) ?_
    cases h
theorem mo_L_law_315 {L : Nat} {xs : Nat → Int32} {rec18 : hp → Option Nat → Option Nat → Int32 → Option (hp)} {z : hp} (hm18 : ∀ (σ : hp) (v1 : Option Nat) (v2 : Option Nat) (v3 : Int32), rec18 σ v1 v2 v3 = some z → le4 σ z) {σ : hp} {v1 : Option Nat} {v2 : Option Nat} {v3 : Int32} {w0 : Int32} (h : S_L_law_315 L xs rec18 σ v1 v2 v3 w0 = some z) : le4 σ z := by
  unfold S_L_law_315 at h
  obtain ⟨t320, e_t320, h⟩ := o_b h
  obtain ⟨b321, e_b321, h⟩ := o_b h
  obtain ⟨q321, e_q321, h⟩ := o_b h
  by_cases c324 : w0 = q321.1
  · rw [if_pos c324] at h
    exact ((ke_X9_settle_0 e_q321).le).tr (mo_L_law_570 hm18 h)
  · rw [if_neg c324] at h
    cases h
set_option maxHeartbeats 4000000 in
set_option maxRecDepth 100000 in
theorem K_L_law_315 {p : Program} {l : Launch} {e : Env} {s : State} {m : MethodId} {below : List Frame} {meth : Method} {c : Code} {D : va_G} {dA : Nat → ClassId} {b L : Nat} {xs : Nat → Int32} {rec18 : hp → Option Nat → Option Nat → Int32 → Option (hp)} {z : hp} (X : cx p s m #[Value.ref b] c cL_law RL 4 D dA) (hret : meth.sig.returnType = ret) (hlk : meth.locks = false) (hR : 13 ≤ room_1.frames ∧ 299 ≤ room_1.locals) (hX : va_X b L xs s s.heap) (hbl : b < s.heap.size) (hRc : z.2.2.2.1 ≤ s.heap.size + room_1.cells ∧ z.2.2.2.2 ≤ 0 + room_1.slots) (hm18 : ∀ (σ : hp) (v1 : Option Nat) (v2 : Option Nat) (v3 : Int32), rec18 σ v1 v2 v3 = some z → le4 σ z) (hr18 : ∀ (σ : hp) (v1 : Option Nat) (v2 : Option Nat) (v3 : Int32) (H : Heap) (locs : List Loc) (ls : Array Slot), s.heap.size ≤ σ.2.2.2.1 ∧ 0 ≤ σ.2.2.2.2 → hw D dA s.heap.size σ H → hs s.heap.size s.heap H locs → lk ls 4 [(0, .inr (some b)), (1, .inr v1), (2, .inr v2), (3, .inl v3)] → rec18 σ v1 v2 v3 = some z → W p l e room_1 s m #[Value.ref b] below meth c H locs (σ.2.2.2.1 - s.heap.size) (σ.2.2.2.2 - 0) (lw_Z below #[Value.ref b] s) (F0 m 18 ls [])) {σ : hp} {v1 : Option Nat} {v2 : Option Nat} {v3 : Int32} {w0 : Int32} {H : Heap} {locs : List Loc} {ls : Array Slot} (hn : s.heap.size ≤ σ.2.2.2.1 ∧ 0 ≤ σ.2.2.2.2) (hh : hw D dA s.heap.size σ H) (hS : hs s.heap.size s.heap H locs) (hl : lk ls 4 [(0, .inr (some b)), (1, .inr v1), (2, .inr v2), (3, .inl v3)]) (h : S_L_law_315 L xs rec18 σ v1 v2 v3 w0 = some z) : W p l e room_1 s m #[Value.ref b] below meth c H locs (σ.2.2.2.1 - s.heap.size) (σ.2.2.2.2 - 0) (lw_Z below #[Value.ref b] s) (F0 m 315 ls [.int w0]) := by
  have hz0 := mo_L_law_315 hm18 h
  have hcl : σ.2.2.2.1 - s.heap.size ≤ room_1.cells ∧ σ.2.2.2.2 - 0 ≤ room_1.slots := by unfold le4 at hz0; omega
  unfold S_L_law_315 at h
  refine q_aload_n X dL_law_315 rfl hl 2 rfl ?_
  refine q_aload_n X dL_law_316 rfl hl 0 rfl ?_
  refine q_iload_n X dL_law_317 rfl hl 3 rfl ?_
  refine lv_iconst (v := (1 : Int32)) X.1 X.2.1 dL_law_318 (by decide) ?_
  refine lv_iadd X.1 X.2.1 dL_law_319 ?_
  obtain ⟨t320, e_t320, h⟩ := o_b h
  refine q_sld X hX hbl hS e_t320 dL_law_320 ?_
  obtain ⟨b321, e_b321, h⟩ := o_b h
  obtain ⟨q321, e_q321, h⟩ := o_b h
  have f321 := ke_X9_settle_0 e_q321
  refine q_cV (As := [.int t320]) X hh hS hl cf_L_52 (cN := 9) rfl rfl e_b321 rfl (M_X9_settle l D dA s.heap.size σ b321 t320 e_q321) ⟨Nat.le_trans (by decide) hR.1, Nat.le_trans (by decide) hR.2⟩ (cat8 [.inl w0] (Nat.le_of_ble_eq_true rfl)) dL_law_321 ⟨Nat.le_trans (Nat.le_of_eq (Nat.add_zero _)) hcl.1, Nat.le_trans (Nat.le_of_eq (Nat.add_zero _)) hcl.2⟩ rfl rfl (fun H locs hh hS => ?_)
  refine W.cs (cells' := σ.2.2.2.1 - s.heap.size) (slots' := σ.2.2.2.2 - 0) (Nat.add_zero _) (Nat.add_zero _) ?_
  refine lv_icmp_eq (tgt := 570) X.1 X.2.1 dL_law_324 (by decide) (fun c324 => ?_) (fun c324 => ?_)
  · rw [if_pos c324] at h
    have yq321_2 : eq4 σ q321.2 := f321
    refine W.cs (cells' := q321.2.2.2.2.1 - s.heap.size) (slots' := q321.2.2.2.2.2 - 0) (by rw [show q321.2.2.2.2 = σ.2.2.2 from yq321_2]) (by rw [show q321.2.2.2.2 = σ.2.2.2 from yq321_2]) ?_
    have hn : s.heap.size ≤ q321.2.2.2.2.1 ∧ 0 ≤ q321.2.2.2.2.2 := by rw [show q321.2.2.2.2 = σ.2.2.2 from yq321_2]; exact hn
    have hcl : q321.2.2.2.2.1 - s.heap.size ≤ room_1.cells ∧ q321.2.2.2.2.2 - 0 ≤ room_1.slots := by rw [show q321.2.2.2.2 = σ.2.2.2 from yq321_2]; exact hcl
    exact K_L_law_570 X hret hlk hR hX hbl hRc hm18 hr18 hn hh hS (lk_sub hl [0, 1, 2, 3] rfl) h
  · rw [if_neg c324] at h
    refine lv_iconst (v := (0 : Int32)) X.1 X.2.1 dL_law_327 (by decide) ?_
    cases h
theorem mo_L_law_18_b {L : Nat} {xs : Nat → Int32} {rec18 : hp → Option Nat → Option Nat → Int32 → Option (hp)} {z : hp} (hm18 : ∀ (σ : hp) (v1 : Option Nat) (v2 : Option Nat) (v3 : Int32), rec18 σ v1 v2 v3 = some z → le4 σ z) {σ : hp} {v1 : Option Nat} {v2 : Option Nat} {v3 : Int32} (h : S_L_law_18_b L xs rec18 σ v1 v2 v3 = some z) : le4 σ z := by
  unfold S_L_law_18_b at h
  by_cases c23 : ((Int32.ofNat L) - (4 : Int32)) < v3
  · rw [if_pos c23] at h
    cases h
    exact le4.rf _
  · rw [if_neg c23] at h
    obtain ⟨t28, e_t28, h⟩ := o_b h
    by_cases c32_0 : (t28 &&& (15 : Int32)) = (0 : Int32)
    · rw [if_pos c32_0] at h
      obtain ⟨t117, e_t117, h⟩ := o_b h
      obtain ⟨b118, e_b118, h⟩ := o_b h
      obtain ⟨q118, e_q118, h⟩ := o_b h
      obtain ⟨t126, e_t126, h⟩ := o_b h
      obtain ⟨b127, e_b127, h⟩ := o_b h
      obtain ⟨q127, e_q127, h⟩ := o_b h
      by_cases c130 : q118.1 = q127.1
      · rw [if_pos c130] at h
        exact (((ke_X8_put_0 e_q118).le).tr (ke_X9_put_0 e_q127).le).tr (mo_L_law_570 hm18 h)
      · rw [if_neg c130] at h
        cases h
    · rw [if_neg c32_0] at h
      by_cases c32_1 : (t28 &&& (15 : Int32)) = (1 : Int32)
      · rw [if_pos c32_1] at h
        obtain ⟨t140, e_t140, h⟩ := o_b h
        obtain ⟨b141, e_b141, h⟩ := o_b h
        obtain ⟨q141, e_q141, h⟩ := o_b h
        exact ((mo_X8_queue_0 e_q141)).tr (mo_L_law_144 hm18 h)
      · rw [if_neg c32_1] at h
        by_cases c32_2 : (t28 &&& (15 : Int32)) = (2 : Int32)
        · rw [if_pos c32_2] at h
          obtain ⟨t163, e_t163, h⟩ := o_b h
          obtain ⟨b164, e_b164, h⟩ := o_b h
          obtain ⟨q164, e_q164, h⟩ := o_b h
          obtain ⟨t172, e_t172, h⟩ := o_b h
          obtain ⟨b173, e_b173, h⟩ := o_b h
          obtain ⟨q173, e_q173, h⟩ := o_b h
          by_cases c176 : q164.1 = q173.1
          · rw [if_pos c176] at h
            exact (((ke_X8_call_0 e_q164).le).tr (ke_X9_call_0 e_q173).le).tr (mo_L_law_570 hm18 h)
          · rw [if_neg c176] at h
            cases h
        · rw [if_neg c32_2] at h
          by_cases c32_3 : (t28 &&& (15 : Int32)) = (3 : Int32)
          · rw [if_pos c32_3] at h
            obtain ⟨t186, e_t186, h⟩ := o_b h
            obtain ⟨b187, e_b187, h⟩ := o_b h
            obtain ⟨q187, e_q187, h⟩ := o_b h
            exact ((mo_X8_deliver_0 e_q187)).tr (mo_L_law_190 hm18 h)
          · rw [if_neg c32_3] at h
            by_cases c32_4 : (t28 &&& (15 : Int32)) = (4 : Int32)
            · rw [if_pos c32_4] at h
              obtain ⟨t209, e_t209, h⟩ := o_b h
              obtain ⟨b210, e_b210, h⟩ := o_b h
              obtain ⟨q210, e_q210, h⟩ := o_b h
              obtain ⟨t218, e_t218, h⟩ := o_b h
              obtain ⟨b219, e_b219, h⟩ := o_b h
              obtain ⟨q219, e_q219, h⟩ := o_b h
              by_cases c222 : q210.1 = q219.1
              · rw [if_pos c222] at h
                exact (((ke_X8_lose_0 e_q210).le).tr (ke_X9_lose_0 e_q219).le).tr (mo_L_law_570 hm18 h)
              · rw [if_neg c222] at h
                cases h
            · rw [if_neg c32_4] at h
              by_cases c32_5 : (t28 &&& (15 : Int32)) = (5 : Int32)
              · rw [if_pos c32_5] at h
                obtain ⟨t232, e_t232, h⟩ := o_b h
                obtain ⟨t237, e_t237, h⟩ := o_b h
                obtain ⟨t242, e_t242, h⟩ := o_b h
                obtain ⟨b243, e_b243, h⟩ := o_b h
                obtain ⟨q243, e_q243, h⟩ := o_b h
                obtain ⟨t251, e_t251, h⟩ := o_b h
                obtain ⟨t256, e_t256, h⟩ := o_b h
                obtain ⟨t261, e_t261, h⟩ := o_b h
                obtain ⟨b262, e_b262, h⟩ := o_b h
                obtain ⟨q262, e_q262, h⟩ := o_b h
                by_cases c265 : q243.1 = q262.1
                · rw [if_pos c265] at h
                  exact (((ke_X8_alter_0 e_q243).le).tr (ke_X9_alter_0 e_q262).le).tr (mo_L_law_570 hm18 h)
                · rw [if_neg c265] at h
                  cases h
              · rw [if_neg c32_5] at h
                by_cases c32_6 : (t28 &&& (15 : Int32)) = (6 : Int32)
                · rw [if_pos c32_6] at h
                  obtain ⟨b271, e_b271, h⟩ := o_b h
                  obtain ⟨q271, e_q271, h⟩ := o_b h
                  obtain ⟨b275, e_b275, h⟩ := o_b h
                  obtain ⟨q275, e_q275, h⟩ := o_b h
                  by_cases c278 : q271.1 = q275.1
                  · rw [if_pos c278] at h
                    exact (((ke_X8_tick_0 e_q271).le).tr (ke_X9_tick_0 e_q275).le).tr (mo_L_law_570 hm18 h)
                  · rw [if_neg c278] at h
                    cases h
                · rw [if_neg c32_6] at h
                  by_cases c32_7 : (t28 &&& (15 : Int32)) = (7 : Int32)
                  · rw [if_pos c32_7] at h
                    obtain ⟨t288, e_t288, h⟩ := o_b h
                    obtain ⟨b289, e_b289, h⟩ := o_b h
                    obtain ⟨q289, e_q289, h⟩ := o_b h
                    obtain ⟨t297, e_t297, h⟩ := o_b h
                    obtain ⟨b298, e_b298, h⟩ := o_b h
                    obtain ⟨q298, e_q298, h⟩ := o_b h
                    by_cases c301 : q289.1 = q298.1
                    · rw [if_pos c301] at h
                      exact (((ke_X8_crash_0 e_q289).le).tr (ke_X9_crash_0 e_q298).le).tr (mo_L_law_570 hm18 h)
                    · rw [if_neg c301] at h
                      cases h
                  · rw [if_neg c32_7] at h
                    by_cases c32_8 : (t28 &&& (15 : Int32)) = (8 : Int32)
                    · rw [if_pos c32_8] at h
                      obtain ⟨t311, e_t311, h⟩ := o_b h
                      obtain ⟨b312, e_b312, h⟩ := o_b h
                      obtain ⟨q312, e_q312, h⟩ := o_b h
                      exact ((mo_X8_settle_0 e_q312)).tr (mo_L_law_315 hm18 h)
                    · rw [if_neg c32_8] at h
                      by_cases c32_9 : (t28 &&& (15 : Int32)) = (9 : Int32)
                      · rw [if_pos c32_9] at h
                        obtain ⟨t334, e_t334, h⟩ := o_b h
                        obtain ⟨b335, e_b335, h⟩ := o_b h
                        obtain ⟨q335, e_q335, h⟩ := o_b h
                        obtain ⟨t343, e_t343, h⟩ := o_b h
                        obtain ⟨b344, e_b344, h⟩ := o_b h
                        obtain ⟨q344, e_q344, h⟩ := o_b h
                        by_cases c347 : q335 = q344
                        · rw [if_pos c347] at h
                          exact (mo_L_law_570 hm18 h)
                        · rw [if_neg c347] at h
                          cases h
                      · rw [if_neg c32_9] at h
                        by_cases c32_10 : (t28 &&& (15 : Int32)) = (10 : Int32)
                        · rw [if_pos c32_10] at h
                          obtain ⟨t357, e_t357, h⟩ := o_b h
                          obtain ⟨t362, e_t362, h⟩ := o_b h
                          obtain ⟨t367, e_t367, h⟩ := o_b h
                          obtain ⟨b368, e_b368, h⟩ := o_b h
                          obtain ⟨q368, e_q368, h⟩ := o_b h
                          obtain ⟨t376, e_t376, h⟩ := o_b h
                          obtain ⟨t381, e_t381, h⟩ := o_b h
                          obtain ⟨t386, e_t386, h⟩ := o_b h
                          obtain ⟨b387, e_b387, h⟩ := o_b h
                          obtain ⟨q387, e_q387, h⟩ := o_b h
                          by_cases c390 : q368 = q387
                          · rw [if_pos c390] at h
                            exact (mo_L_law_570 hm18 h)
                          · rw [if_neg c390] at h
                            cases h
                        · rw [if_neg c32_10] at h
                          by_cases c32_11 : (t28 &&& (15 : Int32)) = (11 : Int32)
                          · rw [if_pos c32_11] at h
                            obtain ⟨t400, e_t400, h⟩ := o_b h
                            obtain ⟨t405, e_t405, h⟩ := o_b h
                            obtain ⟨b406, e_b406, h⟩ := o_b h
                            obtain ⟨q406, e_q406, h⟩ := o_b h
                            obtain ⟨t414, e_t414, h⟩ := o_b h
                            obtain ⟨t419, e_t419, h⟩ := o_b h
                            obtain ⟨b420, e_b420, h⟩ := o_b h
                            obtain ⟨q420, e_q420, h⟩ := o_b h
                            by_cases c423 : q406 = q420
                            · rw [if_pos c423] at h
                              exact (mo_L_law_570 hm18 h)
                            · rw [if_neg c423] at h
                              cases h
                          · rw [if_neg c32_11] at h
                            by_cases c32_12 : (t28 &&& (15 : Int32)) = (12 : Int32)
                            · rw [if_pos c32_12] at h
                              obtain ⟨t433, e_t433, h⟩ := o_b h
                              obtain ⟨t438, e_t438, h⟩ := o_b h
                              obtain ⟨b439, e_b439, h⟩ := o_b h
                              obtain ⟨q439, e_q439, h⟩ := o_b h
                              obtain ⟨t447, e_t447, h⟩ := o_b h
                              obtain ⟨t452, e_t452, h⟩ := o_b h
                              obtain ⟨b453, e_b453, h⟩ := o_b h
                              obtain ⟨q453, e_q453, h⟩ := o_b h
                              by_cases c456 : q439 = q453
                              · rw [if_pos c456] at h
                                exact (mo_L_law_570 hm18 h)
                              · rw [if_neg c456] at h
                                cases h
                            · rw [if_neg c32_12] at h
                              by_cases c32_13 : (t28 &&& (15 : Int32)) = (13 : Int32)
                              · rw [if_pos c32_13] at h
                                obtain ⟨t466, e_t466, h⟩ := o_b h
                                obtain ⟨t471, e_t471, h⟩ := o_b h
                                obtain ⟨b472, e_b472, h⟩ := o_b h
                                obtain ⟨q472, e_q472, h⟩ := o_b h
                                obtain ⟨t480, e_t480, h⟩ := o_b h
                                obtain ⟨t485, e_t485, h⟩ := o_b h
                                obtain ⟨b486, e_b486, h⟩ := o_b h
                                obtain ⟨q486, e_q486, h⟩ := o_b h
                                by_cases c489 : q472 = q486
                                · rw [if_pos c489] at h
                                  exact (mo_L_law_570 hm18 h)
                                · rw [if_neg c489] at h
                                  cases h
                              · rw [if_neg c32_13] at h
                                by_cases c32_14 : (t28 &&& (15 : Int32)) = (14 : Int32)
                                · rw [if_pos c32_14] at h
                                  obtain ⟨t499, e_t499, h⟩ := o_b h
                                  obtain ⟨t504, e_t504, h⟩ := o_b h
                                  obtain ⟨t509, e_t509, h⟩ := o_b h
                                  obtain ⟨b510, e_b510, h⟩ := o_b h
                                  obtain ⟨q510, e_q510, h⟩ := o_b h
                                  obtain ⟨t518, e_t518, h⟩ := o_b h
                                  obtain ⟨t523, e_t523, h⟩ := o_b h
                                  obtain ⟨t528, e_t528, h⟩ := o_b h
                                  obtain ⟨b529, e_b529, h⟩ := o_b h
                                  obtain ⟨q529, e_q529, h⟩ := o_b h
                                  by_cases c532 : q510 = q529
                                  · rw [if_pos c532] at h
                                    exact (mo_L_law_570 hm18 h)
                                  · rw [if_neg c532] at h
                                    cases h
                                · rw [if_neg c32_14] at h
                                  by_cases c32_15 : (t28 &&& (15 : Int32)) = (15 : Int32)
                                  · rw [if_pos c32_15] at h
                                    obtain ⟨t542, e_t542, h⟩ := o_b h
                                    obtain ⟨t547, e_t547, h⟩ := o_b h
                                    obtain ⟨b548, e_b548, h⟩ := o_b h
                                    obtain ⟨q548, e_q548, h⟩ := o_b h
                                    obtain ⟨t556, e_t556, h⟩ := o_b h
                                    obtain ⟨t561, e_t561, h⟩ := o_b h
                                    obtain ⟨b562, e_b562, h⟩ := o_b h
                                    obtain ⟨q562, e_q562, h⟩ := o_b h
                                    by_cases c565 : q548 = q562
                                    · rw [if_pos c565] at h
                                      exact (mo_L_law_570 hm18 h)
                                    · rw [if_neg c565] at h
                                      cases h
                                  · rw [if_neg c32_15] at h
                                    exact (mo_L_law_570 hm18 h)
theorem mo_L_law_18 {L : Nat} {xs : Nat → Int32} {z : hp} : ∀ (n : Nat) (σ : hp) (v1 : Option Nat) (v2 : Option Nat) (v3 : Int32), S_L_law_18 L xs n σ v1 v2 v3 = some z → le4 σ z := by
  intro n
  induction n with
  | zero => intro σ v1 v2 v3 h; cases h
  | succ n ih => intro σ v1 v2 v3 h; exact mo_L_law_18_b ih h
set_option maxHeartbeats 4000000 in
set_option maxRecDepth 100000 in
theorem K_L_law_18_b {p : Program} {l : Launch} {e : Env} {s : State} {m : MethodId} {below : List Frame} {meth : Method} {c : Code} {D : va_G} {dA : Nat → ClassId} {b L : Nat} {xs : Nat → Int32} {rec18 : hp → Option Nat → Option Nat → Int32 → Option (hp)} {z : hp} (X : cx p s m #[Value.ref b] c cL_law RL 4 D dA) (hret : meth.sig.returnType = ret) (hlk : meth.locks = false) (hR : 13 ≤ room_1.frames ∧ 299 ≤ room_1.locals) (hX : va_X b L xs s s.heap) (hbl : b < s.heap.size) (hRc : z.2.2.2.1 ≤ s.heap.size + room_1.cells ∧ z.2.2.2.2 ≤ 0 + room_1.slots) (hm18 : ∀ (σ : hp) (v1 : Option Nat) (v2 : Option Nat) (v3 : Int32), rec18 σ v1 v2 v3 = some z → le4 σ z) (hr18 : ∀ (σ : hp) (v1 : Option Nat) (v2 : Option Nat) (v3 : Int32) (H : Heap) (locs : List Loc) (ls : Array Slot), s.heap.size ≤ σ.2.2.2.1 ∧ 0 ≤ σ.2.2.2.2 → hw D dA s.heap.size σ H → hs s.heap.size s.heap H locs → lk ls 4 [(0, .inr (some b)), (1, .inr v1), (2, .inr v2), (3, .inl v3)] → rec18 σ v1 v2 v3 = some z → W p l e room_1 s m #[Value.ref b] below meth c H locs (σ.2.2.2.1 - s.heap.size) (σ.2.2.2.2 - 0) (lw_Z below #[Value.ref b] s) (F0 m 18 ls [])) {σ : hp} {v1 : Option Nat} {v2 : Option Nat} {v3 : Int32} {H : Heap} {locs : List Loc} {ls : Array Slot} (hn : s.heap.size ≤ σ.2.2.2.1 ∧ 0 ≤ σ.2.2.2.2) (hh : hw D dA s.heap.size σ H) (hS : hs s.heap.size s.heap H locs) (hl : lk ls 4 [(0, .inr (some b)), (1, .inr v1), (2, .inr v2), (3, .inl v3)]) (h : S_L_law_18_b L xs rec18 σ v1 v2 v3 = some z) : W p l e room_1 s m #[Value.ref b] below meth c H locs (σ.2.2.2.1 - s.heap.size) (σ.2.2.2.2 - 0) (lw_Z below #[Value.ref b] s) (F0 m 18 ls []) := by
  have hz0 := mo_L_law_18_b hm18 h
  have hcl : σ.2.2.2.1 - s.heap.size ≤ room_1.cells ∧ σ.2.2.2.2 - 0 ≤ room_1.slots := by unfold le4 at hz0; omega
  unfold S_L_law_18_b at h
  refine q_iload_n X dL_law_18 rfl hl 3 rfl ?_
  refine q_aload_n X dL_law_19 rfl hl 0 rfl ?_
  refine q_slen X hX hbl hS dL_law_20 ?_
  refine lv_iconst (v := (4 : Int32)) X.1 X.2.1 dL_law_21 (by decide) ?_
  refine lv_isub X.1 X.2.1 dL_law_22 ?_
  refine lv_icmp_gt (tgt := 576) X.1 X.2.1 dL_law_23 (by decide) (fun c23 => ?_) (fun c23 => ?_)
  · rw [if_pos c23] at h
    refine lv_iconst (v := (1 : Int32)) X.1 X.2.1 dL_law_576 (by decide) ?_
    cases h
    exact q_lend X hret hlk hS hcl dL_law_577
  · rw [if_neg c23] at h
    refine q_aload_n X dL_law_26 rfl hl 0 rfl ?_
    refine q_iload_n X dL_law_27 rfl hl 3 rfl ?_
    obtain ⟨t28, e_t28, h⟩ := o_b h
    refine q_sld X hX hbl hS e_t28 dL_law_28 ?_
    refine lv_bipush (v := (15 : Int32)) X.1 X.2.1 dL_law_29 (by decide) ?_
    refine lv_iand X.1 X.2.1 dL_law_31 ?_
    by_cases c32_0 : (t28 &&& (15 : Int32)) = (0 : Int32)
    · rw [if_pos c32_0] at h
      refine q_tin (tgt := 112) X dL_law_32 c32_0 (by decide) (by decide) rfl (by decide) ?_
      refine q_aload_n X dL_law_112 rfl hl 1 rfl ?_
      refine q_aload_n X dL_law_113 rfl hl 0 rfl ?_
      refine q_iload_n X dL_law_114 rfl hl 3 rfl ?_
      refine lv_iconst (v := (1 : Int32)) X.1 X.2.1 dL_law_115 (by decide) ?_
      refine lv_iadd X.1 X.2.1 dL_law_116 ?_
      obtain ⟨t117, e_t117, h⟩ := o_b h
      refine q_sld X hX hbl hS e_t117 dL_law_117 ?_
      obtain ⟨b118, e_b118, h⟩ := o_b h
      obtain ⟨q118, e_q118, h⟩ := o_b h
      have f118 := ke_X8_put_0 e_q118
      refine q_cV (As := [.int t117]) X hh hS hl cf_L_13 (cN := 8) rfl rfl e_b118 rfl (M_X8_put l D dA s.heap.size σ b118 t117 e_q118) ⟨Nat.le_trans (by decide) hR.1, Nat.le_trans (by decide) hR.2⟩ (cat8 [] (Nat.le_of_ble_eq_true rfl)) dL_law_118 ⟨Nat.le_trans (Nat.le_of_eq (Nat.add_zero _)) hcl.1, Nat.le_trans (Nat.le_of_eq (Nat.add_zero _)) hcl.2⟩ rfl rfl (fun H locs hh hS => ?_)
      refine W.cs (cells' := σ.2.2.2.1 - s.heap.size) (slots' := σ.2.2.2.2 - 0) (Nat.add_zero _) (Nat.add_zero _) ?_
      refine q_aload_n X dL_law_121 rfl hl 2 rfl ?_
      refine q_aload_n X dL_law_122 rfl hl 0 rfl ?_
      refine q_iload_n X dL_law_123 rfl hl 3 rfl ?_
      refine lv_iconst (v := (1 : Int32)) X.1 X.2.1 dL_law_124 (by decide) ?_
      refine lv_iadd X.1 X.2.1 dL_law_125 ?_
      obtain ⟨t126, e_t126, h⟩ := o_b h
      refine q_sld X hX hbl hS e_t126 dL_law_126 ?_
      obtain ⟨b127, e_b127, h⟩ := o_b h
      obtain ⟨q127, e_q127, h⟩ := o_b h
      have yq118_2 : eq4 σ q118.2 := f118
      refine W.cs (cells' := q118.2.2.2.2.1 - s.heap.size) (slots' := q118.2.2.2.2.2 - 0) (by rw [show q118.2.2.2.2 = σ.2.2.2 from yq118_2]) (by rw [show q118.2.2.2.2 = σ.2.2.2 from yq118_2]) ?_
      have hn : s.heap.size ≤ q118.2.2.2.2.1 ∧ 0 ≤ q118.2.2.2.2.2 := by rw [show q118.2.2.2.2 = σ.2.2.2 from yq118_2]; exact hn
      have hcl : q118.2.2.2.2.1 - s.heap.size ≤ room_1.cells ∧ q118.2.2.2.2.2 - 0 ≤ room_1.slots := by rw [show q118.2.2.2.2 = σ.2.2.2 from yq118_2]; exact hcl
      have f127 := ke_X9_put_0 e_q127
      refine q_cV (As := [.int t126]) X hh hS hl cf_L_17 (cN := 9) rfl rfl e_b127 rfl (M_X9_put l D dA s.heap.size q118.2 b127 t126 e_q127) ⟨Nat.le_trans (by decide) hR.1, Nat.le_trans (by decide) hR.2⟩ (cat8 [.inl q118.1] (Nat.le_of_ble_eq_true rfl)) dL_law_127 ⟨Nat.le_trans (Nat.le_of_eq (Nat.add_zero _)) hcl.1, Nat.le_trans (Nat.le_of_eq (Nat.add_zero _)) hcl.2⟩ rfl rfl (fun H locs hh hS => ?_)
      refine W.cs (cells' := q118.2.2.2.2.1 - s.heap.size) (slots' := q118.2.2.2.2.2 - 0) (Nat.add_zero _) (Nat.add_zero _) ?_
      refine lv_icmp_eq (tgt := 570) X.1 X.2.1 dL_law_130 (by decide) (fun c130 => ?_) (fun c130 => ?_)
      · rw [if_pos c130] at h
        have yq127_2 : eq4 q118.2 q127.2 := f127
        refine W.cs (cells' := q127.2.2.2.2.1 - s.heap.size) (slots' := q127.2.2.2.2.2 - 0) (by rw [show q127.2.2.2.2 = q118.2.2.2.2 from yq127_2]) (by rw [show q127.2.2.2.2 = q118.2.2.2.2 from yq127_2]) ?_
        have hn : s.heap.size ≤ q127.2.2.2.2.1 ∧ 0 ≤ q127.2.2.2.2.2 := by rw [show q127.2.2.2.2 = q118.2.2.2.2 from yq127_2]; exact hn
        have hcl : q127.2.2.2.2.1 - s.heap.size ≤ room_1.cells ∧ q127.2.2.2.2.2 - 0 ≤ room_1.slots := by rw [show q127.2.2.2.2 = q118.2.2.2.2 from yq127_2]; exact hcl
        exact K_L_law_570 X hret hlk hR hX hbl hRc hm18 hr18 hn hh hS (lk_sub hl [0, 1, 2, 3] rfl) h
      · rw [if_neg c130] at h
        refine lv_iconst (v := (0 : Int32)) X.1 X.2.1 dL_law_133 (by decide) ?_
        cases h
    · rw [if_neg c32_0] at h
      by_cases c32_1 : (t28 &&& (15 : Int32)) = (1 : Int32)
      · rw [if_pos c32_1] at h
        refine q_tin (tgt := 135) X dL_law_32 c32_1 (by decide) (by decide) rfl (by decide) ?_
        refine q_aload_n X dL_law_135 rfl hl 1 rfl ?_
        refine q_aload_n X dL_law_136 rfl hl 0 rfl ?_
        refine q_iload_n X dL_law_137 rfl hl 3 rfl ?_
        refine lv_iconst (v := (1 : Int32)) X.1 X.2.1 dL_law_138 (by decide) ?_
        refine lv_iadd X.1 X.2.1 dL_law_139 ?_
        obtain ⟨t140, e_t140, h⟩ := o_b h
        refine q_sld X hX hbl hS e_t140 dL_law_140 ?_
        obtain ⟨b141, e_b141, h⟩ := o_b h
        obtain ⟨q141, e_q141, h⟩ := o_b h
        have g141 := mo_L_law_144 hm18 h
        have f141 := mo_X8_queue_0 e_q141
        unfold le4 at g141 f141
        refine q_cV (As := [.int t140]) X hh hS hl cf_L_18 (cN := 8) rfl rfl e_b141 rfl (M_X8_queue l D dA s.heap.size σ b141 t140 e_q141) ⟨Nat.le_trans (by decide) hR.1, Nat.le_trans (by decide) hR.2⟩ (cat8 [] (Nat.le_of_ble_eq_true rfl)) dL_law_141 ⟨by omega, by omega⟩ rfl rfl (fun H locs hh hS => ?_)
        refine W.cs (cells' := q141.2.2.2.2.1 - s.heap.size) (slots' := q141.2.2.2.2.2 - 0) (by omega) (by omega) ?_
        have hn : s.heap.size ≤ q141.2.2.2.2.1 ∧ 0 ≤ q141.2.2.2.2.2 := by omega
        exact K_L_law_144 X hret hlk hR hX hbl hRc hm18 hr18 hn hh hS (lk_sub hl [0, 1, 2, 3] rfl) h
      · rw [if_neg c32_1] at h
        by_cases c32_2 : (t28 &&& (15 : Int32)) = (2 : Int32)
        · rw [if_pos c32_2] at h
          refine q_tin (tgt := 158) X dL_law_32 c32_2 (by decide) (by decide) rfl (by decide) ?_
          refine q_aload_n X dL_law_158 rfl hl 1 rfl ?_
          refine q_aload_n X dL_law_159 rfl hl 0 rfl ?_
          refine q_iload_n X dL_law_160 rfl hl 3 rfl ?_
          refine lv_iconst (v := (1 : Int32)) X.1 X.2.1 dL_law_161 (by decide) ?_
          refine lv_iadd X.1 X.2.1 dL_law_162 ?_
          obtain ⟨t163, e_t163, h⟩ := o_b h
          refine q_sld X hX hbl hS e_t163 dL_law_163 ?_
          obtain ⟨b164, e_b164, h⟩ := o_b h
          obtain ⟨q164, e_q164, h⟩ := o_b h
          have f164 := ke_X8_call_0 e_q164
          refine q_cV (As := [.int t163]) X hh hS hl cf_L_22 (cN := 8) rfl rfl e_b164 rfl (M_X8_call l D dA s.heap.size σ b164 t163 e_q164) ⟨Nat.le_trans (by decide) hR.1, Nat.le_trans (by decide) hR.2⟩ (cat8 [] (Nat.le_of_ble_eq_true rfl)) dL_law_164 ⟨Nat.le_trans (Nat.le_of_eq (Nat.add_zero _)) hcl.1, Nat.le_trans (Nat.le_of_eq (Nat.add_zero _)) hcl.2⟩ rfl rfl (fun H locs hh hS => ?_)
          refine W.cs (cells' := σ.2.2.2.1 - s.heap.size) (slots' := σ.2.2.2.2 - 0) (Nat.add_zero _) (Nat.add_zero _) ?_
          refine q_aload_n X dL_law_167 rfl hl 2 rfl ?_
          refine q_aload_n X dL_law_168 rfl hl 0 rfl ?_
          refine q_iload_n X dL_law_169 rfl hl 3 rfl ?_
          refine lv_iconst (v := (1 : Int32)) X.1 X.2.1 dL_law_170 (by decide) ?_
          refine lv_iadd X.1 X.2.1 dL_law_171 ?_
          obtain ⟨t172, e_t172, h⟩ := o_b h
          refine q_sld X hX hbl hS e_t172 dL_law_172 ?_
          obtain ⟨b173, e_b173, h⟩ := o_b h
          obtain ⟨q173, e_q173, h⟩ := o_b h
          have yq164_2 : eq4 σ q164.2 := f164
          refine W.cs (cells' := q164.2.2.2.2.1 - s.heap.size) (slots' := q164.2.2.2.2.2 - 0) (by rw [show q164.2.2.2.2 = σ.2.2.2 from yq164_2]) (by rw [show q164.2.2.2.2 = σ.2.2.2 from yq164_2]) ?_
          have hn : s.heap.size ≤ q164.2.2.2.2.1 ∧ 0 ≤ q164.2.2.2.2.2 := by rw [show q164.2.2.2.2 = σ.2.2.2 from yq164_2]; exact hn
          have hcl : q164.2.2.2.2.1 - s.heap.size ≤ room_1.cells ∧ q164.2.2.2.2.2 - 0 ≤ room_1.slots := by rw [show q164.2.2.2.2 = σ.2.2.2 from yq164_2]; exact hcl
          have f173 := ke_X9_call_0 e_q173
          refine q_cV (As := [.int t172]) X hh hS hl cf_L_26 (cN := 9) rfl rfl e_b173 rfl (M_X9_call l D dA s.heap.size q164.2 b173 t172 e_q173) ⟨Nat.le_trans (by decide) hR.1, Nat.le_trans (by decide) hR.2⟩ (cat8 [.inl q164.1] (Nat.le_of_ble_eq_true rfl)) dL_law_173 ⟨Nat.le_trans (Nat.le_of_eq (Nat.add_zero _)) hcl.1, Nat.le_trans (Nat.le_of_eq (Nat.add_zero _)) hcl.2⟩ rfl rfl (fun H locs hh hS => ?_)
          refine W.cs (cells' := q164.2.2.2.2.1 - s.heap.size) (slots' := q164.2.2.2.2.2 - 0) (Nat.add_zero _) (Nat.add_zero _) ?_
          refine lv_icmp_eq (tgt := 570) X.1 X.2.1 dL_law_176 (by decide) (fun c176 => ?_) (fun c176 => ?_)
          · rw [if_pos c176] at h
            have yq173_2 : eq4 q164.2 q173.2 := f173
            refine W.cs (cells' := q173.2.2.2.2.1 - s.heap.size) (slots' := q173.2.2.2.2.2 - 0) (by rw [show q173.2.2.2.2 = q164.2.2.2.2 from yq173_2]) (by rw [show q173.2.2.2.2 = q164.2.2.2.2 from yq173_2]) ?_
            have hn : s.heap.size ≤ q173.2.2.2.2.1 ∧ 0 ≤ q173.2.2.2.2.2 := by rw [show q173.2.2.2.2 = q164.2.2.2.2 from yq173_2]; exact hn
            have hcl : q173.2.2.2.2.1 - s.heap.size ≤ room_1.cells ∧ q173.2.2.2.2.2 - 0 ≤ room_1.slots := by rw [show q173.2.2.2.2 = q164.2.2.2.2 from yq173_2]; exact hcl
            exact K_L_law_570 X hret hlk hR hX hbl hRc hm18 hr18 hn hh hS (lk_sub hl [0, 1, 2, 3] rfl) h
          · rw [if_neg c176] at h
            refine lv_iconst (v := (0 : Int32)) X.1 X.2.1 dL_law_179 (by decide) ?_
            cases h
        · rw [if_neg c32_2] at h
          by_cases c32_3 : (t28 &&& (15 : Int32)) = (3 : Int32)
          · rw [if_pos c32_3] at h
            refine q_tin (tgt := 181) X dL_law_32 c32_3 (by decide) (by decide) rfl (by decide) ?_
            refine q_aload_n X dL_law_181 rfl hl 1 rfl ?_
            refine q_aload_n X dL_law_182 rfl hl 0 rfl ?_
            refine q_iload_n X dL_law_183 rfl hl 3 rfl ?_
            refine lv_iconst (v := (1 : Int32)) X.1 X.2.1 dL_law_184 (by decide) ?_
            refine lv_iadd X.1 X.2.1 dL_law_185 ?_
            obtain ⟨t186, e_t186, h⟩ := o_b h
            refine q_sld X hX hbl hS e_t186 dL_law_186 ?_
            obtain ⟨b187, e_b187, h⟩ := o_b h
            obtain ⟨q187, e_q187, h⟩ := o_b h
            have g187 := mo_L_law_190 hm18 h
            have f187 := mo_X8_deliver_0 e_q187
            unfold le4 at g187 f187
            refine q_cV (As := [.int t186]) X hh hS hl cf_L_27 (cN := 8) rfl rfl e_b187 rfl (M_X8_deliver l D dA s.heap.size σ b187 t186 e_q187) ⟨Nat.le_trans (by decide) hR.1, Nat.le_trans (by decide) hR.2⟩ (cat8 [] (Nat.le_of_ble_eq_true rfl)) dL_law_187 ⟨by omega, by omega⟩ rfl rfl (fun H locs hh hS => ?_)
            refine W.cs (cells' := q187.2.2.2.2.1 - s.heap.size) (slots' := q187.2.2.2.2.2 - 0) (by omega) (by omega) ?_
            have hn : s.heap.size ≤ q187.2.2.2.2.1 ∧ 0 ≤ q187.2.2.2.2.2 := by omega
            exact K_L_law_190 X hret hlk hR hX hbl hRc hm18 hr18 hn hh hS (lk_sub hl [0, 1, 2, 3] rfl) h
          · rw [if_neg c32_3] at h
            by_cases c32_4 : (t28 &&& (15 : Int32)) = (4 : Int32)
            · rw [if_pos c32_4] at h
              refine q_tin (tgt := 204) X dL_law_32 c32_4 (by decide) (by decide) rfl (by decide) ?_
              refine q_aload_n X dL_law_204 rfl hl 1 rfl ?_
              refine q_aload_n X dL_law_205 rfl hl 0 rfl ?_
              refine q_iload_n X dL_law_206 rfl hl 3 rfl ?_
              refine lv_iconst (v := (1 : Int32)) X.1 X.2.1 dL_law_207 (by decide) ?_
              refine lv_iadd X.1 X.2.1 dL_law_208 ?_
              obtain ⟨t209, e_t209, h⟩ := o_b h
              refine q_sld X hX hbl hS e_t209 dL_law_209 ?_
              obtain ⟨b210, e_b210, h⟩ := o_b h
              obtain ⟨q210, e_q210, h⟩ := o_b h
              have f210 := ke_X8_lose_0 e_q210
              refine q_cV (As := [.int t209]) X hh hS hl cf_L_31 (cN := 8) rfl rfl e_b210 rfl (M_X8_lose l D dA s.heap.size σ b210 t209 e_q210) ⟨Nat.le_trans (by decide) hR.1, Nat.le_trans (by decide) hR.2⟩ (cat8 [] (Nat.le_of_ble_eq_true rfl)) dL_law_210 ⟨Nat.le_trans (Nat.le_of_eq (Nat.add_zero _)) hcl.1, Nat.le_trans (Nat.le_of_eq (Nat.add_zero _)) hcl.2⟩ rfl rfl (fun H locs hh hS => ?_)
              refine W.cs (cells' := σ.2.2.2.1 - s.heap.size) (slots' := σ.2.2.2.2 - 0) (Nat.add_zero _) (Nat.add_zero _) ?_
              refine q_aload_n X dL_law_213 rfl hl 2 rfl ?_
              refine q_aload_n X dL_law_214 rfl hl 0 rfl ?_
              refine q_iload_n X dL_law_215 rfl hl 3 rfl ?_
              refine lv_iconst (v := (1 : Int32)) X.1 X.2.1 dL_law_216 (by decide) ?_
              refine lv_iadd X.1 X.2.1 dL_law_217 ?_
              obtain ⟨t218, e_t218, h⟩ := o_b h
              refine q_sld X hX hbl hS e_t218 dL_law_218 ?_
              obtain ⟨b219, e_b219, h⟩ := o_b h
              obtain ⟨q219, e_q219, h⟩ := o_b h
              have yq210_2 : eq4 σ q210.2 := f210
              refine W.cs (cells' := q210.2.2.2.2.1 - s.heap.size) (slots' := q210.2.2.2.2.2 - 0) (by rw [show q210.2.2.2.2 = σ.2.2.2 from yq210_2]) (by rw [show q210.2.2.2.2 = σ.2.2.2 from yq210_2]) ?_
              have hn : s.heap.size ≤ q210.2.2.2.2.1 ∧ 0 ≤ q210.2.2.2.2.2 := by rw [show q210.2.2.2.2 = σ.2.2.2 from yq210_2]; exact hn
              have hcl : q210.2.2.2.2.1 - s.heap.size ≤ room_1.cells ∧ q210.2.2.2.2.2 - 0 ≤ room_1.slots := by rw [show q210.2.2.2.2 = σ.2.2.2 from yq210_2]; exact hcl
              have f219 := ke_X9_lose_0 e_q219
              refine q_cV (As := [.int t218]) X hh hS hl cf_L_34 (cN := 9) rfl rfl e_b219 rfl (M_X9_lose l D dA s.heap.size q210.2 b219 t218 e_q219) ⟨Nat.le_trans (by decide) hR.1, Nat.le_trans (by decide) hR.2⟩ (cat8 [.inl q210.1] (Nat.le_of_ble_eq_true rfl)) dL_law_219 ⟨Nat.le_trans (Nat.le_of_eq (Nat.add_zero _)) hcl.1, Nat.le_trans (Nat.le_of_eq (Nat.add_zero _)) hcl.2⟩ rfl rfl (fun H locs hh hS => ?_)
              refine W.cs (cells' := q210.2.2.2.2.1 - s.heap.size) (slots' := q210.2.2.2.2.2 - 0) (Nat.add_zero _) (Nat.add_zero _) ?_
              refine lv_icmp_eq (tgt := 570) X.1 X.2.1 dL_law_222 (by decide) (fun c222 => ?_) (fun c222 => ?_)
              · rw [if_pos c222] at h
                have yq219_2 : eq4 q210.2 q219.2 := f219
                refine W.cs (cells' := q219.2.2.2.2.1 - s.heap.size) (slots' := q219.2.2.2.2.2 - 0) (by rw [show q219.2.2.2.2 = q210.2.2.2.2 from yq219_2]) (by rw [show q219.2.2.2.2 = q210.2.2.2.2 from yq219_2]) ?_
                have hn : s.heap.size ≤ q219.2.2.2.2.1 ∧ 0 ≤ q219.2.2.2.2.2 := by rw [show q219.2.2.2.2 = q210.2.2.2.2 from yq219_2]; exact hn
                have hcl : q219.2.2.2.2.1 - s.heap.size ≤ room_1.cells ∧ q219.2.2.2.2.2 - 0 ≤ room_1.slots := by rw [show q219.2.2.2.2 = q210.2.2.2.2 from yq219_2]; exact hcl
                exact K_L_law_570 X hret hlk hR hX hbl hRc hm18 hr18 hn hh hS (lk_sub hl [0, 1, 2, 3] rfl) h
              · rw [if_neg c222] at h
                refine lv_iconst (v := (0 : Int32)) X.1 X.2.1 dL_law_225 (by decide) ?_
                cases h
            · rw [if_neg c32_4] at h
              by_cases c32_5 : (t28 &&& (15 : Int32)) = (5 : Int32)
              · rw [if_pos c32_5] at h
                refine q_tin (tgt := 227) X dL_law_32 c32_5 (by decide) (by decide) rfl (by decide) ?_
                refine q_aload_n X dL_law_227 rfl hl 1 rfl ?_
                refine q_aload_n X dL_law_228 rfl hl 0 rfl ?_
                refine q_iload_n X dL_law_229 rfl hl 3 rfl ?_
                refine lv_iconst (v := (1 : Int32)) X.1 X.2.1 dL_law_230 (by decide) ?_
                refine lv_iadd X.1 X.2.1 dL_law_231 ?_
                obtain ⟨t232, e_t232, h⟩ := o_b h
                refine q_sld X hX hbl hS e_t232 dL_law_232 ?_
                refine q_aload_n X dL_law_233 rfl hl 0 rfl ?_
                refine q_iload_n X dL_law_234 rfl hl 3 rfl ?_
                refine lv_iconst (v := (2 : Int32)) X.1 X.2.1 dL_law_235 (by decide) ?_
                refine lv_iadd X.1 X.2.1 dL_law_236 ?_
                obtain ⟨t237, e_t237, h⟩ := o_b h
                refine q_sld X hX hbl hS e_t237 dL_law_237 ?_
                refine q_aload_n X dL_law_238 rfl hl 0 rfl ?_
                refine q_iload_n X dL_law_239 rfl hl 3 rfl ?_
                refine lv_iconst (v := (3 : Int32)) X.1 X.2.1 dL_law_240 (by decide) ?_
                refine lv_iadd X.1 X.2.1 dL_law_241 ?_
                obtain ⟨t242, e_t242, h⟩ := o_b h
                refine q_sld X hX hbl hS e_t242 dL_law_242 ?_
                obtain ⟨b243, e_b243, h⟩ := o_b h
                obtain ⟨q243, e_q243, h⟩ := o_b h
                have f243 := ke_X8_alter_0 e_q243
                refine q_cV (As := [.int t232, .int t237, .int t242]) X hh hS hl cf_L_35 (cN := 8) rfl rfl e_b243 rfl (M_X8_alter l D dA s.heap.size σ b243 t232 t237 t242 e_q243) ⟨Nat.le_trans (by decide) hR.1, Nat.le_trans (by decide) hR.2⟩ (cat8 [] (Nat.le_of_ble_eq_true rfl)) dL_law_243 ⟨Nat.le_trans (Nat.le_of_eq (Nat.add_zero _)) hcl.1, Nat.le_trans (Nat.le_of_eq (Nat.add_zero _)) hcl.2⟩ rfl rfl (fun H locs hh hS => ?_)
                refine W.cs (cells' := σ.2.2.2.1 - s.heap.size) (slots' := σ.2.2.2.2 - 0) (Nat.add_zero _) (Nat.add_zero _) ?_
                refine q_aload_n X dL_law_246 rfl hl 2 rfl ?_
                refine q_aload_n X dL_law_247 rfl hl 0 rfl ?_
                refine q_iload_n X dL_law_248 rfl hl 3 rfl ?_
                refine lv_iconst (v := (1 : Int32)) X.1 X.2.1 dL_law_249 (by decide) ?_
                refine lv_iadd X.1 X.2.1 dL_law_250 ?_
                obtain ⟨t251, e_t251, h⟩ := o_b h
                refine q_sld X hX hbl hS e_t251 dL_law_251 ?_
                refine q_aload_n X dL_law_252 rfl hl 0 rfl ?_
                refine q_iload_n X dL_law_253 rfl hl 3 rfl ?_
                refine lv_iconst (v := (2 : Int32)) X.1 X.2.1 dL_law_254 (by decide) ?_
                refine lv_iadd X.1 X.2.1 dL_law_255 ?_
                obtain ⟨t256, e_t256, h⟩ := o_b h
                refine q_sld X hX hbl hS e_t256 dL_law_256 ?_
                refine q_aload_n X dL_law_257 rfl hl 0 rfl ?_
                refine q_iload_n X dL_law_258 rfl hl 3 rfl ?_
                refine lv_iconst (v := (3 : Int32)) X.1 X.2.1 dL_law_259 (by decide) ?_
                refine lv_iadd X.1 X.2.1 dL_law_260 ?_
                obtain ⟨t261, e_t261, h⟩ := o_b h
                refine q_sld X hX hbl hS e_t261 dL_law_261 ?_
                obtain ⟨b262, e_b262, h⟩ := o_b h
                obtain ⟨q262, e_q262, h⟩ := o_b h
                have yq243_2 : eq4 σ q243.2 := f243
                refine W.cs (cells' := q243.2.2.2.2.1 - s.heap.size) (slots' := q243.2.2.2.2.2 - 0) (by rw [show q243.2.2.2.2 = σ.2.2.2 from yq243_2]) (by rw [show q243.2.2.2.2 = σ.2.2.2 from yq243_2]) ?_
                have hn : s.heap.size ≤ q243.2.2.2.2.1 ∧ 0 ≤ q243.2.2.2.2.2 := by rw [show q243.2.2.2.2 = σ.2.2.2 from yq243_2]; exact hn
                have hcl : q243.2.2.2.2.1 - s.heap.size ≤ room_1.cells ∧ q243.2.2.2.2.2 - 0 ≤ room_1.slots := by rw [show q243.2.2.2.2 = σ.2.2.2 from yq243_2]; exact hcl
                have f262 := ke_X9_alter_0 e_q262
                refine q_cV (As := [.int t251, .int t256, .int t261]) X hh hS hl cf_L_39 (cN := 9) rfl rfl e_b262 rfl (M_X9_alter l D dA s.heap.size q243.2 b262 t251 t256 t261 e_q262) ⟨Nat.le_trans (by decide) hR.1, Nat.le_trans (by decide) hR.2⟩ (cat8 [.inl q243.1] (Nat.le_of_ble_eq_true rfl)) dL_law_262 ⟨Nat.le_trans (Nat.le_of_eq (Nat.add_zero _)) hcl.1, Nat.le_trans (Nat.le_of_eq (Nat.add_zero _)) hcl.2⟩ rfl rfl (fun H locs hh hS => ?_)
                refine W.cs (cells' := q243.2.2.2.2.1 - s.heap.size) (slots' := q243.2.2.2.2.2 - 0) (Nat.add_zero _) (Nat.add_zero _) ?_
                refine lv_icmp_eq (tgt := 570) X.1 X.2.1 dL_law_265 (by decide) (fun c265 => ?_) (fun c265 => ?_)
                · rw [if_pos c265] at h
                  have yq262_2 : eq4 q243.2 q262.2 := f262
                  refine W.cs (cells' := q262.2.2.2.2.1 - s.heap.size) (slots' := q262.2.2.2.2.2 - 0) (by rw [show q262.2.2.2.2 = q243.2.2.2.2 from yq262_2]) (by rw [show q262.2.2.2.2 = q243.2.2.2.2 from yq262_2]) ?_
                  have hn : s.heap.size ≤ q262.2.2.2.2.1 ∧ 0 ≤ q262.2.2.2.2.2 := by rw [show q262.2.2.2.2 = q243.2.2.2.2 from yq262_2]; exact hn
                  have hcl : q262.2.2.2.2.1 - s.heap.size ≤ room_1.cells ∧ q262.2.2.2.2.2 - 0 ≤ room_1.slots := by rw [show q262.2.2.2.2 = q243.2.2.2.2 from yq262_2]; exact hcl
                  exact K_L_law_570 X hret hlk hR hX hbl hRc hm18 hr18 hn hh hS (lk_sub hl [0, 1, 2, 3] rfl) h
                · rw [if_neg c265] at h
                  refine lv_iconst (v := (0 : Int32)) X.1 X.2.1 dL_law_268 (by decide) ?_
                  cases h
              · rw [if_neg c32_5] at h
                by_cases c32_6 : (t28 &&& (15 : Int32)) = (6 : Int32)
                · rw [if_pos c32_6] at h
                  refine q_tin (tgt := 270) X dL_law_32 c32_6 (by decide) (by decide) rfl (by decide) ?_
                  refine q_aload_n X dL_law_270 rfl hl 1 rfl ?_
                  obtain ⟨b271, e_b271, h⟩ := o_b h
                  obtain ⟨q271, e_q271, h⟩ := o_b h
                  have f271 := ke_X8_tick_0 e_q271
                  refine q_cV (As := []) X hh hS hl cf_L_40 (cN := 8) rfl rfl e_b271 rfl (M_X8_tick l D dA s.heap.size σ b271  e_q271) ⟨Nat.le_trans (by decide) hR.1, Nat.le_trans (by decide) hR.2⟩ (cat8 [] (Nat.le_of_ble_eq_true rfl)) dL_law_271 ⟨Nat.le_trans (Nat.le_of_eq (Nat.add_zero _)) hcl.1, Nat.le_trans (Nat.le_of_eq (Nat.add_zero _)) hcl.2⟩ rfl rfl (fun H locs hh hS => ?_)
                  refine W.cs (cells' := σ.2.2.2.1 - s.heap.size) (slots' := σ.2.2.2.2 - 0) (Nat.add_zero _) (Nat.add_zero _) ?_
                  refine q_aload_n X dL_law_274 rfl hl 2 rfl ?_
                  obtain ⟨b275, e_b275, h⟩ := o_b h
                  obtain ⟨q275, e_q275, h⟩ := o_b h
                  have yq271_2 : eq4 σ q271.2 := f271
                  refine W.cs (cells' := q271.2.2.2.2.1 - s.heap.size) (slots' := q271.2.2.2.2.2 - 0) (by rw [show q271.2.2.2.2 = σ.2.2.2 from yq271_2]) (by rw [show q271.2.2.2.2 = σ.2.2.2 from yq271_2]) ?_
                  have hn : s.heap.size ≤ q271.2.2.2.2.1 ∧ 0 ≤ q271.2.2.2.2.2 := by rw [show q271.2.2.2.2 = σ.2.2.2 from yq271_2]; exact hn
                  have hcl : q271.2.2.2.2.1 - s.heap.size ≤ room_1.cells ∧ q271.2.2.2.2.2 - 0 ≤ room_1.slots := by rw [show q271.2.2.2.2 = σ.2.2.2 from yq271_2]; exact hcl
                  have f275 := ke_X9_tick_0 e_q275
                  refine q_cV (As := []) X hh hS hl cf_L_44 (cN := 9) rfl rfl e_b275 rfl (M_X9_tick l D dA s.heap.size q271.2 b275  e_q275) ⟨Nat.le_trans (by decide) hR.1, Nat.le_trans (by decide) hR.2⟩ (cat8 [.inl q271.1] (Nat.le_of_ble_eq_true rfl)) dL_law_275 ⟨Nat.le_trans (Nat.le_of_eq (Nat.add_zero _)) hcl.1, Nat.le_trans (Nat.le_of_eq (Nat.add_zero _)) hcl.2⟩ rfl rfl (fun H locs hh hS => ?_)
                  refine W.cs (cells' := q271.2.2.2.2.1 - s.heap.size) (slots' := q271.2.2.2.2.2 - 0) (Nat.add_zero _) (Nat.add_zero _) ?_
                  refine lv_icmp_eq (tgt := 570) X.1 X.2.1 dL_law_278 (by decide) (fun c278 => ?_) (fun c278 => ?_)
                  · rw [if_pos c278] at h
                    have yq275_2 : eq4 q271.2 q275.2 := f275
                    refine W.cs (cells' := q275.2.2.2.2.1 - s.heap.size) (slots' := q275.2.2.2.2.2 - 0) (by rw [show q275.2.2.2.2 = q271.2.2.2.2 from yq275_2]) (by rw [show q275.2.2.2.2 = q271.2.2.2.2 from yq275_2]) ?_
                    have hn : s.heap.size ≤ q275.2.2.2.2.1 ∧ 0 ≤ q275.2.2.2.2.2 := by rw [show q275.2.2.2.2 = q271.2.2.2.2 from yq275_2]; exact hn
                    have hcl : q275.2.2.2.2.1 - s.heap.size ≤ room_1.cells ∧ q275.2.2.2.2.2 - 0 ≤ room_1.slots := by rw [show q275.2.2.2.2 = q271.2.2.2.2 from yq275_2]; exact hcl
                    exact K_L_law_570 X hret hlk hR hX hbl hRc hm18 hr18 hn hh hS (lk_sub hl [0, 1, 2, 3] rfl) h
                  · rw [if_neg c278] at h
                    refine lv_iconst (v := (0 : Int32)) X.1 X.2.1 dL_law_281 (by decide) ?_
                    cases h
                · rw [if_neg c32_6] at h
                  by_cases c32_7 : (t28 &&& (15 : Int32)) = (7 : Int32)
                  · rw [if_pos c32_7] at h
                    refine q_tin (tgt := 283) X dL_law_32 c32_7 (by decide) (by decide) rfl (by decide) ?_
                    refine q_aload_n X dL_law_283 rfl hl 1 rfl ?_
                    refine q_aload_n X dL_law_284 rfl hl 0 rfl ?_
                    refine q_iload_n X dL_law_285 rfl hl 3 rfl ?_
                    refine lv_iconst (v := (1 : Int32)) X.1 X.2.1 dL_law_286 (by decide) ?_
                    refine lv_iadd X.1 X.2.1 dL_law_287 ?_
                    obtain ⟨t288, e_t288, h⟩ := o_b h
                    refine q_sld X hX hbl hS e_t288 dL_law_288 ?_
                    obtain ⟨b289, e_b289, h⟩ := o_b h
                    obtain ⟨q289, e_q289, h⟩ := o_b h
                    have f289 := ke_X8_crash_0 e_q289
                    refine q_cV (As := [.int t288]) X hh hS hl cf_L_45 (cN := 8) rfl rfl e_b289 rfl (M_X8_crash l D dA s.heap.size σ b289 t288 e_q289) ⟨Nat.le_trans (by decide) hR.1, Nat.le_trans (by decide) hR.2⟩ (cat8 [] (Nat.le_of_ble_eq_true rfl)) dL_law_289 ⟨Nat.le_trans (Nat.le_of_eq (Nat.add_zero _)) hcl.1, Nat.le_trans (Nat.le_of_eq (Nat.add_zero _)) hcl.2⟩ rfl rfl (fun H locs hh hS => ?_)
                    refine W.cs (cells' := σ.2.2.2.1 - s.heap.size) (slots' := σ.2.2.2.2 - 0) (Nat.add_zero _) (Nat.add_zero _) ?_
                    refine q_aload_n X dL_law_292 rfl hl 2 rfl ?_
                    refine q_aload_n X dL_law_293 rfl hl 0 rfl ?_
                    refine q_iload_n X dL_law_294 rfl hl 3 rfl ?_
                    refine lv_iconst (v := (1 : Int32)) X.1 X.2.1 dL_law_295 (by decide) ?_
                    refine lv_iadd X.1 X.2.1 dL_law_296 ?_
                    obtain ⟨t297, e_t297, h⟩ := o_b h
                    refine q_sld X hX hbl hS e_t297 dL_law_297 ?_
                    obtain ⟨b298, e_b298, h⟩ := o_b h
                    obtain ⟨q298, e_q298, h⟩ := o_b h
                    have yq289_2 : eq4 σ q289.2 := f289
                    refine W.cs (cells' := q289.2.2.2.2.1 - s.heap.size) (slots' := q289.2.2.2.2.2 - 0) (by rw [show q289.2.2.2.2 = σ.2.2.2 from yq289_2]) (by rw [show q289.2.2.2.2 = σ.2.2.2 from yq289_2]) ?_
                    have hn : s.heap.size ≤ q289.2.2.2.2.1 ∧ 0 ≤ q289.2.2.2.2.2 := by rw [show q289.2.2.2.2 = σ.2.2.2 from yq289_2]; exact hn
                    have hcl : q289.2.2.2.2.1 - s.heap.size ≤ room_1.cells ∧ q289.2.2.2.2.2 - 0 ≤ room_1.slots := by rw [show q289.2.2.2.2 = σ.2.2.2 from yq289_2]; exact hcl
                    have f298 := ke_X9_crash_0 e_q298
                    refine q_cV (As := [.int t297]) X hh hS hl cf_L_48 (cN := 9) rfl rfl e_b298 rfl (M_X9_crash l D dA s.heap.size q289.2 b298 t297 e_q298) ⟨Nat.le_trans (by decide) hR.1, Nat.le_trans (by decide) hR.2⟩ (cat8 [.inl q289.1] (Nat.le_of_ble_eq_true rfl)) dL_law_298 ⟨Nat.le_trans (Nat.le_of_eq (Nat.add_zero _)) hcl.1, Nat.le_trans (Nat.le_of_eq (Nat.add_zero _)) hcl.2⟩ rfl rfl (fun H locs hh hS => ?_)
                    refine W.cs (cells' := q289.2.2.2.2.1 - s.heap.size) (slots' := q289.2.2.2.2.2 - 0) (Nat.add_zero _) (Nat.add_zero _) ?_
                    refine lv_icmp_eq (tgt := 570) X.1 X.2.1 dL_law_301 (by decide) (fun c301 => ?_) (fun c301 => ?_)
                    · rw [if_pos c301] at h
                      have yq298_2 : eq4 q289.2 q298.2 := f298
                      refine W.cs (cells' := q298.2.2.2.2.1 - s.heap.size) (slots' := q298.2.2.2.2.2 - 0) (by rw [show q298.2.2.2.2 = q289.2.2.2.2 from yq298_2]) (by rw [show q298.2.2.2.2 = q289.2.2.2.2 from yq298_2]) ?_
                      have hn : s.heap.size ≤ q298.2.2.2.2.1 ∧ 0 ≤ q298.2.2.2.2.2 := by rw [show q298.2.2.2.2 = q289.2.2.2.2 from yq298_2]; exact hn
                      have hcl : q298.2.2.2.2.1 - s.heap.size ≤ room_1.cells ∧ q298.2.2.2.2.2 - 0 ≤ room_1.slots := by rw [show q298.2.2.2.2 = q289.2.2.2.2 from yq298_2]; exact hcl
                      exact K_L_law_570 X hret hlk hR hX hbl hRc hm18 hr18 hn hh hS (lk_sub hl [0, 1, 2, 3] rfl) h
                    · rw [if_neg c301] at h
                      refine lv_iconst (v := (0 : Int32)) X.1 X.2.1 dL_law_304 (by decide) ?_
                      cases h
                  · rw [if_neg c32_7] at h
                    by_cases c32_8 : (t28 &&& (15 : Int32)) = (8 : Int32)
                    · rw [if_pos c32_8] at h
                      refine q_tin (tgt := 306) X dL_law_32 c32_8 (by decide) (by decide) rfl (by decide) ?_
                      refine q_aload_n X dL_law_306 rfl hl 1 rfl ?_
                      refine q_aload_n X dL_law_307 rfl hl 0 rfl ?_
                      refine q_iload_n X dL_law_308 rfl hl 3 rfl ?_
                      refine lv_iconst (v := (1 : Int32)) X.1 X.2.1 dL_law_309 (by decide) ?_
                      refine lv_iadd X.1 X.2.1 dL_law_310 ?_
                      obtain ⟨t311, e_t311, h⟩ := o_b h
                      refine q_sld X hX hbl hS e_t311 dL_law_311 ?_
                      obtain ⟨b312, e_b312, h⟩ := o_b h
                      obtain ⟨q312, e_q312, h⟩ := o_b h
                      have g312 := mo_L_law_315 hm18 h
                      have f312 := mo_X8_settle_0 e_q312
                      unfold le4 at g312 f312
                      refine q_cV (As := [.int t311]) X hh hS hl cf_L_49 (cN := 8) rfl rfl e_b312 rfl (M_X8_settle l D dA s.heap.size σ b312 t311 e_q312) ⟨Nat.le_trans (by decide) hR.1, Nat.le_trans (by decide) hR.2⟩ (cat8 [] (Nat.le_of_ble_eq_true rfl)) dL_law_312 ⟨by omega, by omega⟩ rfl rfl (fun H locs hh hS => ?_)
                      refine W.cs (cells' := q312.2.2.2.2.1 - s.heap.size) (slots' := q312.2.2.2.2.2 - 0) (by omega) (by omega) ?_
                      have hn : s.heap.size ≤ q312.2.2.2.2.1 ∧ 0 ≤ q312.2.2.2.2.2 := by omega
                      exact K_L_law_315 X hret hlk hR hX hbl hRc hm18 hr18 hn hh hS (lk_sub hl [0, 1, 2, 3] rfl) h
                    · rw [if_neg c32_8] at h
                      by_cases c32_9 : (t28 &&& (15 : Int32)) = (9 : Int32)
                      · rw [if_pos c32_9] at h
                        refine q_tin (tgt := 329) X dL_law_32 c32_9 (by decide) (by decide) rfl (by decide) ?_
                        refine q_aload_n X dL_law_329 rfl hl 1 rfl ?_
                        refine q_aload_n X dL_law_330 rfl hl 0 rfl ?_
                        refine q_iload_n X dL_law_331 rfl hl 3 rfl ?_
                        refine lv_iconst (v := (1 : Int32)) X.1 X.2.1 dL_law_332 (by decide) ?_
                        refine lv_iadd X.1 X.2.1 dL_law_333 ?_
                        obtain ⟨t334, e_t334, h⟩ := o_b h
                        refine q_sld X hX hbl hS e_t334 dL_law_334 ?_
                        obtain ⟨b335, e_b335, h⟩ := o_b h
                        obtain ⟨q335, e_q335, h⟩ := o_b h
                        refine q_cV (As := [.int t334]) X hh hS hl cf_L_53 (cN := 8) rfl rfl e_b335 rfl (M_X8_waiting l D dA s.heap.size σ b335 t334 e_q335) ⟨Nat.le_trans (by decide) hR.1, Nat.le_trans (by decide) hR.2⟩ (cat8 [] (Nat.le_of_ble_eq_true rfl)) dL_law_335 ⟨Nat.le_trans (Nat.le_of_eq (Nat.add_zero _)) hcl.1, Nat.le_trans (Nat.le_of_eq (Nat.add_zero _)) hcl.2⟩ rfl rfl (fun H locs hh hS => ?_)
                        refine W.cs (cells' := σ.2.2.2.1 - s.heap.size) (slots' := σ.2.2.2.2 - 0) (Nat.add_zero _) (Nat.add_zero _) ?_
                        refine q_aload_n X dL_law_338 rfl hl 2 rfl ?_
                        refine q_aload_n X dL_law_339 rfl hl 0 rfl ?_
                        refine q_iload_n X dL_law_340 rfl hl 3 rfl ?_
                        refine lv_iconst (v := (1 : Int32)) X.1 X.2.1 dL_law_341 (by decide) ?_
                        refine lv_iadd X.1 X.2.1 dL_law_342 ?_
                        obtain ⟨t343, e_t343, h⟩ := o_b h
                        refine q_sld X hX hbl hS e_t343 dL_law_343 ?_
                        obtain ⟨b344, e_b344, h⟩ := o_b h
                        obtain ⟨q344, e_q344, h⟩ := o_b h
                        refine q_cV (As := [.int t343]) X hh hS hl cf_L_56 (cN := 9) rfl rfl e_b344 rfl (M_X9_waiting l D dA s.heap.size σ b344 t343 e_q344) ⟨Nat.le_trans (by decide) hR.1, Nat.le_trans (by decide) hR.2⟩ (cat8 [.inl q335] (Nat.le_of_ble_eq_true rfl)) dL_law_344 ⟨Nat.le_trans (Nat.le_of_eq (Nat.add_zero _)) hcl.1, Nat.le_trans (Nat.le_of_eq (Nat.add_zero _)) hcl.2⟩ rfl rfl (fun H locs hh hS => ?_)
                        refine W.cs (cells' := σ.2.2.2.1 - s.heap.size) (slots' := σ.2.2.2.2 - 0) (Nat.add_zero _) (Nat.add_zero _) ?_
                        refine lv_icmp_eq (tgt := 570) X.1 X.2.1 dL_law_347 (by decide) (fun c347 => ?_) (fun c347 => ?_)
                        · rw [if_pos c347] at h
                          exact K_L_law_570 X hret hlk hR hX hbl hRc hm18 hr18 hn hh hS (lk_sub hl [0, 1, 2, 3] rfl) h
                        · rw [if_neg c347] at h
                          refine lv_iconst (v := (0 : Int32)) X.1 X.2.1 dL_law_350 (by decide) ?_
                          cases h
                      · rw [if_neg c32_9] at h
                        by_cases c32_10 : (t28 &&& (15 : Int32)) = (10 : Int32)
                        · rw [if_pos c32_10] at h
                          refine q_tin (tgt := 352) X dL_law_32 c32_10 (by decide) (by decide) rfl (by decide) ?_
                          refine q_aload_n X dL_law_352 rfl hl 1 rfl ?_
                          refine q_aload_n X dL_law_353 rfl hl 0 rfl ?_
                          refine q_iload_n X dL_law_354 rfl hl 3 rfl ?_
                          refine lv_iconst (v := (1 : Int32)) X.1 X.2.1 dL_law_355 (by decide) ?_
                          refine lv_iadd X.1 X.2.1 dL_law_356 ?_
                          obtain ⟨t357, e_t357, h⟩ := o_b h
                          refine q_sld X hX hbl hS e_t357 dL_law_357 ?_
                          refine q_aload_n X dL_law_358 rfl hl 0 rfl ?_
                          refine q_iload_n X dL_law_359 rfl hl 3 rfl ?_
                          refine lv_iconst (v := (2 : Int32)) X.1 X.2.1 dL_law_360 (by decide) ?_
                          refine lv_iadd X.1 X.2.1 dL_law_361 ?_
                          obtain ⟨t362, e_t362, h⟩ := o_b h
                          refine q_sld X hX hbl hS e_t362 dL_law_362 ?_
                          refine q_aload_n X dL_law_363 rfl hl 0 rfl ?_
                          refine q_iload_n X dL_law_364 rfl hl 3 rfl ?_
                          refine lv_iconst (v := (3 : Int32)) X.1 X.2.1 dL_law_365 (by decide) ?_
                          refine lv_iadd X.1 X.2.1 dL_law_366 ?_
                          obtain ⟨t367, e_t367, h⟩ := o_b h
                          refine q_sld X hX hbl hS e_t367 dL_law_367 ?_
                          obtain ⟨b368, e_b368, h⟩ := o_b h
                          obtain ⟨q368, e_q368, h⟩ := o_b h
                          refine q_cV (As := [.int t357, .int t362, .int t367]) X hh hS hl cf_L_57 (cN := 8) rfl rfl e_b368 rfl (M_X8_look l D dA s.heap.size σ b368 t357 t362 t367 e_q368) ⟨Nat.le_trans (by decide) hR.1, Nat.le_trans (by decide) hR.2⟩ (cat8 [] (Nat.le_of_ble_eq_true rfl)) dL_law_368 ⟨Nat.le_trans (Nat.le_of_eq (Nat.add_zero _)) hcl.1, Nat.le_trans (Nat.le_of_eq (Nat.add_zero _)) hcl.2⟩ rfl rfl (fun H locs hh hS => ?_)
                          refine W.cs (cells' := σ.2.2.2.1 - s.heap.size) (slots' := σ.2.2.2.2 - 0) (Nat.add_zero _) (Nat.add_zero _) ?_
                          refine q_aload_n X dL_law_371 rfl hl 2 rfl ?_
                          refine q_aload_n X dL_law_372 rfl hl 0 rfl ?_
                          refine q_iload_n X dL_law_373 rfl hl 3 rfl ?_
                          refine lv_iconst (v := (1 : Int32)) X.1 X.2.1 dL_law_374 (by decide) ?_
                          refine lv_iadd X.1 X.2.1 dL_law_375 ?_
                          obtain ⟨t376, e_t376, h⟩ := o_b h
                          refine q_sld X hX hbl hS e_t376 dL_law_376 ?_
                          refine q_aload_n X dL_law_377 rfl hl 0 rfl ?_
                          refine q_iload_n X dL_law_378 rfl hl 3 rfl ?_
                          refine lv_iconst (v := (2 : Int32)) X.1 X.2.1 dL_law_379 (by decide) ?_
                          refine lv_iadd X.1 X.2.1 dL_law_380 ?_
                          obtain ⟨t381, e_t381, h⟩ := o_b h
                          refine q_sld X hX hbl hS e_t381 dL_law_381 ?_
                          refine q_aload_n X dL_law_382 rfl hl 0 rfl ?_
                          refine q_iload_n X dL_law_383 rfl hl 3 rfl ?_
                          refine lv_iconst (v := (3 : Int32)) X.1 X.2.1 dL_law_384 (by decide) ?_
                          refine lv_iadd X.1 X.2.1 dL_law_385 ?_
                          obtain ⟨t386, e_t386, h⟩ := o_b h
                          refine q_sld X hX hbl hS e_t386 dL_law_386 ?_
                          obtain ⟨b387, e_b387, h⟩ := o_b h
                          obtain ⟨q387, e_q387, h⟩ := o_b h
                          refine q_cV (As := [.int t376, .int t381, .int t386]) X hh hS hl cf_L_61 (cN := 9) rfl rfl e_b387 rfl (M_X9_look l D dA s.heap.size σ b387 t376 t381 t386 e_q387) ⟨Nat.le_trans (by decide) hR.1, Nat.le_trans (by decide) hR.2⟩ (cat8 [.inl q368] (Nat.le_of_ble_eq_true rfl)) dL_law_387 ⟨Nat.le_trans (Nat.le_of_eq (Nat.add_zero _)) hcl.1, Nat.le_trans (Nat.le_of_eq (Nat.add_zero _)) hcl.2⟩ rfl rfl (fun H locs hh hS => ?_)
                          refine W.cs (cells' := σ.2.2.2.1 - s.heap.size) (slots' := σ.2.2.2.2 - 0) (Nat.add_zero _) (Nat.add_zero _) ?_
                          refine lv_icmp_eq (tgt := 570) X.1 X.2.1 dL_law_390 (by decide) (fun c390 => ?_) (fun c390 => ?_)
                          · rw [if_pos c390] at h
                            exact K_L_law_570 X hret hlk hR hX hbl hRc hm18 hr18 hn hh hS (lk_sub hl [0, 1, 2, 3] rfl) h
                          · rw [if_neg c390] at h
                            refine lv_iconst (v := (0 : Int32)) X.1 X.2.1 dL_law_393 (by decide) ?_
                            cases h
                        · rw [if_neg c32_10] at h
                          by_cases c32_11 : (t28 &&& (15 : Int32)) = (11 : Int32)
                          · rw [if_pos c32_11] at h
                            refine q_tin (tgt := 395) X dL_law_32 c32_11 (by decide) (by decide) rfl (by decide) ?_
                            refine q_aload_n X dL_law_395 rfl hl 1 rfl ?_
                            refine q_aload_n X dL_law_396 rfl hl 0 rfl ?_
                            refine q_iload_n X dL_law_397 rfl hl 3 rfl ?_
                            refine lv_iconst (v := (1 : Int32)) X.1 X.2.1 dL_law_398 (by decide) ?_
                            refine lv_iadd X.1 X.2.1 dL_law_399 ?_
                            obtain ⟨t400, e_t400, h⟩ := o_b h
                            refine q_sld X hX hbl hS e_t400 dL_law_400 ?_
                            refine q_aload_n X dL_law_401 rfl hl 0 rfl ?_
                            refine q_iload_n X dL_law_402 rfl hl 3 rfl ?_
                            refine lv_iconst (v := (2 : Int32)) X.1 X.2.1 dL_law_403 (by decide) ?_
                            refine lv_iadd X.1 X.2.1 dL_law_404 ?_
                            obtain ⟨t405, e_t405, h⟩ := o_b h
                            refine q_sld X hX hbl hS e_t405 dL_law_405 ?_
                            obtain ⟨b406, e_b406, h⟩ := o_b h
                            obtain ⟨q406, e_q406, h⟩ := o_b h
                            refine q_cV (As := [.int t400, .int t405]) X hh hS hl cf_L_62 (cN := 8) rfl rfl e_b406 rfl (M_X8_told l D dA s.heap.size σ b406 t400 t405 e_q406) ⟨Nat.le_trans (by decide) hR.1, Nat.le_trans (by decide) hR.2⟩ (cat8 [] (Nat.le_of_ble_eq_true rfl)) dL_law_406 ⟨Nat.le_trans (Nat.le_of_eq (Nat.add_zero _)) hcl.1, Nat.le_trans (Nat.le_of_eq (Nat.add_zero _)) hcl.2⟩ rfl rfl (fun H locs hh hS => ?_)
                            refine W.cs (cells' := σ.2.2.2.1 - s.heap.size) (slots' := σ.2.2.2.2 - 0) (Nat.add_zero _) (Nat.add_zero _) ?_
                            refine q_aload_n X dL_law_409 rfl hl 2 rfl ?_
                            refine q_aload_n X dL_law_410 rfl hl 0 rfl ?_
                            refine q_iload_n X dL_law_411 rfl hl 3 rfl ?_
                            refine lv_iconst (v := (1 : Int32)) X.1 X.2.1 dL_law_412 (by decide) ?_
                            refine lv_iadd X.1 X.2.1 dL_law_413 ?_
                            obtain ⟨t414, e_t414, h⟩ := o_b h
                            refine q_sld X hX hbl hS e_t414 dL_law_414 ?_
                            refine q_aload_n X dL_law_415 rfl hl 0 rfl ?_
                            refine q_iload_n X dL_law_416 rfl hl 3 rfl ?_
                            refine lv_iconst (v := (2 : Int32)) X.1 X.2.1 dL_law_417 (by decide) ?_
                            refine lv_iadd X.1 X.2.1 dL_law_418 ?_
                            obtain ⟨t419, e_t419, h⟩ := o_b h
                            refine q_sld X hX hbl hS e_t419 dL_law_419 ?_
                            obtain ⟨b420, e_b420, h⟩ := o_b h
                            obtain ⟨q420, e_q420, h⟩ := o_b h
                            refine q_cV (As := [.int t414, .int t419]) X hh hS hl cf_L_66 (cN := 9) rfl rfl e_b420 rfl (M_X9_told l D dA s.heap.size σ b420 t414 t419 e_q420) ⟨Nat.le_trans (by decide) hR.1, Nat.le_trans (by decide) hR.2⟩ (cat8 [.inl q406] (Nat.le_of_ble_eq_true rfl)) dL_law_420 ⟨Nat.le_trans (Nat.le_of_eq (Nat.add_zero _)) hcl.1, Nat.le_trans (Nat.le_of_eq (Nat.add_zero _)) hcl.2⟩ rfl rfl (fun H locs hh hS => ?_)
                            refine W.cs (cells' := σ.2.2.2.1 - s.heap.size) (slots' := σ.2.2.2.2 - 0) (Nat.add_zero _) (Nat.add_zero _) ?_
                            refine lv_icmp_eq (tgt := 570) X.1 X.2.1 dL_law_423 (by decide) (fun c423 => ?_) (fun c423 => ?_)
                            · rw [if_pos c423] at h
                              exact K_L_law_570 X hret hlk hR hX hbl hRc hm18 hr18 hn hh hS (lk_sub hl [0, 1, 2, 3] rfl) h
                            · rw [if_neg c423] at h
                              refine lv_iconst (v := (0 : Int32)) X.1 X.2.1 dL_law_426 (by decide) ?_
                              cases h
                          · rw [if_neg c32_11] at h
                            by_cases c32_12 : (t28 &&& (15 : Int32)) = (12 : Int32)
                            · rw [if_pos c32_12] at h
                              refine q_tin (tgt := 428) X dL_law_32 c32_12 (by decide) (by decide) rfl (by decide) ?_
                              refine q_aload_n X dL_law_428 rfl hl 1 rfl ?_
                              refine q_aload_n X dL_law_429 rfl hl 0 rfl ?_
                              refine q_iload_n X dL_law_430 rfl hl 3 rfl ?_
                              refine lv_iconst (v := (1 : Int32)) X.1 X.2.1 dL_law_431 (by decide) ?_
                              refine lv_iadd X.1 X.2.1 dL_law_432 ?_
                              obtain ⟨t433, e_t433, h⟩ := o_b h
                              refine q_sld X hX hbl hS e_t433 dL_law_433 ?_
                              refine q_aload_n X dL_law_434 rfl hl 0 rfl ?_
                              refine q_iload_n X dL_law_435 rfl hl 3 rfl ?_
                              refine lv_iconst (v := (2 : Int32)) X.1 X.2.1 dL_law_436 (by decide) ?_
                              refine lv_iadd X.1 X.2.1 dL_law_437 ?_
                              obtain ⟨t438, e_t438, h⟩ := o_b h
                              refine q_sld X hX hbl hS e_t438 dL_law_438 ?_
                              obtain ⟨b439, e_b439, h⟩ := o_b h
                              obtain ⟨q439, e_q439, h⟩ := o_b h
                              refine q_cV (As := [.int t433, .int t438]) X hh hS hl cf_L_67 (cN := 8) rfl rfl e_b439 rfl (M_X8_queued l D dA s.heap.size σ b439 t433 t438 e_q439) ⟨Nat.le_trans (by decide) hR.1, Nat.le_trans (by decide) hR.2⟩ (cat8 [] (Nat.le_of_ble_eq_true rfl)) dL_law_439 ⟨Nat.le_trans (Nat.le_of_eq (Nat.add_zero _)) hcl.1, Nat.le_trans (Nat.le_of_eq (Nat.add_zero _)) hcl.2⟩ rfl rfl (fun H locs hh hS => ?_)
                              refine W.cs (cells' := σ.2.2.2.1 - s.heap.size) (slots' := σ.2.2.2.2 - 0) (Nat.add_zero _) (Nat.add_zero _) ?_
                              refine q_aload_n X dL_law_442 rfl hl 2 rfl ?_
                              refine q_aload_n X dL_law_443 rfl hl 0 rfl ?_
                              refine q_iload_n X dL_law_444 rfl hl 3 rfl ?_
                              refine lv_iconst (v := (1 : Int32)) X.1 X.2.1 dL_law_445 (by decide) ?_
                              refine lv_iadd X.1 X.2.1 dL_law_446 ?_
                              obtain ⟨t447, e_t447, h⟩ := o_b h
                              refine q_sld X hX hbl hS e_t447 dL_law_447 ?_
                              refine q_aload_n X dL_law_448 rfl hl 0 rfl ?_
                              refine q_iload_n X dL_law_449 rfl hl 3 rfl ?_
                              refine lv_iconst (v := (2 : Int32)) X.1 X.2.1 dL_law_450 (by decide) ?_
                              refine lv_iadd X.1 X.2.1 dL_law_451 ?_
                              obtain ⟨t452, e_t452, h⟩ := o_b h
                              refine q_sld X hX hbl hS e_t452 dL_law_452 ?_
                              obtain ⟨b453, e_b453, h⟩ := o_b h
                              obtain ⟨q453, e_q453, h⟩ := o_b h
                              refine q_cV (As := [.int t447, .int t452]) X hh hS hl cf_L_70 (cN := 9) rfl rfl e_b453 rfl (M_X9_queued l D dA s.heap.size σ b453 t447 t452 e_q453) ⟨Nat.le_trans (by decide) hR.1, Nat.le_trans (by decide) hR.2⟩ (cat8 [.inl q439] (Nat.le_of_ble_eq_true rfl)) dL_law_453 ⟨Nat.le_trans (Nat.le_of_eq (Nat.add_zero _)) hcl.1, Nat.le_trans (Nat.le_of_eq (Nat.add_zero _)) hcl.2⟩ rfl rfl (fun H locs hh hS => ?_)
                              refine W.cs (cells' := σ.2.2.2.1 - s.heap.size) (slots' := σ.2.2.2.2 - 0) (Nat.add_zero _) (Nat.add_zero _) ?_
                              refine lv_icmp_eq (tgt := 570) X.1 X.2.1 dL_law_456 (by decide) (fun c456 => ?_) (fun c456 => ?_)
                              · rw [if_pos c456] at h
                                exact K_L_law_570 X hret hlk hR hX hbl hRc hm18 hr18 hn hh hS (lk_sub hl [0, 1, 2, 3] rfl) h
                              · rw [if_neg c456] at h
                                refine lv_iconst (v := (0 : Int32)) X.1 X.2.1 dL_law_459 (by decide) ?_
                                cases h
                            · rw [if_neg c32_12] at h
                              by_cases c32_13 : (t28 &&& (15 : Int32)) = (13 : Int32)
                              · rw [if_pos c32_13] at h
                                refine q_tin (tgt := 461) X dL_law_32 c32_13 (by decide) (by decide) rfl (by decide) ?_
                                refine q_aload_n X dL_law_461 rfl hl 1 rfl ?_
                                refine q_aload_n X dL_law_462 rfl hl 0 rfl ?_
                                refine q_iload_n X dL_law_463 rfl hl 3 rfl ?_
                                refine lv_iconst (v := (1 : Int32)) X.1 X.2.1 dL_law_464 (by decide) ?_
                                refine lv_iadd X.1 X.2.1 dL_law_465 ?_
                                obtain ⟨t466, e_t466, h⟩ := o_b h
                                refine q_sld X hX hbl hS e_t466 dL_law_466 ?_
                                refine q_aload_n X dL_law_467 rfl hl 0 rfl ?_
                                refine q_iload_n X dL_law_468 rfl hl 3 rfl ?_
                                refine lv_iconst (v := (2 : Int32)) X.1 X.2.1 dL_law_469 (by decide) ?_
                                refine lv_iadd X.1 X.2.1 dL_law_470 ?_
                                obtain ⟨t471, e_t471, h⟩ := o_b h
                                refine q_sld X hX hbl hS e_t471 dL_law_471 ?_
                                obtain ⟨b472, e_b472, h⟩ := o_b h
                                obtain ⟨q472, e_q472, h⟩ := o_b h
                                refine q_cV (As := [.int t466, .int t471]) X hh hS hl cf_L_71 (cN := 8) rfl rfl e_b472 rfl (M_X8_executed l D dA s.heap.size σ b472 t466 t471 e_q472) ⟨Nat.le_trans (by decide) hR.1, Nat.le_trans (by decide) hR.2⟩ (cat8 [] (Nat.le_of_ble_eq_true rfl)) dL_law_472 ⟨Nat.le_trans (Nat.le_of_eq (Nat.add_zero _)) hcl.1, Nat.le_trans (Nat.le_of_eq (Nat.add_zero _)) hcl.2⟩ rfl rfl (fun H locs hh hS => ?_)
                                refine W.cs (cells' := σ.2.2.2.1 - s.heap.size) (slots' := σ.2.2.2.2 - 0) (Nat.add_zero _) (Nat.add_zero _) ?_
                                refine q_aload_n X dL_law_475 rfl hl 2 rfl ?_
                                refine q_aload_n X dL_law_476 rfl hl 0 rfl ?_
                                refine q_iload_n X dL_law_477 rfl hl 3 rfl ?_
                                refine lv_iconst (v := (1 : Int32)) X.1 X.2.1 dL_law_478 (by decide) ?_
                                refine lv_iadd X.1 X.2.1 dL_law_479 ?_
                                obtain ⟨t480, e_t480, h⟩ := o_b h
                                refine q_sld X hX hbl hS e_t480 dL_law_480 ?_
                                refine q_aload_n X dL_law_481 rfl hl 0 rfl ?_
                                refine q_iload_n X dL_law_482 rfl hl 3 rfl ?_
                                refine lv_iconst (v := (2 : Int32)) X.1 X.2.1 dL_law_483 (by decide) ?_
                                refine lv_iadd X.1 X.2.1 dL_law_484 ?_
                                obtain ⟨t485, e_t485, h⟩ := o_b h
                                refine q_sld X hX hbl hS e_t485 dL_law_485 ?_
                                obtain ⟨b486, e_b486, h⟩ := o_b h
                                obtain ⟨q486, e_q486, h⟩ := o_b h
                                refine q_cV (As := [.int t480, .int t485]) X hh hS hl cf_L_74 (cN := 9) rfl rfl e_b486 rfl (M_X9_executed l D dA s.heap.size σ b486 t480 t485 e_q486) ⟨Nat.le_trans (by decide) hR.1, Nat.le_trans (by decide) hR.2⟩ (cat8 [.inl q472] (Nat.le_of_ble_eq_true rfl)) dL_law_486 ⟨Nat.le_trans (Nat.le_of_eq (Nat.add_zero _)) hcl.1, Nat.le_trans (Nat.le_of_eq (Nat.add_zero _)) hcl.2⟩ rfl rfl (fun H locs hh hS => ?_)
                                refine W.cs (cells' := σ.2.2.2.1 - s.heap.size) (slots' := σ.2.2.2.2 - 0) (Nat.add_zero _) (Nat.add_zero _) ?_
                                refine lv_icmp_eq (tgt := 570) X.1 X.2.1 dL_law_489 (by decide) (fun c489 => ?_) (fun c489 => ?_)
                                · rw [if_pos c489] at h
                                  exact K_L_law_570 X hret hlk hR hX hbl hRc hm18 hr18 hn hh hS (lk_sub hl [0, 1, 2, 3] rfl) h
                                · rw [if_neg c489] at h
                                  refine lv_iconst (v := (0 : Int32)) X.1 X.2.1 dL_law_492 (by decide) ?_
                                  cases h
                              · rw [if_neg c32_13] at h
                                by_cases c32_14 : (t28 &&& (15 : Int32)) = (14 : Int32)
                                · rw [if_pos c32_14] at h
                                  refine q_tin (tgt := 494) X dL_law_32 c32_14 (by decide) (by decide) rfl (by decide) ?_
                                  refine q_aload_n X dL_law_494 rfl hl 1 rfl ?_
                                  refine q_aload_n X dL_law_495 rfl hl 0 rfl ?_
                                  refine q_iload_n X dL_law_496 rfl hl 3 rfl ?_
                                  refine lv_iconst (v := (1 : Int32)) X.1 X.2.1 dL_law_497 (by decide) ?_
                                  refine lv_iadd X.1 X.2.1 dL_law_498 ?_
                                  obtain ⟨t499, e_t499, h⟩ := o_b h
                                  refine q_sld X hX hbl hS e_t499 dL_law_499 ?_
                                  refine q_aload_n X dL_law_500 rfl hl 0 rfl ?_
                                  refine q_iload_n X dL_law_501 rfl hl 3 rfl ?_
                                  refine lv_iconst (v := (2 : Int32)) X.1 X.2.1 dL_law_502 (by decide) ?_
                                  refine lv_iadd X.1 X.2.1 dL_law_503 ?_
                                  obtain ⟨t504, e_t504, h⟩ := o_b h
                                  refine q_sld X hX hbl hS e_t504 dL_law_504 ?_
                                  refine q_aload_n X dL_law_505 rfl hl 0 rfl ?_
                                  refine q_iload_n X dL_law_506 rfl hl 3 rfl ?_
                                  refine lv_iconst (v := (3 : Int32)) X.1 X.2.1 dL_law_507 (by decide) ?_
                                  refine lv_iadd X.1 X.2.1 dL_law_508 ?_
                                  obtain ⟨t509, e_t509, h⟩ := o_b h
                                  refine q_sld X hX hbl hS e_t509 dL_law_509 ?_
                                  obtain ⟨b510, e_b510, h⟩ := o_b h
                                  obtain ⟨q510, e_q510, h⟩ := o_b h
                                  refine q_cV (As := [.int t499, .int t504, .int t509]) X hh hS hl cf_L_75 (cN := 8) rfl rfl e_b510 rfl (M_X8_file l D dA s.heap.size σ b510 t499 t504 t509 e_q510) ⟨Nat.le_trans (by decide) hR.1, Nat.le_trans (by decide) hR.2⟩ (cat8 [] (Nat.le_of_ble_eq_true rfl)) dL_law_510 ⟨Nat.le_trans (Nat.le_of_eq (Nat.add_zero _)) hcl.1, Nat.le_trans (Nat.le_of_eq (Nat.add_zero _)) hcl.2⟩ rfl rfl (fun H locs hh hS => ?_)
                                  refine W.cs (cells' := σ.2.2.2.1 - s.heap.size) (slots' := σ.2.2.2.2 - 0) (Nat.add_zero _) (Nat.add_zero _) ?_
                                  refine q_aload_n X dL_law_513 rfl hl 2 rfl ?_
                                  refine q_aload_n X dL_law_514 rfl hl 0 rfl ?_
                                  refine q_iload_n X dL_law_515 rfl hl 3 rfl ?_
                                  refine lv_iconst (v := (1 : Int32)) X.1 X.2.1 dL_law_516 (by decide) ?_
                                  refine lv_iadd X.1 X.2.1 dL_law_517 ?_
                                  obtain ⟨t518, e_t518, h⟩ := o_b h
                                  refine q_sld X hX hbl hS e_t518 dL_law_518 ?_
                                  refine q_aload_n X dL_law_519 rfl hl 0 rfl ?_
                                  refine q_iload_n X dL_law_520 rfl hl 3 rfl ?_
                                  refine lv_iconst (v := (2 : Int32)) X.1 X.2.1 dL_law_521 (by decide) ?_
                                  refine lv_iadd X.1 X.2.1 dL_law_522 ?_
                                  obtain ⟨t523, e_t523, h⟩ := o_b h
                                  refine q_sld X hX hbl hS e_t523 dL_law_523 ?_
                                  refine q_aload_n X dL_law_524 rfl hl 0 rfl ?_
                                  refine q_iload_n X dL_law_525 rfl hl 3 rfl ?_
                                  refine lv_iconst (v := (3 : Int32)) X.1 X.2.1 dL_law_526 (by decide) ?_
                                  refine lv_iadd X.1 X.2.1 dL_law_527 ?_
                                  obtain ⟨t528, e_t528, h⟩ := o_b h
                                  refine q_sld X hX hbl hS e_t528 dL_law_528 ?_
                                  obtain ⟨b529, e_b529, h⟩ := o_b h
                                  obtain ⟨q529, e_q529, h⟩ := o_b h
                                  refine q_cV (As := [.int t518, .int t523, .int t528]) X hh hS hl cf_L_78 (cN := 9) rfl rfl e_b529 rfl (M_X9_file l D dA s.heap.size σ b529 t518 t523 t528 e_q529) ⟨Nat.le_trans (by decide) hR.1, Nat.le_trans (by decide) hR.2⟩ (cat8 [.inl q510] (Nat.le_of_ble_eq_true rfl)) dL_law_529 ⟨Nat.le_trans (Nat.le_of_eq (Nat.add_zero _)) hcl.1, Nat.le_trans (Nat.le_of_eq (Nat.add_zero _)) hcl.2⟩ rfl rfl (fun H locs hh hS => ?_)
                                  refine W.cs (cells' := σ.2.2.2.1 - s.heap.size) (slots' := σ.2.2.2.2 - 0) (Nat.add_zero _) (Nat.add_zero _) ?_
                                  refine lv_icmp_eq (tgt := 570) X.1 X.2.1 dL_law_532 (by decide) (fun c532 => ?_) (fun c532 => ?_)
                                  · rw [if_pos c532] at h
                                    exact K_L_law_570 X hret hlk hR hX hbl hRc hm18 hr18 hn hh hS (lk_sub hl [0, 1, 2, 3] rfl) h
                                  · rw [if_neg c532] at h
                                    refine lv_iconst (v := (0 : Int32)) X.1 X.2.1 dL_law_535 (by decide) ?_
                                    cases h
                                · rw [if_neg c32_14] at h
                                  by_cases c32_15 : (t28 &&& (15 : Int32)) = (15 : Int32)
                                  · rw [if_pos c32_15] at h
                                    refine q_tin (tgt := 537) X dL_law_32 c32_15 (by decide) (by decide) rfl (by decide) ?_
                                    refine q_aload_n X dL_law_537 rfl hl 1 rfl ?_
                                    refine q_aload_n X dL_law_538 rfl hl 0 rfl ?_
                                    refine q_iload_n X dL_law_539 rfl hl 3 rfl ?_
                                    refine lv_iconst (v := (1 : Int32)) X.1 X.2.1 dL_law_540 (by decide) ?_
                                    refine lv_iadd X.1 X.2.1 dL_law_541 ?_
                                    obtain ⟨t542, e_t542, h⟩ := o_b h
                                    refine q_sld X hX hbl hS e_t542 dL_law_542 ?_
                                    refine q_aload_n X dL_law_543 rfl hl 0 rfl ?_
                                    refine q_iload_n X dL_law_544 rfl hl 3 rfl ?_
                                    refine lv_iconst (v := (2 : Int32)) X.1 X.2.1 dL_law_545 (by decide) ?_
                                    refine lv_iadd X.1 X.2.1 dL_law_546 ?_
                                    obtain ⟨t547, e_t547, h⟩ := o_b h
                                    refine q_sld X hX hbl hS e_t547 dL_law_547 ?_
                                    obtain ⟨b548, e_b548, h⟩ := o_b h
                                    obtain ⟨q548, e_q548, h⟩ := o_b h
                                    refine q_cV (As := [.int t542, .int t547]) X hh hS hl cf_L_79 (cN := 8) rfl rfl e_b548 rfl (M_X8_times l D dA s.heap.size σ b548 t542 t547 e_q548) ⟨Nat.le_trans (by decide) hR.1, Nat.le_trans (by decide) hR.2⟩ (cat8 [] (Nat.le_of_ble_eq_true rfl)) dL_law_548 ⟨Nat.le_trans (Nat.le_of_eq (Nat.add_zero _)) hcl.1, Nat.le_trans (Nat.le_of_eq (Nat.add_zero _)) hcl.2⟩ rfl rfl (fun H locs hh hS => ?_)
                                    refine W.cs (cells' := σ.2.2.2.1 - s.heap.size) (slots' := σ.2.2.2.2 - 0) (Nat.add_zero _) (Nat.add_zero _) ?_
                                    refine q_aload_n X dL_law_551 rfl hl 2 rfl ?_
                                    refine q_aload_n X dL_law_552 rfl hl 0 rfl ?_
                                    refine q_iload_n X dL_law_553 rfl hl 3 rfl ?_
                                    refine lv_iconst (v := (1 : Int32)) X.1 X.2.1 dL_law_554 (by decide) ?_
                                    refine lv_iadd X.1 X.2.1 dL_law_555 ?_
                                    obtain ⟨t556, e_t556, h⟩ := o_b h
                                    refine q_sld X hX hbl hS e_t556 dL_law_556 ?_
                                    refine q_aload_n X dL_law_557 rfl hl 0 rfl ?_
                                    refine q_iload_n X dL_law_558 rfl hl 3 rfl ?_
                                    refine lv_iconst (v := (2 : Int32)) X.1 X.2.1 dL_law_559 (by decide) ?_
                                    refine lv_iadd X.1 X.2.1 dL_law_560 ?_
                                    obtain ⟨t561, e_t561, h⟩ := o_b h
                                    refine q_sld X hX hbl hS e_t561 dL_law_561 ?_
                                    obtain ⟨b562, e_b562, h⟩ := o_b h
                                    obtain ⟨q562, e_q562, h⟩ := o_b h
                                    refine q_cV (As := [.int t556, .int t561]) X hh hS hl cf_L_82 (cN := 9) rfl rfl e_b562 rfl (M_X9_times l D dA s.heap.size σ b562 t556 t561 e_q562) ⟨Nat.le_trans (by decide) hR.1, Nat.le_trans (by decide) hR.2⟩ (cat8 [.inl q548] (Nat.le_of_ble_eq_true rfl)) dL_law_562 ⟨Nat.le_trans (Nat.le_of_eq (Nat.add_zero _)) hcl.1, Nat.le_trans (Nat.le_of_eq (Nat.add_zero _)) hcl.2⟩ rfl rfl (fun H locs hh hS => ?_)
                                    refine W.cs (cells' := σ.2.2.2.1 - s.heap.size) (slots' := σ.2.2.2.2 - 0) (Nat.add_zero _) (Nat.add_zero _) ?_
                                    refine lv_icmp_eq (tgt := 570) X.1 X.2.1 dL_law_565 (by decide) (fun c565 => ?_) (fun c565 => ?_)
                                    · rw [if_pos c565] at h
                                      exact K_L_law_570 X hret hlk hR hX hbl hRc hm18 hr18 hn hh hS (lk_sub hl [0, 1, 2, 3] rfl) h
                                    · rw [if_neg c565] at h
                                      refine lv_iconst (v := (0 : Int32)) X.1 X.2.1 dL_law_568 (by decide) ?_
                                      cases h
                                  · rw [if_neg c32_15] at h
                                    have n32_0 := lv_neT (a := 0) c32_0 (by decide)
                                    have n32_1 := lv_neT (a := 1) c32_1 (by decide)
                                    have n32_2 := lv_neT (a := 2) c32_2 (by decide)
                                    have n32_3 := lv_neT (a := 3) c32_3 (by decide)
                                    have n32_4 := lv_neT (a := 4) c32_4 (by decide)
                                    have n32_5 := lv_neT (a := 5) c32_5 (by decide)
                                    have n32_6 := lv_neT (a := 6) c32_6 (by decide)
                                    have n32_7 := lv_neT (a := 7) c32_7 (by decide)
                                    have n32_8 := lv_neT (a := 8) c32_8 (by decide)
                                    have n32_9 := lv_neT (a := 9) c32_9 (by decide)
                                    have n32_10 := lv_neT (a := 10) c32_10 (by decide)
                                    have n32_11 := lv_neT (a := 11) c32_11 (by decide)
                                    have n32_12 := lv_neT (a := 12) c32_12 (by decide)
                                    have n32_13 := lv_neT (a := 13) c32_13 (by decide)
                                    have n32_14 := lv_neT (a := 14) c32_14 (by decide)
                                    have n32_15 := lv_neT (a := 15) c32_15 (by decide)
                                    refine lv_tableOut (tgt := 570) X.1 X.2.1 dL_law_32 (by omega) (by decide) ?_
                                    exact K_L_law_570 X hret hlk hR hX hbl hRc hm18 hr18 hn hh hS (lk_sub hl [0, 1, 2, 3] rfl) h
theorem K_L_law_18 {p : Program} {l : Launch} {e : Env} {s : State} {m : MethodId} {below : List Frame} {meth : Method} {c : Code} {D : va_G} {dA : Nat → ClassId} {b L : Nat} {xs : Nat → Int32} {z : hp} (X : cx p s m #[Value.ref b] c cL_law RL 4 D dA) (hret : meth.sig.returnType = ret) (hlk : meth.locks = false) (hR : 13 ≤ room_1.frames ∧ 299 ≤ room_1.locals) (hX : va_X b L xs s s.heap) (hbl : b < s.heap.size) (hRc : z.2.2.2.1 ≤ s.heap.size + room_1.cells ∧ z.2.2.2.2 ≤ 0 + room_1.slots) : ∀ (n : Nat) (σ : hp) (v1 : Option Nat) (v2 : Option Nat) (v3 : Int32) (H : Heap) (locs : List Loc) (ls : Array Slot), s.heap.size ≤ σ.2.2.2.1 ∧ 0 ≤ σ.2.2.2.2 → hw D dA s.heap.size σ H → hs s.heap.size s.heap H locs → lk ls 4 [(0, .inr (some b)), (1, .inr v1), (2, .inr v2), (3, .inl v3)] → S_L_law_18 L xs n σ v1 v2 v3 = some z → W p l e room_1 s m #[Value.ref b] below meth c H locs (σ.2.2.2.1 - s.heap.size) (σ.2.2.2.2 - 0) (lw_Z below #[Value.ref b] s) (F0 m 18 ls []) := by
  intro n
  induction n with
  | zero => intro σ v1 v2 v3 H locs ls hn hh hS hl h; cases h
  | succ n ih => intro σ v1 v2 v3 H locs ls hn hh hS hl h; exact K_L_law_18_b X hret hlk hR hX hbl hRc (mo_L_law_18 n) ih hn hh hS hl h
theorem mo_L_law_15 {L : Nat} {xs : Nat → Int32} {z : hp} {σ : hp} {v1 : Option Nat} {w0 : Option Nat} (h : S_L_law_15 L xs σ v1 w0 = some z) : le4 σ z := by
  unfold S_L_law_15 at h
  exact (mo_L_law_18 FU _ _ _ _ h)
set_option maxHeartbeats 4000000 in
set_option maxRecDepth 100000 in
theorem K_L_law_15 {p : Program} {l : Launch} {e : Env} {s : State} {m : MethodId} {below : List Frame} {meth : Method} {c : Code} {D : va_G} {dA : Nat → ClassId} {b L : Nat} {xs : Nat → Int32} {z : hp} (X : cx p s m #[Value.ref b] c cL_law RL 4 D dA) (hret : meth.sig.returnType = ret) (hlk : meth.locks = false) (hR : 13 ≤ room_1.frames ∧ 299 ≤ room_1.locals) (hX : va_X b L xs s s.heap) (hbl : b < s.heap.size) (hRc : z.2.2.2.1 ≤ s.heap.size + room_1.cells ∧ z.2.2.2.2 ≤ 0 + room_1.slots) {σ : hp} {v1 : Option Nat} {w0 : Option Nat} {H : Heap} {locs : List Loc} {ls : Array Slot} (hn : s.heap.size ≤ σ.2.2.2.1 ∧ 0 ≤ σ.2.2.2.2) (hh : hw D dA s.heap.size σ H) (hS : hs s.heap.size s.heap H locs) (hl : lk ls 4 [(0, .inr (some b)), (1, .inr v1)]) (h : S_L_law_15 L xs σ v1 w0 = some z) : W p l e room_1 s m #[Value.ref b] below meth c H locs (σ.2.2.2.1 - s.heap.size) (σ.2.2.2.2 - 0) (lw_Z below #[Value.ref b] s) (F0 m 15 ls [va_rf w0]) := by
  have hz0 := mo_L_law_15 h
  have hcl : σ.2.2.2.1 - s.heap.size ≤ room_1.cells ∧ σ.2.2.2.2 - 0 ≤ room_1.slots := by unfold le4 at hz0; omega
  unfold S_L_law_15 at h
  refine q_astore_n (lv' := [(2, .inr w0), (0, .inr (some b)), (1, .inr v1)]) X dL_law_15 rfl hl (by decide) rfl (fun ls hl => ?_)
  refine lv_iconst (v := (0 : Int32)) X.1 X.2.1 dL_law_16 (by decide) ?_
  refine q_istore_n (lv' := [(3, .inl (0 : Int32)), (2, .inr w0), (0, .inr (some b)), (1, .inr v1)]) X dL_law_17 rfl hl (by decide) rfl (fun ls hl => ?_)
  exact K_L_law_18 X hret hlk hR hX hbl hRc FU _ _ _ _ _ _ _ hn hh hS (lk_sub hl [2, 3, 1, 0] rfl) h
theorem mo_L_law_11 {L : Nat} {xs : Nat → Int32} {z : hp} {σ : hp} {v1 : Option Nat} {w0 : Option Nat} (h : S_L_law_11 L xs σ v1 w0 = some z) : le4 σ z := by
  unfold S_L_law_11 at h
  obtain ⟨b12, e_b12, h⟩ := o_b h
  obtain ⟨q12, e_q12, h⟩ := o_b h
  exact ((mo_X9_init_0 e_q12)).tr (mo_L_law_15 h)
set_option maxHeartbeats 4000000 in
set_option maxRecDepth 100000 in
theorem K_L_law_11 {p : Program} {l : Launch} {e : Env} {s : State} {m : MethodId} {below : List Frame} {meth : Method} {c : Code} {D : va_G} {dA : Nat → ClassId} {b L : Nat} {xs : Nat → Int32} {z : hp} (X : cx p s m #[Value.ref b] c cL_law RL 4 D dA) (hret : meth.sig.returnType = ret) (hlk : meth.locks = false) (hR : 13 ≤ room_1.frames ∧ 299 ≤ room_1.locals) (hX : va_X b L xs s s.heap) (hbl : b < s.heap.size) (hRc : z.2.2.2.1 ≤ s.heap.size + room_1.cells ∧ z.2.2.2.2 ≤ 0 + room_1.slots) {σ : hp} {v1 : Option Nat} {w0 : Option Nat} {H : Heap} {locs : List Loc} {ls : Array Slot} (hn : s.heap.size ≤ σ.2.2.2.1 ∧ 0 ≤ σ.2.2.2.2) (hh : hw D dA s.heap.size σ H) (hS : hs s.heap.size s.heap H locs) (hl : lk ls 4 [(0, .inr (some b)), (1, .inr v1)]) (h : S_L_law_11 L xs σ v1 w0 = some z) : W p l e room_1 s m #[Value.ref b] below meth c H locs (σ.2.2.2.1 - s.heap.size) (σ.2.2.2.2 - 0) (lw_Z below #[Value.ref b] s) (F0 m 11 ls [va_rf w0]) := by
  have hz0 := mo_L_law_11 h
  have hcl : σ.2.2.2.1 - s.heap.size ≤ room_1.cells ∧ σ.2.2.2.2 - 0 ≤ room_1.slots := by unfold le4 at hz0; omega
  unfold S_L_law_11 at h
  refine lv_dup X.1 X.2.1 dL_law_11 (vv_cat (.inr w0)) ?_
  obtain ⟨b12, e_b12, h⟩ := o_b h
  obtain ⟨q12, e_q12, h⟩ := o_b h
  have g12 := mo_L_law_15 h
  have f12 := mo_X9_init_0 e_q12
  unfold le4 at g12 f12
  refine q_cI (As := []) X hh hS hl cf_L_12 e_b12 rfl (M_X9_init l D dA s.heap.size σ b12  e_q12) ⟨Nat.le_trans (by decide) hR.1, Nat.le_trans (by decide) hR.2⟩ (cat8 [.inr w0] (Nat.le_of_ble_eq_true rfl)) dL_law_12 ⟨by omega, by omega⟩ rfl (fun H locs hh hS => ?_)
  refine W.cs (cells' := q12.2.2.2.1 - s.heap.size) (slots' := q12.2.2.2.2 - 0) (by omega) (by omega) ?_
  have hn : s.heap.size ≤ q12.2.2.2.1 ∧ 0 ≤ q12.2.2.2.2 := by omega
  exact K_L_law_15 X hret hlk hR hX hbl hRc hn hh hS (lk_sub hl [0, 1] rfl) h
theorem mo_L_law_7 {L : Nat} {xs : Nat → Int32} {z : hp} {σ : hp} {w0 : Option Nat} (h : S_L_law_7 L xs σ w0 = some z) : le4 σ z := by
  unfold S_L_law_7 at h
  obtain ⟨q8, e_q8, h⟩ := o_b h
  exact ((m_nw e_q8)).tr (mo_L_law_11 h)
set_option maxHeartbeats 4000000 in
set_option maxRecDepth 100000 in
theorem K_L_law_7 {p : Program} {l : Launch} {e : Env} {s : State} {m : MethodId} {below : List Frame} {meth : Method} {c : Code} {D : va_G} {dA : Nat → ClassId} {b L : Nat} {xs : Nat → Int32} {z : hp} (X : cx p s m #[Value.ref b] c cL_law RL 4 D dA) (hret : meth.sig.returnType = ret) (hlk : meth.locks = false) (hR : 13 ≤ room_1.frames ∧ 299 ≤ room_1.locals) (hX : va_X b L xs s s.heap) (hbl : b < s.heap.size) (hRc : z.2.2.2.1 ≤ s.heap.size + room_1.cells ∧ z.2.2.2.2 ≤ 0 + room_1.slots) {σ : hp} {w0 : Option Nat} {H : Heap} {locs : List Loc} {ls : Array Slot} (hn : s.heap.size ≤ σ.2.2.2.1 ∧ 0 ≤ σ.2.2.2.2) (hh : hw D dA s.heap.size σ H) (hS : hs s.heap.size s.heap H locs) (hl : lk ls 4 [(0, .inr (some b))]) (h : S_L_law_7 L xs σ w0 = some z) : W p l e room_1 s m #[Value.ref b] below meth c H locs (σ.2.2.2.1 - s.heap.size) (σ.2.2.2.2 - 0) (lw_Z below #[Value.ref b] s) (F0 m 7 ls [va_rf w0]) := by
  have hz0 := mo_L_law_7 h
  have hcl : σ.2.2.2.1 - s.heap.size ≤ room_1.cells ∧ σ.2.2.2.2 - 0 ≤ room_1.slots := by unfold le4 at hz0; omega
  unfold S_L_law_7 at h
  refine q_astore_n (lv' := [(1, .inr w0), (0, .inr (some b))]) X dL_law_7 rfl hl (by decide) rfl (fun ls hl => ?_)
  obtain ⟨q8, e_q8, h⟩ := o_b h
  have g8 := mo_L_law_11 h
  have f8 := l_nw e_q8
  unfold le4 at g8
  refine q_nw X hh hS fn_L_10 e_q8 dL_law_8 (by omega) (by omega) (fun H hh hS => ?_)
  refine W.cs (cells' := q8.2.2.2.2.1 - s.heap.size) (slots' := q8.2.2.2.2.2 - 0) (by omega) (by omega) ?_
  have hn : s.heap.size ≤ q8.2.2.2.2.1 ∧ 0 ≤ q8.2.2.2.2.2 := by omega
  exact K_L_law_11 X hret hlk hR hX hbl hRc hn hh hS (lk_sub hl [1, 0] rfl) h
theorem mo_L_law_3 {L : Nat} {xs : Nat → Int32} {z : hp} {σ : hp} {w0 : Option Nat} (h : S_L_law_3 L xs σ w0 = some z) : le4 σ z := by
  unfold S_L_law_3 at h
  obtain ⟨b4, e_b4, h⟩ := o_b h
  obtain ⟨q4, e_q4, h⟩ := o_b h
  exact ((mo_X8_init_0 e_q4)).tr (mo_L_law_7 h)
set_option maxHeartbeats 4000000 in
set_option maxRecDepth 100000 in
theorem K_L_law_3 {p : Program} {l : Launch} {e : Env} {s : State} {m : MethodId} {below : List Frame} {meth : Method} {c : Code} {D : va_G} {dA : Nat → ClassId} {b L : Nat} {xs : Nat → Int32} {z : hp} (X : cx p s m #[Value.ref b] c cL_law RL 4 D dA) (hret : meth.sig.returnType = ret) (hlk : meth.locks = false) (hR : 13 ≤ room_1.frames ∧ 299 ≤ room_1.locals) (hX : va_X b L xs s s.heap) (hbl : b < s.heap.size) (hRc : z.2.2.2.1 ≤ s.heap.size + room_1.cells ∧ z.2.2.2.2 ≤ 0 + room_1.slots) {σ : hp} {w0 : Option Nat} {H : Heap} {locs : List Loc} {ls : Array Slot} (hn : s.heap.size ≤ σ.2.2.2.1 ∧ 0 ≤ σ.2.2.2.2) (hh : hw D dA s.heap.size σ H) (hS : hs s.heap.size s.heap H locs) (hl : lk ls 4 [(0, .inr (some b))]) (h : S_L_law_3 L xs σ w0 = some z) : W p l e room_1 s m #[Value.ref b] below meth c H locs (σ.2.2.2.1 - s.heap.size) (σ.2.2.2.2 - 0) (lw_Z below #[Value.ref b] s) (F0 m 3 ls [va_rf w0]) := by
  have hz0 := mo_L_law_3 h
  have hcl : σ.2.2.2.1 - s.heap.size ≤ room_1.cells ∧ σ.2.2.2.2 - 0 ≤ room_1.slots := by unfold le4 at hz0; omega
  unfold S_L_law_3 at h
  refine lv_dup X.1 X.2.1 dL_law_3 (vv_cat (.inr w0)) ?_
  obtain ⟨b4, e_b4, h⟩ := o_b h
  obtain ⟨q4, e_q4, h⟩ := o_b h
  have g4 := mo_L_law_7 h
  have f4 := mo_X8_init_0 e_q4
  unfold le4 at g4 f4
  refine q_cI (As := []) X hh hS hl cf_L_9 e_b4 rfl (M_X8_init l D dA s.heap.size σ b4  e_q4) ⟨Nat.le_trans (by decide) hR.1, Nat.le_trans (by decide) hR.2⟩ (cat8 [.inr w0] (Nat.le_of_ble_eq_true rfl)) dL_law_4 ⟨by omega, by omega⟩ rfl (fun H locs hh hS => ?_)
  refine W.cs (cells' := q4.2.2.2.1 - s.heap.size) (slots' := q4.2.2.2.2 - 0) (by omega) (by omega) ?_
  have hn : s.heap.size ≤ q4.2.2.2.1 ∧ 0 ≤ q4.2.2.2.2 := by omega
  exact K_L_law_7 X hret hlk hR hX hbl hRc hn hh hS (lk_sub hl [0] rfl) h
theorem mo_L_law_0 {L : Nat} {xs : Nat → Int32} {z : hp} {σ : hp} (h : S_L_law L xs σ = some z) : le4 σ z := by
  unfold S_L_law at h
  obtain ⟨q0, e_q0, h⟩ := o_b h
  exact ((m_nw e_q0)).tr (mo_L_law_3 h)
set_option maxHeartbeats 4000000 in
set_option maxRecDepth 100000 in
theorem K_L_law_0 {p : Program} {l : Launch} {e : Env} {s : State} {m : MethodId} {below : List Frame} {meth : Method} {c : Code} {D : va_G} {dA : Nat → ClassId} {b L : Nat} {xs : Nat → Int32} {z : hp} (X : cx p s m #[Value.ref b] c cL_law RL 4 D dA) (hret : meth.sig.returnType = ret) (hlk : meth.locks = false) (hR : 13 ≤ room_1.frames ∧ 299 ≤ room_1.locals) (hX : va_X b L xs s s.heap) (hbl : b < s.heap.size) (hRc : z.2.2.2.1 ≤ s.heap.size + room_1.cells ∧ z.2.2.2.2 ≤ 0 + room_1.slots) {σ : hp} {H : Heap} {locs : List Loc} {ls : Array Slot} (hn : s.heap.size ≤ σ.2.2.2.1 ∧ 0 ≤ σ.2.2.2.2) (hh : hw D dA s.heap.size σ H) (hS : hs s.heap.size s.heap H locs) (hl : lk ls 4 [(0, .inr (some b))]) (h : S_L_law L xs σ = some z) : W p l e room_1 s m #[Value.ref b] below meth c H locs (σ.2.2.2.1 - s.heap.size) (σ.2.2.2.2 - 0) (lw_Z below #[Value.ref b] s) (F0 m 0 ls []) := by
  have hz0 := mo_L_law_0 h
  have hcl : σ.2.2.2.1 - s.heap.size ≤ room_1.cells ∧ σ.2.2.2.2 - 0 ≤ room_1.slots := by unfold le4 at hz0; omega
  unfold S_L_law at h
  obtain ⟨q0, e_q0, h⟩ := o_b h
  have g0 := mo_L_law_3 h
  have f0 := l_nw e_q0
  unfold le4 at g0
  refine q_nw X hh hS fn_L_7 e_q0 dL_law_0 (by omega) (by omega) (fun H hh hS => ?_)
  refine W.cs (cells' := q0.2.2.2.2.1 - s.heap.size) (slots' := q0.2.2.2.2.2 - 0) (by omega) (by omega) ?_
  have hn : s.heap.size ≤ q0.2.2.2.2.1 ∧ 0 ≤ q0.2.2.2.2.2 := by omega
  exact K_L_law_3 X hret hlk hR hX hbl hRc hn hh hS (lk_sub hl [0] rfl) h
