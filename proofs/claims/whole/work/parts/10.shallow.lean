/-! The methods as functions over the heap: written by wip/whole/gen/emit.py out of the bytecode. -/
def S_X0_init_30 (σ : hp) (t0 : Nat) (w0 : Option Nat) (w1 : Option Nat) : Option (hp) :=
  (o_pR σ 0 3 w0 w1).bind fun s30 =>
  (o_pI s30 0 4 (some t0) (0 : Int32)).bind fun s35 =>
  (o_pI s35 0 5 (some t0) (0 : Int32)).bind fun s40 =>
  some s40
def S_X0_init_10 (σ : hp) (t0 : Nat) (w0 : Option Nat) (w1 : Option Nat) : Option (hp) :=
  (o_pR σ 0 0 w0 w1).bind fun s10 =>
  (o_pI s10 0 1 (some t0) (0 : Int32)).bind fun s15 =>
  (o_pI s15 0 2 (some t0) (0 : Int32)).bind fun s20 =>
  (o_na s20 5 (256 : Int32)).bind fun q27 =>
  S_X0_init_30 q27.2 t0 (some t0) q27.1
def S_X0_init (σ : hp) (t0 : Nat) : Option (hp) :=
  (o_na σ 5 (30 : Int32)).bind fun q7 =>
  S_X0_init_10 q7.2 t0 (some t0) q7.1
def S_X0_jobsLeft (σ : hp) (t0 : Nat) : Option (Int32) :=
  (o_gI σ 0 2 (some t0)).bind fun t1 =>
  (o_gI σ 0 1 (some t0)).bind fun t5 =>
  some (t1 - t5)
def S_X2_init_13 (σ : hp) (t0 : Nat) (v2 : Option Nat) (v3 : Int32) (w0 : Option Nat) (w1 : Option Nat) : Option (hp) :=
  (o_pR σ 2 1 w0 w1).bind fun s13 =>
  (o_gR s13 2 1 (some t0)).bind fun t19 =>
  (o_cpy s13 0 v2 (0 : Int32) t19 (0 : Int32) v3).bind fun s24 =>
  some s24
def S_X2_init (σ : hp) (t0 : Nat) (v1 : Int32) (v2 : Option Nat) (v3 : Int32) : Option (hp) :=
  (o_pI σ 2 0 (some t0) v1).bind fun s6 =>
  (o_na s6 0 v3).bind fun q11 =>
  S_X2_init_13 q11.2 t0 v2 v3 (some t0) q11.1
def S_X0_addJob_31 (σ : hp) (t0 : Nat) (v3 : Int32) (w0 : Option Nat) (w1 : Int32) (w2 : Option Nat) : Option (Int32 × hp) :=
  (o_stQ σ 5 2 w0 w1 w2).bind fun s31 =>
  (o_gI s31 0 2 (some t0)).bind fun t34 =>
  (o_pI s31 0 2 (some t0) (t34 + (1 : Int32))).bind fun s39 =>
  some (v3, s39)
def S_X0_addJob_24 (σ : hp) (t0 : Nat) (v1 : Option Nat) (v2 : Int32) (v3 : Int32) (w0 : Option Nat) (w1 : Int32) (w2 : Option Nat) : Option (Int32 × hp) :=
  (o_rcv σ 2 w2).bind fun b28 =>
  (S_X2_init σ b28 v3 v1 v2).bind fun q28 =>
  S_X0_addJob_31 q28 t0 v3 w0 w1 w2
def S_X0_addJob (σ : hp) (t0 : Nat) (v1 : Option Nat) (v2 : Int32) : Option (Int32 × hp) :=
  (o_gI σ 0 2 (some t0)).bind fun t1 =>
  if t1 < (30 : Int32) then ((o_gI σ 0 2 (some t0)).bind fun t12 =>
  (o_gR σ 0 0 (some t0)).bind fun t17 =>
  (o_nw σ 2 2).bind fun q21 =>
  S_X0_addJob_24 q21.2 t0 v1 v2 t12 t17 t12 (some q21.1))
  else (some ((-1 : Int32), σ))
def S_X0_firstJob_24 (σ : hp) (w0 : Option Nat) : Option (Option Nat) :=
  some w0
def S_X0_firstJob (σ : hp) (t0 : Nat) : Option (Option Nat) :=
  (o_gI σ 0 1 (some t0)).bind fun t1 =>
  (o_gI σ 0 2 (some t0)).bind fun t5 =>
  if t5 ≤ t1 then (S_X0_firstJob_24 σ none)
  else ((o_gR σ 0 0 (some t0)).bind fun t12 =>
  (o_gI σ 0 1 (some t0)).bind fun t16 =>
  (o_ldQ σ 5 t12 t16).bind fun t19 =>
  S_X0_firstJob_24 σ t19)
def S_X0_dropFirstJob (σ : hp) (t0 : Nat) : Option (Int32 × hp) :=
  (o_gI σ 0 1 (some t0)).bind fun t1 =>
  (o_gI σ 0 2 (some t0)).bind fun t5 =>
  if t1 < t5 then ((o_gI σ 0 1 (some t0)).bind fun t15 =>
  (o_pI σ 0 1 (some t0) (t15 + (1 : Int32))).bind fun s20 =>
  some ((1 : Int32), s20))
  else (some ((0 : Int32), σ))
def S_X0_hasDone_2_b (rec2 : hp → Nat → Int32 → Int32 → Option (Int32)) (σ : hp) (t0 : Nat) (v1 : Int32) (v2 : Int32) : Option (Int32) :=
  (o_gI σ 0 4 (some t0)).bind fun t4 =>
  if t4 ≤ v2 then (some (0 : Int32))
  else ((o_gR σ 0 3 (some t0)).bind fun t11 =>
  (o_ldQ σ 5 t11 v2).bind fun t15 =>
  (o_gI σ 2 0 t15).bind fun t16 =>
  if t16 = v1 then (some (1 : Int32))
  else (rec2 σ t0 v1 (v2 + (1 : Int32))))
def S_X0_hasDone_2 : Nat → hp → Nat → Int32 → Int32 → Option (Int32)
  | 0, _, _, _, _ => none
  | n + 1, σ, t0, v1, v2 => S_X0_hasDone_2_b (S_X0_hasDone_2 n) σ t0 v1 v2
def S_X0_hasDone (σ : hp) (t0 : Nat) (v1 : Int32) : Option (Int32) :=
  S_X0_hasDone_2 FU σ t0 v1 (0 : Int32)
def S_X0_addDone_30 (σ : hp) : Option (hp) :=
  some σ
def S_X0_addDone (σ : hp) (t0 : Nat) (v1 : Option Nat) : Option (hp) :=
  (o_gI σ 0 4 (some t0)).bind fun t1 =>
  if (256 : Int32) ≤ t1 then (S_X0_addDone_30 σ)
  else ((o_gR σ 0 3 (some t0)).bind fun t11 =>
  (o_gI σ 0 4 (some t0)).bind fun t15 =>
  (o_stQ σ 5 2 t11 t15 v1).bind fun s19 =>
  (o_gI s19 0 4 (some t0)).bind fun t22 =>
  (o_pI s19 0 4 (some t0) (t22 + (1 : Int32))).bind fun s27 =>
  S_X0_addDone_30 s27)
def S_X0_doneJob_22 (σ : hp) (w0 : Option Nat) : Option (Option Nat) :=
  some w0
def S_X0_doneJob_21 (σ : hp) : Option (Option Nat) :=
  S_X0_doneJob_22 σ none
def S_X0_doneJob (σ : hp) (t0 : Nat) (v1 : Int32) : Option (Option Nat) :=
  if v1 < (0 : Int32) then (S_X0_doneJob_21 σ)
  else ((o_gI σ 0 4 (some t0)).bind fun t6 =>
  if t6 ≤ v1 then (S_X0_doneJob_21 σ)
  else ((o_gR σ 0 3 (some t0)).bind fun t13 =>
  (o_ldQ σ 5 t13 v1).bind fun t17 =>
  S_X0_doneJob_22 σ t17))
def S_X1_init_9 (σ : hp) (t0 : Nat) (w0 : Option Nat) (w1 : Option Nat) : Option (hp) :=
  (o_pR σ 1 0 w0 w1).bind fun s9 =>
  (o_z (0 : Int32)).bind fun z14 =>
  (o_pI s9 1 1 (some t0) z14).bind fun s14 =>
  (o_pI s14 1 2 (some t0) (0 : Int32)).bind fun s19 =>
  (o_pI s19 1 3 (some t0) (0 : Int32)).bind fun s24 =>
  (o_pI s24 1 4 (some t0) (0 : Int32)).bind fun s29 =>
  some s29
def S_X1_init (σ : hp) (t0 : Nat) : Option (hp) :=
  (o_na σ 0 (100 : Int32)).bind fun q7 =>
  S_X1_init_9 q7.2 t0 (some t0) q7.1
def S_X1_forget (σ : hp) (t0 : Nat) : Option (hp) :=
  (o_z (0 : Int32)).bind fun z2 =>
  (o_pI σ 1 1 (some t0) z2).bind fun s2 =>
  some s2
def S_X1_begin (σ : hp) (t0 : Nat) (v1 : Int32) (v2 : Int32) : Option (hp) :=
  (o_z (1 : Int32)).bind fun z2 =>
  (o_pI σ 1 1 (some t0) z2).bind fun s2 =>
  (o_pI s2 1 2 (some t0) v1).bind fun s7 =>
  (o_pI s7 1 3 (some t0) v2).bind fun s12 =>
  (o_pI s12 1 4 (some t0) (0 : Int32)).bind fun s17 =>
  some s17
def S_X4_messageLength (σ : hp) (t0 : Nat) : Option (Int32) :=
  (o_gR σ 4 0 (some t0)).bind fun t1 =>
  (o_ldI σ 0 t1 (6 : Int32)).bind fun t6 =>
  some t6
def S_X4_messageByte_23 (σ : hp) (w0 : Int32) : Option (Int32) :=
  some w0
def S_X4_messageByte_22 (σ : hp) : Option (Int32) :=
  S_X4_messageByte_23 σ (0 : Int32)
def S_X4_messageByte (σ : hp) (t0 : Nat) (v1 : Int32) : Option (Int32) :=
  if v1 < (0 : Int32) then (S_X4_messageByte_22 σ)
  else (if (31 : Int32) ≤ v1 then (S_X4_messageByte_22 σ)
  else ((o_gR σ 4 0 (some t0)).bind fun t11 =>
  (o_ldI σ 0 t11 ((7 : Int32) + v1)).bind fun t18 =>
  S_X4_messageByte_23 σ t18))
def S_X1_takePart_60 (σ : hp) : Option (hp) :=
  some σ
def S_X1_takePart_2_b (rec2 : hp → Nat → Option Nat → Int32 → Option (hp)) (σ : hp) (t0 : Nat) (v1 : Option Nat) (v2 : Int32) : Option (hp) :=
  (o_rcv σ 4 v1).bind fun b4 =>
  (S_X4_messageLength σ b4 ).bind fun q4 =>
  if q4 ≤ v2 then (S_X1_takePart_60 σ)
  else ((o_gI σ 1 4 (some t0)).bind fun t11 =>
  (o_gI σ 1 3 (some t0)).bind fun t15 =>
  if t15 ≤ t11 then (S_X1_takePart_60 σ)
  else ((o_gI σ 1 4 (some t0)).bind fun t22 =>
  if (100 : Int32) ≤ t22 then (S_X1_takePart_60 σ)
  else ((o_gR σ 1 0 (some t0)).bind fun t31 =>
  (o_gI σ 1 4 (some t0)).bind fun t35 =>
  (o_rcv σ 4 v1).bind fun b40 =>
  (S_X4_messageByte σ b40 v2).bind fun q40 =>
  (o_stI σ 0 t31 t35 q40).bind fun s43 =>
  (o_gI s43 1 4 (some t0)).bind fun t46 =>
  (o_pI s43 1 4 (some t0) (t46 + (1 : Int32))).bind fun s51 =>
  rec2 s51 t0 v1 (v2 + (1 : Int32)))))
def S_X1_takePart_2 : Nat → hp → Nat → Option Nat → Int32 → Option (hp)
  | 0, _, _, _, _ => none
  | n + 1, σ, t0, v1, v2 => S_X1_takePart_2_b (S_X1_takePart_2 n) σ t0 v1 v2
def S_X1_takePart (σ : hp) (t0 : Nat) (v1 : Option Nat) : Option (hp) :=
  S_X1_takePart_2 FU σ t0 v1 (1 : Int32)
def S_X1_isWhole_23 (σ : hp) (w0 : Int32) : Option (Int32) :=
  (o_z w0).bind fun z23 =>
  some z23
def S_X1_isWhole_22 (σ : hp) : Option (Int32) :=
  S_X1_isWhole_23 σ (0 : Int32)
def S_X1_isWhole (σ : hp) (t0 : Nat) : Option (Int32) :=
  (o_gI σ 1 1 (some t0)).bind fun t1 =>
  if t1 = (0 : Int32) then (S_X1_isWhole_22 σ)
  else ((o_gI σ 1 4 (some t0)).bind fun t8 =>
  (o_gI σ 1 3 (some t0)).bind fun t12 =>
  if t8 = t12 then (S_X1_isWhole_23 σ (1 : Int32))
  else (S_X1_isWhole_22 σ))
def S_X1_job_19 (σ : hp) (w0 : Option Nat) : Option (Option Nat × hp) :=
  some (w0, σ)
def S_X1_job_3 (σ : hp) (t0 : Nat) (w0 : Option Nat) : Option (Option Nat × hp) :=
  (o_gI σ 1 2 (some t0)).bind fun t5 =>
  (o_gR σ 1 0 (some t0)).bind fun t9 =>
  (o_gI σ 1 3 (some t0)).bind fun t13 =>
  (o_rcv σ 2 w0).bind fun b16 =>
  (S_X2_init σ b16 t5 t9 t13).bind fun q16 =>
  S_X1_job_19 q16 w0
def S_X1_job (σ : hp) (t0 : Nat) : Option (Option Nat × hp) :=
  (o_nw σ 2 2).bind fun q0 =>
  S_X1_job_3 q0.2 t0 (some q0.1)
def S_X3_init_9 (σ : hp) (t0 : Nat) (w0 : Option Nat) (w1 : Option Nat) : Option (hp) :=
  (o_pR σ 3 0 w0 w1).bind fun s9 =>
  (o_pI s9 3 1 (some t0) (0 : Int32)).bind fun s14 =>
  some s14
def S_X3_init (σ : hp) (t0 : Nat) : Option (hp) :=
  (o_na σ 0 (31 : Int32)).bind fun q7 =>
  S_X3_init_9 q7.2 t0 (some t0) q7.1
def S_X3_append_29 (σ : hp) : Option (hp) :=
  some σ
def S_X3_append (σ : hp) (t0 : Nat) (v1 : Int32) : Option (hp) :=
  (o_gI σ 3 1 (some t0)).bind fun t1 =>
  if (31 : Int32) ≤ t1 then (S_X3_append_29 σ)
  else ((o_gR σ 3 0 (some t0)).bind fun t10 =>
  (o_gI σ 3 1 (some t0)).bind fun t14 =>
  (o_stI σ 0 t10 t14 v1).bind fun s18 =>
  (o_gI s18 3 1 (some t0)).bind fun t21 =>
  (o_pI s18 3 1 (some t0) (t21 + (1 : Int32))).bind fun s26 =>
  S_X3_append_29 s26)
def S_X4_init_9 (σ : hp) (t0 : Nat) (w0 : Option Nat) (w1 : Option Nat) : Option (hp) :=
  (o_pR σ 4 0 w0 w1).bind fun s9 =>
  (o_pI s9 4 1 (some t0) (0 : Int32)).bind fun s14 =>
  some s14
def S_X4_init (σ : hp) (t0 : Nat) : Option (hp) :=
  (o_na σ 0 (38 : Int32)).bind fun q7 =>
  S_X4_init_9 q7.2 t0 (some t0) q7.1
def S_X4_fillHead (σ : hp) (t0 : Nat) (v1 : Int32) (v2 : Int32) (v3 : Int32) : Option (hp) :=
  (o_gR σ 4 0 (some t0)).bind fun t18 =>
  (o_stI σ 0 t18 (0 : Int32) (16 : Int32)).bind fun s24 =>
  (o_gR s24 4 0 (some t0)).bind fun t26 =>
  (o_stI s24 0 t26 (1 : Int32) v1).bind fun s31 =>
  (o_gR s31 4 0 (some t0)).bind fun t33 =>
  (o_stI s31 0 t33 (2 : Int32) (v3 &&& (255 : Int32))).bind fun s39 =>
  (o_gR s39 4 0 (some t0)).bind fun t41 =>
  (o_stI s39 0 t41 (3 : Int32) ((v3 >>> ((8 : Int32) &&& 31)) &&& (255 : Int32))).bind fun s47 =>
  (o_gR s47 4 0 (some t0)).bind fun t49 =>
  (o_stI s47 0 t49 (4 : Int32) v2).bind fun s54 =>
  (o_gR s54 4 0 (some t0)).bind fun t56 =>
  (o_stI s54 0 t56 (5 : Int32) (((v1 ^^^ (v3 &&& (255 : Int32))) ^^^ ((v3 >>> ((8 : Int32) &&& 31)) &&& (255 : Int32))) ^^^ v2)).bind fun s69 =>
  some s69
def S_X4_fillControl (σ : hp) (t0 : Nat) (v1 : Int32) (v2 : Int32) : Option (hp) :=
  (o_pI σ 4 1 (some t0) (6 : Int32)).bind fun s3 =>
  (o_rcv s3 4 (some t0)).bind fun b21 =>
  (S_X4_fillHead s3 b21 (9 : Int32) (((8 : Int32) * v1) + v2) ((43690 : Int32) - (((8 : Int32) * v1) + v2))).bind fun q21 =>
  some q21
def S_X4_sum_63 (rec8 : hp → Nat → Int32 → Int32 → Int32 → Option (Int32)) (σ : hp) (t0 : Nat) (v1 : Int32) (v2 : Int32) (v3 : Int32) : Option (Int32) :=
  rec8 σ t0 v1 v2 (v3 + (-1 : Int32))
def S_X4_sum_8_b (rec8 : hp → Nat → Int32 → Int32 → Int32 → Option (Int32)) (σ : hp) (t0 : Nat) (v1 : Int32) (v2 : Int32) (v3 : Int32) : Option (Int32) :=
  if v3 ≤ (0 : Int32) then (some v1)
  else ((o_gR σ 4 0 (some t0)).bind fun t31 =>
  (o_ldI σ 0 t31 ((38 : Int32) - v3)).bind fun t38 =>
  if v1 < (((((v1 <<< ((1 : Int32) &&& 31)) ||| (v1 >>> ((15 : Int32) &&& 31))) &&& (65535 : Int32)) + t38) &&& (65535 : Int32)) then (S_X4_sum_63 rec8 σ t0 (((((v1 <<< ((1 : Int32) &&& 31)) ||| (v1 >>> ((15 : Int32) &&& 31))) &&& (65535 : Int32)) + t38) &&& (65535 : Int32)) ((v2 + ((((((v1 <<< ((1 : Int32) &&& 31)) ||| (v1 >>> ((15 : Int32) &&& 31))) &&& (65535 : Int32)) + t38) &&& (65535 : Int32)) ^^^ v3)) &&& (65535 : Int32)) v3)
  else (S_X4_sum_63 rec8 σ t0 ((((((v1 <<< ((1 : Int32) &&& 31)) ||| (v1 >>> ((15 : Int32) &&& 31))) &&& (65535 : Int32)) + t38) &&& (65535 : Int32)) ^^^ ((v2 + ((((((v1 <<< ((1 : Int32) &&& 31)) ||| (v1 >>> ((15 : Int32) &&& 31))) &&& (65535 : Int32)) + t38) &&& (65535 : Int32)) ^^^ v3)) &&& (65535 : Int32))) ((v2 + ((((((v1 <<< ((1 : Int32) &&& 31)) ||| (v1 >>> ((15 : Int32) &&& 31))) &&& (65535 : Int32)) + t38) &&& (65535 : Int32)) ^^^ v3)) &&& (65535 : Int32)) v3))
def S_X4_sum_8 : Nat → hp → Nat → Int32 → Int32 → Int32 → Option (Int32)
  | 0, _, _, _, _, _ => none
  | n + 1, σ, t0, v1, v2, v3 => S_X4_sum_8_b (S_X4_sum_8 n) σ t0 v1 v2 v3
def S_X4_sum (σ : hp) (t0 : Nat) : Option (Int32) :=
  S_X4_sum_8 FU σ t0 (65535 : Int32) (0 : Int32) (32 : Int32)
def S_X4_fillData_56 (rec20 : hp → Nat → Int32 → Int32 → Option Nat → Int32 → Option (hp)) (σ : hp) (t0 : Nat) (v1 : Int32) (v2 : Int32) (v3 : Option Nat) (v4 : Int32) (w0 : Option Nat) (w1 : Int32) (w2 : Int32) : Option (hp) :=
  (o_stI σ 0 w0 w1 w2).bind fun s56 =>
  rec20 s56 t0 v1 v2 v3 (v4 + (1 : Int32))
def S_X4_fillData_20_b (rec20 : hp → Nat → Int32 → Int32 → Option Nat → Int32 → Option (hp)) (σ : hp) (t0 : Nat) (v1 : Int32) (v2 : Int32) (v3 : Option Nat) (v4 : Int32) : Option (hp) :=
  if (31 : Int32) ≤ v4 then ((o_rcv σ 4 (some t0)).bind fun b82 =>
  (S_X4_sum σ b82 ).bind fun q82 =>
  (o_rcv σ 4 (some t0)).bind fun b89 =>
  (S_X4_fillHead σ b89 (1 : Int32) (((128 : Int32) + ((8 : Int32) * v1)) + v2) ((43690 : Int32) - (q82 ^^^ (((128 : Int32) + ((8 : Int32) * v1)) + v2)))).bind fun q89 =>
  some q89)
  else ((o_gR σ 4 0 (some t0)).bind fun t28 =>
  (o_gI σ 3 1 v3).bind fun t39 =>
  if t39 ≤ v4 then (S_X4_fillData_56 rec20 σ t0 v1 v2 v3 v4 t28 ((7 : Int32) + v4) (0 : Int32))
  else ((o_gR σ 3 0 v3).bind fun t46 =>
  (o_ldI σ 0 t46 v4).bind fun t51 =>
  S_X4_fillData_56 rec20 σ t0 v1 v2 v3 v4 t28 ((7 : Int32) + v4) t51))
def S_X4_fillData_20 : Nat → hp → Nat → Int32 → Int32 → Option Nat → Int32 → Option (hp)
  | 0, _, _, _, _, _, _ => none
  | n + 1, σ, t0, v1, v2, v3, v4 => S_X4_fillData_20_b (S_X4_fillData_20 n) σ t0 v1 v2 v3 v4
def S_X4_fillData (σ : hp) (t0 : Nat) (v1 : Int32) (v2 : Int32) (v3 : Option Nat) : Option (hp) :=
  (o_pI σ 4 1 (some t0) (38 : Int32)).bind fun s3 =>
  (o_gR s3 4 0 (some t0)).bind fun t7 =>
  (o_gI s3 3 1 v3).bind fun t13 =>
  (o_stI s3 0 t7 (6 : Int32) t13).bind fun s16 =>
  S_X4_fillData_20 FU s16 t0 v1 v2 v3 (0 : Int32)
def S_X4_isData_14 (σ : hp) (w0 : Int32) : Option (Int32) :=
  (o_z w0).bind fun z14 =>
  some z14
def S_X4_isData (σ : hp) (t0 : Nat) : Option (Int32) :=
  (o_gI σ 4 1 (some t0)).bind fun t1 =>
  if t1 ≤ (6 : Int32) then (S_X4_isData_14 σ (0 : Int32))
  else (S_X4_isData_14 σ (1 : Int32))
def S_X4_x (σ : hp) (t0 : Nat) : Option (Int32) :=
  (o_gR σ 4 0 (some t0)).bind fun t1 =>
  (o_ldI σ 0 t1 (4 : Int32)).bind fun t5 =>
  some ((t5 >>> ((3 : Int32) &&& 31)) &&& (7 : Int32))
def S_X4_y (σ : hp) (t0 : Nat) : Option (Int32) :=
  (o_gR σ 4 0 (some t0)).bind fun t1 =>
  (o_ldI σ 0 t1 (4 : Int32)).bind fun t5 =>
  some (t5 &&& (7 : Int32))
def S_X4_isMessageWellFormed_19 (σ : hp) : Option (Int32) :=
  some (0 : Int32)
def S_X4_isMessageWellFormed_26_b (rec26 : hp → Nat → Int32 → Option (Int32)) (σ : hp) (t0 : Nat) (v2 : Int32) : Option (Int32) :=
  if (38 : Int32) ≤ v2 then (some (1 : Int32))
  else ((o_gR σ 4 0 (some t0)).bind fun t33 =>
  (o_ldI σ 0 t33 v2).bind fun t37 =>
  if t37 = (0 : Int32) then (rec26 σ t0 (v2 + (1 : Int32)))
  else (some (0 : Int32)))
def S_X4_isMessageWellFormed_26 : Nat → hp → Nat → Int32 → Option (Int32)
  | 0, _, _, _ => none
  | n + 1, σ, t0, v2 => S_X4_isMessageWellFormed_26_b (S_X4_isMessageWellFormed_26 n) σ t0 v2
def S_X4_isMessageWellFormed (σ : hp) (t0 : Nat) : Option (Int32) :=
  (o_gR σ 4 0 (some t0)).bind fun t1 =>
  (o_ldI σ 0 t1 (6 : Int32)).bind fun t6 =>
  if t6 < (1 : Int32) then (S_X4_isMessageWellFormed_19 σ)
  else (if t6 ≤ (31 : Int32) then (S_X4_isMessageWellFormed_26 FU σ t0 ((7 : Int32) + t6))
  else (S_X4_isMessageWellFormed_19 σ))
def S_X4_hasHead_72 (σ : hp) (w0 : Int32) : Option (Int32) :=
  (o_z w0).bind fun z72 =>
  some z72
def S_X4_hasHead_71 (σ : hp) : Option (Int32) :=
  S_X4_hasHead_72 σ (0 : Int32)
def S_X4_hasHead (σ : hp) (t0 : Nat) (v1 : Int32) (v2 : Int32) (v3 : Int32) : Option (Int32) :=
  (o_gR σ 4 0 (some t0)).bind fun t18 =>
  (o_ldI σ 0 t18 (1 : Int32)).bind fun t22 =>
  if t22 = v1 then ((o_gR σ 4 0 (some t0)).bind fun t28 =>
  (o_ldI σ 0 t28 (2 : Int32)).bind fun t32 =>
  if t32 = (v3 &&& (255 : Int32)) then ((o_gR σ 4 0 (some t0)).bind fun t39 =>
  (o_ldI σ 0 t39 (3 : Int32)).bind fun t43 =>
  if t43 = ((v3 >>> ((8 : Int32) &&& 31)) &&& (255 : Int32)) then ((o_gR σ 4 0 (some t0)).bind fun t50 =>
  (o_ldI σ 0 t50 (5 : Int32)).bind fun t54 =>
  if t54 = (((v1 ^^^ (v3 &&& (255 : Int32))) ^^^ ((v3 >>> ((8 : Int32) &&& 31)) &&& (255 : Int32))) ^^^ v2) then (S_X4_hasHead_72 σ (1 : Int32))
  else (S_X4_hasHead_71 σ))
  else (S_X4_hasHead_71 σ))
  else (S_X4_hasHead_71 σ))
  else (S_X4_hasHead_71 σ)
def S_X4_isControl_31 (σ : hp) (w0 : Int32) : Option (Int32) :=
  (o_z w0).bind fun z31 =>
  some z31
def S_X4_isControl_26 (σ : hp) : Option (Int32) :=
  S_X4_isControl_31 σ (1 : Int32)
def S_X4_isControl (σ : hp) (v0 : Int32) : Option (Int32) :=
  if v0 = (1 : Int32) then (S_X4_isControl_26 σ)
  else (if v0 = (2 : Int32) then (S_X4_isControl_26 σ)
  else (if v0 = (4 : Int32) then (S_X4_isControl_26 σ)
  else (if v0 = (5 : Int32) then (S_X4_isControl_26 σ)
  else (if v0 = (7 : Int32) then (S_X4_isControl_26 σ)
  else (S_X4_isControl_31 σ (0 : Int32))))))
def S_X4_isGood_65 (σ : hp) (w0 : Int32) : Option (Int32) :=
  (o_z w0).bind fun z65 =>
  some z65
def S_X4_isGood_64 (σ : hp) : Option (Int32) :=
  S_X4_isGood_65 σ (0 : Int32)
def S_X4_isGood_102 (σ : hp) (w0 : Int32) : Option (Int32) :=
  (o_z w0).bind fun z102 =>
  some z102
def S_X4_isGood_101 (σ : hp) : Option (Int32) :=
  S_X4_isGood_102 σ (0 : Int32)
def S_X4_isGood (σ : hp) (t0 : Nat) : Option (Int32) :=
  (o_gR σ 4 0 (some t0)).bind fun t1 =>
  (o_ldI σ 0 t1 (0 : Int32)).bind fun t5 =>
  if t5 = (16 : Int32) then ((o_gR σ 4 0 (some t0)).bind fun t14 =>
  (o_ldI σ 0 t14 (4 : Int32)).bind fun t18 =>
  (o_rcv σ 4 (some t0)).bind fun b21 =>
  (S_X4_isData σ b21 ).bind fun q21 =>
  if q21 = (0 : Int32) then (if (t18 >>> ((6 : Int32) &&& 31)) = (0 : Int32) then ((o_rcv σ 4 (some t0)).bind fun b74 =>
  (S_X4_x σ b74 ).bind fun q74 =>
  (S_X4_isControl σ q74).bind fun q77 =>
  if q77 = (0 : Int32) then (S_X4_isGood_101 σ)
  else ((o_rcv σ 4 (some t0)).bind fun b91 =>
  (S_X4_hasHead σ b91 (9 : Int32) t18 ((43690 : Int32) - t18)).bind fun q91 =>
  if q91 = (0 : Int32) then (S_X4_isGood_101 σ)
  else (S_X4_isGood_102 σ (1 : Int32))))
  else (S_X4_isGood_101 σ))
  else (if (t18 >>> ((6 : Int32) &&& 31)) = (2 : Int32) then ((o_rcv σ 4 (some t0)).bind fun b36 =>
  (S_X4_isMessageWellFormed σ b36 ).bind fun q36 =>
  if q36 = (0 : Int32) then (S_X4_isGood_64 σ)
  else ((o_rcv σ 4 (some t0)).bind fun b48 =>
  (S_X4_sum σ b48 ).bind fun q48 =>
  (o_rcv σ 4 (some t0)).bind fun b54 =>
  (S_X4_hasHead σ b54 (1 : Int32) t18 ((43690 : Int32) - (q48 ^^^ t18))).bind fun q54 =>
  if q54 = (0 : Int32) then (S_X4_isGood_64 σ)
  else (S_X4_isGood_65 σ (1 : Int32))))
  else (S_X4_isGood_64 σ)))
  else (some (0 : Int32))
def S_X6_init_53 (rec35 : hp → Nat → Int32 → Option (hp)) (σ : hp) (t0 : Nat) (v1 : Int32) (w0 : Option Nat) (w1 : Int32) (w2 : Option Nat) : Option (hp) :=
  (o_stQ σ 6 3 w0 w1 w2).bind fun s53 =>
  rec35 s53 t0 (v1 + (1 : Int32))
def S_X6_init_49 (rec35 : hp → Nat → Int32 → Option (hp)) (σ : hp) (t0 : Nat) (v1 : Int32) (w0 : Option Nat) (w1 : Int32) (w2 : Option Nat) : Option (hp) :=
  (o_rcv σ 3 w2).bind fun b50 =>
  (S_X3_init σ b50 ).bind fun q50 =>
  S_X6_init_53 rec35 q50 t0 v1 w0 w1 w2
def S_X6_init_35_b (rec35 : hp → Nat → Int32 → Option (hp)) (σ : hp) (t0 : Nat) (v1 : Int32) : Option (hp) :=
  if (20 : Int32) ≤ v1 then (some σ)
  else ((o_gR σ 6 0 (some t0)).bind fun t42 =>
  (o_nw σ 3 2).bind fun q46 =>
  S_X6_init_49 rec35 q46.2 t0 v1 t42 v1 (some q46.1))
def S_X6_init_35 : Nat → hp → Nat → Int32 → Option (hp)
  | 0, _, _, _ => none
  | n + 1, σ, t0, v1 => S_X6_init_35_b (S_X6_init_35 n) σ t0 v1
def S_X6_init_30 (σ : hp) (t0 : Nat) (w0 : Option Nat) (w1 : Option Nat) : Option (hp) :=
  (o_pR σ 6 0 w0 w1).bind fun s30 =>
  S_X6_init_35 FU s30 t0 (0 : Int32)
def S_X6_init (σ : hp) (t0 : Nat) : Option (hp) :=
  (o_pI σ 6 1 (some t0) (0 : Int32)).bind fun s6 =>
  (o_pI s6 6 2 (some t0) (1 : Int32)).bind fun s11 =>
  (o_pI s11 6 3 (some t0) (0 : Int32)).bind fun s16 =>
  (o_pI s16 6 4 (some t0) (0 : Int32)).bind fun s21 =>
  (o_na s21 6 (20 : Int32)).bind fun q27 =>
  S_X6_init_30 q27.2 t0 (some t0) q27.1
def S_X5_init_34 (σ : hp) (t0 : Nat) (v1 : Int32) (v2 : Option Nat) (w0 : Option Nat) (w1 : Option Nat) : Option (hp) :=
  (o_pR σ 5 4 w0 w1).bind fun s34 =>
  (o_pI s34 5 5 (some t0) (0 : Int32)).bind fun s39 =>
  (o_pI s39 5 6 (some t0) (0 : Int32)).bind fun s44 =>
  (o_pI s44 5 7 (some t0) (-1 : Int32)).bind fun s49 =>
  (o_pI s49 5 8 (some t0) (0 : Int32)).bind fun s54 =>
  (o_z (0 : Int32)).bind fun z59 =>
  (o_pI s54 5 9 (some t0) z59).bind fun s59 =>
  (o_pI s59 5 10 (some t0) (0 : Int32)).bind fun s64 =>
  (o_pI s64 5 11 (some t0) (0 : Int32)).bind fun s69 =>
  (o_pI s69 5 12 (some t0) (0 : Int32)).bind fun s74 =>
  (o_pI s74 5 0 (some t0) v1).bind fun s79 =>
  (o_pR s79 5 1 (some t0) v2).bind fun s84 =>
  some s84
def S_X5_init_30 (σ : hp) (t0 : Nat) (v1 : Int32) (v2 : Option Nat) (w0 : Option Nat) (w1 : Option Nat) : Option (hp) :=
  (o_rcv σ 1 w1).bind fun b31 =>
  (S_X1_init σ b31 ).bind fun q31 =>
  S_X5_init_34 q31 t0 v1 v2 w0 w1
def S_X5_init_23 (σ : hp) (t0 : Nat) (v1 : Int32) (v2 : Option Nat) (w0 : Option Nat) (w1 : Option Nat) : Option (hp) :=
  (o_pR σ 5 3 w0 w1).bind fun s23 =>
  (o_nw s23 1 5).bind fun q27 =>
  S_X5_init_30 q27.2 t0 v1 v2 (some t0) (some q27.1)
def S_X5_init_19 (σ : hp) (t0 : Nat) (v1 : Int32) (v2 : Option Nat) (w0 : Option Nat) (w1 : Option Nat) : Option (hp) :=
  (o_rcv σ 6 w1).bind fun b20 =>
  (S_X6_init σ b20 ).bind fun q20 =>
  S_X5_init_23 q20 t0 v1 v2 w0 w1
def S_X5_init_12 (σ : hp) (t0 : Nat) (v1 : Int32) (v2 : Option Nat) (w0 : Option Nat) (w1 : Option Nat) : Option (hp) :=
  (o_pR σ 5 2 w0 w1).bind fun s12 =>
  (o_nw s12 6 5).bind fun q16 =>
  S_X5_init_19 q16.2 t0 v1 v2 (some t0) (some q16.1)
def S_X5_init_8 (σ : hp) (t0 : Nat) (v1 : Int32) (v2 : Option Nat) (w0 : Option Nat) (w1 : Option Nat) : Option (hp) :=
  (o_rcv σ 0 w1).bind fun b9 =>
  (S_X0_init σ b9 ).bind fun q9 =>
  S_X5_init_12 q9 t0 v1 v2 w0 w1
def S_X5_init (σ : hp) (t0 : Nat) (v1 : Int32) (v2 : Option Nat) : Option (hp) :=
  (o_nw σ 0 6).bind fun q5 =>
  S_X5_init_8 q5.2 t0 v1 v2 (some t0) (some q5.1)
def S_X6_clear (σ : hp) (t0 : Nat) : Option (hp) :=
  (o_pI σ 6 2 (some t0) (1 : Int32)).bind fun s2 =>
  (o_pI s2 6 3 (some t0) (0 : Int32)).bind fun s7 =>
  (o_pI s7 6 4 (some t0) (0 : Int32)).bind fun s12 =>
  some s12
def S_X5_begin (σ : hp) (t0 : Nat) (v1 : Int32) : Option (hp) :=
  (o_pI σ 5 5 (some t0) v1).bind fun s2 =>
  (o_gR s2 5 3 (some t0)).bind fun t6 =>
  (o_rcv s2 6 t6).bind fun b9 =>
  (S_X6_clear s2 b9 ).bind fun q9 =>
  (o_gR q9 5 4 (some t0)).bind fun t13 =>
  (o_rcv q9 1 t13).bind fun b16 =>
  (S_X1_forget q9 b16 ).bind fun q16 =>
  (o_pI q16 5 7 (some t0) (-1 : Int32)).bind fun s21 =>
  (o_pI s21 5 8 (some t0) (0 : Int32)).bind fun s26 =>
  (o_z (0 : Int32)).bind fun z31 =>
  (o_pI s26 5 9 (some t0) z31).bind fun s31 =>
  (o_pI s31 5 10 (some t0) (0 : Int32)).bind fun s36 =>
  (o_pI s36 5 11 (some t0) (0 : Int32)).bind fun s41 =>
  (o_pI s41 5 12 (some t0) (0 : Int32)).bind fun s46 =>
  some s46
def S_X7_add (σ : hp) (t0 : Nat) : Option (Option Nat × hp) :=
  (o_gI σ 7 3 (some t0)).bind fun t1 =>
  if t1 < (12 : Int32) then ((o_gI σ 7 3 (some t0)).bind fun t16 =>
  (o_pI σ 7 3 (some t0) (t16 + (1 : Int32))).bind fun s21 =>
  (o_gR s21 7 0 (some t0)).bind fun t25 =>
  (o_gI s21 7 2 (some t0)).bind fun t29 =>
  (o_gI s21 7 3 (some t0)).bind fun t33 =>
  (o_ldQ s21 3 t25 (((t29 + t33) - (1 : Int32)) - ((t29 + t33) - (1 : Int32)) / (12 : Int32) * (12 : Int32))).bind fun t42 =>
  some (t42, s21))
  else ((o_gR σ 7 1 (some t0)).bind fun t10 =>
  some (t10, σ))
def S_X5_beginCall (σ : hp) (t0 : Nat) : Option (hp) :=
  (o_rcv σ 5 (some t0)).bind fun b2 =>
  (S_X5_begin σ b2 (1 : Int32)).bind fun q2 =>
  (o_gR q2 5 2 (some t0)).bind fun t7 =>
  (o_gI q2 0 5 t7).bind fun t10 =>
  (o_pI q2 5 6 (some t0) (t10 &&& (7 : Int32))).bind fun s16 =>
  (o_gR s16 5 2 (some t0)).bind fun t20 =>
  (o_gI s16 0 5 t20).bind fun t24 =>
  (o_pI s16 0 5 t20 (t24 + (1 : Int32))).bind fun s29 =>
  (o_gR s29 5 1 (some t0)).bind fun t33 =>
  (o_rcv s29 7 t33).bind fun b36 =>
  (S_X7_add s29 b36 ).bind fun q36 =>
  (o_gI q36.2 5 6 (some t0)).bind fun t42 =>
  (o_rcv q36.2 4 q36.1).bind fun b45 =>
  (S_X4_fillControl q36.2 b45 (7 : Int32) t42).bind fun q45 =>
  some q45
def S_X6_number (σ : hp) (t0 : Nat) (v1 : Int32) : Option (Int32) :=
  (o_gI σ 6 2 (some t0)).bind fun t1 =>
  some ((t1 + v1) &&& (7 : Int32))
def S_X6_message (σ : hp) (t0 : Nat) (v1 : Int32) : Option (Option Nat) :=
  (o_gR σ 6 0 (some t0)).bind fun t1 =>
  (o_gI σ 6 1 (some t0)).bind fun t5 =>
  (o_ldQ σ 6 t1 ((t5 + v1) - (t5 + v1) / (20 : Int32) * (20 : Int32))).bind fun t13 =>
  some t13
def S_X5_sendOutFrom_2_b (rec2 : hp → Nat → Int32 → Option (hp)) (σ : hp) (t0 : Nat) (v2 : Int32) : Option (hp) :=
  (o_gR σ 5 3 (some t0)).bind fun t4 =>
  (o_gI σ 6 3 t4).bind fun t7 =>
  if t7 ≤ v2 then (some σ)
  else ((o_gR σ 5 1 (some t0)).bind fun t14 =>
  (o_rcv σ 7 t14).bind fun b17 =>
  (S_X7_add σ b17 ).bind fun q17 =>
  (o_gR q17.2 5 3 (some t0)).bind fun t21 =>
  (o_rcv q17.2 6 t21).bind fun b25 =>
  (S_X6_number q17.2 b25 v2).bind fun q25 =>
  (o_gI q17.2 5 8 (some t0)).bind fun t29 =>
  (o_gR q17.2 5 3 (some t0)).bind fun t33 =>
  (o_rcv q17.2 6 t33).bind fun b37 =>
  (S_X6_message q17.2 b37 v2).bind fun q37 =>
  (o_rcv q17.2 4 q17.1).bind fun b40 =>
  (S_X4_fillData q17.2 b40 q25 t29 q37).bind fun q40 =>
  rec2 q40 t0 (v2 + (1 : Int32)))
def S_X5_sendOutFrom_2 : Nat → hp → Nat → Int32 → Option (hp)
  | 0, _, _, _ => none
  | n + 1, σ, t0, v2 => S_X5_sendOutFrom_2_b (S_X5_sendOutFrom_2 n) σ t0 v2
def S_X5_sendOutFrom (σ : hp) (t0 : Nat) (v1 : Int32) : Option (hp) :=
  S_X5_sendOutFrom_2 FU σ t0 v1
def S_X5_passTickUnanswered (σ : hp) (t0 : Nat) : Option (Int32 × hp) :=
  (o_gI σ 5 10 (some t0)).bind fun t2 =>
  (o_pI σ 5 10 (some t0) (t2 + (1 : Int32))).bind fun s7 =>
  (o_gI s7 5 10 (some t0)).bind fun t11 =>
  if (4 : Int32) ≤ t11 then ((o_gI s7 5 11 (some t0)).bind fun t21 =>
  if t21 < (5 : Int32) then ((o_gI s7 5 11 (some t0)).bind fun t37 =>
  (o_pI s7 5 11 (some t0) (t37 + (1 : Int32))).bind fun s42 =>
  (o_pI s42 5 10 (some t0) (0 : Int32)).bind fun s47 =>
  (o_gI s47 5 5 (some t0)).bind fun t51 =>
  if t51 = (1 : Int32) then ((o_gR s47 5 1 (some t0)).bind fun t59 =>
  (o_rcv s47 7 t59).bind fun b62 =>
  (S_X7_add s47 b62 ).bind fun q62 =>
  (o_gI q62.2 5 6 (some t0)).bind fun t68 =>
  (o_rcv q62.2 4 q62.1).bind fun b71 =>
  (S_X4_fillControl q62.2 b71 (7 : Int32) t68).bind fun q71 =>
  some ((1 : Int32), q71))
  else ((o_rcv s47 5 (some t0)).bind fun b78 =>
  (S_X5_sendOutFrom s47 b78 (0 : Int32)).bind fun q78 =>
  (o_gR q78 5 3 (some t0)).bind fun t82 =>
  (o_gI q78 6 3 t82).bind fun t85 =>
  some (t85, q78)))
  else ((o_rcv s7 5 (some t0)).bind fun b30 =>
  (S_X5_begin s7 b30 (0 : Int32)).bind fun q30 =>
  some ((0 : Int32), q30)))
  else (some ((0 : Int32), s7))
def S_X5_isOpen_21 (σ : hp) (w0 : Int32) : Option (Int32) :=
  (o_z w0).bind fun z21 =>
  some z21
def S_X5_isOpen_16 (σ : hp) : Option (Int32) :=
  S_X5_isOpen_21 σ (1 : Int32)
def S_X5_isOpen (σ : hp) (t0 : Nat) : Option (Int32) :=
  (o_gI σ 5 5 (some t0)).bind fun t1 =>
  if t1 = (2 : Int32) then (S_X5_isOpen_16 σ)
  else ((o_gI σ 5 5 (some t0)).bind fun t9 =>
  if t9 = (3 : Int32) then (S_X5_isOpen_16 σ)
  else (S_X5_isOpen_21 σ (0 : Int32)))
def S_X5_passTick_18 (σ : hp) (t0 : Nat) : Option (Int32 × hp) :=
  (o_rcv σ 5 (some t0)).bind fun b19 =>
  (S_X5_passTickUnanswered σ b19 ).bind fun q19 =>
  some (q19.1, q19.2)
def S_X5_passTick_54 (σ : hp) : Option (Int32 × hp) :=
  some ((0 : Int32), σ)
def S_X5_passTick (σ : hp) (t0 : Nat) : Option (Int32 × hp) :=
  (o_gI σ 5 5 (some t0)).bind fun t1 =>
  if t1 = (1 : Int32) then (S_X5_passTick_18 σ t0)
  else ((o_gR σ 5 3 (some t0)).bind fun t9 =>
  (o_gI σ 6 3 t9).bind fun t12 =>
  if t12 ≤ (0 : Int32) then ((o_rcv σ 5 (some t0)).bind fun b24 =>
  (S_X5_isOpen σ b24 ).bind fun q24 =>
  if q24 = (0 : Int32) then (S_X5_passTick_54 σ)
  else ((o_gI σ 5 12 (some t0)).bind fun t32 =>
  (o_pI σ 5 12 (some t0) (t32 + (1 : Int32))).bind fun s37 =>
  (o_gI s37 5 12 (some t0)).bind fun t41 =>
  if t41 < (41 : Int32) then (S_X5_passTick_54 s37)
  else ((o_rcv s37 5 (some t0)).bind fun b51 =>
  (S_X5_begin s37 b51 (0 : Int32)).bind fun q51 =>
  S_X5_passTick_54 q51)))
  else (S_X5_passTick_18 σ t0))
def S_X6_acknowledge (σ : hp) (t0 : Nat) (v1 : Int32) : Option (Int32 × hp) :=
  (o_gI σ 6 2 (some t0)).bind fun t2 =>
  (o_gI σ 6 3 (some t0)).bind fun t14 =>
  if (((v1 - t2) &&& (7 : Int32)) + (1 : Int32)) ≤ t14 then ((o_gI σ 6 1 (some t0)).bind fun t24 =>
  (o_pI σ 6 1 (some t0) ((t24 + (((v1 - t2) &&& (7 : Int32)) + (1 : Int32))) - (t24 + (((v1 - t2) &&& (7 : Int32)) + (1 : Int32))) / (20 : Int32) * (20 : Int32))).bind fun s32 =>
  (o_gI s32 6 2 (some t0)).bind fun t37 =>
  (o_pI s32 6 2 (some t0) ((t37 + (((v1 - t2) &&& (7 : Int32)) + (1 : Int32))) &&& (7 : Int32))).bind fun s45 =>
  (o_gI s45 6 3 (some t0)).bind fun t50 =>
  (o_pI s45 6 3 (some t0) (t50 - (((v1 - t2) &&& (7 : Int32)) + (1 : Int32)))).bind fun s55 =>
  some ((1 : Int32), s55))
  else (some ((0 : Int32), σ))
def S_X5_takeAcknowledgement_21 (σ : hp) : Option (hp) :=
  some σ
def S_X5_takeAcknowledgement (σ : hp) (t0 : Nat) (v1 : Int32) : Option (hp) :=
  (o_gR σ 5 3 (some t0)).bind fun t1 =>
  (o_rcv σ 6 t1).bind fun b5 =>
  (S_X6_acknowledge σ b5 v1).bind fun q5 =>
  if q5.1 = (0 : Int32) then (S_X5_takeAcknowledgement_21 q5.2)
  else ((o_pI q5.2 5 10 (some t0) (0 : Int32)).bind fun s13 =>
  (o_pI s13 5 11 (some t0) (0 : Int32)).bind fun s18 =>
  S_X5_takeAcknowledgement_21 s18)
def S_X6_letOut (σ : hp) (t0 : Nat) : Option (Int32 × hp) :=
  (o_gI σ 6 3 (some t0)).bind fun t1 =>
  (o_gI σ 6 4 (some t0)).bind fun t6 =>
  (o_gI σ 6 3 (some t0)).bind fun t11 =>
  (o_gI σ 6 3 (some t0)).bind fun t21 =>
  (o_pI σ 6 3 (some t0) (t21 + (if ((3 : Int32) - t11) < t6 then ((3 : Int32) - t11) else t6))).bind fun s26 =>
  (o_gI s26 6 4 (some t0)).bind fun t31 =>
  (o_pI s26 6 4 (some t0) (t31 - (if ((3 : Int32) - t11) < t6 then ((3 : Int32) - t11) else t6))).bind fun s36 =>
  some (t1, s36)
def S_X6_add_59 (σ : hp) (v2 : Option Nat) : Option (Option Nat × hp) :=
  some (v2, σ)
def S_X6_add (σ : hp) (t0 : Nat) (v1 : Int32) : Option (Option Nat × hp) :=
  (o_gR σ 6 0 (some t0)).bind fun t1 =>
  (o_gI σ 6 1 (some t0)).bind fun t5 =>
  (o_gI σ 6 3 (some t0)).bind fun t9 =>
  (o_gI σ 6 4 (some t0)).bind fun t14 =>
  (o_ldQ σ 6 t1 (((t5 + t9) + t14) - ((t5 + t9) + t14) / (20 : Int32) * (20 : Int32))).bind fun t21 =>
  (o_gR σ 3 0 t21).bind fun t24 =>
  (o_stI σ 0 t24 (0 : Int32) v1).bind fun s29 =>
  (o_pI s29 3 1 t21 (1 : Int32)).bind fun s32 =>
  (o_gI s32 6 3 (some t0)).bind fun t36 =>
  (o_gI s32 6 4 (some t0)).bind fun t40 =>
  if (19 : Int32) ≤ (t36 + t40) then (S_X6_add_59 s32 t21)
  else ((o_gI s32 6 4 (some t0)).bind fun t51 =>
  (o_pI s32 6 4 (some t0) (t51 + (1 : Int32))).bind fun s56 =>
  S_X6_add_59 s56 t21)
def S_X5_goOn (σ : hp) (t0 : Nat) : Option (hp) :=
  (o_gR σ 5 2 (some t0)).bind fun t1 =>
  (o_rcv σ 0 t1).bind fun b4 =>
  (S_X0_firstJob σ b4 ).bind fun q4 =>
  if q4 = none then ((o_gR σ 5 3 (some t0)).bind fun t13 =>
  (o_rcv σ 6 t13).bind fun b18 =>
  (S_X6_add σ b18 (72 : Int32)).bind fun q18 =>
  some q18.2)
  else ((o_gR σ 5 3 (some t0)).bind fun t24 =>
  (o_rcv σ 6 t24).bind fun b29 =>
  (S_X6_add σ b29 (83 : Int32)).bind fun q29 =>
  (o_gI q29.2 2 0 q4).bind fun t35 =>
  (o_rcv q29.2 3 q29.1).bind fun b38 =>
  (S_X3_append q29.2 b38 t35).bind fun q38 =>
  (o_gR q38 2 1 q4).bind fun t43 =>
  (o_len q38 0 t43).bind fun t46 =>
  (o_rcv q38 3 q29.1).bind fun b47 =>
  (S_X3_append q38 b47 t46).bind fun q47 =>
  some q47)
def S_X5_addFile_51_b (rec15 : hp → Nat → Option Nat → Int32 → Option (hp)) (rec51 : hp → Nat → Option Nat → Int32 → Option Nat → Int32 → Int32 → Option (hp)) (σ : hp) (t0 : Nat) (v1 : Option Nat) (v2 : Int32) (v3 : Option Nat) (v4 : Int32) (v5 : Int32) : Option (hp) :=
  if v4 ≤ v5 then (rec15 σ t0 v1 (v2 + (30 : Int32)))
  else ((o_gR σ 2 1 v1).bind fun t60 =>
  (o_ldI σ 0 t60 v5).bind fun t65 =>
  (o_rcv σ 3 v3).bind fun b66 =>
  (S_X3_append σ b66 t65).bind fun q66 =>
  rec51 q66 t0 v1 v2 v3 v4 (v5 + (1 : Int32)))
def S_X5_addFile_51 (rec15 : hp → Nat → Option Nat → Int32 → Option (hp)) : Nat → hp → Nat → Option Nat → Int32 → Option Nat → Int32 → Int32 → Option (hp)
  | 0, _, _, _, _, _, _, _ => none
  | n + 1, σ, t0, v1, v2, v3, v4, v5 => S_X5_addFile_51_b rec15 (S_X5_addFile_51 rec15 n) σ t0 v1 v2 v3 v4 v5
def S_X5_addFile_15_b (rec15 : hp → Nat → Option Nat → Int32 → Option (hp)) (σ : hp) (t0 : Nat) (v1 : Option Nat) (v2 : Int32) : Option (hp) :=
  (o_gR σ 2 1 v1).bind fun t17 =>
  (o_len σ 0 t17).bind fun t20 =>
  if t20 ≤ v2 then (some σ)
  else ((o_gR σ 5 3 (some t0)).bind fun t25 =>
  (o_rcv σ 6 t25).bind fun b30 =>
  (S_X6_add σ b30 (68 : Int32)).bind fun q30 =>
  (o_gR q30.2 2 1 v1).bind fun t39 =>
  (o_len q30.2 0 t39).bind fun t42 =>
  S_X5_addFile_51 rec15 FU q30.2 t0 v1 v2 q30.1 (if t42 < (v2 + (30 : Int32)) then t42 else (v2 + (30 : Int32))) v2)
def S_X5_addFile_15 : Nat → hp → Nat → Option Nat → Int32 → Option (hp)
  | 0, _, _, _, _ => none
  | n + 1, σ, t0, v1, v2 => S_X5_addFile_15_b (S_X5_addFile_15 n) σ t0 v1 v2
def S_X5_addFile (σ : hp) (t0 : Nat) : Option (hp) :=
  (o_gR σ 5 2 (some t0)).bind fun t1 =>
  (o_rcv σ 0 t1).bind fun b4 =>
  (S_X0_firstJob σ b4 ).bind fun q4 =>
  if q4 = none then (some σ)
  else (S_X5_addFile_15 FU σ t0 q4 (0 : Int32))
def S_X5_doAsMaster_116 (σ : hp) : Option (hp) :=
  some σ
def S_X5_doAsMaster_64 (σ : hp) (t0 : Nat) : Option (hp) :=
  (o_gR σ 5 2 (some t0)).bind fun t65 =>
  (o_rcv σ 0 t65).bind fun b68 =>
  (S_X0_dropFirstJob σ b68 ).bind fun q68 =>
  if q68.1 = (0 : Int32) then (S_X5_doAsMaster_116 q68.2)
  else ((o_rcv q68.2 5 (some t0)).bind fun b75 =>
  (S_X5_goOn q68.2 b75 ).bind fun q75 =>
  S_X5_doAsMaster_116 q75)
def S_X5_doAsMaster (σ : hp) (t0 : Nat) (v1 : Option Nat) : Option (hp) :=
  (o_rcv σ 4 v1).bind fun b1 =>
  (S_X4_messageLength σ b1 ).bind fun q1 =>
  if q1 = (1 : Int32) then ((o_rcv σ 4 v1).bind fun b11 =>
  (S_X4_messageByte σ b11 (0 : Int32)).bind fun q11 =>
  if q11 = (67 : Int32) then (S_X5_doAsMaster_64 σ t0)
  else if q11 = (72 : Int32) then ((o_gR σ 5 1 (some t0)).bind fun t89 =>
  (o_rcv σ 7 t89).bind fun b92 =>
  (S_X7_add σ b92 ).bind fun q92 =>
  (o_rcv q92.2 4 q92.1).bind fun b97 =>
  (S_X4_fillControl q92.2 b97 (1 : Int32) (0 : Int32)).bind fun q97 =>
  (o_rcv q97 5 (some t0)).bind fun b102 =>
  (S_X5_begin q97 b102 (0 : Int32)).bind fun q102 =>
  S_X5_doAsMaster_116 q102)
  else if q11 = (78 : Int32) then (S_X5_doAsMaster_64 σ t0)
  else if q11 = (84 : Int32) then ((o_pI σ 5 5 (some t0) (3 : Int32)).bind fun s110 =>
  S_X5_doAsMaster_116 s110)
  else if q11 = (89 : Int32) then ((o_rcv σ 5 (some t0)).bind fun b82 =>
  (S_X5_addFile σ b82 ).bind fun q82 =>
  S_X5_doAsMaster_116 q82)
  else (S_X5_doAsMaster_116 σ))
  else (some σ)
def S_X5_takeOffer_50 (σ : hp) : Option (hp) :=
  some σ
def S_X5_takeOffer (σ : hp) (t0 : Nat) (v1 : Int32) (v2 : Int32) : Option (hp) :=
  if v2 ≤ (100 : Int32) then ((o_gR σ 5 2 (some t0)).bind fun t8 =>
  (o_rcv σ 0 t8).bind fun b12 =>
  (S_X0_hasDone σ b12 v1).bind fun q12 =>
  if q12 = (0 : Int32) then ((o_gR σ 5 3 (some t0)).bind fun t32 =>
  (o_rcv σ 6 t32).bind fun b37 =>
  (S_X6_add σ b37 (89 : Int32)).bind fun q37 =>
  (o_gR q37.2 5 4 (some t0)).bind fun t42 =>
  (o_rcv q37.2 1 t42).bind fun b47 =>
  (S_X1_begin q37.2 b47 v1 v2).bind fun q47 =>
  S_X5_takeOffer_50 q47)
  else ((o_gR σ 5 3 (some t0)).bind fun t19 =>
  (o_rcv σ 6 t19).bind fun b24 =>
  (S_X6_add σ b24 (78 : Int32)).bind fun q24 =>
  S_X5_takeOffer_50 q24.2))
  else (some σ)
def S_X5_doAsSlave_119 (σ : hp) : Option (hp) :=
  some σ
def S_X5_doAsSlave_39 (σ : hp) (t0 : Nat) (v1 : Option Nat) (v2 : Int32) (v3 : Int32) : Option (hp) :=
  if v3 = (68 : Int32) then ((o_gR σ 5 4 (some t0)).bind fun t46 =>
  (o_gI σ 1 1 t46).bind fun t49 =>
  if t49 = (0 : Int32) then (S_X5_doAsSlave_119 σ)
  else ((o_gR σ 5 4 (some t0)).bind fun t56 =>
  (o_rcv σ 1 t56).bind fun b60 =>
  (S_X1_takePart σ b60 v1).bind fun q60 =>
  S_X5_doAsSlave_119 q60))
  else (if v3 = (72 : Int32) then (if v2 = (1 : Int32) then ((o_gR σ 5 2 (some t0)).bind fun t78 =>
  (o_rcv σ 0 t78).bind fun b81 =>
  (S_X0_jobsLeft σ b81 ).bind fun q81 =>
  if q81 = (0 : Int32) then ((o_gR σ 5 3 (some t0)).bind fun t88 =>
  (o_rcv σ 6 t88).bind fun b93 =>
  (S_X6_add σ b93 (72 : Int32)).bind fun q93 =>
  S_X5_doAsSlave_119 q93.2)
  else ((o_gR σ 5 3 (some t0)).bind fun t101 =>
  (o_rcv σ 6 t101).bind fun b106 =>
  (S_X6_add σ b106 (84 : Int32)).bind fun q106 =>
  (o_pI q106.2 5 5 (some t0) (2 : Int32)).bind fun s112 =>
  (o_rcv s112 5 (some t0)).bind fun b116 =>
  (S_X5_goOn s112 b116 ).bind fun q116 =>
  S_X5_doAsSlave_119 q116))
  else (S_X5_doAsSlave_119 σ))
  else (S_X5_doAsSlave_119 σ))
def S_X5_doAsSlave (σ : hp) (t0 : Nat) (v1 : Option Nat) : Option (hp) :=
  (o_rcv σ 4 v1).bind fun b1 =>
  (S_X4_messageLength σ b1 ).bind fun q1 =>
  (o_rcv σ 4 v1).bind fun b7 =>
  (S_X4_messageByte σ b7 (0 : Int32)).bind fun q7 =>
  if q7 = (83 : Int32) then (if q1 = (3 : Int32) then ((o_rcv σ 4 v1).bind fun b25 =>
  (S_X4_messageByte σ b25 (1 : Int32)).bind fun q25 =>
  (o_rcv σ 4 v1).bind fun b30 =>
  (S_X4_messageByte σ b30 (2 : Int32)).bind fun q30 =>
  (o_rcv σ 5 (some t0)).bind fun b33 =>
  (S_X5_takeOffer σ b33 q25 q30).bind fun q33 =>
  S_X5_doAsSlave_119 q33)
  else (S_X5_doAsSlave_39 σ t0 v1 q1 q7))
  else (S_X5_doAsSlave_39 σ t0 v1 q1 q7)
def S_X5_executeWhatIsWhole_41 (σ : hp) : Option (hp) :=
  some σ
def S_X5_executeWhatIsWhole_21 (σ : hp) (t0 : Nat) (w0 : Option Nat) (w1 : Option Nat) : Option (hp) :=
  (o_rcv σ 0 w0).bind fun b21 =>
  (S_X0_addDone σ b21 w1).bind fun q21 =>
  (o_gR q21 5 4 (some t0)).bind fun t25 =>
  (o_rcv q21 1 t25).bind fun b28 =>
  (S_X1_forget q21 b28 ).bind fun q28 =>
  (o_gR q28 5 3 (some t0)).bind fun t32 =>
  (o_rcv q28 6 t32).bind fun b37 =>
  (S_X6_add q28 b37 (67 : Int32)).bind fun q37 =>
  S_X5_executeWhatIsWhole_41 q37.2
def S_X5_executeWhatIsWhole (σ : hp) (t0 : Nat) : Option (hp) :=
  (o_gR σ 5 4 (some t0)).bind fun t1 =>
  (o_rcv σ 1 t1).bind fun b4 =>
  (S_X1_isWhole σ b4 ).bind fun q4 =>
  if q4 = (0 : Int32) then (S_X5_executeWhatIsWhole_41 σ)
  else ((o_gR σ 5 2 (some t0)).bind fun t11 =>
  (o_gR σ 5 4 (some t0)).bind fun t15 =>
  (o_rcv σ 1 t15).bind fun b18 =>
  (S_X1_job σ b18 ).bind fun q18 =>
  S_X5_executeWhatIsWhole_21 q18.2 t0 t11 q18.1)
def S_X5_takeData_104 (σ : hp) : Option (hp) :=
  some σ
def S_X5_takeData (σ : hp) (t0 : Nat) (v1 : Option Nat) : Option (hp) :=
  (o_rcv σ 4 v1).bind fun b2 =>
  (S_X4_y σ b2 ).bind fun q2 =>
  (o_rcv σ 5 (some t0)).bind fun b5 =>
  (S_X5_takeAcknowledgement σ b5 q2).bind fun q5 =>
  (o_gR q5 5 3 (some t0)).bind fun t10 =>
  (o_rcv q5 6 t10).bind fun b13 =>
  (S_X6_letOut q5 b13 ).bind fun q13 =>
  (o_rcv q13.2 5 (some t0)).bind fun b16 =>
  (S_X5_sendOutFrom q13.2 b16 q13.1).bind fun q16 =>
  (o_rcv q16 4 v1).bind fun b20 =>
  (S_X4_x q16 b20 ).bind fun q20 =>
  (o_gI q16 5 8 (some t0)).bind fun t24 =>
  if q20 = ((t24 + (1 : Int32)) &&& (7 : Int32)) then ((o_rcv q16 4 v1).bind fun b53 =>
  (S_X4_x q16 b53 ).bind fun q53 =>
  (o_pI q16 5 8 (some t0) q53).bind fun s56 =>
  (o_z (1 : Int32)).bind fun z61 =>
  (o_pI s56 5 9 (some t0) z61).bind fun s61 =>
  (o_gR s61 5 1 (some t0)).bind fun t65 =>
  (o_rcv s61 7 t65).bind fun b68 =>
  (S_X7_add s61 b68 ).bind fun q68 =>
  (o_gI q68.2 5 8 (some t0)).bind fun t73 =>
  (o_rcv q68.2 4 q68.1).bind fun b76 =>
  (S_X4_fillControl q68.2 b76 (4 : Int32) t73).bind fun q76 =>
  (o_gI q76 5 5 (some t0)).bind fun t80 =>
  if t80 = (2 : Int32) then ((o_rcv q76 5 (some t0)).bind fun b89 =>
  (S_X5_doAsMaster q76 b89 v1).bind fun q89 =>
  S_X5_takeData_104 q89)
  else ((o_rcv q76 5 (some t0)).bind fun b97 =>
  (S_X5_doAsSlave q76 b97 v1).bind fun q97 =>
  (o_rcv q97 5 (some t0)).bind fun b101 =>
  (S_X5_executeWhatIsWhole q97 b101 ).bind fun q101 =>
  S_X5_takeData_104 q101))
  else ((o_gR q16 5 1 (some t0)).bind fun t36 =>
  (o_rcv q16 7 t36).bind fun b39 =>
  (S_X7_add q16 b39 ).bind fun q39 =>
  (o_gI q39.2 5 8 (some t0)).bind fun t44 =>
  (o_rcv q39.2 4 q39.1).bind fun b47 =>
  (S_X4_fillControl q39.2 b47 (4 : Int32) t44).bind fun q47 =>
  some q47)
def S_X5_takeInit_58 (σ : hp) : Option (hp) :=
  some σ
def S_X5_takeInit_49 (σ : hp) (t0 : Nat) (v1 : Int32) (v2 : Int32) (w0 : Int32) : Option (hp) :=
  if v2 = (0 : Int32) then (if w0 = (0 : Int32) then ((o_rcv σ 5 (some t0)).bind fun b61 =>
  (S_X5_begin σ b61 (3 : Int32)).bind fun q61 =>
  (o_pI q61 5 7 (some t0) v1).bind fun s66 =>
  (o_gR s66 5 1 (some t0)).bind fun t70 =>
  (o_rcv s66 7 t70).bind fun b73 =>
  (S_X7_add s66 b73 ).bind fun q73 =>
  (o_rcv q73.2 4 q73.1).bind fun b78 =>
  (S_X4_fillControl q73.2 b78 (5 : Int32) v1).bind fun q78 =>
  some q78)
  else (S_X5_takeInit_58 σ))
  else (S_X5_takeInit_58 σ)
def S_X5_takeInit_48 (σ : hp) (t0 : Nat) (v1 : Int32) (v2 : Int32) : Option (hp) :=
  S_X5_takeInit_49 σ t0 v1 v2 (0 : Int32)
def S_X5_takeInit_20 (σ : hp) (t0 : Nat) (v1 : Int32) (w0 : Int32) : Option (hp) :=
  (o_gI σ 5 5 (some t0)).bind fun t22 =>
  if t22 = (3 : Int32) then ((o_gI σ 5 7 (some t0)).bind fun t30 =>
  if t30 = v1 then ((o_gI σ 5 9 (some t0)).bind fun t38 =>
  if t38 = (0 : Int32) then (S_X5_takeInit_48 σ t0 v1 w0)
  else (S_X5_takeInit_49 σ t0 v1 w0 (1 : Int32)))
  else (S_X5_takeInit_48 σ t0 v1 w0))
  else (S_X5_takeInit_48 σ t0 v1 w0)
def S_X5_takeInit_19 (σ : hp) (t0 : Nat) (v1 : Int32) : Option (hp) :=
  S_X5_takeInit_20 σ t0 v1 (0 : Int32)
def S_X5_takeInit (σ : hp) (t0 : Nat) (v1 : Int32) : Option (hp) :=
  (o_gI σ 5 0 (some t0)).bind fun t1 =>
  if t1 = (0 : Int32) then ((o_gI σ 5 5 (some t0)).bind fun t8 =>
  if t8 = (1 : Int32) then (S_X5_takeInit_20 σ t0 v1 (1 : Int32))
  else (S_X5_takeInit_19 σ t0 v1))
  else (S_X5_takeInit_19 σ t0 v1)
def S_X5_takeAnswer_25 (σ : hp) : Option (hp) :=
  some σ
def S_X5_takeAnswer (σ : hp) (t0 : Nat) (v1 : Int32) : Option (hp) :=
  (o_gI σ 5 5 (some t0)).bind fun t1 =>
  if t1 = (1 : Int32) then ((o_gI σ 5 6 (some t0)).bind fun t9 =>
  if t9 = v1 then ((o_rcv σ 5 (some t0)).bind fun b18 =>
  (S_X5_begin σ b18 (2 : Int32)).bind fun q18 =>
  (o_rcv q18 5 (some t0)).bind fun b22 =>
  (S_X5_goOn q18 b22 ).bind fun q22 =>
  S_X5_takeAnswer_25 q22)
  else (S_X5_takeAnswer_25 σ))
  else (S_X5_takeAnswer_25 σ)
def S_X5_takeControl_31 (σ : hp) : Option (hp) :=
  some σ
def S_X5_takeControl (σ : hp) (t0 : Nat) (v1 : Int32) (v2 : Int32) : Option (hp) :=
  if v1 = (1 : Int32) then ((o_rcv σ 5 (some t0)).bind fun b7 =>
  (S_X5_begin σ b7 (0 : Int32)).bind fun q7 =>
  some q7)
  else ((o_rcv σ 5 (some t0)).bind fun b13 =>
  (S_X5_takeAcknowledgement σ b13 v2).bind fun q13 =>
  if v1 = (2 : Int32) then ((o_pI q13 5 10 (some t0) (0 : Int32)).bind fun s23 =>
  (o_rcv s23 5 (some t0)).bind fun b28 =>
  (S_X5_sendOutFrom s23 b28 (0 : Int32)).bind fun q28 =>
  S_X5_takeControl_31 q28)
  else (S_X5_takeControl_31 q13))
def S_X5_receive_29 (σ : hp) : Option (Int32 × hp) :=
  some ((0 : Int32), σ)
def S_X5_receive_112 (σ : hp) (t0 : Nat) : Option (Int32 × hp) :=
  (o_gR σ 5 3 (some t0)).bind fun t114 =>
  (o_rcv σ 6 t114).bind fun b117 =>
  (S_X6_letOut σ b117 ).bind fun q117 =>
  (o_rcv q117.2 5 (some t0)).bind fun b120 =>
  (S_X5_sendOutFrom q117.2 b120 q117.1).bind fun q120 =>
  some ((1 : Int32), q120)
def S_X5_receive_60 (σ : hp) (t0 : Nat) : Option (Int32 × hp) :=
  S_X5_receive_112 σ t0
def S_X5_receive (σ : hp) (t0 : Nat) (v1 : Option Nat) : Option (Int32 × hp) :=
  (o_rcv σ 4 v1).bind fun b1 =>
  (S_X4_isGood σ b1 ).bind fun q1 =>
  if q1 = (0 : Int32) then ((o_rcv σ 5 (some t0)).bind fun b8 =>
  (S_X5_isOpen σ b8 ).bind fun q8 =>
  if q8 = (0 : Int32) then (S_X5_receive_29 σ)
  else ((o_gR σ 5 1 (some t0)).bind fun t15 =>
  (o_rcv σ 7 t15).bind fun b18 =>
  (S_X7_add σ b18 ).bind fun q18 =>
  (o_gI q18.2 5 8 (some t0)).bind fun t23 =>
  (o_rcv q18.2 4 q18.1).bind fun b26 =>
  (S_X4_fillControl q18.2 b26 (2 : Int32) t23).bind fun q26 =>
  S_X5_receive_29 q26))
  else ((o_pI σ 5 12 (some t0) (0 : Int32)).bind fun s33 =>
  (o_rcv s33 4 v1).bind fun b37 =>
  (S_X4_x s33 b37 ).bind fun q37 =>
  (o_rcv s33 4 v1).bind fun b42 =>
  (S_X4_isData s33 b42 ).bind fun q42 =>
  if q42 = (0 : Int32) then (if q37 = (7 : Int32) then ((o_rcv s33 4 v1).bind fun b71 =>
  (S_X4_y s33 b71 ).bind fun q71 =>
  (o_rcv s33 5 (some t0)).bind fun b74 =>
  (S_X5_takeInit s33 b74 q71).bind fun q74 =>
  S_X5_receive_112 q74 t0)
  else (if q37 = (5 : Int32) then ((o_rcv s33 4 v1).bind fun b87 =>
  (S_X4_y s33 b87 ).bind fun q87 =>
  (o_rcv s33 5 (some t0)).bind fun b90 =>
  (S_X5_takeAnswer s33 b90 q87).bind fun q90 =>
  S_X5_receive_112 q90 t0)
  else ((o_rcv s33 5 (some t0)).bind fun b97 =>
  (S_X5_isOpen s33 b97 ).bind fun q97 =>
  if q97 = (0 : Int32) then (S_X5_receive_112 s33 t0)
  else ((o_rcv s33 4 v1).bind fun b106 =>
  (S_X4_y s33 b106 ).bind fun q106 =>
  (o_rcv s33 5 (some t0)).bind fun b109 =>
  (S_X5_takeControl s33 b109 q37 q106).bind fun q109 =>
  S_X5_receive_112 q109 t0))))
  else ((o_rcv s33 5 (some t0)).bind fun b49 =>
  (S_X5_isOpen s33 b49 ).bind fun q49 =>
  if q49 = (0 : Int32) then (S_X5_receive_112 s33 t0)
  else ((o_rcv s33 5 (some t0)).bind fun b57 =>
  (S_X5_takeData s33 b57 v1).bind fun q57 =>
  S_X5_receive_60 q57 t0)))
def S_X7_init_54 (rec36 : hp → Nat → Int32 → Option (hp)) (σ : hp) (t0 : Nat) (v1 : Int32) (w0 : Option Nat) (w1 : Int32) (w2 : Option Nat) : Option (hp) :=
  (o_stQ σ 3 4 w0 w1 w2).bind fun s54 =>
  rec36 s54 t0 (v1 + (1 : Int32))
def S_X7_init_50 (rec36 : hp → Nat → Int32 → Option (hp)) (σ : hp) (t0 : Nat) (v1 : Int32) (w0 : Option Nat) (w1 : Int32) (w2 : Option Nat) : Option (hp) :=
  (o_rcv σ 4 w2).bind fun b51 =>
  (S_X4_init σ b51 ).bind fun q51 =>
  S_X7_init_54 rec36 q51 t0 v1 w0 w1 w2
def S_X7_init_36_b (rec36 : hp → Nat → Int32 → Option (hp)) (σ : hp) (t0 : Nat) (v1 : Int32) : Option (hp) :=
  if (12 : Int32) ≤ v1 then (some σ)
  else ((o_gR σ 7 0 (some t0)).bind fun t43 =>
  (o_nw σ 4 2).bind fun q47 =>
  S_X7_init_50 rec36 q47.2 t0 v1 t43 v1 (some q47.1))
def S_X7_init_36 : Nat → hp → Nat → Int32 → Option (hp)
  | 0, _, _, _ => none
  | n + 1, σ, t0, v1 => S_X7_init_36_b (S_X7_init_36 n) σ t0 v1
def S_X7_init_31 (σ : hp) (t0 : Nat) (w0 : Option Nat) (w1 : Option Nat) : Option (hp) :=
  (o_pR σ 7 0 w0 w1).bind fun s31 =>
  S_X7_init_36 FU s31 t0 (0 : Int32)
def S_X7_init_12 (σ : hp) (t0 : Nat) (w0 : Option Nat) (w1 : Option Nat) : Option (hp) :=
  (o_pR σ 7 1 w0 w1).bind fun s12 =>
  (o_pI s12 7 2 (some t0) (0 : Int32)).bind fun s17 =>
  (o_pI s17 7 3 (some t0) (0 : Int32)).bind fun s22 =>
  (o_na s22 3 (12 : Int32)).bind fun q28 =>
  S_X7_init_31 q28.2 t0 (some t0) q28.1
def S_X7_init_8 (σ : hp) (t0 : Nat) (w0 : Option Nat) (w1 : Option Nat) : Option (hp) :=
  (o_rcv σ 4 w1).bind fun b9 =>
  (S_X4_init σ b9 ).bind fun q9 =>
  S_X7_init_12 q9 t0 w0 w1
def S_X7_init (σ : hp) (t0 : Nat) : Option (hp) :=
  (o_nw σ 4 2).bind fun q5 =>
  S_X7_init_8 q5.2 t0 (some t0) (some q5.1)
def S_X7_packet_30 (σ : hp) (w0 : Option Nat) : Option (Option Nat) :=
  some w0
def S_X7_packet_29 (σ : hp) : Option (Option Nat) :=
  S_X7_packet_30 σ none
def S_X7_packet (σ : hp) (t0 : Nat) (v1 : Int32) : Option (Option Nat) :=
  if v1 < (0 : Int32) then (S_X7_packet_29 σ)
  else ((o_gI σ 7 3 (some t0)).bind fun t6 =>
  if t6 ≤ v1 then (S_X7_packet_29 σ)
  else ((o_gR σ 7 0 (some t0)).bind fun t13 =>
  (o_gI σ 7 2 (some t0)).bind fun t17 =>
  (o_ldQ σ 3 t13 ((t17 + v1) - (t17 + v1) / (12 : Int32) * (12 : Int32))).bind fun t25 =>
  S_X7_packet_30 σ t25))
def S_X7_dropFirst_30 (σ : hp) : Option (hp) :=
  some σ
def S_X7_dropFirst (σ : hp) (t0 : Nat) : Option (hp) :=
  (o_gI σ 7 3 (some t0)).bind fun t1 =>
  if t1 ≤ (0 : Int32) then (S_X7_dropFirst_30 σ)
  else ((o_gI σ 7 2 (some t0)).bind fun t9 =>
  (o_pI σ 7 2 (some t0) ((t9 + (1 : Int32)) - (t9 + (1 : Int32)) / (12 : Int32) * (12 : Int32))).bind fun s17 =>
  (o_gI s17 7 3 (some t0)).bind fun t22 =>
  (o_pI s17 7 3 (some t0) (t22 - (1 : Int32))).bind fun s27 =>
  S_X7_dropFirst_30 s27)
def S_X7_clear (σ : hp) (t0 : Nat) : Option (hp) :=
  (o_pI σ 7 3 (some t0) (0 : Int32)).bind fun s2 =>
  some s2
def S_X8_init_79 (σ : hp) (t0 : Nat) (w0 : Option Nat) (w1 : Option Nat) : Option (hp) :=
  (o_pR σ 8 2 w0 w1).bind fun s79 =>
  (o_pI s79 8 3 (some t0) (0 : Int32)).bind fun s84 =>
  some s84
def S_X8_init_70 (σ : hp) (t0 : Nat) (w0 : Option Nat) (w1 : Option Nat) (w2 : Option Nat) (w3 : Int32) (w4 : Option Nat) : Option (hp) :=
  (o_stQ σ 4 5 w2 w3 w4).bind fun s70 =>
  (o_pR s70 8 1 w0 w1).bind fun s71 =>
  (o_na s71 0 (100 : Int32)).bind fun q77 =>
  S_X8_init_79 q77.2 t0 (some t0) q77.1
def S_X8_init_59 (σ : hp) (t0 : Nat) (w0 : Option Nat) (w1 : Option Nat) (w2 : Option Nat) (w3 : Int32) (w4 : Option Nat) : Option (hp) :=
  (o_gR σ 8 0 (some t0)).bind fun t62 =>
  (o_ldQ σ 2 t62 (1 : Int32)).bind fun t66 =>
  (o_rcv σ 5 w4).bind fun b67 =>
  (S_X5_init σ b67 (1 : Int32) t66).bind fun q67 =>
  S_X8_init_70 q67 t0 w0 w1 w2 w3 w4
def S_X8_init_53 (σ : hp) (t0 : Nat) (w0 : Option Nat) (w1 : Option Nat) (w2 : Option Nat) (w3 : Int32) (w4 : Option Nat) : Option (hp) :=
  (o_stQ σ 4 5 w2 w3 w4).bind fun s53 =>
  (o_nw s53 5 13).bind fun q56 =>
  S_X8_init_59 q56.2 t0 w0 w1 w1 (1 : Int32) (some q56.1)
def S_X8_init_42 (σ : hp) (t0 : Nat) (w0 : Option Nat) (w1 : Option Nat) (w2 : Option Nat) (w3 : Int32) (w4 : Option Nat) : Option (hp) :=
  (o_gR σ 8 0 (some t0)).bind fun t45 =>
  (o_ldQ σ 2 t45 (0 : Int32)).bind fun t49 =>
  (o_rcv σ 5 w4).bind fun b50 =>
  (S_X5_init σ b50 (0 : Int32) t49).bind fun q50 =>
  S_X8_init_53 q50 t0 w0 w1 w2 w3 w4
def S_X8_init_37 (σ : hp) (t0 : Nat) (w0 : Option Nat) (w1 : Option Nat) : Option (hp) :=
  (o_nw σ 5 13).bind fun q39 =>
  S_X8_init_42 q39.2 t0 w0 w1 w1 (0 : Int32) (some q39.1)
def S_X8_init_28 (σ : hp) (t0 : Nat) (w0 : Option Nat) (w1 : Option Nat) (w2 : Option Nat) (w3 : Int32) (w4 : Option Nat) : Option (hp) :=
  (o_stQ σ 2 7 w2 w3 w4).bind fun s28 =>
  (o_pR s28 8 0 w0 w1).bind fun s29 =>
  (o_na s29 4 (2 : Int32)).bind fun q34 =>
  S_X8_init_37 q34.2 t0 (some t0) q34.1
def S_X8_init_24 (σ : hp) (t0 : Nat) (w0 : Option Nat) (w1 : Option Nat) (w2 : Option Nat) (w3 : Int32) (w4 : Option Nat) : Option (hp) :=
  (o_rcv σ 7 w4).bind fun b25 =>
  (S_X7_init σ b25 ).bind fun q25 =>
  S_X8_init_28 q25 t0 w0 w1 w2 w3 w4
def S_X8_init_18 (σ : hp) (t0 : Nat) (w0 : Option Nat) (w1 : Option Nat) (w2 : Option Nat) (w3 : Int32) (w4 : Option Nat) : Option (hp) :=
  (o_stQ σ 2 7 w2 w3 w4).bind fun s18 =>
  (o_nw s18 7 4).bind fun q21 =>
  S_X8_init_24 q21.2 t0 w0 w1 w1 (1 : Int32) (some q21.1)
def S_X8_init_14 (σ : hp) (t0 : Nat) (w0 : Option Nat) (w1 : Option Nat) (w2 : Option Nat) (w3 : Int32) (w4 : Option Nat) : Option (hp) :=
  (o_rcv σ 7 w4).bind fun b15 =>
  (S_X7_init σ b15 ).bind fun q15 =>
  S_X8_init_18 q15 t0 w0 w1 w2 w3 w4
def S_X8_init_9 (σ : hp) (t0 : Nat) (w0 : Option Nat) (w1 : Option Nat) : Option (hp) :=
  (o_nw σ 7 4).bind fun q11 =>
  S_X8_init_14 q11.2 t0 w0 w1 w1 (0 : Int32) (some q11.1)
def S_X8_init (σ : hp) (t0 : Nat) : Option (hp) :=
  (o_na σ 2 (2 : Int32)).bind fun q6 =>
  S_X8_init_9 q6.2 t0 (some t0) q6.1
def S_X8_put_20 (σ : hp) : Option (Int32 × hp) :=
  some ((-1 : Int32), σ)
def S_X8_put (σ : hp) (t0 : Nat) (v1 : Int32) : Option (Int32 × hp) :=
  if v1 < (0 : Int32) then (S_X8_put_20 σ)
  else (if (255 : Int32) < v1 then (S_X8_put_20 σ)
  else ((o_gI σ 8 3 (some t0)).bind fun t12 =>
  if t12 < (100 : Int32) then ((o_gR σ 8 2 (some t0)).bind fun t23 =>
  (o_gI σ 8 3 (some t0)).bind fun t27 =>
  (o_stI σ 0 t23 t27 v1).bind fun s31 =>
  (o_gI s31 8 3 (some t0)).bind fun t34 =>
  (o_pI s31 8 3 (some t0) (t34 + (1 : Int32))).bind fun s39 =>
  (o_gI s39 8 3 (some t0)).bind fun t43 =>
  some (t43, s39))
  else (S_X8_put_20 σ)))
def S_X8_isSite_14 (σ : hp) (w0 : Int32) : Option (Int32) :=
  (o_z w0).bind fun z14 =>
  some z14
def S_X8_isSite_9 (σ : hp) : Option (Int32) :=
  S_X8_isSite_14 σ (1 : Int32)
def S_X8_isSite (σ : hp) (v0 : Int32) : Option (Int32) :=
  if v0 = (0 : Int32) then (S_X8_isSite_9 σ)
  else (if v0 = (1 : Int32) then (S_X8_isSite_9 σ)
  else (S_X8_isSite_14 σ (0 : Int32)))
def S_X8_queue_40 (σ : hp) (v2 : Int32) : Option (Int32 × hp) :=
  some (v2, σ)
def S_X8_queue_29 (σ : hp) (t0 : Nat) (w0 : Int32) : Option (Int32 × hp) :=
  if w0 = (-1 : Int32) then (S_X8_queue_40 σ w0)
  else ((o_pI σ 8 3 (some t0) (0 : Int32)).bind fun s37 =>
  S_X8_queue_40 s37 w0)
def S_X8_queue (σ : hp) (t0 : Nat) (v1 : Int32) : Option (Int32 × hp) :=
  (S_X8_isSite σ v1).bind fun q1 =>
  if q1 = (0 : Int32) then (some ((-1 : Int32), σ))
  else ((o_gR σ 8 1 (some t0)).bind fun t10 =>
  (o_ldQ σ 4 t10 v1).bind fun t14 =>
  (o_gR σ 5 2 t14).bind fun t15 =>
  (o_gR σ 8 2 (some t0)).bind fun t19 =>
  (o_gI σ 8 3 (some t0)).bind fun t23 =>
  (o_rcv σ 0 t15).bind fun b26 =>
  (S_X0_addJob σ b26 t19 t23).bind fun q26 =>
  S_X8_queue_29 q26.2 t0 q26.1)
def S_X8_call_19 (σ : hp) : Option (Int32 × hp) :=
  some ((0 : Int32), σ)
def S_X8_call (σ : hp) (t0 : Nat) (v1 : Int32) : Option (Int32 × hp) :=
  (S_X8_isSite σ v1).bind fun q1 =>
  if q1 = (0 : Int32) then (S_X8_call_19 σ)
  else ((o_gR σ 8 1 (some t0)).bind fun t8 =>
  (o_ldQ σ 4 t8 v1).bind fun t12 =>
  (o_gI σ 5 5 t12).bind fun t13 =>
  if t13 = (0 : Int32) then ((o_gR σ 8 0 (some t0)).bind fun t22 =>
  (o_ldQ σ 2 t22 (0 : Int32)).bind fun t26 =>
  (o_rcv σ 7 t26).bind fun b27 =>
  (S_X7_clear σ b27 ).bind fun q27 =>
  (o_gR q27 8 0 (some t0)).bind fun t31 =>
  (o_ldQ q27 2 t31 (1 : Int32)).bind fun t35 =>
  (o_rcv q27 7 t35).bind fun b36 =>
  (S_X7_clear q27 b36 ).bind fun q36 =>
  (o_gR q36 8 1 (some t0)).bind fun t40 =>
  (o_ldQ q36 4 t40 v1).bind fun t44 =>
  (o_rcv q36 5 t44).bind fun b45 =>
  (S_X5_beginCall q36 b45 ).bind fun q45 =>
  some ((1 : Int32), q45))
  else (S_X8_call_19 σ))
def S_X8_handOver_46 (σ : hp) (w0 : Int32) : Option (Int32 × hp) :=
  some (w0, σ)
def S_X8_handOver_38 (σ : hp) (w0 : Int32) : Option (Int32 × hp) :=
  if w0 = (0 : Int32) then (S_X8_handOver_46 σ (0 : Int32))
  else (S_X8_handOver_46 σ (1 : Int32))
def S_X8_handOver (σ : hp) (t0 : Nat) (v1 : Int32) : Option (Int32 × hp) :=
  (o_gR σ 8 0 (some t0)).bind fun t1 =>
  (o_ldQ σ 2 t1 v1).bind fun t5 =>
  (o_rcv σ 7 t5).bind fun b7 =>
  (S_X7_packet σ b7 (0 : Int32)).bind fun q7 =>
  if q7 = none then (some ((-1 : Int32), σ))
  else ((o_gR σ 8 0 (some t0)).bind fun t18 =>
  (o_ldQ σ 2 t18 v1).bind fun t22 =>
  (o_rcv σ 7 t22).bind fun b23 =>
  (S_X7_dropFirst σ b23 ).bind fun q23 =>
  (o_gR q23 8 1 (some t0)).bind fun t27 =>
  (o_ldQ q23 4 t27 ((1 : Int32) - v1)).bind fun t33 =>
  (o_rcv q23 5 t33).bind fun b35 =>
  (S_X5_receive q23 b35 q7).bind fun q35 =>
  S_X8_handOver_38 q35.2 q35.1)
def S_X8_deliver_16 (σ : hp) (w0 : Int32) : Option (Int32 × hp) :=
  some (w0, σ)
def S_X8_deliver_12 (σ : hp) (w0 : Int32) : Option (Int32 × hp) :=
  S_X8_deliver_16 σ w0
def S_X8_deliver (σ : hp) (t0 : Nat) (v1 : Int32) : Option (Int32 × hp) :=
  (S_X8_isSite σ v1).bind fun q1 =>
  if q1 = (0 : Int32) then (S_X8_deliver_16 σ (-1 : Int32))
  else ((o_rcv σ 8 (some t0)).bind fun b9 =>
  (S_X8_handOver σ b9 v1).bind fun q9 =>
  S_X8_deliver_12 q9.2 q9.1)
def S_X8_packetOn_21 (σ : hp) (w0 : Option Nat) : Option (Option Nat) :=
  some w0
def S_X8_packetOn (σ : hp) (t0 : Nat) (v1 : Int32) (v2 : Int32) : Option (Option Nat) :=
  (S_X8_isSite σ v1).bind fun q1 =>
  if q1 = (0 : Int32) then (S_X8_packetOn_21 σ none)
  else ((o_gR σ 8 0 (some t0)).bind fun t8 =>
  (o_ldQ σ 2 t8 v1).bind fun t12 =>
  (o_rcv σ 7 t12).bind fun b14 =>
  (S_X7_packet σ b14 v2).bind fun q14 =>
  S_X8_packetOn_21 σ q14)
def S_X8_lose (σ : hp) (t0 : Nat) (v1 : Int32) : Option (Int32 × hp) :=
  (o_rcv σ 8 (some t0)).bind fun b3 =>
  (S_X8_packetOn σ b3 v1 (0 : Int32)).bind fun q3 =>
  if q3 = none then (some ((0 : Int32), σ))
  else ((o_gR σ 8 0 (some t0)).bind fun t12 =>
  (o_ldQ σ 2 t12 v1).bind fun t16 =>
  (o_rcv σ 7 t16).bind fun b17 =>
  (S_X7_dropFirst σ b17 ).bind fun q17 =>
  some ((1 : Int32), q17))
def S_X8_alter_38 (σ : hp) : Option (Int32 × hp) :=
  some ((0 : Int32), σ)
def S_X8_alter (σ : hp) (t0 : Nat) (v1 : Int32) (v2 : Int32) (v3 : Int32) : Option (Int32 × hp) :=
  (o_rcv σ 8 (some t0)).bind fun b3 =>
  (S_X8_packetOn σ b3 v1 (0 : Int32)).bind fun q3 =>
  if q3 = none then (S_X8_alter_38 σ)
  else (if v2 < (0 : Int32) then (S_X8_alter_38 σ)
  else ((o_gI σ 4 1 q3).bind fun t20 =>
  if t20 ≤ v2 then (S_X8_alter_38 σ)
  else (if v3 < (1 : Int32) then (S_X8_alter_38 σ)
  else (if v3 ≤ (255 : Int32) then ((o_gR σ 4 0 q3).bind fun t42 =>
  (o_ldI σ 0 t42 v2).bind fun t47 =>
  (o_stI σ 0 t42 v2 (t47 ^^^ v3)).bind fun s50 =>
  some ((1 : Int32), s50))
  else (S_X8_alter_38 σ)))))
def S_X8_tick (σ : hp) (t0 : Nat) : Option (Int32 × hp) :=
  (o_gR σ 8 1 (some t0)).bind fun t1 =>
  (o_ldQ σ 4 t1 (0 : Int32)).bind fun t5 =>
  (o_rcv σ 5 t5).bind fun b6 =>
  (S_X5_passTick σ b6 ).bind fun q6 =>
  (o_gR q6.2 8 1 (some t0)).bind fun t11 =>
  (o_ldQ q6.2 4 t11 (1 : Int32)).bind fun t15 =>
  (o_rcv q6.2 5 t15).bind fun b16 =>
  (S_X5_passTick q6.2 b16 ).bind fun q16 =>
  some ((q6.1 + q16.1), q16.2)
def S_X8_crash (σ : hp) (t0 : Nat) (v1 : Int32) : Option (Int32 × hp) :=
  (S_X8_isSite σ v1).bind fun q1 =>
  if q1 = (0 : Int32) then (some ((0 : Int32), σ))
  else ((o_gR σ 8 1 (some t0)).bind fun t10 =>
  (o_ldQ σ 4 t10 v1).bind fun t14 =>
  (o_rcv σ 5 t14).bind fun b16 =>
  (S_X5_begin σ b16 (0 : Int32)).bind fun q16 =>
  some ((1 : Int32), q16))
def S_X8_settle_12 (σ : hp) : Option (Int32 × hp) :=
  some ((-1 : Int32), σ)
def S_X8_settle_50 (rec18 : hp → Nat → Int32 → Int32 → Int32 → Option (Int32 × hp)) (σ : hp) (t0 : Nat) (v1 : Int32) (v3 : Int32) (v4 : Int32) (w0 : Int32) : Option (Int32 × hp) :=
  if w0 = (-1 : Int32) then (some (v3, σ))
  else (rec18 σ t0 v1 ((1 : Int32) - v4) (v3 + (1 : Int32)))
def S_X8_settle_42 (rec18 : hp → Nat → Int32 → Int32 → Int32 → Option (Int32 × hp)) (σ : hp) (t0 : Nat) (v1 : Int32) (v3 : Int32) (w0 : Int32) : Option (Int32 × hp) :=
  (o_rcv σ 8 (some t0)).bind fun b47 =>
  (S_X8_handOver σ b47 w0).bind fun q47 =>
  S_X8_settle_50 rec18 q47.2 t0 v1 v3 w0 q47.1
def S_X8_settle_18_b (rec18 : hp → Nat → Int32 → Int32 → Int32 → Option (Int32 × hp)) (σ : hp) (t0 : Nat) (v1 : Int32) (v2 : Int32) (v3 : Int32) : Option (Int32 × hp) :=
  if v1 ≤ v3 then (some (v1, σ))
  else ((o_gR σ 8 0 (some t0)).bind fun t24 =>
  (o_ldQ σ 2 t24 v2).bind fun t28 =>
  (o_gI σ 7 3 t28).bind fun t29 =>
  if t29 ≤ (0 : Int32) then (S_X8_settle_42 rec18 σ t0 v1 v3 ((1 : Int32) - v2))
  else (S_X8_settle_42 rec18 σ t0 v1 v3 v2))
def S_X8_settle_18 : Nat → hp → Nat → Int32 → Int32 → Int32 → Option (Int32 × hp)
  | 0, _, _, _, _, _ => none
  | n + 1, σ, t0, v1, v2, v3 => S_X8_settle_18_b (S_X8_settle_18 n) σ t0 v1 v2 v3
def S_X8_settle (σ : hp) (t0 : Nat) (v1 : Int32) : Option (Int32 × hp) :=
  if v1 < (1 : Int32) then (S_X8_settle_12 σ)
  else (if v1 ≤ (200 : Int32) then (S_X8_settle_18 FU σ t0 v1 (0 : Int32) (0 : Int32))
  else (S_X8_settle_12 σ))
def S_X8_waiting_20 (σ : hp) (w0 : Int32) : Option (Int32) :=
  some w0
def S_X8_waiting (σ : hp) (t0 : Nat) (v1 : Int32) : Option (Int32) :=
  (S_X8_isSite σ v1).bind fun q1 =>
  if q1 = (0 : Int32) then (S_X8_waiting_20 σ (-1 : Int32))
  else ((o_gR σ 8 0 (some t0)).bind fun t8 =>
  (o_ldQ σ 2 t8 v1).bind fun t12 =>
  (o_gI σ 7 3 t12).bind fun t13 =>
  S_X8_waiting_20 σ t13)
def S_X8_look_26 (σ : hp) : Option (Int32) :=
  some (-1 : Int32)
def S_X8_look (σ : hp) (t0 : Nat) (v1 : Int32) (v2 : Int32) (v3 : Int32) : Option (Int32) :=
  (o_rcv σ 8 (some t0)).bind fun b3 =>
  (S_X8_packetOn σ b3 v1 v2).bind fun q3 =>
  if q3 = none then (S_X8_look_26 σ)
  else (if v3 < (0 : Int32) then (S_X8_look_26 σ)
  else ((o_gI σ 4 1 q3).bind fun t20 =>
  if v3 < t20 then ((o_gR σ 4 0 q3).bind fun t30 =>
  (o_ldI σ 0 t30 v3).bind fun t34 =>
  some t34)
  else (S_X8_look_26 σ)))
def S_X8_told (σ : hp) (t0 : Nat) (v1 : Int32) (v2 : Int32) : Option (Int32) :=
  (S_X8_isSite σ v1).bind fun q1 =>
  if q1 = (0 : Int32) then (some (-1 : Int32))
  else ((o_gR σ 8 1 (some t0)).bind fun t10 =>
  (o_ldQ σ 4 t10 v1).bind fun t14 =>
  if v2 = (0 : Int32) then ((o_gR σ 5 2 t14).bind fun t57 =>
  (o_rcv σ 0 t57).bind fun b60 =>
  (S_X0_jobsLeft σ b60 ).bind fun q60 =>
  some q60)
  else if v2 = (1 : Int32) then ((o_gR σ 5 2 t14).bind fun t65 =>
  (o_gI σ 0 4 t65).bind fun t68 =>
  some t68)
  else if v2 = (2 : Int32) then ((o_gI σ 5 5 t14).bind fun t73 =>
  some t73)
  else if v2 = (3 : Int32) then ((o_gR σ 5 3 t14).bind fun t78 =>
  (o_gI σ 6 3 t78).bind fun t81 =>
  some t81)
  else if v2 = (4 : Int32) then ((o_gR σ 5 3 t14).bind fun t86 =>
  (o_gI σ 6 4 t86).bind fun t89 =>
  some t89)
  else if v2 = (5 : Int32) then ((o_gR σ 5 2 t14).bind fun t94 =>
  (o_gI σ 0 5 t94).bind fun t97 =>
  some t97)
  else (some (-1 : Int32)))
def S_X8_queued_27 (σ : hp) : Option (Int32) :=
  some (-1 : Int32)
def S_X8_queued (σ : hp) (t0 : Nat) (v1 : Int32) (v2 : Int32) : Option (Int32) :=
  (S_X8_isSite σ v1).bind fun q1 =>
  if q1 = (0 : Int32) then (S_X8_queued_27 σ)
  else (if v2 < (0 : Int32) then (S_X8_queued_27 σ)
  else ((o_gR σ 8 1 (some t0)).bind fun t13 =>
  (o_ldQ σ 4 t13 v1).bind fun t17 =>
  (o_gR σ 5 2 t17).bind fun t18 =>
  (o_rcv σ 0 t18).bind fun b21 =>
  (S_X0_jobsLeft σ b21 ).bind fun q21 =>
  if v2 < q21 then ((o_gR σ 8 1 (some t0)).bind fun t30 =>
  (o_ldQ σ 4 t30 v1).bind fun t34 =>
  (o_gR σ 5 2 t34).bind fun t35 =>
  (o_gI σ 0 1 t35).bind fun t38 =>
  some (t38 + v2))
  else (S_X8_queued_27 σ)))
def S_X8_doneJob_24 (σ : hp) (w0 : Option Nat) : Option (Option Nat) :=
  some w0
def S_X8_doneJob (σ : hp) (t0 : Nat) (v1 : Int32) (v2 : Int32) : Option (Option Nat) :=
  (S_X8_isSite σ v1).bind fun q1 =>
  if q1 = (0 : Int32) then (S_X8_doneJob_24 σ none)
  else ((o_gR σ 8 1 (some t0)).bind fun t8 =>
  (o_ldQ σ 4 t8 v1).bind fun t12 =>
  (o_gR σ 5 2 t12).bind fun t13 =>
  (o_rcv σ 0 t13).bind fun b17 =>
  (S_X0_doneJob σ b17 v2).bind fun q17 =>
  S_X8_doneJob_24 σ q17)
def S_X8_executed_19 (σ : hp) (w0 : Int32) : Option (Int32) :=
  some w0
def S_X8_executed (σ : hp) (t0 : Nat) (v1 : Int32) (v2 : Int32) : Option (Int32) :=
  (o_rcv σ 8 (some t0)).bind fun b3 =>
  (S_X8_doneJob σ b3 v1 v2).bind fun q3 =>
  if q3 = none then (S_X8_executed_19 σ (-1 : Int32))
  else ((o_gI σ 2 0 q3).bind fun t16 =>
  S_X8_executed_19 σ t16)
def S_X8_file_27 (σ : hp) : Option (Int32) :=
  some (-1 : Int32)
def S_X8_file (σ : hp) (t0 : Nat) (v1 : Int32) (v2 : Int32) (v3 : Int32) : Option (Int32) :=
  (o_rcv σ 8 (some t0)).bind fun b3 =>
  (S_X8_doneJob σ b3 v1 v2).bind fun q3 =>
  if q3 = none then (S_X8_file_27 σ)
  else (if v3 < (0 : Int32) then (S_X8_file_27 σ)
  else ((o_gR σ 2 1 q3).bind fun t20 =>
  (o_len σ 0 t20).bind fun t23 =>
  if v3 < t23 then ((o_gR σ 2 1 q3).bind fun t31 =>
  (o_ldI σ 0 t31 v3).bind fun t35 =>
  some t35)
  else (S_X8_file_27 σ)))
def S_X8_times_27 (σ : hp) : Option (Int32) :=
  some (-1 : Int32)
def S_X8_times_52 (σ : hp) (w0 : Int32) : Option (Int32) :=
  some w0
def S_X8_times (σ : hp) (t0 : Nat) (v1 : Int32) (v2 : Int32) : Option (Int32) :=
  (S_X8_isSite σ v1).bind fun q1 =>
  if q1 = (0 : Int32) then (S_X8_times_27 σ)
  else (if v2 < (0 : Int32) then (S_X8_times_27 σ)
  else ((o_gR σ 8 1 (some t0)).bind fun t13 =>
  (o_ldQ σ 4 t13 v1).bind fun t17 =>
  (o_gR σ 5 2 t17).bind fun t18 =>
  (o_gI σ 0 2 t18).bind fun t21 =>
  if v2 < t21 then ((o_gR σ 8 1 (some t0)).bind fun t30 =>
  (o_ldQ σ 4 t30 ((1 : Int32) - v1)).bind fun t36 =>
  (o_gR σ 5 2 t36).bind fun t37 =>
  (o_rcv σ 0 t37).bind fun b41 =>
  (S_X0_hasDone σ b41 v2).bind fun q41 =>
  if q41 = (0 : Int32) then (S_X8_times_52 σ (0 : Int32))
  else (S_X8_times_52 σ (1 : Int32)))
  else (S_X8_times_27 σ)))
def S_X9_init_269 (σ : hp) (w0 : Option Nat) (w1 : Option Nat) : Option (hp) :=
  (o_pR σ 9 36 w0 w1).bind fun s269 =>
  some s269
def S_X9_init_261 (σ : hp) (t0 : Nat) (w0 : Option Nat) (w1 : Option Nat) : Option (hp) :=
  (o_pR σ 9 35 w0 w1).bind fun s261 =>
  (o_na s261 0 (32 : Int32)).bind fun q267 =>
  S_X9_init_269 q267.2 (some t0) q267.1
def S_X9_init_253 (σ : hp) (t0 : Nat) (w0 : Option Nat) (w1 : Option Nat) : Option (hp) :=
  (o_pR σ 9 34 w0 w1).bind fun s253 =>
  (o_na s253 0 (32 : Int32)).bind fun q259 =>
  S_X9_init_261 q259.2 t0 (some t0) q259.1
def S_X9_init_246 (σ : hp) (t0 : Nat) (w0 : Option Nat) (w1 : Option Nat) : Option (hp) :=
  (o_pR σ 9 33 w0 w1).bind fun s246 =>
  (o_na s246 0 (2 : Int32)).bind fun q251 =>
  S_X9_init_253 q251.2 t0 (some t0) q251.1
def S_X9_init_239 (σ : hp) (t0 : Nat) (w0 : Option Nat) (w1 : Option Nat) : Option (hp) :=
  (o_pR σ 9 32 w0 w1).bind fun s239 =>
  (o_na s239 0 (2 : Int32)).bind fun q244 =>
  S_X9_init_246 q244.2 t0 (some t0) q244.1
def S_X9_init_230 (σ : hp) (t0 : Nat) (w0 : Option Nat) (w1 : Option Nat) : Option (hp) :=
  (o_pR σ 9 31 w0 w1).bind fun s230 =>
  (o_na s230 0 (200 : Int32)).bind fun q237 =>
  S_X9_init_239 q237.2 t0 (some t0) q237.1
def S_X9_init_223 (σ : hp) (t0 : Nat) (w0 : Option Nat) (w1 : Option Nat) : Option (hp) :=
  (o_pR σ 9 30 w0 w1).bind fun s223 =>
  (o_na s223 0 (2 : Int32)).bind fun q228 =>
  S_X9_init_230 q228.2 t0 (some t0) q228.1
def S_X9_init_216 (σ : hp) (t0 : Nat) (w0 : Option Nat) (w1 : Option Nat) : Option (hp) :=
  (o_pR σ 9 29 w0 w1).bind fun s216 =>
  (o_na s216 0 (2 : Int32)).bind fun q221 =>
  S_X9_init_223 q221.2 t0 (some t0) q221.1
def S_X9_init_209 (σ : hp) (t0 : Nat) (w0 : Option Nat) (w1 : Option Nat) : Option (hp) :=
  (o_pR σ 9 28 w0 w1).bind fun s209 =>
  (o_na s209 0 (2 : Int32)).bind fun q214 =>
  S_X9_init_216 q214.2 t0 (some t0) q214.1
def S_X9_init_202 (σ : hp) (t0 : Nat) (w0 : Option Nat) (w1 : Option Nat) : Option (hp) :=
  (o_pR σ 9 27 w0 w1).bind fun s202 =>
  (o_na s202 1 (2 : Int32)).bind fun q207 =>
  S_X9_init_209 q207.2 t0 (some t0) q207.1
def S_X9_init_193 (σ : hp) (t0 : Nat) (w0 : Option Nat) (w1 : Option Nat) : Option (hp) :=
  (o_pR σ 9 26 w0 w1).bind fun s193 =>
  (o_na s193 0 (1024 : Int32)).bind fun q200 =>
  S_X9_init_202 q200.2 t0 (some t0) q200.1
def S_X9_init_186 (σ : hp) (t0 : Nat) (w0 : Option Nat) (w1 : Option Nat) : Option (hp) :=
  (o_pR σ 9 25 w0 w1).bind fun s186 =>
  (o_na s186 0 (2 : Int32)).bind fun q191 =>
  S_X9_init_193 q191.2 t0 (some t0) q191.1
def S_X9_init_177 (σ : hp) (t0 : Nat) (w0 : Option Nat) (w1 : Option Nat) : Option (hp) :=
  (o_pR σ 9 24 w0 w1).bind fun s177 =>
  (o_na s177 0 (192 : Int32)).bind fun q184 =>
  S_X9_init_186 q184.2 t0 (some t0) q184.1
def S_X9_init_169 (σ : hp) (t0 : Nat) (w0 : Option Nat) (w1 : Option Nat) : Option (hp) :=
  (o_pR σ 9 23 w0 w1).bind fun s169 =>
  (o_na s169 0 (6 : Int32)).bind fun q175 =>
  S_X9_init_177 q175.2 t0 (some t0) q175.1
def S_X9_init_162 (σ : hp) (t0 : Nat) (w0 : Option Nat) (w1 : Option Nat) : Option (hp) :=
  (o_pR σ 9 22 w0 w1).bind fun s162 =>
  (o_na s162 0 (2 : Int32)).bind fun q167 =>
  S_X9_init_169 q167.2 t0 (some t0) q167.1
def S_X9_init_155 (σ : hp) (t0 : Nat) (w0 : Option Nat) (w1 : Option Nat) : Option (hp) :=
  (o_pR σ 9 21 w0 w1).bind fun s155 =>
  (o_na s155 0 (2 : Int32)).bind fun q160 =>
  S_X9_init_162 q160.2 t0 (some t0) q160.1
def S_X9_init_148 (σ : hp) (t0 : Nat) (w0 : Option Nat) (w1 : Option Nat) : Option (hp) :=
  (o_pR σ 9 20 w0 w1).bind fun s148 =>
  (o_na s148 0 (2 : Int32)).bind fun q153 =>
  S_X9_init_155 q153.2 t0 (some t0) q153.1
def S_X9_init_141 (σ : hp) (t0 : Nat) (w0 : Option Nat) (w1 : Option Nat) : Option (hp) :=
  (o_pR σ 9 19 w0 w1).bind fun s141 =>
  (o_na s141 1 (2 : Int32)).bind fun q146 =>
  S_X9_init_148 q146.2 t0 (some t0) q146.1
def S_X9_init_134 (σ : hp) (t0 : Nat) (w0 : Option Nat) (w1 : Option Nat) : Option (hp) :=
  (o_pR σ 9 18 w0 w1).bind fun s134 =>
  (o_na s134 0 (2 : Int32)).bind fun q139 =>
  S_X9_init_141 q139.2 t0 (some t0) q139.1
def S_X9_init_127 (σ : hp) (t0 : Nat) (w0 : Option Nat) (w1 : Option Nat) : Option (hp) :=
  (o_pR σ 9 17 w0 w1).bind fun s127 =>
  (o_na s127 1 (2 : Int32)).bind fun q132 =>
  S_X9_init_134 q132.2 t0 (some t0) q132.1
def S_X9_init_120 (σ : hp) (t0 : Nat) (w0 : Option Nat) (w1 : Option Nat) : Option (hp) :=
  (o_pR σ 9 15 w0 w1).bind fun s120 =>
  (o_na s120 0 (2 : Int32)).bind fun q125 =>
  S_X9_init_127 q125.2 t0 (some t0) q125.1
def S_X9_init_112 (σ : hp) (t0 : Nat) (w0 : Option Nat) (w1 : Option Nat) : Option (hp) :=
  (o_pR σ 9 14 w0 w1).bind fun s112 =>
  (o_na s112 0 (38 : Int32)).bind fun q118 =>
  S_X9_init_120 q118.2 t0 (some t0) q118.1
def S_X9_init_104 (σ : hp) (t0 : Nat) (w0 : Option Nat) (w1 : Option Nat) : Option (hp) :=
  (o_pR σ 9 13 w0 w1).bind fun s104 =>
  (o_na s104 0 (24 : Int32)).bind fun q110 =>
  S_X9_init_112 q110.2 t0 (some t0) q110.1
def S_X9_init_95 (σ : hp) (t0 : Nat) (w0 : Option Nat) (w1 : Option Nat) : Option (hp) :=
  (o_pR σ 9 12 w0 w1).bind fun s95 =>
  (o_na s95 0 (912 : Int32)).bind fun q102 =>
  S_X9_init_104 q102.2 t0 (some t0) q102.1
def S_X9_init_88 (σ : hp) (t0 : Nat) (w0 : Option Nat) (w1 : Option Nat) : Option (hp) :=
  (o_pR σ 9 10 w0 w1).bind fun s88 =>
  (o_na s88 0 (2 : Int32)).bind fun q93 =>
  S_X9_init_95 q93.2 t0 (some t0) q93.1
def S_X9_init_80 (σ : hp) (t0 : Nat) (w0 : Option Nat) (w1 : Option Nat) : Option (hp) :=
  (o_pR σ 9 9 w0 w1).bind fun s80 =>
  (o_na s80 0 (100 : Int32)).bind fun q86 =>
  S_X9_init_88 q86.2 t0 (some t0) q86.1
def S_X9_init_73 (σ : hp) (t0 : Nat) (w0 : Option Nat) (w1 : Option Nat) : Option (hp) :=
  (o_pR σ 9 8 w0 w1).bind fun s73 =>
  (o_na s73 0 (2 : Int32)).bind fun q78 =>
  S_X9_init_80 q78.2 t0 (some t0) q78.1
def S_X9_init_65 (σ : hp) (t0 : Nat) (w0 : Option Nat) (w1 : Option Nat) : Option (hp) :=
  (o_pR σ 9 7 w0 w1).bind fun s65 =>
  (o_na s65 0 (51200 : Int32)).bind fun q71 =>
  S_X9_init_73 q71.2 t0 (some t0) q71.1
def S_X9_init_56 (σ : hp) (t0 : Nat) (w0 : Option Nat) (w1 : Option Nat) : Option (hp) :=
  (o_pR σ 9 6 w0 w1).bind fun s56 =>
  (o_na s56 0 (512 : Int32)).bind fun q63 =>
  S_X9_init_65 q63.2 t0 (some t0) q63.1
def S_X9_init_47 (σ : hp) (t0 : Nat) (w0 : Option Nat) (w1 : Option Nat) : Option (hp) :=
  (o_pR σ 9 5 w0 w1).bind fun s47 =>
  (o_na s47 0 (512 : Int32)).bind fun q54 =>
  S_X9_init_56 q54.2 t0 (some t0) q54.1
def S_X9_init_40 (σ : hp) (t0 : Nat) (w0 : Option Nat) (w1 : Option Nat) : Option (hp) :=
  (o_pR σ 9 4 w0 w1).bind fun s40 =>
  (o_na s40 0 (2 : Int32)).bind fun q45 =>
  S_X9_init_47 q45.2 t0 (some t0) q45.1
def S_X9_init_32 (σ : hp) (t0 : Nat) (w0 : Option Nat) (w1 : Option Nat) : Option (hp) :=
  (o_pR σ 9 3 w0 w1).bind fun s32 =>
  (o_na s32 0 (60 : Int32)).bind fun q38 =>
  S_X9_init_40 q38.2 t0 (some t0) q38.1
def S_X9_init_25 (σ : hp) (t0 : Nat) (w0 : Option Nat) (w1 : Option Nat) : Option (hp) :=
  (o_pR σ 9 2 w0 w1).bind fun s25 =>
  (o_na s25 0 (2 : Int32)).bind fun q30 =>
  S_X9_init_32 q30.2 t0 (some t0) q30.1
def S_X9_init_16 (σ : hp) (t0 : Nat) (w0 : Option Nat) (w1 : Option Nat) : Option (hp) :=
  (o_pR σ 9 1 w0 w1).bind fun s16 =>
  (o_na s16 0 (6000 : Int32)).bind fun q23 =>
  S_X9_init_25 q23.2 t0 (some t0) q23.1
def S_X9_init_8 (σ : hp) (t0 : Nat) (w0 : Option Nat) (w1 : Option Nat) : Option (hp) :=
  (o_pR σ 9 0 w0 w1).bind fun s8 =>
  (o_na s8 0 (60 : Int32)).bind fun q14 =>
  S_X9_init_16 q14.2 t0 (some t0) q14.1
def S_X9_init (σ : hp) (t0 : Nat) : Option (hp) :=
  (o_na σ 0 (2 : Int32)).bind fun q6 =>
  S_X9_init_8 q6.2 t0 (some t0) q6.1
def S_X9_isSite_14 (σ : hp) (w0 : Int32) : Option (Int32) :=
  (o_z w0).bind fun z14 =>
  some z14
def S_X9_isSite_9 (σ : hp) : Option (Int32) :=
  S_X9_isSite_14 σ (1 : Int32)
def S_X9_isSite (σ : hp) (v0 : Int32) : Option (Int32) :=
  if v0 = (0 : Int32) then (S_X9_isSite_9 σ)
  else (if v0 = (1 : Int32) then (S_X9_isSite_9 σ)
  else (S_X9_isSite_14 σ (0 : Int32)))
def S_X9_put_20 (σ : hp) : Option (Int32 × hp) :=
  some ((-1 : Int32), σ)
def S_X9_put (σ : hp) (t0 : Nat) (v1 : Int32) : Option (Int32 × hp) :=
  (o_gI σ 9 11 (some t0)).bind fun t1 =>
  if t1 = (100 : Int32) then (S_X9_put_20 σ)
  else (if v1 < (0 : Int32) then (S_X9_put_20 σ)
  else (if v1 ≤ (255 : Int32) then ((o_gR σ 9 10 (some t0)).bind fun t23 =>
  (o_gI σ 9 11 (some t0)).bind fun t27 =>
  (o_stI σ 0 t23 t27 v1).bind fun s31 =>
  (o_gI s31 9 11 (some t0)).bind fun t34 =>
  (o_pI s31 9 11 (some t0) (t34 + (1 : Int32))).bind fun s39 =>
  (o_gI s39 9 11 (some t0)).bind fun t43 =>
  some (t43, s39))
  else (S_X9_put_20 σ)))
def S_X9_queue_18 (σ : hp) : Option (Int32 × hp) :=
  some ((-1 : Int32), σ)
def S_X9_queue_44_b (rec44 : hp → Nat → Int32 → Int32 → Int32 → Option (Int32 × hp)) (σ : hp) (t0 : Nat) (v1 : Int32) (v2 : Int32) (v3 : Int32) : Option (Int32 × hp) :=
  (o_gI σ 9 11 (some t0)).bind fun t46 =>
  if t46 ≤ v3 then ((o_pI σ 9 11 (some t0) (0 : Int32)).bind fun s83 =>
  (o_gR s83 9 4 (some t0)).bind fun t87 =>
  (o_gR s83 9 3 (some t0)).bind fun t95 =>
  (o_ldI s83 0 t95 v1).bind fun t99 =>
  (o_stI s83 0 t87 (((30 : Int32) * v1) + t99) v2).bind fun s102 =>
  (o_gR s102 9 3 (some t0)).bind fun t104 =>
  (o_ldI s102 0 t104 v1).bind fun t109 =>
  (o_stI s102 0 t104 v1 (t109 + (1 : Int32))).bind fun s112 =>
  (o_gR s112 9 0 (some t0)).bind fun t114 =>
  (o_ldI s112 0 t114 v1).bind fun t119 =>
  (o_stI s112 0 t114 v1 (t119 + (1 : Int32))).bind fun s122 =>
  some (v2, s122))
  else ((o_gR σ 9 2 (some t0)).bind fun t53 =>
  (o_gR σ 9 10 (some t0)).bind fun t69 =>
  (o_ldI σ 0 t69 v3).bind fun t73 =>
  (o_stI σ 0 t53 ((((3000 : Int32) * v1) + ((100 : Int32) * v2)) + v3) t73).bind fun s74 =>
  rec44 s74 t0 v1 v2 (v3 + (1 : Int32)))
def S_X9_queue_44 : Nat → hp → Nat → Int32 → Int32 → Int32 → Option (Int32 × hp)
  | 0, _, _, _, _, _ => none
  | n + 1, σ, t0, v1, v2, v3 => S_X9_queue_44_b (S_X9_queue_44 n) σ t0 v1 v2 v3
def S_X9_queue (σ : hp) (t0 : Nat) (v1 : Int32) : Option (Int32 × hp) :=
  (S_X9_isSite σ v1).bind fun q1 =>
  if q1 = (0 : Int32) then (S_X9_queue_18 σ)
  else ((o_gR σ 9 0 (some t0)).bind fun t8 =>
  (o_ldI σ 0 t8 v1).bind fun t12 =>
  if t12 = (30 : Int32) then (S_X9_queue_18 σ)
  else ((o_gR σ 9 0 (some t0)).bind fun t21 =>
  (o_ldI σ 0 t21 v1).bind fun t25 =>
  (o_gR σ 9 1 (some t0)).bind fun t28 =>
  (o_gI σ 9 11 (some t0)).bind fun t38 =>
  (o_stI σ 0 t28 (((30 : Int32) * v1) + t25) t38).bind fun s41 =>
  S_X9_queue_44 FU s41 t0 v1 t25 (0 : Int32)))
def S_X9_leave_12_b (rec12 : hp → Nat → Int32 → Int32 → Option (hp)) (σ : hp) (t0 : Nat) (v1 : Int32) (v2 : Int32) : Option (hp) :=
  (o_gR σ 9 3 (some t0)).bind fun t14 =>
  (o_ldI σ 0 t14 v1).bind fun t18 =>
  if t18 ≤ v2 then (some σ)
  else ((o_gR σ 9 4 (some t0)).bind fun t23 =>
  (o_gR σ 9 4 (some t0)).bind fun t33 =>
  (o_ldI σ 0 t33 ((((30 : Int32) * v1) + v2) + (1 : Int32))).bind fun t44 =>
  (o_stI σ 0 t23 (((30 : Int32) * v1) + v2) t44).bind fun s45 =>
  rec12 s45 t0 v1 (v2 + (1 : Int32)))
def S_X9_leave_12 : Nat → hp → Nat → Int32 → Int32 → Option (hp)
  | 0, _, _, _, _ => none
  | n + 1, σ, t0, v1, v2 => S_X9_leave_12_b (S_X9_leave_12 n) σ t0 v1 v2
def S_X9_leave (σ : hp) (t0 : Nat) (v1 : Int32) : Option (hp) :=
  (o_gR σ 9 3 (some t0)).bind fun t1 =>
  (o_ldI σ 0 t1 v1).bind fun t6 =>
  (o_stI σ 0 t1 v1 (t6 - (1 : Int32))).bind fun s9 =>
  S_X9_leave_12 FU s9 t0 v1 (0 : Int32)
def S_X9_isExecuted_42 (rec5 : hp → Nat → Int32 → Int32 → Int32 → Int32 → Option (Int32)) (σ : hp) (t0 : Nat) (v1 : Int32) (v2 : Int32) (v4 : Int32) (w0 : Int32) : Option (Int32) :=
  rec5 σ t0 v1 v2 w0 (v4 + (1 : Int32))
def S_X9_isExecuted_37 (rec5 : hp → Nat → Int32 → Int32 → Int32 → Int32 → Option (Int32)) (σ : hp) (t0 : Nat) (v1 : Int32) (v2 : Int32) (v4 : Int32) : Option (Int32) :=
  S_X9_isExecuted_42 rec5 σ t0 v1 v2 v4 (1 : Int32)
def S_X9_isExecuted_5_b (rec5 : hp → Nat → Int32 → Int32 → Int32 → Int32 → Option (Int32)) (σ : hp) (t0 : Nat) (v1 : Int32) (v2 : Int32) (v3 : Int32) (v4 : Int32) : Option (Int32) :=
  (o_gR σ 9 5 (some t0)).bind fun t8 =>
  (o_ldI σ 0 t8 v1).bind fun t12 =>
  if t12 ≤ v4 then ((o_z v3).bind fun z50 =>
  some z50)
  else (if v3 = (0 : Int32) then ((o_gR σ 9 6 (some t0)).bind fun t21 =>
  (o_ldI σ 0 t21 (((256 : Int32) * v1) + v4)).bind fun t32 =>
  if t32 = v2 then (S_X9_isExecuted_37 rec5 σ t0 v1 v2 v4)
  else (S_X9_isExecuted_42 rec5 σ t0 v1 v2 v4 (0 : Int32)))
  else (S_X9_isExecuted_37 rec5 σ t0 v1 v2 v4))
def S_X9_isExecuted_5 : Nat → hp → Nat → Int32 → Int32 → Int32 → Int32 → Option (Int32)
  | 0, _, _, _, _, _, _ => none
  | n + 1, σ, t0, v1, v2, v3, v4 => S_X9_isExecuted_5_b (S_X9_isExecuted_5 n) σ t0 v1 v2 v3 v4
def S_X9_isExecuted (σ : hp) (t0 : Nat) (v1 : Int32) (v2 : Int32) : Option (Int32) :=
  S_X9_isExecuted_5 FU σ t0 v1 v2 (0 : Int32) (0 : Int32)
def S_X9_left (σ : hp) (v0 : Int32) : Option (Int32) :=
  some (((v0 <<< ((1 : Int32) &&& 31)) ||| (v0 >>> ((15 : Int32) &&& 31))) &&& (65535 : Int32))
def S_X9_sum_62 (rec8 : hp → Nat → Int32 → Int32 → Int32 → Int32 → Option (Int32)) (σ : hp) (t0 : Nat) (v1 : Int32) (v3 : Int32) (v4 : Int32) (w0 : Int32) : Option (Int32) :=
  rec8 σ t0 v1 w0 v3 (v4 + (1 : Int32))
def S_X9_sum_8_b (rec8 : hp → Nat → Int32 → Int32 → Int32 → Int32 → Option (Int32)) (σ : hp) (t0 : Nat) (v1 : Int32) (v2 : Int32) (v3 : Int32) (v4 : Int32) : Option (Int32) :=
  if (32 : Int32) ≤ v4 then (some v2)
  else ((S_X9_left σ v2).bind fun q19 =>
  (o_gR σ 9 15 (some t0)).bind fun t23 =>
  (o_ldI σ 0 t23 (v1 + v4)).bind fun t30 =>
  if ((q19 + t30) &&& (65535 : Int32)) ≤ v2 then (S_X9_sum_62 rec8 σ t0 v1 ((v3 + (((q19 + t30) &&& (65535 : Int32)) ^^^ ((32 : Int32) - v4))) &&& (65535 : Int32)) v4 (((q19 + t30) &&& (65535 : Int32)) ^^^ ((v3 + (((q19 + t30) &&& (65535 : Int32)) ^^^ ((32 : Int32) - v4))) &&& (65535 : Int32))))
  else (S_X9_sum_62 rec8 σ t0 v1 ((v3 + (((q19 + t30) &&& (65535 : Int32)) ^^^ ((32 : Int32) - v4))) &&& (65535 : Int32)) v4 ((q19 + t30) &&& (65535 : Int32))))
def S_X9_sum_8 : Nat → hp → Nat → Int32 → Int32 → Int32 → Int32 → Option (Int32)
  | 0, _, _, _, _, _, _ => none
  | n + 1, σ, t0, v1, v2, v3, v4 => S_X9_sum_8_b (S_X9_sum_8 n) σ t0 v1 v2 v3 v4
def S_X9_sum (σ : hp) (t0 : Nat) (v1 : Int32) : Option (Int32) :=
  S_X9_sum_8 FU σ t0 v1 (65535 : Int32) (0 : Int32) (0 : Int32)
def S_X9_head_111 (σ : hp) (w0 : Option Nat) (w1 : Int32) : Option (hp) :=
  (o_pI σ 9 16 w0 w1).bind fun s111 =>
  some s111
def S_X9_head_30 (σ : hp) (t0 : Nat) (v1 : Int32) (v2 : Int32) (w0 : Int32) : Option (hp) :=
  (o_gR σ 9 15 (some t0)).bind fun t32 =>
  (o_stI σ 0 t32 (0 : Int32) (16 : Int32)).bind fun s38 =>
  (o_gR s38 9 15 (some t0)).bind fun t40 =>
  (o_stI s38 0 t40 (1 : Int32) v1).bind fun s45 =>
  (o_gR s45 9 15 (some t0)).bind fun t47 =>
  (o_stI s45 0 t47 (2 : Int32) (w0 &&& (255 : Int32))).bind fun s56 =>
  (o_gR s56 9 15 (some t0)).bind fun t58 =>
  (o_stI s56 0 t58 (3 : Int32) (w0 >>> ((8 : Int32) &&& 31))).bind fun s66 =>
  (o_gR s66 9 15 (some t0)).bind fun t68 =>
  (o_stI s66 0 t68 (4 : Int32) v2).bind fun s73 =>
  (o_gR s73 9 15 (some t0)).bind fun t75 =>
  (o_gR s73 9 15 (some t0)).bind fun t81 =>
  (o_ldI s73 0 t81 (2 : Int32)).bind fun t85 =>
  (o_gR s73 9 15 (some t0)).bind fun t88 =>
  (o_ldI s73 0 t88 (3 : Int32)).bind fun t92 =>
  (o_stI s73 0 t75 (5 : Int32) (((v1 ^^^ t85) ^^^ t92) ^^^ v2)).bind fun s96 =>
  if v1 = (9 : Int32) then (S_X9_head_111 s96 (some t0) (6 : Int32))
  else (S_X9_head_111 s96 (some t0) (38 : Int32))
def S_X9_head (σ : hp) (t0 : Nat) (v1 : Int32) (v2 : Int32) : Option (hp) :=
  if v1 = (9 : Int32) then (S_X9_head_30 σ t0 v1 v2 (((43690 : Int32) - v2) &&& (65535 : Int32)))
  else ((o_rcv σ 9 (some t0)).bind fun b21 =>
  (S_X9_sum σ b21 (6 : Int32)).bind fun q21 =>
  S_X9_head_30 σ t0 v1 v2 (((43690 : Int32) - (q21 ^^^ v2)) &&& (65535 : Int32)))
def S_X9_lay_70 (rec36 : hp → Nat → Int32 → Int32 → Int32 → Option (hp)) (σ : hp) (t0 : Nat) (v1 : Int32) (v2 : Int32) (v3 : Int32) (w0 : Option Nat) (w1 : Int32) (w2 : Int32) : Option (hp) :=
  (o_stI σ 0 w0 w1 w2).bind fun s70 =>
  rec36 s70 t0 v1 v2 (v3 + (1 : Int32))
def S_X9_lay_36_b (rec36 : hp → Nat → Int32 → Int32 → Int32 → Option (hp)) (σ : hp) (t0 : Nat) (v1 : Int32) (v2 : Int32) (v3 : Int32) : Option (hp) :=
  if (38 : Int32) ≤ v3 then ((o_gR σ 9 12 (some t0)).bind fun t78 =>
  (o_ldI σ 0 t78 v1).bind fun t83 =>
  (o_stI σ 0 t78 v1 (t83 + (1 : Int32))).bind fun s86 =>
  some s86)
  else ((o_gR σ 9 13 (some t0)).bind fun t43 =>
  (o_gI σ 9 16 (some t0)).bind fun t54 =>
  if t54 ≤ v3 then (S_X9_lay_70 rec36 σ t0 v1 v2 v3 t43 (((38 : Int32) * v2) + v3) (0 : Int32))
  else ((o_gR σ 9 15 (some t0)).bind fun t61 =>
  (o_ldI σ 0 t61 v3).bind fun t65 =>
  S_X9_lay_70 rec36 σ t0 v1 v2 v3 t43 (((38 : Int32) * v2) + v3) t65))
def S_X9_lay_36 : Nat → hp → Nat → Int32 → Int32 → Int32 → Option (hp)
  | 0, _, _, _, _, _ => none
  | n + 1, σ, t0, v1, v2, v3 => S_X9_lay_36_b (S_X9_lay_36 n) σ t0 v1 v2 v3
def S_X9_lay (σ : hp) (t0 : Nat) (v1 : Int32) : Option (hp) :=
  (o_gR σ 9 12 (some t0)).bind fun t1 =>
  (o_ldI σ 0 t1 v1).bind fun t5 =>
  if t5 = (12 : Int32) then (some σ)
  else ((o_gR σ 9 12 (some t0)).bind fun t17 =>
  (o_ldI σ 0 t17 v1).bind fun t21 =>
  (o_gR σ 9 14 (some t0)).bind fun t25 =>
  (o_gI σ 9 16 (some t0)).bind fun t30 =>
  (o_stI σ 0 t25 (((12 : Int32) * v1) + t21) t30).bind fun s33 =>
  S_X9_lay_36 FU s33 t0 v1 (((12 : Int32) * v1) + t21) (0 : Int32))
def S_X9_control (σ : hp) (t0 : Nat) (v1 : Int32) (v2 : Int32) (v3 : Int32) : Option (hp) :=
  (o_rcv σ 9 (some t0)).bind fun b9 =>
  (S_X9_head σ b9 (9 : Int32) (((8 : Int32) * v2) + v3)).bind fun q9 =>
  (o_rcv q9 9 (some t0)).bind fun b14 =>
  (S_X9_lay q9 b14 v1).bind fun q14 =>
  some q14
def S_X9_data_2_b (rec2 : hp → Nat → Int32 → Int32 → Int32 → Option (hp)) (σ : hp) (t0 : Nat) (v1 : Int32) (v2 : Int32) (v3 : Int32) : Option (hp) :=
  if (32 : Int32) ≤ v3 then ((o_gR σ 9 24 (some t0)).bind fun t47 =>
  (o_ldI σ 0 t47 (((3 : Int32) * v1) + v2)).bind fun t55 =>
  (o_gR σ 9 21 (some t0)).bind fun t59 =>
  (o_ldI σ 0 t59 v1).bind fun t63 =>
  (o_rcv σ 9 (some t0)).bind fun b65 =>
  (S_X9_head σ b65 (1 : Int32) (((128 : Int32) + ((8 : Int32) * t55)) + t63)).bind fun q65 =>
  (o_rcv q65 9 (some t0)).bind fun b70 =>
  (S_X9_lay q65 b70 v1).bind fun q70 =>
  some q70)
  else ((o_gR σ 9 15 (some t0)).bind fun t9 =>
  (o_gR σ 9 25 (some t0)).bind fun t17 =>
  (o_ldI σ 0 t17 ((((96 : Int32) * v1) + ((32 : Int32) * v2)) + v3)).bind fun t31 =>
  (o_stI σ 0 t9 ((6 : Int32) + v3) t31).bind fun s32 =>
  rec2 s32 t0 v1 v2 (v3 + (1 : Int32)))
def S_X9_data_2 : Nat → hp → Nat → Int32 → Int32 → Int32 → Option (hp)
  | 0, _, _, _, _, _ => none
  | n + 1, σ, t0, v1, v2, v3 => S_X9_data_2_b (S_X9_data_2 n) σ t0 v1 v2 v3
def S_X9_data (σ : hp) (t0 : Nat) (v1 : Int32) (v2 : Int32) : Option (hp) :=
  S_X9_data_2 FU σ t0 v1 v2 (0 : Int32)
def S_X9_isGood_82 (σ : hp) : Option (Int32) :=
  some (0 : Int32)
def S_X9_isGood_168 (σ : hp) (w0 : Int32) : Option (Int32) :=
  (o_z w0).bind fun z168 =>
  some z168
def S_X9_isGood_167 (σ : hp) : Option (Int32) :=
  S_X9_isGood_168 σ (0 : Int32)
def S_X9_isGood_152 (σ : hp) (v2 : Int32) (v3 : Int32) : Option (Int32) :=
  if v3 = (((43690 : Int32) - v2) &&& (65535 : Int32)) then (S_X9_isGood_168 σ (1 : Int32))
  else (S_X9_isGood_167 σ)
def S_X9_isGood_258 (rec231 : hp → Nat → Int32 → Int32 → Option (Int32)) (σ : hp) (t0 : Nat) (v7 : Int32) (w0 : Int32) : Option (Int32) :=
  rec231 σ t0 w0 (v7 + (1 : Int32))
def S_X9_isGood_266 (σ : hp) (v6 : Int32) : Option (Int32) :=
  (o_z v6).bind fun z268 =>
  some z268
def S_X9_isGood_231_b (rec231 : hp → Nat → Int32 → Int32 → Option (Int32)) (σ : hp) (t0 : Nat) (v6 : Int32) (v7 : Int32) : Option (Int32) :=
  if (38 : Int32) ≤ v7 then (S_X9_isGood_266 σ v6)
  else (if v6 = (0 : Int32) then (S_X9_isGood_266 σ v6)
  else ((o_gR σ 9 15 (some t0)).bind fun t244 =>
  (o_ldI σ 0 t244 v7).bind fun t249 =>
  if t249 = (0 : Int32) then (S_X9_isGood_258 rec231 σ t0 v7 (1 : Int32))
  else (S_X9_isGood_258 rec231 σ t0 v7 (0 : Int32))))
def S_X9_isGood_231 : Nat → hp → Nat → Int32 → Int32 → Option (Int32)
  | 0, _, _, _, _ => none
  | n + 1, σ, t0, v6, v7 => S_X9_isGood_231_b (S_X9_isGood_231 n) σ t0 v6 v7
def S_X9_isGood_222 (σ : hp) (t0 : Nat) (v5 : Int32) (w0 : Int32) : Option (Int32) :=
  S_X9_isGood_231 FU σ t0 w0 ((7 : Int32) + v5)
def S_X9_isGood_221 (σ : hp) (t0 : Nat) (v5 : Int32) : Option (Int32) :=
  S_X9_isGood_222 σ t0 v5 (0 : Int32)
def S_X9_isGood_56 (σ : hp) (t0 : Nat) (v1 : Int32) (v2 : Int32) : Option (Int32) :=
  (o_gR σ 9 15 (some t0)).bind fun t57 =>
  (o_ldI σ 0 t57 (5 : Int32)).bind fun t61 =>
  (o_gR σ 9 15 (some t0)).bind fun t64 =>
  (o_ldI σ 0 t64 (2 : Int32)).bind fun t68 =>
  (o_gR σ 9 15 (some t0)).bind fun t71 =>
  (o_ldI σ 0 t71 (3 : Int32)).bind fun t75 =>
  if t61 = (((v1 ^^^ t68) ^^^ t75) ^^^ v2) then ((o_gR σ 9 15 (some t0)).bind fun t85 =>
  (o_ldI σ 0 t85 (2 : Int32)).bind fun t89 =>
  (o_gR σ 9 15 (some t0)).bind fun t91 =>
  (o_ldI σ 0 t91 (3 : Int32)).bind fun t95 =>
  if v1 = (9 : Int32) then (if (64 : Int32) ≤ v2 then (S_X9_isGood_167 σ)
  else (if ((v2 >>> ((3 : Int32) &&& 31)) &&& (7 : Int32)) = (1 : Int32) then (S_X9_isGood_152 σ v2 (t89 ||| (t95 <<< ((8 : Int32) &&& 31))))
  else (if ((v2 >>> ((3 : Int32) &&& 31)) &&& (7 : Int32)) = (2 : Int32) then (S_X9_isGood_152 σ v2 (t89 ||| (t95 <<< ((8 : Int32) &&& 31))))
  else (if ((v2 >>> ((3 : Int32) &&& 31)) &&& (7 : Int32)) = (4 : Int32) then (S_X9_isGood_152 σ v2 (t89 ||| (t95 <<< ((8 : Int32) &&& 31))))
  else (if ((v2 >>> ((3 : Int32) &&& 31)) &&& (7 : Int32)) = (5 : Int32) then (S_X9_isGood_152 σ v2 (t89 ||| (t95 <<< ((8 : Int32) &&& 31))))
  else (if ((v2 >>> ((3 : Int32) &&& 31)) &&& (7 : Int32)) = (7 : Int32) then (S_X9_isGood_152 σ v2 (t89 ||| (t95 <<< ((8 : Int32) &&& 31))))
  else (S_X9_isGood_167 σ)))))))
  else ((o_gR σ 9 15 (some t0)).bind fun t170 =>
  (o_ldI σ 0 t170 (6 : Int32)).bind fun t175 =>
  if (v2 >>> ((6 : Int32) &&& 31)) = (2 : Int32) then ((o_rcv σ 9 (some t0)).bind fun b192 =>
  (S_X9_sum σ b192 (6 : Int32)).bind fun q192 =>
  if (t89 ||| (t95 <<< ((8 : Int32) &&& 31))) = (((43690 : Int32) - (q192 ^^^ v2)) &&& (65535 : Int32)) then (if t175 < (1 : Int32) then (S_X9_isGood_221 σ t0 t175)
  else (if (31 : Int32) < t175 then (S_X9_isGood_221 σ t0 t175)
  else (S_X9_isGood_222 σ t0 t175 (1 : Int32))))
  else (S_X9_isGood_221 σ t0 t175))
  else (S_X9_isGood_221 σ t0 t175)))
  else (S_X9_isGood_82 σ)
def S_X9_isGood_42 (σ : hp) (t0 : Nat) (v1 : Int32) (v2 : Int32) (w0 : Int32) (w1 : Int32) : Option (Int32) :=
  if w0 = w1 then (if v1 = (9 : Int32) then (S_X9_isGood_56 σ t0 v1 v2)
  else (if v1 = (1 : Int32) then (S_X9_isGood_56 σ t0 v1 v2)
  else (S_X9_isGood_82 σ)))
  else (S_X9_isGood_82 σ)
def S_X9_isGood (σ : hp) (t0 : Nat) : Option (Int32) :=
  (o_gR σ 9 15 (some t0)).bind fun t1 =>
  (o_ldI σ 0 t1 (1 : Int32)).bind fun t5 =>
  (o_gR σ 9 15 (some t0)).bind fun t8 =>
  (o_ldI σ 0 t8 (4 : Int32)).bind fun t12 =>
  (o_gR σ 9 15 (some t0)).bind fun t15 =>
  (o_ldI σ 0 t15 (0 : Int32)).bind fun t19 =>
  if t19 = (16 : Int32) then ((o_gI σ 9 16 (some t0)).bind fun t26 =>
  if t5 = (9 : Int32) then (S_X9_isGood_42 σ t0 t5 t12 t26 (6 : Int32))
  else (S_X9_isGood_42 σ t0 t5 t12 t26 (38 : Int32)))
  else (S_X9_isGood_82 σ)
def S_X9_forget (σ : hp) (t0 : Nat) (v1 : Int32) (v2 : Int32) : Option (hp) :=
  (o_gR σ 9 17 (some t0)).bind fun t1 =>
  (o_stI σ 0 t1 v1 v2).bind fun s6 =>
  (o_gR s6 9 18 (some t0)).bind fun t8 =>
  (o_z (0 : Int32)).bind fun z13 =>
  (o_stI s6 1 t8 v1 z13).bind fun s13 =>
  (o_gR s13 9 20 (some t0)).bind fun t15 =>
  (o_z (0 : Int32)).bind fun z20 =>
  (o_stI s13 1 t15 v1 z20).bind fun s20 =>
  (o_gR s20 9 21 (some t0)).bind fun t22 =>
  (o_stI s20 0 t22 v1 (0 : Int32)).bind fun s27 =>
  (o_gR s27 9 22 (some t0)).bind fun t29 =>
  (o_stI s27 0 t29 v1 (0 : Int32)).bind fun s34 =>
  (o_gR s34 9 23 (some t0)).bind fun t36 =>
  (o_stI s34 0 t36 v1 (0 : Int32)).bind fun s41 =>
  (o_gR s41 9 26 (some t0)).bind fun t43 =>
  (o_stI s41 0 t43 v1 (0 : Int32)).bind fun s48 =>
  (o_gR s48 9 28 (some t0)).bind fun t50 =>
  (o_z (0 : Int32)).bind fun z55 =>
  (o_stI s48 1 t50 v1 z55).bind fun s55 =>
  (o_gR s55 9 33 (some t0)).bind fun t57 =>
  (o_stI s55 0 t57 v1 (0 : Int32)).bind fun s62 =>
  (o_gR s62 9 34 (some t0)).bind fun t64 =>
  (o_stI s62 0 t64 v1 (0 : Int32)).bind fun s69 =>
  some s69
def S_X9_flow_142_b (rec0 : hp → Nat → Int32 → Option (hp)) (rec142 : hp → Nat → Int32 → Int32 → Option (hp)) (σ : hp) (t0 : Nat) (v1 : Int32) (v2 : Int32) : Option (hp) :=
  (o_gR σ 9 26 (some t0)).bind fun t146 =>
  (o_ldI σ 0 t146 v1).bind fun t150 =>
  if ((32 : Int32) * t150) ≤ v2 then ((o_gR σ 9 23 (some t0)).bind fun t191 =>
  (o_ldI σ 0 t191 v1).bind fun t195 =>
  (o_rcv σ 9 (some t0)).bind fun b198 =>
  (S_X9_data σ b198 v1 (t195 - (1 : Int32))).bind fun q198 =>
  rec0 q198 t0 v1)
  else ((o_gR σ 9 27 (some t0)).bind fun t156 =>
  (o_gR σ 9 27 (some t0)).bind fun t167 =>
  (o_ldI σ 0 t167 ((((512 : Int32) * v1) + v2) + (32 : Int32))).bind fun t180 =>
  (o_stI σ 0 t156 (((512 : Int32) * v1) + v2) t180).bind fun s181 =>
  rec142 s181 t0 v1 (v2 + (1 : Int32)))
def S_X9_flow_142 (rec0 : hp → Nat → Int32 → Option (hp)) : Nat → hp → Nat → Int32 → Int32 → Option (hp)
  | 0, _, _, _, _ => none
  | n + 1, σ, t0, v1, v2 => S_X9_flow_142_b rec0 (S_X9_flow_142 rec0 n) σ t0 v1 v2
def S_X9_flow_75_b (rec0 : hp → Nat → Int32 → Option (hp)) (rec75 : hp → Nat → Int32 → Int32 → Option (hp)) (σ : hp) (t0 : Nat) (v1 : Int32) (v2 : Int32) : Option (hp) :=
  if (32 : Int32) ≤ v2 then ((o_gR σ 9 23 (some t0)).bind fun t121 =>
  (o_ldI σ 0 t121 v1).bind fun t126 =>
  (o_stI σ 0 t121 v1 (t126 + (1 : Int32))).bind fun s129 =>
  (o_gR s129 9 26 (some t0)).bind fun t131 =>
  (o_ldI s129 0 t131 v1).bind fun t136 =>
  (o_stI s129 0 t131 v1 (t136 - (1 : Int32))).bind fun s139 =>
  S_X9_flow_142 rec0 FU s139 t0 v1 (0 : Int32))
  else ((o_gR σ 9 25 (some t0)).bind fun t82 =>
  (o_gR σ 9 23 (some t0)).bind fun t92 =>
  (o_ldI σ 0 t92 v1).bind fun t96 =>
  (o_gR σ 9 27 (some t0)).bind fun t102 =>
  (o_ldI σ 0 t102 (((512 : Int32) * v1) + v2)).bind fun t112 =>
  (o_stI σ 0 t82 ((((96 : Int32) * v1) + ((32 : Int32) * t96)) + v2) t112).bind fun s113 =>
  rec75 s113 t0 v1 (v2 + (1 : Int32)))
def S_X9_flow_75 (rec0 : hp → Nat → Int32 → Option (hp)) : Nat → hp → Nat → Int32 → Int32 → Option (hp)
  | 0, _, _, _, _ => none
  | n + 1, σ, t0, v1, v2 => S_X9_flow_75_b rec0 (S_X9_flow_75 rec0 n) σ t0 v1 v2
def S_X9_flow_35 (rec0 : hp → Nat → Int32 → Option (hp)) (σ : hp) (t0 : Nat) (v1 : Int32) : Option (hp) :=
  (o_gR σ 9 22 (some t0)).bind fun t36 =>
  (o_gR σ 9 22 (some t0)).bind fun t41 =>
  (o_ldI σ 0 t41 v1).bind fun t45 =>
  (o_stI σ 0 t36 v1 ((t45 + (1 : Int32)) - (t45 + (1 : Int32)) / (8 : Int32) * (8 : Int32))).bind fun s51 =>
  (o_gR s51 9 24 (some t0)).bind fun t53 =>
  (o_gR s51 9 23 (some t0)).bind fun t60 =>
  (o_ldI s51 0 t60 v1).bind fun t64 =>
  (o_gR s51 9 22 (some t0)).bind fun t67 =>
  (o_ldI s51 0 t67 v1).bind fun t71 =>
  (o_stI s51 0 t53 (((3 : Int32) * v1) + t64) t71).bind fun s72 =>
  S_X9_flow_75 rec0 FU s72 t0 v1 (0 : Int32)
def S_X9_flow_204 (σ : hp) : Option (hp) :=
  some σ
def S_X9_flow_h0_b (rec0 : hp → Nat → Int32 → Option (hp)) (σ : hp) (t0 : Nat) (v1 : Int32) : Option (hp) :=
  (o_gR σ 9 26 (some t0)).bind fun t1 =>
  (o_ldI σ 0 t1 v1).bind fun t5 =>
  if t5 ≤ (0 : Int32) then (S_X9_flow_204 σ)
  else ((o_gR σ 9 23 (some t0)).bind fun t10 =>
  (o_ldI σ 0 t10 v1).bind fun t14 =>
  if (3 : Int32) ≤ t14 then (S_X9_flow_204 σ)
  else ((o_gR σ 9 23 (some t0)).bind fun t20 =>
  (o_ldI σ 0 t20 v1).bind fun t24 =>
  if t24 = (0 : Int32) then ((o_gR σ 9 33 (some t0)).bind fun t29 =>
  (o_stI σ 0 t29 v1 (0 : Int32)).bind fun s34 =>
  S_X9_flow_35 rec0 s34 t0 v1)
  else (S_X9_flow_35 rec0 σ t0 v1)))
def S_X9_flow_h0 : Nat → hp → Nat → Int32 → Option (hp)
  | 0, _, _, _ => none
  | n + 1, σ, t0, v1 => S_X9_flow_h0_b (S_X9_flow_h0 n) σ t0 v1
def S_X9_flow (σ : hp) (t0 : Nat) (v1 : Int32) : Option (hp) := S_X9_flow_h0 FU σ t0 v1
def S_X9_begin_2_b (rec2 : hp → Nat → Int32 → Int32 → Option (hp)) (σ : hp) (t0 : Nat) (v1 : Int32) (v2 : Int32) : Option (hp) :=
  if (32 : Int32) ≤ v2 then ((o_gR σ 9 35 (some t0)).bind fun t22 =>
  (o_stI σ 0 t22 (0 : Int32) (1 : Int32)).bind fun s27 =>
  (o_gR s27 9 35 (some t0)).bind fun t29 =>
  (o_stI s27 0 t29 (1 : Int32) v1).bind fun s34 =>
  some s34)
  else ((o_gR σ 9 35 (some t0)).bind fun t9 =>
  (o_stI σ 0 t9 v2 (0 : Int32)).bind fun s14 =>
  rec2 s14 t0 v1 (v2 + (1 : Int32)))
def S_X9_begin_2 : Nat → hp → Nat → Int32 → Int32 → Option (hp)
  | 0, _, _, _, _ => none
  | n + 1, σ, t0, v1, v2 => S_X9_begin_2_b (S_X9_begin_2 n) σ t0 v1 v2
def S_X9_begin (σ : hp) (t0 : Nat) (v1 : Int32) : Option (hp) :=
  S_X9_begin_2 FU σ t0 v1 (0 : Int32)
def S_X9_more (σ : hp) (t0 : Nat) (v1 : Int32) : Option (hp) :=
  (o_gR σ 9 35 (some t0)).bind fun t1 =>
  (o_ldI σ 0 t1 (0 : Int32)).bind fun t6 =>
  (o_stI σ 0 t1 (0 : Int32) (t6 + (1 : Int32))).bind fun s9 =>
  (o_gR s9 9 35 (some t0)).bind fun t11 =>
  (o_gR s9 9 35 (some t0)).bind fun t15 =>
  (o_ldI s9 0 t15 (0 : Int32)).bind fun t19 =>
  (o_stI s9 0 t11 t19 v1).bind fun s21 =>
  some s21
def S_X9_send_14_b (rec14 : hp → Nat → Int32 → Int32 → Option (hp)) (σ : hp) (t0 : Nat) (v1 : Int32) (v2 : Int32) : Option (hp) :=
  if (32 : Int32) ≤ v2 then ((o_gR σ 9 26 (some t0)).bind fun t55 =>
  (o_ldI σ 0 t55 v1).bind fun t60 =>
  (o_stI σ 0 t55 v1 (t60 + (1 : Int32))).bind fun s63 =>
  (o_rcv s63 9 (some t0)).bind fun b66 =>
  (S_X9_flow s63 b66 v1).bind fun q66 =>
  some q66)
  else ((o_gR σ 9 27 (some t0)).bind fun t21 =>
  (o_gR σ 9 26 (some t0)).bind fun t32 =>
  (o_ldI σ 0 t32 v1).bind fun t36 =>
  (o_gR σ 9 35 (some t0)).bind fun t42 =>
  (o_ldI σ 0 t42 v2).bind fun t46 =>
  (o_stI σ 0 t21 ((((512 : Int32) * v1) + ((32 : Int32) * t36)) + v2) t46).bind fun s47 =>
  rec14 s47 t0 v1 (v2 + (1 : Int32)))
def S_X9_send_14 : Nat → hp → Nat → Int32 → Int32 → Option (hp)
  | 0, _, _, _, _ => none
  | n + 1, σ, t0, v1, v2 => S_X9_send_14_b (S_X9_send_14 n) σ t0 v1 v2
def S_X9_send (σ : hp) (t0 : Nat) (v1 : Int32) : Option (hp) :=
  (o_gR σ 9 26 (some t0)).bind fun t1 =>
  (o_ldI σ 0 t1 v1).bind fun t5 =>
  if t5 = (16 : Int32) then (some σ)
  else (S_X9_send_14 FU σ t0 v1 (0 : Int32))
def S_X9_say (σ : hp) (t0 : Nat) (v1 : Int32) (v2 : Int32) : Option (hp) :=
  (o_rcv σ 9 (some t0)).bind fun b2 =>
  (S_X9_begin σ b2 v2).bind fun q2 =>
  (o_rcv q2 9 (some t0)).bind fun b7 =>
  (S_X9_send q2 b7 v1).bind fun q7 =>
  some q7
def S_X9_goOn (σ : hp) (t0 : Nat) (v1 : Int32) : Option (hp) :=
  (o_gR σ 9 3 (some t0)).bind fun t1 =>
  (o_ldI σ 0 t1 v1).bind fun t5 =>
  if t5 = (0 : Int32) then ((o_rcv σ 9 (some t0)).bind fun b13 =>
  (S_X9_say σ b13 v1 (72 : Int32)).bind fun q13 =>
  some q13)
  else ((o_gR σ 9 4 (some t0)).bind fun t18 =>
  (o_ldI σ 0 t18 ((30 : Int32) * v1)).bind fun t25 =>
  (o_rcv σ 9 (some t0)).bind fun b30 =>
  (S_X9_begin σ b30 (83 : Int32)).bind fun q30 =>
  (o_rcv q30 9 (some t0)).bind fun b35 =>
  (S_X9_more q30 b35 t25).bind fun q35 =>
  (o_gR q35 9 1 (some t0)).bind fun t40 =>
  (o_ldI q35 0 t40 (((30 : Int32) * v1) + t25)).bind fun t49 =>
  (o_rcv q35 9 (some t0)).bind fun b50 =>
  (S_X9_more q35 b50 t49).bind fun q50 =>
  (o_rcv q50 9 (some t0)).bind fun b55 =>
  (S_X9_send q50 b55 v1).bind fun q55 =>
  some q55)
def S_X9_sendFile_85 (rec25 : hp → Nat → Int32 → Int32 → Int32 → Int32 → Option (hp)) (σ : hp) (t0 : Nat) (v1 : Int32) (v2 : Int32) (v3 : Int32) (v4 : Int32) : Option (hp) :=
  (o_rcv σ 9 (some t0)).bind fun b87 =>
  (S_X9_send σ b87 v1).bind fun q87 =>
  rec25 q87 t0 v1 v2 v3 (v4 + (30 : Int32))
def S_X9_sendFile_41_b (rec25 : hp → Nat → Int32 → Int32 → Int32 → Int32 → Option (hp)) (rec41 : hp → Nat → Int32 → Int32 → Int32 → Int32 → Int32 → Option (hp)) (σ : hp) (t0 : Nat) (v1 : Int32) (v2 : Int32) (v3 : Int32) (v4 : Int32) (v5 : Int32) : Option (hp) :=
  if v3 ≤ v5 then (S_X9_sendFile_85 rec25 σ t0 v1 v2 v3 v4)
  else (if (v4 + (30 : Int32)) ≤ v5 then (S_X9_sendFile_85 rec25 σ t0 v1 v2 v3 v4)
  else ((o_gR σ 9 2 (some t0)).bind fun t59 =>
  (o_ldI σ 0 t59 ((((3000 : Int32) * v1) + ((100 : Int32) * v2)) + v5)).bind fun t75 =>
  (o_rcv σ 9 (some t0)).bind fun b76 =>
  (S_X9_more σ b76 t75).bind fun q76 =>
  rec41 q76 t0 v1 v2 v3 v4 (v5 + (1 : Int32))))
def S_X9_sendFile_41 (rec25 : hp → Nat → Int32 → Int32 → Int32 → Int32 → Option (hp)) : Nat → hp → Nat → Int32 → Int32 → Int32 → Int32 → Int32 → Option (hp)
  | 0, _, _, _, _, _, _, _ => none
  | n + 1, σ, t0, v1, v2, v3, v4, v5 => S_X9_sendFile_41_b rec25 (S_X9_sendFile_41 rec25 n) σ t0 v1 v2 v3 v4 v5
def S_X9_sendFile_25_b (rec25 : hp → Nat → Int32 → Int32 → Int32 → Int32 → Option (hp)) (σ : hp) (t0 : Nat) (v1 : Int32) (v2 : Int32) (v3 : Int32) (v4 : Int32) : Option (hp) :=
  if v3 ≤ v4 then (some σ)
  else ((o_rcv σ 9 (some t0)).bind fun b34 =>
  (S_X9_begin σ b34 (68 : Int32)).bind fun q34 =>
  S_X9_sendFile_41 rec25 FU q34 t0 v1 v2 v3 v4 v4)
def S_X9_sendFile_25 : Nat → hp → Nat → Int32 → Int32 → Int32 → Int32 → Option (hp)
  | 0, _, _, _, _, _, _ => none
  | n + 1, σ, t0, v1, v2, v3, v4 => S_X9_sendFile_25_b (S_X9_sendFile_25 n) σ t0 v1 v2 v3 v4
def S_X9_sendFile (σ : hp) (t0 : Nat) (v1 : Int32) : Option (hp) :=
  (o_gR σ 9 4 (some t0)).bind fun t1 =>
  (o_ldI σ 0 t1 ((30 : Int32) * v1)).bind fun t8 =>
  (o_gR σ 9 1 (some t0)).bind fun t11 =>
  (o_ldI σ 0 t11 (((30 : Int32) * v1) + t8)).bind fun t20 =>
  S_X9_sendFile_25 FU σ t0 v1 t8 t20 (0 : Int32)
def S_X9_execute_39_b (rec39 : hp → Nat → Int32 → Int32 → Int32 → Option (hp)) (σ : hp) (t0 : Nat) (v1 : Int32) (v2 : Int32) (v3 : Int32) : Option (hp) :=
  (o_gR σ 9 30 (some t0)).bind fun t41 =>
  (o_ldI σ 0 t41 v1).bind fun t45 =>
  if t45 ≤ v3 then ((o_gR σ 9 5 (some t0)).bind fun t78 =>
  (o_ldI σ 0 t78 v1).bind fun t83 =>
  (o_stI σ 0 t78 v1 (t83 + (1 : Int32))).bind fun s86 =>
  (o_gR s86 9 28 (some t0)).bind fun t88 =>
  (o_z (0 : Int32)).bind fun z93 =>
  (o_stI s86 1 t88 v1 z93).bind fun s93 =>
  (o_rcv s93 9 (some t0)).bind fun b98 =>
  (S_X9_say s93 b98 v1 (67 : Int32)).bind fun q98 =>
  some q98)
  else ((o_gR σ 9 8 (some t0)).bind fun t50 =>
  (o_gR σ 9 32 (some t0)).bind fun t60 =>
  (o_ldI σ 0 t60 (((100 : Int32) * v1) + v3)).bind fun t69 =>
  (o_stI σ 0 t50 (((100 : Int32) * v2) + v3) t69).bind fun s70 =>
  rec39 s70 t0 v1 v2 (v3 + (1 : Int32)))
def S_X9_execute_39 : Nat → hp → Nat → Int32 → Int32 → Int32 → Option (hp)
  | 0, _, _, _, _, _ => none
  | n + 1, σ, t0, v1, v2, v3 => S_X9_execute_39_b (S_X9_execute_39 n) σ t0 v1 v2 v3
def S_X9_execute (σ : hp) (t0 : Nat) (v1 : Int32) : Option (hp) :=
  (o_gR σ 9 5 (some t0)).bind fun t6 =>
  (o_ldI σ 0 t6 v1).bind fun t10 =>
  (o_gR σ 9 6 (some t0)).bind fun t14 =>
  (o_gR σ 9 29 (some t0)).bind fun t19 =>
  (o_ldI σ 0 t19 v1).bind fun t23 =>
  (o_stI σ 0 t14 (((256 : Int32) * v1) + t10) t23).bind fun s24 =>
  (o_gR s24 9 7 (some t0)).bind fun t26 =>
  (o_gR s24 9 30 (some t0)).bind fun t31 =>
  (o_ldI s24 0 t31 v1).bind fun t35 =>
  (o_stI s24 0 t26 (((256 : Int32) * v1) + t10) t35).bind fun s36 =>
  S_X9_execute_39 FU s36 t0 v1 (((256 : Int32) * v1) + t10) (0 : Int32)
def S_X9_acknowledge_37 (rec5 : hp → Nat → Int32 → Int32 → Int32 → Int32 → Option (hp)) (σ : hp) (t0 : Nat) (v1 : Int32) (v2 : Int32) (v4 : Int32) (w0 : Int32) : Option (hp) :=
  rec5 σ t0 v1 v2 w0 (v4 + (1 : Int32))
def S_X9_acknowledge_108_b (rec69 : hp → Nat → Int32 → Int32 → Int32 → Option (hp)) (rec108 : hp → Nat → Int32 → Int32 → Int32 → Int32 → Option (hp)) (σ : hp) (t0 : Nat) (v1 : Int32) (v4 : Int32) (v5 : Int32) (v6 : Int32) : Option (hp) :=
  if (32 : Int32) ≤ v6 then (rec69 σ t0 v1 v4 (v5 + (1 : Int32)))
  else ((o_gR σ 9 25 (some t0)).bind fun t116 =>
  (o_gR σ 9 25 (some t0)).bind fun t133 =>
  (o_ldI σ 0 t133 ((((96 : Int32) * v1) + ((32 : Int32) * (v5 + v4))) + v6)).bind fun t152 =>
  (o_stI σ 0 t116 ((((96 : Int32) * v1) + ((32 : Int32) * v5)) + v6) t152).bind fun s153 =>
  rec108 s153 t0 v1 v4 v5 (v6 + (1 : Int32)))
def S_X9_acknowledge_108 (rec69 : hp → Nat → Int32 → Int32 → Int32 → Option (hp)) : Nat → hp → Nat → Int32 → Int32 → Int32 → Int32 → Option (hp)
  | 0, _, _, _, _, _, _ => none
  | n + 1, σ, t0, v1, v4, v5, v6 => S_X9_acknowledge_108_b rec69 (S_X9_acknowledge_108 rec69 n) σ t0 v1 v4 v5 v6
def S_X9_acknowledge_69_b (rec69 : hp → Nat → Int32 → Int32 → Int32 → Option (hp)) (σ : hp) (t0 : Nat) (v1 : Int32) (v4 : Int32) (v5 : Int32) : Option (hp) :=
  (o_gR σ 9 23 (some t0)).bind fun t72 =>
  (o_ldI σ 0 t72 v1).bind fun t76 =>
  if t76 ≤ v5 then ((o_gR σ 9 33 (some t0)).bind fun t167 =>
  (o_stI σ 0 t167 v1 (0 : Int32)).bind fun s172 =>
  (o_gR s172 9 34 (some t0)).bind fun t174 =>
  (o_stI s172 0 t174 v1 (0 : Int32)).bind fun s179 =>
  some s179)
  else ((o_gR σ 9 24 (some t0)).bind fun t81 =>
  (o_gR σ 9 24 (some t0)).bind fun t91 =>
  (o_ldI σ 0 t91 ((((3 : Int32) * v1) + v5) + v4)).bind fun t103 =>
  (o_stI σ 0 t81 (((3 : Int32) * v1) + v5) t103).bind fun s104 =>
  S_X9_acknowledge_108 rec69 FU s104 t0 v1 v4 v5 (0 : Int32))
def S_X9_acknowledge_69 : Nat → hp → Nat → Int32 → Int32 → Int32 → Option (hp)
  | 0, _, _, _, _, _ => none
  | n + 1, σ, t0, v1, v4, v5 => S_X9_acknowledge_69_b (S_X9_acknowledge_69 n) σ t0 v1 v4 v5
def S_X9_acknowledge_5_b (rec5 : hp → Nat → Int32 → Int32 → Int32 → Int32 → Option (hp)) (σ : hp) (t0 : Nat) (v1 : Int32) (v2 : Int32) (v3 : Int32) (v4 : Int32) : Option (hp) :=
  (o_gR σ 9 23 (some t0)).bind fun t8 =>
  (o_ldI σ 0 t8 v1).bind fun t12 =>
  if t12 ≤ v4 then (if v3 = (-1 : Int32) then (some σ)
  else ((o_gR σ 9 23 (some t0)).bind fun t56 =>
  (o_ldI σ 0 t56 v1).bind fun t61 =>
  (o_stI σ 0 t56 v1 (t61 - (v3 + (1 : Int32)))).bind fun s65 =>
  S_X9_acknowledge_69 FU s65 t0 v1 (v3 + (1 : Int32)) (0 : Int32)))
  else ((o_gR σ 9 24 (some t0)).bind fun t17 =>
  (o_ldI σ 0 t17 (((3 : Int32) * v1) + v4)).bind fun t26 =>
  if t26 = v2 then (S_X9_acknowledge_37 rec5 σ t0 v1 v2 v4 v4)
  else (S_X9_acknowledge_37 rec5 σ t0 v1 v2 v4 v3))
def S_X9_acknowledge_5 : Nat → hp → Nat → Int32 → Int32 → Int32 → Int32 → Option (hp)
  | 0, _, _, _, _, _, _ => none
  | n + 1, σ, t0, v1, v2, v3, v4 => S_X9_acknowledge_5_b (S_X9_acknowledge_5 n) σ t0 v1 v2 v3 v4
def S_X9_acknowledge (σ : hp) (t0 : Nat) (v1 : Int32) (v2 : Int32) : Option (hp) :=
  S_X9_acknowledge_5 FU σ t0 v1 v2 (-1 : Int32) (0 : Int32)
def S_X9_sendAgain_48 (σ : hp) (w0 : Option Nat) (w1 : Int32) (w2 : Int32) : Option (hp) :=
  (o_stI σ 0 w0 w1 w2).bind fun s48 =>
  some s48
def S_X9_sendAgain_2_b (rec2 : hp → Nat → Int32 → Int32 → Option (hp)) (σ : hp) (t0 : Nat) (v1 : Int32) (v2 : Int32) : Option (hp) :=
  (o_gR σ 9 23 (some t0)).bind fun t4 =>
  (o_ldI σ 0 t4 v1).bind fun t8 =>
  if t8 ≤ v2 then ((o_gR σ 9 33 (some t0)).bind fun t25 =>
  (o_gR σ 9 23 (some t0)).bind fun t30 =>
  (o_ldI σ 0 t30 v1).bind fun t34 =>
  if t34 ≤ (0 : Int32) then ((o_gR σ 9 33 (some t0)).bind fun t43 =>
  (o_ldI σ 0 t43 v1).bind fun t47 =>
  S_X9_sendAgain_48 σ t25 v1 t47)
  else (S_X9_sendAgain_48 σ t25 v1 (0 : Int32)))
  else ((o_rcv σ 9 (some t0)).bind fun b15 =>
  (S_X9_data σ b15 v1 v2).bind fun q15 =>
  rec2 q15 t0 v1 (v2 + (1 : Int32)))
def S_X9_sendAgain_2 : Nat → hp → Nat → Int32 → Int32 → Option (hp)
  | 0, _, _, _, _ => none
  | n + 1, σ, t0, v1, v2 => S_X9_sendAgain_2_b (S_X9_sendAgain_2 n) σ t0 v1 v2
def S_X9_sendAgain (σ : hp) (t0 : Nat) (v1 : Int32) : Option (hp) :=
  S_X9_sendAgain_2 FU σ t0 v1 (0 : Int32)
def S_X9_offered_61 (σ : hp) : Option (hp) :=
  some σ
def S_X9_offered (σ : hp) (t0 : Nat) (v1 : Int32) (v2 : Int32) (v3 : Int32) : Option (hp) :=
  (o_rcv σ 9 (some t0)).bind fun b3 =>
  (S_X9_isExecuted σ b3 v1 v2).bind fun q3 =>
  if q3 = (0 : Int32) then ((o_rcv σ 9 (some t0)).bind fun b21 =>
  (S_X9_say σ b21 v1 (89 : Int32)).bind fun q21 =>
  (o_gR q21 9 28 (some t0)).bind fun t25 =>
  (o_z (1 : Int32)).bind fun z30 =>
  (o_stI q21 1 t25 v1 z30).bind fun s30 =>
  (o_gR s30 9 29 (some t0)).bind fun t32 =>
  (o_stI s30 0 t32 v1 v2).bind fun s37 =>
  (o_gR s37 9 30 (some t0)).bind fun t39 =>
  (o_stI s37 0 t39 v1 v3).bind fun s44 =>
  (o_gR s44 9 31 (some t0)).bind fun t46 =>
  (o_stI s44 0 t46 v1 (0 : Int32)).bind fun s51 =>
  if v3 = (0 : Int32) then ((o_rcv s51 9 (some t0)).bind fun b58 =>
  (S_X9_execute s51 b58 v1).bind fun q58 =>
  S_X9_offered_61 q58)
  else (S_X9_offered_61 s51))
  else ((o_rcv σ 9 (some t0)).bind fun b13 =>
  (S_X9_say σ b13 v1 (78 : Int32)).bind fun q13 =>
  some q13)
def S_X9_done_49 (σ : hp) : Option (hp) :=
  some σ
def S_X9_done_147 (σ : hp) : Option (hp) :=
  some σ
def S_X9_done_100 (σ : hp) (t0 : Nat) (v1 : Int32) : Option (hp) :=
  (o_rcv σ 9 (some t0)).bind fun b102 =>
  (S_X9_leave σ b102 v1).bind fun q102 =>
  (o_rcv q102 9 (some t0)).bind fun b107 =>
  (S_X9_goOn q102 b107 v1).bind fun q107 =>
  S_X9_done_147 q107
def S_X9_done_50 (σ : hp) (t0 : Nat) (v1 : Int32) (v3 : Int32) : Option (hp) :=
  if v3 = (67 : Int32) then (S_X9_done_100 σ t0 v1)
  else if v3 = (72 : Int32) then ((o_rcv σ 9 (some t0)).bind fun b125 =>
  (S_X9_control σ b125 v1 (1 : Int32) (0 : Int32)).bind fun q125 =>
  (o_rcv q125 9 (some t0)).bind fun b131 =>
  (S_X9_forget q125 b131 v1 (0 : Int32)).bind fun q131 =>
  S_X9_done_147 q131)
  else if v3 = (78 : Int32) then (S_X9_done_100 σ t0 v1)
  else if v3 = (84 : Int32) then ((o_gR σ 9 18 (some t0)).bind fun t138 =>
  (o_z (0 : Int32)).bind fun z143 =>
  (o_stI σ 1 t138 v1 z143).bind fun s143 =>
  S_X9_done_147 s143)
  else if v3 = (89 : Int32) then ((o_rcv σ 9 (some t0)).bind fun b115 =>
  (S_X9_sendFile σ b115 v1).bind fun q115 =>
  S_X9_done_147 q115)
  else (S_X9_done_147 σ)
def S_X9_done_345 (σ : hp) : Option (hp) :=
  some σ
def S_X9_done_273 (σ : hp) (t0 : Nat) (v1 : Int32) : Option (hp) :=
  (o_gR σ 9 31 (some t0)).bind fun t274 =>
  (o_ldI σ 0 t274 v1).bind fun t278 =>
  (o_gR σ 9 30 (some t0)).bind fun t280 =>
  (o_ldI σ 0 t280 v1).bind fun t284 =>
  if t278 = t284 then ((o_rcv σ 9 (some t0)).bind fun b290 =>
  (S_X9_execute σ b290 v1).bind fun q290 =>
  S_X9_done_345 q290)
  else (S_X9_done_345 σ)
def S_X9_done_213_b (rec213 : hp → Nat → Int32 → Int32 → Int32 → Option (hp)) (σ : hp) (t0 : Nat) (v1 : Int32) (v2 : Int32) (v4 : Int32) : Option (hp) :=
  if v2 < v4 then (S_X9_done_273 σ t0 v1)
  else ((o_gR σ 9 31 (some t0)).bind fun t220 =>
  (o_ldI σ 0 t220 v1).bind fun t224 =>
  (o_gR σ 9 30 (some t0)).bind fun t226 =>
  (o_ldI σ 0 t226 v1).bind fun t230 =>
  if t230 ≤ t224 then (S_X9_done_273 σ t0 v1)
  else ((o_gR σ 9 32 (some t0)).bind fun t235 =>
  (o_gR σ 9 31 (some t0)).bind fun t243 =>
  (o_ldI σ 0 t243 v1).bind fun t247 =>
  (o_gR σ 9 35 (some t0)).bind fun t250 =>
  (o_ldI σ 0 t250 v4).bind fun t255 =>
  (o_stI σ 0 t235 (((100 : Int32) * v1) + t247) t255).bind fun s256 =>
  (o_gR s256 9 31 (some t0)).bind fun t258 =>
  (o_ldI s256 0 t258 v1).bind fun t263 =>
  (o_stI s256 0 t258 v1 (t263 + (1 : Int32))).bind fun s266 =>
  rec213 s266 t0 v1 v2 (v4 + (1 : Int32))))
def S_X9_done_213 : Nat → hp → Nat → Int32 → Int32 → Int32 → Option (hp)
  | 0, _, _, _, _, _ => none
  | n + 1, σ, t0, v1, v2, v4 => S_X9_done_213_b (S_X9_done_213 n) σ t0 v1 v2 v4
def S_X9_done_296 (σ : hp) (t0 : Nat) (v1 : Int32) (v2 : Int32) (v3 : Int32) : Option (hp) :=
  if v3 = (72 : Int32) then (if v2 = (1 : Int32) then ((o_gR σ 9 3 (some t0)).bind fun t308 =>
  (o_ldI σ 0 t308 v1).bind fun t312 =>
  if t312 = (0 : Int32) then ((o_rcv σ 9 (some t0)).bind fun b320 =>
  (S_X9_say σ b320 v1 (72 : Int32)).bind fun q320 =>
  S_X9_done_345 q320)
  else ((o_rcv σ 9 (some t0)).bind fun b330 =>
  (S_X9_say σ b330 v1 (84 : Int32)).bind fun q330 =>
  (o_gR q330 9 18 (some t0)).bind fun t334 =>
  (o_z (1 : Int32)).bind fun z339 =>
  (o_stI q330 1 t334 v1 z339).bind fun s339 =>
  (o_rcv s339 9 (some t0)).bind fun b342 =>
  (S_X9_goOn s339 b342 v1).bind fun q342 =>
  S_X9_done_345 q342))
  else (S_X9_done_345 σ))
  else (S_X9_done_345 σ)
def S_X9_done_190 (σ : hp) (t0 : Nat) (v1 : Int32) (v2 : Int32) (v3 : Int32) : Option (hp) :=
  if v3 = (68 : Int32) then (if v2 ≤ (1 : Int32) then (S_X9_done_296 σ t0 v1 v2 v3)
  else ((o_gR σ 9 28 (some t0)).bind fun t202 =>
  (o_ldI σ 1 t202 v1).bind fun t206 =>
  if t206 = (0 : Int32) then (S_X9_done_296 σ t0 v1 v2 v3)
  else (S_X9_done_213 FU σ t0 v1 v2 (2 : Int32))))
  else (S_X9_done_296 σ t0 v1 v2 v3)
def S_X9_done (σ : hp) (t0 : Nat) (v1 : Int32) : Option (hp) :=
  (o_gR σ 9 35 (some t0)).bind fun t1 =>
  (o_ldI σ 0 t1 (0 : Int32)).bind fun t5 =>
  (o_gR σ 9 35 (some t0)).bind fun t8 =>
  (o_ldI σ 0 t8 (1 : Int32)).bind fun t12 =>
  (o_gR σ 9 18 (some t0)).bind fun t15 =>
  (o_ldI σ 1 t15 v1).bind fun t19 =>
  if t19 = (0 : Int32) then (if t12 = (83 : Int32) then (if t5 = (3 : Int32) then ((o_gR σ 9 35 (some t0)).bind fun t160 =>
  (o_ldI σ 0 t160 (3 : Int32)).bind fun t164 =>
  if (100 : Int32) < t164 then (S_X9_done_345 σ)
  else ((o_gR σ 9 35 (some t0)).bind fun t173 =>
  (o_ldI σ 0 t173 (2 : Int32)).bind fun t177 =>
  (o_gR σ 9 35 (some t0)).bind fun t179 =>
  (o_ldI σ 0 t179 (3 : Int32)).bind fun t183 =>
  (o_rcv σ 9 (some t0)).bind fun b184 =>
  (S_X9_offered σ b184 v1 t177 t183).bind fun q184 =>
  S_X9_done_345 q184))
  else (S_X9_done_190 σ t0 v1 t5 t12))
  else (S_X9_done_190 σ t0 v1 t5 t12))
  else (if t5 = (1 : Int32) then (if t12 = (72 : Int32) then (S_X9_done_50 σ t0 v1 t12)
  else (if t12 = (84 : Int32) then (S_X9_done_50 σ t0 v1 t12)
  else ((o_gR σ 9 3 (some t0)).bind fun t41 =>
  (o_ldI σ 0 t41 v1).bind fun t45 =>
  if t45 = (0 : Int32) then (S_X9_done_49 σ)
  else (S_X9_done_50 σ t0 v1 t12))))
  else (S_X9_done_49 σ))
def S_X9_come_135 (σ : hp) : Option (hp) :=
  some σ
def S_X9_come_108 (σ : hp) (t0 : Nat) (v1 : Int32) (v4 : Int32) (v6 : Int32) : Option (hp) :=
  if v6 = (0 : Int32) then ((o_rcv σ 9 (some t0)).bind fun b116 =>
  (S_X9_forget σ b116 v1 (2 : Int32)).bind fun q116 =>
  (o_gR q116 9 19 (some t0)).bind fun t120 =>
  (o_stI q116 0 t120 v1 v4).bind fun s126 =>
  (o_rcv s126 9 (some t0)).bind fun b132 =>
  (S_X9_control s126 b132 v1 (5 : Int32) v4).bind fun q132 =>
  S_X9_come_135 q132)
  else (S_X9_come_135 σ)
def S_X9_come_92 (σ : hp) (t0 : Nat) (v1 : Int32) (v4 : Int32) (w0 : Int32) : Option (hp) :=
  if v1 = (0 : Int32) then ((o_gR σ 9 17 (some t0)).bind fun t99 =>
  (o_ldI σ 0 t99 v1).bind fun t103 =>
  if t103 = (1 : Int32) then (S_X9_come_135 σ)
  else (S_X9_come_108 σ t0 v1 v4 w0))
  else (S_X9_come_108 σ t0 v1 v4 w0)
def S_X9_come_91 (σ : hp) (t0 : Nat) (v1 : Int32) (v4 : Int32) : Option (hp) :=
  S_X9_come_92 σ t0 v1 v4 (0 : Int32)
def S_X9_come_197 (σ : hp) : Option (hp) :=
  some σ
def S_X9_come_418 (σ : hp) : Option (hp) :=
  some σ
def S_X9_come_371_b (rec371 : hp → Nat → Int32 → Int32 → Option (hp)) (σ : hp) (t0 : Nat) (v1 : Int32) (v6 : Int32) : Option (hp) :=
  if (32 : Int32) ≤ v6 then ((o_rcv σ 9 (some t0)).bind fun b400 =>
  (S_X9_done σ b400 v1).bind fun q400 =>
  S_X9_come_418 q400)
  else ((o_gR σ 9 35 (some t0)).bind fun t379 =>
  (o_gR σ 9 36 (some t0)).bind fun t385 =>
  (o_ldI σ 0 t385 v6).bind fun t390 =>
  (o_stI σ 0 t379 v6 t390).bind fun s391 =>
  rec371 s391 t0 v1 (v6 + (1 : Int32)))
def S_X9_come_371 : Nat → hp → Nat → Int32 → Int32 → Option (hp)
  | 0, _, _, _, _ => none
  | n + 1, σ, t0, v1, v6 => S_X9_come_371_b (S_X9_come_371 n) σ t0 v1 v6
def S_X9_come_300_b (rec300 : hp → Nat → Int32 → Int32 → Int32 → Option (hp)) (σ : hp) (t0 : Nat) (v1 : Int32) (v3 : Int32) (v6 : Int32) : Option (hp) :=
  if (32 : Int32) ≤ v6 then ((o_rcv σ 9 (some t0)).bind fun b329 =>
  (S_X9_flow σ b329 v1).bind fun q329 =>
  (o_gR q329 9 21 (some t0)).bind fun t334 =>
  (o_ldI q329 0 t334 v1).bind fun t338 =>
  if v3 = ((t338 + (1 : Int32)) - (t338 + (1 : Int32)) / (8 : Int32) * (8 : Int32)) then ((o_gR q329 9 21 (some t0)).bind fun t348 =>
  (o_stI q329 0 t348 v1 v3).bind fun s353 =>
  (o_gR s353 9 20 (some t0)).bind fun t355 =>
  (o_z (1 : Int32)).bind fun z360 =>
  (o_stI s353 1 t355 v1 z360).bind fun s360 =>
  (o_rcv s360 9 (some t0)).bind fun b365 =>
  (S_X9_control s360 b365 v1 (4 : Int32) v3).bind fun q365 =>
  S_X9_come_371 FU q365 t0 v1 (0 : Int32))
  else ((o_gR q329 9 21 (some t0)).bind fun t410 =>
  (o_ldI q329 0 t410 v1).bind fun t414 =>
  (o_rcv q329 9 (some t0)).bind fun b415 =>
  (S_X9_control q329 b415 v1 (4 : Int32) t414).bind fun q415 =>
  S_X9_come_418 q415))
  else ((o_gR σ 9 36 (some t0)).bind fun t308 =>
  (o_gR σ 9 35 (some t0)).bind fun t314 =>
  (o_ldI σ 0 t314 v6).bind fun t319 =>
  (o_stI σ 0 t308 v6 t319).bind fun s320 =>
  rec300 s320 t0 v1 v3 (v6 + (1 : Int32)))
def S_X9_come_300 : Nat → hp → Nat → Int32 → Int32 → Int32 → Option (hp)
  | 0, _, _, _, _, _ => none
  | n + 1, σ, t0, v1, v3, v6 => S_X9_come_300_b (S_X9_come_300 n) σ t0 v1 v3 v6
def S_X9_come_286 (σ : hp) (t0 : Nat) (v1 : Int32) (v3 : Int32) (v5 : Int32) : Option (hp) :=
  if v5 = (0 : Int32) then ((o_rcv σ 9 (some t0)).bind fun b293 =>
  (S_X9_flow σ b293 v1).bind fun q293 =>
  some q293)
  else (S_X9_come_300 FU σ t0 v1 v3 (0 : Int32))
def S_X9_come_264 (σ : hp) (t0 : Nat) (v1 : Int32) (v3 : Int32) (v4 : Int32) (v5 : Int32) : Option (hp) :=
  (o_rcv σ 9 (some t0)).bind fun b268 =>
  (S_X9_acknowledge σ b268 v1 v4).bind fun q268 =>
  if v5 = (0 : Int32) then (if v3 = (2 : Int32) then ((o_rcv q268 9 (some t0)).bind fun b283 =>
  (S_X9_sendAgain q268 b283 v1).bind fun q283 =>
  S_X9_come_286 q283 t0 v1 v3 v5)
  else (S_X9_come_286 q268 t0 v1 v3 v5))
  else (S_X9_come_286 q268 t0 v1 v3 v5)
def S_X9_come_229_b (rec229 : hp → Nat → Int32 → Int32 → Int32 → Int32 → Int32 → Option (hp)) (σ : hp) (t0 : Nat) (v1 : Int32) (v3 : Int32) (v4 : Int32) (v5 : Int32) (v6 : Int32) : Option (hp) :=
  if (32 : Int32) ≤ v6 then (S_X9_come_264 σ t0 v1 v3 v4 v5)
  else (if v5 = (0 : Int32) then (S_X9_come_264 σ t0 v1 v3 v4 v5)
  else ((o_gR σ 9 35 (some t0)).bind fun t242 =>
  (o_gR σ 9 15 (some t0)).bind fun t248 =>
  (o_ldI σ 0 t248 ((6 : Int32) + v6)).bind fun t256 =>
  (o_stI σ 0 t242 v6 t256).bind fun s257 =>
  rec229 s257 t0 v1 v3 v4 v5 (v6 + (1 : Int32))))
def S_X9_come_229 : Nat → hp → Nat → Int32 → Int32 → Int32 → Int32 → Int32 → Option (hp)
  | 0, _, _, _, _, _, _, _ => none
  | n + 1, σ, t0, v1, v3, v4, v5, v6 => S_X9_come_229_b (S_X9_come_229 n) σ t0 v1 v3 v4 v5 v6
def S_X9_come_226 (σ : hp) (t0 : Nat) (v1 : Int32) (v3 : Int32) (v4 : Int32) (v5 : Int32) : Option (hp) :=
  S_X9_come_229 FU σ t0 v1 v3 v4 v5 (0 : Int32)
def S_X9_come_198 (σ : hp) (t0 : Nat) (v1 : Int32) (v3 : Int32) (v4 : Int32) (v5 : Int32) : Option (hp) :=
  (o_gR σ 9 17 (some t0)).bind fun t199 =>
  (o_ldI σ 0 t199 v1).bind fun t203 =>
  if t203 = (2 : Int32) then (if v5 = (0 : Int32) then (if v3 = (1 : Int32) then ((o_rcv σ 9 (some t0)).bind fun b222 =>
  (S_X9_forget σ b222 v1 (0 : Int32)).bind fun q222 =>
  some q222)
  else (S_X9_come_226 σ t0 v1 v3 v4 v5))
  else (S_X9_come_226 σ t0 v1 v3 v4 v5))
  else (some σ)
def S_X9_come_136 (σ : hp) (t0 : Nat) (v1 : Int32) (v3 : Int32) (v4 : Int32) (v5 : Int32) : Option (hp) :=
  if v5 = (0 : Int32) then (if v3 = (5 : Int32) then ((o_gR σ 9 17 (some t0)).bind fun t147 =>
  (o_ldI σ 0 t147 v1).bind fun t151 =>
  if t151 = (1 : Int32) then ((o_gR σ 9 9 (some t0)).bind fun t157 =>
  (o_ldI σ 0 t157 v1).bind fun t161 =>
  if ((t161 - (1 : Int32)) - (t161 - (1 : Int32)) / (8 : Int32) * (8 : Int32)) = v4 then ((o_rcv σ 9 (some t0)).bind fun b175 =>
  (S_X9_forget σ b175 v1 (2 : Int32)).bind fun q175 =>
  (o_gR q175 9 18 (some t0)).bind fun t179 =>
  (o_z (1 : Int32)).bind fun z184 =>
  (o_stI q175 1 t179 v1 z184).bind fun s184 =>
  (o_gR s184 9 19 (some t0)).bind fun t186 =>
  (o_stI s184 0 t186 v1 (-1 : Int32)).bind fun s191 =>
  (o_rcv s191 9 (some t0)).bind fun b194 =>
  (S_X9_goOn s191 b194 v1).bind fun q194 =>
  S_X9_come_197 q194)
  else (S_X9_come_197 σ))
  else (S_X9_come_197 σ))
  else (S_X9_come_198 σ t0 v1 v3 v4 v5))
  else (S_X9_come_198 σ t0 v1 v3 v4 v5)
def S_X9_come_35 (σ : hp) (t0 : Nat) (v1 : Int32) (v3 : Int32) (v4 : Int32) (w0 : Int32) : Option (hp) :=
  if w0 = (0 : Int32) then (if v3 = (7 : Int32) then ((o_gR σ 9 17 (some t0)).bind fun t49 =>
  (o_ldI σ 0 t49 v1).bind fun t53 =>
  if t53 = (2 : Int32) then ((o_gR σ 9 18 (some t0)).bind fun t59 =>
  (o_ldI σ 1 t59 v1).bind fun t63 =>
  if t63 = (0 : Int32) then ((o_gR σ 9 19 (some t0)).bind fun t68 =>
  (o_ldI σ 0 t68 v1).bind fun t72 =>
  if t72 = v4 then ((o_gR σ 9 20 (some t0)).bind fun t79 =>
  (o_ldI σ 1 t79 v1).bind fun t83 =>
  if t83 = (0 : Int32) then (S_X9_come_91 σ t0 v1 v4)
  else (S_X9_come_92 σ t0 v1 v4 (1 : Int32)))
  else (S_X9_come_91 σ t0 v1 v4))
  else (S_X9_come_91 σ t0 v1 v4))
  else (S_X9_come_91 σ t0 v1 v4))
  else (S_X9_come_136 σ t0 v1 v3 v4 w0))
  else (S_X9_come_136 σ t0 v1 v3 v4 w0)
def S_X9_come (σ : hp) (t0 : Nat) (v1 : Int32) : Option (hp) :=
  (o_gR σ 9 15 (some t0)).bind fun t1 =>
  (o_ldI σ 0 t1 (4 : Int32)).bind fun t5 =>
  (o_gR σ 9 15 (some t0)).bind fun t21 =>
  (o_ldI σ 0 t21 (1 : Int32)).bind fun t25 =>
  if t25 = (1 : Int32) then (S_X9_come_35 σ t0 v1 ((t5 >>> ((3 : Int32) &&& 31)) &&& (7 : Int32)) (t5 &&& (7 : Int32)) (1 : Int32))
  else (S_X9_come_35 σ t0 v1 ((t5 >>> ((3 : Int32) &&& 31)) &&& (7 : Int32)) (t5 &&& (7 : Int32)) (0 : Int32))
def S_X9_takeFirst_93_b (rec57 : hp → Nat → Int32 → Int32 → Option (hp)) (rec93 : hp → Nat → Int32 → Int32 → Int32 → Option (hp)) (σ : hp) (t0 : Nat) (v1 : Int32) (v2 : Int32) (v3 : Int32) : Option (hp) :=
  if (38 : Int32) ≤ v3 then (rec57 σ t0 v1 (v2 + (1 : Int32)))
  else ((o_gR σ 9 13 (some t0)).bind fun t100 =>
  (o_gR σ 9 13 (some t0)).bind fun t116 =>
  (o_ldI σ 0 t116 ((((456 : Int32) * v1) + ((38 : Int32) * (v2 + (1 : Int32)))) + v3)).bind fun t133 =>
  (o_stI σ 0 t100 ((((456 : Int32) * v1) + ((38 : Int32) * v2)) + v3) t133).bind fun s134 =>
  rec93 s134 t0 v1 v2 (v3 + (1 : Int32)))
def S_X9_takeFirst_93 (rec57 : hp → Nat → Int32 → Int32 → Option (hp)) : Nat → hp → Nat → Int32 → Int32 → Int32 → Option (hp)
  | 0, _, _, _, _, _ => none
  | n + 1, σ, t0, v1, v2, v3 => S_X9_takeFirst_93_b rec57 (S_X9_takeFirst_93 rec57 n) σ t0 v1 v2 v3
def S_X9_takeFirst_57_b (rec57 : hp → Nat → Int32 → Int32 → Option (hp)) (σ : hp) (t0 : Nat) (v1 : Int32) (v2 : Int32) : Option (hp) :=
  (o_gR σ 9 12 (some t0)).bind fun t59 =>
  (o_ldI σ 0 t59 v1).bind fun t63 =>
  if t63 ≤ v2 then (some σ)
  else ((o_gR σ 9 14 (some t0)).bind fun t68 =>
  (o_gR σ 9 14 (some t0)).bind fun t78 =>
  (o_ldI σ 0 t78 ((((12 : Int32) * v1) + v2) + (1 : Int32))).bind fun t89 =>
  (o_stI σ 0 t68 (((12 : Int32) * v1) + v2) t89).bind fun s90 =>
  S_X9_takeFirst_93 rec57 FU s90 t0 v1 v2 (0 : Int32))
def S_X9_takeFirst_57 : Nat → hp → Nat → Int32 → Int32 → Option (hp)
  | 0, _, _, _, _ => none
  | n + 1, σ, t0, v1, v2 => S_X9_takeFirst_57_b (S_X9_takeFirst_57 n) σ t0 v1 v2
def S_X9_takeFirst_15_b (rec15 : hp → Nat → Int32 → Int32 → Option (hp)) (σ : hp) (t0 : Nat) (v1 : Int32) (v2 : Int32) : Option (hp) :=
  if (38 : Int32) ≤ v2 then ((o_gR σ 9 12 (some t0)).bind fun t46 =>
  (o_ldI σ 0 t46 v1).bind fun t51 =>
  (o_stI σ 0 t46 v1 (t51 - (1 : Int32))).bind fun s54 =>
  S_X9_takeFirst_57 FU s54 t0 v1 (0 : Int32))
  else ((o_gR σ 9 15 (some t0)).bind fun t22 =>
  (o_gR σ 9 13 (some t0)).bind fun t27 =>
  (o_ldI σ 0 t27 (((456 : Int32) * v1) + v2)).bind fun t37 =>
  (o_stI σ 0 t22 v2 t37).bind fun s38 =>
  rec15 s38 t0 v1 (v2 + (1 : Int32)))
def S_X9_takeFirst_15 : Nat → hp → Nat → Int32 → Int32 → Option (hp)
  | 0, _, _, _, _ => none
  | n + 1, σ, t0, v1, v2 => S_X9_takeFirst_15_b (S_X9_takeFirst_15 n) σ t0 v1 v2
def S_X9_takeFirst (σ : hp) (t0 : Nat) (v1 : Int32) : Option (hp) :=
  (o_gR σ 9 14 (some t0)).bind fun t2 =>
  (o_ldI σ 0 t2 ((12 : Int32) * v1)).bind fun t9 =>
  (o_pI σ 9 16 (some t0) t9).bind fun s10 =>
  S_X9_takeFirst_15 FU s10 t0 v1 (0 : Int32)
def S_X9_call_16 (σ : hp) : Option (Int32 × hp) :=
  some ((0 : Int32), σ)
def S_X9_call (σ : hp) (t0 : Nat) (v1 : Int32) : Option (Int32 × hp) :=
  (S_X9_isSite σ v1).bind fun q1 =>
  if q1 = (0 : Int32) then (S_X9_call_16 σ)
  else ((o_gR σ 9 17 (some t0)).bind fun t8 =>
  (o_ldI σ 0 t8 v1).bind fun t12 =>
  if t12 = (0 : Int32) then ((o_gR σ 9 12 (some t0)).bind fun t19 =>
  (o_stI σ 0 t19 (0 : Int32) (0 : Int32)).bind fun s24 =>
  (o_gR s24 9 12 (some t0)).bind fun t26 =>
  (o_stI s24 0 t26 (1 : Int32) (0 : Int32)).bind fun s31 =>
  (o_rcv s31 9 (some t0)).bind fun b35 =>
  (S_X9_forget s31 b35 v1 (1 : Int32)).bind fun q35 =>
  (o_gR q35 9 9 (some t0)).bind fun t43 =>
  (o_ldI q35 0 t43 v1).bind fun t47 =>
  (o_rcv q35 9 (some t0)).bind fun b51 =>
  (S_X9_control q35 b51 v1 (7 : Int32) (t47 - t47 / (8 : Int32) * (8 : Int32))).bind fun q51 =>
  (o_gR q51 9 9 (some t0)).bind fun t55 =>
  (o_ldI q51 0 t55 v1).bind fun t60 =>
  (o_stI q51 0 t55 v1 (t60 + (1 : Int32))).bind fun s63 =>
  some ((1 : Int32), s63))
  else (S_X9_call_16 σ))
def S_X9_deliver_16 (σ : hp) : Option (Int32 × hp) :=
  some ((-1 : Int32), σ)
def S_X9_deliver_56 (σ : hp) : Option (Int32 × hp) :=
  some ((0 : Int32), σ)
def S_X9_deliver_92 (σ : hp) (t0 : Nat) (v2 : Int32) (w0 : Option Nat) (w1 : Int32) (w2 : Int32) : Option (Int32 × hp) :=
  (o_stI σ 0 w0 w1 w2).bind fun s92 =>
  (o_rcv s92 9 (some t0)).bind fun b95 =>
  (S_X9_come s92 b95 v2).bind fun q95 =>
  some ((1 : Int32), q95)
def S_X9_deliver_86 (σ : hp) (t0 : Nat) (v2 : Int32) (w0 : Option Nat) (w1 : Int32) : Option (Int32 × hp) :=
  (o_gR σ 9 33 (some t0)).bind fun t87 =>
  (o_ldI σ 0 t87 v2).bind fun t91 =>
  S_X9_deliver_92 σ t0 v2 w0 w1 t91
def S_X9_deliver (σ : hp) (t0 : Nat) (v1 : Int32) : Option (Int32 × hp) :=
  (S_X9_isSite σ v1).bind fun q1 =>
  if q1 = (0 : Int32) then (S_X9_deliver_16 σ)
  else ((o_gR σ 9 12 (some t0)).bind fun t8 =>
  (o_ldI σ 0 t8 v1).bind fun t12 =>
  if t12 = (0 : Int32) then (S_X9_deliver_16 σ)
  else ((o_rcv σ 9 (some t0)).bind fun b24 =>
  (S_X9_takeFirst σ b24 v1).bind fun q24 =>
  (o_rcv q24 9 (some t0)).bind fun b28 =>
  (S_X9_isGood q24 b28 ).bind fun q28 =>
  if q28 = (0 : Int32) then ((o_gR q24 9 17 (some t0)).bind fun t35 =>
  (o_ldI q24 0 t35 ((1 : Int32) - v1)).bind fun t39 =>
  if t39 = (2 : Int32) then ((o_gR q24 9 21 (some t0)).bind fun t48 =>
  (o_ldI q24 0 t48 ((1 : Int32) - v1)).bind fun t52 =>
  (o_rcv q24 9 (some t0)).bind fun b53 =>
  (S_X9_control q24 b53 ((1 : Int32) - v1) (2 : Int32) t52).bind fun q53 =>
  S_X9_deliver_56 q53)
  else (S_X9_deliver_56 q24))
  else ((o_gR q24 9 33 (some t0)).bind fun t59 =>
  (o_gR q24 9 17 (some t0)).bind fun t64 =>
  (o_ldI q24 0 t64 ((1 : Int32) - v1)).bind fun t68 =>
  if t68 = (2 : Int32) then ((o_gR q24 9 23 (some t0)).bind fun t74 =>
  (o_ldI q24 0 t74 ((1 : Int32) - v1)).bind fun t78 =>
  if t78 = (0 : Int32) then (S_X9_deliver_92 q24 t0 ((1 : Int32) - v1) t59 ((1 : Int32) - v1) (0 : Int32))
  else (S_X9_deliver_86 q24 t0 ((1 : Int32) - v1) t59 ((1 : Int32) - v1)))
  else (S_X9_deliver_86 q24 t0 ((1 : Int32) - v1) t59 ((1 : Int32) - v1)))))
def S_X9_lose_16 (σ : hp) : Option (Int32 × hp) :=
  some ((0 : Int32), σ)
def S_X9_lose (σ : hp) (t0 : Nat) (v1 : Int32) : Option (Int32 × hp) :=
  (S_X9_isSite σ v1).bind fun q1 =>
  if q1 = (0 : Int32) then (S_X9_lose_16 σ)
  else ((o_gR σ 9 12 (some t0)).bind fun t8 =>
  (o_ldI σ 0 t8 v1).bind fun t12 =>
  if t12 = (0 : Int32) then (S_X9_lose_16 σ)
  else ((o_rcv σ 9 (some t0)).bind fun b20 =>
  (S_X9_takeFirst σ b20 v1).bind fun q20 =>
  some ((1 : Int32), q20)))
def S_X9_alter_45 (σ : hp) : Option (Int32 × hp) :=
  some ((0 : Int32), σ)
def S_X9_alter (σ : hp) (t0 : Nat) (v1 : Int32) (v2 : Int32) (v3 : Int32) : Option (Int32 × hp) :=
  (S_X9_isSite σ v1).bind fun q1 =>
  if q1 = (0 : Int32) then (S_X9_alter_45 σ)
  else ((o_gR σ 9 12 (some t0)).bind fun t8 =>
  (o_ldI σ 0 t8 v1).bind fun t12 =>
  if t12 = (0 : Int32) then (S_X9_alter_45 σ)
  else (if v2 < (0 : Int32) then (S_X9_alter_45 σ)
  else ((o_gR σ 9 14 (some t0)).bind fun t22 =>
  (o_ldI σ 0 t22 ((12 : Int32) * v1)).bind fun t29 =>
  if t29 ≤ v2 then (S_X9_alter_45 σ)
  else (if v3 < (1 : Int32) then (S_X9_alter_45 σ)
  else (if v3 ≤ (255 : Int32) then ((o_gR σ 9 13 (some t0)).bind fun t48 =>
  (o_gR σ 9 13 (some t0)).bind fun t59 =>
  (o_ldI σ 0 t59 (((456 : Int32) * v1) + v2)).bind fun t69 =>
  (o_stI σ 0 t48 (((456 : Int32) * v1) + v2) (t69 ^^^ v3)).bind fun s72 =>
  some ((1 : Int32), s72))
  else (S_X9_alter_45 σ))))))
def S_X9_tickOf_57 (σ : hp) : Option (Int32 × hp) :=
  some ((0 : Int32), σ)
def S_X9_tickOf_59 (σ : hp) (t0 : Nat) (v1 : Int32) : Option (Int32 × hp) :=
  (o_gR σ 9 33 (some t0)).bind fun t60 =>
  (o_ldI σ 0 t60 v1).bind fun t64 =>
  if (4 : Int32) ≤ t64 then ((o_gR σ 9 34 (some t0)).bind fun t72 =>
  (o_ldI σ 0 t72 v1).bind fun t76 =>
  if t76 = (5 : Int32) then ((o_rcv σ 9 (some t0)).bind fun b84 =>
  (S_X9_forget σ b84 v1 (0 : Int32)).bind fun q84 =>
  some ((0 : Int32), q84))
  else ((o_gR σ 9 34 (some t0)).bind fun t90 =>
  (o_ldI σ 0 t90 v1).bind fun t95 =>
  (o_stI σ 0 t90 v1 (t95 + (1 : Int32))).bind fun s98 =>
  (o_gR s98 9 33 (some t0)).bind fun t100 =>
  (o_stI s98 0 t100 v1 (0 : Int32)).bind fun s105 =>
  (o_gR s105 9 17 (some t0)).bind fun t107 =>
  (o_ldI s105 0 t107 v1).bind fun t111 =>
  if t111 = (1 : Int32) then ((o_gR s105 9 9 (some t0)).bind fun t121 =>
  (o_ldI s105 0 t121 v1).bind fun t125 =>
  (o_rcv s105 9 (some t0)).bind fun b131 =>
  (S_X9_control s105 b131 v1 (7 : Int32) ((t125 - (1 : Int32)) - (t125 - (1 : Int32)) / (8 : Int32) * (8 : Int32))).bind fun q131 =>
  some ((1 : Int32), q131))
  else ((o_rcv s105 9 (some t0)).bind fun b138 =>
  (S_X9_sendAgain s105 b138 v1).bind fun q138 =>
  (o_gR q138 9 23 (some t0)).bind fun t142 =>
  (o_ldI q138 0 t142 v1).bind fun t146 =>
  some (t146, q138))))
  else (some ((0 : Int32), σ))
def S_X9_tickOf (σ : hp) (t0 : Nat) (v1 : Int32) : Option (Int32 × hp) :=
  (o_gR σ 9 17 (some t0)).bind fun t1 =>
  (o_ldI σ 0 t1 v1).bind fun t5 =>
  if t5 = (0 : Int32) then (some ((0 : Int32), σ))
  else ((o_gR σ 9 33 (some t0)).bind fun t12 =>
  (o_ldI σ 0 t12 v1).bind fun t17 =>
  (o_stI σ 0 t12 v1 (t17 + (1 : Int32))).bind fun s20 =>
  (o_gR s20 9 17 (some t0)).bind fun t22 =>
  (o_ldI s20 0 t22 v1).bind fun t26 =>
  if t26 = (2 : Int32) then ((o_gR s20 9 23 (some t0)).bind fun t32 =>
  (o_ldI s20 0 t32 v1).bind fun t36 =>
  if t36 = (0 : Int32) then ((o_gR s20 9 33 (some t0)).bind fun t41 =>
  (o_ldI s20 0 t41 v1).bind fun t45 =>
  if t45 = (41 : Int32) then ((o_rcv s20 9 (some t0)).bind fun b54 =>
  (S_X9_forget s20 b54 v1 (0 : Int32)).bind fun q54 =>
  S_X9_tickOf_57 q54)
  else (S_X9_tickOf_57 s20))
  else (S_X9_tickOf_59 s20 t0 v1))
  else (S_X9_tickOf_59 s20 t0 v1))
def S_X9_tick (σ : hp) (t0 : Nat) : Option (Int32 × hp) :=
  (o_rcv σ 9 (some t0)).bind fun b2 =>
  (S_X9_tickOf σ b2 (0 : Int32)).bind fun q2 =>
  (o_rcv q2.2 9 (some t0)).bind fun b9 =>
  (S_X9_tickOf q2.2 b9 (1 : Int32)).bind fun q9 =>
  some ((q2.1 + q9.1), q9.2)
def S_X9_crash (σ : hp) (t0 : Nat) (v1 : Int32) : Option (Int32 × hp) :=
  (S_X9_isSite σ v1).bind fun q1 =>
  if q1 = (0 : Int32) then (some ((0 : Int32), σ))
  else ((o_rcv σ 9 (some t0)).bind fun b12 =>
  (S_X9_forget σ b12 v1 (0 : Int32)).bind fun q12 =>
  some ((1 : Int32), q12))
def S_X9_settle_12 (σ : hp) : Option (Int32 × hp) :=
  some ((-1 : Int32), σ)
def S_X9_settle_55 (rec18 : hp → Nat → Int32 → Int32 → Int32 → Option (Int32 × hp)) (σ : hp) (t0 : Nat) (v1 : Int32) (v2 : Int32) (w0 : Int32) : Option (Int32 × hp) :=
  (o_rcv σ 9 (some t0)).bind fun b58 =>
  (S_X9_deliver σ b58 w0).bind fun q58 =>
  rec18 q58.2 t0 v1 (v2 + (1 : Int32)) ((1 : Int32) - w0)
def S_X9_settle_73 (σ : hp) (v2 : Int32) : Option (Int32 × hp) :=
  some (v2, σ)
def S_X9_settle_18_b (rec18 : hp → Nat → Int32 → Int32 → Int32 → Option (Int32 × hp)) (σ : hp) (t0 : Nat) (v1 : Int32) (v2 : Int32) (v3 : Int32) : Option (Int32 × hp) :=
  if v1 ≤ v2 then (S_X9_settle_73 σ v2)
  else ((o_gR σ 9 12 (some t0)).bind fun t24 =>
  (o_ldI σ 0 t24 (0 : Int32)).bind fun t28 =>
  (o_gR σ 9 12 (some t0)).bind fun t30 =>
  (o_ldI σ 0 t30 (1 : Int32)).bind fun t34 =>
  if (t28 + t34) ≤ (0 : Int32) then (S_X9_settle_73 σ v2)
  else ((o_gR σ 9 12 (some t0)).bind fun t40 =>
  (o_ldI σ 0 t40 v3).bind fun t44 =>
  if t44 = (0 : Int32) then (S_X9_settle_55 rec18 σ t0 v1 v2 ((1 : Int32) - v3))
  else (S_X9_settle_55 rec18 σ t0 v1 v2 v3)))
def S_X9_settle_18 : Nat → hp → Nat → Int32 → Int32 → Int32 → Option (Int32 × hp)
  | 0, _, _, _, _, _ => none
  | n + 1, σ, t0, v1, v2, v3 => S_X9_settle_18_b (S_X9_settle_18 n) σ t0 v1 v2 v3
def S_X9_settle (σ : hp) (t0 : Nat) (v1 : Int32) : Option (Int32 × hp) :=
  if v1 < (1 : Int32) then (S_X9_settle_12 σ)
  else (if v1 ≤ (200 : Int32) then (S_X9_settle_18 FU σ t0 v1 (0 : Int32) (0 : Int32))
  else (S_X9_settle_12 σ))
def S_X9_waiting_17 (σ : hp) (w0 : Int32) : Option (Int32) :=
  some w0
def S_X9_waiting (σ : hp) (t0 : Nat) (v1 : Int32) : Option (Int32) :=
  (S_X9_isSite σ v1).bind fun q1 =>
  if q1 = (0 : Int32) then (S_X9_waiting_17 σ (-1 : Int32))
  else ((o_gR σ 9 12 (some t0)).bind fun t8 =>
  (o_ldI σ 0 t8 v1).bind fun t12 =>
  S_X9_waiting_17 σ t12)
def S_X9_look_61 (σ : hp) (w0 : Int32) : Option (Int32) :=
  some w0
def S_X9_look_40 (σ : hp) : Option (Int32) :=
  S_X9_look_61 σ (-1 : Int32)
def S_X9_look (σ : hp) (t0 : Nat) (v1 : Int32) (v2 : Int32) (v3 : Int32) : Option (Int32) :=
  (S_X9_isSite σ v1).bind fun q1 =>
  if q1 = (0 : Int32) then (S_X9_look_40 σ)
  else (if v2 < (0 : Int32) then (S_X9_look_40 σ)
  else ((o_gR σ 9 12 (some t0)).bind fun t13 =>
  (o_ldI σ 0 t13 v1).bind fun t17 =>
  if t17 ≤ v2 then (S_X9_look_40 σ)
  else (if v3 < (0 : Int32) then (S_X9_look_40 σ)
  else ((o_gR σ 9 14 (some t0)).bind fun t27 =>
  (o_ldI σ 0 t27 (((12 : Int32) * v1) + v2)).bind fun t36 =>
  if v3 < t36 then ((o_gR σ 9 13 (some t0)).bind fun t45 =>
  (o_ldI σ 0 t45 ((((456 : Int32) * v1) + ((38 : Int32) * v2)) + v3)).bind fun t60 =>
  S_X9_look_61 σ t60)
  else (S_X9_look_40 σ)))))
def S_X9_told_91 (σ : hp) (w0 : Int32) : Option (Int32) :=
  some w0
def S_X9_told_85 (σ : hp) (t0 : Nat) (v1 : Int32) : Option (Int32) :=
  (o_gR σ 9 17 (some t0)).bind fun t86 =>
  (o_ldI σ 0 t86 v1).bind fun t90 =>
  S_X9_told_91 σ t90
def S_X9_told (σ : hp) (t0 : Nat) (v1 : Int32) (v2 : Int32) : Option (Int32) :=
  (S_X9_isSite σ v1).bind fun q1 =>
  if q1 = (0 : Int32) then (some (-1 : Int32))
  else (if v2 = (0 : Int32) then ((o_gR σ 9 3 (some t0)).bind fun t49 =>
  (o_ldI σ 0 t49 v1).bind fun t53 =>
  some t53)
  else if v2 = (1 : Int32) then ((o_gR σ 9 5 (some t0)).bind fun t56 =>
  (o_ldI σ 0 t56 v1).bind fun t60 =>
  some t60)
  else if v2 = (2 : Int32) then ((o_gR σ 9 17 (some t0)).bind fun t63 =>
  (o_ldI σ 0 t63 v1).bind fun t67 =>
  if t67 = (2 : Int32) then ((o_gR σ 9 18 (some t0)).bind fun t73 =>
  (o_ldI σ 1 t73 v1).bind fun t77 =>
  if t77 = (0 : Int32) then (S_X9_told_91 σ (3 : Int32))
  else (S_X9_told_85 σ t0 v1))
  else (S_X9_told_85 σ t0 v1))
  else if v2 = (3 : Int32) then ((o_gR σ 9 23 (some t0)).bind fun t93 =>
  (o_ldI σ 0 t93 v1).bind fun t97 =>
  some t97)
  else if v2 = (4 : Int32) then ((o_gR σ 9 26 (some t0)).bind fun t100 =>
  (o_ldI σ 0 t100 v1).bind fun t104 =>
  some t104)
  else if v2 = (5 : Int32) then ((o_gR σ 9 9 (some t0)).bind fun t107 =>
  (o_ldI σ 0 t107 v1).bind fun t111 =>
  some t111)
  else (some (-1 : Int32)))
def S_X9_queued_36 (σ : hp) (w0 : Int32) : Option (Int32) :=
  some w0
def S_X9_queued_21 (σ : hp) : Option (Int32) :=
  S_X9_queued_36 σ (-1 : Int32)
def S_X9_queued (σ : hp) (t0 : Nat) (v1 : Int32) (v2 : Int32) : Option (Int32) :=
  (S_X9_isSite σ v1).bind fun q1 =>
  if q1 = (0 : Int32) then (S_X9_queued_21 σ)
  else (if v2 < (0 : Int32) then (S_X9_queued_21 σ)
  else ((o_gR σ 9 3 (some t0)).bind fun t13 =>
  (o_ldI σ 0 t13 v1).bind fun t17 =>
  if v2 < t17 then ((o_gR σ 9 4 (some t0)).bind fun t26 =>
  (o_ldI σ 0 t26 (((30 : Int32) * v1) + v2)).bind fun t35 =>
  S_X9_queued_36 σ t35)
  else (S_X9_queued_21 σ)))
def S_X9_executed_37 (σ : hp) (w0 : Int32) : Option (Int32) :=
  some w0
def S_X9_executed_21 (σ : hp) : Option (Int32) :=
  S_X9_executed_37 σ (-1 : Int32)
def S_X9_executed (σ : hp) (t0 : Nat) (v1 : Int32) (v2 : Int32) : Option (Int32) :=
  (S_X9_isSite σ v1).bind fun q1 =>
  if q1 = (0 : Int32) then (S_X9_executed_21 σ)
  else (if v2 < (0 : Int32) then (S_X9_executed_21 σ)
  else ((o_gR σ 9 5 (some t0)).bind fun t13 =>
  (o_ldI σ 0 t13 v1).bind fun t17 =>
  if v2 < t17 then ((o_gR σ 9 6 (some t0)).bind fun t26 =>
  (o_ldI σ 0 t26 (((256 : Int32) * v1) + v2)).bind fun t36 =>
  S_X9_executed_37 σ t36)
  else (S_X9_executed_21 σ)))
def S_X9_file_51 (σ : hp) (w0 : Int32) : Option (Int32) :=
  some w0
def S_X9_file_30 (σ : hp) : Option (Int32) :=
  S_X9_file_51 σ (-1 : Int32)
def S_X9_file (σ : hp) (t0 : Nat) (v1 : Int32) (v2 : Int32) (v3 : Int32) : Option (Int32) :=
  (o_rcv σ 9 (some t0)).bind fun b3 =>
  (S_X9_executed σ b3 v1 v2).bind fun q3 =>
  if q3 = (-1 : Int32) then (S_X9_file_30 σ)
  else (if v3 < (0 : Int32) then (S_X9_file_30 σ)
  else ((o_gR σ 9 7 (some t0)).bind fun t16 =>
  (o_ldI σ 0 t16 (((256 : Int32) * v1) + v2)).bind fun t26 =>
  if v3 < t26 then ((o_gR σ 9 8 (some t0)).bind fun t35 =>
  (o_ldI σ 0 t35 (((100 : Int32) * (((256 : Int32) * v1) + v2)) + v3)).bind fun t50 =>
  S_X9_file_51 σ t50)
  else (S_X9_file_30 σ)))
def S_X9_times_21 (σ : hp) : Option (Int32) :=
  some (-1 : Int32)
def S_X9_times_66 (rec28 : hp → Nat → Int32 → Int32 → Int32 → Int32 → Option (Int32)) (σ : hp) (t0 : Nat) (v1 : Int32) (v2 : Int32) (v4 : Int32) (w0 : Int32) (w1 : Int32) : Option (Int32) :=
  rec28 σ t0 v1 v2 (w0 + w1) (v4 + (1 : Int32))
def S_X9_times_28_b (rec28 : hp → Nat → Int32 → Int32 → Int32 → Int32 → Option (Int32)) (σ : hp) (t0 : Nat) (v1 : Int32) (v2 : Int32) (v3 : Int32) (v4 : Int32) : Option (Int32) :=
  (o_gR σ 9 5 (some t0)).bind fun t31 =>
  (o_ldI σ 0 t31 ((1 : Int32) - v1)).bind fun t37 =>
  if t37 ≤ v4 then (some v3)
  else ((o_gR σ 9 6 (some t0)).bind fun t43 =>
  (o_ldI σ 0 t43 (((256 : Int32) * ((1 : Int32) - v1)) + v4)).bind fun t56 =>
  if t56 = v2 then (S_X9_times_66 rec28 σ t0 v1 v2 v4 v3 (1 : Int32))
  else (S_X9_times_66 rec28 σ t0 v1 v2 v4 v3 (0 : Int32)))
def S_X9_times_28 : Nat → hp → Nat → Int32 → Int32 → Int32 → Int32 → Option (Int32)
  | 0, _, _, _, _, _, _ => none
  | n + 1, σ, t0, v1, v2, v3, v4 => S_X9_times_28_b (S_X9_times_28 n) σ t0 v1 v2 v3 v4
def S_X9_times (σ : hp) (t0 : Nat) (v1 : Int32) (v2 : Int32) : Option (Int32) :=
  (S_X9_isSite σ v1).bind fun q1 =>
  if q1 = (0 : Int32) then (S_X9_times_21 σ)
  else (if v2 < (0 : Int32) then (S_X9_times_21 σ)
  else ((o_gR σ 9 0 (some t0)).bind fun t13 =>
  (o_ldI σ 0 t13 v1).bind fun t17 =>
  if v2 < t17 then (S_X9_times_28 FU σ t0 v1 v2 (0 : Int32) (0 : Int32))
  else (S_X9_times_21 σ)))
