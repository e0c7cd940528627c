/-! The abstract link: ints by site and number, messages out, messages that wait, packets on the wires.
ints of a site: 0 state (0 idle, 1 calling, 2 master, 3 slave), 1 calls, 2 initOf, 3 since, 4 accepted, 5 oldest number out, 6 ticks, 7 again, 8 takes, 9 takeNumber, 10 takeWant, 11 takeHas, 12 queued, 13 queueCount, 14 executedCount,
100 + i taken, 200 + j fileLength, 1000 + 100 j + i files, 5000 + k executed, 6000 + k executedLength, 10000 + 100 k + i executedFiles; of 'site' 2: i next file, 100 its length. -/
abbrev Msg : Type := Nat → Int32
abbrev Pkt : Type := Nat × (Nat → Int32)
abbrev aA : Type := (Nat → Nat → Int32) × (Nat → List Msg) × (Nat → List Msg) × (Nat → List Pkt)
def aJ (A : aA) (s k : Nat) (x : Int32) : aA := (va_up A.1 s (upd (A.1 s) k x), A.2)
def aO (A : aA) (s : Nat) (l : List Msg) : aA := (A.1, va_up A.2.1 s l, A.2.2)
def aW (A : aA) (s : Nat) (l : List Msg) : aA := (A.1, A.2.1, va_up A.2.2.1 s l, A.2.2.2)
def aQ (A : aA) (s : Nat) (l : List Pkt) : aA := (A.1, A.2.1, A.2.2.1, va_up A.2.2.2 s l)
-- the sum of 32 bytes
def sm1 (p q b n : Int32) : Int32 × Int32 :=
  let p1 := ((((p <<< ((1 : Int32) &&& 31)) ||| (p >>> ((15 : Int32) &&& 31))) &&& 65535) + b) &&& 65535
  let q1 := (q + (p1 ^^^ n)) &&& 65535
  (if p < p1 then p1 else p1 ^^^ q1, q1)
def smN (f : Nat → Int32) : Nat → Int32 × Int32
  | 0 => (65535, 0)
  | k + 1 => sm1 (smN f k).1 (smN f k).2 (f k) (nI (32 - k))
def sumF (f : Nat → Int32) : Int32 := (smN f 32).1
-- packets
def hdF (f : Nat → Int32) (kind c check : Int32) : Nat → Int32 := fun i => if i = 5 then kind ^^^ (check &&& 255) ^^^ ((check >>> ((8 : Int32) &&& 31)) &&& 255) ^^^ c else if i = 4 then c else if i = 3 then (check >>> ((8 : Int32) &&& 31)) &&& 255 else if i = 2 then check &&& 255 else if i = 1 then kind else if i = 0 then 16 else f i
def ctlP (x y : Int32) : Pkt := (6, hdF (fun _ => 0) 9 (8 * x + y) (43690 - (8 * x + y)))
def datP (num acc : Int32) (m : Msg) : Pkt := (38, hdF (fun i => m (i - 6)) 1 (128 + 8 * num + acc) (43690 - (sumF m ^^^ (128 + 8 * num + acc))))
def pkX (p : Pkt) : Int32 := (p.2 4 >>> ((3 : Int32) &&& 31)) &&& 7
def pkY (p : Pkt) : Int32 := p.2 4 &&& 7
def hdOk (p : Pkt) (kind c check : Int32) : Bool := decide (p.2 1 = kind) && decide (p.2 2 = check &&& 255) && decide (p.2 3 = (check >>> ((8 : Int32) &&& 31)) &&& 255) && decide (p.2 5 = kind ^^^ (check &&& 255) ^^^ ((check >>> ((8 : Int32) &&& 31)) &&& 255) ^^^ c)
def isCtl (x : Int32) : Bool := decide (x = 1 ∨ x = 2 ∨ x = 4 ∨ x = 5 ∨ x = 7)
def msgOk (f : Nat → Int32) : Bool := decide (¬ f 6 < 1) && decide (f 6 ≤ 31) && (List.range 38).all (fun i => decide (f 6 + 7 ≤ nI i → f i = 0))
def goodP (p : Pkt) : Bool := decide (p.2 0 = 16) && (if p.1 = 38 then decide (p.2 4 >>> ((6 : Int32) &&& 31) = 2) && msgOk p.2 && hdOk p 1 (p.2 4) (43690 - (sumF (fun i => p.2 (6 + i)) ^^^ p.2 4)) else decide (p.2 4 >>> ((6 : Int32) &&& 31) = 0) && isCtl (pkX p) && hdOk p 9 (p.2 4) (43690 - p.2 4))
def alay (A : aA) (s : Nat) (p : Pkt) : aA := if (A.2.2.2 s).length < 12 then aQ A s (A.2.2.2 s ++ [p]) else A
def actl (A : aA) (s : Nat) (x y : Int32) : aA := alay A s (ctlP x y)
def aNum (A : aA) (s k : Nat) : Int32 := (A.1 s 5 + nI k) &&& 7
def adat (A : aA) (s k : Nat) : aA := alay A s (datP (aNum A s k) (A.1 s 4) ((A.2.1 s).getD k (fun _ => 0)))
-- sending
def aflow1 (A : aA) (s : Nat) : aA := match A.2.2.1 s with
  | [] => A
  | m :: ws => if (A.2.1 s).length < 3 then adat (aW (aO A s (A.2.1 s ++ [m])) s ws) s (A.2.1 s).length else A
def aflow (A : aA) (s : Nat) : aA := aflow1 (aflow1 (aflow1 A s) s) s
def aadd (A : aA) (s : Nat) (m : Msg) : aA := if (A.2.1 s).length + (A.2.2.1 s).length < 19 then aW A s (A.2.2.1 s ++ [m]) else A
def asend (A : aA) (s : Nat) (m : Msg) : aA := aflow (aadd A s m) s
def aagain (A : aA) (s : Nat) : aA := (List.range (A.2.1 s).length).foldl (fun B k => adat B s k) A
def aack (A : aA) (s : Nat) (y : Int32) : aA :=
  let n := ((y - A.1 s 5) &&& 7).toNatClampNeg + 1
  if n ≤ (A.2.1 s).length then aJ (aJ (aJ (aO A s ((A.2.1 s).drop n)) s 5 ((A.1 s 5 + nI n) &&& 7)) s 6 0) s 7 0 else A
def aforget (A : aA) (s : Nat) (now : Int32) : aA := (va_up A.1 s (fun k => if k = 0 then now else if k = 5 then 1 else if k = 3 ∨ k = 4 ∨ k = 6 ∨ k = 7 ∨ k = 8 then 0 else A.1 s k), va_up A.2.1 s [], va_up A.2.2.1 s [], A.2.2.2)
-- messages
def mk1 (letter : Int32) : Msg := fun i => if i = 0 then 1 else if i = 1 then letter else 0
def mkS (job len : Int32) : Msg := fun i => if i = 0 then 3 else if i = 1 then 83 else if i = 2 then job else if i = 3 then len else 0
def mkD (f : Nat → Int32) (c : Nat) : Msg := fun i => if i = 0 then nI (1 + c) else if i = 1 then 68 else if i - 2 < c then f (i - 2) else 0
abbrev aSnd : Type := aA → Nat → Msg → aA
def agoOn (snd : aSnd) (A : aA) (s : Nat) : aA :=
  if A.1 s 13 = 0 then snd A s (mk1 72) else
    let j := A.1 s 12 - A.1 s 13
    snd A s (mkS j (A.1 s (200 + j.toNatClampNeg)))
def aD (snd : aSnd) (f : Nat → Int32) (n : Nat) (s : Nat) (A : aA) (q : Nat) : aA := if q < n then snd A s (mkD (fun i => f (q + i)) (if q + 30 ≤ n then 30 else n - q)) else A
def afile (snd : aSnd) (A : aA) (s : Nat) : aA :=
  let j := (A.1 s 12 - A.1 s 13).toNatClampNeg
  let n := (A.1 s (200 + j)).toNatClampNeg
  let f := fun i => A.1 s (1000 + 100 * j + i)
  aD snd f n s (aD snd f n s (aD snd f n s (aD snd f n s A 0) 30) 60) 90
def aexec (snd : aSnd) (A : aA) (s : Nat) : aA :=
  let e := (A.1 s 14).toNatClampNeg
  let f := A.1 s
  snd (va_up A.1 s (fun k => if k = 5000 + e then f 9 else if k = 6000 + e then f 10 else if k = 14 then f 14 + 1 else if k = 8 then 0 else if 10000 + 100 * e ≤ k ∧ k < 10000 + 100 * e + (f 10).toNatClampNeg then f (100 + (k - (10000 + 100 * e))) else f k), A.2) s (mk1 67)
def aHas (A : aA) (s : Nat) (number : Int32) : Bool := (List.range (A.1 s 14).toNatClampNeg).any (fun k => decide (A.1 s (5000 + k) = number))
def aoffer (snd : aSnd) (A : aA) (s : Nat) (number length : Int32) : aA :=
  if aHas A s number then snd A s (mk1 78) else
    let B := aJ (aJ (aJ (aJ (snd A s (mk1 89)) s 8 1) s 9 number) s 10 length) s 11 0
    if length = 0 then aexec snd B s else B
/-- the bytes of a D message are taken: c of them, from has on -/
def atake (A : aA) (s : Nat) (m : Msg) : aA :=
  let h := (A.1 s 11).toNatClampNeg
  let w := (A.1 s 10).toNatClampNeg
  let n := (m 0).toNatClampNeg - 1
  let c := if n ≤ w - h then n else w - h
  (va_up A.1 s (fun k => if 100 + h ≤ k ∧ k < 100 + h + c then m (2 + (k - (100 + h))) else if k = 11 then nI (h + c) else A.1 s k), A.2)
def adone (snd : aSnd) (A : aA) (s : Nat) (m : Msg) : aA :=
  if A.1 s 0 = 2 then
    if m 0 = 1 then
      if m 1 = 72 then aforget (actl A s 1 0) s 0
      else if m 1 = 84 then aJ A s 0 3
      else if A.1 s 13 = 0 then A
      else if m 1 = 78 ∨ m 1 = 67 then agoOn snd (aJ A s 13 (A.1 s 13 - 1)) s
      else if m 1 = 89 then afile snd A s
      else A
    else A
  else if m 1 = 83 ∧ m 0 = 3 then (if m 3 ≤ 100 then aoffer snd A s (m 2) (m 3) else A)
  else if m 1 = 68 ∧ 1 < m 0 ∧ ¬ A.1 s 8 = 0 then
    (let B := atake A s m; if B.1 s 11 = B.1 s 10 then aexec snd B s else B)
  else if m 1 = 72 ∧ m 0 = 1 then
    (if A.1 s 13 = 0 then snd A s (mk1 72) else agoOn snd (aJ (snd A s (mk1 84)) s 0 2) s)
  else A
def acome (A : aA) (s : Nat) (p : Pkt) : aA :=
  let x := pkX p
  let y := pkY p
  if p.1 = 38 then
    if A.1 s 0 = 2 ∨ A.1 s 0 = 3 then
      let B := aflow (aack A s y) s
      if x = (B.1 s 4 + 1) &&& 7 then adone asend (actl (aJ (aJ B s 4 x) s 3 1) s 4 x) s (fun i => p.2 (6 + i))
      else actl B s 4 (B.1 s 4)
    else A
  else if x = 7 then
    (if (s = 0 ∧ A.1 s 0 = 1) ∨ (A.1 s 0 = 3 ∧ A.1 s 2 = y ∧ ¬ A.1 s 3 = 0) then A else actl (aJ (aforget A s 3) s 2 y) s 5 y)
  else if x = 5 then
    (if A.1 s 0 = 1 ∧ (A.1 s 1 - 1) &&& 7 = y then agoOn asend (aJ (aforget A s 2) s 2 (-1)) s else A)
  else if A.1 s 0 = 2 ∨ A.1 s 0 = 3 then
    if x = 1 then aforget A s 0
    else
      let B := aack A s y
      aflow (if x = 2 then (let C := aagain B s; if (C.2.1 s).length = 0 then C else aJ C s 6 0) else B) s
  else A
def isOpenA (A : aA) (s : Nat) : Prop := A.1 s 0 = 2 ∨ A.1 s 0 = 3
/-- the first packet of the wire from f comes to the other site -/
def ahand (A : aA) (f : Nat) : Int32 × aA := match A.2.2.2 f with
  | [] => (-1, A)
  | p :: ps =>
    let s := 1 - f
    let B := aQ A f ps
    if goodP p then (1, acome (if (A.1 s 0 = 2 ∨ A.1 s 0 = 3) ∧ A.2.1 s = [] then aJ B s 6 0 else B) s p)
    else (0, if A.1 s 0 = 2 ∨ A.1 s 0 = 3 then actl B s 2 (A.1 s 4) else B)
-- the calls
def isS (x : Int32) : Prop := x = 0 ∨ x = 1
def c_put (A : aA) (b : Int32) : Int32 × aA := if b < 0 ∨ 255 < b ∨ 100 ≤ A.1 2 100 then (-1, A) else (A.1 2 100 + 1, aJ (aJ A 2 (A.1 2 100).toNatClampNeg b) 2 100 (A.1 2 100 + 1))
def c_queue (A : aA) (s : Int32) : Int32 × aA :=
  if s = 0 ∨ s = 1 then
    let t := s.toNatClampNeg
    let j := (A.1 t 12).toNatClampNeg
    let f := A.1 t
    if 30 ≤ A.1 t 12 then (-1, A) else (A.1 t 12, aJ (va_up A.1 t (fun k => if k = 200 + j then A.1 2 100 else if k = 12 then f 12 + 1 else if k = 13 then f 13 + 1 else if 1000 + 100 * j ≤ k ∧ k < 1000 + 100 * j + (A.1 2 100).toNatClampNeg then A.1 2 (k - (1000 + 100 * j)) else f k), A.2) 2 100 0)
  else (-1, A)
def bI (b : Bool) : Int32 := if b then 1 else 0
def c_call (A : aA) (s : Int32) : Int32 × aA :=
  if s = 0 ∨ s = 1 then
    let t := s.toNatClampNeg
    if A.1 t 0 = 0 then (1, aJ (actl (aforget (aQ (aQ A 0 []) 1 []) t 1) t 7 (A.1 t 1 &&& 7)) t 1 (A.1 t 1 + 1)) else (0, A)
  else (0, A)
def c_deliver (A : aA) (f : Int32) : Int32 × aA := if f = 0 ∨ f = 1 then ahand A f.toNatClampNeg else (-1, A)
def c_lose (A : aA) (f : Int32) : Int32 × aA :=
  if f = 0 ∨ f = 1 then (match A.2.2.2 f.toNatClampNeg with
    | [] => (0, A)
    | _ :: ps => (1, aQ A f.toNatClampNeg ps)) else (0, A)
def c_alter (A : aA) (f at_ mask : Int32) : Int32 × aA :=
  if f = 0 ∨ f = 1 then (match A.2.2.2 f.toNatClampNeg with
    | [] => (0, A)
    | p :: ps => if at_ < 0 ∨ nI p.1 ≤ at_ ∨ mask < 1 ∨ 255 < mask then (0, A) else (1, aQ A f.toNatClampNeg ((p.1, upd p.2 at_.toNatClampNeg (p.2 at_.toNatClampNeg ^^^ mask)) :: ps))) else (0, A)
def atick (A : aA) (s : Nat) : Int32 × aA :=
  let B := aJ A s 6 (A.1 s 6 + 1)
  if A.1 s 0 = 0 then (0, A)
  else if (A.1 s 0 = 2 ∨ A.1 s 0 = 3) ∧ A.2.1 s = [] then (0, if A.1 s 6 + 1 = 41 then aforget B s 0 else B)
  else if A.1 s 6 + 1 < 4 then (0, B)
  else if A.1 s 7 = 5 then (0, aforget B s 0)
  else
    let C := aJ (aJ B s 7 (A.1 s 7 + 1)) s 6 0
    if A.1 s 0 = 1 then (1, actl C s 7 ((A.1 s 1 - 1) &&& 7)) else (nI (A.2.1 s).length, aagain C s)
def c_tick (A : aA) : Int32 × aA := let r := atick A 0; let q := atick r.2 1; (r.1 + q.1, q.2)
def c_crash (A : aA) (s : Int32) : Int32 × aA := if s = 0 ∨ s = 1 then (1, aforget A s.toNatClampNeg 0) else (0, A)
def asettle : Nat → Nat → Nat → aA → Nat × aA
  | 0, h, _, A => (h, A)
  | n + 1, h, turn, A =>
    let f := if 0 < (A.2.2.2 turn).length then turn else 1 - turn
    match A.2.2.2 f with
    | [] => (h, A)
    | _ :: _ => asettle n (h + 1) (1 - f) (ahand A f).2
def c_settle (A : aA) (n : Int32) : Int32 × aA := if n < 1 ∨ 200 < n then (-1, A) else (nI (asettle n.toNatClampNeg 0 0 A).1, (asettle n.toNatClampNeg 0 0 A).2)
def c_waiting (A : aA) (f : Int32) : Int32 := if f = 0 ∨ f = 1 then nI (A.2.2.2 f.toNatClampNeg).length else -1
def c_look (A : aA) (f k i : Int32) : Int32 :=
  if f = 0 ∨ f = 1 then (if k < 0 then -1 else match (A.2.2.2 f.toNatClampNeg)[k.toNatClampNeg]? with
    | none => -1
    | some p => if i < 0 ∨ nI p.1 ≤ i then -1 else p.2 i.toNatClampNeg) else -1
def c_told (A : aA) (s what : Int32) : Int32 :=
  if s = 0 ∨ s = 1 then
    let t := s.toNatClampNeg
    if what = 0 then A.1 t 13 else if what = 1 then A.1 t 14 else if what = 2 then A.1 t 0 else if what = 3 then nI (A.2.1 t).length else if what = 4 then nI (A.2.2.1 t).length else if what = 5 then A.1 t 1 else -1
  else -1
def c_queued (A : aA) (s k : Int32) : Int32 := if s = 0 ∨ s = 1 then (if k < 0 ∨ A.1 s.toNatClampNeg 13 ≤ k then -1 else A.1 s.toNatClampNeg 12 - A.1 s.toNatClampNeg 13 + k) else -1
def c_executed (A : aA) (s k : Int32) : Int32 := if s = 0 ∨ s = 1 then (if k < 0 ∨ A.1 s.toNatClampNeg 14 ≤ k then -1 else A.1 s.toNatClampNeg (5000 + k.toNatClampNeg)) else -1
def c_file (A : aA) (s k i : Int32) : Int32 := if s = 0 ∨ s = 1 then (if k < 0 ∨ A.1 s.toNatClampNeg 14 ≤ k then -1 else if i < 0 ∨ A.1 s.toNatClampNeg (6000 + k.toNatClampNeg) ≤ i then -1 else A.1 s.toNatClampNeg (10000 + 100 * k.toNatClampNeg + i.toNatClampNeg)) else -1
def c_times (A : aA) (s job : Int32) : Int32 := if s = 0 ∨ s = 1 then (if job < 0 ∨ A.1 s.toNatClampNeg 12 ≤ job then -1 else bI (aHas A (1 - s.toNatClampNeg) job)) else -1
