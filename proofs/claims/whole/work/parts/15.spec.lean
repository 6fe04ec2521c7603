/-! WHAT IS LOOKED AT, as mathematics: TYPEs are numbers; a value is (type, marks): marks are the origins, and bit 63: inside. -/
def tby (n k : Nat) : Nat := n / 256 ^ k % 256
def tlenA : Nat → Nat → Nat → Nat
  | 0, k, _ => k
  | f + 1, k, n => if n / 256 ^ k = 0 then k else tlenA f (k + 1) n
def tlen (n : Nat) : Nat := tlenA 8 0 n
def tlead (n : Nat) : Nat := tby n (tlen n - 1)
def tref (n : Nat) : Bool := tlead n == 8 || tlead n == 9
def twr (n : Nat) : Bool := tlead n == 9
def tinner (n : Nat) : Nat := n % 256 ^ (tlen n - 1)
def tof (b n : Nat) : Nat := b * 256 ^ tlen n + n
def tnum (n : Nat) : Bool := n == 2 || (n == 3 || n == 4)
def tVV : List Nat := [0, 7, 0x707, 0x70707, 0x7070707]
def tRR : List Nat := [8, 0x807, 0x80707, 0x8070707, 0x807070707, 9, 0x907, 0x90707, 0x9070707, 0x907070707]
/-- a TYPE of ns structures that is no reference; any TYPE; what may lie on the stack -/
def tplain (ns n : Nat) : Bool := (decide (1 ≤ n % 256) && decide (n % 256 ≤ 5) && tVV.contains (n / 256)) || (decide (n % 256 < ns) && decide (n / 256 % 256 = 6) && tVV.contains (n / 65536))
def trefer (ns n : Nat) : Bool := (decide (1 ≤ n % 256) && decide (n % 256 ≤ 5) && tRR.contains (n / 256)) || (decide (n % 256 < ns) && decide (n / 256 % 256 = 6) && tRR.contains (n / 65536))
def ttype (ns n : Nat) : Bool := tplain ns n || trefer ns n
def tfive (ns n : Nat) : Bool := (decide (1 ≤ n % 256) && decide (n % 256 ≤ 5) && decide (n / 256 = 0x707070707)) || (decide (n % 256 < ns) && decide (n / 256 % 256 = 6) && decide (n / 65536 = 0x707070707))
def tstk (ns n : Nat) : Bool := ttype ns n || tfive ns n
/-- the ledger: structures (abilities, fields), element types, functions (flags, takes, gives, more, code) -/
abbrev QF : Type := Nat × List Nat × List Nat × List Nat × List (Nat × Int32 × Int32)
abbrev QE : Type := List (Nat × List Nat) × List Nat × List QF
def eAb (E : QE) (n : Nat) : Nat :=
  if tref n then 3 else
  let own := if tby n 1 = 6 then ((E.1[tby n 0]?).map (·.1)).getD 0 else 7
  if tlead n = 7 then own &&& 7 else own
def eCan (E : QE) (n b : Nat) : Bool := eAb E n &&& b != 0
def eFields (E : QE) (s : Nat) : List Nat := ((E.1[s]?).map (·.2)).getD []
def eFun (E : QE) (f : Nat) : QF := (E.2.2[f]?).getD (0, [], [], [], [])
def fTakes (F : QF) : List Nat := F.2.1
def fGives (F : QF) : List Nat := F.2.2.1
def fMore (F : QF) : List Nat := F.2.2.2.1
def fCode (F : QF) : List (Nat × Int32 × Int32) := F.2.2.2.2
def fRes (F : QF) : Bool := F.1 &&& 4 != 0
def fLocs (F : QF) : List Nat := fTakes F ++ fMore F
def fTy (F : QF) (k : Nat) : Nat := (fLocs F).getD k 0
/-- bits of a long -/
def lb (x : Int64) (k : Nat) : Bool := x.toBitVec.getLsbD k
def lOrg : Int64 := 9223372036854775807
def lIns : Int64 := -9223372036854775808
abbrev QV : Type := Nat × Int64
abbrev QM : Type := List QV × (Nat → Option Int64)
/-- is a live one (a writing one, if w) with one of the origins m -/
def mAny (F : QF) (M : QM) (w : Bool) (m : Int64) : Bool :=
  M.1.any (fun v => (!w || twr v.1) && (v.2 &&& m &&& lOrg != 0)) || (List.range (fLocs F).length).any (fun k => match M.2 k with
    | some z => (!w || twr (fTy F k)) && (z &&& m &&& lOrg != 0)
    | none => false)
/-- SOLE -/
def mSole (F : QF) (M : QM) (m : Int64) : Bool :=
  M.1.all (fun v => (v.2 &&& m &&& lOrg == 0) || (twr v.1 && !lb v.2 63)) && (List.range (fLocs F).length).all (fun k => match M.2 k with
    | some z => (z &&& m &&& lOrg == 0) || (twr (fTy F k) && !lb z 63)
    | none => true)
def lbit (k : Nat) : Int64 := (1 : Int64) <<< lN k
abbrev QR : Type := Nat × QM
def mPut (M : QM) (v : QV) : QR := if 64 ≤ M.1.length then (2, M) else (0, (v :: M.1, M.2))
def mTakeAny (M : QM) (f : QV → QM → QR) : QR := match M.1 with
  | [] => (1, M)
  | v :: r => f v (r, M.2)
def mTake (M : QM) (t : Nat) (f : QV → QM → QR) : QR := mTakeAny M fun v M => if v.1 = t then f v M else (3, M)
/-- a reference to t (to anything: 0), a writing one if w -/
def mTakeRef (M : QM) (w : Bool) (t : Nat) (f : QV → QM → QR) : QR := mTakeAny M fun v M =>
  if !tref v.1 || (t != 0 && tinner v.1 != t) then (3, M) else if w && !twr v.1 then (7, M) else f v M
def mRef (w : Bool) (t : Nat) : Nat := tof (if w then 9 else 8) t
def mStruct (s : Nat) : Nat := 1536 + s
def mTakeAll (M : QM) : List Nat → QR
  | [] => (0, M)
  | t :: ts => mTake M t fun _ M => mTakeAll M ts
def mPutAll (M : QM) : List QV → QR
  | [] => (0, M)
  | v :: vs => let R := mPut M v; if R.1 = 0 then mPutAll R.2 vs else R
def mThen (R : QR) (f : QM → QR) : QR := if R.1 = 0 then f R.2 else R
def mIf (b : Bool) (why : Nat) (M : QM) (f : QR) : QR := if b then f else (why, M)
def oLocal (E : QE) (F : QF) (M : QM) (o a : Nat) : QR :=
  let t := fTy F a
  if o = 13 then mTake M t fun v M => mIf ((M.2 a).isNone || eCan E t 2) 4 M (mIf (tref t || !mAny F M false (lbit a)) 6 M (0, (M.1, fun k => if k = a then some v.2 else M.2 k)))
  else match M.2 a with
    | none => (5, M)
    | some z =>
      if o = 11 then mIf (eCan E t 1) 4 M (mIf (tref t || !mAny F M true (lbit a)) 6 M (mPut M (t, z)))
      else if o = 12 then mIf (tref t || !mAny F M false (lbit a)) 6 M (mPut (M.1, fun k => if k = a then none else M.2 k) (t, z))
      else mIf (!tref t) 3 M (mIf (!mAny F M (o == 14) (lbit a)) 6 M (mPut M (mRef (o != 14) t, lbit a)))
def oReference (E : QE) (F : QF) (M : QM) (o a b : Nat) : QR :=
  if o = 16 ∨ o = 17 then mTakeRef M (o == 17) (mStruct a) fun v M => mPut M (mRef (o == 17) ((eFields E a).getD b 0), v.2 ||| lIns)
  else if o = 18 then mTakeRef M false 0 fun v M => mIf (eCan E (tinner v.1) 1) 4 M (mPut M (tinner v.1, 0))
  else if o = 19 then mTakeRef M true 0 fun v M => mTake M (tinner v.1) fun _ M => mIf (eCan E (tinner v.1) 2) 4 M (mIf (mSole F M v.2) 6 M (0, M))
  else mTakeRef M true 0 fun v M => mPut M (mRef false (tinner v.1), v.2)
def oPack (E : QE) (M : QM) (o a : Nat) : QR :=
  if o = 21 then mThen (mTakeAll M (eFields E a).reverse) fun M => mPut M (mStruct a, 0)
  else mTake M (mStruct a) fun _ M => mPutAll M ((eFields E a).map fun t => (t, 0))
/-- what a call takes, and its marks, the last one first -/
def mTakeArgs (M : QM) (f : List Int64 → QM → QR) : List Nat → List Int64 → QR
  | [], acc => f acc M
  | t :: ts, acc => mTake M t fun v M => mTakeArgs M f ts (v.2 :: acc)
def mJoin (l : List Int64) : Int64 := l.foldl (fun x y => x ||| y) 0
def mWrites (ts : List Nat) (ms : List Int64) : List Int64 := (ts.zip ms).filterMap fun q => if twr q.1 then some q.2 else none
/-- the arguments that write are SOLE, each other one counting as inside -/
def mArgsSole (F : QF) (M : QM) (ts : List Nat) (ms : List Int64) : Bool :=
  (List.range ts.length).all fun k => !twr (ts.getD k 0) || (mSole F M (ms.getD k 0) && (List.range ts.length).all fun j => j == k || (ms.getD j 0 &&& ms.getD k 0 &&& lOrg == 0))
def lRes : Int64 := 9223090561878065152
def oCall (E : QE) (F : QF) (M : QM) (a : Nat) : QR :=
  let G := eFun E a
  mTakeArgs M (fun ms M =>
    mIf (!fRes G || fRes F) 15 M (mIf (mArgsSole F M (fTakes G) ms) 6 M (mIf (!fRes G || (mJoin ms &&& lRes == 0 && !mAny F M false lRes)) 6 M
      (mPutAll M ((fGives G).map fun t => (t, if tref t then ((if twr t then mJoin (mWrites (fTakes G) ms) else mJoin ms) &&& lOrg) ||| lIns else 0)))))) (fTakes G).reverse []
def oNumbers (E : QE) (M : QM) (o : Nat) : QR :=
  if o < 32 then mTakeAny M fun v M => if tnum v.1 || (28 < o && v.1 = 1) then mTake M v.1 fun _ M => mPut M (v.1, 0) else (3, M)
  else if o < 34 then mTake M 2 fun _ M => mTakeAny M fun v M => if tnum v.1 then mPut M (v.1, 0) else (3, M)
  else if o = 34 then mTake M 1 fun _ M => mPut M (1, 0)
  else if o < 38 then mTakeAny M fun v M => if tref v.1 then (3, M) else mTake M v.1 fun _ M => mIf (eCan E v.1 2) 4 M (mPut M (1, 0))
  else if o < 42 then mTakeAny M fun v M => if tnum v.1 then mTake M v.1 fun _ M => mPut M (1, 0) else (3, M)
  else mTakeAny M fun v M => if tnum v.1 then mPut M (o - 40, 0) else (3, M)
def oResource (E : QE) (F : QF) (M : QM) (o a : Nat) : QR :=
  let m := lbit (48 + a % 15)
  mTake M (if o = 47 then mStruct a else 5) fun _ M => mIf (fRes F) 15 M (mIf (eCan E (mStruct a) 8) 4 M
    (if o = 47 then (0, M) else if o = 49 then mPut M (1, 0) else if o = 48 then mIf (!mAny F M false m) 6 M (mPut M (mStruct a, 0))
     else mIf (!mAny F M (o == 50) m) 6 M (mPut M (mRef (o == 51) (mStruct a), m))))
def oVector (E : QE) (F : QF) (M : QM) (o a b : Nat) : QR :=
  if o = 59 then mTake M 1794 fun _ M => mPut M (1794, 0) else
  let e := E.2.1.getD a 0
  let v := tof 7 e
  if o = 52 then mThen (mTakeAll M (List.replicate b e)) fun M => mPut M (v, 0)
  else if o = 53 then mTakeRef M false v fun _ M => mPut M (3, 0)
  else if o = 54 ∨ o = 55 then mTake M 3 fun _ M => mTakeRef M (o == 55) v fun w M => mPut M (mRef (o == 55) e, w.2 ||| lIns)
  else mThen (if o = 56 then mTake M e fun _ M => (0, M) else if o = 58 then mTake M 3 fun _ M => mTake M 3 fun _ M => (0, M) else (0, M)) fun M =>
    mTakeRef M true v fun w M => mIf (mSole F M w.2) 6 M (if o = 57 then mPut M (e, 0) else (0, M))
def oLeave (E : QE) (F : QF) (M : QM) : QR :=
  mIf (decide (M.1.map (·.1) = (fGives F).reverse)) 12 M (mIf (M.1.all fun v => v.2 &&& 9223091661389692927 == 0) 14 M
    (mIf ((List.range (fLocs F).length).all fun k => (M.2 k).isNone || eCan E (fTy F k) 2) 13 M (0, M)))
def oSteer (E : QE) (F : QF) (M : QM) (o : Nat) : QR :=
  if o = 0 then mTakeAny M fun v M => mIf (eCan E v.1 2) 4 M (0, M)
  else if o = 1 then oLeave E F M
  else if o = 45 then mTake M 3 fun _ M => (0, M)
  else mThen (if o = 2 then (0, M) else mTake M 1 fun _ M => (0, M)) fun M => if M.1 = [] then (0, M) else (8, M)
def oConst (M : QM) (o : Nat) : QR := if o = 35 then (0, M) else mPut M (if o < 8 then o - 3 else if o < 10 then 1 else 5, 0)
/-- what operation o does, its operands a, b naming what there is -/
def oDo (E : QE) (F : QF) (M : QM) (o a b : Nat) : QR :=
  if o < 5 ∨ o = 45 then oSteer E F M o else if o < 11 ∨ o = 35 ∨ o = 46 then oConst M o else if o < 16 then oLocal E F M o a else if o < 21 then oReference E F M o a b
  else if o < 23 then oPack E M o a else if o = 23 then oCall E F M a else if o < 45 then oNumbers E M o else if o < 52 then oResource E F M o a else oVector E F M o a b
/-- whether the operands name what there is -/
def oNamed (E : QE) (F : QF) (o : Nat) (a b : Int32) : Bool :=
  let at_ (x : Int32) (n : Nat) : Bool := decide (0 ≤ x) && decide (x < nI n)
  if 1 < o ∧ o < 5 then at_ a (fCode F).length
  else if 10 < o ∧ o < 16 then at_ a (fLocs F).length
  else if o = 16 ∨ o = 17 then at_ a E.1.length && at_ b (eFields E a.toNatClampNeg).length
  else if o = 21 ∨ o = 22 ∨ (46 < o ∧ o < 52) then at_ a E.1.length
  else if o = 23 then at_ a E.2.2.length
  else if 51 < o ∧ o < 59 then at_ a E.2.1.length && (o != 52 || (decide (0 ≤ b) && decide (b ≤ 64)))
  else true
