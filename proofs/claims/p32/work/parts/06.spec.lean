/-! What each method answers, and does, as a function of the state. -/
def cntTo (q : Nat → Bool) : Nat → Nat
  | 0 => 0
  | i + 1 => cntTo q i + (if q i = true then 1 else 0)
def iterF (g : Nat → St → St) : Nat → St → St
  | 0, S => S
  | i + 1, S => g i (iterF g i S)
def o2i (o : Option Nat) : Int32 := match o with
  | none => -1
  | some j => nI j
def nB (S : St) : Nat := (S 2 0 0).toNatClampNeg
def nR (S : St) : Nat := (S 4 0 0).toNatClampNeg
def nT (S : St) : Nat := (S 6 0 0).toNatClampNeg
def Lim (S : St) : Prop := nB S ≤ 16 ∧ nR S ≤ 16 ∧ nT S ≤ 8
-- Train
def stationF (S : St) (k : Nat) (x : Int32) : Int32 := if x < 0 then -1 else if 8 ≤ x then -1 else S 33 k x.toNatClampNeg
def timeF (S : St) (k : Nat) (x : Int32) : Int32 := if x < 0 then -1 else if 8 ≤ x then -1 else S 34 k x.toNatClampNeg
def onBlockF (S : St) (k : Nat) : Bool := decide (S 38 k 0 ≠ -1)
def atEndF (S : St) (k : Nat) : Bool := decide (S 38 k 0 ≠ -1 ∧ S 40 k 0 = 0)
def atStF (S : St) (k : Nat) : Bool := decide (S 36 k 0 ≠ -1)
def doneF (S : St) (k : Nat) : Bool := decide (S 36 k 0 = -1 ∧ S 38 k 0 = -1)
def lastF (S : St) (k : Nat) : Bool := decide (¬ S 35 k 0 < S 32 k 0 - 1)
def maxF (x y : Int32) : Int32 := if x < y then y else x
def beLateF (S : St) (k : Nat) (clock : Int32) : St := up S 42 k 0 (maxF 0 (clock - timeF S k (S 35 k 0)))
def waitF (S : St) (k : Nat) (o : Int32) : St := if o < 0 then up (up S 43 k 0 (S 43 k 0 + 1)) 44 k 0 o else if 8 ≤ o then up (up S 43 k 0 (S 43 k 0 + 1)) 44 k 0 o else up (up (up S 43 k 0 (S 43 k 0 + 1)) 44 k 0 o) 45 k o.toNatClampNeg (S 45 k o.toNatClampNeg + 1)
def addStopF (S : St) (k : Nat) (x t : Int32) : St := if S 32 k 0 < 0 then S else if 8 ≤ S 32 k 0 then S else up (up (up S 33 k (S 32 k 0).toNatClampNeg x) 34 k (S 32 k 0).toNatClampNeg t) 32 k 0 (S 32 k 0 + 1)
def cpA (U S : St) (f k n : Nat) : St := fun f' k' j => if f' = f ∧ k' = k ∧ j < n then S f k j else U f' k' j
def cp1 (U S : St) (f k : Nat) : St := up U f k 0 (S f k 0)
def trCopyF (U S : St) (k : Nat) : St := cpA (cp1 (cp1 (cp1 (cp1 (cp1 (cp1 (cp1 (cp1 (cp1 (cp1 (cpA (cpA (cp1 (cp1 (cp1 U S 30 k) S 31 k) S 32 k) S 33 k 8) S 34 k 8) S 35 k) S 36 k) S 37 k) S 38 k) S 39 k) S 40 k) S 41 k) S 42 k) S 43 k) S 44 k) S 45 k 8
-- Block
def bkCopyF (U S : St) (k : Nat) : St := cp1 (cp1 (cp1 (cp1 U S 10 k) S 11 k) S 12 k) S 13 k
-- Route
def layF (S : St) (k : Nat) (a b c : Int32) : St := up (up (up (up S 20 k 0 a) 21 k 0 b) 22 k 0 c) 23 k 0 0
def addBlockF (S : St) (k : Nat) (b : Int32) : St := if S 23 k 0 < 0 then S else if 5 ≤ S 23 k 0 then S else up (up S 24 k (S 23 k 0).toNatClampNeg b) 23 k 0 (S 23 k 0 + 1)
def blockAtF (S : St) (k : Nat) (x : Int32) : Int32 := if x < 0 then -1 else if 5 ≤ x then -1 else S 24 k x.toNatClampNeg
def hasBlockF (S : St) (k : Nat) (b : Int32) : Nat → Bool
  | 0 => false
  | i + 1 => hasBlockF S k b i || decide (blockAtF S k (nI i) = b)
def joinsF (S : St) (k : Nat) (a b : Int32) : Bool := decide (S 20 k 0 = a ∧ S 21 k 0 = b)
def toClearF (S : St) (k : Nat) : Int32 := if S 22 k 0 = 0 then 1 else S 23 k 0
def rtCopyF (U S : St) (k : Nat) : St := iterF (fun i T => addBlockF T k (blockAtF S k (nI i))) (S 23 k 0).toNatClampNeg (layF U k (S 20 k 0) (S 21 k 0) (S 22 k 0))
-- Line
def tillF (S : St) (t : Int32) : Int32 := if t ≤ S 9 0 0 then -1 else t
def underF (S : St) (i : Nat) : Int32 := if S 38 i 0 < 0 then -1 else if S 4 0 0 ≤ S 38 i 0 then -1 else blockAtF S (S 38 i 0).toNatClampNeg (S 39 i 0)
def clearF (S : St) (b n : Int32) : Bool := if b < 0 then false else if ¬ b < S 2 0 0 then false else decide (¬ S 9 0 0 < S 13 b.toNatClampNeg 0 ∧ S 11 b.toNatClampNeg 0 = -1 ∧ (S 12 b.toNatClampNeg 0 = -1 ∨ S 12 b.toNatClampNeg 0 = n))
def inWayF (S : St) (b n : Int32) : Int32 := if b < 0 then -1 else if ¬ b < S 2 0 0 then -1 else if S 11 b.toNatClampNeg 0 = -1 then (if S 12 b.toNatClampNeg 0 = n then -1 else S 12 b.toNatClampNeg 0) else S 11 b.toNatClampNeg 0
def atQ (S : St) (x : Int32) (k : Nat) : Bool := decide (S 36 k 0 = x)
def wayQ (S : St) (x : Int32) (k : Nat) : Bool := decide (¬ S 38 k 0 < 0 ∧ ¬ S 4 0 0 ≤ S 38 k 0 ∧ S 21 (S 38 k 0).toNatClampNeg 0 = x)
def hasRoomF (S : St) (x : Int32) : Bool := if x < 0 then false else if 6 ≤ x then false else decide (¬ S 0 0 x.toNatClampNeg ≤ nI (cntTo (atQ S x) (nT S)) + nI (cntTo (wayQ S x) (nT S)))
def inUseF (S : St) (x : Int32) : Nat → Bool
  | 0 => false
  | i + 1 => inUseF S x i || decide (S 38 i 0 = x)
/-- the first block that isn't clear, of n from the place i on -/
def fncL (S : St) (r : Nat) (x : Int32) : Nat → Nat → Int32
  | 0, _ => -1
  | n + 1, i => if clearF S (blockAtF S r (nI i)) x = true then fncL S r x n (i + 1) else blockAtF S r (nI i)
def fncF (S : St) (r : Nat) (x : Int32) : Int32 := fncL S r x (toClearF S r).toNatClampNeg 0
def openF (S : St) (r : Nat) (x : Int32) : Bool := hasRoomF S (S 21 r 0) && decide (fncF S r x = -1)
def blameF (S : St) (r : Nat) (x : Int32) : Int32 := inWayF S (fncF S r x) x
def readyF (S : St) (i : Nat) : Bool := atStF S i && (!lastF S i && decide (¬ S 9 0 0 < timeF S i (S 35 i 0) ∧ ¬ S 9 0 0 - S 37 i 0 < S 8 0 0 ∧ ¬ S 9 0 0 < S 41 i 0))
def leadsF (S : St) (r i : Nat) : Bool := joinsF S r (S 36 i 0) (stationF S i (S 35 i 0 + 1))
def aheadF (S : St) (i j : Nat) : Bool := if S 7 0 0 = 1 then decide (¬ S 30 i 0 ≤ S 30 j 0) else decide (S 7 0 0 = 2 ∧ ¬ timeF S j (S 35 j 0) ≤ timeF S i (S 35 i 0))
def stuckL (S : St) (x : Int32) : Nat → Int32 → Bool
  | 0, _ => false
  | n + 1, o => if o < 0 then false else if ¬ o < S 6 0 0 then false else if S 44 o.toNatClampNeg 0 = x then true else stuckL S x n (S 44 o.toNatClampNeg 0)
def stuckF (S : St) (i : Nat) : Bool := stuckL S (nI i) (nT S) (nI i)
def leaveF (S : St) (i : Nat) : St := if underF S i < 0 then S else if S 2 0 0 ≤ underF S i then S else up S 11 (underF S i).toNatClampNeg 0 (-1)
def enterF (S : St) (i : Nat) (x q : Int32) : St := if blockAtF S x.toNatClampNeg q < 0 then S else if ¬ blockAtF S x.toNatClampNeg q < S 2 0 0 then S else
  up (up (up (up (up (up S 36 i 0 (-1)) 38 i 0 x) 39 i 0 q) 40 i 0 (S 10 (blockAtF S x.toNatClampNeg q).toNatClampNeg 0 * S 31 i 0)) 11 (blockAtF S x.toNatClampNeg q).toNatClampNeg 0 (nI i)) 12 (blockAtF S x.toNatClampNeg q).toNatClampNeg 0 (-1)
def comeT (S : St) (i : Nat) : St := if lastF S i = true then beLateF S i (S 9 0 0) else up S 36 i 0 (stationF S i (S 35 i 0))
def comeF (S : St) (i : Nat) : St := comeT (up (up (up (leaveF S i) 38 i 0 (-1)) 35 i 0 (leaveF S i 35 i 0 + 1)) 37 i 0 (leaveF S i 9 0 0)) i
def rollT (S : St) (i : Nat) : St := if 0 < S 40 i 0 then S else if S 38 i 0 < 0 then S else if ¬ S 38 i 0 < S 4 0 0 then S else
  if ¬ S 39 i 0 + 1 < S 23 (S 38 i 0).toNatClampNeg 0 then comeF S i else
  if clearF S (blockAtF S (S 38 i 0).toNatClampNeg (S 39 i 0 + 1)) (nI i) = true then enterF (leaveF S i) i (leaveF S i 38 i 0) (S 39 i 0 + 1)
  else waitF S i (inWayF S (blockAtF S (S 38 i 0).toNatClampNeg (S 39 i 0 + 1)) (nI i))
def rollF (S : St) (i : Nat) : St := rollT (if S 40 i 0 ≤ 0 then S else up S 40 i 0 (S 40 i 0 - 1)) i
def lockF (S : St) (i r : Nat) : St := iterF (fun j U => if blockAtF S r (nI (j + 1)) < 0 then U else if S 2 0 0 ≤ blockAtF S r (nI (j + 1)) then U else up U 12 (blockAtF S r (nI (j + 1))).toNatClampNeg 0 (nI i)) ((S 23 r 0).toNatClampNeg - 1) S
def setOutT (S : St) (i r : Nat) : St := if S 22 r 0 = 0 then S else lockF S i r
def setOutF (S : St) (i r : Nat) : St := setOutT (enterF (beLateF S i (S 9 0 0)) i (nI r) 0) i r
def turnL (S : St) (i : Nat) : Nat → Nat → Int32 → St
  | 0, _, f => waitF S i (if f = -1 then -1 else blameF S f.toNatClampNeg (nI i))
  | n + 1, r, f => if leadsF S r i = true then (if openF S r (nI i) = true then setOutF S i r else turnL S i n (r + 1) (if f = -1 then nI r else f)) else turnL S i n (r + 1) f
def turnF (S : St) (i : Nat) : St := turnL S i (nR S) 0 (-1)
def dueF (S : St) (t : Int32) (i : Nat) : Bool := decide ((t >>> (nI i &&& 31)) &&& 1 = 0) && readyF S i
def fstL (S : St) (t : Int32) : Nat → Int32
  | 0 => -1
  | i + 1 => if dueF S t i = true then (if fstL S t i = -1 then nI i else if aheadF S i (fstL S t i).toNatClampNeg = true then nI i else fstL S t i) else fstL S t i
def giveL : Nat → St → Int32 → St
  | 0, S, _ => S
  | n + 1, S, t => if fstL S t (nT S) = -1 then S else giveL n (turnF S (fstL S t (nT S)).toNatClampNeg) (t ||| ((1 : Int32) <<< (fstL S t (nT S) &&& 31)))
def giveF (S : St) : St := giveL (nT S) S 0
def forgetF (S : St) : St := iterF (fun i U => up U 44 i 0 (-1)) (nT S) S
def rollsF (S : St) : St := iterF (fun i U => if onBlockF U i = true then rollF U i else U) (nT S) S
def tickF (S : St) : St := giveF (rollsF (forgetF (up S 9 0 0 (S 9 0 0 + 1))))
def ticksF (S : St) (n : Nat) : St := iterF (fun _ U => tickF U) n S
def sumDone (S : St) : Nat := cntTo (doneF S) (nT S)
def copyF (U S : St) : St :=
  let U1 := up (cpA U S 0 0 6) 2 0 0 (S 2 0 0)
  let U2 := up (iterF (fun i T => bkCopyF T S i) (nB S) U1) 4 0 0 (S 4 0 0)
  let U3 := up (iterF (fun i T => rtCopyF T S i) (nR S) U2) 6 0 0 (S 6 0 0)
  let U4 := iterF (fun i T => trCopyF T S i) (nT S) U3
  up (up (up U4 7 0 0 (S 7 0 0)) 8 0 0 (S 8 0 0)) 9 0 0 (S 9 0 0)
