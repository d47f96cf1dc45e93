/-! what each call on the ride answers, and the row behind it -/
def pLeg (s : Nat → Int32) (a b : Int32) : Int32 × (Nat → Int32) := if (bt a 1 99 && bt b 0 2) = true then (if s 2 = 8 then (-2, s) else (s 2, upd (upd (upd s (52 + 2 * ctL s) a) (52 + 2 * ctL s + 1) b) 2 (s 2 + 1))) else (-1, s)
def pLegOf (s : Nat → Int32) (k w : Int32) : Int32 := if (isL s k && bt w 0 1) = true then (if w = 0 then s (52 + 2 * k.toNatClampNeg) else s (52 + 2 * k.toNatClampNeg + 1)) else -1
def pDrv (s : Nat → Int32) (k a b : Int32) : Int32 × (Nat → Int32) := if (isL s k && (bt a 1 99 && bt b 0 2)) = true then (if k < Int32.ofNat (legN s) ∨ (k = Int32.ofNat (legN s) ∧ 0 < s 4) then (-4, s) else (endV (upd (upd s (52 + 2 * k.toNatClampNeg) a) (52 + 2 * k.toNatClampNeg + 1) b), upd (upd s (52 + 2 * k.toNatClampNeg) a) (52 + 2 * k.toNatClampNeg + 1) b)) else (-1, s)
def ansS (s : Nat → Int32) (k h c l : Int32) : Nat → Int32 := upd (upd (upd (upd (upd (upd s (7 + 5 * ctA s) k) (7 + 5 * ctA s + 1) h) (7 + 5 * ctA s + 2) c) (7 + 5 * ctA s + 3) l) (7 + 5 * ctA s + 4) 0) 0 (s 0 + 1)
def pAns (s : Nat → Int32) (k h c l : Int32) : Int32 × (Nat → Int32) := if (bt k 1 5 && bt h 1 60 && bt c 0 100 && bt l 0 9) = true then (if s 0 = 9 then (-2, s) else (s 0, ansS s k h c l)) else (-1, s)
def pPrt (w v : Int32) : Bool := (decide (w = 1) && bt v 1 60) || (decide (w = 2) && bt v 0 100) || (decide (w = 3) && bt v 0 9)
def pAof (s : Nat → Int32) (a w : Int32) : Int32 := if (isA s a && bt w 0 6) = true then (if w = 5 then hldV s a.toNatClampNeg else if w = 6 then bI (canV s a.toNatClampNeg) else s (7 + 5 * a.toNatClampNeg + w.toNatClampNeg)) else -1
def pChg (s : Nat → Int32) (a w v : Int32) : Int32 × (Nat → Int32) := if (isA s a && pPrt w v) = true then (s (7 + 5 * a.toNatClampNeg + w.toNatClampNeg), upd s (7 + 5 * a.toNatClampNeg + w.toNatClampNeg) v) else (-1, s)
def pRem (s : Nat → Int32) (a k : Int32) : Int32 × (Nat → Int32) := if (isA s a && bt k 1 5) = true then (s (7 + 5 * a.toNatClampNeg), upd s (7 + 5 * a.toNatClampNeg) k) else (-1, s)
def pBel (s : Nat → Int32) (v : Int32) : Int32 × (Nat → Int32) := if bt v 0 100 = true then (s 5, upd s 5 v) else (-1, s)
def pSta (s : Nat → Int32) (w : Int32) : Int32 := if w = 0 then s 4 else if w = 1 then s 5 else if w = 2 then Int32.ofNat (legN s) else if w = 3 then moodV s else if w = 4 then endV s else -1
def anwS (s : Nat → Int32) : Nat → Int32 := foldA (fun a r => upd r (7 + 5 * a + 4) 0) 0 (ctA s) (upd (upd s 4 0) 5 100)
def pSay (s : Nat → Int32) (a : Int32) : Int32 × (Nat → Int32) := if isA s a = true then (if canV s a.toNatClampNeg = true then (pasV s a.toNatClampNeg, telS s a.toNatClampNeg) else (-4, s)) else (-1, s)
def canS (s : Nat → Int32) : Int32 := foldA (fun a acc => acc ||| (bif canV s a then (1 : Int32) <<< (Int32.ofNat a &&& 31) else (0 : Int32))) 0 (ctA s) 0
def shoF (s : Nat → Int32) : Option Nat := findF (fun n => arrF n s) 0 5
def pFew (s : Nat → Int32) : Int32 := match shoF s with | none => -3 | some n => Int32.ofNat n
def pIth (s : Nat → Int32) (i : Int32) : Int32 := if bt i 0 3 = true then (match shoF s with | none => -3 | some n => if i.toNatClampNeg < n then Int32.ofNat ((fstR n s).getD i.toNatClampNeg 0) else -3) else -1
def pWay (s : Nat → Int32) (n : Int32) : Int32 := if bt n 0 4 = true then wayF n.toNatClampNeg s else -1
def pFar (s : Nat → Int32) (n : Int32) : Int32 := if bt n 0 4 = true then farF n.toNatClampNeg s else -1
def nonV (v : Int32) : Int32 := if 0 ≤ v then v else -3
def pKin (s : Nat → Int32) (n : Int32) : Int32 := if bt n 0 4 = true then nonV (kinF n.toNatClampNeg s) else -1
/-- the first by which so much belief is left in the end -/
def kstF (n : Nat) (b : Int32) (s : Nat → Int32) : Option Nat := bif ovV s then none else findF (fun a => canV s a && decide (kinF n (telS s a) = b)) 0 (ctA s)
def kwkF (b : Int32) : Nat → Nat → (Nat → Int32) → Option Nat
  | _, 0, _ => none
  | 0, n + 1, s => kstF n b s
  | i + 1, n + 1, s => (kstF n b s).bind fun a => kwkF b i n (telS s a)
def oV (o : Option Nat) : Int32 := match o with | none => -3 | some n => Int32.ofNat n
def pKly (s : Nat → Int32) (n i : Int32) : Int32 := if (bt n 0 4 && bt i 0 3) = true then (if kinF n.toNatClampNeg s < 0 then -3 else oV (kwkF (kinF n.toNatClampNeg s) i.toNatClampNeg n.toNatClampNeg s)) else -1
def ndsS (s : Nat → Int32) (a : Nat) : Nat → Int32 := upd s (7 + 5 * a + 3) (s (7 + 5 * a + 4))
def pNds (s : Nat → Int32) : Int32 := bif arrF 4 s then foldA (fun a acc => acc ||| (bif arrF 4 (ndsS s a) then (0 : Int32) else (1 : Int32) <<< (Int32.ofNat a &&& 31))) 0 (ctA s) 0 else 0
def morS (s : Nat → Int32) (a : Nat) : Nat → Int32 := upd s (7 + 5 * a + 3) (s (7 + 5 * a + 3) + 1)
def pMor (s : Nat → Int32) : Int32 := (foldA (fun a (acc : Int32 × Int32) => if kinF 4 (morS s a) ≤ acc.1 then acc else (kinF 4 (morS s a), Int32.ofNat a)) 0 (ctA s) (kinF 4 s, -3)).2
def pBfo (s : Nat → Int32) (n : Int32) : Int32 := if bt n 1 3 = true then oV (findF (fun v => arrF n.toNatClampNeg (upd s 5 (Int32.ofNat v))) 0 101) else -1
def pGam (s : Nat → Int32) (n : Int32) : Int32 := if bt n 1 4 = true then valF n.toNatClampNeg s else -1
def pPly (s : Nat → Int32) (n : Int32) : Int32 := if bt n 1 4 = true then oV (findF (fun a => canV s a && decide (trnV (valF (n.toNatClampNeg - 1) (telS s a)) = valF n.toNatClampNeg s)) 0 (ctA s)) else -1
def pRep (s : Nat → Int32) (a b c : Int32) : Int32 × (Nat → Int32) := if (bt a 0 999 && bt b a.toInt 999 && bt c 0 1) = true then (if s 3 = 6 then (-2, s) else (s 3, upd (upd (upd (upd s (68 + 3 * ctE s) a) (68 + 3 * ctE s + 1) b) (68 + 3 * ctE s + 2) c) 3 (s 3 + 1))) else (-1, s)
/-- so many minutes fit each report but that one -/
def fit1 (s : Nat → Int32) (but : Int32) (h : Nat) (r : Nat) : Bool := decide (Int32.ofNat r = but) || (decide (s (68 + 3 * r + 1) - s (68 + 3 * r) < Int32.ofNat h) == decide (s (68 + 3 * r + 2) = 1))
def fitV (s : Nat → Int32) (but : Int32) (h : Nat) : Bool := foldA (fun r acc => acc && fit1 s but h r) 0 (ctE s) true
def fitC (s : Nat → Int32) (but : Int32) : Nat × Nat × Nat := foldA (fun h (acc : Nat × Nat × Nat) => bif fitV s but h then (acc.1 + 1, (if acc.1 = 0 then h else acc.2.1), h) else acc) 1 60 (0, 0, 0)
def pSpn (s : Nat → Int32) (w : Int32) : Int32 := if bt w 0 2 = true then (if w = 0 then Int32.ofNat (fitC s (-1)).1 else if (fitC s (-1)).1 = 0 then -3 else if w = 1 then Int32.ofNat (fitC s (-1)).2.1 else Int32.ofNat (fitC s (-1)).2.2) else -1
def pLia (s : Nat → Int32) : Int32 := if (fitC s (-1)).1 = 0 then oV (findF (fun r => decide (0 < (fitC s (Int32.ofNat r)).1)) 0 (ctE s)) else -3
def lotV (z : Int32) : Int32 := z * 1103515245 + 12345
def onesN (s : Nat → Int32) : Nat := foldA (fun a acc => bif canV s a then acc + 1 else acc) 0 (ctA s) 0
def lotA (s : Nat → Int32) : Int32 := ((lotV (s 6)).toUInt32 >>> ((16 : Int32).toUInt32 &&& Int32.toUInt32 31)).toInt32
def lotI (s : Nat → Int32) : Int32 := lotA s - lotA s / Int32.ofNat (onesN s) * Int32.ofNat (onesN s)
/-- the n-th that can be told -/
def nthF (s : Nat → Int32) : Nat → Nat → Nat → Option Nat
  | _, 0, _ => none
  | i, k + 1, n => bif canV s i then (match n with | 0 => some i | n + 1 => nthF s (i + 1) k n) else nthF s (i + 1) k n
def drwF (s : Nat → Int32) : Option Nat := if onesN s = 0 then none else nthF s 0 (ctA s) (lotI s).toNatClampNeg
def drwS (s : Nat → Int32) : Nat → Int32 := match drwF s with | none => s | some a => telS (upd s 6 (lotV (s 6))) a
def walkS : Nat → (Nat → Int32) → (Nat → Int32)
  | 0, s => s
  | k + 1, s => match drwF s with | none => s | some _ => walkS k (drwS s)
/-- runs from s, z going on: how many end over -/
def oftF (s : Nat → Int32) : Nat → Int32 → Nat → Nat
  | 0, _, acc => acc
  | k + 1, z, acc => oftF s k (walkS 30 (upd s 6 z) 6) (bif ovV (walkS 30 (upd s 6 z)) then acc + 1 else acc)
def pOft (s : Nat → Int32) (n : Int32) : Int32 := if bt n 1 60 = true then Int32.ofNat (oftF s n.toNatClampNeg (s 6) 0) else -1
