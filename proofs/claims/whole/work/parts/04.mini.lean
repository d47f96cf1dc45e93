/-! the small machine: refs are places of the list of cells; .retAddr 0 the script, .retAddr 1 the text, .float 0 nothing -/
abbrev mE : Type := (Nat × vp_A) ⊕ (Nat × List Value)
abbrev mH : Type := List mE
abbrev mX : Type := Nat × (Nat → Int32)
abbrev mG : Type := Nat × List Value × List Value × mH
abbrev mR : Type := List Value × mH
abbrev mC : Type := Nat × List Value × Nat × List Value
abbrev mP : Type := Option (mR ⊕ (mG ⊕ mC))
abbrev U_ : Value := .float 0
def isFl : Value → Bool | .float _ => true | _ => false
def isLg : Value → Bool | .long _ => true | .double _ => true | _ => false
def isRf : Value → Bool | .ref _ => true | .null => true | .retAddr _ => true | _ => false
def refOf : Value → Option Nat | .ref a => some a | _ => none
def nulOf : Value → Option Bool | .ref _ => some false | .null => some true | _ => none
def mib (i : Int32) (n : Nat) : Bool := !decide (i < 0) && Nat.blt i.toNatClampNeg n
def okV : FieldType → Value → Bool
  | .int, .int _ => true
  | .boolean, .int x => decide (x = 0) || decide (x = 1)
  | .object _, .ref _ => true
  | .object _, .null => true
  | .array _, .ref _ => true
  | .array _, .null => true
  | _, _ => false
def hFI (h : mH) (a k : Nat) (cis : List Nat) : Option Int32 := match h[a]? with
  | some (.inr (ci, fs)) => bif cis.contains ci then (match fs[k]? with | some (.int x) => some x | _ => none) else none
  | _ => none
def hFR (h : mH) (a k : Nat) (cis : List Nat) : Option Nat := match h[a]? with
  | some (.inr (ci, fs)) => bif cis.contains ci then (match fs[k]? with | some (.ref x) => some x | _ => none) else none
  | _ => none
def hFS (h : mH) (a k : Nat) (cis : List Nat) (v : Value) : Option mH := match h[a]? with
  | some (.inr (ci, fs)) => bif cis.contains ci && Nat.blt k fs.length && okV (pY ci k) v then some (h.set a (.inr (ci, fs.set k v))) else none
  | _ => none
def hAL (h : mH) (a : Nat) : Option Nat := match h[a]? with
  | some (.inl (t, n, _)) => bif Nat.blt t 4 then some n else none
  | _ => none
def hAI (t : Nat) (h : mH) (a : Nat) (i : Int32) : Option Int32 := match h[a]? with
  | some (.inl (t', n, .inl f)) => bif Nat.beq t t' && mib i n then some (f i.toNatClampNeg) else none
  | _ => none
def hAS (t : Nat) (h : mH) (a : Nat) (i x : Int32) : Option mH := match h[a]? with
  | some (.inl (t', n, .inl f)) => bif Nat.beq t t' && mib i n then some (h.set a (.inl (t', n, .inl (upd f i.toNatClampNeg x)))) else none
  | _ => none
def hAR (h : mH) (a : Nat) (i : Int32) : Option (Option Nat) := match h[a]? with
  | some (.inl (t', n, .inr (.inr (.inr (.inr f))))) => bif (Nat.beq t' 2 || Nat.beq t' 3) && mib i n then some (f i.toNatClampNeg) else none
  | _ => none
def isAns (ci : Nat) : Bool := Nat.beq ci 0 || Nat.beq ci 1 || Nat.beq ci 7 || Nat.beq ci 8 || Nat.beq ci 9
def hCl (h : mH) (a : Nat) : Option Nat := match h[a]? with
  | some (.inr (ci, _)) => some ci
  | _ => none
def hAQ (h : mH) (a : Nat) (i : Int32) (v : Nat) : Option mH := match h[a]? with
  | some (.inl (t', n, .inr (.inr (.inr (.inr f))))) => bif Nat.beq t' 2 && mib i n && (match hCl h v with | some ci => isAns ci | none => false) then some (h.set a (.inl (t', n, .inr (.inr (.inr (.inr (va_up f i.toNatClampNeg (some v)))))))) else none
  | _ => none
def hCY (h : mH) (a0 : Nat) (sp : Int32) (a1 : Nat) (dp n : Int32) : Option mH := match h[a0]?, h[a1]? with
  | some (.inl (t0, n0, .inl f)), some (.inl (t1, n1, .inl g)) => bif Nat.beq t0 0 && Nat.beq t1 0 && !decide (sp < 0) && !decide (dp < 0) && !decide (n < 0) && Nat.ble (sp.toNatClampNeg + n.toNatClampNeg) n0 && Nat.ble (dp.toNatClampNeg + n.toNatClampNeg) n1
      then some (h.set a1 (.inl (t1, n1, .inl (va_cpy f g sp.toNatClampNeg dp.toNatClampNeg n.toNatClampNeg)))) else none
  | _, _ => none
def pD (ci : Nat) : List Value := (List.range (match pcl[ci]? with | some q => q.2.2 | none => 0)).map fun k => defaultValue (pY ci k)
def hMN (h : mH) (n k : Nat) : mH := h ++ (.inl (3, n, .inr (.inr (.inr (.inr (fun i => if i < n then some (h.length + 1 + i) else none))))) :: List.replicate n (.inl (0, k, .inl (fun _ => 0))))
def pTX : String := "answer soon game song biscuit stop more less nil if or and not leg mood told belief number"
def pTC (i : Nat) : Int32 := Int32.ofNat ((pTX.toList.getD i 'a').toNat)
def pTL : Nat := 90
def mst (lg : Bool) (L : List Value) (i : Nat) (v : Value) : Option (List Value) := bif Nat.blt i L.length && !(lg && isLg (L.getD (i - 1) U_)) then some (L.set i v) else none
def mstl (lg : Bool) (L : List Value) (i : Nat) (v : Value) : Option (List Value) := bif Nat.blt (i + 1) L.length && lg && !isLg (L.getD (i - 1) U_) then some ((L.set i v).set (i + 1) U_) else none
def mtg (pc : Nat) (off : Int) : Option Nat := match (pc : Int) + off with | .ofNat t => some t | _ => none
abbrev go (q : mG) : mP := some (.inr (.inl q))
/-- a branch -/
def mbr (pc : Nat) (off : Int) (L st : List Value) (h : mH) (c : Prop) [Decidable c] : mP := (mtg pc off).bind fun t => if c then go (t, L, st, h) else go (pc + 3, L, st, h)
def mldI (L : List Value) (i : Nat) : Option Int32 := match L[i]? with | some (.int x) => some x | _ => none
def mldL (L : List Value) (i : Nat) : Option Int64 := match L[i]? with | some (.long x) => some x | _ => none
def mldA (L : List Value) (i : Nat) : Option Value := match L[i]? with | some v => bif isRf v then some v else none | none => none
def mtsw (pc : Nat) (dflt lo hi : Int) (offs : Array Int) (x : Int32) : Option Nat := if x.toInt < lo ∨ hi < x.toInt then mtg pc dflt else match offs[(x.toInt - lo).toNat]? with | some o => mtg pc o | none => none
def mlsw (pc : Nat) (dflt : Int) (ps : Array (Int × Int)) (x : Int32) : Option Nat := bif (ps.toList.zip (ps.toList.drop 1)).all (fun (a, next) => a.1 < next.1) then mtg pc (Op.lookupswitch.offset ps.toList dflt x.toInt) else none
def mRow {α : Type} (l : List α) (j : Nat) (ok : α → Bool) : Option α := match l[j]? with | some r => bif ok r then some r else none | none => none
/-! one instruction that neither calls nor returns -/
def mstep (X : mX) (own : Nat) (lg ini : Bool) (a pc : Nat) (L : List Value) (h : mH) : Instr → List Value → mP
  | .iconst n, st => go (pc + 1, L, .int (Int32.ofInt n) :: st, h)
  | .bipush n, st => go (pc + 2, L, .int (Int8.ofInt n).toInt32 :: st, h)
  | .sipush n, st => go (pc + 3, L, .int (Int16.ofInt n).toInt32 :: st, h)
  | .lconst n, st => go (pc + 1, L, .long (Int64.ofNat (n : Nat)) :: st, h)
  | .aconst_null, st => go (pc + 1, L, .null :: st, h)
  | .ldc i, st => (mRow pK a (fun r => Nat.beq r.1 own && Nat.beq r.2.1 i && !isLg r.2.2.1)).bind fun r => go (pc + 2, L, r.2.2.1 :: st, h)
  | .ldc_w i, st => (mRow pK a (fun r => Nat.beq r.1 own && Nat.beq r.2.1 i && (match r.2.2.1 with | .int _ => true | _ => false))).bind fun r => go (pc + 3, L, r.2.2.1 :: st, h)
  | .ldc2_w i, st => (mRow pK a (fun r => Nat.beq r.1 own && Nat.beq r.2.1 i && isLg r.2.2.1)).bind fun r => go (pc + 3, L, r.2.2.1 :: st, h)
  | .iload i, st => (mldI L i).bind fun x => go (pc + 2, L, .int x :: st, h)
  | .iload_n i, st => (mldI L i).bind fun x => go (pc + 1, L, .int x :: st, h)
  | .lload i, st => (mldL L i).bind fun x => go (pc + 2, L, .long x :: st, h)
  | .lload_n i, st => (mldL L i).bind fun x => go (pc + 1, L, .long x :: st, h)
  | .aload i, st => (mldA L i).bind fun x => go (pc + 2, L, x :: st, h)
  | .aload_n i, st => (mldA L i).bind fun x => go (pc + 1, L, x :: st, h)
  | .istore i, .int x :: st => (mst lg L i (.int x)).bind fun L => go (pc + 2, L, st, h)
  | .istore_n i, .int x :: st => (mst lg L i (.int x)).bind fun L => go (pc + 1, L, st, h)
  | .astore i, x :: st => bif isRf x then (mst lg L i x).bind fun L => go (pc + 2, L, st, h) else none
  | .astore_n i, x :: st => bif isRf x then (mst lg L i x).bind fun L => go (pc + 1, L, st, h) else none
  | .lstore i, .long x :: st => (mstl lg L i (.long x)).bind fun L => go (pc + 2, L, st, h)
  | .lstore_n i, .long x :: st => (mstl lg L i (.long x)).bind fun L => go (pc + 1, L, st, h)
  | .iinc i n, st => (mldI L i).bind fun x => (mst lg L i (.int (x + Int32.ofInt n))).bind fun L => go (pc + 3, L, st, h)
  | .dup, v :: st => bif isLg v then none else go (pc + 1, L, v :: v :: st, h)
  | .dup2, v :: w :: st => bif isLg v then none else bif isLg w then none else go (pc + 1, L, v :: w :: v :: w :: st, h)
  | .pop, v :: st => bif isLg v then none else go (pc + 1, L, st, h)
  | .iadd, .int y :: .int x :: st => go (pc + 1, L, .int (x + y) :: st, h)
  | .isub, .int y :: .int x :: st => go (pc + 1, L, .int (x - y) :: st, h)
  | .imul, .int y :: .int x :: st => go (pc + 1, L, .int (x * y) :: st, h)
  | .idiv, .int y :: .int x :: st => if y = 0 then none else go (pc + 1, L, .int (x / y) :: st, h)
  | .irem, .int y :: .int x :: st => if y = 0 then none else go (pc + 1, L, .int (x - x / y * y) :: st, h)
  | .iand, .int y :: .int x :: st => go (pc + 1, L, .int (x &&& y) :: st, h)
  | .ior, .int y :: .int x :: st => go (pc + 1, L, .int (x ||| y) :: st, h)
  | .ixor, .int y :: .int x :: st => go (pc + 1, L, .int (x ^^^ y) :: st, h)
  | .ishl, .int y :: .int x :: st => go (pc + 1, L, .int (x <<< (y &&& 31)) :: st, h)
  | .ishr, .int y :: .int x :: st => go (pc + 1, L, .int (x >>> (y &&& 31)) :: st, h)
  | .iushr, .int y :: .int x :: st => go (pc + 1, L, .int (x.toUInt32 >>> (y.toUInt32 &&& Int32.toUInt32 31)).toInt32 :: st, h)
  | .ladd, .long y :: .long x :: st => go (pc + 1, L, .long (x + y) :: st, h)
  | .lmul, .long y :: .long x :: st => go (pc + 1, L, .long (x * y) :: st, h)
  | .land, .long y :: .long x :: st => go (pc + 1, L, .long (x &&& y) :: st, h)
  | .lor, .long y :: .long x :: st => go (pc + 1, L, .long (x ||| y) :: st, h)
  | .lshl, .int y :: .long x :: st => go (pc + 1, L, .long (x <<< (y.toInt64 &&& 63)) :: st, h)
  | .lshr, .int y :: .long x :: st => go (pc + 1, L, .long (x >>> (y.toInt64 &&& 63)) :: st, h)
  | .lushr, .int y :: .long x :: st => go (pc + 1, L, .long (x.toUInt64 >>> (y.toInt64.toUInt64 &&& Int64.toUInt64 63)).toInt64 :: st, h)
  | .lcmp, .long y :: .long x :: st => go (pc + 1, L, .int (lg_cmp x y) :: st, h)
  | .i2l, .int x :: st => go (pc + 1, L, .long x.toInt64 :: st, h)
  | .l2i, .long x :: st => go (pc + 1, L, .int x.toInt32 :: st, h)
  | .i2b, .int x :: st => go (pc + 1, L, .int x.toInt8.toInt32 :: st, h)
  | .i2s, .int x :: st => go (pc + 1, L, .int x.toInt16.toInt32 :: st, h)
  | .goto off, st => (mtg pc off).bind fun t => go (t, L, st, h)
  | .if_icmp .eq off, .int y :: .int x :: st => mbr pc off L st h (x = y)
  | .if_icmp .ne off, .int y :: .int x :: st => mbr pc off L st h (¬ x = y)
  | .if_icmp .lt off, .int y :: .int x :: st => mbr pc off L st h (x < y)
  | .if_icmp .ge off, .int y :: .int x :: st => mbr pc off L st h (y ≤ x)
  | .if_icmp .gt off, .int y :: .int x :: st => mbr pc off L st h (y < x)
  | .if_icmp .le off, .int y :: .int x :: st => mbr pc off L st h (x ≤ y)
  | .ifCond .eq off, .int x :: st => mbr pc off L st h (x = 0)
  | .ifCond .ne off, .int x :: st => mbr pc off L st h (¬ x = 0)
  | .ifCond .lt off, .int x :: st => mbr pc off L st h (x < 0)
  | .ifCond .ge off, .int x :: st => mbr pc off L st h (0 ≤ x)
  | .ifCond .gt off, .int x :: st => mbr pc off L st h (0 < x)
  | .ifCond .le off, .int x :: st => mbr pc off L st h (x ≤ 0)
  | .ifnull off, v :: st => (nulOf v).bind fun b => mbr pc off L st h (b = true)
  | .ifnonnull off, v :: st => (nulOf v).bind fun b => mbr pc off L st h (b = false)
  | .tableswitch dflt lo hi offs, .int x :: st => (mtsw pc dflt lo hi offs x).bind fun t => go (t, L, st, h)
  | .lookupswitch dflt ps, .int x :: st => (mlsw pc dflt ps x).bind fun t => go (t, L, st, h)
  | .getfield i, .ref b :: st => (mRow pF a (fun r => Nat.beq r.1 own && Nat.beq r.2.1 i)).bind fun r => bif Nat.beq r.2.2.2.2.2.2.2.1 0
      then (hFI h b r.2.2.2.1 r.2.2.2.2.1).bind fun x => go (pc + 3, L, .int x :: st, h)
      else (hFR h b r.2.2.2.1 r.2.2.2.2.1).bind fun x => go (pc + 3, L, .ref x :: st, h)
  | .putfield i, v :: .ref b :: st => (mRow pF a (fun r => Nat.beq r.1 own && Nat.beq r.2.1 i && (Nat.beq r.2.2.2.2.2.2.2.2 0 || (Nat.beq r.2.2.2.2.2.2.2.2 1 && ini)))).bind fun r =>
      (hFS h b r.2.2.2.1 r.2.2.2.2.1 v).bind fun h => go (pc + 3, L, st, h)
  | .arraylength, .ref b :: st => (hAL h b).bind fun n => go (pc + 1, L, .int (Int32.ofNat n) :: st, h)
  | .arraylength, .retAddr 0 :: st => go (pc + 1, L, .int (Int32.ofNat X.1) :: st, h)
  | .iaload, .int i :: .ref b :: st => (hAI 0 h b i).bind fun x => go (pc + 1, L, .int x :: st, h)
  | .iaload, .int i :: .retAddr 0 :: st => bif mib i X.1 then go (pc + 1, L, .int (X.2 i.toNatClampNeg) :: st, h) else none
  | .baload, .int i :: .ref b :: st => (hAI 1 h b i).bind fun x => go (pc + 1, L, .int x :: st, h)
  | .iastore, .int x :: .int i :: .ref b :: st => (hAS 0 h b i x).bind fun h => go (pc + 1, L, st, h)
  | .bastore, .int x :: .int i :: .ref b :: st => (hAS 1 h b i x.toInt8.toInt32).bind fun h => go (pc + 1, L, st, h)
  | .aaload, .int i :: .ref b :: st => (hAR h b i).bind fun o => go (pc + 1, L, va_rf o :: st, h)
  | .aastore, .ref v :: .int i :: .ref b :: st => (hAQ h b i v).bind fun h => go (pc + 1, L, st, h)
  | .new i, st => (mRow pM a (fun r => Nat.beq r.1 own && Nat.beq r.2.1 i)).bind fun r => go (pc + 3, L, .ref h.length :: st, h ++ [.inr (r.2.2.1, pD r.2.2.1)])
  | .newarray .int, .int n :: st => bif !decide (n < 0) && Nat.ble n.toNatClampNeg 100000 then go (pc + 2, L, .ref h.length :: st, h ++ [.inl (0, n.toNatClampNeg, .inl (fun _ => 0))]) else none
  | .newarray .byte, .int n :: st => bif !decide (n < 0) && Nat.ble n.toNatClampNeg 100000 then go (pc + 2, L, .ref h.length :: st, h ++ [.inl (1, n.toNatClampNeg, .inl (fun _ => 0))]) else none
  | .anewarray i, .int n :: st => bif Nat.beq own 3 && Nat.beq i 11 && !decide (n < 0) && Nat.ble n.toNatClampNeg 100000 then go (pc + 3, L, .ref h.length :: st, h ++ [.inl (2, n.toNatClampNeg, .inr (.inr (.inr (.inr (fun _ => none)))))]) else none
  | .multianewarray i dims, .int k :: .int n :: st => bif ((Nat.beq own 2 && Nat.beq i 18) || (Nat.beq own 10 && Nat.beq i 39)) && Nat.beq dims 2 && !decide (n < 0) && !decide (k < 0) && Nat.ble n.toNatClampNeg 10000 && Nat.ble k.toNatClampNeg 10000
      then go (pc + 4, L, .ref h.length :: st, hMN h n.toNatClampNeg k.toNatClampNeg) else none
  | _, _ => none
def mtk (n : Nat) (st : List Value) : Option (List Value × List Value) := bif Nat.ble n st.length then some ((st.take n).reverse, st.drop n) else none
def flL (vs : List Value) : List Value := vs.flatMap fun v => bif isLg v then [v, U_] else [v]
def entL (maxL : Nat) (lg : Bool) (vs : List Value) : Option (List Value) := bif Nat.ble (flL vs).length maxL && (lg || vs.all (fun v => !isLg v)) && vs.all (fun v => !isFl v) then some (flL vs ++ List.replicate (maxL - (flL vs).length) U_) else none
def mok (rest : List Value) : Bool := Nat.ble ((rest.map fun v => v.category).sum) 8
def mgo (y : Nat) (vs : List Value) (pc : Nat) (rest : List Value) : mP := match pMth y with
  | none => none
  | some r => bif mok rest then (entL r.2.2.2.1 r.2.2.2.2.2.2.1 vs).bind fun L => some (.inr (.inr (y, L, pc + 3, rest))) else none
/-- 0 static, 1 special, 2 virtual -/
def mop (kind op : Nat) : Bool := match kind with
  | 0 => Nat.beq op 0 | 1 => Nat.beq op 0 | 8 => Nat.beq op 0 | 11 => Nat.beq op 0 | 12 => Nat.beq op 0
  | 2 => Nat.beq op 1 | 3 => Nat.beq op 1 | 4 => Nat.beq op 1 | 7 => Nat.beq op 1
  | _ => Nat.beq op 2
def mmax (x y : Int32) : Int32 := if x < y then y else x
def mmin (x y : Int32) : Int32 := if y < x then y else x
def mcK (c : pCT) (pc : Nat) (L : List Value) (h : mH) (vs rest : List Value) : mP := match c.2.2.1, rest with
  | 0, rest => c.2.2.2.2.2.2.head?.bind fun t => mgo t.2 vs pc rest
  | 1, rest => c.2.2.2.2.2.2.head?.bind fun t => mgo t.2 vs pc rest
  | 2, .ref b :: rest => c.2.2.2.2.2.2.head?.bind fun t => mgo t.2 (.ref b :: vs) pc rest
  | 3, .ref b :: rest => c.2.2.2.2.2.2.head?.bind fun t => mgo t.2 (.ref b :: vs) pc rest
  | 4, .ref _ :: rest => bif mok rest && vs.isEmpty then go (pc + 3, L, rest, h) else none
  | 5, .ref b :: rest => (hCl h b).bind fun ci => (c.2.2.2.2.2.2.lookup ci).bind fun y => mgo y (.ref b :: vs) pc rest
  | 6, .ref b :: rest => (hCl h b).bind fun ci => (c.2.2.2.2.2.2.lookup ci).bind fun y => mgo y (.ref b :: vs) pc rest
  | 7, .ref b :: rest => (hCl h b).bind fun _ => c.2.2.2.2.2.2.head?.bind fun t => mgo t.2 (.ref b :: vs) pc rest
  | 8, rest => match vs with
    | [.ref a0, .int sp, .ref a1, .int dp, .int n] => bif mok rest then (hCY h a0 sp a1 dp n).bind fun h => go (pc + 3, L, rest, h) else none
    | _ => none
  | 9, .retAddr 1 :: rest => bif mok rest then go (pc + 3, L, .int (Int32.ofNat pTL) :: rest, h) else none
  | 10, .retAddr 1 :: rest => match vs with
    | [.int i] => bif mok rest && mib i pTL then go (pc + 3, L, .int (pTC i.toNatClampNeg) :: rest, h) else none
    | _ => none
  | 11, rest => match vs with
    | [.int x, .int y] => bif mok rest then go (pc + 3, L, .int (mmax x y) :: rest, h) else none
    | _ => none
  | 12, rest => match vs with
    | [.int x, .int y] => bif mok rest then go (pc + 3, L, .int (mmin x y) :: rest, h) else none
    | _ => none
  | _, _ => none
def mcl (own op idx a pc : Nat) (L st : List Value) (h : mH) : mP := match pC a with
  | none => none
  | some c => bif Nat.beq c.1 own && Nat.beq c.2.1 idx && mop c.2.2.1 op then (mtk c.2.2.2.1 st).bind fun q => mcK c pc L h q.1 q.2 else none
def okRet : Option FieldType → Value → Bool
  | some .int, .int _ => true
  | some .boolean, .int x => decide (x = 0) || decide (x = 1)
  | some .long, .long _ => true
  | some (.object _), .ref _ => true
  | some (.object _), .null => true
  | _, _ => false
def mrt (r : Option FieldType) (st : List Value) (h : mH) : mP := match st with
  | [v] => bif okRet r v then some (.inl ([v], h)) else none
  | _ => none
def isI : Value → Bool | .int _ => true | _ => false
def nxtI (X : mX) (r : pMT) (a pc : Nat) (L st : List Value) (h : mH) : Instr → mP
  | .ireturn => bif st.all isI then mrt r.2.2.2.2.1 st h else none
  | .lreturn => bif st.all isLg then mrt r.2.2.2.2.1 st h else none
  | .areturn => bif st.all isRf then mrt r.2.2.2.2.1 st h else none
  | .return_ => bif st.isEmpty && r.2.2.2.2.1.isNone then some (.inl ([], h)) else none
  | .invokestatic i => mcl r.2.2.2.2.2.1 0 i a pc L st h
  | .invokespecial i => mcl r.2.2.2.2.2.1 1 i a pc L st h
  | .invokevirtual i => mcl r.2.2.2.2.2.1 2 i a pc L st h
  | i => mstep X r.2.2.2.2.2.1 r.2.2.2.2.2.2.1 r.2.2.2.2.2.2.2 a pc L h i st
def nxt (X : mX) (y pc : Nat) (L st : List Value) (h : mH) : mP := match pMth y with
  | none => none
  | some r => match r.1 pc with
    | none => none
    | some (i, a) => nxtI X r a pc L st h i
def mbody (rec : Nat → Nat → Nat → List Value → List Value → mH → Option mR) (X : mX) (d y pc : Nat) (L st : List Value) (h : mH) : Option mR := match nxt X y pc L st h with
  | none => none
  | some (.inl r) => some r
  | some (.inr (.inl q)) => rec d y q.1 q.2.1 q.2.2.1 q.2.2.2
  | some (.inr (.inr q)) => match d with
    | 0 => none
    | d + 1 => (rec d q.1 0 q.2.1 [] h).bind fun r => rec (d + 1) y q.2.2.1 L (r.1 ++ q.2.2.2) r.2
def runF (X : mX) : Nat → Nat → Nat → Nat → List Value → List Value → mH → Option mR
  | 0 => fun _ _ _ _ _ _ => none
  | n + 1 => mbody (runF X n) X
theorem mbody_mono {X : mX} {f g : Nat → Nat → Nat → List Value → List Value → mH → Option mR} (hfg : ∀ d y pc L st h r, f d y pc L st h = some r → g d y pc L st h = some r) {d y pc : Nat} {L st : List Value} {h : mH} {r : mR} (hr : mbody f X d y pc L st h = some r) : mbody g X d y pc L st h = some r := by
  unfold mbody at hr ⊢
  cases hn : nxt X y pc L st h with
  | none => rw [hn] at hr; cases hr
  | some q =>
    rw [hn] at hr
    obtain q | q | q := q
    · exact hr
    · exact hfg _ _ _ _ _ _ _ hr
    · cases d with
      | zero => cases hr
      | succ d =>
        obtain ⟨z, h1, h2⟩ := Option.bind_eq_some_iff.mp hr
        exact Option.bind_eq_some_iff.mpr ⟨z, hfg _ _ _ _ _ _ _ h1, hfg _ _ _ _ _ _ _ h2⟩
theorem runF_succ {X : mX} : ∀ (n d y pc : Nat) (L st : List Value) (h : mH) (r : mR), runF X n d y pc L st h = some r → runF X (n + 1) d y pc L st h = some r
  | 0 => fun _ _ _ _ _ _ _ h => by cases h
  | n + 1 => fun _ _ _ _ _ _ _ h => mbody_mono (runF_succ n) h
theorem runF_le {X : mX} {n k : Nat} (hk : n ≤ k) {d y pc : Nat} {L st : List Value} {h : mH} {r : mR} (hr : runF X n d y pc L st h = some r) : runF X k d y pc L st h = some r := by
  induction hk with
  | refl => exact hr
  | step _ ih => exact runF_succ _ _ _ _ _ _ _ _ ih
noncomputable def Rn (X : mX) (d y pc : Nat) (L st : List Value) (h : mH) : Option mR :=
  @dite _ (∃ r n, runF X n d y pc L st h = some r) (Classical.propDecidable _) (fun hx => some (Classical.choose hx)) (fun _ => none)
theorem Rn_iff {X : mX} {d y pc : Nat} {L st : List Value} {h : mH} {r : mR} : Rn X d y pc L st h = some r ↔ ∃ n, runF X n d y pc L st h = some r := by
  unfold Rn
  constructor
  · intro hr
    by_cases hx : ∃ r n, runF X n d y pc L st h = some r
    · rw [dif_pos hx] at hr
      cases hr
      exact Classical.choose_spec hx
    · rw [dif_neg hx] at hr
      cases hr
  · intro ⟨n, hn⟩
    have hx : ∃ r n, runF X n d y pc L st h = some r := ⟨r, n, hn⟩
    rw [dif_pos hx]
    obtain ⟨k, hk⟩ := Classical.choose_spec hx
    have h1 := runF_le (Nat.le_max_left n k) hn
    have h2 := runF_le (Nat.le_max_right n k) hk
    rw [h1] at h2
    exact h2.symm
theorem opt_ext {α : Type} {a b : Option α} (h : ∀ r, a = some r ↔ b = some r) : a = b := by
  cases a with
  | none => cases b with
    | none => rfl
    | some y => exact absurd ((h y).mpr rfl) (by simp)
  | some x => exact ((h x).mp rfl).symm
theorem Rn_eq (X : mX) (d y pc : Nat) (L st : List Value) (h : mH) : Rn X d y pc L st h = mbody (Rn X) X d y pc L st h := by
  refine opt_ext fun r => ⟨fun hr => ?_, fun hr => ?_⟩
  · obtain ⟨n, hn⟩ := Rn_iff.mp hr
    cases n with
    | zero => cases hn
    | succ n => exact mbody_mono (fun d y pc L st h r hr => Rn_iff.mpr ⟨n, hr⟩) hn
  · refine Rn_iff.mpr ?_
    unfold mbody at hr
    cases hn : nxt X y pc L st h with
    | none => rw [hn] at hr; cases hr
    | some q =>
      rw [hn] at hr
      obtain q | q | q := q
      · exact ⟨1, by show mbody _ X d y pc L st h = _; unfold mbody; rw [hn]; exact hr⟩
      · obtain ⟨n, h1⟩ := Rn_iff.mp hr
        exact ⟨n + 1, by show mbody _ X d y pc L st h = _; unfold mbody; rw [hn]; exact h1⟩
      · cases d with
        | zero => cases hr
        | succ d =>
          obtain ⟨z, h1, h2⟩ := Option.bind_eq_some_iff.mp hr
          obtain ⟨n, h1⟩ := Rn_iff.mp h1
          obtain ⟨k, h2⟩ := Rn_iff.mp h2
          refine ⟨max n k + 1, ?_⟩
          show mbody _ X (d + 1) y pc L st h = _
          unfold mbody
          rw [hn]
          exact Option.bind_eq_some_iff.mpr ⟨z, runF_le (Nat.le_max_left n k) h1, runF_le (Nat.le_max_right n k) h2⟩
