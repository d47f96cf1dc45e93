/-! equations of the small machine's run, an instruction each -/
noncomputable def mK (X : mX) (d y : Nat) (L : List Value) (h : mH) : mP → Option mR
  | none => none
  | some (.inl r) => some r
  | some (.inr (.inl q)) => Rn X d y q.1 q.2.1 q.2.2.1 q.2.2.2
  | some (.inr (.inr q)) => match d with
    | 0 => none
    | d + 1 => (Rn X d q.1 0 q.2.1 [] h).bind fun r => Rn X (d + 1) y q.2.2.1 L (r.1 ++ q.2.2.2) r.2
/-- a cell's class is that one -/
def isC (h : mH) (z C : Nat) : Bool := match hCl h z with | some ci => Nat.beq ci C | none => false
def oc {α : Type} (o : Option Nat) (n : α) (f : Nat → α) : α := match o with | none => n | some a => f a
theorem oc_none {α : Type} {n : α} {f : Nat → α} : oc none n f = n := rfl
theorem oc_some {α : Type} {a : Nat} {n : α} {f : Nat → α} : oc (some a) n f = f a := rfl
section Eqs
variable {X : mX} {d y pc pc' t a : Nat} {r : pMT} {i : Instr} {L L' st st' rest : List Value} {h h' : mH} {q : mG}
theorem Rn_i (hy : pMth y = some r) (hp : r.1 pc = some (i, a)) : Rn X d y pc L st h = mK X d y L h (nxtI X r a pc L st h i) := by
  rw [Rn_eq]
  unfold mbody nxt
  rw [hy]
  dsimp only
  rw [hp]
  dsimp only
  cases nxtI X r a pc L st h i with
  | none => rfl
  | some z => obtain z | z | z := z <;> rfl
theorem R_go (hy : pMth y = some r) (hp : r.1 pc = some (i, a)) (hn : nxtI X r a pc L st h i = go q) : Rn X d y pc L st h = Rn X d y q.1 q.2.1 q.2.2.1 q.2.2.2 := by
  rw [Rn_i hy hp, hn]; rfl
theorem R_ret {z : mR} (hy : pMth y = some r) (hp : r.1 pc = some (i, a)) (hn : nxtI X r a pc L st h i = some (.inl z)) : Rn X d y pc L st h = some z := by
  rw [Rn_i hy hp, hn]; rfl
theorem R_zret {v : Int32} (hy : pMth y = some r) (hp : r.1 pc = some (.ireturn, a)) (hr : r.2.2.2.2.1 = some .boolean) : Rn X d y pc L [.int v] h = bif decide (v = 0) || decide (v = 1) then some ([.int v], h) else none := by
  rw [Rn_i hy hp]
  show mK X d y L h (mrt r.2.2.2.2.1 [.int v] h) = _
  rw [hr]
  show mK X d y L h (bif decide (v = 0) || decide (v = 1) then some (.inl ([.int v], h)) else none) = _
  cases (decide (v = 0) || decide (v = 1)) <;> rfl
theorem R_aret {o : Option Nat} {s : String} (hy : pMth y = some r) (hp : r.1 pc = some (.areturn, a)) (hr : r.2.2.2.2.1 = some (.object s)) : Rn X d y pc L [va_rf o] h = some ([va_rf o], h) := by
  rw [Rn_i hy hp]
  cases o with
  | none => show mK X d y L h (mrt r.2.2.2.2.1 [.null] h) = _; rw [hr]; rfl
  | some b => show mK X d y L h (mrt r.2.2.2.2.1 [.ref b] h) = _; rw [hr]; rfl
theorem R_br {off : Int} {c : Prop} [Decidable c] (hy : pMth y = some r) (hp : r.1 pc = some (i, a)) (hn : nxtI X r a pc L st h i = mbr pc off L st' h c) (ht : mtg pc off = some t) :
    Rn X d y pc L st h = if c then Rn X d y t L st' h else Rn X d y (pc + 3) L st' h := by
  rw [Rn_i hy hp, hn]
  unfold mbr
  rw [ht]
  show mK X d y L h (if c then _ else _) = _
  split <;> rfl
theorem R_z {c : Prop} [Decidable c] (hy : pMth y = some r) (hp : r.1 pc = some (i, a)) (hn : nxtI X r a pc L st h i = if c then none else go q) :
    Rn X d y pc L st h = if c then none else Rn X d y q.1 q.2.1 q.2.2.1 q.2.2.2 := by
  rw [Rn_i hy hp, hn]
  split <;> rfl
theorem R_b {b : Bool} (hy : pMth y = some r) (hp : r.1 pc = some (i, a)) (hn : nxtI X r a pc L st h i = bif b then go q else none) :
    Rn X d y pc L st h = bif b then Rn X d y q.1 q.2.1 q.2.2.1 q.2.2.2 else none := by
  rw [Rn_i hy hp, hn]
  cases b <;> rfl
theorem R_o {α : Type} {o : Option α} {f : α → mG} (hy : pMth y = some r) (hp : r.1 pc = some (i, a)) (hn : nxtI X r a pc L st h i = o.bind fun x => go (f x)) :
    Rn X d y pc L st h = o.bind fun x => Rn X d y (f x).1 (f x).2.1 (f x).2.2.1 (f x).2.2.2 := by
  rw [Rn_i hy hp, hn]
  cases o <;> rfl
theorem R_getI {j z : Nat} {f : pFT} (hy : pMth y = some r) (hp : r.1 pc = some (.getfield j, a)) (hf : mRow pF a (fun q => Nat.beq q.1 r.2.2.2.2.2.1 && Nat.beq q.2.1 j) = some f) (h0 : Nat.beq f.2.2.2.2.2.2.2.1 0 = true) :
    Rn X d y pc L (.ref z :: st) h = (hFI h z f.2.2.2.1 f.2.2.2.2.1).bind fun x => Rn X d y (pc + 3) L (.int x :: st) h := by
  refine R_o (f := fun x => (pc + 3, L, .int x :: st, h)) hy hp ?_
  show (mRow pF a (fun q => Nat.beq q.1 r.2.2.2.2.2.1 && Nat.beq q.2.1 j)).bind _ = _
  rw [hf, Option.bind_some, h0]
  rfl
theorem R_getR {j z : Nat} {f : pFT} (hy : pMth y = some r) (hp : r.1 pc = some (.getfield j, a)) (hf : mRow pF a (fun q => Nat.beq q.1 r.2.2.2.2.2.1 && Nat.beq q.2.1 j) = some f) (h0 : Nat.beq f.2.2.2.2.2.2.2.1 0 = false) :
    Rn X d y pc L (.ref z :: st) h = (hFR h z f.2.2.2.1 f.2.2.2.2.1).bind fun x => Rn X d y (pc + 3) L (.ref x :: st) h := by
  refine R_o (f := fun x => (pc + 3, L, .ref x :: st, h)) hy hp ?_
  show (mRow pF a (fun q => Nat.beq q.1 r.2.2.2.2.2.1 && Nat.beq q.2.1 j)).bind _ = _
  rw [hf, Option.bind_some, h0]
  rfl
theorem R_put {j z : Nat} {v : Value} {f : pFT} (hy : pMth y = some r) (hp : r.1 pc = some (.putfield j, a)) (hf : mRow pF a (fun q => Nat.beq q.1 r.2.2.2.2.2.1 && Nat.beq q.2.1 j && (Nat.beq q.2.2.2.2.2.2.2.2 0 || (Nat.beq q.2.2.2.2.2.2.2.2 1 && r.2.2.2.2.2.2.2))) = some f) :
    Rn X d y pc L (v :: .ref z :: st) h = (hFS h z f.2.2.2.1 f.2.2.2.2.1 v).bind fun h => Rn X d y (pc + 3) L st h := by
  refine R_o (f := fun h => (pc + 3, L, st, h)) hy hp ?_
  show (mRow pF a (fun q => Nat.beq q.1 r.2.2.2.2.2.1 && Nat.beq q.2.1 j && (Nat.beq q.2.2.2.2.2.2.2.2 0 || (Nat.beq q.2.2.2.2.2.2.2.2 1 && r.2.2.2.2.2.2.2)))).bind _ = _
  rw [hf, Option.bind_some]
theorem R_ifnull {off : Int} {o : Option Nat} (hy : pMth y = some r) (hp : r.1 pc = some (.ifnull off, a)) (ht : mtg pc off = some t) :
    Rn X d y pc L (va_rf o :: st) h = oc o (Rn X d y t L st h) (fun _ => Rn X d y (pc + 3) L st h) := by
  rw [Rn_i hy hp]
  cases o with
  | none =>
    show mK X d y L h (mbr pc off L st h (true = true)) = _
    unfold mbr; rw [ht]; rfl
  | some b =>
    show mK X d y L h (mbr pc off L st h (false = true)) = _
    unfold mbr; rw [ht]; rfl
theorem R_ifnonnull {off : Int} {o : Option Nat} (hy : pMth y = some r) (hp : r.1 pc = some (.ifnonnull off, a)) (ht : mtg pc off = some t) :
    Rn X d y pc L (va_rf o :: st) h = oc o (Rn X d y (pc + 3) L st h) (fun _ => Rn X d y t L st h) := by
  rw [Rn_i hy hp]
  cases o with
  | none =>
    show mK X d y L h (mbr pc off L st h (true = false)) = _
    unfold mbr; rw [ht]; rfl
  | some b =>
    show mK X d y L h (mbr pc off L st h (false = false)) = _
    unfold mbr; rw [ht]; rfl
/-- a call -/
theorem R_call {q : mC} (hy : pMth y = some r) (hp : r.1 pc = some (i, a)) (hn : nxtI X r a pc L st h i = some (.inr (.inr q))) : Rn X (d + 1) y pc L st h = (Rn X d q.1 0 q.2.1 [] h).bind fun z => Rn X (d + 1) y q.2.2.1 L (z.1 ++ q.2.2.2) z.2 := by
  rw [Rn_i hy hp, hn]; rfl
/-- a virtual call: the receiver's class first -/
theorem R_callC {z C : Nat} {q : mC} {f : Nat → mP} (hy : pMth y = some r) (hp : r.1 pc = some (i, a)) (hn : nxtI X r a pc L st h i = (hCl h z).bind f) (hf : f C = some (.inr (.inr q))) (hf2 : ∀ ci, Nat.beq ci C = false → f ci = none) :
    Rn X (d + 1) y pc L st h = bif isC h z C then (Rn X d q.1 0 q.2.1 [] h).bind fun z => Rn X (d + 1) y q.2.2.1 L (z.1 ++ q.2.2.2) z.2 else none := by
  rw [Rn_i hy hp, hn]
  unfold isC
  cases hc : hCl h z with
  | none => rfl
  | some ci =>
    show mK X (d + 1) y L h (f ci) = bif Nat.beq ci C then _ else none
    cases hb : Nat.beq ci C with
    | true => rw [natb hb, hf]; rfl
    | false => rw [hf2 ci hb]; rfl
theorem R_callH {z C : Nat} {q : mC} {f : Nat → mP} (hc : hCl h z = some C) (hy : pMth y = some r) (hp : r.1 pc = some (i, a)) (hn : nxtI X r a pc L st h i = (hCl h z).bind f) (hf : f C = some (.inr (.inr q))) :
    Rn X (d + 1) y pc L st h = (Rn X d q.1 0 q.2.1 [] h).bind fun z => Rn X (d + 1) y q.2.2.1 L (z.1 ++ q.2.2.2) z.2 := by
  refine R_call hy hp ?_
  rw [hn, hc]
  exact hf
theorem bcong {α β : Type} {o : Option α} {f g : α → Option β} (h : ∀ x, f x = g x) : o.bind f = o.bind g := by rw [funext h]
theorem icong {c : Prop} [Decidable c] {α : Type} {x y x' y' : α} (h1 : x = x') (h2 : y = y') : (if c then x else y) = if c then x' else y' := by rw [h1, h2]
theorem ccong {b : Bool} {α : Type} {x y x' y' : α} (h1 : x = x') (h2 : y = y') : (bif b then x else y) = bif b then x' else y' := by rw [h1, h2]
theorem ocong {o : Option Nat} {α : Type} {x x' : α} {f f' : Nat → α} (h1 : o = none → x = x') (h2 : ∀ a, o = some a → f a = f' a) : oc o x f = oc o x' f' := by
  cases o with
  | none => exact h1 rfl
  | some a => exact h2 a rfl
theorem R_oc {o : Option Nat} {F : Value → List Value} (hy : pMth y = some r) (hp : r.1 pc = some (i, a)) (hn : nxtI X r a pc L (F .null) h i = none) : Rn X d y pc L (F (va_rf o)) h = oc o none (fun b => Rn X d y pc L (F (.ref b)) h) := by
  cases o with
  | none => show Rn X d y pc L (F .null) h = none; rw [Rn_i hy hp, hn]; rfl
  | some b => rfl
theorem R_aloadv {n : Fin 4} {o : Option Nat} (hy : pMth y = some r) (hp : r.1 pc = some (.aload_n n, a)) (hl : L[(n : Nat)]? = some (va_rf o)) : Rn X d y pc L st h = Rn X d y (pc + 1) L (va_rf o :: st) h := by
  refine R_go (q := (pc + 1, L, va_rf o :: st, h)) hy hp ?_
  show (mldA L n).bind _ = _
  unfold mldA
  rw [hl]
  cases o <;> rfl
theorem R_aloadw {n : Nat} {o : Option Nat} (hy : pMth y = some r) (hp : r.1 pc = some (.aload n, a)) (hl : L[n]? = some (va_rf o)) : Rn X d y pc L st h = Rn X d y (pc + 2) L (va_rf o :: st) h := by
  refine R_go (q := (pc + 2, L, va_rf o :: st, h)) hy hp ?_
  show (mldA L n).bind _ = _
  unfold mldA
  rw [hl]
  cases o <;> rfl
theorem R_astorev {n : Fin 4} {o : Option Nat} (hy : pMth y = some r) (hp : r.1 pc = some (.astore_n n, a)) (hl : mst r.2.2.2.2.2.2.1 L (n : Nat) (va_rf o) = some L') : Rn X d y pc L (va_rf o :: st) h = Rn X d y (pc + 1) L' st h := by
  refine R_go (q := (pc + 1, L', st, h)) hy hp ?_
  cases o with
  | none => show (mst r.2.2.2.2.2.2.1 L n .null).bind _ = _; rw [show mst r.2.2.2.2.2.2.1 L n .null = some L' from hl]; rfl
  | some b => show (mst r.2.2.2.2.2.2.1 L n (.ref b)).bind _ = _; rw [show mst r.2.2.2.2.2.2.1 L n (.ref b) = some L' from hl]; rfl
theorem R_astorew {n : Nat} {o : Option Nat} (hy : pMth y = some r) (hp : r.1 pc = some (.astore n, a)) (hl : mst r.2.2.2.2.2.2.1 L n (va_rf o) = some L') : Rn X d y pc L (va_rf o :: st) h = Rn X d y (pc + 2) L' st h := by
  refine R_go (q := (pc + 2, L', st, h)) hy hp ?_
  cases o with
  | none => show (mst r.2.2.2.2.2.2.1 L n .null).bind _ = _; rw [show mst r.2.2.2.2.2.2.1 L n .null = some L' from hl]; rfl
  | some b => show (mst r.2.2.2.2.2.2.1 L n (.ref b)).bind _ = _; rw [show mst r.2.2.2.2.2.2.1 L n (.ref b) = some L' from hl]; rfl
theorem Rn_x {z : mP} (hn : nxt X y pc L st h = z) : Rn X d y pc L st h = mK X d y L h z := by
  rw [Rn_eq]
  unfold mbody
  rw [hn]
  cases z with
  | none => rfl
  | some z => obtain z | z | z := z <;> rfl
/-- k instructions at once -/
def runP (X : mX) (y : Nat) : Nat → Nat → List Value → List Value → mH → Option mG
  | 0, pc, L, st, h => some (pc, L, st, h)
  | k + 1, pc, L, st, h => match nxt X y pc L st h with
    | some (.inr (.inl q)) => runP X y k q.1 q.2.1 q.2.2.1 q.2.2.2
    | _ => none
theorem R_n : ∀ (k : Nat) {pc pc' : Nat} {L L' st st' : List Value} {h h' : mH}, runP X y k pc L st h = some (pc', L', st', h') → Rn X d y pc L st h = Rn X d y pc' L' st' h'
  | 0, _, _, _, _, _, _, _, _, hn => by cases hn; rfl
  | k + 1, pc, pc', L, L', st, st', h, h', hn => by
    unfold runP at hn
    split at hn
    · next q hq => rw [Rn_x hq]; exact R_n k hn
    · cases hn
theorem R_iald {z : Nat} {j : Int32} (hy : pMth y = some r) (hp : r.1 pc = some (.iaload, a)) : Rn X d y pc L (.int j :: .ref z :: st) h = (hAI 0 h z j).bind fun x => Rn X d y (pc + 1) L (.int x :: st) h :=
  R_o (f := fun x => (pc + 1, L, .int x :: st, h)) hy hp rfl
theorem R_bald {z : Nat} {j : Int32} (hy : pMth y = some r) (hp : r.1 pc = some (.baload, a)) : Rn X d y pc L (.int j :: .ref z :: st) h = (hAI 1 h z j).bind fun x => Rn X d y (pc + 1) L (.int x :: st) h :=
  R_o (f := fun x => (pc + 1, L, .int x :: st, h)) hy hp rfl
theorem R_aald {z : Nat} {j : Int32} (hy : pMth y = some r) (hp : r.1 pc = some (.aaload, a)) : Rn X d y pc L (.int j :: .ref z :: st) h = (hAR h z j).bind fun x => Rn X d y (pc + 1) L (va_rf x :: st) h :=
  R_o (f := fun x => (pc + 1, L, va_rf x :: st, h)) hy hp rfl
theorem R_iast {z : Nat} {j v : Int32} (hy : pMth y = some r) (hp : r.1 pc = some (.iastore, a)) : Rn X d y pc L (.int v :: .int j :: .ref z :: st) h = (hAS 0 h z j v).bind fun h => Rn X d y (pc + 1) L st h :=
  R_o (f := fun h => (pc + 1, L, st, h)) hy hp rfl
theorem R_bast {z : Nat} {j v : Int32} (hy : pMth y = some r) (hp : r.1 pc = some (.bastore, a)) : Rn X d y pc L (.int v :: .int j :: .ref z :: st) h = (hAS 1 h z j v.toInt8.toInt32).bind fun h => Rn X d y (pc + 1) L st h :=
  R_o (f := fun h => (pc + 1, L, st, h)) hy hp rfl
theorem R_aast {z v : Nat} {j : Int32} (hy : pMth y = some r) (hp : r.1 pc = some (.aastore, a)) : Rn X d y pc L (.ref v :: .int j :: .ref z :: st) h = (hAQ h z j v).bind fun h => Rn X d y (pc + 1) L st h :=
  R_o (f := fun h => (pc + 1, L, st, h)) hy hp rfl
theorem R_alen {z : Nat} (hy : pMth y = some r) (hp : r.1 pc = some (.arraylength, a)) : Rn X d y pc L (.ref z :: st) h = (hAL h z).bind fun n => Rn X d y (pc + 1) L (.int (Int32.ofNat n) :: st) h :=
  R_o (f := fun n => (pc + 1, L, .int (Int32.ofNat n) :: st, h)) hy hp rfl
theorem R_sald {j : Int32} (hy : pMth y = some r) (hp : r.1 pc = some (.iaload, a)) : Rn X d y pc L (.int j :: .retAddr 0 :: st) h = bif mib j X.1 then Rn X d y (pc + 1) L (.int (X.2 j.toNatClampNeg) :: st) h else none :=
  R_b (q := (pc + 1, L, .int (X.2 j.toNatClampNeg) :: st, h)) hy hp rfl
theorem R_idiv {x v : Int32} (hy : pMth y = some r) (hp : r.1 pc = some (.idiv, a)) : Rn X d y pc L (.int v :: .int x :: st) h = if v = 0 then none else Rn X d y (pc + 1) L (.int (x / v) :: st) h :=
  R_z (q := (pc + 1, L, .int (x / v) :: st, h)) hy hp rfl
theorem R_irem {x v : Int32} (hy : pMth y = some r) (hp : r.1 pc = some (.irem, a)) : Rn X d y pc L (.int v :: .int x :: st) h = if v = 0 then none else Rn X d y (pc + 1) L (.int (x - x / v * v) :: st) h :=
  R_z (q := (pc + 1, L, .int (x - x / v * v) :: st, h)) hy hp rfl
theorem R_cp {o : Option mH} (hy : pMth y = some r) (hp : r.1 pc = some (i, a)) (hn : nxtI X r a pc L st h i = o.bind fun h => go (pc', L', st', h)) : Rn X d y pc L st h = o.bind fun h => Rn X d y pc' L' st' h :=
  R_o (f := fun h => (pc', L', st', h)) hy hp hn
theorem R_ch {j : Int32} {v : Value} (hy : pMth y = some r) (hp : r.1 pc = some (i, a)) (hn : nxtI X r a pc L st h i = bif mib j pTL then go (pc', L', v :: st', h) else none) : Rn X d y pc L st h = bif mib j pTL then Rn X d y pc' L' (v :: st') h else none :=
  R_b (q := (pc', L', v :: st', h)) hy hp hn
theorem R_call1 {y' : Nat} (hy : pMth y = some r) (hp : r.1 pc = some (i, a)) (hn : nxtI X r a pc L st h i = some (.inr (.inr (y', L', pc', rest)))) : Rn X (d + 1) y pc L st h = (Rn X d y' 0 L' [] h).bind fun z => Rn X (d + 1) y pc' L (z.1 ++ rest) z.2 := R_call hy hp hn
theorem R_callC1 {z C y' : Nat} {f : Nat → mP} (hy : pMth y = some r) (hp : r.1 pc = some (i, a)) (hn : nxtI X r a pc L st h i = (hCl h z).bind f) (hf : f C = some (.inr (.inr (y', L', pc', rest)))) (hf2 : ∀ ci, Nat.beq ci C = false → f ci = none) :
    Rn X (d + 1) y pc L st h = bif isC h z C then (Rn X d y' 0 L' [] h).bind fun z => Rn X (d + 1) y pc' L (z.1 ++ rest) z.2 else none := R_callC hy hp hn hf hf2
theorem R_callH1 {z C y' : Nat} {f : Nat → mP} (hc : hCl h z = some C) (hy : pMth y = some r) (hp : r.1 pc = some (i, a)) (hn : nxtI X r a pc L st h i = (hCl h z).bind f) (hf : f C = some (.inr (.inr (y', L', pc', rest)))) :
    Rn X (d + 1) y pc L st h = (Rn X d y' 0 L' [] h).bind fun z => Rn X (d + 1) y pc' L (z.1 ++ rest) z.2 := R_callH hc hy hp hn hf
end Eqs
def swf : List (Int32 × Nat) → Nat → Int32 → Nat
  | [], dt, _ => dt
  | (c, t) :: l, dt, x => if x = c then t else swf l dt x
noncomputable def swR {α : Type} : List (Int32 × Nat) → Nat → Int32 → (Nat → α) → α
  | [], dt, _, k => k dt
  | (c, t) :: l, dt, x, k => if x = c then k t else swR l dt x k
theorem swR_eq {α : Type} {k : Nat → α} {x : Int32} {dt : Nat} : ∀ l, k (swf l dt x) = swR l dt x k
  | [] => rfl
  | (c, t) :: l => by
    unfold swf swR
    split
    · rfl
    · exact swR_eq l
theorem R_sw {X : mX} {d y pc a : Nat} {r : pMT} {i : Instr} {L L' st st' : List Value} {h : mH} {o : Option Nat} {x : Int32} {l : List (Int32 × Nat)} {dt : Nat} (hy : pMth y = some r) (hp : r.1 pc = some (i, a)) (hn : nxtI X r a pc L st h i = o.bind fun t => go (t, L', st', h)) (ho : o = some (swf l dt x)) :
    Rn X d y pc L st h = swR l dt x fun t => Rn X d y t L' st' h := by
  rw [Rn_i hy hp, hn, ho]
  exact swR_eq (k := fun t => Rn X d y t L' st' h) l
theorem lkn {ci C y : Nat} {g : Nat → mP} (hb : Nat.beq ci C = false) : (List.lookup ci [(C, y)]).bind g = none := by
  rw [List.lookup_cons]
  have e : (ci == C) = false := by rw [beq_eq_false_iff_ne]; intro e; rw [e, Nat.beq_refl] at hb; cases hb
  rw [e]
  rfl
