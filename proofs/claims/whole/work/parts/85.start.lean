/-! the constructors: from no cell to the start -/
def Rw (n : Nat) : mE := .inl (0, n, .inl (fun _ => 0))
def R5 (q : Nat) : mH := Sum.inr (5, [.int 0, .ref (q + 1), .ref (q + 2), .ref (q + 3), .ref (q + 4), .ref (q + 5), .ref (q + 6), .ref (q + 7), .int 0]) :: [A8, A8, A8, A8, A100, A100, A100]
def zI : Nat → Int32 := fun _ => 0
def r3I : Nat → Int32 := upd (upd (fun _ => 0) 7 100) 8 1
def m4I : Nat → Int32 := upd (upd (upd (upd (fun _ => 0) (0 : Int32).toNatClampNeg (-1)) (1 : Int32).toNatClampNeg (-1)) (2 : Int32).toNatClampNeg (-1)) (3 : Int32).toNatClampNeg (-1)
def r66I : Nat → Int32 := upd (upd (fun _ => 0) (5 : Int32).toNatClampNeg 100) (6 : Int32).toNatClampNeg 1
def R3 (q : Nat) : mH := cEk q r3I (fun _ => some (q + 4)) (4, 3) :: .inl (2, 9, .inr (.inr (.inr (.inr (fun _ => none))))) :: Rw 8 :: Rw 8 :: (R5 (q + 4) ++ [Rw 5, Rw 6, Rw 6])
def R4 (q : Nat) : mH := cEk q zI (fun k => if k = 0 then some (q + 1) else some (q + 5)) (4, 4) :: .inl (1, 0, .inl (fun _ => 0)) :: Rw 200 :: Rw 200 :: Rw 200 :: R5 (q + 5)
def R6c (q : Nat) : mH := cEk q zI (fun _ => none) (4, 6) :: Rw 30 :: Rw 30 :: Rw 30 :: [Rw 30]
def R2 (q : Nat) : mH := cEk q zI (fun _ => none) (4, 2) :: .inl (0, 4, .inl m4I) :: Rw 4 :: .inl (3, 4, .inr (.inr (.inr (.inr (fun i => if i < 4 then some (q + 3 + 1 + i) else none))))) :: Rw 40 :: Rw 40 :: Rw 40 :: Rw 40 :: .inl (0, 4, .inl m4I) :: Rw 4 :: [Rw 30]
theorem fsG {hh t : mH} {fs : List Value} {v : Value} {k ci : Nat} {cis : List Nat} (hc : cis.contains ci = true) (hk : Nat.blt k fs.length = true) (hv : okV (pY ci k) v = true) : hFS (hh ++ (Sum.inr (ci, fs) : mE) :: t) hh.length k cis v = some (hh ++ (Sum.inr (ci, fs.set k v) : mE) :: t) := by
  unfold hFS
  have e : (hh ++ (Sum.inr (ci, fs) : mE) :: t)[hh.length]? = some (Sum.inr (ci, fs)) := by simp
  rw [e]
  show (bif cis.contains ci && Nat.blt k fs.length && okV (pY ci k) v then some ((hh ++ (Sum.inr (ci, fs) : mE) :: t).set hh.length (Sum.inr (ci, fs.set k v))) else none) = _
  rw [hk, hv, hc]
  simp
theorem asG {hh t : mH} {n : Nat} {f : Nat → Int32} {i x : Int32} (hm : mib i n = true) : hAS 0 (hh ++ (Sum.inl (0, n, .inl f) : mE) :: t) hh.length i x = some (hh ++ (Sum.inl (0, n, .inl (upd f i.toNatClampNeg x)) : mE) :: t) := by
  unfold hAS
  have e : (hh ++ (Sum.inl (0, n, .inl f) : mE) :: t)[hh.length]? = some (Sum.inl (0, n, .inl f)) := by simp
  rw [e]
  show (bif Nat.beq 0 0 && mib i n then some ((hh ++ (Sum.inl (0, n, .inl f) : mE) :: t).set hh.length (Sum.inl (0, n, .inl (upd f i.toNatClampNeg x)))) else none) = _
  rw [hm]
  simp
theorem as1 {hh t : mH} {o : mE} {n : Nat} {f : Nat → Int32} {i x : Int32} (hm : mib i n = true) : hAS 0 (hh ++ o :: (Sum.inl (0, n, .inl f) : mE) :: t) (hh.length + 1) i x = some (hh ++ o :: (Sum.inl (0, n, .inl (upd f i.toNatClampNeg x)) : mE) :: t) := by
  have e := asG (hh := hh ++ [o]) (t := t) (f := f) (x := x) hm
  rw [List.length_append] at e
  simpa using e
theorem frG {hh t : mH} {fs : List Value} {x k ci : Nat} {cis : List Nat} (hc : cis.contains ci = true) (hv : fs[k]? = some (.ref x)) : hFR (hh ++ (Sum.inr (ci, fs) : mE) :: t) hh.length k cis = some x := by
  unfold hFR
  have e : (hh ++ (Sum.inr (ci, fs) : mE) :: t)[hh.length]? = some (Sum.inr (ci, fs)) := by simp
  rw [e]
  show (bif cis.contains ci then (match fs[k]? with | some (.ref x) => some x | _ => none) else none) = _
  rw [hc, hv]
  rfl
theorem apG (hh t L : mH) (x : mE) : (hh ++ x :: t) ++ L = hh ++ x :: (t ++ L) := by simp
theorem lnG (hh t : mH) (x : mE) : (hh ++ x :: t).length = hh.length + (t.length + 1) := by simp
theorem mnG (hh t : mH) (x : mE) (n k : Nat) : hMN (hh ++ x :: t) n k = hh ++ x :: (t ++ (.inl (3, n, .inr (.inr (.inr (.inr (fun i => if i < n then some ((hh ++ x :: t).length + 1 + i) else none))))) :: List.replicate n (.inl (0, k, .inl (fun _ => 0))))) := by
  unfold hMN
  rw [apG]
section Start
variable {X : mX} {d : Nat} {hh : mH}
theorem i_70 : Rn X d 70 0 [.ref hh.length] [] (hh ++ [Sum.inr (5, pD 5)]) = some ([], hh ++ R5 hh.length) := by
  rw [B70_0]
  rw [apG hh, lnG hh, fsG rfl rfl rfl, Option.bind_some, apG hh, lnG hh, fsG rfl rfl rfl, Option.bind_some, apG hh, lnG hh, fsG rfl rfl rfl, Option.bind_some, apG hh, lnG hh, fsG rfl rfl rfl, Option.bind_some, apG hh, lnG hh, fsG rfl rfl rfl, Option.bind_some, apG hh, lnG hh, fsG rfl rfl rfl, Option.bind_some, apG hh, lnG hh, fsG rfl rfl rfl, Option.bind_some]
  rfl
theorem i_27 : Rn X (d + 1) 27 0 [.ref hh.length] [] (hh ++ [Sum.inr (3, pD 3)]) = some ([], hh ++ R3 hh.length) := by
  rw [B27_0]
  rw [apG hh, lnG hh, fsG rfl rfl rfl, Option.bind_some, apG hh, lnG hh, fsG rfl rfl rfl, Option.bind_some, apG hh, lnG hh, fsG rfl rfl rfl, Option.bind_some, fsG rfl rfl rfl, Option.bind_some, fsG rfl rfl rfl, Option.bind_some, i_70, Option.bind_some]
  dsimp only
  rw [List.nil_append, B27_48]
  rw [apG hh, lnG hh, fsG rfl rfl rfl, Option.bind_some, apG hh, lnG hh, fsG rfl rfl rfl, Option.bind_some, apG hh, lnG hh, fsG rfl rfl rfl, Option.bind_some, apG hh, lnG hh, fsG rfl rfl rfl, Option.bind_some]
  rfl
theorem i_49 : Rn X (d + 1) 49 0 [.ref hh.length] [] (hh ++ [Sum.inr (4, pD 4)]) = some ([], hh ++ R4 hh.length) := by
  rw [B49_0]
  rw [apG hh, lnG hh, fsG rfl rfl rfl, Option.bind_some, apG hh, lnG hh, fsG rfl rfl rfl, Option.bind_some, apG hh, lnG hh, fsG rfl rfl rfl, Option.bind_some, apG hh, lnG hh, fsG rfl rfl rfl, Option.bind_some, i_70, Option.bind_some]
  dsimp only
  rw [List.nil_append, B49_46]
  rw [apG hh, lnG hh, fsG rfl rfl rfl, Option.bind_some]
  rfl
theorem i_77 : Rn X d 77 0 [.ref hh.length, .ref 1] [] (hh ++ [Sum.inr (6, pD 6)]) = some ([], hh ++ R6c hh.length) := by
  rw [B77_0]
  rw [apG hh, lnG hh, fsG rfl rfl rfl, Option.bind_some, apG hh, lnG hh, fsG rfl rfl rfl, Option.bind_some, apG hh, lnG hh, fsG rfl rfl rfl, Option.bind_some, apG hh, lnG hh, fsG rfl rfl rfl, Option.bind_some, fsG rfl rfl rfl, Option.bind_some]
  rfl
theorem i_6 : Rn X d 6 0 [.ref hh.length] [] (hh ++ [Sum.inr (2, pD 2)]) = some ([], hh ++ R2 hh.length) := by
  rw [B6_0]
  rw [B6_8, asG rfl, Option.bind_some, B6_12, asG rfl, Option.bind_some, B6_16, asG rfl, Option.bind_some, B6_20, asG rfl, Option.bind_some, B6_24, apG hh, lnG hh, fsG rfl rfl rfl, Option.bind_some]
  rw [B6_27, B6_31, apG hh, lnG hh, fsG rfl rfl rfl, Option.bind_some, B6_34, mnG hh, lnG hh, fsG rfl rfl rfl, Option.bind_some]
  rw [B6_45, B6_49, asG rfl, Option.bind_some, B6_53, asG rfl, Option.bind_some, B6_57, asG rfl, Option.bind_some, B6_61, asG rfl, Option.bind_some, B6_65, apG hh, lnG hh, fsG rfl rfl rfl, Option.bind_some]
  rw [B6_68, B6_72, apG hh, lnG hh, fsG rfl rfl rfl, Option.bind_some, B6_75, B6_80, apG hh, lnG hh, fsG rfl rfl rfl, Option.bind_some, B6_83]
  rfl
end Start
