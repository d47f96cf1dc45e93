/-! the cells as functions: D the kinds of the later cells, I the ints, P the refs that change, N how many later cells -/
theorem blt_lt {a b : Nat} (h : Nat.blt a b = true) : a < b := Nat.blt_eq.mp h
def bI (b : Bool) : Int32 := bif b then 1 else 0
def u2 (I : Nat → Nat → Int32) (a k : Nat) (x : Int32) : Nat → Nat → Int32 := fun b => if b = a then upd (I a) k x else I b
def u2r (I : Nat → Nat → Int32) (a : Nat) (r : Nat → Int32) : Nat → Nat → Int32 := fun b => if b = a then r else I b
def p2 (P : Nat → Nat → Option Nat) (a k : Nat) (x : Option Nat) : Nat → Nat → Option Nat := fun b => if b = a then va_up (P a) k x else P b
def KL : List (Nat × Nat) := [(4, 10), (4, 3), (2, 9), (0, 8), (0, 8), (4, 5), (0, 8), (0, 8), (0, 8), (0, 8), (0, 100), (0, 100), (0, 100), (0, 5), (0, 6), (0, 6), (4, 3), (2, 9), (0, 8), (0, 8), (4, 5), (0, 8), (0, 8), (0, 8), (0, 8), (0, 100), (0, 100), (0, 100), (0, 5), (0, 6), (0, 6), (4, 6), (0, 30), (0, 30), (0, 30), (0, 30), (4, 4), (1, 0), (0, 200), (0, 200), (0, 200), (4, 5), (0, 8), (0, 8), (0, 8), (0, 8), (0, 100), (0, 100), (0, 100), (1, 200), (3, 3), (0, 4), (0, 4), (0, 4), (4, 2), (0, 4), (0, 4), (3, 4), (0, 40), (0, 40), (0, 40), (0, 40), (0, 4), (0, 4), (0, 30), (4, 11), (0, 320), (0, 320), (0, 320), (0, 200), (0, 4), (0, 12), (0, 200), (0, 4), (0, 4), (0, 160), (0, 4), (0, 4), (0, 4), (0, 30)]
def bKk (D : Nat → Nat × Nat) (a : Nat) : Nat × Nat := bif Nat.blt a 80 then KL.getD a (0, 0) else D a
def nfl (ci : Nat) : Nat := match pcl[ci]? with | some q => q.2.2 | none => 0
def Pp (a : Nat) (p : Nat → Option Nat) (ci k : Nat) : Option Nat := match ci with
  | 5 => some (a + k)
  | 3 => (match k with | 9 => p 9 | 0 => some (a + 1) | 2 => some (a + 2) | 3 => some (a + 3) | 10 => some (a + 12) | 11 => some (a + 13) | 12 => some (a + 14) | _ => none)
  | 4 => (match k with | 0 => p 0 | 7 => p 7 | k => some (a + k))
  | 6 => (match k with | 0 => some 1 | k => some (a + k))
  | 2 => (match k with | 0 => some (a + 1) | 1 => some (a + 2) | 2 => some (a + 3) | 3 => some (a + 8) | 4 => some (a + 9) | _ => some (a + 10))
  | 10 => (match k with | 0 => some 1 | 1 => some 16 | 3 => some 31 | 4 => some 36 | 5 => some 49 | 7 => some 50 | _ => some 54)
  | 11 => (match k with | 0 => some 66 | 1 => some 67 | 2 => some 68 | 4 => some 69 | 5 => some 70 | 10 => some 71 | 12 => some 72 | 20 => some 73 | 21 => some 74 | 22 => some 75 | 23 => some 76 | 24 => some 77 | 25 => some 78 | _ => some 79)
  | _ => none
def cvl (t : FieldType) (i : Int32) (p : Option Nat) : Value := match t with | .int => .int i | .boolean => .int i | _ => va_rf p
def cEk (a : Nat) (r : Nat → Int32) (p : Nat → Option Nat) (q : Nat × Nat) : mE := match q.1 with
  | 0 => .inl (0, q.2, .inl r)
  | 1 => .inl (1, q.2, .inl r)
  | 2 => .inl (2, q.2, .inr (.inr (.inr (.inr p))))
  | 3 => .inl (3, q.2, .inr (.inr (.inr (.inr (fun i => if i < q.2 then some (a + 1 + i) else none)))))
  | _ => .inr (q.2, (List.range (nfl q.2)).map fun k => cvl (pY q.2 k) (r k) (Pp a p q.2 k))
def cE (D : Nat → Nat × Nat) (I : Nat → Nat → Int32) (P : Nat → Nat → Option Nat) (a : Nat) : mE := cEk a (I a) (P a) (bKk D a)
def Mh (D : Nat → Nat × Nat) (I : Nat → Nat → Int32) (P : Nat → Nat → Option Nat) (N : Nat) : mH := (List.range (80 + N)).map (cE D I P)
def isIB : FieldType → Bool | .int => true | .boolean => true | _ => false
def isIo : FieldType → Bool | .int => true | _ => false
def isBo : FieldType → Bool | .boolean => true | _ => false
def isOo : FieldType → Bool | .object _ => true | .array _ => true | _ => false
theorem Pp_congr {a ci j : Nat} {p q : Nat → Option Nat} (h : p j = q j) : Pp a p ci j = Pp a q ci j := by
  unfold Pp
  split <;> first | rfl | (split <;> first | rfl | exact h)
def okG (p : FieldType → Bool) (ci k : Nat) (cis : List Nat) : Bool := cis.contains ci && Nat.blt k (nfl ci) && p (pY ci k)
theorem map_set {β : Type} {f g : Nat → β} {n k : Nat} {v : β} (h : ∀ j, j ≠ k → g j = f j) (h2 : g k = v) : ((List.range n).map f).set k v = (List.range n).map g := by
  apply List.ext_getElem?
  intro i
  rw [List.getElem?_set]
  by_cases hi : k = i
  · subst hi
    by_cases hl : k < n <;> simp [hl, h2]
  · rw [if_neg hi]
    simp only [List.getElem?_map]
    by_cases hl : i < n
    · rw [List.getElem?_range hl]
      exact congrArg some (h i (fun e => hi e.symm)).symm
    · rw [List.getElem?_eq_none (by simpa using hl)]; rfl
section Mem
variable {D : Nat → Nat × Nat} {I : Nat → Nat → Int32} {P : Nat → Nat → Option Nat} {N a k ci n t : Nat} {cis : List Nat}
theorem Mh_len : (Mh D I P N).length = 80 + N := by simp [Mh]
theorem Mh_at (ha : a < 80 + N) : (Mh D I P N)[a]? = some (cE D I P a) := by
  unfold Mh
  rw [List.getElem?_map, List.getElem?_range ha]
  rfl
theorem okG_of {p : FieldType → Bool} (hk : okG p ci k cis = true) : cis.contains ci = true ∧ k < nfl ci ∧ p (pY ci k) = true := by
  simp only [okG, Bool.and_eq_true] at hk
  exact ⟨hk.1.1, blt_lt hk.1.2, hk.2⟩
theorem rdI (ha : a < 80 + N) (hK : bKk D a = (4, ci)) (hk : okG isIB ci k cis = true) : hFI (Mh D I P N) a k cis = some (I a k) := by
  obtain ⟨h1, h2, h3⟩ := okG_of hk
  unfold hFI
  rw [Mh_at ha]
  unfold cE
  rw [hK]
  show (bif cis.contains ci then (match ((List.range (nfl ci)).map fun k => cvl (pY ci k) (I a k) (Pp a (P a) ci k))[k]? with | some (.int x) => some x | _ => none) else none) = _
  rw [h1, List.getElem?_map, List.getElem?_range h2]
  show (match some (cvl (pY ci k) (I a k) (Pp a (P a) ci k)) with | some (.int x) => some x | _ => none) = _
  revert h3
  generalize pY ci k = t
  intro h3
  cases t <;> first | rfl | cases h3
theorem rdR (ha : a < 80 + N) (hK : bKk D a = (4, ci)) (hk : okG (fun t => !isIB t) ci k cis = true) : hFR (Mh D I P N) a k cis = Pp a (P a) ci k := by
  obtain ⟨h1, h2, h3⟩ := okG_of hk
  unfold hFR
  rw [Mh_at ha]
  unfold cE
  rw [hK]
  show (bif cis.contains ci then (match ((List.range (nfl ci)).map fun k => cvl (pY ci k) (I a k) (Pp a (P a) ci k))[k]? with | some (.ref x) => some x | _ => none) else none) = _
  rw [h1, List.getElem?_map, List.getElem?_range h2]
  show (match some (cvl (pY ci k) (I a k) (Pp a (P a) ci k)) with | some (.ref x) => some x | _ => none) = _
  revert h3
  generalize pY ci k = t
  generalize Pp a (P a) ci k = o
  intro h3
  cases t <;> cases o <;> first | rfl | cases h3
theorem hCl_Mh (ha : a < 80 + N) (hK : bKk D a = (4, ci)) : hCl (Mh D I P N) a = some ci := by
  unfold hCl
  rw [Mh_at ha]
  unfold cE
  rw [hK]
  rfl
theorem isc_of (ha : a < 80 + N) (hK : bKk D a = (4, ci)) : isC (Mh D I P N) a ci = true := by
  unfold isC
  rw [hCl_Mh ha hK]
  exact Nat.beq_refl ci
theorem Mh_set {c : mE} {I' : Nat → Nat → Int32} {P' : Nat → Nat → Option Nat} (hc : cE D I' P' a = c) (ho : ∀ b, b ≠ a → I' b = I b ∧ P' b = P b) : (Mh D I P N).set a c = Mh D I' P' N := by
  unfold Mh
  refine map_set (fun j hj => ?_) hc
  unfold cE
  rw [(ho j hj).1, (ho j hj).2]
theorem wrG {v : Value} {I' : Nat → Nat → Int32} {P' : Nat → Nat → Option Nat} (ha : a < 80 + N) (hK : bKk D a = (4, ci)) (h1 : cis.contains ci = true) (h2 : k < nfl ci) (h3 : okV (pY ci k) v = true)
    (ho : ∀ b, b ≠ a → I' b = I b ∧ P' b = P b) (hj : ∀ j, j ≠ k → cvl (pY ci j) (I' a j) (Pp a (P' a) ci j) = cvl (pY ci j) (I a j) (Pp a (P a) ci j)) (hv : cvl (pY ci k) (I' a k) (Pp a (P' a) ci k) = v) :
    hFS (Mh D I P N) a k cis v = some (Mh D I' P' N) := by
  unfold hFS
  rw [Mh_at ha]
  unfold cE
  rw [hK]
  show (bif cis.contains ci && Nat.blt k ((List.range (nfl ci)).map fun k => cvl (pY ci k) (I a k) (Pp a (P a) ci k)).length && okV (pY ci k) v then some ((Mh D I P N).set a (.inr (ci, ((List.range (nfl ci)).map fun k => cvl (pY ci k) (I a k) (Pp a (P a) ci k)).set k v))) else none) = _
  rw [List.length_map, List.length_range, h1, Nat.blt_eq.mpr h2, h3]
  show some _ = some _
  refine congrArg some (Mh_set ?_ ho)
  unfold cE
  rw [hK, map_set hj hv]
  rfl
theorem u2_o {x : Int32} {b : Nat} (h : b ≠ a) : u2 I a k x b = I b := if_neg h
theorem u2_s {x : Int32} : u2 I a k x a = upd (I a) k x := if_pos rfl
theorem u2r_o {r : Nat → Int32} {b : Nat} (h : b ≠ a) : u2r I a r b = I b := if_neg h
theorem u2r_s {r : Nat → Int32} : u2r I a r a = r := if_pos rfl
theorem upd_o {f : Nat → Int32} {x : Int32} {j : Nat} (h : j ≠ k) : upd f k x j = f j := if_neg h
theorem upd_s {f : Nat → Int32} {x : Int32} : upd f k x k = x := if_pos rfl
theorem wrI {x : Int32} (ha : a < 80 + N) (hK : bKk D a = (4, ci)) (hk : okG isIo ci k cis = true) : hFS (Mh D I P N) a k cis (.int x) = some (Mh D (u2 I a k x) P N) := by
  obtain ⟨h1, h2, h3⟩ := okG_of hk
  have e : pY ci k = .int := by revert h3; generalize pY ci k = t; intro h3; cases t <;> first | rfl | cases h3
  refine wrG ha hK h1 h2 (by rw [e]; rfl) (fun b hb => ⟨u2_o hb, rfl⟩) (fun j hj => ?_) ?_
  · rw [u2_s, upd_o hj]
  · rw [e, u2_s, upd_s]; rfl
theorem wrB {b : Bool} (ha : a < 80 + N) (hK : bKk D a = (4, ci)) (hk : okG isBo ci k cis = true) : hFS (Mh D I P N) a k cis (.int (bI b)) = some (Mh D (u2 I a k (bI b)) P N) := by
  obtain ⟨h1, h2, h3⟩ := okG_of hk
  have e : pY ci k = .boolean := by revert h3; generalize pY ci k = t; intro h3; cases t <;> first | rfl | cases h3
  refine wrG ha hK h1 h2 (by rw [e]; cases b <;> rfl) (fun b hb => ⟨u2_o hb, rfl⟩) (fun j hj => ?_) ?_
  · rw [u2_s, upd_o hj]
  · rw [e, u2_s, upd_s]; rfl
theorem wrR {x : Nat} (ha : a < 80 + N) (hK : bKk D a = (4, ci)) (hk : okG isOo ci k cis = true) (hp : ∀ p, Pp a p ci k = p k) : hFS (Mh D I P N) a k cis (.ref x) = some (Mh D I (p2 P a k (some x)) N) := by
  obtain ⟨h1, h2, h3⟩ := okG_of hk
  have h9 : p2 P a k (some x) a = va_up (P a) k (some x) := if_pos rfl
  have e : okV (pY ci k) (.ref x) = true ∧ ∀ i, cvl (pY ci k) i (some x) = .ref x := by
    revert h3; generalize pY ci k = t; intro h3; cases t <;> first | exact ⟨rfl, fun _ => rfl⟩ | cases h3
  refine wrG ha hK h1 h2 e.1 (fun b hb => ⟨rfl, if_neg hb⟩) (fun j hj' => ?_) ?_
  · rw [h9, Pp_congr (q := P a) (va_up_ne _ _ hj')]
  · rw [h9, hp, va_up_self]; exact e.2 _
theorem rdA {i : Int32} (ha : a < 80 + N) (hK : bKk D a = (t, n)) (ht : Nat.blt t 2 = true) : hAI t (Mh D I P N) a i = bif mib i n then some (I a i.toNatClampNeg) else none := by
  unfold hAI
  rw [Mh_at ha]
  unfold cE
  rw [hK]
  have h2 := blt_lt ht
  match t, h2 with
  | 0, _ => rfl
  | 1, _ => rfl
theorem wrA {i x : Int32} (ha : a < 80 + N) (hK : bKk D a = (t, n)) (ht : Nat.blt t 2 = true) : hAS t (Mh D I P N) a i x = bif mib i n then some (Mh D (u2 I a i.toNatClampNeg x) P N) else none := by
  have h2 := blt_lt ht
  have key : (Mh D I P N).set a (.inl (t, n, .inl (upd (I a) i.toNatClampNeg x))) = Mh D (u2 I a i.toNatClampNeg x) P N := by
    refine Mh_set ?_ (fun b hb => ⟨u2_o hb, rfl⟩)
    unfold cE
    rw [hK, u2_s]
    match t, h2 with
    | 0, _ => rfl
    | 1, _ => rfl
  unfold hAS
  rw [Mh_at ha, ← key]
  unfold cE
  rw [hK]
  match t, h2 with
  | 0, _ => rfl
  | 1, _ => rfl
theorem rdL (ha : a < 80 + N) (hK : bKk D a = (t, n)) (ht : Nat.blt t 4 = true) : hAL (Mh D I P N) a = some n := by
  unfold hAL
  rw [Mh_at ha]
  unfold cE
  rw [hK]
  have h2 := blt_lt ht
  match t, h2 with
  | 0, _ => rfl
  | 1, _ => rfl
  | 2, _ => rfl
  | 3, _ => rfl
theorem rdQ2 {i : Int32} (ha : a < 80 + N) (hK : bKk D a = (2, n)) : hAR (Mh D I P N) a i = bif mib i n then some (P a i.toNatClampNeg) else none := by
  unfold hAR
  rw [Mh_at ha]
  unfold cE
  rw [hK]
  rfl
theorem rdQ3 {i : Int32} (ha : a < 80 + N) (hK : bKk D a = (3, n)) : hAR (Mh D I P N) a i = bif mib i n then some (if i.toNatClampNeg < n then some (a + 1 + i.toNatClampNeg) else none) else none := by
  unfold hAR
  rw [Mh_at ha]
  unfold cE
  rw [hK]
  rfl
end Mem

theorem hN0 {N : Nat} : 0 < 80 + N := Nat.lt_of_lt_of_le (blt_lt rfl) (Nat.le_add_right 80 N)
theorem hN1 {N : Nat} : 1 < 80 + N := Nat.lt_of_lt_of_le (blt_lt rfl) (Nat.le_add_right 80 N)
theorem hN2 {N : Nat} : 2 < 80 + N := Nat.lt_of_lt_of_le (blt_lt rfl) (Nat.le_add_right 80 N)
theorem hN3 {N : Nat} : 3 < 80 + N := Nat.lt_of_lt_of_le (blt_lt rfl) (Nat.le_add_right 80 N)
theorem hN4 {N : Nat} : 4 < 80 + N := Nat.lt_of_lt_of_le (blt_lt rfl) (Nat.le_add_right 80 N)
theorem hN5 {N : Nat} : 5 < 80 + N := Nat.lt_of_lt_of_le (blt_lt rfl) (Nat.le_add_right 80 N)
theorem hN6 {N : Nat} : 6 < 80 + N := Nat.lt_of_lt_of_le (blt_lt rfl) (Nat.le_add_right 80 N)
theorem hN7 {N : Nat} : 7 < 80 + N := Nat.lt_of_lt_of_le (blt_lt rfl) (Nat.le_add_right 80 N)
theorem hN8 {N : Nat} : 8 < 80 + N := Nat.lt_of_lt_of_le (blt_lt rfl) (Nat.le_add_right 80 N)
theorem hN9 {N : Nat} : 9 < 80 + N := Nat.lt_of_lt_of_le (blt_lt rfl) (Nat.le_add_right 80 N)
theorem hN10 {N : Nat} : 10 < 80 + N := Nat.lt_of_lt_of_le (blt_lt rfl) (Nat.le_add_right 80 N)
theorem hN11 {N : Nat} : 11 < 80 + N := Nat.lt_of_lt_of_le (blt_lt rfl) (Nat.le_add_right 80 N)
theorem hN12 {N : Nat} : 12 < 80 + N := Nat.lt_of_lt_of_le (blt_lt rfl) (Nat.le_add_right 80 N)
theorem hN13 {N : Nat} : 13 < 80 + N := Nat.lt_of_lt_of_le (blt_lt rfl) (Nat.le_add_right 80 N)
theorem hN14 {N : Nat} : 14 < 80 + N := Nat.lt_of_lt_of_le (blt_lt rfl) (Nat.le_add_right 80 N)
theorem hN15 {N : Nat} : 15 < 80 + N := Nat.lt_of_lt_of_le (blt_lt rfl) (Nat.le_add_right 80 N)
theorem hN16 {N : Nat} : 16 < 80 + N := Nat.lt_of_lt_of_le (blt_lt rfl) (Nat.le_add_right 80 N)
theorem hN17 {N : Nat} : 17 < 80 + N := Nat.lt_of_lt_of_le (blt_lt rfl) (Nat.le_add_right 80 N)
theorem hN18 {N : Nat} : 18 < 80 + N := Nat.lt_of_lt_of_le (blt_lt rfl) (Nat.le_add_right 80 N)
theorem hN19 {N : Nat} : 19 < 80 + N := Nat.lt_of_lt_of_le (blt_lt rfl) (Nat.le_add_right 80 N)
theorem hN20 {N : Nat} : 20 < 80 + N := Nat.lt_of_lt_of_le (blt_lt rfl) (Nat.le_add_right 80 N)
theorem hN21 {N : Nat} : 21 < 80 + N := Nat.lt_of_lt_of_le (blt_lt rfl) (Nat.le_add_right 80 N)
theorem hN22 {N : Nat} : 22 < 80 + N := Nat.lt_of_lt_of_le (blt_lt rfl) (Nat.le_add_right 80 N)
theorem hN23 {N : Nat} : 23 < 80 + N := Nat.lt_of_lt_of_le (blt_lt rfl) (Nat.le_add_right 80 N)
theorem hN24 {N : Nat} : 24 < 80 + N := Nat.lt_of_lt_of_le (blt_lt rfl) (Nat.le_add_right 80 N)
theorem hN25 {N : Nat} : 25 < 80 + N := Nat.lt_of_lt_of_le (blt_lt rfl) (Nat.le_add_right 80 N)
theorem hN26 {N : Nat} : 26 < 80 + N := Nat.lt_of_lt_of_le (blt_lt rfl) (Nat.le_add_right 80 N)
theorem hN27 {N : Nat} : 27 < 80 + N := Nat.lt_of_lt_of_le (blt_lt rfl) (Nat.le_add_right 80 N)
theorem hN28 {N : Nat} : 28 < 80 + N := Nat.lt_of_lt_of_le (blt_lt rfl) (Nat.le_add_right 80 N)
theorem hN29 {N : Nat} : 29 < 80 + N := Nat.lt_of_lt_of_le (blt_lt rfl) (Nat.le_add_right 80 N)
theorem hN30 {N : Nat} : 30 < 80 + N := Nat.lt_of_lt_of_le (blt_lt rfl) (Nat.le_add_right 80 N)
theorem hN31 {N : Nat} : 31 < 80 + N := Nat.lt_of_lt_of_le (blt_lt rfl) (Nat.le_add_right 80 N)
theorem hN32 {N : Nat} : 32 < 80 + N := Nat.lt_of_lt_of_le (blt_lt rfl) (Nat.le_add_right 80 N)
theorem hN33 {N : Nat} : 33 < 80 + N := Nat.lt_of_lt_of_le (blt_lt rfl) (Nat.le_add_right 80 N)
theorem hN34 {N : Nat} : 34 < 80 + N := Nat.lt_of_lt_of_le (blt_lt rfl) (Nat.le_add_right 80 N)
theorem hN35 {N : Nat} : 35 < 80 + N := Nat.lt_of_lt_of_le (blt_lt rfl) (Nat.le_add_right 80 N)
theorem hN36 {N : Nat} : 36 < 80 + N := Nat.lt_of_lt_of_le (blt_lt rfl) (Nat.le_add_right 80 N)
theorem hN37 {N : Nat} : 37 < 80 + N := Nat.lt_of_lt_of_le (blt_lt rfl) (Nat.le_add_right 80 N)
theorem hN38 {N : Nat} : 38 < 80 + N := Nat.lt_of_lt_of_le (blt_lt rfl) (Nat.le_add_right 80 N)
theorem hN39 {N : Nat} : 39 < 80 + N := Nat.lt_of_lt_of_le (blt_lt rfl) (Nat.le_add_right 80 N)
theorem hN40 {N : Nat} : 40 < 80 + N := Nat.lt_of_lt_of_le (blt_lt rfl) (Nat.le_add_right 80 N)
theorem hN41 {N : Nat} : 41 < 80 + N := Nat.lt_of_lt_of_le (blt_lt rfl) (Nat.le_add_right 80 N)
theorem hN42 {N : Nat} : 42 < 80 + N := Nat.lt_of_lt_of_le (blt_lt rfl) (Nat.le_add_right 80 N)
theorem hN43 {N : Nat} : 43 < 80 + N := Nat.lt_of_lt_of_le (blt_lt rfl) (Nat.le_add_right 80 N)
theorem hN44 {N : Nat} : 44 < 80 + N := Nat.lt_of_lt_of_le (blt_lt rfl) (Nat.le_add_right 80 N)
theorem hN45 {N : Nat} : 45 < 80 + N := Nat.lt_of_lt_of_le (blt_lt rfl) (Nat.le_add_right 80 N)
theorem hN46 {N : Nat} : 46 < 80 + N := Nat.lt_of_lt_of_le (blt_lt rfl) (Nat.le_add_right 80 N)
theorem hN47 {N : Nat} : 47 < 80 + N := Nat.lt_of_lt_of_le (blt_lt rfl) (Nat.le_add_right 80 N)
theorem hN48 {N : Nat} : 48 < 80 + N := Nat.lt_of_lt_of_le (blt_lt rfl) (Nat.le_add_right 80 N)
theorem hN49 {N : Nat} : 49 < 80 + N := Nat.lt_of_lt_of_le (blt_lt rfl) (Nat.le_add_right 80 N)
theorem hN50 {N : Nat} : 50 < 80 + N := Nat.lt_of_lt_of_le (blt_lt rfl) (Nat.le_add_right 80 N)
theorem hN51 {N : Nat} : 51 < 80 + N := Nat.lt_of_lt_of_le (blt_lt rfl) (Nat.le_add_right 80 N)
theorem hN52 {N : Nat} : 52 < 80 + N := Nat.lt_of_lt_of_le (blt_lt rfl) (Nat.le_add_right 80 N)
theorem hN53 {N : Nat} : 53 < 80 + N := Nat.lt_of_lt_of_le (blt_lt rfl) (Nat.le_add_right 80 N)
theorem hN54 {N : Nat} : 54 < 80 + N := Nat.lt_of_lt_of_le (blt_lt rfl) (Nat.le_add_right 80 N)
theorem hN55 {N : Nat} : 55 < 80 + N := Nat.lt_of_lt_of_le (blt_lt rfl) (Nat.le_add_right 80 N)
theorem hN56 {N : Nat} : 56 < 80 + N := Nat.lt_of_lt_of_le (blt_lt rfl) (Nat.le_add_right 80 N)
theorem hN57 {N : Nat} : 57 < 80 + N := Nat.lt_of_lt_of_le (blt_lt rfl) (Nat.le_add_right 80 N)
theorem hN58 {N : Nat} : 58 < 80 + N := Nat.lt_of_lt_of_le (blt_lt rfl) (Nat.le_add_right 80 N)
theorem hN59 {N : Nat} : 59 < 80 + N := Nat.lt_of_lt_of_le (blt_lt rfl) (Nat.le_add_right 80 N)
theorem hN60 {N : Nat} : 60 < 80 + N := Nat.lt_of_lt_of_le (blt_lt rfl) (Nat.le_add_right 80 N)
theorem hN61 {N : Nat} : 61 < 80 + N := Nat.lt_of_lt_of_le (blt_lt rfl) (Nat.le_add_right 80 N)
theorem hN62 {N : Nat} : 62 < 80 + N := Nat.lt_of_lt_of_le (blt_lt rfl) (Nat.le_add_right 80 N)
theorem hN63 {N : Nat} : 63 < 80 + N := Nat.lt_of_lt_of_le (blt_lt rfl) (Nat.le_add_right 80 N)
theorem hN64 {N : Nat} : 64 < 80 + N := Nat.lt_of_lt_of_le (blt_lt rfl) (Nat.le_add_right 80 N)
theorem hN65 {N : Nat} : 65 < 80 + N := Nat.lt_of_lt_of_le (blt_lt rfl) (Nat.le_add_right 80 N)
theorem hN66 {N : Nat} : 66 < 80 + N := Nat.lt_of_lt_of_le (blt_lt rfl) (Nat.le_add_right 80 N)
theorem hN67 {N : Nat} : 67 < 80 + N := Nat.lt_of_lt_of_le (blt_lt rfl) (Nat.le_add_right 80 N)
theorem hN68 {N : Nat} : 68 < 80 + N := Nat.lt_of_lt_of_le (blt_lt rfl) (Nat.le_add_right 80 N)
theorem hN69 {N : Nat} : 69 < 80 + N := Nat.lt_of_lt_of_le (blt_lt rfl) (Nat.le_add_right 80 N)
theorem hN70 {N : Nat} : 70 < 80 + N := Nat.lt_of_lt_of_le (blt_lt rfl) (Nat.le_add_right 80 N)
theorem hN71 {N : Nat} : 71 < 80 + N := Nat.lt_of_lt_of_le (blt_lt rfl) (Nat.le_add_right 80 N)
theorem hN72 {N : Nat} : 72 < 80 + N := Nat.lt_of_lt_of_le (blt_lt rfl) (Nat.le_add_right 80 N)
theorem hN73 {N : Nat} : 73 < 80 + N := Nat.lt_of_lt_of_le (blt_lt rfl) (Nat.le_add_right 80 N)
theorem hN74 {N : Nat} : 74 < 80 + N := Nat.lt_of_lt_of_le (blt_lt rfl) (Nat.le_add_right 80 N)
theorem hN75 {N : Nat} : 75 < 80 + N := Nat.lt_of_lt_of_le (blt_lt rfl) (Nat.le_add_right 80 N)
theorem hN76 {N : Nat} : 76 < 80 + N := Nat.lt_of_lt_of_le (blt_lt rfl) (Nat.le_add_right 80 N)
theorem hN77 {N : Nat} : 77 < 80 + N := Nat.lt_of_lt_of_le (blt_lt rfl) (Nat.le_add_right 80 N)
theorem hN78 {N : Nat} : 78 < 80 + N := Nat.lt_of_lt_of_le (blt_lt rfl) (Nat.le_add_right 80 N)
theorem hN79 {N : Nat} : 79 < 80 + N := Nat.lt_of_lt_of_le (blt_lt rfl) (Nat.le_add_right 80 N)
theorem IC {D : Nat → Nat × Nat} {I : Nat → Nat → Int32} {P : Nat → Nat → Option Nat} {N : Nat} : isC (Mh D I P N) 0 10 = true ∧ isC (Mh D I P N) 1 3 = true ∧ isC (Mh D I P N) 16 3 = true ∧ isC (Mh D I P N) 31 6 = true ∧ isC (Mh D I P N) 36 4 = true ∧ isC (Mh D I P N) 54 2 = true ∧ isC (Mh D I P N) 65 11 = true := ⟨isc_of hN0 rfl, isc_of hN1 rfl, isc_of hN16 rfl, isc_of hN31 rfl, isc_of hN36 rfl, isc_of hN54 rfl, isc_of hN65 rfl⟩
theorem RDm {D : Nat → Nat × Nat} {I : Nat → Nat → Int32} {P : Nat → Nat → Option Nat} {N : Nat} : hFI (Mh D I P N) 65 3 [11] = some (I 65 3) ∧ hFI (Mh D I P N) 65 6 [11] = some (I 65 6) ∧ hFI (Mh D I P N) 65 7 [11] = some (I 65 7) ∧ hFI (Mh D I P N) 65 8 [11] = some (I 65 8) ∧ hFI (Mh D I P N) 65 9 [11] = some (I 65 9) ∧ hFI (Mh D I P N) 65 11 [11] = some (I 65 11) ∧ hFI (Mh D I P N) 65 13 [11] = some (I 65 13) ∧ hFI (Mh D I P N) 65 14 [11] = some (I 65 14) ∧ hFI (Mh D I P N) 65 15 [11] = some (I 65 15) ∧ hFI (Mh D I P N) 65 16 [11] = some (I 65 16) ∧ hFI (Mh D I P N) 65 17 [11] = some (I 65 17) ∧ hFI (Mh D I P N) 65 18 [11] = some (I 65 18) ∧ hFI (Mh D I P N) 65 19 [11] = some (I 65 19) ∧ hFI (Mh D I P N) 65 27 [11] = some (I 65 27) ∧ hFI (Mh D I P N) 65 28 [11] = some (I 65 28) ∧ hFI (Mh D I P N) 65 29 [11] = some (I 65 29) ∧ hFI (Mh D I P N) 65 30 [11] = some (I 65 30) ∧ hFI (Mh D I P N) 65 31 [11] = some (I 65 31) ∧ hFR (Mh D I P N) 65 0 [11] = some 66 ∧ hFR (Mh D I P N) 65 1 [11] = some 67 ∧ hFR (Mh D I P N) 65 2 [11] = some 68 ∧ hFR (Mh D I P N) 65 4 [11] = some 69 ∧ hFR (Mh D I P N) 65 5 [11] = some 70 ∧ hFR (Mh D I P N) 65 10 [11] = some 71 ∧ hFR (Mh D I P N) 65 12 [11] = some 72 ∧ hFR (Mh D I P N) 65 20 [11] = some 73 ∧ hFR (Mh D I P N) 65 21 [11] = some 74 ∧ hFR (Mh D I P N) 65 22 [11] = some 75 ∧ hFR (Mh D I P N) 65 23 [11] = some 76 ∧ hFR (Mh D I P N) 65 24 [11] = some 77 ∧ hFR (Mh D I P N) 65 25 [11] = some 78 ∧ hFR (Mh D I P N) 65 26 [11] = some 79 ∧ hAL (Mh D I P N) 66 = some 320 ∧ hAI 0 (Mh D I P N) 66 0 = some (I 66 0) ∧ hAI 0 (Mh D I P N) 66 1 = some (I 66 1) ∧ hAI 0 (Mh D I P N) 66 2 = some (I 66 2) ∧ hAI 0 (Mh D I P N) 66 3 = some (I 66 3) ∧ hAI 0 (Mh D I P N) 66 4 = some (I 66 4) ∧ hAI 0 (Mh D I P N) 66 5 = some (I 66 5) ∧ hAI 0 (Mh D I P N) 66 6 = some (I 66 6) ∧ hAI 0 (Mh D I P N) 69 0 = some (I 69 0) ∧ (∀ i, hAI 0 (Mh D I P N) 73 i = bif mib i 4 then some (I 73 i.toNatClampNeg) else none) ∧ hAL (Mh D I P N) 73 = some 4 ∧ (∀ i, hAI 0 (Mh D I P N) 74 i = bif mib i 4 then some (I 74 i.toNatClampNeg) else none) ∧ hAL (Mh D I P N) 74 = some 4 ∧ (∀ i, hAI 0 (Mh D I P N) 76 i = bif mib i 4 then some (I 76 i.toNatClampNeg) else none) ∧ hAL (Mh D I P N) 76 = some 4 ∧ (∀ i, hAI 0 (Mh D I P N) 77 i = bif mib i 4 then some (I 77 i.toNatClampNeg) else none) ∧ hAL (Mh D I P N) 77 = some 4 ∧ (∀ i, hAI 0 (Mh D I P N) 78 i = bif mib i 4 then some (I 78 i.toNatClampNeg) else none) ∧ hAL (Mh D I P N) 78 = some 4 ∧ (∀ i, hAI 0 (Mh D I P N) 79 i = bif mib i 30 then some (I 79 i.toNatClampNeg) else none) ∧ hAL (Mh D I P N) 79 = some 30 := ⟨rdI hN65 rfl rfl, rdI hN65 rfl rfl, rdI hN65 rfl rfl, rdI hN65 rfl rfl, rdI hN65 rfl rfl, rdI hN65 rfl rfl, rdI hN65 rfl rfl, rdI hN65 rfl rfl, rdI hN65 rfl rfl, rdI hN65 rfl rfl, rdI hN65 rfl rfl, rdI hN65 rfl rfl, rdI hN65 rfl rfl, rdI hN65 rfl rfl, rdI hN65 rfl rfl, rdI hN65 rfl rfl, rdI hN65 rfl rfl, rdI hN65 rfl rfl, rdR hN65 rfl rfl, rdR hN65 rfl rfl, rdR hN65 rfl rfl, rdR hN65 rfl rfl, rdR hN65 rfl rfl, rdR hN65 rfl rfl, rdR hN65 rfl rfl, rdR hN65 rfl rfl, rdR hN65 rfl rfl, rdR hN65 rfl rfl, rdR hN65 rfl rfl, rdR hN65 rfl rfl, rdR hN65 rfl rfl, rdR hN65 rfl rfl, rdL hN66 rfl rfl, rdA hN66 rfl rfl, rdA hN66 rfl rfl, rdA hN66 rfl rfl, rdA hN66 rfl rfl, rdA hN66 rfl rfl, rdA hN66 rfl rfl, rdA hN66 rfl rfl, rdA hN69 rfl rfl, fun i => rdA hN73 rfl rfl, rdL hN73 rfl rfl, fun i => rdA hN74 rfl rfl, rdL hN74 rfl rfl, fun i => rdA hN76 rfl rfl, rdL hN76 rfl rfl, fun i => rdA hN77 rfl rfl, rdL hN77 rfl rfl, fun i => rdA hN78 rfl rfl, rdL hN78 rfl rfl, fun i => rdA hN79 rfl rfl, rdL hN79 rfl rfl⟩
theorem WRm {D : Nat → Nat × Nat} {I : Nat → Nat → Int32} {P : Nat → Nat → Option Nat} {N : Nat} : (∀ x, hFS (Mh D I P N) 65 6 [11] (.int x) = some (Mh D (u2 I 65 6 x) P N)) ∧ (∀ x, hFS (Mh D I P N) 65 7 [11] (.int x) = some (Mh D (u2 I 65 7 x) P N)) ∧ (∀ x, hFS (Mh D I P N) 65 8 [11] (.int x) = some (Mh D (u2 I 65 8 x) P N)) ∧ (∀ x, hFS (Mh D I P N) 65 9 [11] (.int x) = some (Mh D (u2 I 65 9 x) P N)) ∧ (∀ x, hFS (Mh D I P N) 65 11 [11] (.int x) = some (Mh D (u2 I 65 11 x) P N)) ∧ (∀ x, hFS (Mh D I P N) 65 13 [11] (.int x) = some (Mh D (u2 I 65 13 x) P N)) ∧ (∀ x, hFS (Mh D I P N) 65 14 [11] (.int x) = some (Mh D (u2 I 65 14 x) P N)) ∧ (∀ x, hFS (Mh D I P N) 65 15 [11] (.int x) = some (Mh D (u2 I 65 15 x) P N)) ∧ (∀ x, hFS (Mh D I P N) 65 16 [11] (.int x) = some (Mh D (u2 I 65 16 x) P N)) ∧ (∀ x, hFS (Mh D I P N) 65 17 [11] (.int x) = some (Mh D (u2 I 65 17 x) P N)) ∧ (∀ x, hFS (Mh D I P N) 65 18 [11] (.int x) = some (Mh D (u2 I 65 18 x) P N)) ∧ (∀ x, hFS (Mh D I P N) 65 27 [11] (.int x) = some (Mh D (u2 I 65 27 x) P N)) ∧ (∀ x, hFS (Mh D I P N) 65 28 [11] (.int x) = some (Mh D (u2 I 65 28 x) P N)) ∧ (∀ x, hFS (Mh D I P N) 65 29 [11] (.int x) = some (Mh D (u2 I 65 29 x) P N)) ∧ (∀ x, hFS (Mh D I P N) 65 30 [11] (.int x) = some (Mh D (u2 I 65 30 x) P N)) ∧ (∀ b, hFS (Mh D I P N) 65 19 [11] (.int (bI b)) = some (Mh D (u2 I 65 19 (bI b)) P N)) ∧ hFS (Mh D I P N) 65 19 [11] (.int 0) = some (Mh D (u2 I 65 19 0) P N) ∧ hFS (Mh D I P N) 65 19 [11] (.int 1) = some (Mh D (u2 I 65 19 1) P N) ∧ (∀ b, hFS (Mh D I P N) 65 31 [11] (.int (bI b)) = some (Mh D (u2 I 65 31 (bI b)) P N)) ∧ hFS (Mh D I P N) 65 31 [11] (.int 0) = some (Mh D (u2 I 65 31 0) P N) ∧ hFS (Mh D I P N) 65 31 [11] (.int 1) = some (Mh D (u2 I 65 31 1) P N) ∧ (∀ b, hFS (Mh D I P N) 65 3 [11] (.int (bI b)) = some (Mh D (u2 I 65 3 (bI b)) P N)) ∧ hFS (Mh D I P N) 65 3 [11] (.int 0) = some (Mh D (u2 I 65 3 0) P N) ∧ hFS (Mh D I P N) 65 3 [11] (.int 1) = some (Mh D (u2 I 65 3 1) P N) ∧ (∀ x, hAS 0 (Mh D I P N) 66 0 x = some (Mh D (u2 I 66 0 x) P N)) ∧ (∀ x, hAS 0 (Mh D I P N) 66 1 x = some (Mh D (u2 I 66 1 x) P N)) ∧ (∀ x, hAS 0 (Mh D I P N) 66 2 x = some (Mh D (u2 I 66 2 x) P N)) ∧ (∀ x, hAS 0 (Mh D I P N) 66 3 x = some (Mh D (u2 I 66 3 x) P N)) ∧ (∀ x, hAS 0 (Mh D I P N) 66 4 x = some (Mh D (u2 I 66 4 x) P N)) ∧ (∀ x, hAS 0 (Mh D I P N) 66 5 x = some (Mh D (u2 I 66 5 x) P N)) ∧ (∀ x, hAS 0 (Mh D I P N) 66 6 x = some (Mh D (u2 I 66 6 x) P N)) ∧ (∀ i x, hAS 0 (Mh D I P N) 73 i x = bif mib i 4 then some (Mh D (u2 I 73 i.toNatClampNeg x) P N) else none) ∧ (∀ i x, hAS 0 (Mh D I P N) 74 i x = bif mib i 4 then some (Mh D (u2 I 74 i.toNatClampNeg x) P N) else none) ∧ (∀ i x, hAS 0 (Mh D I P N) 76 i x = bif mib i 4 then some (Mh D (u2 I 76 i.toNatClampNeg x) P N) else none) ∧ (∀ i x, hAS 0 (Mh D I P N) 77 i x = bif mib i 4 then some (Mh D (u2 I 77 i.toNatClampNeg x) P N) else none) ∧ (∀ i x, hAS 0 (Mh D I P N) 78 i x = bif mib i 4 then some (Mh D (u2 I 78 i.toNatClampNeg x) P N) else none) ∧ (∀ i x, hAS 0 (Mh D I P N) 79 i x = bif mib i 30 then some (Mh D (u2 I 79 i.toNatClampNeg x) P N) else none) := ⟨fun x => wrI hN65 rfl rfl, fun x => wrI hN65 rfl rfl, fun x => wrI hN65 rfl rfl, fun x => wrI hN65 rfl rfl, fun x => wrI hN65 rfl rfl, fun x => wrI hN65 rfl rfl, fun x => wrI hN65 rfl rfl, fun x => wrI hN65 rfl rfl, fun x => wrI hN65 rfl rfl, fun x => wrI hN65 rfl rfl, fun x => wrI hN65 rfl rfl, fun x => wrI hN65 rfl rfl, fun x => wrI hN65 rfl rfl, fun x => wrI hN65 rfl rfl, fun x => wrI hN65 rfl rfl, fun b => wrB hN65 rfl rfl, wrB (b := false) hN65 rfl rfl, wrB (b := true) hN65 rfl rfl, fun b => wrB hN65 rfl rfl, wrB (b := false) hN65 rfl rfl, wrB (b := true) hN65 rfl rfl, fun b => wrB hN65 rfl rfl, wrB (b := false) hN65 rfl rfl, wrB (b := true) hN65 rfl rfl, fun x => wrA hN66 rfl rfl, fun x => wrA hN66 rfl rfl, fun x => wrA hN66 rfl rfl, fun x => wrA hN66 rfl rfl, fun x => wrA hN66 rfl rfl, fun x => wrA hN66 rfl rfl, fun x => wrA hN66 rfl rfl, fun i x => wrA hN73 rfl rfl, fun i x => wrA hN74 rfl rfl, fun i x => wrA hN76 rfl rfl, fun i x => wrA hN77 rfl rfl, fun i x => wrA hN78 rfl rfl, fun i x => wrA hN79 rfl rfl⟩
theorem RDc {D : Nat → Nat × Nat} {I : Nat → Nat → Int32} {P : Nat → Nat → Option Nat} {N : Nat} : hFI (Mh D I P N) 0 2 [10] = some (I 0 2) ∧ hFI (Mh D I P N) 0 6 [10] = some (I 0 6) ∧ hFI (Mh D I P N) 0 8 [10] = some (I 0 8) ∧ hFR (Mh D I P N) 0 0 [10] = some 1 ∧ hFR (Mh D I P N) 0 1 [10] = some 16 ∧ hFR (Mh D I P N) 0 3 [10] = some 31 ∧ hFR (Mh D I P N) 0 4 [10] = some 36 ∧ hFR (Mh D I P N) 0 5 [10] = some 49 ∧ hFR (Mh D I P N) 0 7 [10] = some 50 ∧ hFR (Mh D I P N) 0 9 [10] = some 54 ∧ hFI (Mh D I P N) 1 1 [3] = some (I 1 1) ∧ hFI (Mh D I P N) 1 4 [3] = some (I 1 4) ∧ hFI (Mh D I P N) 1 5 [3] = some (I 1 5) ∧ hFI (Mh D I P N) 1 6 [3] = some (I 1 6) ∧ hFI (Mh D I P N) 1 7 [3] = some (I 1 7) ∧ hFI (Mh D I P N) 1 8 [3] = some (I 1 8) ∧ hFI (Mh D I P N) 1 13 [3] = some (I 1 13) ∧ hFR (Mh D I P N) 1 0 [3] = some 2 ∧ hFR (Mh D I P N) 1 2 [3] = some 3 ∧ hFR (Mh D I P N) 1 3 [3] = some 4 ∧ hFR (Mh D I P N) 1 10 [3] = some 13 ∧ hFR (Mh D I P N) 1 11 [3] = some 14 ∧ hFR (Mh D I P N) 1 12 [3] = some 15 ∧ hFR (Mh D I P N) 1 9 [3] = P 1 9 ∧ (∀ i, hAR (Mh D I P N) 2 i = bif mib i 9 then some (P 2 i.toNatClampNeg) else none) ∧ (∀ i, hAI 0 (Mh D I P N) 3 i = bif mib i 8 then some (I 3 i.toNatClampNeg) else none) ∧ hAL (Mh D I P N) 3 = some 8 ∧ (∀ i, hAI 0 (Mh D I P N) 4 i = bif mib i 8 then some (I 4 i.toNatClampNeg) else none) ∧ hAL (Mh D I P N) 4 = some 8 ∧ (∀ i, hAI 0 (Mh D I P N) 6 i = bif mib i 8 then some (I 6 i.toNatClampNeg) else none) ∧ hAL (Mh D I P N) 6 = some 8 ∧ (∀ i, hAI 0 (Mh D I P N) 7 i = bif mib i 8 then some (I 7 i.toNatClampNeg) else none) ∧ hAL (Mh D I P N) 7 = some 8 ∧ (∀ i, hAI 0 (Mh D I P N) 8 i = bif mib i 8 then some (I 8 i.toNatClampNeg) else none) ∧ hAL (Mh D I P N) 8 = some 8 ∧ (∀ i, hAI 0 (Mh D I P N) 9 i = bif mib i 8 then some (I 9 i.toNatClampNeg) else none) ∧ hAL (Mh D I P N) 9 = some 8 ∧ (∀ i, hAI 0 (Mh D I P N) 10 i = bif mib i 100 then some (I 10 i.toNatClampNeg) else none) ∧ hAL (Mh D I P N) 10 = some 100 ∧ (∀ i, hAI 0 (Mh D I P N) 11 i = bif mib i 100 then some (I 11 i.toNatClampNeg) else none) ∧ hAL (Mh D I P N) 11 = some 100 ∧ (∀ i, hAI 0 (Mh D I P N) 12 i = bif mib i 100 then some (I 12 i.toNatClampNeg) else none) ∧ hAL (Mh D I P N) 12 = some 100 ∧ (∀ i, hAI 0 (Mh D I P N) 13 i = bif mib i 5 then some (I 13 i.toNatClampNeg) else none) ∧ hAL (Mh D I P N) 13 = some 5 ∧ (∀ i, hAI 0 (Mh D I P N) 14 i = bif mib i 6 then some (I 14 i.toNatClampNeg) else none) ∧ hAL (Mh D I P N) 14 = some 6 ∧ (∀ i, hAI 0 (Mh D I P N) 15 i = bif mib i 6 then some (I 15 i.toNatClampNeg) else none) ∧ hAL (Mh D I P N) 15 = some 6 ∧ hFI (Mh D I P N) 16 1 [3] = some (I 16 1) ∧ hFI (Mh D I P N) 16 4 [3] = some (I 16 4) ∧ hFI (Mh D I P N) 16 5 [3] = some (I 16 5) ∧ hFI (Mh D I P N) 16 6 [3] = some (I 16 6) ∧ hFI (Mh D I P N) 16 7 [3] = some (I 16 7) ∧ hFI (Mh D I P N) 16 8 [3] = some (I 16 8) ∧ hFI (Mh D I P N) 16 13 [3] = some (I 16 13) ∧ hFR (Mh D I P N) 16 0 [3] = some 17 ∧ hFR (Mh D I P N) 16 2 [3] = some 18 ∧ hFR (Mh D I P N) 16 3 [3] = some 19 ∧ hFR (Mh D I P N) 16 10 [3] = some 28 ∧ hFR (Mh D I P N) 16 11 [3] = some 29 ∧ hFR (Mh D I P N) 16 12 [3] = some 30 ∧ hFR (Mh D I P N) 16 9 [3] = P 16 9 ∧ (∀ i, hAR (Mh D I P N) 17 i = bif mib i 9 then some (P 17 i.toNatClampNeg) else none) ∧ (∀ i, hAI 0 (Mh D I P N) 18 i = bif mib i 8 then some (I 18 i.toNatClampNeg) else none) ∧ hAL (Mh D I P N) 18 = some 8 ∧ (∀ i, hAI 0 (Mh D I P N) 19 i = bif mib i 8 then some (I 19 i.toNatClampNeg) else none) ∧ hAL (Mh D I P N) 19 = some 8 ∧ (∀ i, hAI 0 (Mh D I P N) 21 i = bif mib i 8 then some (I 21 i.toNatClampNeg) else none) ∧ hAL (Mh D I P N) 21 = some 8 ∧ (∀ i, hAI 0 (Mh D I P N) 22 i = bif mib i 8 then some (I 22 i.toNatClampNeg) else none) ∧ hAL (Mh D I P N) 22 = some 8 ∧ (∀ i, hAI 0 (Mh D I P N) 23 i = bif mib i 8 then some (I 23 i.toNatClampNeg) else none) ∧ hAL (Mh D I P N) 23 = some 8 ∧ (∀ i, hAI 0 (Mh D I P N) 24 i = bif mib i 8 then some (I 24 i.toNatClampNeg) else none) ∧ hAL (Mh D I P N) 24 = some 8 ∧ (∀ i, hAI 0 (Mh D I P N) 25 i = bif mib i 100 then some (I 25 i.toNatClampNeg) else none) ∧ hAL (Mh D I P N) 25 = some 100 ∧ (∀ i, hAI 0 (Mh D I P N) 26 i = bif mib i 100 then some (I 26 i.toNatClampNeg) else none) ∧ hAL (Mh D I P N) 26 = some 100 ∧ (∀ i, hAI 0 (Mh D I P N) 27 i = bif mib i 100 then some (I 27 i.toNatClampNeg) else none) ∧ hAL (Mh D I P N) 27 = some 100 ∧ (∀ i, hAI 0 (Mh D I P N) 28 i = bif mib i 5 then some (I 28 i.toNatClampNeg) else none) ∧ hAL (Mh D I P N) 28 = some 5 ∧ (∀ i, hAI 0 (Mh D I P N) 29 i = bif mib i 6 then some (I 29 i.toNatClampNeg) else none) ∧ hAL (Mh D I P N) 29 = some 6 ∧ (∀ i, hAI 0 (Mh D I P N) 30 i = bif mib i 6 then some (I 30 i.toNatClampNeg) else none) ∧ hAL (Mh D I P N) 30 = some 6 ∧ hFI (Mh D I P N) 31 5 [6] = some (I 31 5) ∧ hFR (Mh D I P N) 31 0 [6] = some 1 ∧ hFR (Mh D I P N) 31 1 [6] = some 32 ∧ hFR (Mh D I P N) 31 2 [6] = some 33 ∧ hFR (Mh D I P N) 31 3 [6] = some 34 ∧ hFR (Mh D I P N) 31 4 [6] = some 35 ∧ (∀ i, hAI 0 (Mh D I P N) 32 i = bif mib i 30 then some (I 32 i.toNatClampNeg) else none) ∧ hAL (Mh D I P N) 32 = some 30 ∧ (∀ i, hAI 0 (Mh D I P N) 33 i = bif mib i 30 then some (I 33 i.toNatClampNeg) else none) ∧ hAL (Mh D I P N) 33 = some 30 ∧ (∀ i, hAI 0 (Mh D I P N) 34 i = bif mib i 30 then some (I 34 i.toNatClampNeg) else none) ∧ hAL (Mh D I P N) 34 = some 30 ∧ (∀ i, hAI 0 (Mh D I P N) 35 i = bif mib i 30 then some (I 35 i.toNatClampNeg) else none) ∧ hAL (Mh D I P N) 35 = some 30 ∧ hFI (Mh D I P N) 36 1 [4] = some (I 36 1) ∧ hFI (Mh D I P N) 36 5 [4] = some (I 36 5) ∧ hFI (Mh D I P N) 36 6 [4] = some (I 36 6) ∧ hFR (Mh D I P N) 36 2 [4] = some 38 ∧ hFR (Mh D I P N) 36 3 [4] = some 39 ∧ hFR (Mh D I P N) 36 4 [4] = some 40 ∧ hFR (Mh D I P N) 36 0 [4] = P 36 0 ∧ hFR (Mh D I P N) 36 7 [4] = P 36 7 ∧ (∀ i, hAI 1 (Mh D I P N) 37 i = bif mib i 0 then some (I 37 i.toNatClampNeg) else none) ∧ hAL (Mh D I P N) 37 = some 0 ∧ (∀ i, hAI 0 (Mh D I P N) 38 i = bif mib i 200 then some (I 38 i.toNatClampNeg) else none) ∧ hAL (Mh D I P N) 38 = some 200 ∧ (∀ i, hAI 0 (Mh D I P N) 39 i = bif mib i 200 then some (I 39 i.toNatClampNeg) else none) ∧ hAL (Mh D I P N) 39 = some 200 ∧ (∀ i, hAI 0 (Mh D I P N) 40 i = bif mib i 200 then some (I 40 i.toNatClampNeg) else none) ∧ hAL (Mh D I P N) 40 = some 200 ∧ (∀ i, hAI 0 (Mh D I P N) 42 i = bif mib i 8 then some (I 42 i.toNatClampNeg) else none) ∧ hAL (Mh D I P N) 42 = some 8 ∧ (∀ i, hAI 0 (Mh D I P N) 43 i = bif mib i 8 then some (I 43 i.toNatClampNeg) else none) ∧ hAL (Mh D I P N) 43 = some 8 ∧ (∀ i, hAI 0 (Mh D I P N) 44 i = bif mib i 8 then some (I 44 i.toNatClampNeg) else none) ∧ hAL (Mh D I P N) 44 = some 8 ∧ (∀ i, hAI 0 (Mh D I P N) 45 i = bif mib i 8 then some (I 45 i.toNatClampNeg) else none) ∧ hAL (Mh D I P N) 45 = some 8 ∧ (∀ i, hAI 0 (Mh D I P N) 46 i = bif mib i 100 then some (I 46 i.toNatClampNeg) else none) ∧ hAL (Mh D I P N) 46 = some 100 ∧ (∀ i, hAI 0 (Mh D I P N) 47 i = bif mib i 100 then some (I 47 i.toNatClampNeg) else none) ∧ hAL (Mh D I P N) 47 = some 100 ∧ (∀ i, hAI 0 (Mh D I P N) 48 i = bif mib i 100 then some (I 48 i.toNatClampNeg) else none) ∧ hAL (Mh D I P N) 48 = some 100 ∧ (∀ i, hAI 1 (Mh D I P N) 49 i = bif mib i 200 then some (I 49 i.toNatClampNeg) else none) ∧ hAL (Mh D I P N) 49 = some 200 ∧ (∀ i, hAR (Mh D I P N) 50 i = bif mib i 3 then some (if i.toNatClampNeg < 3 then some (51 + i.toNatClampNeg) else none) else none) ∧ (∀ i, hAI 0 (Mh D I P N) 51 i = bif mib i 4 then some (I 51 i.toNatClampNeg) else none) ∧ hAL (Mh D I P N) 51 = some 4 ∧ (∀ i, hAI 0 (Mh D I P N) 52 i = bif mib i 4 then some (I 52 i.toNatClampNeg) else none) ∧ hAL (Mh D I P N) 52 = some 4 ∧ (∀ i, hAI 0 (Mh D I P N) 53 i = bif mib i 4 then some (I 53 i.toNatClampNeg) else none) ∧ hAL (Mh D I P N) 53 = some 4 ∧ hFI (Mh D I P N) 54 6 [2] = some (I 54 6) ∧ hFI (Mh D I P N) 54 7 [2] = some (I 54 7) ∧ hFR (Mh D I P N) 54 0 [2] = some 55 ∧ hFR (Mh D I P N) 54 1 [2] = some 56 ∧ hFR (Mh D I P N) 54 2 [2] = some 57 ∧ hFR (Mh D I P N) 54 3 [2] = some 62 ∧ hFR (Mh D I P N) 54 4 [2] = some 63 ∧ hFR (Mh D I P N) 54 5 [2] = some 64 ∧ (∀ i, hAI 0 (Mh D I P N) 55 i = bif mib i 4 then some (I 55 i.toNatClampNeg) else none) ∧ hAL (Mh D I P N) 55 = some 4 ∧ (∀ i, hAI 0 (Mh D I P N) 56 i = bif mib i 4 then some (I 56 i.toNatClampNeg) else none) ∧ hAL (Mh D I P N) 56 = some 4 ∧ (∀ i, hAR (Mh D I P N) 57 i = bif mib i 4 then some (if i.toNatClampNeg < 4 then some (58 + i.toNatClampNeg) else none) else none) ∧ (∀ i, hAI 0 (Mh D I P N) 58 i = bif mib i 40 then some (I 58 i.toNatClampNeg) else none) ∧ hAL (Mh D I P N) 58 = some 40 ∧ (∀ i, hAI 0 (Mh D I P N) 59 i = bif mib i 40 then some (I 59 i.toNatClampNeg) else none) ∧ hAL (Mh D I P N) 59 = some 40 ∧ (∀ i, hAI 0 (Mh D I P N) 60 i = bif mib i 40 then some (I 60 i.toNatClampNeg) else none) ∧ hAL (Mh D I P N) 60 = some 40 ∧ (∀ i, hAI 0 (Mh D I P N) 61 i = bif mib i 40 then some (I 61 i.toNatClampNeg) else none) ∧ hAL (Mh D I P N) 61 = some 40 ∧ (∀ i, hAI 0 (Mh D I P N) 62 i = bif mib i 4 then some (I 62 i.toNatClampNeg) else none) ∧ hAL (Mh D I P N) 62 = some 4 ∧ (∀ i, hAI 0 (Mh D I P N) 63 i = bif mib i 4 then some (I 63 i.toNatClampNeg) else none) ∧ hAL (Mh D I P N) 63 = some 4 ∧ (∀ i, hAI 0 (Mh D I P N) 64 i = bif mib i 30 then some (I 64 i.toNatClampNeg) else none) ∧ hAL (Mh D I P N) 64 = some 30 := ⟨rdI hN0 rfl rfl, rdI hN0 rfl rfl, rdI hN0 rfl rfl, rdR hN0 rfl rfl, rdR hN0 rfl rfl, rdR hN0 rfl rfl, rdR hN0 rfl rfl, rdR hN0 rfl rfl, rdR hN0 rfl rfl, rdR hN0 rfl rfl, rdI hN1 rfl rfl, rdI hN1 rfl rfl, rdI hN1 rfl rfl, rdI hN1 rfl rfl, rdI hN1 rfl rfl, rdI hN1 rfl rfl, rdI hN1 rfl rfl, rdR hN1 rfl rfl, rdR hN1 rfl rfl, rdR hN1 rfl rfl, rdR hN1 rfl rfl, rdR hN1 rfl rfl, rdR hN1 rfl rfl, rdR hN1 rfl rfl, fun i => rdQ2 hN2 rfl, fun i => rdA hN3 rfl rfl, rdL hN3 rfl rfl, fun i => rdA hN4 rfl rfl, rdL hN4 rfl rfl, fun i => rdA hN6 rfl rfl, rdL hN6 rfl rfl, fun i => rdA hN7 rfl rfl, rdL hN7 rfl rfl, fun i => rdA hN8 rfl rfl, rdL hN8 rfl rfl, fun i => rdA hN9 rfl rfl, rdL hN9 rfl rfl, fun i => rdA hN10 rfl rfl, rdL hN10 rfl rfl, fun i => rdA hN11 rfl rfl, rdL hN11 rfl rfl, fun i => rdA hN12 rfl rfl, rdL hN12 rfl rfl, fun i => rdA hN13 rfl rfl, rdL hN13 rfl rfl, fun i => rdA hN14 rfl rfl, rdL hN14 rfl rfl, fun i => rdA hN15 rfl rfl, rdL hN15 rfl rfl, rdI hN16 rfl rfl, rdI hN16 rfl rfl, rdI hN16 rfl rfl, rdI hN16 rfl rfl, rdI hN16 rfl rfl, rdI hN16 rfl rfl, rdI hN16 rfl rfl, rdR hN16 rfl rfl, rdR hN16 rfl rfl, rdR hN16 rfl rfl, rdR hN16 rfl rfl, rdR hN16 rfl rfl, rdR hN16 rfl rfl, rdR hN16 rfl rfl, fun i => rdQ2 hN17 rfl, fun i => rdA hN18 rfl rfl, rdL hN18 rfl rfl, fun i => rdA hN19 rfl rfl, rdL hN19 rfl rfl, fun i => rdA hN21 rfl rfl, rdL hN21 rfl rfl, fun i => rdA hN22 rfl rfl, rdL hN22 rfl rfl, fun i => rdA hN23 rfl rfl, rdL hN23 rfl rfl, fun i => rdA hN24 rfl rfl, rdL hN24 rfl rfl, fun i => rdA hN25 rfl rfl, rdL hN25 rfl rfl, fun i => rdA hN26 rfl rfl, rdL hN26 rfl rfl, fun i => rdA hN27 rfl rfl, rdL hN27 rfl rfl, fun i => rdA hN28 rfl rfl, rdL hN28 rfl rfl, fun i => rdA hN29 rfl rfl, rdL hN29 rfl rfl, fun i => rdA hN30 rfl rfl, rdL hN30 rfl rfl, rdI hN31 rfl rfl, rdR hN31 rfl rfl, rdR hN31 rfl rfl, rdR hN31 rfl rfl, rdR hN31 rfl rfl, rdR hN31 rfl rfl, fun i => rdA hN32 rfl rfl, rdL hN32 rfl rfl, fun i => rdA hN33 rfl rfl, rdL hN33 rfl rfl, fun i => rdA hN34 rfl rfl, rdL hN34 rfl rfl, fun i => rdA hN35 rfl rfl, rdL hN35 rfl rfl, rdI hN36 rfl rfl, rdI hN36 rfl rfl, rdI hN36 rfl rfl, rdR hN36 rfl rfl, rdR hN36 rfl rfl, rdR hN36 rfl rfl, rdR hN36 rfl rfl, rdR hN36 rfl rfl, fun i => rdA hN37 rfl rfl, rdL hN37 rfl rfl, fun i => rdA hN38 rfl rfl, rdL hN38 rfl rfl, fun i => rdA hN39 rfl rfl, rdL hN39 rfl rfl, fun i => rdA hN40 rfl rfl, rdL hN40 rfl rfl, fun i => rdA hN42 rfl rfl, rdL hN42 rfl rfl, fun i => rdA hN43 rfl rfl, rdL hN43 rfl rfl, fun i => rdA hN44 rfl rfl, rdL hN44 rfl rfl, fun i => rdA hN45 rfl rfl, rdL hN45 rfl rfl, fun i => rdA hN46 rfl rfl, rdL hN46 rfl rfl, fun i => rdA hN47 rfl rfl, rdL hN47 rfl rfl, fun i => rdA hN48 rfl rfl, rdL hN48 rfl rfl, fun i => rdA hN49 rfl rfl, rdL hN49 rfl rfl, fun i => rdQ3 hN50 rfl, fun i => rdA hN51 rfl rfl, rdL hN51 rfl rfl, fun i => rdA hN52 rfl rfl, rdL hN52 rfl rfl, fun i => rdA hN53 rfl rfl, rdL hN53 rfl rfl, rdI hN54 rfl rfl, rdI hN54 rfl rfl, rdR hN54 rfl rfl, rdR hN54 rfl rfl, rdR hN54 rfl rfl, rdR hN54 rfl rfl, rdR hN54 rfl rfl, rdR hN54 rfl rfl, fun i => rdA hN55 rfl rfl, rdL hN55 rfl rfl, fun i => rdA hN56 rfl rfl, rdL hN56 rfl rfl, fun i => rdQ3 hN57 rfl, fun i => rdA hN58 rfl rfl, rdL hN58 rfl rfl, fun i => rdA hN59 rfl rfl, rdL hN59 rfl rfl, fun i => rdA hN60 rfl rfl, rdL hN60 rfl rfl, fun i => rdA hN61 rfl rfl, rdL hN61 rfl rfl, fun i => rdA hN62 rfl rfl, rdL hN62 rfl rfl, fun i => rdA hN63 rfl rfl, rdL hN63 rfl rfl, fun i => rdA hN64 rfl rfl, rdL hN64 rfl rfl⟩
theorem WRc {D : Nat → Nat × Nat} {I : Nat → Nat → Int32} {P : Nat → Nat → Option Nat} {N : Nat} : (∀ x, hFS (Mh D I P N) 0 6 [10] (.int x) = some (Mh D (u2 I 0 6 x) P N)) ∧ (∀ x, hFS (Mh D I P N) 0 8 [10] (.int x) = some (Mh D (u2 I 0 8 x) P N)) ∧ (∀ b, hFS (Mh D I P N) 0 2 [10] (.int (bI b)) = some (Mh D (u2 I 0 2 (bI b)) P N)) ∧ hFS (Mh D I P N) 0 2 [10] (.int 0) = some (Mh D (u2 I 0 2 0) P N) ∧ hFS (Mh D I P N) 0 2 [10] (.int 1) = some (Mh D (u2 I 0 2 1) P N) ∧ (∀ x, hFS (Mh D I P N) 1 1 [3] (.int x) = some (Mh D (u2 I 1 1 x) P N)) ∧ (∀ x, hFS (Mh D I P N) 1 4 [3] (.int x) = some (Mh D (u2 I 1 4 x) P N)) ∧ (∀ x, hFS (Mh D I P N) 1 5 [3] (.int x) = some (Mh D (u2 I 1 5 x) P N)) ∧ (∀ x, hFS (Mh D I P N) 1 6 [3] (.int x) = some (Mh D (u2 I 1 6 x) P N)) ∧ (∀ x, hFS (Mh D I P N) 1 7 [3] (.int x) = some (Mh D (u2 I 1 7 x) P N)) ∧ (∀ x, hFS (Mh D I P N) 1 8 [3] (.int x) = some (Mh D (u2 I 1 8 x) P N)) ∧ (∀ x, hFS (Mh D I P N) 1 13 [3] (.int x) = some (Mh D (u2 I 1 13 x) P N)) ∧ (∀ i x, hAS 0 (Mh D I P N) 3 i x = bif mib i 8 then some (Mh D (u2 I 3 i.toNatClampNeg x) P N) else none) ∧ (∀ i x, hAS 0 (Mh D I P N) 4 i x = bif mib i 8 then some (Mh D (u2 I 4 i.toNatClampNeg x) P N) else none) ∧ (∀ i x, hAS 0 (Mh D I P N) 6 i x = bif mib i 8 then some (Mh D (u2 I 6 i.toNatClampNeg x) P N) else none) ∧ (∀ i x, hAS 0 (Mh D I P N) 7 i x = bif mib i 8 then some (Mh D (u2 I 7 i.toNatClampNeg x) P N) else none) ∧ (∀ i x, hAS 0 (Mh D I P N) 8 i x = bif mib i 8 then some (Mh D (u2 I 8 i.toNatClampNeg x) P N) else none) ∧ (∀ i x, hAS 0 (Mh D I P N) 9 i x = bif mib i 8 then some (Mh D (u2 I 9 i.toNatClampNeg x) P N) else none) ∧ (∀ i x, hAS 0 (Mh D I P N) 10 i x = bif mib i 100 then some (Mh D (u2 I 10 i.toNatClampNeg x) P N) else none) ∧ (∀ i x, hAS 0 (Mh D I P N) 11 i x = bif mib i 100 then some (Mh D (u2 I 11 i.toNatClampNeg x) P N) else none) ∧ (∀ i x, hAS 0 (Mh D I P N) 12 i x = bif mib i 100 then some (Mh D (u2 I 12 i.toNatClampNeg x) P N) else none) ∧ (∀ i x, hAS 0 (Mh D I P N) 13 i x = bif mib i 5 then some (Mh D (u2 I 13 i.toNatClampNeg x) P N) else none) ∧ (∀ i x, hAS 0 (Mh D I P N) 14 i x = bif mib i 6 then some (Mh D (u2 I 14 i.toNatClampNeg x) P N) else none) ∧ (∀ i x, hAS 0 (Mh D I P N) 15 i x = bif mib i 6 then some (Mh D (u2 I 15 i.toNatClampNeg x) P N) else none) ∧ (∀ x, hFS (Mh D I P N) 16 1 [3] (.int x) = some (Mh D (u2 I 16 1 x) P N)) ∧ (∀ x, hFS (Mh D I P N) 16 4 [3] (.int x) = some (Mh D (u2 I 16 4 x) P N)) ∧ (∀ x, hFS (Mh D I P N) 16 5 [3] (.int x) = some (Mh D (u2 I 16 5 x) P N)) ∧ (∀ x, hFS (Mh D I P N) 16 6 [3] (.int x) = some (Mh D (u2 I 16 6 x) P N)) ∧ (∀ x, hFS (Mh D I P N) 16 7 [3] (.int x) = some (Mh D (u2 I 16 7 x) P N)) ∧ (∀ x, hFS (Mh D I P N) 16 8 [3] (.int x) = some (Mh D (u2 I 16 8 x) P N)) ∧ (∀ x, hFS (Mh D I P N) 16 13 [3] (.int x) = some (Mh D (u2 I 16 13 x) P N)) ∧ (∀ i x, hAS 0 (Mh D I P N) 18 i x = bif mib i 8 then some (Mh D (u2 I 18 i.toNatClampNeg x) P N) else none) ∧ (∀ i x, hAS 0 (Mh D I P N) 19 i x = bif mib i 8 then some (Mh D (u2 I 19 i.toNatClampNeg x) P N) else none) ∧ (∀ i x, hAS 0 (Mh D I P N) 21 i x = bif mib i 8 then some (Mh D (u2 I 21 i.toNatClampNeg x) P N) else none) ∧ (∀ i x, hAS 0 (Mh D I P N) 22 i x = bif mib i 8 then some (Mh D (u2 I 22 i.toNatClampNeg x) P N) else none) ∧ (∀ i x, hAS 0 (Mh D I P N) 23 i x = bif mib i 8 then some (Mh D (u2 I 23 i.toNatClampNeg x) P N) else none) ∧ (∀ i x, hAS 0 (Mh D I P N) 24 i x = bif mib i 8 then some (Mh D (u2 I 24 i.toNatClampNeg x) P N) else none) ∧ (∀ i x, hAS 0 (Mh D I P N) 25 i x = bif mib i 100 then some (Mh D (u2 I 25 i.toNatClampNeg x) P N) else none) ∧ (∀ i x, hAS 0 (Mh D I P N) 26 i x = bif mib i 100 then some (Mh D (u2 I 26 i.toNatClampNeg x) P N) else none) ∧ (∀ i x, hAS 0 (Mh D I P N) 27 i x = bif mib i 100 then some (Mh D (u2 I 27 i.toNatClampNeg x) P N) else none) ∧ (∀ i x, hAS 0 (Mh D I P N) 28 i x = bif mib i 5 then some (Mh D (u2 I 28 i.toNatClampNeg x) P N) else none) ∧ (∀ i x, hAS 0 (Mh D I P N) 29 i x = bif mib i 6 then some (Mh D (u2 I 29 i.toNatClampNeg x) P N) else none) ∧ (∀ i x, hAS 0 (Mh D I P N) 30 i x = bif mib i 6 then some (Mh D (u2 I 30 i.toNatClampNeg x) P N) else none) ∧ (∀ x, hFS (Mh D I P N) 31 5 [6] (.int x) = some (Mh D (u2 I 31 5 x) P N)) ∧ (∀ i x, hAS 0 (Mh D I P N) 32 i x = bif mib i 30 then some (Mh D (u2 I 32 i.toNatClampNeg x) P N) else none) ∧ (∀ i x, hAS 0 (Mh D I P N) 33 i x = bif mib i 30 then some (Mh D (u2 I 33 i.toNatClampNeg x) P N) else none) ∧ (∀ i x, hAS 0 (Mh D I P N) 34 i x = bif mib i 30 then some (Mh D (u2 I 34 i.toNatClampNeg x) P N) else none) ∧ (∀ i x, hAS 0 (Mh D I P N) 35 i x = bif mib i 30 then some (Mh D (u2 I 35 i.toNatClampNeg x) P N) else none) ∧ (∀ x, hFS (Mh D I P N) 36 1 [4] (.int x) = some (Mh D (u2 I 36 1 x) P N)) ∧ (∀ x, hFS (Mh D I P N) 36 5 [4] (.int x) = some (Mh D (u2 I 36 5 x) P N)) ∧ (∀ x, hFS (Mh D I P N) 36 6 [4] (.int x) = some (Mh D (u2 I 36 6 x) P N)) ∧ (∀ i x, hAS 1 (Mh D I P N) 37 i x = bif mib i 0 then some (Mh D (u2 I 37 i.toNatClampNeg x) P N) else none) ∧ (∀ i x, hAS 0 (Mh D I P N) 38 i x = bif mib i 200 then some (Mh D (u2 I 38 i.toNatClampNeg x) P N) else none) ∧ (∀ i x, hAS 0 (Mh D I P N) 39 i x = bif mib i 200 then some (Mh D (u2 I 39 i.toNatClampNeg x) P N) else none) ∧ (∀ i x, hAS 0 (Mh D I P N) 40 i x = bif mib i 200 then some (Mh D (u2 I 40 i.toNatClampNeg x) P N) else none) ∧ (∀ i x, hAS 0 (Mh D I P N) 42 i x = bif mib i 8 then some (Mh D (u2 I 42 i.toNatClampNeg x) P N) else none) ∧ (∀ i x, hAS 0 (Mh D I P N) 43 i x = bif mib i 8 then some (Mh D (u2 I 43 i.toNatClampNeg x) P N) else none) ∧ (∀ i x, hAS 0 (Mh D I P N) 44 i x = bif mib i 8 then some (Mh D (u2 I 44 i.toNatClampNeg x) P N) else none) ∧ (∀ i x, hAS 0 (Mh D I P N) 45 i x = bif mib i 8 then some (Mh D (u2 I 45 i.toNatClampNeg x) P N) else none) ∧ (∀ i x, hAS 0 (Mh D I P N) 46 i x = bif mib i 100 then some (Mh D (u2 I 46 i.toNatClampNeg x) P N) else none) ∧ (∀ i x, hAS 0 (Mh D I P N) 47 i x = bif mib i 100 then some (Mh D (u2 I 47 i.toNatClampNeg x) P N) else none) ∧ (∀ i x, hAS 0 (Mh D I P N) 48 i x = bif mib i 100 then some (Mh D (u2 I 48 i.toNatClampNeg x) P N) else none) ∧ (∀ i x, hAS 1 (Mh D I P N) 49 i x = bif mib i 200 then some (Mh D (u2 I 49 i.toNatClampNeg x) P N) else none) ∧ (∀ i x, hAS 0 (Mh D I P N) 51 i x = bif mib i 4 then some (Mh D (u2 I 51 i.toNatClampNeg x) P N) else none) ∧ (∀ i x, hAS 0 (Mh D I P N) 52 i x = bif mib i 4 then some (Mh D (u2 I 52 i.toNatClampNeg x) P N) else none) ∧ (∀ i x, hAS 0 (Mh D I P N) 53 i x = bif mib i 4 then some (Mh D (u2 I 53 i.toNatClampNeg x) P N) else none) ∧ (∀ x, hFS (Mh D I P N) 54 6 [2] (.int x) = some (Mh D (u2 I 54 6 x) P N)) ∧ (∀ b, hFS (Mh D I P N) 54 7 [2] (.int (bI b)) = some (Mh D (u2 I 54 7 (bI b)) P N)) ∧ hFS (Mh D I P N) 54 7 [2] (.int 0) = some (Mh D (u2 I 54 7 0) P N) ∧ hFS (Mh D I P N) 54 7 [2] (.int 1) = some (Mh D (u2 I 54 7 1) P N) ∧ (∀ i x, hAS 0 (Mh D I P N) 55 i x = bif mib i 4 then some (Mh D (u2 I 55 i.toNatClampNeg x) P N) else none) ∧ (∀ i x, hAS 0 (Mh D I P N) 56 i x = bif mib i 4 then some (Mh D (u2 I 56 i.toNatClampNeg x) P N) else none) ∧ (∀ i x, hAS 0 (Mh D I P N) 58 i x = bif mib i 40 then some (Mh D (u2 I 58 i.toNatClampNeg x) P N) else none) ∧ (∀ i x, hAS 0 (Mh D I P N) 59 i x = bif mib i 40 then some (Mh D (u2 I 59 i.toNatClampNeg x) P N) else none) ∧ (∀ i x, hAS 0 (Mh D I P N) 60 i x = bif mib i 40 then some (Mh D (u2 I 60 i.toNatClampNeg x) P N) else none) ∧ (∀ i x, hAS 0 (Mh D I P N) 61 i x = bif mib i 40 then some (Mh D (u2 I 61 i.toNatClampNeg x) P N) else none) ∧ (∀ i x, hAS 0 (Mh D I P N) 62 i x = bif mib i 4 then some (Mh D (u2 I 62 i.toNatClampNeg x) P N) else none) ∧ (∀ i x, hAS 0 (Mh D I P N) 63 i x = bif mib i 4 then some (Mh D (u2 I 63 i.toNatClampNeg x) P N) else none) ∧ (∀ i x, hAS 0 (Mh D I P N) 64 i x = bif mib i 30 then some (Mh D (u2 I 64 i.toNatClampNeg x) P N) else none) := ⟨fun x => wrI hN0 rfl rfl, fun x => wrI hN0 rfl rfl, fun b => wrB hN0 rfl rfl, wrB (b := false) hN0 rfl rfl, wrB (b := true) hN0 rfl rfl, fun x => wrI hN1 rfl rfl, fun x => wrI hN1 rfl rfl, fun x => wrI hN1 rfl rfl, fun x => wrI hN1 rfl rfl, fun x => wrI hN1 rfl rfl, fun x => wrI hN1 rfl rfl, fun x => wrI hN1 rfl rfl, fun i x => wrA hN3 rfl rfl, fun i x => wrA hN4 rfl rfl, fun i x => wrA hN6 rfl rfl, fun i x => wrA hN7 rfl rfl, fun i x => wrA hN8 rfl rfl, fun i x => wrA hN9 rfl rfl, fun i x => wrA hN10 rfl rfl, fun i x => wrA hN11 rfl rfl, fun i x => wrA hN12 rfl rfl, fun i x => wrA hN13 rfl rfl, fun i x => wrA hN14 rfl rfl, fun i x => wrA hN15 rfl rfl, fun x => wrI hN16 rfl rfl, fun x => wrI hN16 rfl rfl, fun x => wrI hN16 rfl rfl, fun x => wrI hN16 rfl rfl, fun x => wrI hN16 rfl rfl, fun x => wrI hN16 rfl rfl, fun x => wrI hN16 rfl rfl, fun i x => wrA hN18 rfl rfl, fun i x => wrA hN19 rfl rfl, fun i x => wrA hN21 rfl rfl, fun i x => wrA hN22 rfl rfl, fun i x => wrA hN23 rfl rfl, fun i x => wrA hN24 rfl rfl, fun i x => wrA hN25 rfl rfl, fun i x => wrA hN26 rfl rfl, fun i x => wrA hN27 rfl rfl, fun i x => wrA hN28 rfl rfl, fun i x => wrA hN29 rfl rfl, fun i x => wrA hN30 rfl rfl, fun x => wrI hN31 rfl rfl, fun i x => wrA hN32 rfl rfl, fun i x => wrA hN33 rfl rfl, fun i x => wrA hN34 rfl rfl, fun i x => wrA hN35 rfl rfl, fun x => wrI hN36 rfl rfl, fun x => wrI hN36 rfl rfl, fun x => wrI hN36 rfl rfl, fun i x => wrA hN37 rfl rfl, fun i x => wrA hN38 rfl rfl, fun i x => wrA hN39 rfl rfl, fun i x => wrA hN40 rfl rfl, fun i x => wrA hN42 rfl rfl, fun i x => wrA hN43 rfl rfl, fun i x => wrA hN44 rfl rfl, fun i x => wrA hN45 rfl rfl, fun i x => wrA hN46 rfl rfl, fun i x => wrA hN47 rfl rfl, fun i x => wrA hN48 rfl rfl, fun i x => wrA hN49 rfl rfl, fun i x => wrA hN51 rfl rfl, fun i x => wrA hN52 rfl rfl, fun i x => wrA hN53 rfl rfl, fun x => wrI hN54 rfl rfl, fun b => wrB hN54 rfl rfl, wrB (b := false) hN54 rfl rfl, wrB (b := true) hN54 rfl rfl, fun i x => wrA hN55 rfl rfl, fun i x => wrA hN56 rfl rfl, fun i x => wrA hN58 rfl rfl, fun i x => wrA hN59 rfl rfl, fun i x => wrA hN60 rfl rfl, fun i x => wrA hN61 rfl rfl, fun i x => wrA hN62 rfl rfl, fun i x => wrA hN63 rfl rfl, fun i x => wrA hN64 rfl rfl⟩
section Mem2
variable {D : Nat → Nat × Nat} {I : Nat → Nat → Int32} {P : Nat → Nat → Option Nat} {N a k ci n t p q : Nat}
/-- p is an answer's place -/
def AnsAt (D : Nat → Nat × Nat) (N p : Nat) : Prop := 80 ≤ p ∧ p < 80 + N ∧ ∃ c, D p = (4, c) ∧ isAns c = true
theorem bKk_dyn (h : 80 ≤ p) : bKk D p = D p := by
  unfold bKk
  have e : Nat.blt p 80 = false := by
    cases hb : Nat.blt p 80 with
    | false => rfl
    | true => have := blt_lt hb; omega
  rw [e]; rfl
theorem isAns_cases (h : isAns ci = true) : ci = 0 ∨ ci = 1 ∨ ci = 7 ∨ ci = 8 ∨ ci = 9 := by
  simp only [isAns, Bool.or_eq_true, Nat.beq_eq] at h
  omega
theorem rdAns (h : AnsAt D N p) (hk : k < 6) : hFI (Mh D I P N) p k [0, 1, 7, 8, 9] = some (I p k) := by
  obtain ⟨h1, h2, c, h3, h4⟩ := h
  have hK : bKk D p = (4, c) := (bKk_dyn h1).trans h3
  refine rdI h2 hK ?_
  have : k = 0 ∨ k = 1 ∨ k = 2 ∨ k = 3 ∨ k = 4 ∨ k = 5 := by omega
  rcases isAns_cases h4 with rfl | rfl | rfl | rfl | rfl <;> rcases this with rfl | rfl | rfl | rfl | rfl | rfl <;> rfl
theorem wrAns {x : Int32} (h : AnsAt D N p) (hk : k < 6) : hFS (Mh D I P N) p k [0, 1, 7, 8, 9] (.int x) = some (Mh D (u2 I p k x) P N) := by
  obtain ⟨h1, h2, c, h3, h4⟩ := h
  have hK : bKk D p = (4, c) := (bKk_dyn h1).trans h3
  refine wrI h2 hK ?_
  have : k = 0 ∨ k = 1 ∨ k = 2 ∨ k = 3 ∨ k = 4 ∨ k = 5 := by omega
  rcases isAns_cases h4 with rfl | rfl | rfl | rfl | rfl <;> rcases this with rfl | rfl | rfl | rfl | rfl | rfl <;> rfl
theorem RDa (h : AnsAt D N p) : hFI (Mh D I P N) p 0 [0, 1, 7, 8, 9] = some (I p 0) ∧ hFI (Mh D I P N) p 1 [0, 1, 7, 8, 9] = some (I p 1) ∧ hFI (Mh D I P N) p 2 [0, 1, 7, 8, 9] = some (I p 2) ∧ hFI (Mh D I P N) p 3 [0, 1, 7, 8, 9] = some (I p 3) ∧ hFI (Mh D I P N) p 4 [0, 1, 7, 8, 9] = some (I p 4) ∧ hFI (Mh D I P N) p 5 [0, 1, 7, 8, 9] = some (I p 5) :=
  ⟨rdAns h (by decide), rdAns h (by decide), rdAns h (by decide), rdAns h (by decide), rdAns h (by decide), rdAns h (by decide)⟩
theorem WRa (h : AnsAt D N p) : (∀ x, hFS (Mh D I P N) p 2 [0, 1, 7, 8, 9] (.int x) = some (Mh D (u2 I p 2 x) P N)) ∧ (∀ x, hFS (Mh D I P N) p 3 [0, 1, 7, 8, 9] (.int x) = some (Mh D (u2 I p 3 x) P N)) ∧ (∀ x, hFS (Mh D I P N) p 4 [0, 1, 7, 8, 9] (.int x) = some (Mh D (u2 I p 4 x) P N)) ∧ (∀ x, hFS (Mh D I P N) p 5 [0, 1, 7, 8, 9] (.int x) = some (Mh D (u2 I p 5 x) P N)) ∧ (∀ x, hFS (Mh D I P N) p 0 [0, 1, 7, 8, 9] (.int x) = some (Mh D (u2 I p 0 x) P N)) ∧ (∀ x, hFS (Mh D I P N) p 1 [0, 1, 7, 8, 9] (.int x) = some (Mh D (u2 I p 1 x) P N)) :=
  ⟨fun _ => wrAns h (by decide), fun _ => wrAns h (by decide), fun _ => wrAns h (by decide), fun _ => wrAns h (by decide), fun _ => wrAns h (by decide), fun _ => wrAns h (by decide)⟩
theorem WRr1 : hFS (Mh D I P N) 1 9 [3] (.ref q) = some (Mh D I (p2 P 1 9 (some q)) N) := wrR hN1 (ci := 3) rfl rfl (fun _ => rfl)
theorem WRr16 : hFS (Mh D I P N) 16 9 [3] (.ref q) = some (Mh D I (p2 P 16 9 (some q)) N) := wrR hN16 (ci := 3) rfl rfl (fun _ => rfl)
theorem WRr36 : hFS (Mh D I P N) 36 0 [4] (.ref q) = some (Mh D I (p2 P 36 0 (some q)) N) := wrR hN36 (ci := 4) rfl rfl (fun _ => rfl)
theorem WRr367 : hFS (Mh D I P N) 36 7 [4] (.ref q) = some (Mh D I (p2 P 36 7 (some q)) N) := wrR hN36 (ci := 4) rfl rfl (fun _ => rfl)
end Mem2

