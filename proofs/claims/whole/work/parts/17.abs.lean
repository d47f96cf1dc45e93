/-! ints as naturals; what the ride is, as functions of the reference's row -/
section Ints
variable {j k n : Nat} {x y : Int32} {b : Bool}
theorem iN_lt (hj : j < 2147483648) (hk : k < 2147483648) : (Int32.ofNat j < Int32.ofNat k) = (j < k) := propext (Int32.ofNat_lt_iff_lt hj hk)
theorem iN_le (hj : j < 2147483648) (hk : k < 2147483648) : (Int32.ofNat j ≤ Int32.ofNat k) = (j ≤ k) := propext (Int32.ofNat_le_iff_le hj hk)
theorem iN_succ : Int32.ofNat j + 1 = Int32.ofNat (j + 1) := (Int32.ofNat_add j 1).symm
theorem iN_pred (h : 1 ≤ j) : Int32.ofNat j - 1 = Int32.ofNat (j - 1) := (Int32.ofNat_sub j 1 h).symm
theorem iN_cl (h : j < 2147483648) : (Int32.ofNat j).toNatClampNeg = j := Int32.toNatClampNeg_ofNat_of_lt h
theorem iN_ti (h : j < 2147483648) : (Int32.ofNat j).toInt = (j : Int) := Int32.toInt_ofNat_of_lt h
theorem iN_inj (hj : j < 2147483648) (hk : k < 2147483648) : (Int32.ofNat j = Int32.ofNat k) = (j = k) := propext ⟨fun h => by rw [← iN_cl hj, h, iN_cl hk], fun h => by rw [h]⟩
theorem z_ti : (0 : Int32).toInt = 0 := rfl
theorem iN_neg (h : j < 2147483648) : ¬ (Int32.ofNat j < 0) := by rw [Int32.lt_iff_toInt_lt, iN_ti h, z_ti]; omega
theorem mib_N (h : j < n) (hn : n ≤ 2147483648) : mib (Int32.ofNat j) n = true := by
  unfold mib
  rw [decide_eq_false (iN_neg (by omega)), iN_cl (by omega), Nat.blt_eq.mpr h]; rfl
theorem mib_x (h0 : 0 ≤ x.toInt) (h : x.toInt < (n : Int)) : mib x n = true := by
  unfold mib
  have e : x.toNatClampNeg < n := by rw [← Int32.toNat_toInt]; omega
  rw [decide_eq_false (by rw [Int32.lt_iff_toInt_lt, z_ti]; omega), Nat.blt_eq.mpr e]; rfl
theorem mib_no (h : x.toInt < 0 ∨ (n : Int) ≤ x.toInt) : mib x n = false := by
  unfold mib
  rcases h with h | h
  · rw [decide_eq_true (by rw [Int32.lt_iff_toInt_lt, z_ti]; omega)]; rfl
  · have e : Nat.blt x.toNatClampNeg n = false := by
      cases hb : Nat.blt x.toNatClampNeg n with
      | false => rfl
      | true =>
        have := blt_lt hb
        rw [← Int32.toNat_toInt] at this
        omega
    rw [e, Bool.and_false]
theorem iN_of (h : 0 ≤ x.toInt) : x = Int32.ofNat x.toNatClampNeg := (Int32.ofNat_toNatClampNeg x (by rw [Int32.le_iff_toInt_le, z_ti]; exact h)).symm
theorem cl_ti (h : 0 ≤ x.toInt) : (x.toNatClampNeg : Int) = x.toInt := by rw [← Int32.toNat_toInt]; omega
theorem t_add (h1 : -2147483648 ≤ x.toInt + y.toInt) (h2 : x.toInt + y.toInt < 2147483648) : (x + y).toInt = x.toInt + y.toInt := by
  rw [Int32.toInt_add]; exact Int.bmod_eq_of_le h1 h2
theorem t_sub (h1 : -2147483648 ≤ x.toInt - y.toInt) (h2 : x.toInt - y.toInt < 2147483648) : (x - y).toInt = x.toInt - y.toInt := by
  rw [Int32.toInt_sub]; exact Int.bmod_eq_of_le h1 h2
theorem t_mul (h1 : -2147483648 ≤ x.toInt * y.toInt) (h2 : x.toInt * y.toInt < 2147483648) : (x * y).toInt = x.toInt * y.toInt := by
  rw [Int32.toInt_mul]; exact Int.bmod_eq_of_le h1 h2
theorem bI_0 : (bI b = 0) = (b = false) := by cases b <;> simp [bI]
theorem bI_n0 : (¬ bI b = 0) = (b = true) := by cases b <;> simp [bI]
theorem bI_1 : (bI b = 1) = (b = true) := by cases b <;> simp [bI]
theorem bF : (decide (b = false) || decide (b = true)) = true := by cases b <;> rfl
theorem bI_or : (decide (bI b = 0) || decide (bI b = 1)) = true := by cases b <;> rfl
theorem bI_t : bI true = 1 := rfl
theorem bI_f : bI false = 0 := rfl
/-- v lies between -/
def bt (v : Int32) (lo hi : Int) : Bool := decide (lo ≤ v.toInt) && decide (v.toInt ≤ hi)
theorem bt_iff {v : Int32} {lo hi : Int} : bt v lo hi = true ↔ lo ≤ v.toInt ∧ v.toInt ≤ hi := by unfold bt; simp
theorem bt_no {v : Int32} {lo hi : Int} : bt v lo hi = false ↔ v.toInt < lo ∨ hi < v.toInt := by
  unfold bt
  rw [Bool.and_eq_false_iff, decide_eq_false_iff_not, decide_eq_false_iff_not, Int.not_le, Int.not_le]
end Ints
theorem rr67 {D : Nat → Nat × Nat} {I : Nat → Nat → Int32} {P : Nat → Nat → Option Nat} {N : Nat} {j : Nat} (h : j < 320) : hAI 0 (Mh D I P N) 67 (Int32.ofNat j) = some (I 67 j) := by rw [rdA hN67 (n := 320) rfl rfl, mib_N h (by decide), iN_cl (by omega)]; rfl
theorem ww67 {D : Nat → Nat × Nat} {I : Nat → Nat → Int32} {P : Nat → Nat → Option Nat} {N : Nat} {j : Nat} {x : Int32} (h : j < 320) : hAS 0 (Mh D I P N) 67 (Int32.ofNat j) x = some (Mh D (u2 I 67 j x) P N) := by rw [wrA hN67 (n := 320) rfl rfl, mib_N h (by decide), iN_cl (by omega)]; rfl
theorem rr68 {D : Nat → Nat × Nat} {I : Nat → Nat → Int32} {P : Nat → Nat → Option Nat} {N : Nat} {j : Nat} (h : j < 320) : hAI 0 (Mh D I P N) 68 (Int32.ofNat j) = some (I 68 j) := by rw [rdA hN68 (n := 320) rfl rfl, mib_N h (by decide), iN_cl (by omega)]; rfl
theorem ww68 {D : Nat → Nat × Nat} {I : Nat → Nat → Int32} {P : Nat → Nat → Option Nat} {N : Nat} {j : Nat} {x : Int32} (h : j < 320) : hAS 0 (Mh D I P N) 68 (Int32.ofNat j) x = some (Mh D (u2 I 68 j x) P N) := by rw [wrA hN68 (n := 320) rfl rfl, mib_N h (by decide), iN_cl (by omega)]; rfl
theorem rr69 {D : Nat → Nat × Nat} {I : Nat → Nat → Int32} {P : Nat → Nat → Option Nat} {N : Nat} {j : Nat} (h : j < 200) : hAI 0 (Mh D I P N) 69 (Int32.ofNat j) = some (I 69 j) := by rw [rdA hN69 (n := 200) rfl rfl, mib_N h (by decide), iN_cl (by omega)]; rfl
theorem ww69 {D : Nat → Nat × Nat} {I : Nat → Nat → Int32} {P : Nat → Nat → Option Nat} {N : Nat} {j : Nat} {x : Int32} (h : j < 200) : hAS 0 (Mh D I P N) 69 (Int32.ofNat j) x = some (Mh D (u2 I 69 j x) P N) := by rw [wrA hN69 (n := 200) rfl rfl, mib_N h (by decide), iN_cl (by omega)]; rfl
theorem rr70 {D : Nat → Nat × Nat} {I : Nat → Nat → Int32} {P : Nat → Nat → Option Nat} {N : Nat} {j : Nat} (h : j < 4) : hAI 0 (Mh D I P N) 70 (Int32.ofNat j) = some (I 70 j) := by rw [rdA hN70 (n := 4) rfl rfl, mib_N h (by decide), iN_cl (by omega)]; rfl
theorem ww70 {D : Nat → Nat × Nat} {I : Nat → Nat → Int32} {P : Nat → Nat → Option Nat} {N : Nat} {j : Nat} {x : Int32} (h : j < 4) : hAS 0 (Mh D I P N) 70 (Int32.ofNat j) x = some (Mh D (u2 I 70 j x) P N) := by rw [wrA hN70 (n := 4) rfl rfl, mib_N h (by decide), iN_cl (by omega)]; rfl
theorem rr71 {D : Nat → Nat × Nat} {I : Nat → Nat → Int32} {P : Nat → Nat → Option Nat} {N : Nat} {j : Nat} (h : j < 12) : hAI 0 (Mh D I P N) 71 (Int32.ofNat j) = some (I 71 j) := by rw [rdA hN71 (n := 12) rfl rfl, mib_N h (by decide), iN_cl (by omega)]; rfl
theorem ww71 {D : Nat → Nat × Nat} {I : Nat → Nat → Int32} {P : Nat → Nat → Option Nat} {N : Nat} {j : Nat} {x : Int32} (h : j < 12) : hAS 0 (Mh D I P N) 71 (Int32.ofNat j) x = some (Mh D (u2 I 71 j x) P N) := by rw [wrA hN71 (n := 12) rfl rfl, mib_N h (by decide), iN_cl (by omega)]; rfl
theorem rr72 {D : Nat → Nat × Nat} {I : Nat → Nat → Int32} {P : Nat → Nat → Option Nat} {N : Nat} {j : Nat} (h : j < 200) : hAI 0 (Mh D I P N) 72 (Int32.ofNat j) = some (I 72 j) := by rw [rdA hN72 (n := 200) rfl rfl, mib_N h (by decide), iN_cl (by omega)]; rfl
theorem ww72 {D : Nat → Nat × Nat} {I : Nat → Nat → Int32} {P : Nat → Nat → Option Nat} {N : Nat} {j : Nat} {x : Int32} (h : j < 200) : hAS 0 (Mh D I P N) 72 (Int32.ofNat j) x = some (Mh D (u2 I 72 j x) P N) := by rw [wrA hN72 (n := 200) rfl rfl, mib_N h (by decide), iN_cl (by omega)]; rfl
theorem rr75 {D : Nat → Nat × Nat} {I : Nat → Nat → Int32} {P : Nat → Nat → Option Nat} {N : Nat} {j : Nat} (h : j < 160) : hAI 0 (Mh D I P N) 75 (Int32.ofNat j) = some (I 75 j) := by rw [rdA hN75 (n := 160) rfl rfl, mib_N h (by decide), iN_cl (by omega)]; rfl
theorem ww75 {D : Nat → Nat × Nat} {I : Nat → Nat → Int32} {P : Nat → Nat → Option Nat} {N : Nat} {j : Nat} {x : Int32} (h : j < 160) : hAS 0 (Mh D I P N) 75 (Int32.ofNat j) x = some (Mh D (u2 I 75 j x) P N) := by rw [wrA hN75 (n := 160) rfl rfl, mib_N h (by decide), iN_cl (by omega)]; rfl
section Abs
variable (s : Nat → Int32)
def ctA : Nat := (s 0).toNatClampNeg
def ctR : Nat := (s 1).toNatClampNeg
def ctL : Nat := (s 2).toNatClampNeg
def ctE : Nat := (s 3).toNatClampNeg
def endF : Nat → Nat → Int32 → Int32
  | _, 0, e => e
  | i, k + 1, e => endF (i + 1) k (e + s (52 + 2 * i))
def endV : Int32 := endF s 0 (ctL s) 0
def ovV : Bool := decide (endV s ≤ s 4)
def legF : Nat → Nat → Int32 → Nat
  | i, 0, _ => i
  | i, k + 1, e => if e + s (52 + 2 * i) ≤ s 4 then legF (i + 1) k (e + s (52 + 2 * i)) else i
def legN : Nat := legF s 0 (ctL s) 0
def moodV : Int32 := if ctL s ≤ legN s then 0 else s (52 + 2 * legN s + 1)
def undV (kind as : Int32) : Bool := decide (as = 0) || decide (kind = as) || (decide (as = 2) && decide (kind = 3)) || (decide (as = 4) && decide (kind = 5))
def fctV (a : Nat) (c : Int32) : Int32 := if c = -1 then Int32.ofNat (legN s) else if c = -2 then moodV s else if c = -3 then s (7 + 5 * a + 4) else if c = -4 then s 5 else if c = -5 then Int32.ofNat a else c
def hldC (c x y : Int32) : Bool := if c = -11 then decide (x < y) else if c = -12 then decide (x = y) else if c = -13 then decide (y < x) else if c = -21 then decide (x = 1) && decide (y = 1) else decide (x = 1) || decide (y = 1)
def stpC (f : Int32 → Int32) (c : Int32) (st : List Int32) : Option (List Int32) :=
  if -10 < c then (if st.length < 12 then some (f c :: st) else none)
  else if c = -20 then (match st with | x :: t => some ((1 - x) :: t) | _ => none)
  else match st with | y :: x :: t => some (bI (hldC c x y) :: t) | _ => none
def runC (f : Int32 → Int32) (cs : Nat → Int32) : Nat → Nat → List Int32 → Option (List Int32)
  | _, 0, st => some st
  | i, k + 1, st => (stpC f (cs i) st).bind (runC f cs (i + 1) k)
def soV (f t a : Nat) : Bool := match runC (fctV s a) (fun k => s (118 + k)) f (t - f) [] with
  | some [] => true
  | some st => decide (st.getLast? = some 1)
  | none => false
def rulF (a : Nat) : Nat → Nat → Nat → Option Nat
  | _, 0, _ => none
  | k, m + 1, f => if undV (s (7 + 5 * a)) (s (86 + 4 * k)) && soV s f (s (86 + 4 * k + 3)).toNatClampNeg a then some k else rulF a (k + 1) m (s (86 + 4 * k + 3)).toNatClampNeg
def hR0 (a : Nat) (r : Option Nat) : Int32 := match r with
  | none => s (7 + 5 * a + 1)
  | some k => if s (86 + 4 * k + 1) = 0 then s (7 + 5 * a + 1) + s (86 + 4 * k + 2) else if s (86 + 4 * k + 1) = 1 then s (7 + 5 * a + 1) - s (86 + 4 * k + 2) else if s (86 + 4 * k + 1) = 2 then 0 else s (7 + 5 * a + 1)
def hRl (a : Nat) (r : Option Nat) : Int32 := if 0 ≤ hR0 s a r then hR0 s a r else 0
def lstV (kind h mood told : Int32) : Int32 :=
  if kind = 1 then h / (1 + told) else if kind = 2 then (if mood = 2 then h + 5 else h) else if kind = 3 then (if mood = 2 then h + 5 else h) - 2 * told else if kind = 4 then (if mood = 1 then h / 2 else h) else 2 * (if mood = 1 then h / 2 else h)
def hl1 (a : Nat) (r : Option Nat) : Int32 := lstV (s (7 + 5 * a)) (hRl s a r) (moodV s) (s (7 + 5 * a + 4))
def hl2 (a : Nat) (r : Option Nat) : Int32 := if 1 ≤ hl1 s a r then hl1 s a r else 1
def hldV (a : Nat) : Int32 := hl2 s a (rulF s a 0 (ctR s) 0)
def canV (a : Nat) : Bool := !ovV s && decide (s (7 + 5 * a + 4) < s (7 + 5 * a + 3)) && decide (s (7 + 5 * a + 2) ≤ s 5)
def pasV (a : Nat) : Int32 := if endV s - s 4 ≤ hldV s a then endV s - s 4 else hldV s a
def telS (a : Nat) : Nat → Int32 := upd (upd (upd s 4 (s 4 + pasV s a)) 5 (s 5 - s (7 + 5 * a + 2))) (7 + 5 * a + 4) (s (7 + 5 * a + 4) + 1)
/-- the row is a ride's; LEFT at most m -/
def Gd (m : Int) : Prop := (bt (s 0) 0 9 = true ∧ bt (s 1) 0 8 = true ∧ bt (s 2) 0 8 = true ∧ bt (s 3) 0 6 = true ∧ bt (s 4) 0 800 = true ∧ bt (s 5) 0 100 = true)
  ∧ (∀ i, i < ctA s → bt (s (7 + 5 * i)) 1 5 = true ∧ bt (s (7 + 5 * i + 1)) 1 60 = true ∧ bt (s (7 + 5 * i + 2)) 0 100 = true ∧ bt (s (7 + 5 * i + 3)) 0 m = true ∧ bt (s (7 + 5 * i + 4)) 0 10 = true)
  ∧ (∀ k, k < ctL s → bt (s (52 + 2 * k)) 1 99 = true ∧ bt (s (52 + 2 * k + 1)) 0 2 = true)
def enN (k : Nat) : Nat := (s (86 + 4 * k + 3)).toNatClampNeg
def frm (k : Nat) : Nat := match k with | 0 => 0 | k + 1 => enN s k
/-- the rules' codes are well made -/
def RuOK : Prop := ∀ k, k < ctR s → bt (s (86 + 4 * k)) 0 5 = true ∧ bt (s (86 + 4 * k + 1)) 0 2 = true ∧ bt (s (86 + 4 * k + 2)) 0 99 = true ∧ bt (s (86 + 4 * k + 3)) 0 202 = true ∧ frm s k ≤ enN s k
  ∧ ∀ f : Int32 → Int32, ∃ st, runC f (fun j => s (118 + j)) (frm s k) (enN s k - frm s k) [] = some st ∧ st.length ≤ 1
def Ok (m : Int) : Prop := Gd s m ∧ RuOK s
end Abs
