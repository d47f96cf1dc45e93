/-! the host: shelves -/
def okS (s : Nat → Int32) (a w n : Int32) : Bool := bt a 0 3 && ((decide (w = 0) && isA s n) || (decide (w = 1) && bt n 0 3) || decide (w = 2))
def sh76 (I : Nat → Nat → Int32) (w n : Int32) : Int32 := if w = 0 then 1 else if w = 1 then (if I 73 n.toNatClampNeg < 0 then 0 else 2) else 0
def sh77 (I : Nat → Nat → Int32) (w n : Int32) : Int32 := if w = 0 then n else if w = 1 then I 74 n.toNatClampNeg else 0
def sh78 (I : Nat → Nat → Int32) (w n : Int32) : Int32 := if w = 1 then I 73 n.toNatClampNeg else 0
def sh62 (I : Nat → Nat → Int32) (w n : Int32) : Int32 := if w = 0 then -2 else if w = 1 then I 55 n.toNatClampNeg else -1
def sh63 (I : Nat → Nat → Int32) (w n : Int32) : Int32 := if w = 0 then n else if w = 1 then (if I 55 n.toNatClampNeg = -1 then 0 else I 56 n.toNatClampNeg) else 0
def shfM (I : Nat → Nat → Int32) (r : Nat) (w n : Int32) : Nat → Nat → Int32 := u2 (u2 (u2 I 76 r (sh76 I w n)) 77 r (sh77 I w n)) 78 r (sh78 I w n)
def shfC (I : Nat → Nat → Int32) (r : Nat) (w n : Int32) : Nat → Nat → Int32 := u2 (u2 I 62 r (sh62 I w n)) 63 r (sh63 I w n)
def onS (s : Nat → Int32) (x y : Int32) : Bool := decide (x = 1) && isA s y
def takV (s : Nat → Int32) (a b x y z : Int32) : Int32 := if (bt a 0 3 && (bt b 0 5 || bt b 10 14)) = true then (if onS s x y = true then (if (bt b 0 5 && undV (s (7 + 5 * y.toNatClampNeg)) b) = true then y else -13) else if x = 2 then (if b - 10 = z then y else -13) else -11) else -1
def takC (s : Nat → Int32) (a b u v : Int32) : Int32 := if (bt a 0 3 && (bt b 0 5 || bt b 10 14)) = true then (if u < 0 then (if (decide (u = -2) && isA s v) = true then (if (!bt b 10 14 && undV (s (7 + 5 * v.toNatClampNeg)) b) = true then v else -13) else -11) else (if (bt b 10 14 && decide (u = b - 10)) = true then v else -13)) else -1
section Shelf
variable {X : mX} {d : Nat} {D : Nat → Nat × Nat} {I : Nat → Nat → Int32} {P : Nat → Nat → Option Nat} {N : Nat} {h : mH} {s g S r w f : Nat → Int32} {J J' : Nat → Nat → Int32} {ra : Nat → Nat} {L : List Nat} {m : Int} {i j k n p q t r0 : Nat} {x y z v a b c e l u : Int32}
theorem bt02 (h : bt x 0 2 = true) : x = 0 ∨ x = 1 ∨ x = 2 := by
  have h2 := bt_iff.mp h
  rw [← Int32.toInt_inj, ← Int32.toInt_inj, ← Int32.toInt_inj]
  show x.toInt = 0 ∨ x.toInt = 1 ∨ x.toInt = 2
  omega
theorem bt02n (h : bt x 0 2 = false) : ¬ x = 0 ∧ ¬ x = 1 ∧ ¬ x = 2 := by
  refine ⟨?_, ?_, ?_⟩ <;> intro e <;> rw [e] at h <;> exact absurd h (by decide)
theorem F_shf (gd : Gd (I 66) m) : Rn X (d + 40) 263 0 [.ref 65, .int a, .int b, .int c] [] (Mh D I P N) = some ([.int (if okS (I 66) a b c = true then 1 else -1)], Mh D (if okS (I 66) a b c = true then shfM I a.toNatClampNeg b c else I) P N) := by
  have n01 : ¬ (0 : Int32) = 1 := by decide
  have n10 : ¬ (1 : Int32) = 0 := by decide
  have n20 : ¬ (2 : Int32) = 0 := by decide
  have n21 : ¬ (2 : Int32) = 1 := by decide
  simp only [B263_0, M_one, Option.bind_some, List.append_nil, List.nil_append, List.cons_append, cond_true, cond_false, if_true, if_false, ite_true, ite_false, reduceIte, IC, bI_0, bI_1, bF, Bool.not_eq_false, Bool.not_eq_true, Bool.and_true, Bool.true_and, Bool.and_false, Bool.false_and, Bool.true_or, Bool.or_true, Bool.or_false, Bool.false_or, Bool.not_true, Bool.not_false, decide_true, decide_false, not_true_eq_false, not_false_eq_true, eq_self, Bool.true_eq_false, Bool.false_eq_true, B263_4]
  unfold okS
  cases h1 : bt a 0 3 with
  | false => simp only [Option.bind_some, List.append_nil, List.nil_append, List.cons_append, cond_true, cond_false, if_true, if_false, ite_true, ite_false, reduceIte, IC, bI_0, bI_1, bF, Bool.not_eq_false, Bool.not_eq_true, Bool.and_true, Bool.true_and, Bool.and_false, Bool.false_and, Bool.true_or, Bool.or_true, Bool.or_false, Bool.false_or, Bool.not_true, Bool.not_false, decide_true, decide_false, not_true_eq_false, not_false_eq_true, eq_self, Bool.true_eq_false, Bool.false_eq_true, B263_43]
  | true =>
    simp only [Option.bind_some, List.append_nil, List.nil_append, List.cons_append, cond_true, cond_false, if_true, if_false, ite_true, ite_false, reduceIte, IC, bI_0, bI_1, bF, Bool.not_eq_false, Bool.not_eq_true, Bool.and_true, Bool.true_and, Bool.and_false, Bool.false_and, Bool.true_or, Bool.or_true, Bool.or_false, Bool.false_or, Bool.not_true, Bool.not_false, decide_true, decide_false, not_true_eq_false, not_false_eq_true, eq_self, Bool.true_eq_false, Bool.false_eq_true, M_bt, L64, B263_16]
    cases h2 : bt b 0 2 with
    | false =>
      obtain ⟨m0, m1, m2⟩ := bt02n h2
      simp only [Option.bind_some, List.append_nil, List.nil_append, List.cons_append, cond_true, cond_false, if_true, if_false, ite_true, ite_false, reduceIte, IC, bI_0, bI_1, bF, Bool.not_eq_false, Bool.not_eq_true, Bool.and_true, Bool.true_and, Bool.and_false, Bool.false_and, Bool.true_or, Bool.or_true, Bool.or_false, Bool.false_or, Bool.not_true, Bool.not_false, decide_true, decide_false, not_true_eq_false, not_false_eq_true, eq_self, Bool.true_eq_false, Bool.false_eq_true, B263_43, m0, m1, m2]
    | true =>
      obtain ⟨r0, hr, rfl⟩ := bt03 h1
      have e0 : (Int32.ofNat r0).toNatClampNeg = r0 := iN_cl (by omega)
      have hm := mib_N (j := r0) (n := 4) (by omega) (by decide)
      have w76 : ∀ I x, hAS 0 (Mh D I P N) 76 (Int32.ofNat r0) x = some (Mh D (u2 I 76 r0 x) P N) := fun I x => ww76 hr
      have w77 : ∀ I x, hAS 0 (Mh D I P N) 77 (Int32.ofNat r0) x = some (Mh D (u2 I 77 r0 x) P N) := fun I x => ww77 hr
      have w78 : ∀ I x, hAS 0 (Mh D I P N) 78 (Int32.ofNat r0) x = some (Mh D (u2 I 78 r0 x) P N) := fun I x => ww78 hr
      rcases bt02 h2 with rfl | rfl | rfl
      · simp only [Option.bind_some, List.append_nil, List.nil_append, List.cons_append, cond_true, cond_false, if_true, if_false, ite_true, ite_false, reduceIte, IC, bI_0, bI_1, bF, Bool.not_eq_false, Bool.not_eq_true, Bool.and_true, Bool.true_and, Bool.and_false, Bool.false_and, Bool.true_or, Bool.or_true, Bool.or_false, Bool.false_or, Bool.not_true, Bool.not_false, decide_true, decide_false, not_true_eq_false, not_false_eq_true, eq_self, Bool.true_eq_false, Bool.false_eq_true, IC, M_isA gd, B263_28, B263_31, n01, n10]
        cases h3 : isA (I 66) c with
        | false => simp +decide only [Option.bind_some, List.append_nil, List.nil_append, List.cons_append, cond_true, cond_false, if_true, if_false, ite_true, ite_false, reduceIte, IC, bI_0, bI_1, bF, Bool.not_eq_false, Bool.not_eq_true, Bool.and_true, Bool.true_and, Bool.and_false, Bool.false_and, Bool.true_or, Bool.or_true, Bool.or_false, Bool.false_or, Bool.not_true, Bool.not_false, decide_true, decide_false, not_true_eq_false, not_false_eq_true, eq_self, Bool.true_eq_false, Bool.false_eq_true, B263_43, B263_31]
        | true =>
          simp only [Option.bind_some, List.append_nil, List.nil_append, List.cons_append, cond_true, cond_false, if_true, if_false, ite_true, ite_false, reduceIte, IC, bI_0, bI_1, bF, Bool.not_eq_false, Bool.not_eq_true, Bool.and_true, Bool.true_and, Bool.and_false, Bool.false_and, Bool.true_or, Bool.or_true, Bool.or_false, Bool.false_or, Bool.not_true, Bool.not_false, decide_true, decide_false, not_true_eq_false, not_false_eq_true, eq_self, Bool.true_eq_false, Bool.false_eq_true, B263_31, n01, B263_45, RDm, B263_77, w76, B263_106, w77, B263_127, w78, e0, shfM, sh76, sh77, sh78]
      · simp only [Option.bind_some, List.append_nil, List.nil_append, List.cons_append, cond_true, cond_false, if_true, if_false, ite_true, ite_false, reduceIte, IC, bI_0, bI_1, bF, Bool.not_eq_false, Bool.not_eq_true, Bool.and_true, Bool.true_and, Bool.and_false, Bool.false_and, Bool.true_or, Bool.or_true, Bool.or_false, Bool.false_or, Bool.not_true, Bool.not_false, decide_true, decide_false, not_true_eq_false, not_false_eq_true, eq_self, Bool.true_eq_false, Bool.false_eq_true, n01, n10, B263_31, M_one, B263_40]
        cases h3 : bt c 0 3 with
        | false => simp +decide only [Option.bind_some, List.append_nil, List.nil_append, List.cons_append, cond_true, cond_false, if_true, if_false, ite_true, ite_false, reduceIte, IC, bI_0, bI_1, bF, Bool.not_eq_false, Bool.not_eq_true, Bool.and_true, Bool.true_and, Bool.and_false, Bool.false_and, Bool.true_or, Bool.or_true, Bool.or_false, Bool.false_or, Bool.not_true, Bool.not_false, decide_true, decide_false, not_true_eq_false, not_false_eq_true, eq_self, Bool.true_eq_false, Bool.false_eq_true, B263_43]
        | true =>
          obtain ⟨r1, hr1, rfl⟩ := bt03 h3
          have e1 : (Int32.ofNat r1).toNatClampNeg = r1 := iN_cl (by omega)
          have hm1 := mib_N (j := r1) (n := 4) (by omega) (by decide)
          have o73 : ∀ x, u2 I 76 r0 x 73 = I 73 := fun x => u2_o (by decide)
          have o74 : ∀ x, u2 I 76 r0 x 74 = I 74 := fun x => u2_o (by decide)
          have p73 : ∀ x y, u2 (u2 I 76 r0 x) 77 r0 y 73 = I 73 := fun x y => by rw [u2_o (by decide), u2_o (by decide)]
          simp only [Option.bind_some, List.append_nil, List.nil_append, List.cons_append, cond_true, cond_false, if_true, if_false, ite_true, ite_false, reduceIte, IC, bI_0, bI_1, bF, Bool.not_eq_false, Bool.not_eq_true, Bool.and_true, Bool.true_and, Bool.and_false, Bool.false_and, Bool.true_or, Bool.or_true, Bool.or_false, Bool.false_or, Bool.not_true, Bool.not_false, decide_true, decide_false, not_true_eq_false, not_false_eq_true, eq_self, Bool.true_eq_false, Bool.false_eq_true, B263_45, RDm, hm1, e1, n10]
          by_cases hx : I 73 r1 < 0
          · simp only [hx, Option.bind_some, List.append_nil, List.nil_append, List.cons_append, cond_true, cond_false, if_true, if_false, ite_true, ite_false, reduceIte, IC, bI_0, bI_1, bF, Bool.not_eq_false, Bool.not_eq_true, Bool.and_true, Bool.true_and, Bool.and_false, Bool.false_and, Bool.true_or, Bool.or_true, Bool.or_false, Bool.false_or, Bool.not_true, Bool.not_false, decide_true, decide_false, not_true_eq_false, not_false_eq_true, eq_self, Bool.true_eq_false, Bool.false_eq_true, B263_76, B263_77, w76, RDm, hm1, e1, n10, o73, o74, p73, B263_106, w77, B263_127, w78, e0, shfM, sh76, sh77, sh78]
          · simp only [hx, Option.bind_some, List.append_nil, List.nil_append, List.cons_append, cond_true, cond_false, if_true, if_false, ite_true, ite_false, reduceIte, IC, bI_0, bI_1, bF, Bool.not_eq_false, Bool.not_eq_true, Bool.and_true, Bool.true_and, Bool.and_false, Bool.false_and, Bool.true_or, Bool.or_true, Bool.or_false, Bool.false_or, Bool.not_true, Bool.not_false, decide_true, decide_false, not_true_eq_false, not_false_eq_true, eq_self, Bool.true_eq_false, Bool.false_eq_true, B263_77, w76, RDm, hm1, e1, n10, o73, o74, p73, B263_106, w77, B263_127, w78, e0, shfM, sh76, sh77, sh78]
      · simp only [Option.bind_some, List.append_nil, List.nil_append, List.cons_append, cond_true, cond_false, if_true, if_false, ite_true, ite_false, reduceIte, IC, bI_0, bI_1, bF, Bool.not_eq_false, Bool.not_eq_true, Bool.and_true, Bool.true_and, Bool.and_false, Bool.false_and, Bool.true_or, Bool.or_true, Bool.or_false, Bool.false_or, Bool.not_true, Bool.not_false, decide_true, decide_false, not_true_eq_false, not_false_eq_true, eq_self, Bool.true_eq_false, Bool.false_eq_true, n20, n21, B263_31, B263_45, RDm, B263_76, B263_77, w76, B263_106, w77, B263_127, w78, e0, shfM, sh76, sh77, sh78]
theorem C_isf : Rn X d 15 0 [.ref 54, .int x] [] h = some ([.int (bI (bt x 0 3))], h) := by
  rw [B15_0, B15_13, B15_14, B15_14]
  unfold bt
  by_cases h1 : x < 0
  · have := Int32.lt_iff_toInt_lt.mp h1
    rw [z_ti] at this
    rw [if_pos h1, decide_eq_false (show ¬ (0 : Int) ≤ x.toInt by omega)]; rfl
  · have q : ¬ x.toInt < 0 := fun q => h1 (Int32.lt_iff_toInt_lt.mpr (by rw [z_ti]; exact q))
    rw [if_neg h1, decide_eq_true (show (0 : Int) ≤ x.toInt by omega)]
    by_cases h2 : 4 ≤ x
    · have := Int32.le_iff_toInt_le.mp h2
      rw [show (4 : Int32).toInt = 4 from rfl] at this
      rw [if_pos h2, decide_eq_false (show ¬ x.toInt ≤ 3 by omega)]; rfl
    · have q2 : ¬ 4 ≤ x.toInt := fun q => h2 (Int32.le_iff_toInt_le.mpr q)
      rw [if_neg h2, decide_eq_true (show x.toInt ≤ 3 by omega)]; rfl
theorem b3 (hr : j < 4) : bt (Int32.ofNat j) 0 3 = true := bt_iff.mpr (by rw [iN_ti (by omega)]; omega)
theorem N_shf (gd : Gd s m) (hr : RideR s D I P N 1 ra) (hH : ∀ r, r < 4 → bt (I 55 r) (-1) 4 = true ∧ bt (I 56 r) 0 40 = true) : Rn X (d + 40) 149 0 [.ref 0, .int a, .int b, .int c] [] (Mh D I P N) = some ([.int (if okS s a b c = true then 1 else -1)], Mh D (if okS s a b c = true then shfC I a.toNatClampNeg b c else I) P N) := by
  have n01 : ¬ (0 : Int32) = 1 := by decide
  have n02 : ¬ (0 : Int32) = 2 := by decide
  have n10 : ¬ (1 : Int32) = 0 := by decide
  have n12 : ¬ (1 : Int32) = 2 := by decide
  have n20 : ¬ (2 : Int32) = 0 := by decide
  have n21 : ¬ (2 : Int32) = 1 := by decide
  simp only [B149_0, RDc, IC, C_isf, Option.bind_some, List.append_nil, List.nil_append, List.cons_append, cond_true, cond_false, if_true, if_false, ite_true, ite_false, reduceIte, IC, bI_0, bI_1, bF, Bool.not_eq_false, Bool.not_eq_true, Bool.and_true, Bool.true_and, Bool.and_false, Bool.false_and, Bool.true_or, Bool.or_true, Bool.or_false, Bool.false_or, Bool.not_true, Bool.not_false, decide_true, decide_false, not_true_eq_false, not_false_eq_true, eq_self, Bool.true_eq_false, Bool.false_eq_true, B149_8]
  unfold okS
  cases h1 : bt a 0 3 with
  | false => simp only [Option.bind_some, List.append_nil, List.nil_append, List.cons_append, cond_true, cond_false, if_true, if_false, ite_true, ite_false, reduceIte, IC, bI_0, bI_1, bF, Bool.not_eq_false, Bool.not_eq_true, Bool.and_true, Bool.true_and, Bool.and_false, Bool.false_and, Bool.true_or, Bool.or_true, Bool.or_false, Bool.false_or, Bool.not_true, Bool.not_false, decide_true, decide_false, not_true_eq_false, not_false_eq_true, eq_self, Bool.true_eq_false, Bool.false_eq_true]
  | true =>
    obtain ⟨r0, hr0, rfl⟩ := bt03 h1
    have e0 : (Int32.ofNat r0).toNatClampNeg = r0 := iN_cl (by omega)
    have w := ww55 (D := D) (P := P) (N := N) (j := r0) hr0
    by_cases hb0 : b = 0
    · subst hb0
      simp only [Option.bind_some, List.append_nil, List.nil_append, List.cons_append, cond_true, cond_false, if_true, if_false, ite_true, ite_false, reduceIte, IC, bI_0, bI_1, bF, Bool.not_eq_false, Bool.not_eq_true, Bool.and_true, Bool.true_and, Bool.and_false, Bool.false_and, Bool.true_or, Bool.or_true, Bool.or_false, Bool.false_or, Bool.not_true, Bool.not_false, decide_true, decide_false, not_true_eq_false, not_false_eq_true, eq_self, Bool.true_eq_false, Bool.false_eq_true, RDc, IC, C_at gd hr, B149_25, n01, n02]
      unfold ansO
      cases h3 : isA s c with
      | false => simp only [Option.bind_some, List.append_nil, List.nil_append, List.cons_append, cond_true, cond_false, if_true, if_false, ite_true, ite_false, reduceIte, IC, bI_0, bI_1, bF, Bool.not_eq_false, Bool.not_eq_true, Bool.and_true, Bool.true_and, Bool.and_false, Bool.false_and, Bool.true_or, Bool.or_true, Bool.or_false, Bool.false_or, Bool.not_true, Bool.not_false, decide_true, decide_false, not_true_eq_false, not_false_eq_true, eq_self, Bool.true_eq_false, Bool.false_eq_true, oc_none, B149_40, n01, n02, B149_68]
      | true => simp only [Option.bind_some, List.append_nil, List.nil_append, List.cons_append, cond_true, cond_false, if_true, if_false, ite_true, ite_false, reduceIte, IC, bI_0, bI_1, bF, Bool.not_eq_false, Bool.not_eq_true, Bool.and_true, Bool.true_and, Bool.and_false, Bool.false_and, Bool.true_or, Bool.or_true, Bool.or_false, Bool.false_or, Bool.not_true, Bool.not_false, decide_true, decide_false, not_true_eq_false, not_false_eq_true, eq_self, Bool.true_eq_false, Bool.false_eq_true, oc_some, RDc, IC, B17_0, C_isf, h1, B17_5, w, B17_23, B149_37, B149_86, e0, shfC, sh62, sh63]
    by_cases hb1 : b = 1
    · subst hb1
      simp only [Option.bind_some, List.append_nil, List.nil_append, List.cons_append, cond_true, cond_false, if_true, if_false, ite_true, ite_false, reduceIte, IC, bI_0, bI_1, bF, Bool.not_eq_false, Bool.not_eq_true, Bool.and_true, Bool.true_and, Bool.and_false, Bool.false_and, Bool.true_or, Bool.or_true, Bool.or_false, Bool.false_or, Bool.not_true, Bool.not_false, decide_true, decide_false, not_true_eq_false, not_false_eq_true, eq_self, Bool.true_eq_false, Bool.false_eq_true, n10, n12, B149_40, RDc, IC, C_ish, B149_53]
      cases h3 : bt c 0 3 with
      | false => simp only [Option.bind_some, List.append_nil, List.nil_append, List.cons_append, cond_true, cond_false, if_true, if_false, ite_true, ite_false, reduceIte, IC, bI_0, bI_1, bF, Bool.not_eq_false, Bool.not_eq_true, Bool.and_true, Bool.true_and, Bool.and_false, Bool.false_and, Bool.true_or, Bool.or_true, Bool.or_false, Bool.false_or, Bool.not_true, Bool.not_false, decide_true, decide_false, not_true_eq_false, not_false_eq_true, eq_self, Bool.true_eq_false, Bool.false_eq_true, B149_68, n12]
      | true =>
        obtain ⟨r1, hr1, rfl⟩ := bt03 h3
        have e1 : (Int32.ofNat r1).toNatClampNeg = r1 := iN_cl (by omega)
        have o55 : ∀ x, u2 I 62 r0 x 55 = I 55 := fun x => u2_o (by decide)
        have o56 : ∀ x, u2 I 62 r0 x 56 = I 56 := fun x => u2_o (by decide)
        simp only [Option.bind_some, List.append_nil, List.nil_append, List.cons_append, cond_true, cond_false, if_true, if_false, ite_true, ite_false, reduceIte, IC, bI_0, bI_1, bF, Bool.not_eq_false, Bool.not_eq_true, Bool.and_true, Bool.true_and, Bool.and_false, Bool.false_and, Bool.true_or, Bool.or_true, Bool.or_false, Bool.false_or, Bool.not_true, Bool.not_false, decide_true, decide_false, not_true_eq_false, not_false_eq_true, eq_self, Bool.true_eq_false, Bool.false_eq_true, RDc, IC, B18_0, C_mis hr1, B18_5]
        by_cases hx : I 55 r1 = -1
        · simp only [hx, Option.bind_some, List.append_nil, List.nil_append, List.cons_append, cond_true, cond_false, if_true, if_false, ite_true, ite_false, reduceIte, IC, bI_0, bI_1, bF, Bool.not_eq_false, Bool.not_eq_true, Bool.and_true, Bool.true_and, Bool.and_false, Bool.false_and, Bool.true_or, Bool.or_true, Bool.or_false, Bool.false_or, Bool.not_true, Bool.not_false, decide_true, decide_false, not_true_eq_false, not_false_eq_true, eq_self, Bool.true_eq_false, Bool.false_eq_true, IC, B16_0, C_isf, h1, B16_5, RDc, w, B16_22, B18_13, B18_48, B149_65, B149_86, e0, e1, shfC, sh62, sh63, n10]
        · simp only [hx, Option.bind_some, List.append_nil, List.nil_append, List.cons_append, cond_true, cond_false, if_true, if_false, ite_true, ite_false, reduceIte, IC, bI_0, bI_1, bF, Bool.not_eq_false, Bool.not_eq_true, Bool.and_true, Bool.true_and, Bool.and_false, Bool.false_and, Bool.true_or, Bool.or_true, Bool.or_false, Bool.false_or, Bool.not_true, Bool.not_false, decide_true, decide_false, not_true_eq_false, not_false_eq_true, eq_self, Bool.true_eq_false, Bool.false_eq_true, IC, C_isf, h1, B18_21, RDc, rw55 hr1, w, o55, o56, B18_48, B149_65, B149_86, e0, e1, shfC, sh62, sh63, n10]
    by_cases hb2 : b = 2
    · subst hb2
      simp only [Option.bind_some, List.append_nil, List.nil_append, List.cons_append, cond_true, cond_false, if_true, if_false, ite_true, ite_false, reduceIte, IC, bI_0, bI_1, bF, Bool.not_eq_false, Bool.not_eq_true, Bool.and_true, Bool.true_and, Bool.and_false, Bool.false_and, Bool.true_or, Bool.or_true, Bool.or_false, Bool.false_or, Bool.not_true, Bool.not_false, decide_true, decide_false, not_true_eq_false, not_false_eq_true, eq_self, Bool.true_eq_false, Bool.false_eq_true, n20, n21, B149_40, B149_68, RDc, IC, B16_0, C_isf, h1, B16_5, w, B16_22, B149_81, B149_86, e0, shfC, sh62, sh63]
    · simp only [hb0, hb1, hb2, Option.bind_some, List.append_nil, List.nil_append, List.cons_append, cond_true, cond_false, if_true, if_false, ite_true, ite_false, reduceIte, IC, bI_0, bI_1, bF, Bool.not_eq_false, Bool.not_eq_true, Bool.and_true, Bool.true_and, Bool.and_false, Bool.false_and, Bool.true_or, Bool.or_true, Bool.or_false, Bool.false_or, Bool.not_true, Bool.not_false, decide_true, decide_false, not_true_eq_false, not_false_eq_true, eq_self, Bool.true_eq_false, Bool.false_eq_true, B149_40, B149_68]
theorem M_ons (gd : Gd (I 66) m) : Rn X (d + 2) 264 0 [.ref 65, .int a] [] (Mh D I P N) = some ([.int (if (bt a 0 3 && onS (I 66) (I 76 a.toNatClampNeg) (I 77 a.toNatClampNeg)) = true then I 77 a.toNatClampNeg else -1)], Mh D I P N) := by
  simp only [B264_0, M_one, Option.bind_some, List.append_nil, List.nil_append, List.cons_append, cond_true, cond_false, if_true, if_false, ite_true, ite_false, reduceIte, IC, bI_0, bI_1, bF, Bool.not_eq_false, Bool.not_eq_true, Bool.and_true, Bool.true_and, Bool.and_false, Bool.false_and, Bool.true_or, Bool.or_true, Bool.or_false, Bool.false_or, Bool.not_true, Bool.not_false, decide_true, decide_false, not_true_eq_false, not_false_eq_true, eq_self, Bool.true_eq_false, Bool.false_eq_true, B264_4]
  unfold onS
  cases h1 : bt a 0 3 with
  | false => simp only [Option.bind_some, List.append_nil, List.nil_append, List.cons_append, cond_true, cond_false, if_true, if_false, ite_true, ite_false, reduceIte, IC, bI_0, bI_1, bF, Bool.not_eq_false, Bool.not_eq_true, Bool.and_true, Bool.true_and, Bool.and_false, Bool.false_and, Bool.true_or, Bool.or_true, Bool.or_false, Bool.false_or, Bool.not_true, Bool.not_false, decide_true, decide_false, not_true_eq_false, not_false_eq_true, eq_self, Bool.true_eq_false, Bool.false_eq_true, B264_39, B264_40]
  | true =>
    obtain ⟨r0, hr, rfl⟩ := bt03 h1
    have e0 : (Int32.ofNat r0).toNatClampNeg = r0 := iN_cl (by omega)
    have hm := mib_N (j := r0) (n := 4) (by omega) (by decide)
    simp only [Option.bind_some, List.append_nil, List.nil_append, List.cons_append, cond_true, cond_false, if_true, if_false, ite_true, ite_false, reduceIte, IC, bI_0, bI_1, bF, Bool.not_eq_false, Bool.not_eq_true, Bool.and_true, Bool.true_and, Bool.and_false, Bool.false_and, Bool.true_or, Bool.or_true, Bool.or_false, Bool.false_or, Bool.not_true, Bool.not_false, decide_true, decide_false, not_true_eq_false, not_false_eq_true, eq_self, Bool.true_eq_false, Bool.false_eq_true, RDm, hm, e0]
    by_cases hx : I 76 r0 = 1
    · simp only [hx, Option.bind_some, List.append_nil, List.nil_append, List.cons_append, cond_true, cond_false, if_true, if_false, ite_true, ite_false, reduceIte, IC, bI_0, bI_1, bF, Bool.not_eq_false, Bool.not_eq_true, Bool.and_true, Bool.true_and, Bool.and_false, Bool.false_and, Bool.true_or, Bool.or_true, Bool.or_false, Bool.false_or, Bool.not_true, Bool.not_false, decide_true, decide_false, not_true_eq_false, not_false_eq_true, eq_self, Bool.true_eq_false, Bool.false_eq_true, IC, M_isA gd, B264_27]
      cases isA (I 66) (I 77 r0) with
      | false => simp only [Option.bind_some, List.append_nil, List.nil_append, List.cons_append, cond_true, cond_false, if_true, if_false, ite_true, ite_false, reduceIte, IC, bI_0, bI_1, bF, Bool.not_eq_false, Bool.not_eq_true, Bool.and_true, Bool.true_and, Bool.and_false, Bool.false_and, Bool.true_or, Bool.or_true, Bool.or_false, Bool.false_or, Bool.not_true, Bool.not_false, decide_true, decide_false, not_true_eq_false, not_false_eq_true, eq_self, Bool.true_eq_false, Bool.false_eq_true, B264_39, B264_40]
      | true => simp only [Option.bind_some, List.append_nil, List.nil_append, List.cons_append, cond_true, cond_false, if_true, if_false, ite_true, ite_false, reduceIte, IC, bI_0, bI_1, bF, Bool.not_eq_false, Bool.not_eq_true, Bool.and_true, Bool.true_and, Bool.and_false, Bool.false_and, Bool.true_or, Bool.or_true, Bool.or_false, Bool.false_or, Bool.not_true, Bool.not_false, decide_true, decide_false, not_true_eq_false, not_false_eq_true, eq_self, Bool.true_eq_false, Bool.false_eq_true, RDm, hm, e0, B264_40]
    · simp only [hx, Option.bind_some, List.append_nil, List.nil_append, List.cons_append, cond_true, cond_false, if_true, if_false, ite_true, ite_false, reduceIte, IC, bI_0, bI_1, bF, Bool.not_eq_false, Bool.not_eq_true, Bool.and_true, Bool.true_and, Bool.and_false, Bool.false_and, Bool.true_or, Bool.or_true, Bool.or_false, Bool.false_or, Bool.not_true, Bool.not_false, decide_true, decide_false, not_true_eq_false, not_false_eq_true, eq_self, Bool.true_eq_false, Bool.false_eq_true, B264_39, B264_40]
theorem F_tkn (gd : Gd (I 66) m) (hs : ∀ r, r < 4 → I 76 r = 0 ∨ I 76 r = 1 ∨ I 76 r = 2) (hu : ∀ r, r < 4 → I 76 r = 1 → isA (I 66) (I 77 r) = true → bt (I 77 r) 0 8 = true) : Rn X (d + 40) 265 0 [.ref 65, .int a, .int b, U_, U_] [] (Mh D I P N) = some ([.int (takV (I 66) a b (I 76 a.toNatClampNeg) (I 77 a.toNatClampNeg) (I 78 a.toNatClampNeg))], Mh D I P N) := by
  simp only [B265_0, M_one, Option.bind_some, List.append_nil, List.nil_append, List.cons_append, cond_true, cond_false, if_true, if_false, ite_true, ite_false, reduceIte, IC, bI_0, bI_1, bF, Bool.not_eq_false, Bool.not_eq_true, Bool.and_true, Bool.true_and, Bool.and_false, Bool.false_and, Bool.true_or, Bool.or_true, Bool.or_false, Bool.false_or, Bool.not_true, Bool.not_false, decide_true, decide_false, not_true_eq_false, not_false_eq_true, eq_self, Bool.true_eq_false, Bool.false_eq_true, B265_4]
  unfold takV
  cases h1 : bt a 0 3 with
  | false => simp only [Option.bind_some, List.append_nil, List.nil_append, List.cons_append, cond_true, cond_false, if_true, if_false, ite_true, ite_false, reduceIte, IC, bI_0, bI_1, bF, Bool.not_eq_false, Bool.not_eq_true, Bool.and_true, Bool.true_and, Bool.and_false, Bool.false_and, Bool.true_or, Bool.or_true, Bool.or_false, Bool.false_or, Bool.not_true, Bool.not_false, decide_true, decide_false, not_true_eq_false, not_false_eq_true, eq_self, Bool.true_eq_false, Bool.false_eq_true, B265_33]
  | true =>
    obtain ⟨r0, hr, rfl⟩ := bt03 h1
    have e0 : (Int32.ofNat r0).toNatClampNeg = r0 := iN_cl (by omega)
    have hm := mib_N (j := r0) (n := 4) (by omega) (by decide)
    have go : (bt b 0 5 || bt b 10 14) = true → Rn X (d + 40) 265 35 [.ref 65, .int (Int32.ofNat r0), .int b, U_, U_] [] (Mh D I P N) = some ([.int (if onS (I 66) (I 76 r0) (I 77 r0) = true then (if (bt b 0 5 && undV (I 66 (7 + 5 * (I 77 r0).toNatClampNeg)) b) = true then I 77 r0 else -13) else if I 76 r0 = 2 then (if b - 10 = I 78 r0 then I 77 r0 else -13) else -11)], Mh D I P N) := by
      intro hb
      have ho := M_ons (X := X) (d := d + 37) (D := D) (I := I) (P := P) (N := N) (a := Int32.ofNat r0) gd
      rw [h1, e0] at ho
      simp only [B265_35, IC, Option.bind_some, List.append_nil, List.nil_append, List.cons_append, cond_true, cond_false, if_true, if_false, ite_true, ite_false, reduceIte, IC, bI_0, bI_1, bF, Bool.not_eq_false, Bool.not_eq_true, Bool.and_true, Bool.true_and, Bool.and_false, Bool.false_and, Bool.true_or, Bool.or_true, Bool.or_false, Bool.false_or, Bool.not_true, Bool.not_false, decide_true, decide_false, not_true_eq_false, not_false_eq_true, eq_self, Bool.true_eq_false, Bool.false_eq_true, ho, B265_40]
      cases hO : onS (I 66) (I 76 r0) (I 77 r0) with
      | false =>
        have nl : ¬ (0 : Int32) ≤ -1 := by decide
        have lt : (-1 : Int32) < 0 := by decide
        simp only [Option.bind_some, List.append_nil, List.nil_append, List.cons_append, cond_true, cond_false, if_true, if_false, ite_true, ite_false, reduceIte, IC, bI_0, bI_1, bF, Bool.not_eq_false, Bool.not_eq_true, Bool.and_true, Bool.true_and, Bool.and_false, Bool.false_and, Bool.true_or, Bool.or_true, Bool.or_false, Bool.false_or, Bool.not_true, Bool.not_false, decide_true, decide_false, not_true_eq_false, not_false_eq_true, eq_self, Bool.true_eq_false, Bool.false_eq_true, nl, RDm, hm, e0, B265_58, lt]
        rcases hs r0 hr with hx | hx | hx
        · have q1 : ¬ (2 : Int32) ≤ 0 := by decide
          have q2 : ¬ (0 : Int32) = 2 := by decide
          simp only [hx, q1, q2, Option.bind_some, List.append_nil, List.nil_append, List.cons_append, cond_true, cond_false, if_true, if_false, ite_true, ite_false, reduceIte, IC, bI_0, bI_1, bF, Bool.not_eq_false, Bool.not_eq_true, Bool.and_true, Bool.true_and, Bool.and_false, Bool.false_and, Bool.true_or, Bool.or_true, Bool.or_false, Bool.false_or, Bool.not_true, Bool.not_false, decide_true, decide_false, not_true_eq_false, not_false_eq_true, eq_self, Bool.true_eq_false, Bool.false_eq_true]
        · have q1 : ¬ (2 : Int32) ≤ 1 := by decide
          have q2 : ¬ (1 : Int32) = 2 := by decide
          simp only [hx, q1, q2, Option.bind_some, List.append_nil, List.nil_append, List.cons_append, cond_true, cond_false, if_true, if_false, ite_true, ite_false, reduceIte, IC, bI_0, bI_1, bF, Bool.not_eq_false, Bool.not_eq_true, Bool.and_true, Bool.true_and, Bool.and_false, Bool.false_and, Bool.true_or, Bool.or_true, Bool.or_false, Bool.false_or, Bool.not_true, Bool.not_false, decide_true, decide_false, not_true_eq_false, not_false_eq_true, eq_self, Bool.true_eq_false, Bool.false_eq_true]
        · have q1 : (2 : Int32) ≤ 2 := by decide
          simp only [hx, q1, Option.bind_some, List.append_nil, List.nil_append, List.cons_append, cond_true, cond_false, if_true, if_false, ite_true, ite_false, reduceIte, IC, bI_0, bI_1, bF, Bool.not_eq_false, Bool.not_eq_true, Bool.and_true, Bool.true_and, Bool.and_false, Bool.false_and, Bool.true_or, Bool.or_true, Bool.or_false, Bool.false_or, Bool.not_true, Bool.not_false, decide_true, decide_false, not_true_eq_false, not_false_eq_true, eq_self, Bool.true_eq_false, Bool.false_eq_true]
          by_cases hz : b - 10 = I 78 r0
          · have n10 : ¬ (1 : Int32) = 0 := by decide
            simp only [hz, Option.bind_some, List.append_nil, List.nil_append, List.cons_append, cond_true, cond_false, if_true, if_false, ite_true, ite_false, reduceIte, IC, bI_0, bI_1, bF, Bool.not_eq_false, Bool.not_eq_true, Bool.and_true, Bool.true_and, Bool.and_false, Bool.false_and, Bool.true_or, Bool.or_true, Bool.or_false, Bool.false_or, Bool.not_true, Bool.not_false, decide_true, decide_false, not_true_eq_false, not_false_eq_true, eq_self, Bool.true_eq_false, Bool.false_eq_true, B265_107, n10, RDm, hm, e0, B265_125]
          · simp only [hz, Option.bind_some, List.append_nil, List.nil_append, List.cons_append, cond_true, cond_false, if_true, if_false, ite_true, ite_false, reduceIte, IC, bI_0, bI_1, bF, Bool.not_eq_false, Bool.not_eq_true, Bool.and_true, Bool.true_and, Bool.and_false, Bool.false_and, Bool.true_or, Bool.or_true, Bool.or_false, Bool.false_or, Bool.not_true, Bool.not_false, decide_true, decide_false, not_true_eq_false, not_false_eq_true, eq_self, Bool.true_eq_false, Bool.false_eq_true, B265_107, B265_125]
      | true =>
        have hO2 := hO
        unfold onS at hO2
        simp only [Bool.and_eq_true, decide_eq_true_eq] at hO2
        have hbt := bt_iff.mp (hu r0 hr hO2.1 hO2.2)
        have e1 : I 77 r0 = Int32.ofNat (I 77 r0).toNatClampNeg := iN_of (by omega)
        have c1 := cl_ti (x := I 77 r0) (by omega)
        generalize hk : (I 77 r0).toNatClampNeg = kk at e1 c1
        have hle : (0 : Int32) ≤ Int32.ofNat kk := by rw [Int32.le_iff_toInt_le, iN_ti (by omega), z_ti]; omega
        have hnl : ¬ Int32.ofNat kk < 0 := iN_neg (by omega)
        have hit := M_its (X := X) (d := d + 38) (D := D) (I := I) (P := P) (N := N) (i := kk) (by omega)
        simp only [Option.bind_some, List.append_nil, List.nil_append, List.cons_append, cond_true, cond_false, if_true, if_false, ite_true, ite_false, reduceIte, IC, bI_0, bI_1, bF, Bool.not_eq_false, Bool.not_eq_true, Bool.and_true, Bool.true_and, Bool.and_false, Bool.false_and, Bool.true_or, Bool.or_true, Bool.or_false, Bool.false_or, Bool.not_true, Bool.not_false, decide_true, decide_false, not_true_eq_false, not_false_eq_true, eq_self, Bool.true_eq_false, Bool.false_eq_true, e1, hle, B265_58, hnl]
        cases h5 : bt b 0 5 with
        | true =>
          have h6 := bt_iff.mp h5
          have n6 : ¬ (6 : Int32) ≤ b := by rw [Int32.le_iff_toInt_le, show (6 : Int32).toInt = 6 from rfl]; omega
          simp only [n6, Option.bind_some, List.append_nil, List.nil_append, List.cons_append, cond_true, cond_false, if_true, if_false, ite_true, ite_false, reduceIte, IC, bI_0, bI_1, bF, Bool.not_eq_false, Bool.not_eq_true, Bool.and_true, Bool.true_and, Bool.and_false, Bool.false_and, Bool.true_or, Bool.or_true, Bool.or_false, Bool.false_or, Bool.not_true, Bool.not_false, decide_true, decide_false, not_true_eq_false, not_false_eq_true, eq_self, Bool.true_eq_false, Bool.false_eq_true, IC, hit, B265_74, M_und, B265_78]
          cases hU : undV (I 66 (7 + 5 * kk)) b with
          | false => simp only [Option.bind_some, List.append_nil, List.nil_append, List.cons_append, cond_true, cond_false, if_true, if_false, ite_true, ite_false, reduceIte, IC, bI_0, bI_1, bF, Bool.not_eq_false, Bool.not_eq_true, Bool.and_true, Bool.true_and, Bool.and_false, Bool.false_and, Bool.true_or, Bool.or_true, Bool.or_false, Bool.false_or, Bool.not_true, Bool.not_false, decide_true, decide_false, not_true_eq_false, not_false_eq_true, eq_self, Bool.true_eq_false, Bool.false_eq_true, B265_85, B265_107, B265_125]
          | true =>
            have n10 : ¬ (1 : Int32) = 0 := by decide
            simp only [Option.bind_some, List.append_nil, List.nil_append, List.cons_append, cond_true, cond_false, if_true, if_false, ite_true, ite_false, reduceIte, IC, bI_0, bI_1, bF, Bool.not_eq_false, Bool.not_eq_true, Bool.and_true, Bool.true_and, Bool.and_false, Bool.false_and, Bool.true_or, Bool.or_true, Bool.or_false, Bool.false_or, Bool.not_true, Bool.not_false, decide_true, decide_false, not_true_eq_false, not_false_eq_true, eq_self, Bool.true_eq_false, Bool.false_eq_true, B265_107, n10, RDm, hm, e0, B265_125, e1]
        | false =>
          rw [h5, Bool.false_or] at hb
          have h6 := bt_iff.mp hb
          have n6 : (6 : Int32) ≤ b := by rw [Int32.le_iff_toInt_le, show (6 : Int32).toInt = 6 from rfl]; omega
          simp only [n6, Option.bind_some, List.append_nil, List.nil_append, List.cons_append, cond_true, cond_false, if_true, if_false, ite_true, ite_false, reduceIte, IC, bI_0, bI_1, bF, Bool.not_eq_false, Bool.not_eq_true, Bool.and_true, Bool.true_and, Bool.and_false, Bool.false_and, Bool.true_or, Bool.or_true, Bool.or_false, Bool.false_or, Bool.not_true, Bool.not_false, decide_true, decide_false, not_true_eq_false, not_false_eq_true, eq_self, Bool.true_eq_false, Bool.false_eq_true, B265_85, B265_107, B265_125]
    simp only [Option.bind_some, List.append_nil, List.nil_append, List.cons_append, cond_true, cond_false, if_true, if_false, ite_true, ite_false, reduceIte, IC, bI_0, bI_1, bF, Bool.not_eq_false, Bool.not_eq_true, Bool.and_true, Bool.true_and, Bool.and_false, Bool.false_and, Bool.true_or, Bool.or_true, Bool.or_false, Bool.false_or, Bool.not_true, Bool.not_false, decide_true, decide_false, not_true_eq_false, not_false_eq_true, eq_self, Bool.true_eq_false, Bool.false_eq_true, M_bt, L64, B265_16, e0]
    cases h5 : bt b 0 5 with
    | true =>
      rw [h5] at go
      simp only [Option.bind_some, List.append_nil, List.nil_append, List.cons_append, cond_true, cond_false, if_true, if_false, ite_true, ite_false, reduceIte, IC, bI_0, bI_1, bF, Bool.not_eq_false, Bool.not_eq_true, Bool.and_true, Bool.true_and, Bool.and_false, Bool.false_and, Bool.true_or, Bool.or_true, Bool.or_false, Bool.false_or, Bool.not_true, Bool.not_false, decide_true, decide_false, not_true_eq_false, not_false_eq_true, eq_self, Bool.true_eq_false, Bool.false_eq_true] at go ⊢
      exact go trivial
    | false =>
      simp only [Option.bind_some, List.append_nil, List.nil_append, List.cons_append, cond_true, cond_false, if_true, if_false, ite_true, ite_false, reduceIte, IC, bI_0, bI_1, bF, Bool.not_eq_false, Bool.not_eq_true, Bool.and_true, Bool.true_and, Bool.and_false, Bool.false_and, Bool.true_or, Bool.or_true, Bool.or_false, Bool.false_or, Bool.not_true, Bool.not_false, decide_true, decide_false, not_true_eq_false, not_false_eq_true, eq_self, Bool.true_eq_false, Bool.false_eq_true, M_bt, L64, B265_30]
      cases h6 : bt b 10 14 with
      | false => simp only [Option.bind_some, List.append_nil, List.nil_append, List.cons_append, cond_true, cond_false, if_true, if_false, ite_true, ite_false, reduceIte, IC, bI_0, bI_1, bF, Bool.not_eq_false, Bool.not_eq_true, Bool.and_true, Bool.true_and, Bool.and_false, Bool.false_and, Bool.true_or, Bool.or_true, Bool.or_false, Bool.false_or, Bool.not_true, Bool.not_false, decide_true, decide_false, not_true_eq_false, not_false_eq_true, eq_self, Bool.true_eq_false, Bool.false_eq_true, B265_33]
      | true =>
        rw [h5, h6] at go
        simp only [Option.bind_some, List.append_nil, List.nil_append, List.cons_append, cond_true, cond_false, if_true, if_false, ite_true, ite_false, reduceIte, IC, bI_0, bI_1, bF, Bool.not_eq_false, Bool.not_eq_true, Bool.and_true, Bool.true_and, Bool.and_false, Bool.false_and, Bool.true_or, Bool.or_true, Bool.or_false, Bool.false_or, Bool.not_true, Bool.not_false, decide_true, decide_false, not_true_eq_false, not_false_eq_true, eq_self, Bool.true_eq_false, Bool.false_eq_true] at go ⊢
        exact go trivial
theorem C_hos (hr : r0 < 4) : Rn X (d + 1) 19 0 [.ref 54, .int (Int32.ofNat r0)] [] (Mh D I P N) = some ([.int (bI (decide (I 62 r0 = -2)))], Mh D I P N) := by
  simp only [B19_0, IC, C_isf, b3 hr, Option.bind_some, List.append_nil, List.nil_append, List.cons_append, cond_true, cond_false, if_true, if_false, ite_true, ite_false, reduceIte, IC, bI_0, bI_1, bF, Bool.not_eq_false, Bool.not_eq_true, Bool.and_true, Bool.true_and, Bool.and_false, Bool.false_and, Bool.true_or, Bool.or_true, Bool.or_false, Bool.false_or, Bool.not_true, Bool.not_false, decide_true, decide_false, not_true_eq_false, not_false_eq_true, eq_self, Bool.true_eq_false, Bool.false_eq_true, B19_5, RDc, rw55 hr]
  by_cases h : I 62 r0 = -2
  · simp only [h, Option.bind_some, List.append_nil, List.nil_append, List.cons_append, cond_true, cond_false, if_true, if_false, ite_true, ite_false, reduceIte, IC, bI_0, bI_1, bF, Bool.not_eq_false, Bool.not_eq_true, Bool.and_true, Bool.true_and, Bool.and_false, Bool.false_and, Bool.true_or, Bool.or_true, Bool.or_false, Bool.false_or, Bool.not_true, Bool.not_false, decide_true, decide_false, not_true_eq_false, not_false_eq_true, eq_self, Bool.true_eq_false, Bool.false_eq_true, B19_24]; rfl
  · simp only [h, Option.bind_some, List.append_nil, List.nil_append, List.cons_append, cond_true, cond_false, if_true, if_false, ite_true, ite_false, reduceIte, IC, bI_0, bI_1, bF, Bool.not_eq_false, Bool.not_eq_true, Bool.and_true, Bool.true_and, Bool.and_false, Bool.false_and, Bool.true_or, Bool.or_true, Bool.or_false, Bool.false_or, Bool.not_true, Bool.not_false, decide_true, decide_false, not_true_eq_false, not_false_eq_true, eq_self, Bool.true_eq_false, Bool.false_eq_true, B19_23, B19_24]; rfl
theorem C_hor (hr : r0 < 4) : Rn X (d + 1) 20 0 [.ref 54, .int (Int32.ofNat r0)] [] (Mh D I P N) = some ([.int (bI (!decide (I 62 r0 < 0)))], Mh D I P N) := by
  simp only [B20_0, IC, C_isf, b3 hr, Option.bind_some, List.append_nil, List.nil_append, List.cons_append, cond_true, cond_false, if_true, if_false, ite_true, ite_false, reduceIte, IC, bI_0, bI_1, bF, Bool.not_eq_false, Bool.not_eq_true, Bool.and_true, Bool.true_and, Bool.and_false, Bool.false_and, Bool.true_or, Bool.or_true, Bool.or_false, Bool.false_or, Bool.not_true, Bool.not_false, decide_true, decide_false, not_true_eq_false, not_false_eq_true, eq_self, Bool.true_eq_false, Bool.false_eq_true, B20_5, RDc, rw55 hr]
  by_cases h : I 62 r0 < 0
  · simp only [h, Option.bind_some, List.append_nil, List.nil_append, List.cons_append, cond_true, cond_false, if_true, if_false, ite_true, ite_false, reduceIte, IC, bI_0, bI_1, bF, Bool.not_eq_false, Bool.not_eq_true, Bool.and_true, Bool.true_and, Bool.and_false, Bool.false_and, Bool.true_or, Bool.or_true, Bool.or_false, Bool.false_or, Bool.not_true, Bool.not_false, decide_true, decide_false, not_true_eq_false, not_false_eq_true, eq_self, Bool.true_eq_false, Bool.false_eq_true, B20_21, B20_22]; rfl
  · simp only [h, Option.bind_some, List.append_nil, List.nil_append, List.cons_append, cond_true, cond_false, if_true, if_false, ite_true, ite_false, reduceIte, IC, bI_0, bI_1, bF, Bool.not_eq_false, Bool.not_eq_true, Bool.and_true, Bool.true_and, Bool.and_false, Bool.false_and, Bool.true_or, Bool.or_true, Bool.or_false, Bool.false_or, Bool.not_true, Bool.not_false, decide_true, decide_false, not_true_eq_false, not_false_eq_true, eq_self, Bool.true_eq_false, Bool.false_eq_true, B20_22]; rfl
theorem C_nmb (hr : r0 < 4) : Rn X (d + 1) 22 0 [.ref 54, .int (Int32.ofNat r0)] [] (Mh D I P N) = some ([.int (I 63 r0)], Mh D I P N) := by
  simp only [B22_0, IC, C_isf, b3 hr, Option.bind_some, List.append_nil, List.nil_append, List.cons_append, cond_true, cond_false, if_true, if_false, ite_true, ite_false, reduceIte, IC, bI_0, bI_1, bF, Bool.not_eq_false, Bool.not_eq_true, Bool.and_true, Bool.true_and, Bool.and_false, Bool.false_and, Bool.true_or, Bool.or_true, Bool.or_false, Bool.false_or, Bool.not_true, Bool.not_false, decide_true, decide_false, not_true_eq_false, not_false_eq_true, eq_self, Bool.true_eq_false, Bool.false_eq_true, B22_5, RDc, rw55 hr, B22_18]
theorem C_srt (hr : r0 < 4) : Rn X (d + 1) 21 0 [.ref 54, .int (Int32.ofNat r0)] [] (Mh D I P N) = some ([.int (I 62 r0)], Mh D I P N) := by
  simp only [B21_0, IC, C_isf, b3 hr, Option.bind_some, List.append_nil, List.nil_append, List.cons_append, cond_true, cond_false, if_true, if_false, ite_true, ite_false, reduceIte, IC, bI_0, bI_1, bF, Bool.not_eq_false, Bool.not_eq_true, Bool.and_true, Bool.true_and, Bool.and_false, Bool.false_and, Bool.true_or, Bool.or_true, Bool.or_false, Bool.false_or, Bool.not_true, Bool.not_false, decide_true, decide_false, not_true_eq_false, not_false_eq_true, eq_self, Bool.true_eq_false, Bool.false_eq_true, B21_5, RDc, rw55 hr, B21_18]
def thgO (I : Nat → Nat → Int32) (s : Nat → Int32) (ra : Nat → Nat) (a : Int32) : Option Nat := bif bt a 0 3 && decide (I 62 a.toNatClampNeg = -2) then ansO s ra (I 63 a.toNatClampNeg) else none
theorem C_thg (gd : Gd s m) (hr : RideR s D I P N 1 ra) : Rn X (d + 2) 162 0 [.ref 0, .int a] [] (Mh D I P N) = some ([va_rf (thgO I s ra a)], Mh D I P N) := by
  unfold thgO
  cases h1 : bt a 0 3 with
  | false => simp only [B162_0, RDc, IC, Option.bind_some, List.append_nil, List.nil_append, List.cons_append, cond_true, cond_false, if_true, if_false, ite_true, ite_false, reduceIte, IC, bI_0, bI_1, bF, Bool.not_eq_false, Bool.not_eq_true, Bool.and_true, Bool.true_and, Bool.and_false, Bool.false_and, Bool.true_or, Bool.or_true, Bool.or_false, Bool.false_or, Bool.not_true, Bool.not_false, decide_true, decide_false, not_true_eq_false, not_false_eq_true, eq_self, Bool.true_eq_false, Bool.false_eq_true, B19_0, C_isf, h1, B19_5, B19_23, B19_24, B162_8, B162_30]
  | true =>
    obtain ⟨r0, hr0, rfl⟩ := bt03 h1
    have e0 : (Int32.ofNat r0).toNatClampNeg = r0 := iN_cl (by omega)
    simp only [B162_0, RDc, IC, Option.bind_some, List.append_nil, List.nil_append, List.cons_append, cond_true, cond_false, if_true, if_false, ite_true, ite_false, reduceIte, IC, bI_0, bI_1, bF, Bool.not_eq_false, Bool.not_eq_true, Bool.and_true, Bool.true_and, Bool.and_false, Bool.false_and, Bool.true_or, Bool.or_true, Bool.or_false, Bool.false_or, Bool.not_true, Bool.not_false, decide_true, decide_false, not_true_eq_false, not_false_eq_true, eq_self, Bool.true_eq_false, Bool.false_eq_true, C_hos hr0, B162_8, e0]
    by_cases h : I 62 r0 = -2
    · simp only [h, Option.bind_some, List.append_nil, List.nil_append, List.cons_append, cond_true, cond_false, if_true, if_false, ite_true, ite_false, reduceIte, IC, bI_0, bI_1, bF, Bool.not_eq_false, Bool.not_eq_true, Bool.and_true, Bool.true_and, Bool.and_false, Bool.false_and, Bool.true_or, Bool.or_true, Bool.or_false, Bool.false_or, Bool.not_true, Bool.not_false, decide_true, decide_false, not_true_eq_false, not_false_eq_true, eq_self, Bool.true_eq_false, Bool.false_eq_true, RDc, IC, C_nmb hr0, B162_23, C_at gd hr, B162_26, B162_30]
    · simp only [h, Option.bind_some, List.append_nil, List.nil_append, List.cons_append, cond_true, cond_false, if_true, if_false, ite_true, ite_false, reduceIte, IC, bI_0, bI_1, bF, Bool.not_eq_false, Bool.not_eq_true, Bool.and_true, Bool.true_and, Bool.and_false, Bool.false_and, Bool.true_or, Bool.or_true, Bool.or_false, Bool.false_or, Bool.not_true, Bool.not_false, decide_true, decide_false, not_true_eq_false, not_false_eq_true, eq_self, Bool.true_eq_false, Bool.false_eq_true, B162_30]
theorem N_tkn (gd : Gd s m) (hr : RideR s D I P N 1 ra) : Rn X (d + 40) 150 0 [.ref 0, .int a, .int b, U_, U_] [] (Mh D I P N) = some ([.int (takC s a b (I 62 a.toNatClampNeg) (I 63 a.toNatClampNeg))], Mh D I P N) := by
  simp only [B150_0, C_btw, L32, Option.bind_some, List.append_nil, List.nil_append, List.cons_append, cond_true, cond_false, if_true, if_false, ite_true, ite_false, reduceIte, IC, bI_0, bI_1, bF, Bool.not_eq_false, Bool.not_eq_true, Bool.and_true, Bool.true_and, Bool.and_false, Bool.false_and, Bool.true_or, Bool.or_true, Bool.or_false, Bool.false_or, Bool.not_true, Bool.not_false, decide_true, decide_false, not_true_eq_false, not_false_eq_true, eq_self, Bool.true_eq_false, Bool.false_eq_true, B150_8, RDc, IC, C_isf, B150_17]
  unfold takC
  cases h1 : bt a 0 3 with
  | false => simp only [Option.bind_some, List.append_nil, List.nil_append, List.cons_append, cond_true, cond_false, if_true, if_false, ite_true, ite_false, reduceIte, IC, bI_0, bI_1, bF, Bool.not_eq_false, Bool.not_eq_true, Bool.and_true, Bool.true_and, Bool.and_false, Bool.false_and, Bool.true_or, Bool.or_true, Bool.or_false, Bool.false_or, Bool.not_true, Bool.not_false, decide_true, decide_false, not_true_eq_false, not_false_eq_true, eq_self, Bool.true_eq_false, Bool.false_eq_true, B150_33]
  | true =>
    obtain ⟨r0, hr0, rfl⟩ := bt03 h1
    have e0 : (Int32.ofNat r0).toNatClampNeg = r0 := iN_cl (by omega)
    have go : Rn X (d + 40) 150 35 [.ref 0, .int (Int32.ofNat r0), .int b, .int (bI (bt b 10 14)), U_] [] (Mh D I P N) = some ([.int (if I 62 r0 < 0 then (if (decide (I 62 r0 = -2) && isA s (I 63 r0)) = true then (if (!bt b 10 14 && undV (s (7 + 5 * (I 63 r0).toNatClampNeg)) b) = true then I 63 r0 else -13) else -11) else (if (bt b 10 14 && decide (I 62 r0 = b - 10)) = true then I 63 r0 else -13))], Mh D I P N) := by
      simp only [B150_35, RDc, IC, Option.bind_some, List.append_nil, List.nil_append, List.cons_append, cond_true, cond_false, if_true, if_false, ite_true, ite_false, reduceIte, IC, bI_0, bI_1, bF, Bool.not_eq_false, Bool.not_eq_true, Bool.and_true, Bool.true_and, Bool.and_false, Bool.false_and, Bool.true_or, Bool.or_true, Bool.or_false, Bool.false_or, Bool.not_true, Bool.not_false, decide_true, decide_false, not_true_eq_false, not_false_eq_true, eq_self, Bool.true_eq_false, Bool.false_eq_true, C_hor hr0, B150_43]
      by_cases hn : I 62 r0 < 0
      · have ht := C_thg (X := X) (d := d + 37) (a := Int32.ofNat r0) gd hr
        simp only [hn, Option.bind_some, List.append_nil, List.nil_append, List.cons_append, cond_true, cond_false, if_true, if_false, ite_true, ite_false, reduceIte, IC, bI_0, bI_1, bF, Bool.not_eq_false, Bool.not_eq_true, Bool.and_true, Bool.true_and, Bool.and_false, Bool.false_and, Bool.true_or, Bool.or_true, Bool.or_false, Bool.false_or, Bool.not_true, Bool.not_false, decide_true, decide_false, not_true_eq_false, not_false_eq_true, eq_self, Bool.true_eq_false, Bool.false_eq_true, IC, ht, B150_84]
        unfold thgO ansO
        rw [h1, e0]
        by_cases h2 : I 62 r0 = -2
        · cases h3 : isA s (I 63 r0) with
          | false => simp only [h2, Option.bind_some, List.append_nil, List.nil_append, List.cons_append, cond_true, cond_false, if_true, if_false, ite_true, ite_false, reduceIte, IC, bI_0, bI_1, bF, Bool.not_eq_false, Bool.not_eq_true, Bool.and_true, Bool.true_and, Bool.and_false, Bool.false_and, Bool.true_or, Bool.or_true, Bool.or_false, Bool.false_or, Bool.not_true, Bool.not_false, decide_true, decide_false, not_true_eq_false, not_false_eq_true, eq_self, Bool.true_eq_false, Bool.false_eq_true, oc_none]
          | true =>
            obtain ⟨i, hi, hx⟩ := isA_nat gd h3
            have h9 := gd.a hi
            have hO := (hr.2.2.2.1 i hi).2
            have ei : (I 63 r0).toNatClampNeg = i := by rw [hx, iN_cl (by omega)]
            simp only [h2, Option.bind_some, List.append_nil, List.nil_append, List.cons_append, cond_true, cond_false, if_true, if_false, ite_true, ite_false, reduceIte, IC, bI_0, bI_1, bF, Bool.not_eq_false, Bool.not_eq_true, Bool.and_true, Bool.true_and, Bool.and_false, Bool.false_and, Bool.true_or, Bool.or_true, Bool.or_false, Bool.false_or, Bool.not_true, Bool.not_false, decide_true, decide_false, not_true_eq_false, not_false_eq_true, eq_self, Bool.true_eq_false, Bool.false_eq_true, ei, oc_some]
            cases h10 : bt b 10 14 with
            | true => simp only [Option.bind_some, List.append_nil, List.nil_append, List.cons_append, cond_true, cond_false, if_true, if_false, ite_true, ite_false, reduceIte, IC, bI_0, bI_1, bF, Bool.not_eq_false, Bool.not_eq_true, Bool.and_true, Bool.true_and, Bool.and_false, Bool.false_and, Bool.true_or, Bool.or_true, Bool.or_false, Bool.false_or, Bool.not_true, Bool.not_false, decide_true, decide_false, not_true_eq_false, not_false_eq_true, eq_self, Bool.true_eq_false, Bool.false_eq_true, B150_118, B150_120]
            | false =>
              simp only [Option.bind_some, List.append_nil, List.nil_append, List.cons_append, cond_true, cond_false, if_true, if_false, ite_true, ite_false, reduceIte, IC, bI_0, bI_1, bF, Bool.not_eq_false, Bool.not_eq_true, Bool.and_true, Bool.true_and, Bool.and_false, Bool.false_and, Bool.true_or, Bool.or_true, Bool.or_false, Bool.false_or, Bool.not_true, Bool.not_false, decide_true, decide_false, not_true_eq_false, not_false_eq_true, eq_self, Bool.true_eq_false, Bool.false_eq_true, RDa hO.at, hO.2.1, C_und, B150_107]
              cases hU : undV (s (7 + 5 * i)) b with
              | false => simp only [Option.bind_some, List.append_nil, List.nil_append, List.cons_append, cond_true, cond_false, if_true, if_false, ite_true, ite_false, reduceIte, IC, bI_0, bI_1, bF, Bool.not_eq_false, Bool.not_eq_true, Bool.and_true, Bool.true_and, Bool.and_false, Bool.false_and, Bool.true_or, Bool.or_true, Bool.or_false, Bool.false_or, Bool.not_true, Bool.not_false, decide_true, decide_false, not_true_eq_false, not_false_eq_true, eq_self, Bool.true_eq_false, Bool.false_eq_true, B150_118, B150_120]
              | true => simp only [Option.bind_some, List.append_nil, List.nil_append, List.cons_append, cond_true, cond_false, if_true, if_false, ite_true, ite_false, reduceIte, IC, bI_0, bI_1, bF, Bool.not_eq_false, Bool.not_eq_true, Bool.and_true, Bool.true_and, Bool.and_false, Bool.false_and, Bool.true_or, Bool.or_true, Bool.or_false, Bool.false_or, Bool.not_true, Bool.not_false, decide_true, decide_false, not_true_eq_false, not_false_eq_true, eq_self, Bool.true_eq_false, Bool.false_eq_true, RDa hO.at, hO.2.2.1, B150_120, hx]
        · simp only [h2, Option.bind_some, List.append_nil, List.nil_append, List.cons_append, cond_true, cond_false, if_true, if_false, ite_true, ite_false, reduceIte, IC, bI_0, bI_1, bF, Bool.not_eq_false, Bool.not_eq_true, Bool.and_true, Bool.true_and, Bool.and_false, Bool.false_and, Bool.true_or, Bool.or_true, Bool.or_false, Bool.false_or, Bool.not_true, Bool.not_false, decide_true, decide_false, not_true_eq_false, not_false_eq_true, eq_self, Bool.true_eq_false, Bool.false_eq_true, oc_none]
      · simp only [hn, Option.bind_some, List.append_nil, List.nil_append, List.cons_append, cond_true, cond_false, if_true, if_false, ite_true, ite_false, reduceIte, IC, bI_0, bI_1, bF, Bool.not_eq_false, Bool.not_eq_true, Bool.and_true, Bool.true_and, Bool.and_false, Bool.false_and, Bool.true_or, Bool.or_true, Bool.or_false, Bool.false_or, Bool.not_true, Bool.not_false, decide_true, decide_false, not_true_eq_false, not_false_eq_true, eq_self, Bool.true_eq_false, Bool.false_eq_true]
        cases h10 : bt b 10 14 with
        | false => simp only [Option.bind_some, List.append_nil, List.nil_append, List.cons_append, cond_true, cond_false, if_true, if_false, ite_true, ite_false, reduceIte, IC, bI_0, bI_1, bF, Bool.not_eq_false, Bool.not_eq_true, Bool.and_true, Bool.true_and, Bool.and_false, Bool.false_and, Bool.true_or, Bool.or_true, Bool.or_false, Bool.false_or, Bool.not_true, Bool.not_false, decide_true, decide_false, not_true_eq_false, not_false_eq_true, eq_self, Bool.true_eq_false, Bool.false_eq_true, B150_76, B150_78]
        | true =>
          simp only [Option.bind_some, List.append_nil, List.nil_append, List.cons_append, cond_true, cond_false, if_true, if_false, ite_true, ite_false, reduceIte, IC, bI_0, bI_1, bF, Bool.not_eq_false, Bool.not_eq_true, Bool.and_true, Bool.true_and, Bool.and_false, Bool.false_and, Bool.true_or, Bool.or_true, Bool.or_false, Bool.false_or, Bool.not_true, Bool.not_false, decide_true, decide_false, not_true_eq_false, not_false_eq_true, eq_self, Bool.true_eq_false, Bool.false_eq_true, RDc, IC, C_srt hr0, B150_58]
          by_cases h2 : I 62 r0 = b - 10
          · simp only [h2, Option.bind_some, List.append_nil, List.nil_append, List.cons_append, cond_true, cond_false, if_true, if_false, ite_true, ite_false, reduceIte, IC, bI_0, bI_1, bF, Bool.not_eq_false, Bool.not_eq_true, Bool.and_true, Bool.true_and, Bool.and_false, Bool.false_and, Bool.true_or, Bool.or_true, Bool.or_false, Bool.false_or, Bool.not_true, Bool.not_false, decide_true, decide_false, not_true_eq_false, not_false_eq_true, eq_self, Bool.true_eq_false, Bool.false_eq_true, RDc, IC, C_nmb hr0, B150_73, B150_78]
          · simp only [h2, Option.bind_some, List.append_nil, List.nil_append, List.cons_append, cond_true, cond_false, if_true, if_false, ite_true, ite_false, reduceIte, IC, bI_0, bI_1, bF, Bool.not_eq_false, Bool.not_eq_true, Bool.and_true, Bool.true_and, Bool.and_false, Bool.false_and, Bool.true_or, Bool.or_true, Bool.or_false, Bool.false_or, Bool.not_true, Bool.not_false, decide_true, decide_false, not_true_eq_false, not_false_eq_true, eq_self, Bool.true_eq_false, Bool.false_eq_true, B150_76, B150_78]
    simp only [Option.bind_some, List.append_nil, List.nil_append, List.cons_append, cond_true, cond_false, if_true, if_false, ite_true, ite_false, reduceIte, IC, bI_0, bI_1, bF, Bool.not_eq_false, Bool.not_eq_true, Bool.and_true, Bool.true_and, Bool.and_false, Bool.false_and, Bool.true_or, Bool.or_true, Bool.or_false, Bool.false_or, Bool.not_true, Bool.not_false, decide_true, decide_false, not_true_eq_false, not_false_eq_true, eq_self, Bool.true_eq_false, Bool.false_eq_true, e0]
    cases h10 : bt b 10 14 with
    | true =>
      rw [h10] at go
      simp only [Option.bind_some, List.append_nil, List.nil_append, List.cons_append, cond_true, cond_false, if_true, if_false, ite_true, ite_false, reduceIte, IC, bI_0, bI_1, bF, Bool.not_eq_false, Bool.not_eq_true, Bool.and_true, Bool.true_and, Bool.and_false, Bool.false_and, Bool.true_or, Bool.or_true, Bool.or_false, Bool.false_or, Bool.not_true, Bool.not_false, decide_true, decide_false, not_true_eq_false, not_false_eq_true, eq_self, Bool.true_eq_false, Bool.false_eq_true, Bool.or_true] at go ⊢
      exact go
    | false =>
      simp only [Option.bind_some, List.append_nil, List.nil_append, List.cons_append, cond_true, cond_false, if_true, if_false, ite_true, ite_false, reduceIte, IC, bI_0, bI_1, bF, Bool.not_eq_false, Bool.not_eq_true, Bool.and_true, Bool.true_and, Bool.and_false, Bool.false_and, Bool.true_or, Bool.or_true, Bool.or_false, Bool.false_or, Bool.not_true, Bool.not_false, decide_true, decide_false, not_true_eq_false, not_false_eq_true, eq_self, Bool.true_eq_false, Bool.false_eq_true, C_btw, L32, B150_30]
      rw [h10] at go
      cases h5 : bt b 0 5 with
      | true =>
        simp only [Option.bind_some, List.append_nil, List.nil_append, List.cons_append, cond_true, cond_false, if_true, if_false, ite_true, ite_false, reduceIte, IC, bI_0, bI_1, bF, Bool.not_eq_false, Bool.not_eq_true, Bool.and_true, Bool.true_and, Bool.and_false, Bool.false_and, Bool.true_or, Bool.or_true, Bool.or_false, Bool.false_or, Bool.not_true, Bool.not_false, decide_true, decide_false, not_true_eq_false, not_false_eq_true, eq_self, Bool.true_eq_false, Bool.false_eq_true] at go ⊢
        exact go
      | false => simp only [Option.bind_some, List.append_nil, List.nil_append, List.cons_append, cond_true, cond_false, if_true, if_false, ite_true, ite_false, reduceIte, IC, bI_0, bI_1, bF, Bool.not_eq_false, Bool.not_eq_true, Bool.and_true, Bool.true_and, Bool.and_false, Bool.false_and, Bool.true_or, Bool.or_true, Bool.or_false, Bool.false_or, Bool.not_true, Bool.not_false, decide_true, decide_false, not_true_eq_false, not_false_eq_true, eq_self, Bool.true_eq_false, Bool.false_eq_true, B150_33]
theorem tak_eq (gd : Gd s m) (h : shR u v x y z) : takC s a b u v = takV s a b x y z := by
  unfold takC takV onS
  cases h0 : (bt a 0 3 && (bt b 0 5 || bt b 10 14)) with
  | false => rfl
  | true =>
    simp only [Bool.and_eq_true, Bool.or_eq_true] at h0
    simp only [if_true]
    rcases h with ⟨rfl, rfl⟩ | ⟨rfl, rfl, rfl⟩ | ⟨rfl, h1, rfl, rfl⟩
    · simp +decide only [Option.bind_some, List.append_nil, List.nil_append, List.cons_append, cond_true, cond_false, if_true, if_false, ite_true, ite_false, reduceIte, IC, bI_0, bI_1, bF, Bool.not_eq_false, Bool.not_eq_true, Bool.and_true, Bool.true_and, Bool.and_false, Bool.false_and, Bool.true_or, Bool.or_true, Bool.or_false, Bool.false_or, Bool.not_true, Bool.not_false, decide_true, decide_false, not_true_eq_false, not_false_eq_true, eq_self, Bool.true_eq_false, Bool.false_eq_true]
    · have hx : bt b 0 5 = !bt b 10 14 := by
        rcases h0.2 with q | q
        · have q1 := bt_iff.mp q
          have : bt b 10 14 = false := bt_no.mpr (Or.inl (by omega))
          rw [q, this]; rfl
        · have q1 := bt_iff.mp q
          have : bt b 0 5 = false := bt_no.mpr (Or.inr (by omega))
          rw [q, this]; rfl
      simp +decide only [Option.bind_some, List.append_nil, List.nil_append, List.cons_append, cond_true, cond_false, if_true, if_false, ite_true, ite_false, reduceIte, IC, bI_0, bI_1, bF, Bool.not_eq_false, Bool.not_eq_true, Bool.and_true, Bool.true_and, Bool.and_false, Bool.false_and, Bool.true_or, Bool.or_true, Bool.or_false, Bool.false_or, Bool.not_true, Bool.not_false, decide_true, decide_false, not_true_eq_false, not_false_eq_true, eq_self, Bool.true_eq_false, Bool.false_eq_true, hx]
    · have hn : ¬ z < 0 := by rw [Int32.lt_iff_toInt_lt, z_ti]; omega
      have hx : (bt b 10 14 && decide (z = b - 10)) = decide (b - 10 = z) := by
        by_cases q : b - 10 = z
        · rw [decide_eq_true q, decide_eq_true q.symm, Bool.and_true]
          rcases h0.2 with p | p
          · have p1 := bt_iff.mp p
            have : (b - 10).toInt = b.toInt - 10 := t_sub (by show -2147483648 ≤ b.toInt - 10; omega) (by show b.toInt - 10 < 2147483648; omega)
            rw [q] at this; omega
          · exact p
        · rw [decide_eq_false q, decide_eq_false (fun e => q e.symm), Bool.and_false]
      have n2 : ¬ (2 : Int32) = 1 := by decide
      rw [if_neg hn, hx]
      simp +decide only [Option.bind_some, List.append_nil, List.nil_append, List.cons_append, cond_true, cond_false, if_true, if_false, ite_true, ite_false, reduceIte, IC, bI_0, bI_1, bF, Bool.not_eq_false, Bool.not_eq_true, Bool.and_true, Bool.true_and, Bool.and_false, Bool.false_and, Bool.true_or, Bool.or_true, Bool.or_false, Bool.false_or, Bool.not_true, Bool.not_false, decide_true, decide_false, not_true_eq_false, not_false_eq_true, eq_self, Bool.true_eq_false, Bool.false_eq_true, decide_eq_true_eq]
end Shelf
