/-! the reference: the road, an answer, telling -/
theorem IX : (∀ i, 52 + 2 * Int32.ofNat i = Int32.ofNat (52 + 2 * i)) ∧ (∀ i, 7 + 5 * Int32.ofNat i = Int32.ofNat (7 + 5 * i)) ∧ (∀ i, 86 + 4 * Int32.ofNat i = Int32.ofNat (86 + 4 * i)) ∧ (∀ i, 68 + Int32.ofNat i = Int32.ofNat (68 + i)) ∧ (∀ i, 118 + Int32.ofNat i = Int32.ofNat (118 + i)) ∧ (∀ i, 3 * Int32.ofNat i = Int32.ofNat (3 * i)) ∧ (∀ i, 40 * Int32.ofNat i = Int32.ofNat (40 * i))
    ∧ (∀ i, Int32.ofNat i + 0 = Int32.ofNat i) ∧ (∀ i, Int32.ofNat i + 1 = Int32.ofNat (i + 1)) ∧ (∀ i, Int32.ofNat i + 2 = Int32.ofNat (i + 2)) ∧ (∀ i, Int32.ofNat i + 3 = Int32.ofNat (i + 3)) ∧ (∀ i, Int32.ofNat i + 4 = Int32.ofNat (i + 4)) :=
  ⟨fun i => by rw [Int32.ofNat_add, Int32.ofNat_mul]; rfl, fun i => by rw [Int32.ofNat_add, Int32.ofNat_mul]; rfl, fun i => by rw [Int32.ofNat_add, Int32.ofNat_mul]; rfl, fun i => by rw [Int32.ofNat_add]; rfl, fun i => by rw [Int32.ofNat_add]; rfl, fun i => by rw [Int32.ofNat_mul]; rfl, fun i => by rw [Int32.ofNat_mul]; rfl,
    fun i => (Int32.ofNat_add i 0).symm, fun i => (Int32.ofNat_add i 1).symm, fun i => (Int32.ofNat_add i 2).symm, fun i => (Int32.ofNat_add i 3).symm, fun i => (Int32.ofNat_add i 4).symm⟩
section RefA
variable {X : mX} {d : Nat} {D : Nat → Nat × Nat} {I : Nat → Nat → Int32} {P : Nat → Nat → Option Nat} {N : Nat} {h : mH} {s : Nat → Int32} {m : Int} {i j : Nat}
theorem rS (h : j < 320) : hAI 0 (Mh D I P N) 66 (Int32.ofNat j) = some (I 66 j) := by rw [rdA hN66 (n := 320) rfl rfl, mib_N h (by decide), iN_cl (by omega)]; rfl
theorem wS {x : Int32} (h : j < 320) : hAS 0 (Mh D I P N) 66 (Int32.ofNat j) x = some (Mh D (u2 I 66 j x) P N) := by rw [wrA hN66 (n := 320) rfl rfl, mib_N h (by decide), iN_cl (by omega)]; rfl
theorem lgc_lt {x y : Int64} : (lg_cmp x y < 0) = (x.toInt < y.toInt) := by
  unfold lg_cmp
  split
  · next h => rw [gt_iff_lt, Int64.lt_iff_toInt_lt] at h; exact propext ⟨fun q => absurd q (by decide), fun q => by omega⟩
  · next h =>
    rw [gt_iff_lt, Int64.lt_iff_toInt_lt] at h
    split
    · next e => subst e; exact propext ⟨fun q => absurd q (by decide), fun q => by omega⟩
    · next e => rw [← Int64.toInt_inj] at e; exact propext ⟨fun _ => by omega, fun _ => by decide⟩
theorem lgc_gt {x y : Int64} : (0 < lg_cmp x y) = (y.toInt < x.toInt) := by
  unfold lg_cmp
  split
  · next h => rw [gt_iff_lt, Int64.lt_iff_toInt_lt] at h; exact propext ⟨fun _ => h, fun _ => by decide⟩
  · next h =>
    rw [gt_iff_lt, Int64.lt_iff_toInt_lt] at h
    split
    · exact propext ⟨fun q => absurd q (by decide), fun q => by omega⟩
    · exact propext ⟨fun q => absurd q (by decide), fun q => by omega⟩
theorem M_in {v lo hi : Int64} : Rn X d 165 0 [.long v, U_, .long lo, U_, .long hi, U_] [] h = some ([.int (bI (decide (lo.toInt ≤ v.toInt) && decide (v.toInt ≤ hi.toInt)))], h) := by
  simp only [B165_0, lgc_lt, lgc_gt, B165_17, B165_18, Option.bind_some, List.append_nil, List.nil_append, List.cons_append, cond_true, cond_false, if_true, if_false, ite_true, ite_false, reduceIte, IC, bI_0, bI_1, bF, Bool.not_eq_false, Bool.not_eq_true, Bool.and_true, Bool.true_and, Bool.and_false, Bool.false_and, Bool.true_or, Bool.or_true, Bool.or_false, Bool.false_or, Bool.not_true, Bool.not_false, decide_true, decide_false, not_true_eq_false, not_false_eq_true, eq_self, Bool.true_eq_false, Bool.false_eq_true]
  by_cases h1 : v.toInt < lo.toInt
  · rw [if_pos h1, decide_eq_false (show ¬ lo.toInt ≤ v.toInt by omega)]; rfl
  · rw [if_neg h1, decide_eq_true (show lo.toInt ≤ v.toInt by omega)]
    by_cases h2 : hi.toInt < v.toInt
    · rw [if_pos h2, decide_eq_false (show ¬ v.toInt ≤ hi.toInt by omega)]; rfl
    · rw [if_neg h2, decide_eq_true (show v.toInt ≤ hi.toInt by omega)]; rfl
theorem M_bt {v : Int32} {lo hi : Int64} : Rn X d 165 0 [.long v.toInt64, U_, .long lo, U_, .long hi, U_] [] h = some ([.int (bI (bt v lo.toInt hi.toInt))], h) := by
  rw [M_in, Int32.toInt_toInt64]; rfl
theorem L64 : (0 : Int64).toInt = 0 ∧ (1 : Int64).toInt = 1 ∧ (2 : Int64).toInt = 2 ∧ (3 : Int64).toInt = 3 ∧ (4 : Int64).toInt = 4 ∧ (5 : Int64).toInt = 5 ∧ (6 : Int64).toInt = 6 ∧ (8 : Int64).toInt = 8 ∧ (9 : Int64).toInt = 9 ∧ (10 : Int64).toInt = 10 ∧ (14 : Int64).toInt = 14 ∧ (20 : Int64).toInt = 20 ∧ (60 : Int64).toInt = 60 ∧ (97 : Int64).toInt = 97 ∧ (122 : Int64).toInt = 122 ∧ (48 : Int64).toInt = 48 ∧ (57 : Int64).toInt = 57 ∧ (99 : Int64).toInt = 99 ∧ (100 : Int64).toInt = 100 ∧ (999 : Int64).toInt = 999 := ⟨rfl, rfl, rfl, rfl, rfl, rfl, rfl, rfl, rfl, rfl, rfl, rfl, rfl, rfl, rfl, rfl, rfl, rfl, rfl, rfl⟩
theorem t_m1 {x : Int32} (h0 : 0 ≤ x.toInt) : (x - 1).toInt = x.toInt - 1 := by
  have := Int32.toInt_lt x
  exact t_sub (y := 1) (by show -2147483648 ≤ x.toInt - 1; omega) (by show x.toInt - 1 < 2147483648; omega)
theorem Gd.n0 (g : Gd s m) : s 0 = Int32.ofNat (ctA s) ∧ ctA s ≤ 9 := by
  have h := bt_iff.mp g.1.1
  exact ⟨iN_of h.1, by unfold ctA; have := cl_ti h.1; omega⟩
theorem Gd.n1 (g : Gd s m) : s 1 = Int32.ofNat (ctR s) ∧ ctR s ≤ 8 := by
  have h := bt_iff.mp g.1.2.1
  exact ⟨iN_of h.1, by unfold ctR; have := cl_ti h.1; omega⟩
theorem Gd.n2 (g : Gd s m) : s 2 = Int32.ofNat (ctL s) ∧ ctL s ≤ 8 := by
  have h := bt_iff.mp g.1.2.2.1
  exact ⟨iN_of h.1, by unfold ctL; have := cl_ti h.1; omega⟩
theorem Gd.n3 (g : Gd s m) : s 3 = Int32.ofNat (ctE s) ∧ ctE s ≤ 6 := by
  have h := bt_iff.mp g.1.2.2.2.1
  exact ⟨iN_of h.1, by unfold ctE; have := cl_ti h.1; omega⟩
def isA (s : Nat → Int32) (a : Int32) : Bool := bt a 0 ((s 0).toInt - 1)
def isL (s : Nat → Int32) (a : Int32) : Bool := bt a 0 ((s 2).toInt - 1)
theorem isA_nat {a : Int32} (g : Gd s m) (h : isA s a = true) : ∃ i, i < ctA s ∧ a = Int32.ofNat i := by
  have h1 := bt_iff.mp h
  have h2 := bt_iff.mp g.1.1
  refine ⟨a.toNatClampNeg, ?_, iN_of h1.1⟩
  have e1 := cl_ti h1.1
  have e2 := cl_ti h2.1
  unfold ctA; omega
theorem isL_nat {a : Int32} (g : Gd s m) (h : isL s a = true) : ∃ i, i < ctL s ∧ a = Int32.ofNat i := by
  have h1 := bt_iff.mp h
  have h2 := bt_iff.mp g.1.2.2.1
  refine ⟨a.toNatClampNeg, ?_, iN_of h1.1⟩
  have e1 := cl_ti h1.1
  have e2 := cl_ti h2.1
  unfold ctL; omega
theorem isA_i (g : Gd s m) (hi : i < ctA s) : isA s (Int32.ofNat i) = true := by
  have h2 := bt_iff.mp g.1.1
  have e2 := cl_ti h2.1
  have := g.n0.2
  unfold ctA at *
  refine bt_iff.mpr ?_
  rw [iN_ti (by omega)]; omega
theorem isL_i (g : Gd s m) (hi : i < ctL s) : isL s (Int32.ofNat i) = true := by
  have h2 := bt_iff.mp g.1.2.2.1
  have e2 := cl_ti h2.1
  have := g.n2.2
  unfold ctL at *
  refine bt_iff.mpr ?_
  rw [iN_ti (by omega)]; omega
theorem M_isA {a : Int32} (g : Gd (I 66) m) : Rn X (d + 1) 166 0 [.ref 65, .int a] [] (Mh D I P N) = some ([.int (bI (isA (I 66) a))], Mh D I P N) := by
  have e := t_m1 (bt_iff.mp g.1.1).1
  simp only [B166_0, B166_15, RDm, Option.bind_some, List.append_nil, List.nil_append, List.cons_append, cond_true, cond_false, if_true, if_false, ite_true, ite_false, reduceIte, IC, bI_0, bI_1, bF, Bool.not_eq_false, Bool.not_eq_true, Bool.and_true, Bool.true_and, Bool.and_false, Bool.false_and, Bool.true_or, Bool.or_true, Bool.or_false, Bool.false_or, Bool.not_true, Bool.not_false, decide_true, decide_false, not_true_eq_false, not_false_eq_true, eq_self, Bool.true_eq_false, Bool.false_eq_true, M_bt, L64, Int32.toInt_toInt64, e]
  rfl
theorem M_isL {a : Int32} (g : Gd (I 66) m) : Rn X (d + 1) 167 0 [.ref 65, .int a] [] (Mh D I P N) = some ([.int (bI (isL (I 66) a))], Mh D I P N) := by
  have e := t_m1 (bt_iff.mp g.1.2.2.1).1
  simp only [B167_0, B167_15, RDm, Option.bind_some, List.append_nil, List.nil_append, List.cons_append, cond_true, cond_false, if_true, if_false, ite_true, ite_false, reduceIte, IC, bI_0, bI_1, bF, Bool.not_eq_false, Bool.not_eq_true, Bool.and_true, Bool.true_and, Bool.and_false, Bool.false_and, Bool.true_or, Bool.or_true, Bool.or_false, Bool.false_or, Bool.not_true, Bool.not_false, decide_true, decide_false, not_true_eq_false, not_false_eq_true, eq_self, Bool.true_eq_false, Bool.false_eq_true, M_bt, L64, Int32.toInt_toInt64, e]
  rfl
theorem M_its (hi : i < 9) : Rn X (d + 1) 171 0 [.ref 65, .int (Int32.ofNat i), .int 0] [] (Mh D I P N) = some ([.int (I 66 (7 + 5 * i))], Mh D I P N)
    ∧ Rn X (d + 1) 171 0 [.ref 65, .int (Int32.ofNat i), .int 1] [] (Mh D I P N) = some ([.int (I 66 (7 + 5 * i + 1))], Mh D I P N)
    ∧ Rn X (d + 1) 171 0 [.ref 65, .int (Int32.ofNat i), .int 2] [] (Mh D I P N) = some ([.int (I 66 (7 + 5 * i + 2))], Mh D I P N)
    ∧ Rn X (d + 1) 171 0 [.ref 65, .int (Int32.ofNat i), .int 3] [] (Mh D I P N) = some ([.int (I 66 (7 + 5 * i + 3))], Mh D I P N)
    ∧ Rn X (d + 1) 171 0 [.ref 65, .int (Int32.ofNat i), .int 4] [] (Mh D I P N) = some ([.int (I 66 (7 + 5 * i + 4))], Mh D I P N) := by
  refine ⟨?_, ?_, ?_, ?_, ?_⟩ <;> simp (disch := omega) only [B170_0, B171_0, B171_9, RDm, Option.bind_some, List.append_nil, List.nil_append, List.cons_append, cond_true, cond_false, if_true, if_false, ite_true, ite_false, reduceIte, IC, bI_0, bI_1, bF, Bool.not_eq_false, Bool.not_eq_true, Bool.and_true, Bool.true_and, Bool.and_false, Bool.false_and, Bool.true_or, Bool.or_true, Bool.or_false, Bool.false_or, Bool.not_true, Bool.not_false, decide_true, decide_false, not_true_eq_false, not_false_eq_true, eq_self, Bool.true_eq_false, Bool.false_eq_true, IX, rS]
theorem M_end' (g : Gd (I 66) m) : ∀ k i e, i + k = ctL (I 66) → Rn X (d + 1) 173 4 [.ref 65, .int e, .int (Int32.ofNat i)] [] (Mh D I P N) = some ([.int (endF (I 66) i k e)], Mh D I P N)
  | 0, i, e, hk => by
    have h2 := g.n2
    rw [B173_4]
    simp only [RDm, Option.bind_some, List.append_nil, List.nil_append, List.cons_append, cond_true, cond_false, if_true, if_false, ite_true, ite_false, reduceIte, IC, bI_0, bI_1, bF, Bool.not_eq_false, Bool.not_eq_true, Bool.and_true, Bool.true_and, Bool.and_false, Bool.false_and, Bool.true_or, Bool.or_true, Bool.or_false, Bool.false_or, Bool.not_true, Bool.not_false, decide_true, decide_false, not_true_eq_false, not_false_eq_true, eq_self, Bool.true_eq_false, Bool.false_eq_true, h2.1]
    rw [if_pos (by rw [iN_le (by omega) (by omega)]; omega)]; rfl
  | k + 1, i, e, hk => by
    have h2 := g.n2
    rw [B173_4]
    simp only [RDm, Option.bind_some, List.append_nil, List.nil_append, List.cons_append, cond_true, cond_false, if_true, if_false, ite_true, ite_false, reduceIte, IC, bI_0, bI_1, bF, Bool.not_eq_false, Bool.not_eq_true, Bool.and_true, Bool.true_and, Bool.and_false, Bool.false_and, Bool.true_or, Bool.or_true, Bool.or_false, Bool.false_or, Bool.not_true, Bool.not_false, decide_true, decide_false, not_true_eq_false, not_false_eq_true, eq_self, Bool.true_eq_false, Bool.false_eq_true, h2.1]
    rw [if_neg (by rw [iN_le (by omega) (by omega)]; omega)]
    simp (disch := omega) only [B172_0, B173_20, RDm, Option.bind_some, List.append_nil, List.nil_append, List.cons_append, cond_true, cond_false, if_true, if_false, ite_true, ite_false, reduceIte, IC, bI_0, bI_1, bF, Bool.not_eq_false, Bool.not_eq_true, Bool.and_true, Bool.true_and, Bool.and_false, Bool.false_and, Bool.true_or, Bool.or_true, Bool.or_false, Bool.false_or, Bool.not_true, Bool.not_false, decide_true, decide_false, not_true_eq_false, not_false_eq_true, eq_self, Bool.true_eq_false, Bool.false_eq_true, IX, rS]
    exact M_end' g k (i + 1) _ (by omega)
theorem M_end (g : Gd (I 66) m) : Rn X (d + 1) 173 0 [.ref 65, U_, U_] [] (Mh D I P N) = some ([.int (endV (I 66))], Mh D I P N) := by
  rw [B173_0]; exact M_end' g _ 0 0 (by omega)
theorem M_over (g : Gd (I 66) m) : Rn X (d + 2) 174 0 [.ref 65] [] (Mh D I P N) = some ([.int (bI (ovV (I 66)))], Mh D I P N) := by
  simp only [B174_0, B174_10, B174_18, RDm, Option.bind_some, List.append_nil, List.nil_append, List.cons_append, cond_true, cond_false, if_true, if_false, ite_true, ite_false, reduceIte, IC, bI_0, bI_1, bF, Bool.not_eq_false, Bool.not_eq_true, Bool.and_true, Bool.true_and, Bool.and_false, Bool.false_and, Bool.true_or, Bool.or_true, Bool.or_false, Bool.false_or, Bool.not_true, Bool.not_false, decide_true, decide_false, not_true_eq_false, not_false_eq_true, eq_self, Bool.true_eq_false, Bool.false_eq_true, M_end g]
  unfold ovV
  by_cases h1 : I 66 4 < endV (I 66)
  · rw [if_pos h1, decide_eq_false (by rw [Int32.lt_iff_toInt_lt] at h1; rw [Int32.le_iff_toInt_le]; omega)]; rfl
  · rw [if_neg h1, decide_eq_true (by rw [Int32.lt_iff_toInt_lt] at h1; rw [Int32.le_iff_toInt_le]; omega)]; rfl
theorem M_leg' (g : Gd (I 66) m) : ∀ k i e, i + k = ctL (I 66) → Rn X (d + 1) 175 4 [.ref 65, .int (Int32.ofNat i), .int e] [] (Mh D I P N) = some ([.int (Int32.ofNat (legF (I 66) i k e))], Mh D I P N)
  | 0, i, e, hk => by
    have h2 := g.n2
    rw [B175_4]
    simp only [RDm, Option.bind_some, List.append_nil, List.nil_append, List.cons_append, cond_true, cond_false, if_true, if_false, ite_true, ite_false, reduceIte, IC, bI_0, bI_1, bF, Bool.not_eq_false, Bool.not_eq_true, Bool.and_true, Bool.true_and, Bool.and_false, Bool.false_and, Bool.true_or, Bool.or_true, Bool.or_false, Bool.false_or, Bool.not_true, Bool.not_false, decide_true, decide_false, not_true_eq_false, not_false_eq_true, eq_self, Bool.true_eq_false, Bool.false_eq_true, h2.1]
    rw [if_pos (by rw [iN_le (by omega) (by omega)]; omega)]; rfl
  | k + 1, i, e, hk => by
    have h2 := g.n2
    rw [B175_4]
    simp only [RDm, Option.bind_some, List.append_nil, List.nil_append, List.cons_append, cond_true, cond_false, if_true, if_false, ite_true, ite_false, reduceIte, IC, bI_0, bI_1, bF, Bool.not_eq_false, Bool.not_eq_true, Bool.and_true, Bool.true_and, Bool.and_false, Bool.false_and, Bool.true_or, Bool.or_true, Bool.or_false, Bool.false_or, Bool.not_true, Bool.not_false, decide_true, decide_false, not_true_eq_false, not_false_eq_true, eq_self, Bool.true_eq_false, Bool.false_eq_true, h2.1]
    rw [if_neg (by rw [iN_le (by omega) (by omega)]; omega)]
    simp (disch := omega) only [B172_0, B175_20, RDm, Option.bind_some, List.append_nil, List.nil_append, List.cons_append, cond_true, cond_false, if_true, if_false, ite_true, ite_false, reduceIte, IC, bI_0, bI_1, bF, Bool.not_eq_false, Bool.not_eq_true, Bool.and_true, Bool.true_and, Bool.and_false, Bool.false_and, Bool.true_or, Bool.or_true, Bool.or_false, Bool.false_or, Bool.not_true, Bool.not_false, decide_true, decide_false, not_true_eq_false, not_false_eq_true, eq_self, Bool.true_eq_false, Bool.false_eq_true, IX, rS]
    unfold legF
    split
    · exact M_leg' g k (i + 1) _ (by omega)
    · rfl
theorem M_legN (g : Gd (I 66) m) : Rn X (d + 1) 175 0 [.ref 65, U_, U_] [] (Mh D I P N) = some ([.int (Int32.ofNat (legN (I 66)))], Mh D I P N) := by
  rw [B175_0]; exact M_leg' g _ 0 0 (by omega)
theorem legF_le : ∀ k i e, legF s i k e ≤ i + k
  | 0, _, _ => Nat.le_refl _
  | k + 1, i, e => by
    unfold legF
    split
    · have := legF_le k (i + 1) (e + s (52 + 2 * i)); omega
    · omega
theorem legN_le : legN s ≤ ctL s := by have := legF_le (s := s) (ctL s) 0 0; unfold legN; omega
theorem M_mood (g : Gd (I 66) m) : Rn X (d + 2) 176 0 [.ref 65, U_] [] (Mh D I P N) = some ([.int (moodV (I 66))], Mh D I P N) := by
  have h2 := g.n2
  have h3 := legN_le (s := I 66)
  simp only [B176_0, B176_4, B176_32, RDm, Option.bind_some, List.append_nil, List.nil_append, List.cons_append, cond_true, cond_false, if_true, if_false, ite_true, ite_false, reduceIte, IC, bI_0, bI_1, bF, Bool.not_eq_false, Bool.not_eq_true, Bool.and_true, Bool.true_and, Bool.and_false, Bool.false_and, Bool.true_or, Bool.or_true, Bool.or_false, Bool.false_or, Bool.not_true, Bool.not_false, decide_true, decide_false, not_true_eq_false, not_false_eq_true, eq_self, Bool.true_eq_false, Bool.false_eq_true, M_legN g]
  unfold moodV
  simp (disch := omega) only [h2.1, iN_le]
  by_cases hc : ctL (I 66) ≤ legN (I 66)
  · rw [if_pos hc, if_pos hc]
  · rw [if_neg hc, if_neg hc]
    simp (disch := omega) only [IX, rS, Option.bind_some, List.append_nil, List.nil_append, List.cons_append, cond_true, cond_false, if_true, if_false, ite_true, ite_false, reduceIte, IC, bI_0, bI_1, bF, Bool.not_eq_false, Bool.not_eq_true, Bool.and_true, Bool.true_and, Bool.and_false, Bool.false_and, Bool.true_or, Bool.or_true, Bool.or_false, Bool.false_or, Bool.not_true, Bool.not_false, decide_true, decide_false, not_true_eq_false, not_false_eq_true, eq_self, Bool.true_eq_false, Bool.false_eq_true]
theorem M_und {k a : Int32} : Rn X d 184 0 [.int k, .int a] [] h = some ([.int (bI (undV k a))], h) := by
  simp only [B184_0, B184_19, B184_29, B184_33, B184_34, Option.bind_some, List.append_nil, List.nil_append, List.cons_append, cond_true, cond_false, if_true, if_false, ite_true, ite_false, reduceIte, IC, bI_0, bI_1, bF, Bool.not_eq_false, Bool.not_eq_true, Bool.and_true, Bool.true_and, Bool.and_false, Bool.false_and, Bool.true_or, Bool.or_true, Bool.or_false, Bool.false_or, Bool.not_true, Bool.not_false, decide_true, decide_false, not_true_eq_false, not_false_eq_true, eq_self, Bool.true_eq_false, Bool.false_eq_true]
  unfold undV
  by_cases h1 : a = 0
  · simp [h1, bI]
  by_cases h2 : k = a
  · simp [h2, bI]
  by_cases h3 : a = 2
  · subst h3
    by_cases h4 : k = 3
    · simp [h4, bI]
    · simp [h4, h2, bI]
  by_cases h5 : a = 4
  · subst h5
    by_cases h4 : k = 5
    · simp [h4, bI]
    · simp [h4, h2, bI]
  simp [h1, h2, h3, h5, bI]
theorem M_fct {c : Int32} (g : Gd (I 66) m) (hi : i < 9) : Rn X (d + 3) 185 0 [.ref 65, .int c, .int (Int32.ofNat i)] [] (Mh D I P N) = some ([.int (fctV (I 66) i c)], Mh D I P N) := by
  simp only [B185_0, B185_40, B185_45, B185_52, RDm, Option.bind_some, List.append_nil, List.nil_append, List.cons_append, cond_true, cond_false, if_true, if_false, ite_true, ite_false, reduceIte, IC, bI_0, bI_1, bF, Bool.not_eq_false, Bool.not_eq_true, Bool.and_true, Bool.true_and, Bool.and_false, Bool.false_and, Bool.true_or, Bool.or_true, Bool.or_false, Bool.false_or, Bool.not_true, Bool.not_false, decide_true, decide_false, not_true_eq_false, not_false_eq_true, eq_self, Bool.true_eq_false, Bool.false_eq_true, M_its hi, M_legN g, M_mood g]
  unfold fctV
  by_cases h1 : c = -1
  · subst h1; rfl
  by_cases h2 : c = -2
  · subst h2; rfl
  by_cases h3 : c = -3
  · subst h3; rfl
  by_cases h4 : c = -4
  · subst h4; rfl
  by_cases h5 : c = -5
  · subst h5; rfl
  simp only [h1, h2, h3, h4, h5, if_false]
theorem M_hld {c x y : Int32} : Rn X d 186 0 [.int c, .int x, .int y] [] h = some ([.int (bI (hldC c x y))], h) := by
  simp only [B186_0, B186_54, B186_65, B186_76, B186_91, B186_92, B186_103, B186_108, Option.bind_some, List.append_nil, List.nil_append, List.cons_append, cond_true, cond_false, if_true, if_false, ite_true, ite_false, reduceIte, IC, bI_0, bI_1, bF, Bool.not_eq_false, Bool.not_eq_true, Bool.and_true, Bool.true_and, Bool.and_false, Bool.false_and, Bool.true_or, Bool.or_true, Bool.or_false, Bool.false_or, Bool.not_true, Bool.not_false, decide_true, decide_false, not_true_eq_false, not_false_eq_true, eq_self, Bool.true_eq_false, Bool.false_eq_true]
  unfold hldC
  by_cases h1 : c = -21
  · subst h1
    by_cases h2 : x = 1
    · by_cases h3 : y = 1
      · subst h2; subst h3; rfl
      · subst h2; simp [h3, bI]
    · simp [h2, bI]
  by_cases h2 : c = -13
  · subst h2
    by_cases h3 : y < x
    · have : ¬ x ≤ y := by rw [Int32.lt_iff_toInt_lt] at h3; rw [Int32.le_iff_toInt_le]; omega
      simp [h3, this, bI]
    · have : x ≤ y := by rw [Int32.lt_iff_toInt_lt] at h3; rw [Int32.le_iff_toInt_le]; omega
      simp [h3, this, bI]
  by_cases h3 : c = -12
  · subst h3
    by_cases h4 : x = y
    · simp [h4, bI]
    · simp [h4, bI]
  by_cases h4 : c = -11
  · subst h4
    by_cases h5 : x < y
    · have : ¬ y ≤ x := by rw [Int32.lt_iff_toInt_lt] at h5; rw [Int32.le_iff_toInt_le]; omega
      simp [h5, this, bI]
    · have : y ≤ x := by rw [Int32.lt_iff_toInt_lt] at h5; rw [Int32.le_iff_toInt_le]; omega
      simp [h5, this, bI]
  by_cases h5 : x = 1
  · simp [h1, h2, h3, h4, h5, bI]
  · by_cases h6 : y = 1
    · simp [h1, h2, h3, h4, h5, h6, bI]
    · simp [h1, h2, h3, h4, h5, h6, bI]
theorem M_can (g : Gd (I 66) m) (hi : i < 9) : Rn X (d + 3) 189 0 [.ref 65, .int (Int32.ofNat i)] [] (Mh D I P N) = some ([.int (bI (canV (I 66) i))], Mh D I P N) := by
  simp only [B189_0, B189_4, B189_13, B189_19, B189_28, B189_41, B189_42, RDm, Option.bind_some, List.append_nil, List.nil_append, List.cons_append, cond_true, cond_false, if_true, if_false, ite_true, ite_false, reduceIte, IC, bI_0, bI_1, bF, Bool.not_eq_false, Bool.not_eq_true, Bool.and_true, Bool.true_and, Bool.and_false, Bool.false_and, Bool.true_or, Bool.or_true, Bool.or_false, Bool.false_or, Bool.not_true, Bool.not_false, decide_true, decide_false, not_true_eq_false, not_false_eq_true, eq_self, Bool.true_eq_false, Bool.false_eq_true, M_over g, M_its hi]
  unfold canV
  cases h1 : ovV (I 66) with
  | true => rfl
  | false =>
    by_cases h2 : I 66 (7 + 5 * i + 3) ≤ I 66 (7 + 5 * i + 4)
    · have h3 : ¬ I 66 (7 + 5 * i + 4) < I 66 (7 + 5 * i + 3) := by rw [Int32.le_iff_toInt_le] at h2; rw [Int32.lt_iff_toInt_lt]; omega
      simp [h2, h3, bI]
    · have h3 : I 66 (7 + 5 * i + 4) < I 66 (7 + 5 * i + 3) := by rw [Int32.le_iff_toInt_le] at h2; rw [Int32.lt_iff_toInt_lt]; omega
      by_cases h4 : I 66 5 < I 66 (7 + 5 * i + 2)
      · have h5 : ¬ I 66 (7 + 5 * i + 2) ≤ I 66 5 := by rw [Int32.lt_iff_toInt_lt] at h4; rw [Int32.le_iff_toInt_le]; omega
        simp [h2, h3, h4, h5, bI]
      · have h5 : I 66 (7 + 5 * i + 2) ≤ I 66 5 := by rw [Int32.lt_iff_toInt_lt] at h4; rw [Int32.le_iff_toInt_le]; omega
        simp [h2, h3, h4, h5, bI]
end RefA
