/-! the reference: what one holds now, telling, taking back -/
def whr (r : Option Nat) : Int32 := match r with | none => -1 | some k => Int32.ofNat (86 + 4 * k)
section RefC
variable {X : mX} {d : Nat} {D : Nat → Nat × Nat} {I : Nat → Nat → Int32} {P : Nat → Nat → Option Nat} {N : Nat} {h : mH} {s g : Nat → Int32} {m : Int} {i j k : Nat} {x : Int32}
theorem Gd.a (ok : Gd s m) (hi : i < ctA s) : i < 9 := by have := ok.n0.2; omega
theorem M_h194 {hh l3 l4 l5 l6 l7 : Int32} (ok : Gd s m) (hi : i < ctA s) : Rn X (d + 5) 188 194 [.ref 65, .int (Int32.ofNat i), .int (s (7 + 5 * i)), .int l3, .int l4, .int l5, .int l6, .int l7, U_, U_, U_, U_, U_] [.int hh] (Mh D (R6 I g s) P N)
    = some ([Value.int (if 1 ≤ lstV (s (7 + 5 * i)) hh (moodV s) (s (7 + 5 * i + 4)) then lstV (s (7 + 5 * i)) hh (moodV s) (s (7 + 5 * i + 4)) else 1)], Mh D (R6 I g s) P N) := by
  have h9 := ok.a hi
  have h1 : ¬ (1 + s (7 + 5 * i + 4)) = 0 := by
    have q := bt_iff.mp (ok.2.1 i hi).2.2.2.2
    intro e
    have e2 := congrArg Int32.toInt e
    rw [t_add (by show -2147483648 ≤ 1 + _; omega) (by show 1 + _ < 2147483648; omega)] at e2
    have e3 : (1 : Int32).toInt = 1 := rfl
    have e4 : (0 : Int32).toInt = 0 := rfl
    omega
  have h2 : ¬ (2 : Int32) = 0 := by decide
  simp only [B188_194, B188_200, B188_217, B188_228, B188_247, B188_263, B188_302, B188_316, RDm, Option.bind_some, List.append_nil, List.nil_append, List.cons_append, cond_true, cond_false, if_true, if_false, ite_true, ite_false, reduceIte, IC, bI_0, bI_1, bF, Bool.not_eq_false, Bool.not_eq_true, Bool.and_true, Bool.true_and, Bool.and_false, Bool.false_and, Bool.true_or, Bool.or_true, Bool.or_false, Bool.false_or, Bool.not_true, Bool.not_false, decide_true, decide_false, not_true_eq_false, not_false_eq_true, eq_self, Bool.true_eq_false, Bool.false_eq_true, M_mood (I := R6 I g s) (m := m) ok, M_its (I := R6 I g s) h9, R6_66, h1, h2]
  unfold lstV
  by_cases m2 : moodV s = 2
  · have m1 : ¬ moodV s = 1 := by rw [m2]; decide
    by_cases k1 : s (7 + 5 * i) = 1
    · simp +decide only [m2, m1, k1, Option.bind_some, List.append_nil, List.nil_append, List.cons_append, cond_true, cond_false, if_true, if_false, ite_true, ite_false, reduceIte, IC, bI_0, bI_1, bF, Bool.not_eq_false, Bool.not_eq_true, Bool.and_true, Bool.true_and, Bool.and_false, Bool.false_and, Bool.true_or, Bool.or_true, Bool.or_false, Bool.false_or, Bool.not_true, Bool.not_false, decide_true, decide_false, not_true_eq_false, not_false_eq_true, eq_self, Bool.true_eq_false, Bool.false_eq_true]; split <;> rfl
    by_cases k2 : s (7 + 5 * i) = 2
    · simp +decide only [m2, m1, k1, k2, Option.bind_some, List.append_nil, List.nil_append, List.cons_append, cond_true, cond_false, if_true, if_false, ite_true, ite_false, reduceIte, IC, bI_0, bI_1, bF, Bool.not_eq_false, Bool.not_eq_true, Bool.and_true, Bool.true_and, Bool.and_false, Bool.false_and, Bool.true_or, Bool.or_true, Bool.or_false, Bool.false_or, Bool.not_true, Bool.not_false, decide_true, decide_false, not_true_eq_false, not_false_eq_true, eq_self, Bool.true_eq_false, Bool.false_eq_true]; split <;> rfl
    by_cases k3 : s (7 + 5 * i) = 3
    · simp +decide only [m2, m1, k1, k2, k3, Option.bind_some, List.append_nil, List.nil_append, List.cons_append, cond_true, cond_false, if_true, if_false, ite_true, ite_false, reduceIte, IC, bI_0, bI_1, bF, Bool.not_eq_false, Bool.not_eq_true, Bool.and_true, Bool.true_and, Bool.and_false, Bool.false_and, Bool.true_or, Bool.or_true, Bool.or_false, Bool.false_or, Bool.not_true, Bool.not_false, decide_true, decide_false, not_true_eq_false, not_false_eq_true, eq_self, Bool.true_eq_false, Bool.false_eq_true]; split <;> rfl
    by_cases k4 : s (7 + 5 * i) = 4
    · simp +decide only [m2, m1, k1, k2, k3, k4, Option.bind_some, List.append_nil, List.nil_append, List.cons_append, cond_true, cond_false, if_true, if_false, ite_true, ite_false, reduceIte, IC, bI_0, bI_1, bF, Bool.not_eq_false, Bool.not_eq_true, Bool.and_true, Bool.true_and, Bool.and_false, Bool.false_and, Bool.true_or, Bool.or_true, Bool.or_false, Bool.false_or, Bool.not_true, Bool.not_false, decide_true, decide_false, not_true_eq_false, not_false_eq_true, eq_self, Bool.true_eq_false, Bool.false_eq_true]; split <;> rfl
    simp +decide only [m2, m1, k1, k2, k3, k4, Option.bind_some, List.append_nil, List.nil_append, List.cons_append, cond_true, cond_false, if_true, if_false, ite_true, ite_false, reduceIte, IC, bI_0, bI_1, bF, Bool.not_eq_false, Bool.not_eq_true, Bool.and_true, Bool.true_and, Bool.and_false, Bool.false_and, Bool.true_or, Bool.or_true, Bool.or_false, Bool.false_or, Bool.not_true, Bool.not_false, decide_true, decide_false, not_true_eq_false, not_false_eq_true, eq_self, Bool.true_eq_false, Bool.false_eq_true]; split <;> rfl
  by_cases m1 : moodV s = 1
  · by_cases k1 : s (7 + 5 * i) = 1
    · simp +decide only [m2, m1, k1, Option.bind_some, List.append_nil, List.nil_append, List.cons_append, cond_true, cond_false, if_true, if_false, ite_true, ite_false, reduceIte, IC, bI_0, bI_1, bF, Bool.not_eq_false, Bool.not_eq_true, Bool.and_true, Bool.true_and, Bool.and_false, Bool.false_and, Bool.true_or, Bool.or_true, Bool.or_false, Bool.false_or, Bool.not_true, Bool.not_false, decide_true, decide_false, not_true_eq_false, not_false_eq_true, eq_self, Bool.true_eq_false, Bool.false_eq_true]; split <;> rfl
    by_cases k2 : s (7 + 5 * i) = 2
    · simp +decide only [m2, m1, k1, k2, Option.bind_some, List.append_nil, List.nil_append, List.cons_append, cond_true, cond_false, if_true, if_false, ite_true, ite_false, reduceIte, IC, bI_0, bI_1, bF, Bool.not_eq_false, Bool.not_eq_true, Bool.and_true, Bool.true_and, Bool.and_false, Bool.false_and, Bool.true_or, Bool.or_true, Bool.or_false, Bool.false_or, Bool.not_true, Bool.not_false, decide_true, decide_false, not_true_eq_false, not_false_eq_true, eq_self, Bool.true_eq_false, Bool.false_eq_true]; split <;> rfl
    by_cases k3 : s (7 + 5 * i) = 3
    · simp +decide only [m2, m1, k1, k2, k3, Option.bind_some, List.append_nil, List.nil_append, List.cons_append, cond_true, cond_false, if_true, if_false, ite_true, ite_false, reduceIte, IC, bI_0, bI_1, bF, Bool.not_eq_false, Bool.not_eq_true, Bool.and_true, Bool.true_and, Bool.and_false, Bool.false_and, Bool.true_or, Bool.or_true, Bool.or_false, Bool.false_or, Bool.not_true, Bool.not_false, decide_true, decide_false, not_true_eq_false, not_false_eq_true, eq_self, Bool.true_eq_false, Bool.false_eq_true]; split <;> rfl
    by_cases k4 : s (7 + 5 * i) = 4
    · simp +decide only [m2, m1, k1, k2, k3, k4, Option.bind_some, List.append_nil, List.nil_append, List.cons_append, cond_true, cond_false, if_true, if_false, ite_true, ite_false, reduceIte, IC, bI_0, bI_1, bF, Bool.not_eq_false, Bool.not_eq_true, Bool.and_true, Bool.true_and, Bool.and_false, Bool.false_and, Bool.true_or, Bool.or_true, Bool.or_false, Bool.false_or, Bool.not_true, Bool.not_false, decide_true, decide_false, not_true_eq_false, not_false_eq_true, eq_self, Bool.true_eq_false, Bool.false_eq_true]; split <;> rfl
    simp +decide only [m2, m1, k1, k2, k3, k4, Option.bind_some, List.append_nil, List.nil_append, List.cons_append, cond_true, cond_false, if_true, if_false, ite_true, ite_false, reduceIte, IC, bI_0, bI_1, bF, Bool.not_eq_false, Bool.not_eq_true, Bool.and_true, Bool.true_and, Bool.and_false, Bool.false_and, Bool.true_or, Bool.or_true, Bool.or_false, Bool.false_or, Bool.not_true, Bool.not_false, decide_true, decide_false, not_true_eq_false, not_false_eq_true, eq_self, Bool.true_eq_false, Bool.false_eq_true]; split <;> rfl
  by_cases k1 : s (7 + 5 * i) = 1
  · simp +decide only [m2, m1, k1, Option.bind_some, List.append_nil, List.nil_append, List.cons_append, cond_true, cond_false, if_true, if_false, ite_true, ite_false, reduceIte, IC, bI_0, bI_1, bF, Bool.not_eq_false, Bool.not_eq_true, Bool.and_true, Bool.true_and, Bool.and_false, Bool.false_and, Bool.true_or, Bool.or_true, Bool.or_false, Bool.false_or, Bool.not_true, Bool.not_false, decide_true, decide_false, not_true_eq_false, not_false_eq_true, eq_self, Bool.true_eq_false, Bool.false_eq_true]; split <;> rfl
  by_cases k2 : s (7 + 5 * i) = 2
  · simp +decide only [m2, m1, k1, k2, Option.bind_some, List.append_nil, List.nil_append, List.cons_append, cond_true, cond_false, if_true, if_false, ite_true, ite_false, reduceIte, IC, bI_0, bI_1, bF, Bool.not_eq_false, Bool.not_eq_true, Bool.and_true, Bool.true_and, Bool.and_false, Bool.false_and, Bool.true_or, Bool.or_true, Bool.or_false, Bool.false_or, Bool.not_true, Bool.not_false, decide_true, decide_false, not_true_eq_false, not_false_eq_true, eq_self, Bool.true_eq_false, Bool.false_eq_true]; split <;> rfl
  by_cases k3 : s (7 + 5 * i) = 3
  · simp +decide only [m2, m1, k1, k2, k3, Option.bind_some, List.append_nil, List.nil_append, List.cons_append, cond_true, cond_false, if_true, if_false, ite_true, ite_false, reduceIte, IC, bI_0, bI_1, bF, Bool.not_eq_false, Bool.not_eq_true, Bool.and_true, Bool.true_and, Bool.and_false, Bool.false_and, Bool.true_or, Bool.or_true, Bool.or_false, Bool.false_or, Bool.not_true, Bool.not_false, decide_true, decide_false, not_true_eq_false, not_false_eq_true, eq_self, Bool.true_eq_false, Bool.false_eq_true]; split <;> rfl
  by_cases k4 : s (7 + 5 * i) = 4
  · simp +decide only [m2, m1, k1, k2, k3, k4, Option.bind_some, List.append_nil, List.nil_append, List.cons_append, cond_true, cond_false, if_true, if_false, ite_true, ite_false, reduceIte, IC, bI_0, bI_1, bF, Bool.not_eq_false, Bool.not_eq_true, Bool.and_true, Bool.true_and, Bool.and_false, Bool.false_and, Bool.true_or, Bool.or_true, Bool.or_false, Bool.false_or, Bool.not_true, Bool.not_false, decide_true, decide_false, not_true_eq_false, not_false_eq_true, eq_self, Bool.true_eq_false, Bool.false_eq_true]; split <;> rfl
  simp +decide only [m2, m1, k1, k2, k3, k4, Option.bind_some, List.append_nil, List.nil_append, List.cons_append, cond_true, cond_false, if_true, if_false, ite_true, ite_false, reduceIte, IC, bI_0, bI_1, bF, Bool.not_eq_false, Bool.not_eq_true, Bool.and_true, Bool.true_and, Bool.and_false, Bool.false_and, Bool.true_or, Bool.or_true, Bool.or_false, Bool.false_or, Bool.not_true, Bool.not_false, decide_true, decide_false, not_true_eq_false, not_false_eq_true, eq_self, Bool.true_eq_false, Bool.false_eq_true]; split <;> rfl
theorem M_h181 {hh l3 l4 l5 l6 l7 : Int32} (ok : Gd s m) (hi : i < ctA s) : Rn X (d + 5) 188 181 [.ref 65, .int (Int32.ofNat i), .int (s (7 + 5 * i)), .int l3, .int l4, .int l5, .int l6, .int l7, U_, U_, U_, U_, U_] [.int hh] (Mh D (R6 I g s) P N)
    = some ([Value.int (if 1 ≤ lstV (s (7 + 5 * i)) (if 0 ≤ hh then hh else 0) (moodV s) (s (7 + 5 * i + 4)) then lstV (s (7 + 5 * i)) (if 0 ≤ hh then hh else 0) (moodV s) (s (7 + 5 * i + 4)) else 1)], Mh D (R6 I g s) P N) := by
  rw [B188_181]
  by_cases h1 : 0 ≤ hh
  · rw [if_pos h1, M_h194 ok hi, if_pos h1]
  · rw [if_neg h1, M_h194 ok hi, if_neg h1]
theorem M_h98 {l4 l5 : Int32} {l6 : Value} (ok : Gd s m) (hi : i < ctA s) (r : Option Nat) (hr : ∀ k, r = some k → k < 8) : Rn X (d + 5) 188 98 [.ref 65, .int (Int32.ofNat i), .int (s (7 + 5 * i)), .int (whr r), .int l4, .int l5, l6, U_, U_, U_, U_, U_, U_] [] (Mh D (R6 I g s) P N)
    = some ([.int (hl2 s i r)], Mh D (R6 I g s) P N) := by
  have h9 := ok.a hi
  match r, hr with
  | none, _ =>
    simp only [whr]
    rw [B188_98, if_neg (by decide), B188_114, if_neg (by decide)]
    simp only [B188_132, Option.bind_some, List.append_nil, List.nil_append, List.cons_append, cond_true, cond_false, if_true, if_false, ite_true, ite_false, reduceIte, IC, bI_0, bI_1, bF, Bool.not_eq_false, Bool.not_eq_true, Bool.and_true, Bool.true_and, Bool.and_false, Bool.false_and, Bool.true_or, Bool.or_true, Bool.or_false, Bool.false_or, Bool.not_true, Bool.not_false, decide_true, decide_false, not_true_eq_false, not_false_eq_true, eq_self, Bool.true_eq_false, Bool.false_eq_true, M_its (I := R6 I g s) h9, R6_66, B188_140]
    rw [if_pos (by decide), if_pos (by decide), if_pos (by decide), M_h181 ok hi]
    rfl
  | some k, hr =>
    have hk := hr k rfl
    simp only [whr]
    rw [B188_98, if_pos (by rw [iN_0le (by omega)]; trivial)]
    simp (disch := omega) only [RDm, Option.bind_some, List.append_nil, List.nil_append, List.cons_append, cond_true, cond_false, if_true, if_false, ite_true, ite_false, reduceIte, IC, bI_0, bI_1, bF, Bool.not_eq_false, Bool.not_eq_true, Bool.and_true, Bool.true_and, Bool.and_false, Bool.false_and, Bool.true_or, Bool.or_true, Bool.or_false, Bool.false_or, Bool.not_true, Bool.not_false, decide_true, decide_false, not_true_eq_false, not_false_eq_true, eq_self, Bool.true_eq_false, Bool.false_eq_true, IX, rS, R6_66]
    rw [B188_114, if_pos (by rw [iN_0le (by omega)]; trivial)]
    simp (disch := omega) only [RDm, Option.bind_some, List.append_nil, List.nil_append, List.cons_append, cond_true, cond_false, if_true, if_false, ite_true, ite_false, reduceIte, IC, bI_0, bI_1, bF, Bool.not_eq_false, Bool.not_eq_true, Bool.and_true, Bool.true_and, Bool.and_false, Bool.false_and, Bool.true_or, Bool.or_true, Bool.or_false, Bool.false_or, Bool.not_true, Bool.not_false, decide_true, decide_false, not_true_eq_false, not_false_eq_true, eq_self, Bool.true_eq_false, Bool.false_eq_true, IX, rS, R6_66, B188_132, M_its (I := R6 I g s) h9, B188_140, M_h181 ok hi]
    show _ = some ([Value.int (if 1 ≤ lstV (s (7 + 5 * i)) (if 0 ≤ hR0 s i (some k) then hR0 s i (some k) else 0) (moodV s) (s (7 + 5 * i + 4)) then lstV (s (7 + 5 * i)) (if 0 ≤ hR0 s i (some k) then hR0 s i (some k) else 0) (moodV s) (s (7 + 5 * i + 4)) else 1)], _)
    unfold hR0
    by_cases e0 : s (86 + 4 * k + 1) = 0
    · simp +decide only [e0, Option.bind_some, List.append_nil, List.nil_append, List.cons_append, cond_true, cond_false, if_true, if_false, ite_true, ite_false, reduceIte, IC, bI_0, bI_1, bF, Bool.not_eq_false, Bool.not_eq_true, Bool.and_true, Bool.true_and, Bool.and_false, Bool.false_and, Bool.true_or, Bool.or_true, Bool.or_false, Bool.false_or, Bool.not_true, Bool.not_false, decide_true, decide_false, not_true_eq_false, not_false_eq_true, eq_self, Bool.true_eq_false, Bool.false_eq_true]
    by_cases e1 : s (86 + 4 * k + 1) = 1
    · simp +decide only [e0, e1, Option.bind_some, List.append_nil, List.nil_append, List.cons_append, cond_true, cond_false, if_true, if_false, ite_true, ite_false, reduceIte, IC, bI_0, bI_1, bF, Bool.not_eq_false, Bool.not_eq_true, Bool.and_true, Bool.true_and, Bool.and_false, Bool.false_and, Bool.true_or, Bool.or_true, Bool.or_false, Bool.false_or, Bool.not_true, Bool.not_false, decide_true, decide_false, not_true_eq_false, not_false_eq_true, eq_self, Bool.true_eq_false, Bool.false_eq_true]
    by_cases e2 : s (86 + 4 * k + 1) = 2
    · simp +decide only [e0, e1, e2, Option.bind_some, List.append_nil, List.nil_append, List.cons_append, cond_true, cond_false, if_true, if_false, ite_true, ite_false, reduceIte, IC, bI_0, bI_1, bF, Bool.not_eq_false, Bool.not_eq_true, Bool.and_true, Bool.true_and, Bool.and_false, Bool.false_and, Bool.true_or, Bool.or_true, Bool.or_false, Bool.false_or, Bool.not_true, Bool.not_false, decide_true, decide_false, not_true_eq_false, not_false_eq_true, eq_self, Bool.true_eq_false, Bool.false_eq_true]
    simp +decide only [e0, e1, e2, Option.bind_some, List.append_nil, List.nil_append, List.cons_append, cond_true, cond_false, if_true, if_false, ite_true, ite_false, reduceIte, IC, bI_0, bI_1, bF, Bool.not_eq_false, Bool.not_eq_true, Bool.and_true, Bool.true_and, Bool.and_false, Bool.false_and, Bool.true_or, Bool.or_true, Bool.or_false, Bool.false_or, Bool.not_true, Bool.not_false, decide_true, decide_false, not_true_eq_false, not_false_eq_true, eq_self, Bool.true_eq_false, Bool.false_eq_true]
theorem Ok.en (ok : Ok s m) (hj : j < ctR s) : s (86 + 4 * j + 3) = Int32.ofNat (enN s j) ∧ enN s j ≤ 202 ∧ frm s j ≤ enN s j := by
  have q := ok.2 j hj
  have q2 := bt_iff.mp q.2.2.2.1
  have := cl_ti q2.1
  exact ⟨iN_of q2.1, by unfold enN; omega, q.2.2.2.2.1⟩
theorem M_rl (ok : Ok s m) (hi : i < 9) : ∀ k j g f l6, j + k = ctR s → f = frm s j →
    ∃ g' x4 x5 l6', Rn X (d + 5) 188 15 [.ref 65, .int (Int32.ofNat i), .int (s (7 + 5 * i)), .int (-1), .int (Int32.ofNat f), .int (Int32.ofNat j), l6, U_, U_, U_, U_, U_, U_] [] (Mh D (R6 I g s) P N)
      = Rn X (d + 5) 188 98 [.ref 65, .int (Int32.ofNat i), .int (s (7 + 5 * i)), .int (whr (rulF s i j k f)), .int x4, .int x5, l6', U_, U_, U_, U_, U_, U_] [] (Mh D (R6 I g' s) P N)
  | 0, j, g, f, l6, hk, _ => by
    have h1 := ok.1.n1
    refine ⟨g, Int32.ofNat f, Int32.ofNat j, l6, ?_⟩
    rw [B188_15]
    simp only [RDm, Option.bind_some, List.append_nil, List.nil_append, List.cons_append, cond_true, cond_false, if_true, if_false, ite_true, ite_false, reduceIte, IC, bI_0, bI_1, bF, Bool.not_eq_false, Bool.not_eq_true, Bool.and_true, Bool.true_and, Bool.and_false, Bool.false_and, Bool.true_or, Bool.or_true, Bool.or_false, Bool.false_or, Bool.not_true, Bool.not_false, decide_true, decide_false, not_true_eq_false, not_false_eq_true, eq_self, Bool.true_eq_false, Bool.false_eq_true, R6_66, h1.1]
    rw [if_pos (by rw [iN_le (by omega) (by omega)]; omega)]
    rfl
  | k + 1, j, g, f, l6, hk, hf => by
    have h1 := ok.1.n1
    obtain ⟨e1, e2, e3⟩ := ok.en (j := j) (by omega)
    have hst : ∀ g, ∃ g' x4 x5 l6', Rn X (d + 5) 188 79 [.ref 65, .int (Int32.ofNat i), .int (s (7 + 5 * i)), .int (-1), .int (Int32.ofNat f), .int (Int32.ofNat j), .int (86 + 4 * Int32.ofNat j), U_, U_, U_, U_, U_, U_] [] (Mh D (R6 I g s) P N)
        = Rn X (d + 5) 188 98 [.ref 65, .int (Int32.ofNat i), .int (s (7 + 5 * i)), .int (whr (rulF s i (j + 1) k (enN s j))), .int x4, .int x5, l6', U_, U_, U_, U_, U_, U_] [] (Mh D (R6 I g' s) P N) := by
      intro g
      rw [B188_79, B188_80]
      simp (disch := omega) only [RDm, Option.bind_some, List.append_nil, List.nil_append, List.cons_append, cond_true, cond_false, if_true, if_false, ite_true, ite_false, reduceIte, IC, bI_0, bI_1, bF, Bool.not_eq_false, Bool.not_eq_true, Bool.and_true, Bool.true_and, Bool.and_false, Bool.false_and, Bool.true_or, Bool.or_true, Bool.or_false, Bool.false_or, Bool.not_true, Bool.not_false, decide_true, decide_false, not_true_eq_false, not_false_eq_true, eq_self, Bool.true_eq_false, Bool.false_eq_true, R6_66, IX, rS]
      rw [e1]
      exact M_rl ok hi k (j + 1) g (enN s j) _ (by omega) rfl
    rw [B188_15]
    simp (disch := omega) only [RDm, Option.bind_some, List.append_nil, List.nil_append, List.cons_append, cond_true, cond_false, if_true, if_false, ite_true, ite_false, reduceIte, IC, bI_0, bI_1, bF, Bool.not_eq_false, Bool.not_eq_true, Bool.and_true, Bool.true_and, Bool.and_false, Bool.false_and, Bool.true_or, Bool.or_true, Bool.or_false, Bool.false_or, Bool.not_true, Bool.not_false, decide_true, decide_false, not_true_eq_false, not_false_eq_true, eq_self, Bool.true_eq_false, Bool.false_eq_true, R6_66, h1.1, iN_le]
    rw [if_neg (by omega), if_neg (by decide)]
    simp (disch := omega) only [RDm, Option.bind_some, List.append_nil, List.nil_append, List.cons_append, cond_true, cond_false, if_true, if_false, ite_true, ite_false, reduceIte, IC, bI_0, bI_1, bF, Bool.not_eq_false, Bool.not_eq_true, Bool.and_true, Bool.true_and, Bool.and_false, Bool.false_and, Bool.true_or, Bool.or_true, Bool.or_false, Bool.false_or, Bool.not_true, Bool.not_false, decide_true, decide_false, not_true_eq_false, not_false_eq_true, eq_self, Bool.true_eq_false, Bool.false_eq_true, R6_66, IX, rS, M_und, B188_52]
    unfold rulF
    cases hu : undV (s (7 + 5 * i)) (s (86 + 4 * j)) with
    | false =>
      rw [if_pos rfl]
      have q := hst g
      simp only [IX] at q
      simp only [Bool.false_and, Bool.false_eq_true, if_false]
      exact q
    | true =>
      rw [if_neg (by simp)]
      obtain ⟨-, -, -, -, -, q6⟩ := ok.2 j (by omega)
      obtain ⟨st, hst2, -⟩ := q6 (fctV s i)
      rw [← hf] at hst2
      obtain ⟨g1, hg1⟩ := M_so (X := X) (d := d) (D := D) (I := I) (P := P) (N := N) (g := g) ok.1 hi e2 (hf ▸ e3) hst2
      rw [e1, hg1]
      simp only [Option.bind_some, List.append_nil, List.nil_append, List.cons_append, cond_true, cond_false, if_true, if_false, ite_true, ite_false, reduceIte, IC, bI_0, bI_1, bF, Bool.not_eq_false, Bool.not_eq_true, Bool.and_true, Bool.true_and, Bool.and_false, Bool.false_and, Bool.true_or, Bool.or_true, Bool.or_false, Bool.false_or, Bool.not_true, Bool.not_false, decide_true, decide_false, not_true_eq_false, not_false_eq_true, eq_self, Bool.true_eq_false, Bool.false_eq_true, B188_71]
      have e9 : (Int32.ofNat (enN s j)).toNatClampNeg = enN s j := iN_cl (by omega)
      rw [e9]
      cases hs : soV s f (enN s j) i with
      | false =>
        rw [if_pos rfl]
        have q := hst g1
        simp only [IX] at q
        simp only [Bool.and_false, Bool.false_eq_true, if_false]
        exact q
      | true =>
        rw [if_neg (by simp), B188_80]
        simp (disch := omega) only [RDm, Option.bind_some, List.append_nil, List.nil_append, List.cons_append, cond_true, cond_false, if_true, if_false, ite_true, ite_false, reduceIte, IC, bI_0, bI_1, bF, Bool.not_eq_false, Bool.not_eq_true, Bool.and_true, Bool.true_and, Bool.and_false, Bool.false_and, Bool.true_or, Bool.or_true, Bool.or_false, Bool.false_or, Bool.not_true, Bool.not_false, decide_true, decide_false, not_true_eq_false, not_false_eq_true, eq_self, Bool.true_eq_false, Bool.false_eq_true, R6_66, IX, rS]
        rw [B188_15]
        simp (disch := omega) only [RDm, Option.bind_some, List.append_nil, List.nil_append, List.cons_append, cond_true, cond_false, if_true, if_false, ite_true, ite_false, reduceIte, IC, bI_0, bI_1, bF, Bool.not_eq_false, Bool.not_eq_true, Bool.and_true, Bool.true_and, Bool.and_false, Bool.false_and, Bool.true_or, Bool.or_true, Bool.or_false, Bool.false_or, Bool.not_true, Bool.not_false, decide_true, decide_false, not_true_eq_false, not_false_eq_true, eq_self, Bool.true_eq_false, Bool.false_eq_true, R6_66, h1.1]
        refine ⟨g1, Int32.ofNat (enN s j), Int32.ofNat (j + 1), .int (Int32.ofNat (86 + 4 * j)), ?_⟩
        simp (disch := omega) only [iN_0le, if_true, ite_self]
        rw [e1]
        rfl
theorem rulF_lt : ∀ k j f r, rulF s i j k f = some r → r < j + k
  | 0, _, _, _, h => by cases h
  | k + 1, j, f, r, h => by
    unfold rulF at h
    split at h
    · cases h; omega
    · have := rulF_lt k (j + 1) _ r h; omega
theorem M_hold (ok : Ok s m) (hi : i < ctA s) (g : Nat → Int32) : ∃ g', Rn X (d + 5) 188 0 [.ref 65, .int (Int32.ofNat i), U_, U_, U_, U_, U_, U_, U_, U_, U_, U_, U_] [] (Mh D (R6 I g s) P N) = some ([.int (hldV s i)], Mh D (R6 I g' s) P N) := by
  have h9 := ok.1.a hi
  obtain ⟨g', x4, x5, l6', e⟩ := M_rl (X := X) (d := d) (D := D) (I := I) (P := P) (N := N) ok h9 (ctR s) 0 g 0 U_ (by omega) rfl
  refine ⟨g', ?_⟩
  rw [B188_0]
  simp only [Option.bind_some, List.append_nil, List.nil_append, List.cons_append, cond_true, cond_false, if_true, if_false, ite_true, ite_false, reduceIte, IC, bI_0, bI_1, bF, Bool.not_eq_false, Bool.not_eq_true, Bool.and_true, Bool.true_and, Bool.and_false, Bool.false_and, Bool.true_or, Bool.or_true, Bool.or_false, Bool.false_or, Bool.not_true, Bool.not_false, decide_true, decide_false, not_true_eq_false, not_false_eq_true, eq_self, Bool.true_eq_false, Bool.false_eq_true, M_its (I := R6 I g s) h9, R6_66, B188_6]
  refine Eq.trans e ?_
  refine (M_h98 ok.1 hi _ (fun k hk => ?_)).trans rfl
  have h1 := rulF_lt _ _ _ _ hk
  have h2 := ok.1.n1
  omega
theorem M_tel (ok : Ok s m) (hi : i < ctA s) (g : Nat → Int32) : ∃ g', Rn X (d + 6) 196 0 [.ref 65, .int (Int32.ofNat i), U_, U_] [] (Mh D (R6 I g s) P N) = some ([.int (pasV s i)], Mh D (R6 I g' (telS s i)) P N) := by
  have h9 := ok.1.a hi
  obtain ⟨g', e⟩ := M_hold (X := X) (d := d) (D := D) (I := I) (P := P) (N := N) ok hi g
  refine ⟨g', ?_⟩
  have h28 : ∀ x, Rn X (d + 6) 196 28 [.ref 65, .int (Int32.ofNat i), .int (endV s - s 4), .int (hldV s i)] [.int x] (Mh D (R6 I g' s) P N) = some ([.int x], Mh D (R6 I g' (upd (upd (upd s 4 (s 4 + x)) 5 (s 5 - s (7 + 5 * i + 2))) (7 + 5 * i + 4) (s (7 + 5 * i + 4) + 1))) P N) := by
    intro x
    simp (disch := omega) only [B196_28, RDm, WRm, Option.bind_some, List.append_nil, List.nil_append, List.cons_append, cond_true, cond_false, if_true, if_false, ite_true, ite_false, reduceIte, IC, bI_0, bI_1, bF, Bool.not_eq_false, Bool.not_eq_true, Bool.and_true, Bool.true_and, Bool.and_false, Bool.false_and, Bool.true_or, Bool.or_true, Bool.or_false, Bool.false_or, Bool.not_true, Bool.not_false, decide_true, decide_false, not_true_eq_false, not_false_eq_true, eq_self, Bool.true_eq_false, Bool.false_eq_true, R6_66, R6_w, M_its (I := R6 I g' (upd s 4 (s 4 + x))) h9, upd_o, B196_52]
    simp (disch := omega) only [RDm, WRm, Option.bind_some, List.append_nil, List.nil_append, List.cons_append, cond_true, cond_false, if_true, if_false, ite_true, ite_false, reduceIte, IC, bI_0, bI_1, bF, Bool.not_eq_false, Bool.not_eq_true, Bool.and_true, Bool.true_and, Bool.and_false, Bool.false_and, Bool.true_or, Bool.or_true, Bool.or_false, Bool.false_or, Bool.not_true, Bool.not_false, decide_true, decide_false, not_true_eq_false, not_false_eq_true, eq_self, Bool.true_eq_false, Bool.false_eq_true, R6_66, R6_w, B170_0, B196_63, IX, rS, wS, upd_o]
  rw [B196_0]
  simp only [Option.bind_some, List.append_nil, List.nil_append, List.cons_append, cond_true, cond_false, if_true, if_false, ite_true, ite_false, reduceIte, IC, bI_0, bI_1, bF, Bool.not_eq_false, Bool.not_eq_true, Bool.and_true, Bool.true_and, Bool.and_false, Bool.false_and, Bool.true_or, Bool.or_true, Bool.or_false, Bool.false_or, Bool.not_true, Bool.not_false, decide_true, decide_false, not_true_eq_false, not_false_eq_true, eq_self, Bool.true_eq_false, Bool.false_eq_true, M_end (I := R6 I g s) (m := m) ok.1, B196_4, RDm, R6_66]
  rw [e]
  simp only [Option.bind_some, List.append_nil, List.nil_append, List.cons_append, cond_true, cond_false, if_true, if_false, ite_true, ite_false, reduceIte, IC, bI_0, bI_1, bF, Bool.not_eq_false, Bool.not_eq_true, Bool.and_true, Bool.true_and, Bool.and_false, Bool.false_and, Bool.true_or, Bool.or_true, Bool.or_false, Bool.false_or, Bool.not_true, Bool.not_false, decide_true, decide_false, not_true_eq_false, not_false_eq_true, eq_self, Bool.true_eq_false, Bool.false_eq_true, B196_17, h28]
  unfold telS pasV
  split <;> rfl
theorem M_tak (hi : i < 9) (p : Int32) : Rn X (d + 2) 197 0 [.ref 65, .int (Int32.ofNat i), .int p] [] (Mh D (R6 I g s) P N) = some ([], Mh D (R6 I g (upd (upd (upd s 4 (s 4 - p)) 5 (s 5 + s (7 + 5 * i + 2))) (7 + 5 * i + 4) (s (7 + 5 * i + 4) - 1))) P N) := by
  simp (disch := omega) only [B197_0, RDm, WRm, Option.bind_some, List.append_nil, List.nil_append, List.cons_append, cond_true, cond_false, if_true, if_false, ite_true, ite_false, reduceIte, IC, bI_0, bI_1, bF, Bool.not_eq_false, Bool.not_eq_true, Bool.and_true, Bool.true_and, Bool.and_false, Bool.false_and, Bool.true_or, Bool.or_true, Bool.or_false, Bool.false_or, Bool.not_true, Bool.not_false, decide_true, decide_false, not_true_eq_false, not_false_eq_true, eq_self, Bool.true_eq_false, Bool.false_eq_true, R6_66, R6_w, M_its (I := R6 I g (upd s 4 (s 4 - p))) hi, upd_o, B197_23]
  simp (disch := omega) only [RDm, WRm, Option.bind_some, List.append_nil, List.nil_append, List.cons_append, cond_true, cond_false, if_true, if_false, ite_true, ite_false, reduceIte, IC, bI_0, bI_1, bF, Bool.not_eq_false, Bool.not_eq_true, Bool.and_true, Bool.true_and, Bool.and_false, Bool.false_and, Bool.true_or, Bool.or_true, Bool.or_false, Bool.false_or, Bool.not_true, Bool.not_false, decide_true, decide_false, not_true_eq_false, not_false_eq_true, eq_self, Bool.true_eq_false, Bool.false_eq_true, R6_66, R6_w, B170_0, B197_34, IX, rS, wS, upd_o]
theorem tel_tak (hi : i < 9) : upd (upd (upd (telS s i) 4 (telS s i 4 - pasV s i)) 5 (telS s i 5 + telS s i (7 + 5 * i + 2))) (7 + 5 * i + 4) (telS s i (7 + 5 * i + 4) - 1) = s := by
  have e4 : telS s i 4 = s 4 + pasV s i := by unfold telS; rw [upd_o (by omega), upd_o (by omega), upd_s]
  have e5 : telS s i 5 = s 5 - s (7 + 5 * i + 2) := by unfold telS; rw [upd_o (by omega), upd_s]
  have e7 : telS s i (7 + 5 * i + 2) = s (7 + 5 * i + 2) := by unfold telS; rw [upd_o (by omega), upd_o (by omega), upd_o (by omega)]
  have e8 : telS s i (7 + 5 * i + 4) = s (7 + 5 * i + 4) + 1 := by unfold telS; rw [upd_s]
  rw [e4, e5, e7, e8, Int32.add_sub_cancel, Int32.sub_add_cancel, Int32.add_sub_cancel]
  funext j
  by_cases h1 : j = 7 + 5 * i + 4
  · subst h1; rw [upd_s]
  rw [upd_o h1]
  by_cases h2 : j = 5
  · subst h2; rw [upd_s]
  rw [upd_o h2]
  by_cases h3 : j = 4
  · subst h3; rw [upd_s]
  rw [upd_o h3]
  unfold telS
  rw [upd_o h1, upd_o h2, upd_o h3]
theorem M_telB (hi : i < 9) : Rn X (d + 2) 197 0 [.ref 65, .int (Int32.ofNat i), .int (pasV s i)] [] (Mh D (R6 I g (telS s i)) P N) = some ([], Mh D (R6 I g s) P N) := by
  rw [M_tak hi, tel_tak hi]
end RefC
