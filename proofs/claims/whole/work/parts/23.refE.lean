/-! the reference: ways, far, kind -/
section RefE
variable {X : mX} {d : Nat} {D : Nat → Nat × Nat} {I : Nat → Nat → Int32} {P : Nat → Nat → Option Nat} {N : Nat} {h : mH} {s g c : Nat → Int32} {m : Int} {i j k n p : Nat} {x v w : Int32}

theorem M_way1 (hm : m ≤ 10) (n : Nat) (hn : n + 1 ≤ 4)
    (IH : ∀ s g, Ok s m → ∃ g', Rn X (d + n + 7) 205 0 [.ref 65, .int (Int32.ofNat n), U_, U_, U_] [] (Mh D (R6 I g s) P N) = some ([.int (wayF n s)], Mh D (R6 I g' s) P N))
    (ok : Ok s m) : ∀ k i g acc l4, i + k = ctA s →
    ∃ g', Rn X (d + (n + 1) + 7) 205 13 [.ref 65, .int (Int32.ofNat (n + 1)), .int acc, .int (Int32.ofNat i), l4] [] (Mh D (R6 I g s) P N)
      = some ([.int (foldA (fun a acc => bif canV s a then acc + wayF n (telS s a) else acc) i k acc)], Mh D (R6 I g' s) P N)
  | 0, i, g, acc, l4, hk => by
    have h0 := ok.1.n0
    refine ⟨g, ?_⟩
    rw [B205_13]
    simp (disch := omega) only [RDm, Option.bind_some, List.append_nil, List.nil_append, List.cons_append, cond_true, cond_false, if_true, if_false, ite_true, ite_false, reduceIte, IC, bI_0, bI_1, bF, Bool.not_eq_false, Bool.not_eq_true, Bool.and_true, Bool.true_and, Bool.and_false, Bool.false_and, Bool.true_or, Bool.or_true, Bool.or_false, Bool.false_or, Bool.not_true, Bool.not_false, decide_true, decide_false, not_true_eq_false, not_false_eq_true, eq_self, Bool.true_eq_false, Bool.false_eq_true, R6_66, h0.1, iN_le]
    rw [if_pos (by omega), B205_65]
    rfl
  | k + 1, i, g, acc, l4, hk => by
    have h0 := ok.1.n0
    rw [B205_13]
    simp (disch := omega) only [RDm, Option.bind_some, List.append_nil, List.nil_append, List.cons_append, cond_true, cond_false, if_true, if_false, ite_true, ite_false, reduceIte, IC, bI_0, bI_1, bF, Bool.not_eq_false, Bool.not_eq_true, Bool.and_true, Bool.true_and, Bool.and_false, Bool.false_and, Bool.true_or, Bool.or_true, Bool.or_false, Bool.false_or, Bool.not_true, Bool.not_false, decide_true, decide_false, not_true_eq_false, not_false_eq_true, eq_self, Bool.true_eq_false, Bool.false_eq_true, R6_66, h0.1, iN_le]
    rw [if_neg (by omega), if_neg (by rw [Int32.le_iff_toInt_le, iN_ti (by omega), z_ti]; omega)]
    simp (disch := omega) only [M_can (I := R6 I g s) (m := m) ok.1 (show i < 9 by omega), Option.bind_some, List.append_nil, List.nil_append, List.cons_append, cond_true, cond_false, if_true, if_false, ite_true, ite_false, reduceIte, IC, bI_0, bI_1, bF, Bool.not_eq_false, Bool.not_eq_true, Bool.and_true, Bool.true_and, Bool.and_false, Bool.false_and, Bool.true_or, Bool.or_true, Bool.or_false, Bool.false_or, Bool.not_true, Bool.not_false, decide_true, decide_false, not_true_eq_false, not_false_eq_true, eq_self, Bool.true_eq_false, Bool.false_eq_true, R6_66, B205_32]
    unfold foldA
    cases hc : canV s i with
    | false =>
      simp only [Option.bind_some, List.append_nil, List.nil_append, List.cons_append, cond_true, cond_false, if_true, if_false, ite_true, ite_false, reduceIte, IC, bI_0, bI_1, bF, Bool.not_eq_false, Bool.not_eq_true, Bool.and_true, Bool.true_and, Bool.and_false, Bool.false_and, Bool.true_or, Bool.or_true, Bool.or_false, Bool.false_or, Bool.not_true, Bool.not_false, decide_true, decide_false, not_true_eq_false, not_false_eq_true, eq_self, Bool.true_eq_false, Bool.false_eq_true, B205_59, IX, Bool.false_eq_true]
      exact M_way1 hm n hn IH ok k (i + 1) g acc l4 (by omega)
    | true =>
      obtain ⟨g1, e1⟩ := M_tel (X := X) (d := d + n + 1) (D := D) (I := I) (P := P) (N := N) ok (show i < ctA s by omega) g
      rw [show d + n + 1 + 6 = d + (n + 1) + 6 by omega] at e1
      obtain ⟨g2, e2⟩ := IH (telS s i) g1 (ok.tel hm (by omega) hc)
      rw [show d + n + 7 = d + (n + 1) + 6 by omega] at e2
      simp only [Bool.true_eq_false, Option.bind_some, List.append_nil, List.nil_append, List.cons_append, cond_true, cond_false, if_true, if_false, ite_true, ite_false, reduceIte, IC, bI_0, bI_1, bF, Bool.not_eq_false, Bool.not_eq_true, Bool.and_true, Bool.true_and, Bool.and_false, Bool.false_and, Bool.true_or, Bool.or_true, Bool.or_false, Bool.false_or, Bool.not_true, Bool.not_false, decide_true, decide_false, not_true_eq_false, not_false_eq_true, eq_self, Bool.true_eq_false, Bool.false_eq_true, e1, B205_40, iN_p1, IX, e2]
      simp only [B205_50, Option.bind_some, List.append_nil, List.nil_append, List.cons_append, cond_true, cond_false, if_true, if_false, ite_true, ite_false, reduceIte, IC, bI_0, bI_1, bF, Bool.not_eq_false, Bool.not_eq_true, Bool.and_true, Bool.true_and, Bool.and_false, Bool.false_and, Bool.true_or, Bool.or_true, Bool.or_false, Bool.false_or, Bool.not_true, Bool.not_false, decide_true, decide_false, not_true_eq_false, not_false_eq_true, eq_self, Bool.true_eq_false, Bool.false_eq_true]
      rw [show d + (n + 1) + 6 = d + n + 5 + 2 by omega, M_telB (by omega)]
      simp only [Option.bind_some, List.append_nil, List.nil_append, List.cons_append, cond_true, cond_false, if_true, if_false, ite_true, ite_false, reduceIte, IC, bI_0, bI_1, bF, Bool.not_eq_false, Bool.not_eq_true, Bool.and_true, Bool.true_and, Bool.and_false, Bool.false_and, Bool.true_or, Bool.or_true, Bool.or_false, Bool.false_or, Bool.not_true, Bool.not_false, decide_true, decide_false, not_true_eq_false, not_false_eq_true, eq_self, Bool.true_eq_false, Bool.false_eq_true, B205_59, IX]
      exact M_way1 hm n hn IH ok k (i + 1) g2 _ _ (by omega)
theorem M_way (hm : m ≤ 10) : ∀ n, n ≤ 4 → ∀ s g, Ok s m → ∃ g', Rn X (d + n + 7) 205 0 [.ref 65, .int (Int32.ofNat n), U_, U_, U_] [] (Mh D (R6 I g s) P N) = some ([.int (wayF n s)], Mh D (R6 I g' s) P N)
  | 0, _, s, g, ok => by
    have e := M_over (X := X) (d := d + 4) (D := D) (I := R6 I g s) (P := P) (N := N) (m := m) ok.1
    rw [R6_66] at e
    have e' : Rn X (d + 0 + 6) 174 0 [.ref 65] [] (Mh D (R6 I g s) P N) = _ := e
    rw [B205_0]
    simp only [Option.bind_some, List.append_nil, List.nil_append, List.cons_append, cond_true, cond_false, if_true, if_false, ite_true, ite_false, reduceIte, IC, bI_0, bI_1, bF, Bool.not_eq_false, Bool.not_eq_true, Bool.and_true, Bool.true_and, Bool.and_false, Bool.false_and, Bool.true_or, Bool.or_true, Bool.or_false, Bool.false_or, Bool.not_true, Bool.not_false, decide_true, decide_false, not_true_eq_false, not_false_eq_true, eq_self, Bool.true_eq_false, Bool.false_eq_true, e', B205_4]
    unfold wayF
    refine ⟨g, ?_⟩
    cases ho : ovV s with
    | true => simp only [Option.bind_some, List.append_nil, List.nil_append, List.cons_append, cond_true, cond_false, if_true, if_false, ite_true, ite_false, reduceIte, IC, bI_0, bI_1, bF, Bool.not_eq_false, Bool.not_eq_true, Bool.and_true, Bool.true_and, Bool.and_false, Bool.false_and, Bool.true_or, Bool.or_true, Bool.or_false, Bool.false_or, Bool.not_true, Bool.not_false, decide_true, decide_false, not_true_eq_false, not_false_eq_true, eq_self, Bool.true_eq_false, Bool.false_eq_true, Bool.true_eq_false, RDm, R6_66]
    | false =>
      have h1 : Int32.ofNat 0 ≤ 0 := by decide
      simp only [Option.bind_some, List.append_nil, List.nil_append, List.cons_append, cond_true, cond_false, if_true, if_false, ite_true, ite_false, reduceIte, IC, bI_0, bI_1, bF, Bool.not_eq_false, Bool.not_eq_true, Bool.and_true, Bool.true_and, Bool.and_false, Bool.false_and, Bool.true_or, Bool.or_true, Bool.or_false, Bool.false_or, Bool.not_true, Bool.not_false, decide_true, decide_false, not_true_eq_false, not_false_eq_true, eq_self, Bool.true_eq_false, Bool.false_eq_true, B205_13, RDm, R6_66, h1, ite_self, B205_65]
  | n + 1, hn, s, g, ok => by
    have e := M_over (X := X) (d := d + n + 5) (D := D) (I := R6 I g s) (P := P) (N := N) (m := m) ok.1
    rw [R6_66] at e
    have e' : Rn X (d + (n + 1) + 6) 174 0 [.ref 65] [] (Mh D (R6 I g s) P N) = _ := e
    rw [B205_0]
    simp only [Option.bind_some, List.append_nil, List.nil_append, List.cons_append, cond_true, cond_false, if_true, if_false, ite_true, ite_false, reduceIte, IC, bI_0, bI_1, bF, Bool.not_eq_false, Bool.not_eq_true, Bool.and_true, Bool.true_and, Bool.and_false, Bool.false_and, Bool.true_or, Bool.or_true, Bool.or_false, Bool.false_or, Bool.not_true, Bool.not_false, decide_true, decide_false, not_true_eq_false, not_false_eq_true, eq_self, Bool.true_eq_false, Bool.false_eq_true, e', B205_4]
    unfold wayF
    cases ho : ovV s with
    | true => exact ⟨g, by simp only [Option.bind_some, List.append_nil, List.nil_append, List.cons_append, cond_true, cond_false, if_true, if_false, ite_true, ite_false, reduceIte, IC, bI_0, bI_1, bF, Bool.not_eq_false, Bool.not_eq_true, Bool.and_true, Bool.true_and, Bool.and_false, Bool.false_and, Bool.true_or, Bool.or_true, Bool.or_false, Bool.false_or, Bool.not_true, Bool.not_false, decide_true, decide_false, not_true_eq_false, not_false_eq_true, eq_self, Bool.true_eq_false, Bool.false_eq_true, Bool.true_eq_false, RDm, R6_66]⟩
    | false =>
      simp only [Option.bind_some, List.append_nil, List.nil_append, List.cons_append, cond_true, cond_false, if_true, if_false, ite_true, ite_false, reduceIte, IC, bI_0, bI_1, bF, Bool.not_eq_false, Bool.not_eq_true, Bool.and_true, Bool.true_and, Bool.and_false, Bool.false_and, Bool.true_or, Bool.or_true, Bool.or_false, Bool.false_or, Bool.not_true, Bool.not_false, decide_true, decide_false, not_true_eq_false, not_false_eq_true, eq_self, Bool.true_eq_false, Bool.false_eq_true]
      exact M_way1 hm n hn (fun s g ok => M_way hm n (by omega) s g ok) ok (ctA s) 0 g 0 U_ (by omega)

theorem M_far1 (hm : m ≤ 10) (n : Nat) (hn : n + 1 ≤ 4)
    (IH : ∀ s g, Ok s m → ∃ g', Rn X (d + n + 7) 207 0 [.ref 65, .int (Int32.ofNat n), U_, U_, U_, U_] [] (Mh D (R6 I g s) P N) = some ([.int (farF n s)], Mh D (R6 I g' s) P N))
    (ok : Ok s m) : ∀ k i g acc l4 l5, i + k = ctA s →
    ∃ g', Rn X (d + (n + 1) + 7) 207 9 [.ref 65, .int (Int32.ofNat (n + 1)), .int acc, .int (Int32.ofNat i), l4, l5] [] (Mh D (R6 I g s) P N)
      = some ([.int (foldA (fun a acc => bif canV s a then imx acc (farF n (telS s a)) else acc) i k acc)], Mh D (R6 I g' s) P N)
  | 0, i, g, acc, l4, l5, hk => by
    have h0 := ok.1.n0
    refine ⟨g, ?_⟩
    rw [B207_9]
    simp (disch := omega) only [RDm, Option.bind_some, List.append_nil, List.nil_append, List.cons_append, cond_true, cond_false, if_true, if_false, ite_true, ite_false, reduceIte, IC, bI_0, bI_1, bF, Bool.not_eq_false, Bool.not_eq_true, Bool.and_true, Bool.true_and, Bool.and_false, Bool.false_and, Bool.true_or, Bool.or_true, Bool.or_false, Bool.false_or, Bool.not_true, Bool.not_false, decide_true, decide_false, not_true_eq_false, not_false_eq_true, eq_self, Bool.true_eq_false, Bool.false_eq_true, R6_66, h0.1, iN_le]
    rw [if_pos (by omega), B207_73]
    rfl
  | k + 1, i, g, acc, l4, l5, hk => by
    have h0 := ok.1.n0
    rw [B207_9]
    simp (disch := omega) only [RDm, Option.bind_some, List.append_nil, List.nil_append, List.cons_append, cond_true, cond_false, if_true, if_false, ite_true, ite_false, reduceIte, IC, bI_0, bI_1, bF, Bool.not_eq_false, Bool.not_eq_true, Bool.and_true, Bool.true_and, Bool.and_false, Bool.false_and, Bool.true_or, Bool.or_true, Bool.or_false, Bool.false_or, Bool.not_true, Bool.not_false, decide_true, decide_false, not_true_eq_false, not_false_eq_true, eq_self, Bool.true_eq_false, Bool.false_eq_true, R6_66, h0.1, iN_le]
    rw [if_neg (by omega), if_neg (by rw [Int32.le_iff_toInt_le, iN_ti (by omega), z_ti]; omega)]
    simp (disch := omega) only [M_can (I := R6 I g s) (m := m) ok.1 (show i < 9 by omega), Option.bind_some, List.append_nil, List.nil_append, List.cons_append, cond_true, cond_false, if_true, if_false, ite_true, ite_false, reduceIte, IC, bI_0, bI_1, bF, Bool.not_eq_false, Bool.not_eq_true, Bool.and_true, Bool.true_and, Bool.and_false, Bool.false_and, Bool.true_or, Bool.or_true, Bool.or_false, Bool.false_or, Bool.not_true, Bool.not_false, decide_true, decide_false, not_true_eq_false, not_false_eq_true, eq_self, Bool.true_eq_false, Bool.false_eq_true, R6_66, B207_28]
    unfold foldA
    cases hc : canV s i with
    | false =>
      simp only [Option.bind_some, List.append_nil, List.nil_append, List.cons_append, cond_true, cond_false, if_true, if_false, ite_true, ite_false, reduceIte, IC, bI_0, bI_1, bF, Bool.not_eq_false, Bool.not_eq_true, Bool.and_true, Bool.true_and, Bool.and_false, Bool.false_and, Bool.true_or, Bool.or_true, Bool.or_false, Bool.false_or, Bool.not_true, Bool.not_false, decide_true, decide_false, not_true_eq_false, not_false_eq_true, eq_self, Bool.true_eq_false, Bool.false_eq_true, B207_67, IX, Bool.false_eq_true]
      exact M_far1 hm n hn IH ok k (i + 1) g acc l4 l5 (by omega)
    | true =>
      obtain ⟨g1, e1⟩ := M_tel (X := X) (d := d + n + 1) (D := D) (I := I) (P := P) (N := N) ok (show i < ctA s by omega) g
      rw [show d + n + 1 + 6 = d + (n + 1) + 6 by omega] at e1
      obtain ⟨g2, e2⟩ := IH (telS s i) g1 (ok.tel hm (by omega) hc)
      rw [show d + n + 7 = d + (n + 1) + 6 by omega] at e2
      simp only [Bool.true_eq_false, Option.bind_some, List.append_nil, List.nil_append, List.cons_append, cond_true, cond_false, if_true, if_false, ite_true, ite_false, reduceIte, IC, bI_0, bI_1, bF, Bool.not_eq_false, Bool.not_eq_true, Bool.and_true, Bool.true_and, Bool.and_false, Bool.false_and, Bool.true_or, Bool.or_true, Bool.or_false, Bool.false_or, Bool.not_true, Bool.not_false, decide_true, decide_false, not_true_eq_false, not_false_eq_true, eq_self, Bool.true_eq_false, Bool.false_eq_true, e1, B207_36, iN_p1, IX, e2]
      simp only [B207_45, Option.bind_some, List.append_nil, List.nil_append, List.cons_append, cond_true, cond_false, if_true, if_false, ite_true, ite_false, reduceIte, IC, bI_0, bI_1, bF, Bool.not_eq_false, Bool.not_eq_true, Bool.and_true, Bool.true_and, Bool.and_false, Bool.false_and, Bool.true_or, Bool.or_true, Bool.or_false, Bool.false_or, Bool.not_true, Bool.not_false, decide_true, decide_false, not_true_eq_false, not_false_eq_true, eq_self, Bool.true_eq_false, Bool.false_eq_true]
      rw [show d + (n + 1) + 6 = d + n + 5 + 2 by omega, M_telB (by omega)]
      simp only [Option.bind_some, List.append_nil, List.nil_append, List.cons_append, cond_true, cond_false, if_true, if_false, ite_true, ite_false, reduceIte, IC, bI_0, bI_1, bF, Bool.not_eq_false, Bool.not_eq_true, Bool.and_true, Bool.true_and, Bool.and_false, Bool.false_and, Bool.true_or, Bool.or_true, Bool.or_false, Bool.false_or, Bool.not_true, Bool.not_false, decide_true, decide_false, not_true_eq_false, not_false_eq_true, eq_self, Bool.true_eq_false, Bool.false_eq_true, B207_54, IX]
      by_cases hle : farF n (telS s i) ≤ acc
      · have e5 : imx acc (farF n (telS s i)) = acc := if_pos hle
        simp only [hle, Option.bind_some, List.append_nil, List.nil_append, List.cons_append, cond_true, cond_false, if_true, if_false, ite_true, ite_false, reduceIte, IC, bI_0, bI_1, bF, Bool.not_eq_false, Bool.not_eq_true, Bool.and_true, Bool.true_and, Bool.and_false, Bool.false_and, Bool.true_or, Bool.or_true, Bool.or_false, Bool.false_or, Bool.not_true, Bool.not_false, decide_true, decide_false, not_true_eq_false, not_false_eq_true, eq_self, Bool.true_eq_false, Bool.false_eq_true, B207_66, B207_67, IX, e5]
        exact M_far1 hm n hn IH ok k (i + 1) g2 _ _ _ (by omega)
      · have e5 : imx acc (farF n (telS s i)) = farF n (telS s i) := if_neg hle
        simp only [hle, Option.bind_some, List.append_nil, List.nil_append, List.cons_append, cond_true, cond_false, if_true, if_false, ite_true, ite_false, reduceIte, IC, bI_0, bI_1, bF, Bool.not_eq_false, Bool.not_eq_true, Bool.and_true, Bool.true_and, Bool.and_false, Bool.false_and, Bool.true_or, Bool.or_true, Bool.or_false, Bool.false_or, Bool.not_true, Bool.not_false, decide_true, decide_false, not_true_eq_false, not_false_eq_true, eq_self, Bool.true_eq_false, Bool.false_eq_true, B207_66, B207_67, IX, e5]
        exact M_far1 hm n hn IH ok k (i + 1) g2 _ _ _ (by omega)
theorem M_far (hm : m ≤ 10) : ∀ n, n ≤ 4 → ∀ s g, Ok s m → ∃ g', Rn X (d + n + 7) 207 0 [.ref 65, .int (Int32.ofNat n), U_, U_, U_, U_] [] (Mh D (R6 I g s) P N) = some ([.int (farF n s)], Mh D (R6 I g' s) P N)
  | 0, _, s, g, ok => by
    have h1 : Int32.ofNat 0 ≤ 0 := by decide
    refine ⟨g, ?_⟩
    simp only [B207_0, Option.bind_some, List.append_nil, List.nil_append, List.cons_append, cond_true, cond_false, if_true, if_false, ite_true, ite_false, reduceIte, IC, bI_0, bI_1, bF, Bool.not_eq_false, Bool.not_eq_true, Bool.and_true, Bool.true_and, Bool.and_false, Bool.false_and, Bool.true_or, Bool.or_true, Bool.or_false, Bool.false_or, Bool.not_true, Bool.not_false, decide_true, decide_false, not_true_eq_false, not_false_eq_true, eq_self, Bool.true_eq_false, Bool.false_eq_true, B207_9, RDm, R6_66, h1, ite_self, B207_73]
    rfl
  | n + 1, hn, s, g, ok => by
    simp only [B207_0, Option.bind_some, List.append_nil, List.nil_append, List.cons_append, cond_true, cond_false, if_true, if_false, ite_true, ite_false, reduceIte, IC, bI_0, bI_1, bF, Bool.not_eq_false, Bool.not_eq_true, Bool.and_true, Bool.true_and, Bool.and_false, Bool.false_and, Bool.true_or, Bool.or_true, Bool.or_false, Bool.false_or, Bool.not_true, Bool.not_false, decide_true, decide_false, not_true_eq_false, not_false_eq_true, eq_self, Bool.true_eq_false, Bool.false_eq_true, RDm, R6_66]
    exact M_far1 hm n hn (fun s g ok => M_far hm n (by omega) s g ok) ok (ctA s) 0 g (s 4) U_ U_ (by omega)

theorem M_kin1 (hm : m ≤ 10) (n : Nat) (hn : n + 1 ≤ 4)
    (IH : ∀ s g, Ok s m → ∃ g', Rn X (d + n + 7) 209 0 [.ref 65, .int (Int32.ofNat n), U_, U_, U_, U_] [] (Mh D (R6 I g s) P N) = some ([.int (kinF n s)], Mh D (R6 I g' s) P N))
    (ok : Ok s m) : ∀ k i g acc l4 l5, i + k = ctA s →
    ∃ g', Rn X (d + (n + 1) + 7) 209 18 [.ref 65, .int (Int32.ofNat (n + 1)), .int acc, .int (Int32.ofNat i), l4, l5] [] (Mh D (R6 I g s) P N)
      = some ([.int (foldA (fun a acc => bif canV s a then imx acc (kinF n (telS s a)) else acc) i k acc)], Mh D (R6 I g' s) P N)
  | 0, i, g, acc, l4, l5, hk => by
    have h0 := ok.1.n0
    refine ⟨g, ?_⟩
    rw [B209_18]
    simp (disch := omega) only [RDm, Option.bind_some, List.append_nil, List.nil_append, List.cons_append, cond_true, cond_false, if_true, if_false, ite_true, ite_false, reduceIte, IC, bI_0, bI_1, bF, Bool.not_eq_false, Bool.not_eq_true, Bool.and_true, Bool.true_and, Bool.and_false, Bool.false_and, Bool.true_or, Bool.or_true, Bool.or_false, Bool.false_or, Bool.not_true, Bool.not_false, decide_true, decide_false, not_true_eq_false, not_false_eq_true, eq_self, Bool.true_eq_false, Bool.false_eq_true, R6_66, h0.1, iN_le]
    rw [if_pos (by omega), B209_82]
    rfl
  | k + 1, i, g, acc, l4, l5, hk => by
    have h0 := ok.1.n0
    rw [B209_18]
    simp (disch := omega) only [RDm, Option.bind_some, List.append_nil, List.nil_append, List.cons_append, cond_true, cond_false, if_true, if_false, ite_true, ite_false, reduceIte, IC, bI_0, bI_1, bF, Bool.not_eq_false, Bool.not_eq_true, Bool.and_true, Bool.true_and, Bool.and_false, Bool.false_and, Bool.true_or, Bool.or_true, Bool.or_false, Bool.false_or, Bool.not_true, Bool.not_false, decide_true, decide_false, not_true_eq_false, not_false_eq_true, eq_self, Bool.true_eq_false, Bool.false_eq_true, R6_66, h0.1, iN_le]
    rw [if_neg (by omega), if_neg (by rw [Int32.le_iff_toInt_le, iN_ti (by omega), z_ti]; omega)]
    simp (disch := omega) only [M_can (I := R6 I g s) (m := m) ok.1 (show i < 9 by omega), Option.bind_some, List.append_nil, List.nil_append, List.cons_append, cond_true, cond_false, if_true, if_false, ite_true, ite_false, reduceIte, IC, bI_0, bI_1, bF, Bool.not_eq_false, Bool.not_eq_true, Bool.and_true, Bool.true_and, Bool.and_false, Bool.false_and, Bool.true_or, Bool.or_true, Bool.or_false, Bool.false_or, Bool.not_true, Bool.not_false, decide_true, decide_false, not_true_eq_false, not_false_eq_true, eq_self, Bool.true_eq_false, Bool.false_eq_true, R6_66, B209_37]
    unfold foldA
    cases hc : canV s i with
    | false =>
      simp only [Option.bind_some, List.append_nil, List.nil_append, List.cons_append, cond_true, cond_false, if_true, if_false, ite_true, ite_false, reduceIte, IC, bI_0, bI_1, bF, Bool.not_eq_false, Bool.not_eq_true, Bool.and_true, Bool.true_and, Bool.and_false, Bool.false_and, Bool.true_or, Bool.or_true, Bool.or_false, Bool.false_or, Bool.not_true, Bool.not_false, decide_true, decide_false, not_true_eq_false, not_false_eq_true, eq_self, Bool.true_eq_false, Bool.false_eq_true, B209_76, IX, Bool.false_eq_true]
      exact M_kin1 hm n hn IH ok k (i + 1) g acc l4 l5 (by omega)
    | true =>
      obtain ⟨g1, e1⟩ := M_tel (X := X) (d := d + n + 1) (D := D) (I := I) (P := P) (N := N) ok (show i < ctA s by omega) g
      rw [show d + n + 1 + 6 = d + (n + 1) + 6 by omega] at e1
      obtain ⟨g2, e2⟩ := IH (telS s i) g1 (ok.tel hm (by omega) hc)
      rw [show d + n + 7 = d + (n + 1) + 6 by omega] at e2
      simp only [Bool.true_eq_false, Option.bind_some, List.append_nil, List.nil_append, List.cons_append, cond_true, cond_false, if_true, if_false, ite_true, ite_false, reduceIte, IC, bI_0, bI_1, bF, Bool.not_eq_false, Bool.not_eq_true, Bool.and_true, Bool.true_and, Bool.and_false, Bool.false_and, Bool.true_or, Bool.or_true, Bool.or_false, Bool.false_or, Bool.not_true, Bool.not_false, decide_true, decide_false, not_true_eq_false, not_false_eq_true, eq_self, Bool.true_eq_false, Bool.false_eq_true, e1, B209_45, iN_p1, IX, e2]
      simp only [B209_54, Option.bind_some, List.append_nil, List.nil_append, List.cons_append, cond_true, cond_false, if_true, if_false, ite_true, ite_false, reduceIte, IC, bI_0, bI_1, bF, Bool.not_eq_false, Bool.not_eq_true, Bool.and_true, Bool.true_and, Bool.and_false, Bool.false_and, Bool.true_or, Bool.or_true, Bool.or_false, Bool.false_or, Bool.not_true, Bool.not_false, decide_true, decide_false, not_true_eq_false, not_false_eq_true, eq_self, Bool.true_eq_false, Bool.false_eq_true]
      rw [show d + (n + 1) + 6 = d + n + 5 + 2 by omega, M_telB (by omega)]
      simp only [Option.bind_some, List.append_nil, List.nil_append, List.cons_append, cond_true, cond_false, if_true, if_false, ite_true, ite_false, reduceIte, IC, bI_0, bI_1, bF, Bool.not_eq_false, Bool.not_eq_true, Bool.and_true, Bool.true_and, Bool.and_false, Bool.false_and, Bool.true_or, Bool.or_true, Bool.or_false, Bool.false_or, Bool.not_true, Bool.not_false, decide_true, decide_false, not_true_eq_false, not_false_eq_true, eq_self, Bool.true_eq_false, Bool.false_eq_true, B209_63, IX]
      by_cases hle : kinF n (telS s i) ≤ acc
      · have e5 : imx acc (kinF n (telS s i)) = acc := if_pos hle
        simp only [hle, Option.bind_some, List.append_nil, List.nil_append, List.cons_append, cond_true, cond_false, if_true, if_false, ite_true, ite_false, reduceIte, IC, bI_0, bI_1, bF, Bool.not_eq_false, Bool.not_eq_true, Bool.and_true, Bool.true_and, Bool.and_false, Bool.false_and, Bool.true_or, Bool.or_true, Bool.or_false, Bool.false_or, Bool.not_true, Bool.not_false, decide_true, decide_false, not_true_eq_false, not_false_eq_true, eq_self, Bool.true_eq_false, Bool.false_eq_true, B209_75, B209_76, IX, e5]
        exact M_kin1 hm n hn IH ok k (i + 1) g2 _ _ _ (by omega)
      · have e5 : imx acc (kinF n (telS s i)) = kinF n (telS s i) := if_neg hle
        simp only [hle, Option.bind_some, List.append_nil, List.nil_append, List.cons_append, cond_true, cond_false, if_true, if_false, ite_true, ite_false, reduceIte, IC, bI_0, bI_1, bF, Bool.not_eq_false, Bool.not_eq_true, Bool.and_true, Bool.true_and, Bool.and_false, Bool.false_and, Bool.true_or, Bool.or_true, Bool.or_false, Bool.false_or, Bool.not_true, Bool.not_false, decide_true, decide_false, not_true_eq_false, not_false_eq_true, eq_self, Bool.true_eq_false, Bool.false_eq_true, B209_75, B209_76, IX, e5]
        exact M_kin1 hm n hn IH ok k (i + 1) g2 _ _ _ (by omega)
theorem M_kin (hm : m ≤ 10) : ∀ n, n ≤ 4 → ∀ s g, Ok s m → ∃ g', Rn X (d + n + 7) 209 0 [.ref 65, .int (Int32.ofNat n), U_, U_, U_, U_] [] (Mh D (R6 I g s) P N) = some ([.int (kinF n s)], Mh D (R6 I g' s) P N)
  | 0, _, s, g, ok => by
    have e := M_over (X := X) (d := d + 4) (D := D) (I := R6 I g s) (P := P) (N := N) (m := m) ok.1
    rw [R6_66] at e
    have e' : Rn X (d + 0 + 6) 174 0 [.ref 65] [] (Mh D (R6 I g s) P N) = _ := e
    rw [B209_0]
    simp only [Option.bind_some, List.append_nil, List.nil_append, List.cons_append, cond_true, cond_false, if_true, if_false, ite_true, ite_false, reduceIte, IC, bI_0, bI_1, bF, Bool.not_eq_false, Bool.not_eq_true, Bool.and_true, Bool.true_and, Bool.and_false, Bool.false_and, Bool.true_or, Bool.or_true, Bool.or_false, Bool.false_or, Bool.not_true, Bool.not_false, decide_true, decide_false, not_true_eq_false, not_false_eq_true, eq_self, Bool.true_eq_false, Bool.false_eq_true, e', B209_4]
    unfold kinF
    refine ⟨g, ?_⟩
    cases ho : ovV s with
    | true => simp only [Option.bind_some, List.append_nil, List.nil_append, List.cons_append, cond_true, cond_false, if_true, if_false, ite_true, ite_false, reduceIte, IC, bI_0, bI_1, bF, Bool.not_eq_false, Bool.not_eq_true, Bool.and_true, Bool.true_and, Bool.and_false, Bool.false_and, Bool.true_or, Bool.or_true, Bool.or_false, Bool.false_or, Bool.not_true, Bool.not_false, decide_true, decide_false, not_true_eq_false, not_false_eq_true, eq_self, Bool.true_eq_false, Bool.false_eq_true, Bool.true_eq_false, RDm, R6_66]
    | false =>
      have h1 : Int32.ofNat 0 ≤ 0 := by decide
      simp only [Option.bind_some, List.append_nil, List.nil_append, List.cons_append, cond_true, cond_false, if_true, if_false, ite_true, ite_false, reduceIte, IC, bI_0, bI_1, bF, Bool.not_eq_false, Bool.not_eq_true, Bool.and_true, Bool.true_and, Bool.and_false, Bool.false_and, Bool.true_or, Bool.or_true, Bool.or_false, Bool.false_or, Bool.not_true, Bool.not_false, decide_true, decide_false, not_true_eq_false, not_false_eq_true, eq_self, Bool.true_eq_false, Bool.false_eq_true, B209_18, RDm, R6_66, h1, ite_self, B209_82]
  | n + 1, hn, s, g, ok => by
    have e := M_over (X := X) (d := d + n + 5) (D := D) (I := R6 I g s) (P := P) (N := N) (m := m) ok.1
    rw [R6_66] at e
    have e' : Rn X (d + (n + 1) + 6) 174 0 [.ref 65] [] (Mh D (R6 I g s) P N) = _ := e
    rw [B209_0]
    simp only [Option.bind_some, List.append_nil, List.nil_append, List.cons_append, cond_true, cond_false, if_true, if_false, ite_true, ite_false, reduceIte, IC, bI_0, bI_1, bF, Bool.not_eq_false, Bool.not_eq_true, Bool.and_true, Bool.true_and, Bool.and_false, Bool.false_and, Bool.true_or, Bool.or_true, Bool.or_false, Bool.false_or, Bool.not_true, Bool.not_false, decide_true, decide_false, not_true_eq_false, not_false_eq_true, eq_self, Bool.true_eq_false, Bool.false_eq_true, e', B209_4]
    unfold kinF
    cases ho : ovV s with
    | true => exact ⟨g, by simp only [Option.bind_some, List.append_nil, List.nil_append, List.cons_append, cond_true, cond_false, if_true, if_false, ite_true, ite_false, reduceIte, IC, bI_0, bI_1, bF, Bool.not_eq_false, Bool.not_eq_true, Bool.and_true, Bool.true_and, Bool.and_false, Bool.false_and, Bool.true_or, Bool.or_true, Bool.or_false, Bool.false_or, Bool.not_true, Bool.not_false, decide_true, decide_false, not_true_eq_false, not_false_eq_true, eq_self, Bool.true_eq_false, Bool.false_eq_true, Bool.true_eq_false, RDm, R6_66]⟩
    | false =>
      simp only [Option.bind_some, List.append_nil, List.nil_append, List.cons_append, cond_true, cond_false, if_true, if_false, ite_true, ite_false, reduceIte, IC, bI_0, bI_1, bF, Bool.not_eq_false, Bool.not_eq_true, Bool.and_true, Bool.true_and, Bool.and_false, Bool.false_and, Bool.true_or, Bool.or_true, Bool.or_false, Bool.false_or, Bool.not_true, Bool.not_false, decide_true, decide_false, not_true_eq_false, not_false_eq_true, eq_self, Bool.true_eq_false, Bool.false_eq_true]
      exact M_kin1 hm n hn (fun s g ok => M_kin hm n (by omega) s g ok) ok (ctA s) 0 g (-1) U_ U_ (by omega)
theorem M_trn0 (v : Int32) : (if ¬ v = 2 then Rn X (d + 1) 216 35 [.ref 65, .int x, .int w, .int x, .int v] [.int (1 - v)] h else Rn X (d + 1) 216 35 [.ref 65, .int x, .int w, .int x, .int v] [.int 2] h) = some ([.int (trnV v)], h) := by
  unfold trnV
  by_cases h2 : v = 2
  · rw [if_neg (by simp [h2]), if_pos h2, B216_35]
  · rw [if_pos h2, if_neg h2, B216_35]
theorem M_rnk : Rn X d 217 0 [.int x] [] h = some ([.int (rnkV x)], h) := by
  unfold rnkV
  rw [B217_0]
  by_cases h0 : x = 0
  · rw [if_neg (by simp [h0]), if_pos h0, B217_18]
  · rw [if_pos h0, if_neg h0]
    by_cases h2 : x = 2
    · rw [if_neg (by simp [h2]), if_pos h2, B217_18]
    · rw [if_pos h2, if_neg h2, B217_18]
theorem M_ld (hm : m ≤ 10) (n : Nat)
    (IH : ∀ s g, Ok s m → ∃ g', Rn X (d + 2 * n + 7) 218 0 [.ref 65, .int (Int32.ofNat n), U_, U_, U_] [] (Mh D (R6 I g s) P N) = some ([.int (valF n s)], Mh D (R6 I g' s) P N))
    (ok : Ok s m) (hi : i < ctA s) (hc : canV s i = true) (g : Nat → Int32) : ∃ g', Rn X (d + 2 * n + 8) 216 0 [.ref 65, .int (Int32.ofNat i), .int (Int32.ofNat (n + 1)), U_, U_] [] (Mh D (R6 I g s) P N)
      = some ([.int (trnV (valF n (telS s i)))], Mh D (R6 I g' s) P N) := by
  have h0 := ok.1.n0
  obtain ⟨g1, e1⟩ := M_tel (X := X) (d := d + 2 * n + 1) (D := D) (I := I) (P := P) (N := N) ok hi g
  have e1' : Rn X (d + 2 * n + 7) 196 0 [.ref 65, .int (Int32.ofNat i), U_, U_] [] (Mh D (R6 I g s) P N) = _ := e1
  obtain ⟨g2, e2⟩ := IH (telS s i) g1 (ok.tel hm hi hc)
  refine ⟨g2, ?_⟩
  simp only [B216_0, Option.bind_some, List.append_nil, List.nil_append, List.cons_append, cond_true, cond_false, if_true, if_false, ite_true, ite_false, reduceIte, IC, bI_0, bI_1, bF, Bool.not_eq_false, Bool.not_eq_true, Bool.and_true, Bool.true_and, Bool.and_false, Bool.false_and, Bool.true_or, Bool.or_true, Bool.or_false, Bool.false_or, Bool.not_true, Bool.not_false, decide_true, decide_false, not_true_eq_false, not_false_eq_true, eq_self, Bool.true_eq_false, Bool.false_eq_true, e1', B216_5, iN_p1, e2, B216_13]
  rw [show d + 2 * n + 7 = d + 2 * n + 5 + 2 by omega, M_telB (by omega)]
  simp only [Option.bind_some, List.append_nil, List.nil_append, List.cons_append, cond_true, cond_false, if_true, if_false, ite_true, ite_false, reduceIte, IC, bI_0, bI_1, bF, Bool.not_eq_false, Bool.not_eq_true, Bool.and_true, Bool.true_and, Bool.and_false, Bool.false_and, Bool.true_or, Bool.or_true, Bool.or_false, Bool.false_or, Bool.not_true, Bool.not_false, decide_true, decide_false, not_true_eq_false, not_false_eq_true, eq_self, Bool.true_eq_false, Bool.false_eq_true, B216_21]
  unfold trnV
  by_cases h2 : valF n (telS s i) = 2
  · rw [if_neg (by simp [h2]), if_pos h2, B216_35]
  · rw [if_pos h2, if_neg h2, B216_35]
theorem M_val1 (hm : m ≤ 10) (n : Nat) (hn : n + 1 ≤ 4)
    (IH : ∀ s g, Ok s m → ∃ g', Rn X (d + 2 * n + 7) 218 0 [.ref 65, .int (Int32.ofNat n), U_, U_, U_] [] (Mh D (R6 I g s) P N) = some ([.int (valF n s)], Mh D (R6 I g' s) P N))
    (ok : Ok s m) : ∀ k i g acc l4, i + k = ctA s →
    ∃ g', Rn X (d + 2 * (n + 1) + 7) 218 17 [.ref 65, .int (Int32.ofNat (n + 1)), .int acc, .int (Int32.ofNat i), l4] [] (Mh D (R6 I g s) P N)
      = some ([.int (foldA (fun a acc => btrV acc (bif canV s a then trnV (valF n (telS s a)) else 1)) i k acc)], Mh D (R6 I g' s) P N)
  | 0, i, g, acc, l4, hk => by
    have h0 := ok.1.n0
    refine ⟨g, ?_⟩
    rw [B218_17]
    simp (disch := omega) only [RDm, Option.bind_some, List.append_nil, List.nil_append, List.cons_append, cond_true, cond_false, if_true, if_false, ite_true, ite_false, reduceIte, IC, bI_0, bI_1, bF, Bool.not_eq_false, Bool.not_eq_true, Bool.and_true, Bool.true_and, Bool.and_false, Bool.false_and, Bool.true_or, Bool.or_true, Bool.or_false, Bool.false_or, Bool.not_true, Bool.not_false, decide_true, decide_false, not_true_eq_false, not_false_eq_true, eq_self, Bool.true_eq_false, Bool.false_eq_true, R6_66, h0.1, iN_le]
    rw [if_pos (by omega)]
    rfl
  | k + 1, i, g, acc, l4, hk => by
    have h0 := ok.1.n0
    have tl : ∀ g v, ∃ g', Rn X (d + 2 * (n + 1) + 7) 218 45 [.ref 65, .int (Int32.ofNat (n + 1)), .int acc, .int (Int32.ofNat i), l4] [.int v] (Mh D (R6 I g s) P N)
        = some ([.int (foldA (fun a acc => btrV acc (bif canV s a then trnV (valF n (telS s a)) else 1)) (i + 1) k (btrV acc v))], Mh D (R6 I g' s) P N) := by
      intro g v
      simp only [B218_45, Option.bind_some, List.append_nil, List.nil_append, List.cons_append, cond_true, cond_false, if_true, if_false, ite_true, ite_false, reduceIte, IC, bI_0, bI_1, bF, Bool.not_eq_false, Bool.not_eq_true, Bool.and_true, Bool.true_and, Bool.and_false, Bool.false_and, Bool.true_or, Bool.or_true, Bool.or_false, Bool.false_or, Bool.not_true, Bool.not_false, decide_true, decide_false, not_true_eq_false, not_false_eq_true, eq_self, Bool.true_eq_false, Bool.false_eq_true, M_rnk, B218_52, B218_56]
      by_cases hle : rnkV v ≤ rnkV acc
      · have e5 : btrV acc v = acc := if_pos hle
        simp only [hle, Option.bind_some, List.append_nil, List.nil_append, List.cons_append, cond_true, cond_false, if_true, if_false, ite_true, ite_false, reduceIte, IC, bI_0, bI_1, bF, Bool.not_eq_false, Bool.not_eq_true, Bool.and_true, Bool.true_and, Bool.and_false, Bool.false_and, Bool.true_or, Bool.or_true, Bool.or_false, Bool.false_or, Bool.not_true, Bool.not_false, decide_true, decide_false, not_true_eq_false, not_false_eq_true, eq_self, Bool.true_eq_false, Bool.false_eq_true, B218_65, IX, e5]
        exact M_val1 hm n hn IH ok k (i + 1) g acc _ (by omega)
      · have e5 : btrV acc v = v := if_neg hle
        simp only [hle, Option.bind_some, List.append_nil, List.nil_append, List.cons_append, cond_true, cond_false, if_true, if_false, ite_true, ite_false, reduceIte, IC, bI_0, bI_1, bF, Bool.not_eq_false, Bool.not_eq_true, Bool.and_true, Bool.true_and, Bool.and_false, Bool.false_and, Bool.true_or, Bool.or_true, Bool.or_false, Bool.false_or, Bool.not_true, Bool.not_false, decide_true, decide_false, not_true_eq_false, not_false_eq_true, eq_self, Bool.true_eq_false, Bool.false_eq_true, B218_65, IX, e5]
        exact M_val1 hm n hn IH ok k (i + 1) g v _ (by omega)
    rw [B218_17]
    simp (disch := omega) only [RDm, Option.bind_some, List.append_nil, List.nil_append, List.cons_append, cond_true, cond_false, if_true, if_false, ite_true, ite_false, reduceIte, IC, bI_0, bI_1, bF, Bool.not_eq_false, Bool.not_eq_true, Bool.and_true, Bool.true_and, Bool.and_false, Bool.false_and, Bool.true_or, Bool.or_true, Bool.or_false, Bool.false_or, Bool.not_true, Bool.not_false, decide_true, decide_false, not_true_eq_false, not_false_eq_true, eq_self, Bool.true_eq_false, Bool.false_eq_true, R6_66, h0.1, iN_le]
    rw [if_neg (by omega)]
    have ec := M_can (X := X) (d := d + 2 * n + 5) (D := D) (I := R6 I g s) (P := P) (N := N) (m := m) ok.1 (show i < 9 by omega)
    have ec' : Rn X (d + 2 * (n + 1) + 6) 189 0 [.ref 65, .int (Int32.ofNat i)] [] (Mh D (R6 I g s) P N) = _ := ec
    simp only [ec', Option.bind_some, List.append_nil, List.nil_append, List.cons_append, cond_true, cond_false, if_true, if_false, ite_true, ite_false, reduceIte, IC, bI_0, bI_1, bF, Bool.not_eq_false, Bool.not_eq_true, Bool.and_true, Bool.true_and, Bool.and_false, Bool.false_and, Bool.true_or, Bool.or_true, Bool.or_false, Bool.false_or, Bool.not_true, Bool.not_false, decide_true, decide_false, not_true_eq_false, not_false_eq_true, eq_self, Bool.true_eq_false, Bool.false_eq_true, R6_66, B218_32]
    unfold foldA
    cases hc : canV s i with
    | false =>
      simp only [Option.bind_some, List.append_nil, List.nil_append, List.cons_append, cond_true, cond_false, if_true, if_false, ite_true, ite_false, reduceIte, IC, bI_0, bI_1, bF, Bool.not_eq_false, Bool.not_eq_true, Bool.and_true, Bool.true_and, Bool.and_false, Bool.false_and, Bool.true_or, Bool.or_true, Bool.or_false, Bool.false_or, Bool.not_true, Bool.not_false, decide_true, decide_false, not_true_eq_false, not_false_eq_true, eq_self, Bool.true_eq_false, Bool.false_eq_true, Bool.false_eq_true]
      exact tl g 1
    | true =>
      obtain ⟨g1, e1⟩ := M_ld (d := d) hm n IH ok (show i < ctA s by omega) hc g
      have e1' : Rn X (d + 2 * (n + 1) + 6) 216 0 [.ref 65, .int (Int32.ofNat i), .int (Int32.ofNat (n + 1)), U_, U_] [] (Mh D (R6 I g s) P N) = _ := e1
      simp only [Bool.true_eq_false, Option.bind_some, List.append_nil, List.nil_append, List.cons_append, cond_true, cond_false, if_true, if_false, ite_true, ite_false, reduceIte, IC, bI_0, bI_1, bF, Bool.not_eq_false, Bool.not_eq_true, Bool.and_true, Bool.true_and, Bool.and_false, Bool.false_and, Bool.true_or, Bool.or_true, Bool.or_false, Bool.false_or, Bool.not_true, Bool.not_false, decide_true, decide_false, not_true_eq_false, not_false_eq_true, eq_self, Bool.true_eq_false, Bool.false_eq_true, e1', B218_41]
      exact tl g1 _
theorem M_val (hm : m ≤ 10) : ∀ n, n ≤ 4 → ∀ s g, Ok s m → ∃ g', Rn X (d + 2 * n + 7) 218 0 [.ref 65, .int (Int32.ofNat n), U_, U_, U_] [] (Mh D (R6 I g s) P N) = some ([.int (valF n s)], Mh D (R6 I g' s) P N)
  | 0, _, s, g, ok => by
    have e := M_over (X := X) (d := d + 4) (D := D) (I := R6 I g s) (P := P) (N := N) (m := m) ok.1
    rw [R6_66] at e
    have e' : Rn X (d + 2 * 0 + 6) 174 0 [.ref 65] [] (Mh D (R6 I g s) P N) = _ := e
    refine ⟨g, ?_⟩
    have h1 : Int32.ofNat 0 = 0 := rfl
    simp only [B218_0, Option.bind_some, List.append_nil, List.nil_append, List.cons_append, cond_true, cond_false, if_true, if_false, ite_true, ite_false, reduceIte, IC, bI_0, bI_1, bF, Bool.not_eq_false, Bool.not_eq_true, Bool.and_true, Bool.true_and, Bool.and_false, Bool.false_and, Bool.true_or, Bool.or_true, Bool.or_false, Bool.false_or, Bool.not_true, Bool.not_false, decide_true, decide_false, not_true_eq_false, not_false_eq_true, eq_self, Bool.true_eq_false, Bool.false_eq_true, e', B218_4, h1, B218_11, ite_self]
    rfl
  | n + 1, hn, s, g, ok => by
    have e := M_over (X := X) (d := d + 2 * n + 6) (D := D) (I := R6 I g s) (P := P) (N := N) (m := m) ok.1
    rw [R6_66] at e
    have e' : Rn X (d + 2 * (n + 1) + 6) 174 0 [.ref 65] [] (Mh D (R6 I g s) P N) = _ := e
    have h1 : ¬ Int32.ofNat (n + 1) = 0 := by rw [iN_z (by omega)]; omega
    rw [B218_0]
    simp only [Option.bind_some, List.append_nil, List.nil_append, List.cons_append, cond_true, cond_false, if_true, if_false, ite_true, ite_false, reduceIte, IC, bI_0, bI_1, bF, Bool.not_eq_false, Bool.not_eq_true, Bool.and_true, Bool.true_and, Bool.and_false, Bool.false_and, Bool.true_or, Bool.or_true, Bool.or_false, Bool.false_or, Bool.not_true, Bool.not_false, decide_true, decide_false, not_true_eq_false, not_false_eq_true, eq_self, Bool.true_eq_false, Bool.false_eq_true, e', B218_4]
    unfold valF
    cases ho : ovV s with
    | true => exact ⟨g, by simp only [Option.bind_some, List.append_nil, List.nil_append, List.cons_append, cond_true, cond_false, if_true, if_false, ite_true, ite_false, reduceIte, IC, bI_0, bI_1, bF, Bool.not_eq_false, Bool.not_eq_true, Bool.and_true, Bool.true_and, Bool.and_false, Bool.false_and, Bool.true_or, Bool.or_true, Bool.or_false, Bool.false_or, Bool.not_true, Bool.not_false, decide_true, decide_false, not_true_eq_false, not_false_eq_true, eq_self, Bool.true_eq_false, Bool.false_eq_true, Bool.true_eq_false, B218_11]⟩
    | false =>
      simp only [Option.bind_some, List.append_nil, List.nil_append, List.cons_append, cond_true, cond_false, if_true, if_false, ite_true, ite_false, reduceIte, IC, bI_0, bI_1, bF, Bool.not_eq_false, Bool.not_eq_true, Bool.and_true, Bool.true_and, Bool.and_false, Bool.false_and, Bool.true_or, Bool.or_true, Bool.or_false, Bool.false_or, Bool.not_true, Bool.not_false, decide_true, decide_false, not_true_eq_false, not_false_eq_true, eq_self, Bool.true_eq_false, Bool.false_eq_true, h1, Bool.false_eq_true]
      exact M_val1 hm n hn (fun s g ok => M_val hm n (by omega) s g ok) ok (ctA s) 0 g 1 U_ (by omega)
end RefE
