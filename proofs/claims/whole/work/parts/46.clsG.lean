/-! the class: the game; how its searches and the reference's agree -/
section ClsG
variable {X : mX} {d : Nat} {D : Nat → Nat × Nat} {I : Nat → Nat → Int32} {P : Nat → Nat → Option Nat} {N : Nat} {h : mH} {s s' g S r f f' F c : Nat → Int32} {J : Nat → Nat → Int32} {ra : Nat → Nat} {m : Int} {i j k n p q : Nat} {x v w a b l fl : Int32}
def v3 (v : Int32) : Prop := v = 0 ∨ v = 1 ∨ v = 2
theorem trn3 (h : v3 v) : v3 (trnV v) := by
  rcases h with rfl | rfl | rfl
  · exact Or.inr (Or.inl (by decide))
  · exact Or.inl (by decide)
  · exact Or.inr (Or.inr (by decide))
theorem btr3 (h1 : v3 a) (h2 : v3 v) : v3 (btrV a v) := by unfold btrV; split <;> assumption
theorem btr0 (h2 : v3 v) : btrV 0 v = 0 := by rcases h2 with rfl | rfl | rfl <;> decide
theorem btr1 (h1 : v3 a) : btrV a 1 = a := by rcases h1 with rfl | rfl | rfl <;> decide
theorem val_3 : ∀ n s, v3 (valF n s)
  | 0, _ => Or.inr (Or.inr rfl)
  | n + 1, s => by
    have key : ∀ k i acc, v3 acc → v3 (foldA (fun a acc => btrV acc (bif canV s a then trnV (valF n (telS s a)) else 1)) i k acc) := by
      intro k
      induction k with
      | zero => intro i acc h; exact h
      | succ k ih =>
        intro i acc h
        unfold foldA
        refine ih (i + 1) _ (btr3 h ?_)
        cases canV s i with
        | true => exact trn3 (val_3 n _)
        | false => exact Or.inr (Or.inl rfl)
    unfold valF
    cases ovV s with
    | true => exact Or.inr (Or.inr rfl)
    | false => exact key _ _ _ (Or.inr (Or.inl rfl))
theorem btr_fold0 (n : Nat) : ∀ k i, foldA (fun a acc => btrV acc (bif canV s a then trnV (valF n (telS s a)) else 1)) i k 0 = 0
  | 0, _ => rfl
  | k + 1, i => by
    unfold foldA
    rw [btr0 (by cases canV s i with
      | true => exact trn3 (val_3 n _)
      | false => exact Or.inr (Or.inl rfl))]
    exact btr_fold0 n k (i + 1)
theorem C_bet (h1 : v3 a) (h2 : v3 v) : Rn X d 84 0 [.int a, .int v] [] h = some ([.int (btrV a v)], h) := by
  rcases h1 with rfl | rfl | rfl <;> rcases h2 with rfl | rfl | rfl <;> rw [B84_0]
  · rw [if_pos rfl, B84_8]; rfl
  · rw [if_pos rfl, B84_8]; rfl
  · rw [if_pos rfl, B84_8]; rfl
  · rw [if_neg (by decide), if_neg (by decide), B84_8]; rfl
  · rw [if_neg (by decide), if_pos (by decide)]; rfl
  · rw [if_neg (by decide), if_pos (by decide)]; rfl
  · rw [if_neg (by decide), if_neg (by decide), B84_8]; rfl
  · rw [if_neg (by decide), if_pos (by decide)]; rfl
  · rw [if_neg (by decide), if_pos (by decide)]; rfl
theorem C_trn : Rn X d 83 0 [.int v] [] h = some ([.int (trnV v)], h) := by
  unfold trnV
  rw [B83_0]
  by_cases h2 : v = 2
  · rw [if_neg (by simp [h2]), if_pos h2, B83_12]
  · rw [if_pos h2, if_neg h2, B83_12]
theorem C_val1 (hm : m ≤ 10) (n : Nat) (hn : n + 1 ≤ 4)
    (IH : ∀ s I, Ok s m → RideR s D I P N 1 ra → ∃ f, Rn X (d + n + 7) 82 0 [.ref 1, .int (Int32.ofNat n), U_, U_, U_] [] (Mh D I P N) = some ([.int (valF n s)], Mh D (u2r I 13 f) P N))
    (ok : Ok s m) : ∀ k i I acc l4, RideR s D I P N 1 ra → v3 acc → i + k = ctA s →
    ∃ f, Rn X (d + (n + 1) + 7) 82 17 [.ref 1, .int (Int32.ofNat (n + 1)), .int acc, .int (Int32.ofNat i), l4] [] (Mh D I P N)
      = some ([.int (foldA (fun a acc => btrV acc (bif canV s a then trnV (valF n (telS s a)) else 1)) i k acc)], Mh D (u2r I 13 f) P N)
  | 0, i, I, acc, l4, hr, h3, hk => by
    have h0 := ok.1.n0
    refine ⟨I 13, ?_⟩
    rw [u2r_id, B82_17]
    simp only [RDc, Option.bind_some, List.append_nil, List.nil_append, List.cons_append, cond_true, cond_false, if_true, if_false, ite_true, ite_false, reduceIte, IC, bI_0, bI_1, bF, Bool.not_eq_false, Bool.not_eq_true, Bool.and_true, Bool.true_and, Bool.and_false, Bool.false_and, Bool.true_or, Bool.or_true, Bool.or_false, Bool.false_or, Bool.not_true, Bool.not_false, decide_true, decide_false, not_true_eq_false, not_false_eq_true, eq_self, Bool.true_eq_false, Bool.false_eq_true, hr.1.1, h0.1]
    rw [if_pos (by rw [iN_le (by omega) (by omega)]; omega), B82_69]
    rfl
  | k + 1, i, I, acc, l4, hr, h3, hk => by
    have h0 := ok.1.n0
    have hi : i < ctA s := by omega
    by_cases ha0 : acc = 0
    · subst ha0
      refine ⟨I 13, ?_⟩
      rw [u2r_id, B82_17]
      simp only [RDc, Option.bind_some, List.append_nil, List.nil_append, List.cons_append, cond_true, cond_false, if_true, if_false, ite_true, ite_false, reduceIte, IC, bI_0, bI_1, bF, Bool.not_eq_false, Bool.not_eq_true, Bool.and_true, Bool.true_and, Bool.and_false, Bool.false_and, Bool.true_or, Bool.or_true, Bool.or_false, Bool.false_or, Bool.not_true, Bool.not_false, decide_true, decide_false, not_true_eq_false, not_false_eq_true, eq_self, Bool.true_eq_false, Bool.false_eq_true, B82_69, ite_self]
      rw [btr_fold0]
    · rw [B82_17]
      simp only [RDc, Option.bind_some, List.append_nil, List.nil_append, List.cons_append, cond_true, cond_false, if_true, if_false, ite_true, ite_false, reduceIte, IC, bI_0, bI_1, bF, Bool.not_eq_false, Bool.not_eq_true, Bool.and_true, Bool.true_and, Bool.and_false, Bool.false_and, Bool.true_or, Bool.or_true, Bool.or_false, Bool.false_or, Bool.not_true, Bool.not_false, decide_true, decide_false, not_true_eq_false, not_false_eq_true, eq_self, Bool.true_eq_false, Bool.false_eq_true, hr.1.1, h0.1]
      rw [if_neg (by rw [iN_le (by omega) (by omega)]; omega), if_neg ha0]
      unfold foldA
      cases hc : canV s i with
      | false =>
        have e := C_telN (X := X) (d := d + n + 1) ok hr hi hc
        rw [show d + n + 1 + 6 = d + (n + 1) + 6 by omega] at e
        have hneg : (-4 : Int32) ≤ 0 := by decide
        simp only [e, Option.bind_some, List.append_nil, List.nil_append, List.cons_append, cond_true, cond_false, if_true, if_false, ite_true, ite_false, reduceIte, IC, bI_0, bI_1, bF, Bool.not_eq_false, Bool.not_eq_true, Bool.and_true, Bool.true_and, Bool.and_false, Bool.false_and, Bool.true_or, Bool.or_true, Bool.or_false, Bool.false_or, Bool.not_true, Bool.not_false, decide_true, decide_false, not_true_eq_false, not_false_eq_true, eq_self, Bool.true_eq_false, Bool.false_eq_true, B82_34, hneg, B82_63, IX]
        rw [btr1 h3]
        exact C_val1 hm n hn IH ok k (i + 1) I acc _ hr h3 (by omega)
      | true =>
        obtain ⟨f1, e1⟩ := C_tel (X := X) (d := d + n + 1) ok hr hi hc
        rw [show d + n + 1 + 6 = d + (n + 1) + 6 by omega] at e1
        obtain ⟨f2, e2⟩ := IH (telS s i) (tlI I s ra i f1) (ok.tel hm hi hc) (hr.tel ok hi)
        rw [show d + n + 7 = d + (n + 1) + 6 by omega] at e2
        have e3 := C_utl (X := X) (d := d + n + 6) (f := f1) (f' := f2) ok hm hr hi hc
        rw [show d + n + 6 + 1 = d + (n + 1) + 6 by omega] at e3
        have ht := trn3 (val_3 n (telS s i))
        simp only [e1, Option.bind_some, List.append_nil, List.nil_append, List.cons_append, cond_true, cond_false, if_true, if_false, ite_true, ite_false, reduceIte, IC, bI_0, bI_1, bF, Bool.not_eq_false, Bool.not_eq_true, Bool.and_true, Bool.true_and, Bool.and_false, Bool.false_and, Bool.true_or, Bool.or_true, Bool.or_false, Bool.false_or, Bool.not_true, Bool.not_false, decide_true, decide_false, not_true_eq_false, not_false_eq_true, eq_self, Bool.true_eq_false, Bool.false_eq_true, B82_34, (pas_pos ok hc).1, iN_p1, e2, B82_49, C_trn, B82_52, C_bet h3 ht, B82_55, e3, B82_63, IX]
        obtain ⟨f3, e4⟩ := C_val1 hm n hn IH ok k (i + 1) (u2r I 13 f2) (btrV acc (trnV (valF n (telS s i)))) (.int (pasV s i)) hr.u13 (btr3 h3 ht) (by omega)
        rw [u2r_r] at e4
        exact ⟨f3, e4⟩
theorem C_val (hm : m ≤ 10) : ∀ n, n ≤ 4 → ∀ s I, Ok s m → RideR s D I P N 1 ra → ∃ f, Rn X (d + n + 7) 82 0 [.ref 1, .int (Int32.ofNat n), U_, U_, U_] [] (Mh D I P N) = some ([.int (valF n s)], Mh D (u2r I 13 f) P N)
  | 0, _, s, I, ok, hr => by
    have h1 : Int32.ofNat 0 ≤ 0 := by decide
    refine ⟨I 13, ?_⟩
    rw [u2r_id, B82_0, if_pos h1, B82_11]
    rfl
  | n + 1, hn, s, I, ok, hr => by
    have eo := C_over (X := X) (d := d + (n + 1) + 6) hr
    rw [B82_0, if_neg (by rw [Int32.le_iff_toInt_le, iN_ti (by omega), z_ti]; omega)]
    simp only [Option.bind_some, List.append_nil, List.nil_append, List.cons_append, cond_true, cond_false, if_true, if_false, ite_true, ite_false, reduceIte, IC, bI_0, bI_1, bF, Bool.not_eq_false, Bool.not_eq_true, Bool.and_true, Bool.true_and, Bool.and_false, Bool.false_and, Bool.true_or, Bool.or_true, Bool.or_false, Bool.false_or, Bool.not_true, Bool.not_false, decide_true, decide_false, not_true_eq_false, not_false_eq_true, eq_self, Bool.true_eq_false, Bool.false_eq_true, eo, B82_8]
    unfold valF
    cases ovV s with
    | true => exact ⟨I 13, by rw [u2r_id]; simp only [Option.bind_some, List.append_nil, List.nil_append, List.cons_append, cond_true, cond_false, if_true, if_false, ite_true, ite_false, reduceIte, IC, bI_0, bI_1, bF, Bool.not_eq_false, Bool.not_eq_true, Bool.and_true, Bool.true_and, Bool.and_false, Bool.false_and, Bool.true_or, Bool.or_true, Bool.or_false, Bool.false_or, Bool.not_true, Bool.not_false, decide_true, decide_false, not_true_eq_false, not_false_eq_true, eq_self, Bool.true_eq_false, Bool.false_eq_true, B82_11]⟩
    | false =>
      simp only [Option.bind_some, List.append_nil, List.nil_append, List.cons_append, cond_true, cond_false, if_true, if_false, ite_true, ite_false, reduceIte, IC, bI_0, bI_1, bF, Bool.not_eq_false, Bool.not_eq_true, Bool.and_true, Bool.true_and, Bool.and_false, Bool.false_and, Bool.true_or, Bool.or_true, Bool.or_false, Bool.false_or, Bool.not_true, Bool.not_false, decide_true, decide_false, not_true_eq_false, not_false_eq_true, eq_self, Bool.true_eq_false, Bool.false_eq_true]
      exact C_val1 hm n hn (fun s I ok hr => C_val hm n (by omega) s I ok hr) ok (ctA s) 0 I 1 U_ hr (Or.inr (Or.inl rfl)) (by omega)
def moV (o : Option Nat) : Int32 := oV o
theorem C_bst1 (n : Nat) (hn : n + 1 ≤ 4) (ok : Ok s 10) : ∀ k i I l5, RideR s D I P N 1 ra → i + k = ctA s →
    ∃ f, Rn X (d + n + 8) 85 15 [.ref 31, .int (Int32.ofNat (n + 1)), .int v, .int (-3), .int (Int32.ofNat i), l5] [] (Mh D I P N)
      = some ([.int (oV (findF (fun a => canV s a && decide (trnV (valF n (telS s a)) = v)) i k))], Mh D (u2r I 13 f) P N)
  | 0, i, I, l5, hr, hk => by
    have h0 := ok.1.n0
    refine ⟨I 13, ?_⟩
    rw [u2r_id, B85_15]
    simp only [RDc, Option.bind_some, List.append_nil, List.nil_append, List.cons_append, cond_true, cond_false, if_true, if_false, ite_true, ite_false, reduceIte, IC, bI_0, bI_1, bF, Bool.not_eq_false, Bool.not_eq_true, Bool.and_true, Bool.true_and, Bool.and_false, Bool.false_and, Bool.true_or, Bool.or_true, Bool.or_false, Bool.false_or, Bool.not_true, Bool.not_false, decide_true, decide_false, not_true_eq_false, not_false_eq_true, eq_self, Bool.true_eq_false, Bool.false_eq_true, hr.1.1, h0.1]
    rw [if_pos (by rw [iN_le (by omega) (by omega)]; omega), B85_86]
    rfl
  | k + 1, i, I, l5, hr, hk => by
    have h0 := ok.1.n0
    have hi : i < ctA s := by omega
    rw [B85_15]
    simp only [RDc, Option.bind_some, List.append_nil, List.nil_append, List.cons_append, cond_true, cond_false, if_true, if_false, ite_true, ite_false, reduceIte, IC, bI_0, bI_1, bF, Bool.not_eq_false, Bool.not_eq_true, Bool.and_true, Bool.true_and, Bool.and_false, Bool.false_and, Bool.true_or, Bool.or_true, Bool.or_false, Bool.false_or, Bool.not_true, Bool.not_false, decide_true, decide_false, not_true_eq_false, not_false_eq_true, eq_self, Bool.true_eq_false, Bool.false_eq_true, hr.1.1, h0.1]
    rw [if_neg (by rw [iN_le (by omega) (by omega)]; omega)]
    unfold findF
    cases hc : canV s i with
    | false =>
      have e := C_telN (X := X) (d := d + n + 1) ok hr hi hc
      have e' : Rn X (d + n + 7) 42 0 [.ref 1, .int (Int32.ofNat i), U_, U_] [] (Mh D I P N) = _ := e
      have hneg : (-4 : Int32) ≤ 0 := by decide
      simp only [e', Option.bind_some, List.append_nil, List.nil_append, List.cons_append, cond_true, cond_false, if_true, if_false, ite_true, ite_false, reduceIte, IC, bI_0, bI_1, bF, Bool.not_eq_false, Bool.not_eq_true, Bool.and_true, Bool.true_and, Bool.and_false, Bool.false_and, Bool.true_or, Bool.or_true, Bool.or_false, Bool.false_or, Bool.not_true, Bool.not_false, decide_true, decide_false, not_true_eq_false, not_false_eq_true, eq_self, Bool.true_eq_false, Bool.false_eq_true, B85_42, hneg, B85_80, IX]
      exact C_bst1 n hn ok k (i + 1) I _ hr (by omega)
    | true =>
      obtain ⟨f1, e1⟩ := C_tel (X := X) (d := d + n + 1) ok hr hi hc
      have e1' : Rn X (d + n + 7) 42 0 [.ref 1, .int (Int32.ofNat i), U_, U_] [] (Mh D I P N) = _ := e1
      obtain ⟨f2, e2⟩ := C_val (X := X) (d := d) (m := 10) (by decide) n (by omega) (telS s i) (tlI I s ra i f1) (ok.tel (by decide) hi hc) (hr.tel ok hi)
      have e3 := C_utl (X := X) (d := d + n + 6) (f := f1) (f' := f2) ok (by decide) hr hi hc
      have e3' : Rn X (d + n + 7) 43 0 [.ref 1, .int (Int32.ofNat i), .int (pasV s i), U_] [] (Mh D (u2r (tlI I s ra i f1) 13 f2) P N) = _ := e3
      simp only [e1', Option.bind_some, List.append_nil, List.nil_append, List.cons_append, cond_true, cond_false, if_true, if_false, ite_true, ite_false, reduceIte, IC, bI_0, bI_1, bF, Bool.not_eq_false, Bool.not_eq_true, Bool.and_true, Bool.true_and, Bool.and_false, Bool.false_and, Bool.true_or, Bool.or_true, Bool.or_false, Bool.false_or, Bool.not_true, Bool.not_false, decide_true, decide_false, not_true_eq_false, not_false_eq_true, eq_self, Bool.true_eq_false, Bool.false_eq_true, B85_42, (pas_pos ok hc).1, iN_p1, RDc, e2, B85_59, C_trn, B85_62]
      by_cases hv : trnV (valF n (telS s i)) = v
      · refine ⟨f2, ?_⟩
        have hne : ¬ Int32.ofNat i = -3 := by rw [← Int32.toInt_inj, iN_ti (by omega)]; have : (-3 : Int32).toInt = -3 := rfl; omega
        simp only [hv, Option.bind_some, List.append_nil, List.nil_append, List.cons_append, cond_true, cond_false, if_true, if_false, ite_true, ite_false, reduceIte, IC, bI_0, bI_1, bF, Bool.not_eq_false, Bool.not_eq_true, Bool.and_true, Bool.true_and, Bool.and_false, Bool.false_and, Bool.true_or, Bool.or_true, Bool.or_false, Bool.false_or, Bool.not_true, Bool.not_false, decide_true, decide_false, not_true_eq_false, not_false_eq_true, eq_self, Bool.true_eq_false, Bool.false_eq_true, B85_69, RDc, e3', B85_80, IX]
        rw [B85_15]
        simp only [RDc, Option.bind_some, List.append_nil, List.nil_append, List.cons_append, cond_true, cond_false, if_true, if_false, ite_true, ite_false, reduceIte, IC, bI_0, bI_1, bF, Bool.not_eq_false, Bool.not_eq_true, Bool.and_true, Bool.true_and, Bool.and_false, Bool.false_and, Bool.true_or, Bool.or_true, Bool.or_false, Bool.false_or, Bool.not_true, Bool.not_false, decide_true, decide_false, not_true_eq_false, not_false_eq_true, eq_self, Bool.true_eq_false, Bool.false_eq_true, hne, B85_86, ite_self]
        rfl
      · simp only [hv, Option.bind_some, List.append_nil, List.nil_append, List.cons_append, cond_true, cond_false, if_true, if_false, ite_true, ite_false, reduceIte, IC, bI_0, bI_1, bF, Bool.not_eq_false, Bool.not_eq_true, Bool.and_true, Bool.true_and, Bool.and_false, Bool.false_and, Bool.true_or, Bool.or_true, Bool.or_false, Bool.false_or, Bool.not_true, Bool.not_false, decide_true, decide_false, not_true_eq_false, not_false_eq_true, eq_self, Bool.true_eq_false, Bool.false_eq_true, B85_69, RDc, e3', B85_80, IX]
        obtain ⟨f3, e4⟩ := C_bst1 n hn ok k (i + 1) (u2r I 13 f2) (.int (pasV s i)) hr.u13 (by omega)
        rw [u2r_r] at e4
        exact ⟨f3, e4⟩
theorem C_bst (n : Nat) (hn : n + 1 ≤ 4) (ok : Ok s 10) (hr : RideR s D I P N 1 ra) : ∃ f, Rn X (d + n + 9) 85 0 [.ref 31, .int (Int32.ofNat (n + 1)), U_, U_, U_, U_] [] (Mh D I P N)
      = some ([.int (oV (findF (fun a => canV s a && decide (trnV (valF n (telS s a)) = valF (n + 1) s)) 0 (ctA s)))], Mh D (u2r I 13 f) P N) := by
  obtain ⟨f1, e1⟩ := C_val (X := X) (d := d) (m := 10) (by decide) (n + 1) hn s I ok hr
  have e1' : Rn X (d + n + 8) 82 0 [.ref 1, .int (Int32.ofNat (n + 1)), U_, U_, U_] [] (Mh D I P N) = _ := e1
  obtain ⟨f2, e2⟩ := C_bst1 (X := X) (d := d + 1) (v := valF (n + 1) s) n hn ok (ctA s) 0 (u2r I 13 f1) U_ hr.u13 (by omega)
  rw [u2r_r] at e2
  rw [show d + 1 + n + 8 = d + n + 8 + 1 by omega] at e2
  have e2' : Rn X (d + n + 8 + 1) 85 15 [.ref 31, .int (Int32.ofNat (n + 1)), .int (valF (n + 1) s), .int (-3), .int 0, U_] [] (Mh D (u2r I 13 f1) P N) = some ([.int (oV (findF (fun a => canV s a && decide (trnV (valF n (telS s a)) = valF (n + 1) s)) 0 (ctA s)))], Mh D (u2r I 13 f2) P N) := e2
  refine ⟨f2, ?_⟩
  rw [B85_0]
  simp only [RDc, Option.bind_some, List.append_nil, List.nil_append, List.cons_append, cond_true, cond_false, if_true, if_false, ite_true, ite_false, reduceIte, IC, bI_0, bI_1, bF, Bool.not_eq_false, Bool.not_eq_true, Bool.and_true, Bool.true_and, Bool.and_false, Bool.false_and, Bool.true_or, Bool.or_true, Bool.or_false, Bool.false_or, Bool.not_true, Bool.not_false, decide_true, decide_false, not_true_eq_false, not_false_eq_true, eq_self, Bool.true_eq_false, Bool.false_eq_true, e1', B85_8]
  exact e2'
theorem find_of {F G : Nat → Bool} : ∀ k i, (∀ a, i ≤ a → a < i + k → F a = G a) → findF F i k = findF G i k
  | 0, _, _ => rfl
  | k + 1, i, h => by
    unfold findF
    rw [h i (by omega) (by omega), find_of k (i + 1) (fun a h1 h2 => h a (by omega) (by omega))]
theorem find_some {F : Nat → Bool} : ∀ k i, (findF F i k).isSome = true ↔ ∃ a, i ≤ a ∧ a < i + k ∧ F a = true
  | 0, i => ⟨fun h => (by cases h), fun ⟨a, h1, h2, _⟩ => (by omega)⟩
  | k + 1, i => by
    unfold findF
    split
    · next h => exact ⟨fun _ => ⟨i, Nat.le_refl _, by omega, h⟩, fun _ => rfl⟩
    · next h =>
      rw [find_some k (i + 1)]
      constructor
      · rintro ⟨a, h1, h2, h3⟩; exact ⟨a, by omega, by omega, h3⟩
      · rintro ⟨a, h1, h2, h3⟩
        have : a ≠ i := by intro e; subst e; exact h h3
        exact ⟨a, by omega, by omega, h3⟩
theorem ar_arr (hm : m ≤ 10) : ∀ n s, Ok s m → arB n 0 s = arrF n s
  | 0, s, ok => by
    have h5 := bt_iff.mp ok.1.1.2.2.2.2.2
    unfold arB arrF
    rw [decide_eq_true (show (0 : Int32) ≤ s 5 by rw [Int32.le_iff_toInt_le, z_ti]; omega)]; rfl
  | n + 1, s, ok => by
    have h5 := bt_iff.mp ok.1.1.2.2.2.2.2
    unfold arB arrF
    rw [decide_eq_true (show (0 : Int32) ≤ s 5 by rw [Int32.le_iff_toInt_le, z_ti]; omega), Bool.true_and]
    rw [find_of (ctA s) 0 (G := fun a => canV s a && arrF n (telS s a)) (fun a _ h2 => ?_)]
    show (canV s a && arB n 0 (telS s a)) = (canV s a && arrF n (telS s a))
    cases hc : canV s a with
    | false => rfl
    | true => rw [ar_arr hm n _ (ok.tel hm (by omega) hc)]
theorem fold_le (b : Int32) (hb : 0 ≤ b.toInt) {W : Nat → Bool} {K : Nat → Int32} : ∀ k i acc, b.toInt ≤ (foldA (fun a acc => bif W a then imx acc (K a) else acc) i k acc).toInt ↔ b.toInt ≤ acc.toInt ∨ ∃ a, i ≤ a ∧ a < i + k ∧ W a = true ∧ b.toInt ≤ (K a).toInt
  | 0, i, acc => ⟨fun h => Or.inl h, fun h => (by rcases h with h | ⟨a, h1, h2, _⟩; exact h; omega)⟩
  | k + 1, i, acc => by
    unfold foldA
    rw [fold_le b hb k (i + 1) _]
    cases hw : W i with
    | false =>
      constructor
      · rintro (h | ⟨a, h1, h2, h3⟩)
        · exact Or.inl h
        · exact Or.inr ⟨a, by omega, by omega, h3⟩
      · rintro (h | ⟨a, h1, h2, h3, h4⟩)
        · exact Or.inl h
        · have : a ≠ i := by intro e; subst e; rw [hw] at h3; cases h3
          exact Or.inr ⟨a, by omega, by omega, h3, h4⟩
    | true =>
      have hmx : b.toInt ≤ (imx acc (K i)).toInt ↔ b.toInt ≤ acc.toInt ∨ b.toInt ≤ (K i).toInt := by
        unfold imx
        split
        · next h => rw [Int32.le_iff_toInt_le] at h; omega
        · next h => rw [Int32.le_iff_toInt_le] at h; omega
      show (b.toInt ≤ (imx acc (K i)).toInt ∨ _) ↔ _
      rw [hmx]
      constructor
      · rintro ((h | h) | ⟨a, h1, h2, h3⟩)
        · exact Or.inl h
        · exact Or.inr ⟨i, Nat.le_refl _, by omega, hw, h⟩
        · exact Or.inr ⟨a, by omega, by omega, h3⟩
      · rintro (h | ⟨a, h1, h2, h3, h4⟩)
        · exact Or.inl (Or.inl h)
        · by_cases ha : a = i
          · subst ha; exact Or.inl (Or.inr h4)
          · exact Or.inr ⟨a, by omega, by omega, h3, h4⟩
theorem ar_kin (hm : m ≤ 10) (b : Int32) (hb : 0 ≤ b.toInt) : ∀ n s, Ok s m → (arB n b s = true ↔ b.toInt ≤ (kinF n s).toInt)
  | 0, s, ok => by
    have e1 : (-1 : Int32).toInt = -1 := rfl
    unfold arB kinF
    cases ovV s with
    | true =>
      rw [Bool.and_true, decide_eq_true_eq, Int32.le_iff_toInt_le]; exact Iff.rfl
    | false =>
      rw [Bool.and_false]
      exact ⟨fun h => (by cases h), fun h => (by have h' : b.toInt ≤ (-1 : Int32).toInt := h; omega)⟩
  | n + 1, s, ok => by
    have e1 : (-1 : Int32).toInt = -1 := rfl
    have hkb := kin_b hm (n + 1) s ok
    unfold arB kinF at *
    cases hov : ovV s with
    | true =>
      rw [Bool.true_or, Bool.and_true, decide_eq_true_eq, Int32.le_iff_toInt_le]; exact Iff.rfl
    | false =>
      rw [hov] at hkb
      rw [Bool.false_or]
      have hk2 : (foldA (fun a acc => bif canV s a then imx acc (kinF n (telS s a)) else acc) 0 (ctA s) (-1)).toInt ≤ (s 5).toInt := hkb.2
      have hfl := fold_le b hb (W := canV s) (K := fun a => kinF n (telS s a)) (ctA s) 0 (-1)
      show (decide (b ≤ s 5) && _) = true ↔ b.toInt ≤ (foldA (fun a acc => bif canV s a then imx acc (kinF n (telS s a)) else acc) 0 (ctA s) (-1)).toInt
      rw [hfl, Bool.and_eq_true, find_some, decide_eq_true_eq, Int32.le_iff_toInt_le]
      constructor
      · rintro ⟨h1, a, h2, h3, h4⟩
        rw [Bool.and_eq_true] at h4
        exact Or.inr ⟨a, h2, h3, h4.1, (ar_kin hm b hb n _ (ok.tel hm (by omega) h4.1)).mp h4.2⟩
      · rintro (h | ⟨a, h2, h3, h4, h5⟩)
        · omega
        · have hle : b.toInt ≤ (foldA (fun a acc => bif canV s a then imx acc (kinF n (telS s a)) else acc) 0 (ctA s) (-1)).toInt := hfl.mpr (Or.inr ⟨a, h2, h3, h4, h5⟩)
          exact ⟨by omega, a, h2, h3, by rw [h4, Bool.true_and]; exact (ar_kin hm b hb n _ (ok.tel hm (by omega) h4)).mpr h5⟩
theorem C_sho1 (ok : Ok s 10) : ∀ k i I, RideR s D I P N 1 ra → i + k = 5 → ∃ f, Rn X (d + 12) 86 2 [.ref 31, .int (Int32.ofNat i)] [] (Mh D I P N) = some ([.int (oV (findF (fun n => arrF n s) i k))], Mh D (u2r I 13 f) P N)
  | 0, i, I, hr, hk => by
    refine ⟨I 13, ?_⟩
    rw [u2r_id, B86_2, if_pos (by rw [show i = 5 by omega]; decide)]; rfl
  | k + 1, i, I, hr, hk => by
    obtain ⟨f1, e1⟩ := C_arr (X := X) (d := d + 4 - i) (b := 0) (m := 10) (by decide) i (by omega) s I ok hr
    rw [show d + 4 - i + i + 7 = d + 11 by omega, ar_arr (by decide) i s ok] at e1
    have h4 : ¬ (4 : Int32) < Int32.ofNat i := by
      rw [Int32.lt_iff_toInt_lt, iN_ti (by omega)]; have : (4 : Int32).toInt = 4 := rfl; omega
    rw [B86_2, if_neg h4]
    simp only [RDc, Option.bind_some, List.append_nil, List.nil_append, List.cons_append, cond_true, cond_false, if_true, if_false, ite_true, ite_false, reduceIte, IC, bI_0, bI_1, bF, Bool.not_eq_false, Bool.not_eq_true, Bool.and_true, Bool.true_and, Bool.and_false, Bool.false_and, Bool.true_or, Bool.or_true, Bool.or_false, Bool.false_or, Bool.not_true, Bool.not_false, decide_true, decide_false, not_true_eq_false, not_false_eq_true, eq_self, Bool.true_eq_false, Bool.false_eq_true, e1, B86_16]
    unfold findF
    cases ha : arrF i s with
    | true => exact ⟨f1, by simp only [Option.bind_some, List.append_nil, List.nil_append, List.cons_append, cond_true, cond_false, if_true, if_false, ite_true, ite_false, reduceIte, IC, bI_0, bI_1, bF, Bool.not_eq_false, Bool.not_eq_true, Bool.and_true, Bool.true_and, Bool.and_false, Bool.false_and, Bool.true_or, Bool.or_true, Bool.or_false, Bool.false_or, Bool.not_true, Bool.not_false, decide_true, decide_false, not_true_eq_false, not_false_eq_true, eq_self, Bool.true_eq_false, Bool.false_eq_true]; rfl⟩
    | false =>
      simp only [Option.bind_some, List.append_nil, List.nil_append, List.cons_append, cond_true, cond_false, if_true, if_false, ite_true, ite_false, reduceIte, IC, bI_0, bI_1, bF, Bool.not_eq_false, Bool.not_eq_true, Bool.and_true, Bool.true_and, Bool.and_false, Bool.false_and, Bool.true_or, Bool.or_true, Bool.or_false, Bool.false_or, Bool.not_true, Bool.not_false, decide_true, decide_false, not_true_eq_false, not_false_eq_true, eq_self, Bool.true_eq_false, Bool.false_eq_true, IX]
      obtain ⟨f2, e2⟩ := C_sho1 ok k (i + 1) (u2r I 13 f1) hr.u13 (by omega)
      rw [u2r_r] at e2
      exact ⟨f2, e2⟩
theorem C_sho (ok : Ok s 10) (hr : RideR s D I P N 1 ra) : ∃ f, Rn X (d + 12) 86 0 [.ref 31, U_] [] (Mh D I P N) = some ([.int (oV (shoF s))], Mh D (u2r I 13 f) P N) := by
  rw [B86_0]; exact C_sho1 ok 5 0 I hr rfl
end ClsG
