/-! the reference: kindly to play, reports -/
section RefH
variable {X : mX} {d : Nat} {D : Nat → Nat × Nat} {I : Nat → Nat → Int32} {P : Nat → Nat → Option Nat} {N : Nat} {h : mH} {s g c S r : Nat → Int32} {J : Nat → Nat → Int32} {m : Int} {i j k n p q : Nat} {x v w a b e f : Int32}
theorem M_kst1 (ok : Ok s 10) (n : Nat) (hn : n ≤ 4) (ho : ovV s = false) : ∀ k i g l4 l5, i + k = ctA s → ∃ g', Rn X (d + n + 8) 211 2 [.ref 65, .int (Int32.ofNat (n + 1)), .int b, .int (Int32.ofNat i), l4, l5] [] (Mh D (R6 I g s) P N)
      = some ([.int (oM (findF (fun a => canV s a && decide (kinF n (telS s a) = b)) i k))], Mh D (R6 I g' s) P N)
  | 0, i, g, l4, l5, hk => by
    have h0 := ok.1.n0
    refine ⟨g, ?_⟩
    rw [B211_2]
    simp (disch := omega) only [RDm, Option.bind_some, List.append_nil, List.nil_append, List.cons_append, cond_true, cond_false, if_true, if_false, ite_true, ite_false, reduceIte, IC, bI_0, bI_1, bF, Bool.not_eq_false, Bool.not_eq_true, Bool.and_true, Bool.true_and, Bool.and_false, Bool.false_and, Bool.true_or, Bool.or_true, Bool.or_false, Bool.false_or, Bool.not_true, Bool.not_false, decide_true, decide_false, not_true_eq_false, not_false_eq_true, eq_self, Bool.true_eq_false, Bool.false_eq_true, R6_66, h0.1, iN_le]
    rw [if_pos (by omega), B211_72]
    rfl
  | k + 1, i, g, l4, l5, hk => by
    have h0 := ok.1.n0
    rw [B211_2]
    simp (disch := omega) only [RDm, Option.bind_some, List.append_nil, List.nil_append, List.cons_append, cond_true, cond_false, if_true, if_false, ite_true, ite_false, reduceIte, IC, bI_0, bI_1, bF, Bool.not_eq_false, Bool.not_eq_true, Bool.and_true, Bool.true_and, Bool.and_false, Bool.false_and, Bool.true_or, Bool.or_true, Bool.or_false, Bool.false_or, Bool.not_true, Bool.not_false, decide_true, decide_false, not_true_eq_false, not_false_eq_true, eq_self, Bool.true_eq_false, Bool.false_eq_true, R6_66, h0.1, iN_le]
    rw [if_neg (by omega)]
    have eo := M_over (X := X) (d := d + n + 5) (D := D) (I := R6 I g s) (P := P) (N := N) (m := 10) ok.1
    have ec := M_can (X := X) (d := d + n + 4) (D := D) (I := R6 I g s) (P := P) (N := N) (m := 10) ok.1 (show i < 9 by omega)
    simp only [R6_66] at eo ec
    have eo' : Rn X (d + n + 7) 174 0 [.ref 65] [] (Mh D (R6 I g s) P N) = _ := eo
    have ec' : Rn X (d + n + 7) 189 0 [.ref 65, .int (Int32.ofNat i)] [] (Mh D (R6 I g s) P N) = _ := ec
    simp only [eo', Option.bind_some, List.append_nil, List.nil_append, List.cons_append, cond_true, cond_false, if_true, if_false, ite_true, ite_false, reduceIte, IC, bI_0, bI_1, bF, Bool.not_eq_false, Bool.not_eq_true, Bool.and_true, Bool.true_and, Bool.and_false, Bool.false_and, Bool.true_or, Bool.or_true, Bool.or_false, Bool.false_or, Bool.not_true, Bool.not_false, decide_true, decide_false, not_true_eq_false, not_false_eq_true, eq_self, Bool.true_eq_false, Bool.false_eq_true, B211_16, ho, ec', B211_24]
    unfold findF
    cases hc : canV s i with
    | false =>
      simp only [Option.bind_some, List.append_nil, List.nil_append, List.cons_append, cond_true, cond_false, if_true, if_false, ite_true, ite_false, reduceIte, IC, bI_0, bI_1, bF, Bool.not_eq_false, Bool.not_eq_true, Bool.and_true, Bool.true_and, Bool.and_false, Bool.false_and, Bool.true_or, Bool.or_true, Bool.or_false, Bool.false_or, Bool.not_true, Bool.not_false, decide_true, decide_false, not_true_eq_false, not_false_eq_true, eq_self, Bool.true_eq_false, Bool.false_eq_true, B211_66, IX]
      exact M_kst1 ok n hn ho k (i + 1) g l4 l5 (by omega)
    | true =>
      obtain ⟨g1, e1⟩ := M_tel (X := X) (d := d + n + 1) (D := D) (I := I) (P := P) (N := N) ok (show i < ctA s by omega) g
      have e1' : Rn X (d + n + 7) 196 0 [.ref 65, .int (Int32.ofNat i), U_, U_] [] (Mh D (R6 I g s) P N) = _ := e1
      obtain ⟨g2, e2⟩ := M_kin (X := X) (d := d) (D := D) (I := I) (P := P) (N := N) (m := 10) (by decide) n hn (telS s i) g1 (ok.tel (by decide) (by omega) hc)
      simp only [Option.bind_some, List.append_nil, List.nil_append, List.cons_append, cond_true, cond_false, if_true, if_false, ite_true, ite_false, reduceIte, IC, bI_0, bI_1, bF, Bool.not_eq_false, Bool.not_eq_true, Bool.and_true, Bool.true_and, Bool.and_false, Bool.false_and, Bool.true_or, Bool.or_true, Bool.or_false, Bool.false_or, Bool.not_true, Bool.not_false, decide_true, decide_false, not_true_eq_false, not_false_eq_true, eq_self, Bool.true_eq_false, Bool.false_eq_true, e1', B211_32, iN_p1, e2, B211_41, B211_50]
      have e3 := M_telB (X := X) (d := d + n + 5) (D := D) (I := I) (P := P) (N := N) (g := g2) (s := s) (i := i) (by omega)
      have e3' : Rn X (d + n + 7) 197 0 [.ref 65, .int (Int32.ofNat i), .int (pasV s i)] [] (Mh D (R6 I g2 (telS s i)) P N) = _ := e3
      by_cases hb : kinF n (telS s i) = b
      · refine ⟨g2, ?_⟩
        simp only [hb, Option.bind_some, List.append_nil, List.nil_append, List.cons_append, cond_true, cond_false, if_true, if_false, ite_true, ite_false, reduceIte, IC, bI_0, bI_1, bF, Bool.not_eq_false, Bool.not_eq_true, Bool.and_true, Bool.true_and, Bool.and_false, Bool.false_and, Bool.true_or, Bool.or_true, Bool.or_false, Bool.false_or, Bool.not_true, Bool.not_false, decide_true, decide_false, not_true_eq_false, not_false_eq_true, eq_self, Bool.true_eq_false, Bool.false_eq_true, B211_50, e3', B211_59]
        simp +decide only [Option.bind_some, List.append_nil, List.nil_append, List.cons_append, cond_true, cond_false, if_true, if_false, ite_true, ite_false, reduceIte, IC, bI_0, bI_1, bF, Bool.not_eq_false, Bool.not_eq_true, Bool.and_true, Bool.true_and, Bool.and_false, Bool.false_and, Bool.true_or, Bool.or_true, Bool.or_false, Bool.false_or, Bool.not_true, Bool.not_false, decide_true, decide_false, not_true_eq_false, not_false_eq_true, eq_self, Bool.true_eq_false, Bool.false_eq_true, decide_true]
        rfl
      · simp only [hb, Option.bind_some, List.append_nil, List.nil_append, List.cons_append, cond_true, cond_false, if_true, if_false, ite_true, ite_false, reduceIte, IC, bI_0, bI_1, bF, Bool.not_eq_false, Bool.not_eq_true, Bool.and_true, Bool.true_and, Bool.and_false, Bool.false_and, Bool.true_or, Bool.or_true, Bool.or_false, Bool.false_or, Bool.not_true, Bool.not_false, decide_true, decide_false, not_true_eq_false, not_false_eq_true, eq_self, Bool.true_eq_false, Bool.false_eq_true, B211_50, e3', B211_59, B211_66, IX]
        exact M_kst1 ok n hn ho k (i + 1) g2 _ _ (by omega)
theorem M_kst (ok : Ok s 10) (n : Nat) (hn : n ≤ 4) (g : Nat → Int32) : ∃ g', Rn X (d + n + 8) 211 0 [.ref 65, .int (Int32.ofNat (n + 1)), .int b, U_, U_, U_] [] (Mh D (R6 I g s) P N)
      = some ([.int (oM (kstF n b s))], Mh D (R6 I g' s) P N) := by
  unfold kstF
  cases ho : ovV s with
  | false =>
    rw [B211_0]
    exact M_kst1 ok n hn ho (ctA s) 0 g U_ U_ (by omega)
  | true =>
    have h0 := ok.1.n0
    refine ⟨g, ?_⟩
    have eo := M_over (X := X) (d := d + n + 5) (D := D) (I := R6 I g s) (P := P) (N := N) (m := 10) ok.1
    simp only [R6_66] at eo
    have eo' : Rn X (d + n + 7) 174 0 [.ref 65] [] (Mh D (R6 I g s) P N) = _ := eo
    simp only [B211_0, B211_2, RDm, Option.bind_some, List.append_nil, List.nil_append, List.cons_append, cond_true, cond_false, if_true, if_false, ite_true, ite_false, reduceIte, IC, bI_0, bI_1, bF, Bool.not_eq_false, Bool.not_eq_true, Bool.and_true, Bool.true_and, Bool.and_false, Bool.false_and, Bool.true_or, Bool.or_true, Bool.or_false, Bool.false_or, Bool.not_true, Bool.not_false, decide_true, decide_false, not_true_eq_false, not_false_eq_true, eq_self, Bool.true_eq_false, Bool.false_eq_true, R6_66, eo', B211_16, ho, B211_72, ite_self]
    rfl
theorem M_kst0 (ok : Ok s 10) (ho : ovV s = true) : Rn X (d + 8) 211 0 [.ref 65, .int x, .int b, U_, U_, U_] [] (Mh D (R6 I g s) P N) = some ([.int (-1)], Mh D (R6 I g s) P N) := by
  have eo := M_over (X := X) (d := d + 5) (D := D) (I := R6 I g s) (P := P) (N := N) (m := 10) ok.1
  simp only [R6_66] at eo
  have eo' : Rn X (d + 7) 174 0 [.ref 65] [] (Mh D (R6 I g s) P N) = _ := eo
  simp only [B211_0, B211_2, RDm, Option.bind_some, List.append_nil, List.nil_append, List.cons_append, cond_true, cond_false, if_true, if_false, ite_true, ite_false, reduceIte, IC, bI_0, bI_1, bF, Bool.not_eq_false, Bool.not_eq_true, Bool.and_true, Bool.true_and, Bool.and_false, Bool.false_and, Bool.true_or, Bool.or_true, Bool.or_false, Bool.false_or, Bool.not_true, Bool.not_false, decide_true, decide_false, not_true_eq_false, not_false_eq_true, eq_self, Bool.true_eq_false, Bool.false_eq_true, R6_66, eo', B211_16, ho, B211_72, ite_self]
def kw0 (b : Int32) (n : Nat) (s : Nat → Int32) : Option Nat := match n with | 0 => none | n + 1 => kstF n b s
theorem kst_can {b : Int32} (h : kstF n b s = some i) : ovV s = false ∧ i < ctA s ∧ canV s i = true ∧ kinF n (telS s i) = b := by
  unfold kstF at h
  cases ho : ovV s with
  | true => rw [ho] at h; cases h
  | false =>
    rw [ho] at h
    have hl := findF_lt _ _ _ h
    have := hl.2.2
    simp only [Bool.and_eq_true, decide_eq_true_eq] at this
    exact ⟨rfl, by omega, this⟩
theorem kw_none {b : Int32} : ∀ i n s, kw0 b n s = none → kwkF b i n s = none
  | _, 0, _, _ => by cases ‹Nat› <;> rfl
  | 0, n + 1, _, h => h
  | i + 1, n + 1, s, h => by
    show (kstF n b s).bind _ = none
    rw [show kstF n b s = none from h]; rfl
theorem kw_0 {b : Int32} : kwkF b 0 n s = kw0 b n s := by cases n <;> rfl
theorem M_kly (hx : x = Int32.ofNat q) (hq : q ≤ 3) (n0 : Nat) (hn0 : n0 ≤ 4) (hb : 0 ≤ b) : ∀ r n k s g l6, k + r = q → n + k = n0 → Ok s 10 → E320 s S → kinF n s = b →
    ∃ g' s', E320 s' S ∧ ∃ l3 l4 l5, Rn X (d + 15) 212 49 [.ref 65, .int (Int32.ofNat n0), .int x, .int b, .int (oM (kw0 b n s)), .int (Int32.ofNat k), l6] [] (Mh D (R6 I g s) P N)
      = Rn X (d + 15) 212 87 [.ref 65, .int (Int32.ofNat n0), .int x, .int l3, .int (oM (kwkF b r n s)), .int l4, l5] [] (Mh D (R6 I g' s') P N)
  | 0, n, k, s, g, l6, hk, hn, ok, he, hkn => by
    refine ⟨g, s, he, b, Int32.ofNat k, l6, ?_⟩
    rw [B212_49, hx, kw_0]
    simp (disch := omega) only [iN_le]
    rw [if_pos (by omega)]
  | r + 1, n, k, s, g, l6, hk, hn, ok, he, hkn => by
    rw [B212_49, hx]
    simp (disch := omega) only [iN_le]
    rw [if_neg (by omega)]
    cases hf : kw0 b n s with
    | none =>
      refine ⟨g, s, he, b, Int32.ofNat k, l6, ?_⟩
      rw [if_pos (show oM none < 0 by decide), kw_none _ _ _ hf]
    | some a =>
      match n, hf with
      | n + 1, hf =>
        obtain ⟨h1, h2, h3, h4⟩ := kst_can hf
        have h0 := ok.1.n0
        have ha : ¬ oM (some a) < 0 := iN_neg (by omega)
        obtain ⟨g1, e1⟩ := M_tel (X := X) (d := d + 8) (D := D) (I := I) (P := P) (N := N) ok h2 g
        have e1' : Rn X (d + 14) 196 0 [.ref 65, .int (oM (some a)), U_, U_] [] (Mh D (R6 I g s) P N) = _ := e1
        have ok2 := ok.tel (by decide) h2 h3
        have harg : (Int32.ofNat n0 - 1) - Int32.ofNat k = Int32.ofNat n := by
          rw [iN_pred (by omega), ← Int32.ofNat_sub _ _ (by omega), show n0 - 1 - k = n by omega]
        have hkw : kwkF b (r + 1) (n + 1) s = kwkF b r n (telS s a) := by
          show (kstF n b s).bind _ = _
          rw [show kstF n b s = some a from hf]; rfl
        rw [if_neg ha, hkw]
        simp only [Option.bind_some, List.append_nil, List.nil_append, List.cons_append, cond_true, cond_false, if_true, if_false, ite_true, ite_false, reduceIte, IC, bI_0, bI_1, bF, Bool.not_eq_false, Bool.not_eq_true, Bool.and_true, Bool.true_and, Bool.and_false, Bool.false_and, Bool.true_or, Bool.or_true, Bool.or_false, Bool.false_or, Bool.not_true, Bool.not_false, decide_true, decide_false, not_true_eq_false, not_false_eq_true, eq_self, Bool.true_eq_false, Bool.false_eq_true, e1', B212_66, harg]
        match n, h4, hn with
        | 0, h4, hn =>
          have ho : ovV (telS s a) = true := by
            cases hov : ovV (telS s a) with
            | true => rfl
            | false =>
              exfalso
              unfold kinF at h4
              rw [hov] at h4
              rw [← h4] at hb
              exact absurd (show (0 : Int32) ≤ -1 from hb) (by decide)
          have e2 := M_kst0 (X := X) (d := d + 6) (D := D) (I := I) (P := P) (N := N) (g := g1) (x := Int32.ofNat 0) (b := b) ok2 ho
          have e2' : Rn X (d + 14) 211 0 [.ref 65, .int (Int32.ofNat 0), .int b, U_, U_, U_] [] (Mh D (R6 I g1 (telS s a)) P N) = _ := e2
          simp only [e2', Option.bind_some, List.append_nil, List.nil_append, List.cons_append, cond_true, cond_false, if_true, if_false, ite_true, ite_false, reduceIte, IC, bI_0, bI_1, bF, Bool.not_eq_false, Bool.not_eq_true, Bool.and_true, Bool.true_and, Bool.and_false, Bool.false_and, Bool.true_or, Bool.or_true, Bool.or_false, Bool.false_or, Bool.not_true, Bool.not_false, decide_true, decide_false, not_true_eq_false, not_false_eq_true, eq_self, Bool.true_eq_false, Bool.false_eq_true, B212_79, IX]
          rw [← hx]
          exact M_kly hx hq n0 hn0 hb r 0 (k + 1) (telS s a) g1 _ (by omega) (by omega) ok2 (he.tel (by omega)) h4
        | n + 1, h4, hn =>
          obtain ⟨g2, e2⟩ := M_kst (X := X) (d := d + 6 - n) (D := D) (I := I) (P := P) (N := N) (b := b) ok2 n (by omega) g1
          rw [show d + 6 - n + n + 8 = d + 14 by omega] at e2
          simp only [e2, Option.bind_some, List.append_nil, List.nil_append, List.cons_append, cond_true, cond_false, if_true, if_false, ite_true, ite_false, reduceIte, IC, bI_0, bI_1, bF, Bool.not_eq_false, Bool.not_eq_true, Bool.and_true, Bool.true_and, Bool.and_false, Bool.false_and, Bool.true_or, Bool.or_true, Bool.or_false, Bool.false_or, Bool.not_true, Bool.not_false, decide_true, decide_false, not_true_eq_false, not_false_eq_true, eq_self, Bool.true_eq_false, Bool.false_eq_true, B212_79, IX]
          rw [← hx]
          exact M_kly hx hq n0 hn0 hb r (n + 1) (k + 1) (telS s a) g2 _ (by omega) (by omega) ok2 (he.tel (by omega)) h4
theorem kwk_lt {b : Int32} : ∀ i n s, Ok s 10 → ∀ a, kwkF b i n s = some a → a < 9
  | i, 0, s, _, a, h => by
    have e : kwkF b i 0 s = none := by cases i <;> rfl
    rw [e] at h; cases h
  | 0, n + 1, s, ok, a, h => by
    have := kst_can (show kstF n b s = some a from h)
    have := ok.1.n0
    omega
  | i + 1, n + 1, s, ok, a, h => by
    obtain ⟨a1, h1, h2⟩ := Option.bind_eq_some_iff.mp (show (kstF n b s).bind _ = some a from h)
    have h3 := kst_can h1
    exact kwk_lt i n (telS s a1) (ok.tel (by decide) h3.2.1 h3.2.2.1) a h2
theorem F_kly (ok : Ok (I 66) 10) : Rf X I 212 [.ref 65, .int a, .int x, U_, U_, U_, U_] (pKly (I 66) a x, I 66) := by
  intro d D P N
  simp only [B212_0, B212_4, B212_16, B212_19, B204_0, B204_9, Option.bind_some, List.append_nil, List.nil_append, List.cons_append, cond_true, cond_false, if_true, if_false, ite_true, ite_false, reduceIte, IC, bI_0, bI_1, bF, Bool.not_eq_false, Bool.not_eq_true, Bool.and_true, Bool.true_and, Bool.and_false, Bool.false_and, Bool.true_or, Bool.or_true, Bool.or_false, Bool.false_or, Bool.not_true, Bool.not_false, decide_true, decide_false, not_true_eq_false, not_false_eq_true, eq_self, Bool.true_eq_false, Bool.false_eq_true, M_bt, L64]
  unfold pKly
  cases hb : bt a 0 4 with
  | false => exact ⟨I, by simp only [Option.bind_some, List.append_nil, List.nil_append, List.cons_append, cond_true, cond_false, if_true, if_false, ite_true, ite_false, reduceIte, IC, bI_0, bI_1, bF, Bool.not_eq_false, Bool.not_eq_true, Bool.and_true, Bool.true_and, Bool.and_false, Bool.false_and, Bool.true_or, Bool.or_true, Bool.or_false, Bool.false_or, Bool.not_true, Bool.not_false, decide_true, decide_false, not_true_eq_false, not_false_eq_true, eq_self, Bool.true_eq_false, Bool.false_eq_true], Sc_id⟩
  | true =>
    cases hb2 : bt x 0 3 with
    | false => exact ⟨I, by simp only [Option.bind_some, List.append_nil, List.nil_append, List.cons_append, cond_true, cond_false, if_true, if_false, ite_true, ite_false, reduceIte, IC, bI_0, bI_1, bF, Bool.not_eq_false, Bool.not_eq_true, Bool.and_true, Bool.true_and, Bool.and_false, Bool.false_and, Bool.true_or, Bool.or_true, Bool.or_false, Bool.false_or, Bool.not_true, Bool.not_false, decide_true, decide_false, not_true_eq_false, not_false_eq_true, eq_self, Bool.true_eq_false, Bool.false_eq_true], Sc_id⟩
    | true =>
      obtain ⟨e1, e2⟩ := bt_nat hb
      obtain ⟨e3, e4⟩ := bt_nat hb2
      obtain ⟨g1, e⟩ := M_kin (X := X) (d := d) (D := D) (I := I) (P := P) (N := N) (m := 10) (by decide) a.toNatClampNeg (by omega) (I 66) (I 69) ok
      rw [R6_id] at e
      have e' := Rn_up e (show d + a.toNatClampNeg + 7 ≤ d + 39 by omega)
      rw [← e1] at e'
      simp only [Option.bind_some, List.append_nil, List.nil_append, List.cons_append, cond_true, cond_false, if_true, if_false, ite_true, ite_false, reduceIte, IC, bI_0, bI_1, bF, Bool.not_eq_false, Bool.not_eq_true, Bool.and_true, Bool.true_and, Bool.and_false, Bool.false_and, Bool.true_or, Bool.or_true, Bool.or_false, Bool.false_or, Bool.not_true, Bool.not_false, decide_true, decide_false, not_true_eq_false, not_false_eq_true, eq_self, Bool.true_eq_false, Bool.false_eq_true, e', B212_26]
      by_cases h0 : kinF a.toNatClampNeg (I 66) < 0
      · have h1 : ¬ 0 ≤ kinF a.toNatClampNeg (I 66) := by rw [i_nle]; exact h0
        refine fin6 (g := g1) ?_
        simp only [h0, h1, Option.bind_some, List.append_nil, List.nil_append, List.cons_append, cond_true, cond_false, if_true, if_false, ite_true, ite_false, reduceIte, IC, bI_0, bI_1, bF, Bool.not_eq_false, Bool.not_eq_true, Bool.and_true, Bool.true_and, Bool.and_false, Bool.false_and, Bool.true_or, Bool.or_true, Bool.or_false, Bool.false_or, Bool.not_true, Bool.not_false, decide_true, decide_false, not_true_eq_false, not_false_eq_true, eq_self, Bool.true_eq_false, Bool.false_eq_true]
      · have h1 : 0 ≤ kinF a.toNatClampNeg (I 66) := by rw [← i_nlt]; exact h0
        simp only [h0, h1, Option.bind_some, List.append_nil, List.nil_append, List.cons_append, cond_true, cond_false, if_true, if_false, ite_true, ite_false, reduceIte, IC, bI_0, bI_1, bF, Bool.not_eq_false, Bool.not_eq_true, Bool.and_true, Bool.true_and, Bool.and_false, Bool.false_and, Bool.true_or, Bool.or_true, Bool.or_false, Bool.false_or, Bool.not_true, Bool.not_false, decide_true, decide_false, not_true_eq_false, not_false_eq_true, eq_self, Bool.true_eq_false, Bool.false_eq_true, M_pt, B212_38]
        have es : ∃ g2, Rn X (d + 39) 211 0 [.ref 65, .int a, .int (kinF a.toNatClampNeg (I 66)), U_, U_, U_] [] (Mh D (R6 (u2r I 68 (row320 (I 66) (I 68))) g1 (I 66)) P N)
            = some ([.int (oM (kw0 (kinF a.toNatClampNeg (I 66)) a.toNatClampNeg (I 66)))], Mh D (R6 (u2r I 68 (row320 (I 66) (I 68))) g2 (I 66)) P N) := by
          cases hn : a.toNatClampNeg with
          | zero =>
            rw [hn] at h1
            have ho : ovV (I 66) = true := by
              cases hov : ovV (I 66) with
              | true => rfl
              | false =>
                exfalso
                unfold kinF at h1
                rw [hov] at h1
                exact absurd (show (0 : Int32) ≤ -1 from h1) (by decide)
            exact ⟨g1, M_kst0 (d := d + 31) ok ho⟩
          | succ n =>
            obtain ⟨g2, e5⟩ := M_kst (X := X) (d := d) (D := D) (I := u2r I 68 (row320 (I 66) (I 68))) (P := P) (N := N) (b := kinF (n + 1) (I 66)) ok n (by omega) g1
            refine ⟨g2, ?_⟩
            have e6 := Rn_up e5 (show d + n + 8 ≤ d + 39 by omega)
            rw [e1, hn]
            exact e6
        obtain ⟨g2, e5⟩ := es
        simp only [e5, Option.bind_some, List.append_nil, List.nil_append, List.cons_append, cond_true, cond_false, if_true, if_false, ite_true, ite_false, reduceIte, IC, bI_0, bI_1, bF, Bool.not_eq_false, Bool.not_eq_true, Bool.and_true, Bool.true_and, Bool.and_false, Bool.false_and, Bool.true_or, Bool.or_true, Bool.or_false, Bool.false_or, Bool.not_true, Bool.not_false, decide_true, decide_false, not_true_eq_false, not_false_eq_true, eq_self, Bool.true_eq_false, Bool.false_eq_true, B212_44]
        obtain ⟨g3, s', he, l3, l4, l5, e6⟩ := M_kly (X := X) (d := d + 25) (D := D) (I := u2r I 68 (row320 (I 66) (I 68))) (P := P) (N := N) (S := I 66) (x := x) (b := kinF a.toNatClampNeg (I 66)) e3 (by omega) a.toNatClampNeg (by omega) h1 x.toNatClampNeg a.toNatClampNeg 0 (I 66) g2 U_ (by omega) (by omega) ok E320_rf rfl
        rw [← e1] at e6
        have e6' : Rn X (d + 39 + 1) 212 49 [.ref 65, .int a, .int x, .int (kinF a.toNatClampNeg (I 66)), .int (oM (kw0 (kinF a.toNatClampNeg (I 66)) a.toNatClampNeg (I 66))), .int 0, U_] [] (Mh D (R6 (u2r I 68 (row320 (I 66) (I 68))) g2 (I 66)) P N) = _ := e6
        rw [e6']
        refine ⟨R6 (u2r I 68 (row320 (I 66) (I 68))) g3 (I 66), ?_, (Sc_rf.r68).r6⟩
        rw [show d + 25 + 15 = d + 39 + 1 by omega]
        simp only [B212_87, Option.bind_some, List.append_nil, List.nil_append, List.cons_append, cond_true, cond_false, if_true, if_false, ite_true, ite_false, reduceIte, IC, bI_0, bI_1, bF, Bool.not_eq_false, Bool.not_eq_true, Bool.and_true, Bool.true_and, Bool.and_false, Bool.false_and, Bool.true_or, Bool.or_true, Bool.or_false, Bool.false_or, Bool.not_true, Bool.not_false, decide_true, decide_false, not_true_eq_false, not_false_eq_true, eq_self, Bool.true_eq_false, Bool.false_eq_true, M_pb he, B212_91, B212_103]
        have e7 := oV_of (kwkF (kinF a.toNatClampNeg (I 66)) x.toNatClampNeg a.toNatClampNeg (I 66)) (fun n hn => by have := kwk_lt _ _ _ ok n hn; omega)
        rw [← e7]
        split <;> rfl
theorem ok_lt {v : Int32} (ok : Ok s 10) (hi : i < ctA s) (hv : bt v 0 10 = true) : Ok (upd s (7 + 5 * i + 3) v) 10 := by
  have h9 := ok.1.n0.2
  obtain ⟨⟨g0, ga, gl⟩, gr⟩ := ok
  have ec : ctA (upd s (7 + 5 * i + 3) v) = ctA s := by unfold ctA; rw [upd_o (by omega)]
  have el : ctL (upd s (7 + 5 * i + 3) v) = ctL s := by unfold ctL; rw [upd_o (by omega)]
  refine ⟨⟨?_, fun j hj => ?_, fun k hk => ?_⟩, RuOK_of (upd_o (by omega)) (fun j hj => upd_o (by omega)) gr⟩
  · rw [upd_o (by omega), upd_o (by omega), upd_o (by omega), upd_o (by omega), upd_o (by omega), upd_o (by omega)]; exact g0
  · rw [ec] at hj
    obtain ⟨b1, b2, b3, b4, b5⟩ := ga j hj
    rw [upd_o (show 7 + 5 * j ≠ 7 + 5 * i + 3 by omega), upd_o (show 7 + 5 * j + 1 ≠ 7 + 5 * i + 3 by omega), upd_o (show 7 + 5 * j + 2 ≠ 7 + 5 * i + 3 by omega), upd_o (show 7 + 5 * j + 4 ≠ 7 + 5 * i + 3 by omega)]
    refine ⟨b1, b2, b3, ?_, b5⟩
    by_cases hji : j = i
    · subst hji; rw [upd_s]; exact hv
    · rw [upd_o (by omega)]; exact b4
  · rw [el] at hk
    have h8 : ctL s ≤ 8 := (show Gd s 10 from ⟨g0, ga, gl⟩).n2.2
    rw [upd_o (by omega), upd_o (by omega)]; exact gl k hk
theorem upd_bk {v : Int32} : upd (upd s k v) k (s k) = s := by
  funext j; unfold upd; split <;> simp_all
theorem ok_nds (ok : Ok s 10) (hi : i < ctA s) : Ok (ndsS s i) 10 := ok_lt ok hi (ok.1.2.1 i hi).2.2.2.2
theorem nds_bk : upd (ndsS s i) (7 + 5 * i + 3) (s (7 + 5 * i + 3)) = s := upd_bk
theorem F_nds1 (ok : Ok s 10) : ∀ k i acc g c v l4, i + k = ctA s → ∃ g' c' v', Rn X (d + 12) 213 11 [.ref 65, .int acc, .int 1, .int (Int32.ofNat i), l4] [] (Mh D (R6 (R7 I c v) g s) P N)
      = some ([.int (foldA (fun a acc => acc ||| (bif arrF 4 (ndsS s a) then (0 : Int32) else (1 : Int32) <<< (Int32.ofNat a &&& 31))) i k acc)], Mh D (R6 (R7 I c' v') g' s) P N)
  | 0, i, acc, g, c, v, l4, hk => by
    have h0 := ok.1.n0
    refine ⟨g, c, v, ?_⟩
    rw [B213_11]
    simp (disch := omega) only [RDm, Option.bind_some, List.append_nil, List.nil_append, List.cons_append, cond_true, cond_false, if_true, if_false, ite_true, ite_false, reduceIte, IC, bI_0, bI_1, bF, Bool.not_eq_false, Bool.not_eq_true, Bool.and_true, Bool.true_and, Bool.and_false, Bool.false_and, Bool.true_or, Bool.or_true, Bool.or_false, Bool.false_or, Bool.not_true, Bool.not_false, decide_true, decide_false, not_true_eq_false, not_false_eq_true, eq_self, Bool.true_eq_false, Bool.false_eq_true, R6_66, h0.1, iN_le]
    rw [if_pos (by omega), B213_86]
    rfl
  | k + 1, i, acc, g, c, v, l4, hk => by
    have h0 := ok.1.n0
    have h9 : i < 9 := by omega
    rw [B213_11]
    simp (disch := omega) only [RDm, Option.bind_some, List.append_nil, List.nil_append, List.cons_append, cond_true, cond_false, if_true, if_false, ite_true, ite_false, reduceIte, IC, bI_0, bI_1, bF, Bool.not_eq_false, Bool.not_eq_true, Bool.and_true, Bool.true_and, Bool.and_false, Bool.false_and, Bool.true_or, Bool.or_true, Bool.or_false, Bool.false_or, Bool.not_true, Bool.not_false, decide_true, decide_false, not_true_eq_false, not_false_eq_true, eq_self, Bool.true_eq_false, Bool.false_eq_true, R6_66, h0.1, iN_le]
    rw [if_neg (by omega), if_neg (by decide)]
    obtain ⟨g1, v1, e1⟩ := M_arr (X := X) (d := d) (D := D) (I := I) (P := P) (N := N) (m := 10) (by decide) 4 (by decide) 0 (ndsS s i) g c v (ok_nds ok (by omega)) (by decide)
    have e1' : Rn X (d + 11) 200 0 [.ref 65, .int 4, .int 0, U_, U_, U_] [] (Mh D (R6 (R7 I c v) g (upd s (7 + 5 * i + 3) (s (7 + 5 * i + 4)))) P N) = _ := e1
    simp (disch := omega) only [Option.bind_some, List.append_nil, List.nil_append, List.cons_append, cond_true, cond_false, if_true, if_false, ite_true, ite_false, reduceIte, IC, bI_0, bI_1, bF, Bool.not_eq_false, Bool.not_eq_true, Bool.and_true, Bool.true_and, Bool.and_false, Bool.false_and, Bool.true_or, Bool.or_true, Bool.or_false, Bool.false_or, Bool.not_true, Bool.not_false, decide_true, decide_false, not_true_eq_false, not_false_eq_true, eq_self, Bool.true_eq_false, Bool.false_eq_true, M_its (I := R6 (R7 I c v) g s) h9, R6_66, B213_31, RDm, B170_0, B213_42, B213_48, IX, wS, R6_w, e1', B213_56]
    unfold foldA
    cases ha : arrF 4 (ndsS s i) with
    | true =>
      simp (disch := omega) only [Option.bind_some, List.append_nil, List.nil_append, List.cons_append, cond_true, cond_false, if_true, if_false, ite_true, ite_false, reduceIte, IC, bI_0, bI_1, bF, Bool.not_eq_false, Bool.not_eq_true, Bool.and_true, Bool.true_and, Bool.and_false, Bool.false_and, Bool.true_or, Bool.or_true, Bool.or_false, Bool.false_or, Bool.not_true, Bool.not_false, decide_true, decide_false, not_true_eq_false, not_false_eq_true, eq_self, Bool.true_eq_false, Bool.false_eq_true, B213_66, RDm, B170_0, B213_77, IX, wS, R6_w, nds_bk]
      exact F_nds1 ok k (i + 1) _ g1 _ v1 _ (by omega)
    | false =>
      simp (disch := omega) only [Option.bind_some, List.append_nil, List.nil_append, List.cons_append, cond_true, cond_false, if_true, if_false, ite_true, ite_false, reduceIte, IC, bI_0, bI_1, bF, Bool.not_eq_false, Bool.not_eq_true, Bool.and_true, Bool.true_and, Bool.and_false, Bool.false_and, Bool.true_or, Bool.or_true, Bool.or_false, Bool.false_or, Bool.not_true, Bool.not_false, decide_true, decide_false, not_true_eq_false, not_false_eq_true, eq_self, Bool.true_eq_false, Bool.false_eq_true, B213_66, RDm, B170_0, B213_77, IX, wS, R6_w, nds_bk]
      exact F_nds1 ok k (i + 1) _ g1 _ v1 _ (by omega)
theorem F_nds (ok : Ok (I 66) 10) : Rf X I 213 [.ref 65, U_, U_, U_, U_] (pNds (I 66), I 66) := by
  intro d D P N
  have h0 := ok.1.n0
  obtain ⟨g1, v1, e1⟩ := M_arr (X := X) (d := d + 28) (D := D) (I := I) (P := P) (N := N) (m := 10) (by decide) 4 (by decide) 0 (I 66) (I 69) (I 70) (I 65 6) ok (by decide)
  rw [R67_id] at e1
  have e1' : Rn X (d + 39) 200 0 [.ref 65, .int 4, .int 0, U_, U_, U_] [] (Mh D I P N) = _ := e1
  simp only [B213_0, Option.bind_some, List.append_nil, List.nil_append, List.cons_append, cond_true, cond_false, if_true, if_false, ite_true, ite_false, reduceIte, IC, bI_0, bI_1, bF, Bool.not_eq_false, Bool.not_eq_true, Bool.and_true, Bool.true_and, Bool.and_false, Bool.false_and, Bool.true_or, Bool.or_true, Bool.or_false, Bool.false_or, Bool.not_true, Bool.not_false, decide_true, decide_false, not_true_eq_false, not_false_eq_true, eq_self, Bool.true_eq_false, Bool.false_eq_true, e1', B213_8]
  unfold pNds
  cases ha : arrF 4 (I 66) with
  | false =>
    refine fin7 (g := g1) (c := I 70) (v := v1) ?_
    rw [B213_11]
    simp only [Option.bind_some, List.append_nil, List.nil_append, List.cons_append, cond_true, cond_false, if_true, if_false, ite_true, ite_false, reduceIte, IC, bI_0, bI_1, bF, Bool.not_eq_false, Bool.not_eq_true, Bool.and_true, Bool.true_and, Bool.and_false, Bool.false_and, Bool.true_or, Bool.or_true, Bool.or_false, Bool.false_or, Bool.not_true, Bool.not_false, decide_true, decide_false, not_true_eq_false, not_false_eq_true, eq_self, Bool.true_eq_false, Bool.false_eq_true, RDm, bI_f, B213_86, ite_self]
  | true =>
    obtain ⟨g2, c2, v2, e2⟩ := F_nds1 (X := X) (d := d + 28) (D := D) (I := I) (P := P) (N := N) ok (ctA (I 66)) 0 0 g1 (setR (I 70) 0 (fstR 4 (I 66))) v1 U_ (by omega)
    exact fin7 (g := g2) (c := c2) (v := v2) e2
end RefH
