/-! the class: its ride holds a row -/
def kcl (k : Int32) : Nat := if k = 1 then 8 else if k = 2 then 1 else if k = 3 then 7 else if k = 4 then 0 else 9
def AnsR (s : Nat → Int32) (D : Nat → Nat × Nat) (I : Nat → Nat → Int32) (N i p : Nat) : Prop :=
  (80 ≤ p ∧ p < 80 + N ∧ D p = (4, kcl (s (7 + 5 * i)))) ∧ I p 0 = s (7 + 5 * i) ∧ I p 1 = Int32.ofNat i ∧ I p 2 = s (7 + 5 * i + 1) ∧ I p 3 = s (7 + 5 * i + 2) ∧ I p 4 = s (7 + 5 * i + 3) ∧ I p 5 = s (7 + 5 * i + 4)
/-- a place of rules -/
def RAt (D : Nat → Nat × Nat) (N q : Nat) : Prop := (q = 5 ∨ q = 20 ∨ q = 41 ∨ 80 ≤ q) ∧ q + 8 ≤ 80 + N ∧ bKk D q = (4, 5) ∧ (∀ j, 1 ≤ j → j ≤ 4 → bKk D (q + j) = (0, 8)) ∧ (∀ j, 5 ≤ j → j ≤ 7 → bKk D (q + j) = (0, 100))
def exS (t : Int32 × Int32 × Int32) : List Int32 := if t.1 = 10 then [-22] else if t.1 = 11 then [-21] else if t.1 = 12 then [-20] else [t.2.1, t.2.2, if t.1 = 60 then -11 else if t.1 = 61 then -12 else -13]
def exL : List (Int32 × Int32 × Int32) → List Int32
  | [] => []
  | t :: L => exS t ++ exL L
def stOK (t : Int32 × Int32 × Int32) : Prop := t.1 = 10 ∨ t.1 = 11 ∨ t.1 = 12 ∨ ((t.1 = 60 ∨ t.1 = 61 ∨ t.1 = 62) ∧ bt t.2.1 (-5) 9999 = true ∧ bt t.2.2 (-5) 9999 = true)
/-- steps lie from cf on, their codes from f on -/
def stpR (r5 r6 r7 : Nat → Int32) : Nat → List (Int32 × Int32 × Int32) → Prop
  | _, [] => True
  | j, t :: L => (r5 j = t.1 ∧ r6 j = t.2.1 ∧ r7 j = t.2.2) ∧ stOK t ∧ stpR r5 r6 r7 (j + 1) L
def codR (c : Nat → Int32) : Nat → List Int32 → Prop
  | _, [] => True
  | j, x :: L => c j = x ∧ codR c (j + 1) L
def SegR (r5 r6 r7 c : Nat → Int32) (cf ce f e : Nat) : Prop := ∃ L, ce = cf + L.length ∧ e = f + (exL L).length ∧ stpR r5 r6 r7 cf L ∧ codR c f (exL L)
def cEn (r4 : Nat → Int32) (k : Nat) : Nat := (r4 k).toNatClampNeg
def cFr (r4 : Nat → Int32) (k : Nat) : Nat := match k with | 0 => 0 | k + 1 => cEn r4 k
def RulR (s : Nat → Int32) (D : Nat → Nat × Nat) (I : Nat → Nat → Int32) (N q : Nat) : Prop :=
  RAt D N q ∧ I q 0 = s 1 ∧ ∀ k, k < ctR s → I (q + 1) k = s (86 + 4 * k) ∧ I (q + 2) k = s (86 + 4 * k + 1) + 6 ∧ I (q + 3) k = s (86 + 4 * k + 2) ∧ bt (I (q + 4) k) 0 100 = true
    ∧ SegR (I (q + 5)) (I (q + 6)) (I (q + 7)) (fun j => s (118 + j)) (cFr (I (q + 4)) k) (cEn (I (q + 4)) k) (frm s k) (enN s k)
def RideR (s : Nat → Int32) (D : Nat → Nat × Nat) (I : Nat → Nat → Int32) (P : Nat → Nat → Option Nat) (N b : Nat) (ra : Nat → Nat) : Prop :=
  (I b 1 = s 0 ∧ I b 4 = s 2 ∧ I b 5 = endV s ∧ I b 6 = s 4 ∧ I b 7 = s 5 ∧ I b 8 = s 6 ∧ I b 13 = s 3)
  ∧ (∀ k, k < ctL s → I (b + 2) k = s (52 + 2 * k) ∧ I (b + 3) k = s (52 + 2 * k + 1))
  ∧ (∀ r, r < ctE s → I (b + 13) r = s (68 + 3 * r + 1) - s (68 + 3 * r) ∧ I (b + 14) r = s (68 + 3 * r + 2))
  ∧ (∀ i, i < ctA s → P (b + 1) i = some (ra i) ∧ AnsR s D I N i (ra i))
  ∧ (∀ i j, i < ctA s → j < ctA s → ra i = ra j → i = j)
  ∧ ∃ q, P b 9 = some q ∧ RulR s D I N q
def ansO (s : Nat → Int32) (ra : Nat → Nat) (a : Int32) : Option Nat := bif isA s a then some (ra a.toNatClampNeg) else none
theorem kcl_ans (k : Int32) : isAns (kcl k) = true := by
  unfold kcl
  split
  · rfl
  · split
    · rfl
    · split
      · rfl
      · split <;> rfl
section ClsA
variable {X : mX} {d : Nat} {D : Nat → Nat × Nat} {I : Nat → Nat → Int32} {P : Nat → Nat → Option Nat} {N : Nat} {h : mH} {s g c S r f : Nat → Int32} {ra : Nat → Nat} {m : Int} {i j k n p q : Nat} {x v w a b : Int32}
theorem AnsR.at (h : AnsR s D I N i p) : AnsAt D N p := ⟨h.1.1, h.1.2.1, _, h.1.2.2, kcl_ans _⟩
theorem rr3 (h : j < 8) : hAI 0 (Mh D I P N) 3 (Int32.ofNat j) = some (I 3 j) := by rw [rdA hN3 (n := 8) rfl rfl, mib_N h (by decide), iN_cl (by omega)]; rfl
theorem rr4 (h : j < 8) : hAI 0 (Mh D I P N) 4 (Int32.ofNat j) = some (I 4 j) := by rw [rdA hN4 (n := 8) rfl rfl, mib_N h (by decide), iN_cl (by omega)]; rfl
theorem rr2 (h : j < 9) : hAR (Mh D I P N) 2 (Int32.ofNat j) = some (P 2 j) := by rw [rdQ2 hN2 (n := 9) rfl, mib_N h (by decide), iN_cl (by omega)]; rfl
theorem C_at (g : Gd s m) (hr : RideR s D I P N 1 ra) : Rn X d 28 0 [.ref 1, .int a] [] (Mh D I P N) = some ([va_rf (ansO s ra a)], Mh D I P N) := by
  have h0 := g.n0
  have hb := bt_iff.mp g.1.1
  obtain ⟨⟨e1, -⟩, -, -, ha, -⟩ := hr
  simp only [B28_0, RDc, Option.bind_some, List.append_nil, List.nil_append, List.cons_append, cond_true, cond_false, if_true, if_false, ite_true, ite_false, reduceIte, IC, bI_0, bI_1, bF, Bool.not_eq_false, Bool.not_eq_true, Bool.and_true, Bool.true_and, Bool.and_false, Bool.false_and, Bool.true_or, Bool.or_true, Bool.or_false, Bool.false_or, Bool.not_true, Bool.not_false, decide_true, decide_false, not_true_eq_false, not_false_eq_true, eq_self, Bool.true_eq_false, Bool.false_eq_true, e1, B28_27, B28_28]
  unfold ansO
  cases hi : isA s a with
  | true =>
    obtain ⟨i, h1, rfl⟩ := isA_nat g hi
    rw [if_neg (iN_neg (by omega)), h0.1, if_neg (by rw [iN_le (by omega) (by omega)]; omega), if_neg (le_n (l := 9) (n := 9) rfl (by omega) (by omega) (by omega)), mib_N (by omega) (by decide), iN_cl (by omega)]
    simp only [Option.bind_some, List.append_nil, List.nil_append, List.cons_append, cond_true, cond_false, if_true, if_false, ite_true, ite_false, reduceIte, IC, bI_0, bI_1, bF, Bool.not_eq_false, Bool.not_eq_true, Bool.and_true, Bool.true_and, Bool.and_false, Bool.false_and, Bool.true_or, Bool.or_true, Bool.or_false, Bool.false_or, Bool.not_true, Bool.not_false, decide_true, decide_false, not_true_eq_false, not_false_eq_true, eq_self, Bool.true_eq_false, Bool.false_eq_true]
    rw [show P 2 i = some (ra i) from (ha i h1).1]
  | false =>
    have hn := bt_no.mp hi
    by_cases h1 : a < 0
    · rw [if_pos h1]; rfl
    · rw [if_neg h1]
      have h2 : s 0 ≤ a := by
        rw [Int32.lt_iff_toInt_lt, z_ti] at h1
        rw [Int32.le_iff_toInt_le]; omega
      rw [if_pos h2]; rfl
theorem C_leg' (g : Gd s m) (hr : RideR s D I P N 1 ra) : ∀ k i e, i + k = ctL s → Rn X d 36 4 [.ref 1, .int e, .int (Int32.ofNat i)] [] (Mh D I P N) = some ([.int (Int32.ofNat (legF s i k e))], Mh D I P N)
  | 0, i, e, hk => by
    have h2 := g.n2
    obtain ⟨⟨-, e4, -⟩, -⟩ := hr
    rw [B36_4]
    simp (disch := omega) only [RDc, Option.bind_some, List.append_nil, List.nil_append, List.cons_append, cond_true, cond_false, if_true, if_false, ite_true, ite_false, reduceIte, IC, bI_0, bI_1, bF, Bool.not_eq_false, Bool.not_eq_true, Bool.and_true, Bool.true_and, Bool.and_false, Bool.false_and, Bool.true_or, Bool.or_true, Bool.or_false, Bool.false_or, Bool.not_true, Bool.not_false, decide_true, decide_false, not_true_eq_false, not_false_eq_true, eq_self, Bool.true_eq_false, Bool.false_eq_true, e4, h2.1, iN_le]
    rw [if_pos (by omega)]
    simp only [B36_43, RDc, Option.bind_some, List.append_nil, List.nil_append, List.cons_append, cond_true, cond_false, if_true, if_false, ite_true, ite_false, reduceIte, IC, bI_0, bI_1, bF, Bool.not_eq_false, Bool.not_eq_true, Bool.and_true, Bool.true_and, Bool.and_false, Bool.false_and, Bool.true_or, Bool.or_true, Bool.or_false, Bool.false_or, Bool.not_true, Bool.not_false, decide_true, decide_false, not_true_eq_false, not_false_eq_true, eq_self, Bool.true_eq_false, Bool.false_eq_true, e4, h2.1]
    show some ([Value.int (Int32.ofNat (ctL s))], _) = some ([Value.int (Int32.ofNat i)], _)
    rw [show i = ctL s by omega]
  | k + 1, i, e, hk => by
    have h2 := g.n2
    have hr' := hr
    obtain ⟨⟨-, e4, -, e6, -⟩, hl, -⟩ := hr
    rw [B36_4]
    simp (disch := omega) only [RDc, Option.bind_some, List.append_nil, List.nil_append, List.cons_append, cond_true, cond_false, if_true, if_false, ite_true, ite_false, reduceIte, IC, bI_0, bI_1, bF, Bool.not_eq_false, Bool.not_eq_true, Bool.and_true, Bool.true_and, Bool.and_false, Bool.false_and, Bool.true_or, Bool.or_true, Bool.or_false, Bool.false_or, Bool.not_true, Bool.not_false, decide_true, decide_false, not_true_eq_false, not_false_eq_true, eq_self, Bool.true_eq_false, Bool.false_eq_true, e4, h2.1, iN_le]
    rw [if_neg (by omega), if_neg (le_n (l := 8) (n := 8) rfl (by omega) (by omega) (by omega)), mib_N (by omega) (by decide), iN_cl (by omega)]
    simp only [Option.bind_some, List.append_nil, List.nil_append, List.cons_append, cond_true, cond_false, if_true, if_false, ite_true, ite_false, reduceIte, IC, bI_0, bI_1, bF, Bool.not_eq_false, Bool.not_eq_true, Bool.and_true, Bool.true_and, Bool.and_false, Bool.false_and, Bool.true_or, Bool.or_true, Bool.or_false, Bool.false_or, Bool.not_true, Bool.not_false, decide_true, decide_false, not_true_eq_false, not_false_eq_true, eq_self, Bool.true_eq_false, Bool.false_eq_true, e6, (hl i (by omega)).1, show I 3 i = s (52 + 2 * i) from (hl i (by omega)).1, IX]
    unfold legF
    split
    · exact C_leg' g hr' k (i + 1) _ (by omega)
    · rfl
theorem C_legN (g : Gd s m) (hr : RideR s D I P N 1 ra) : Rn X d 36 0 [.ref 1, U_, U_] [] (Mh D I P N) = some ([.int (Int32.ofNat (legN s))], Mh D I P N) := by
  rw [B36_0]; exact C_leg' g hr _ 0 0 (by omega)
theorem C_has (g : Gd s m) (hr : RideR s D I P N 1 ra) : Rn X d 31 0 [.ref 1, .int a] [] (Mh D I P N) = some ([.int (bI (isL s a))], Mh D I P N) := by
  have h2 := g.n2
  obtain ⟨⟨-, e4, -⟩, -⟩ := hr
  simp only [B31_0, RDc, Option.bind_some, List.append_nil, List.nil_append, List.cons_append, cond_true, cond_false, if_true, if_false, ite_true, ite_false, reduceIte, IC, bI_0, bI_1, bF, Bool.not_eq_false, Bool.not_eq_true, Bool.and_true, Bool.true_and, Bool.and_false, Bool.false_and, Bool.true_or, Bool.or_true, Bool.or_false, Bool.false_or, Bool.not_true, Bool.not_false, decide_true, decide_false, not_true_eq_false, not_false_eq_true, eq_self, Bool.true_eq_false, Bool.false_eq_true, e4, B31_22, B31_23]
  cases hi : isL s a with
  | true =>
    obtain ⟨i, h1, rfl⟩ := isL_nat g hi
    rw [if_neg (iN_neg (by omega)), h2.1, if_neg (by rw [iN_le (by omega) (by omega)]; omega), if_neg (le_n (l := 8) (n := 8) rfl (by omega) (by omega) (by omega))]
    rfl
  | false =>
    have hn := bt_no.mp hi
    have hf : (bif true || decide ((0 : Int32) = 1) then some ([Value.int 0], Mh D I P N) else none) = some ([Value.int (bI false)], Mh D I P N) := rfl
    by_cases h1 : a < 0
    · rw [if_pos h1]; rfl
    · rw [if_neg h1]
      have h2 : s 2 ≤ a := by
        rw [Int32.lt_iff_toInt_lt, z_ti] at h1
        rw [Int32.le_iff_toInt_le]; omega
      rw [if_pos h2]; rfl
theorem C_moodOf (g : Gd s m) (hr : RideR s D I P N 1 ra) (hi : i < ctL s) : Rn X (d + 1) 35 0 [.ref 1, .int (Int32.ofNat i)] [] (Mh D I P N) = some ([.int (s (52 + 2 * i + 1))], Mh D I P N) := by
  have h2 := g.n2
  have hr' := hr
  obtain ⟨-, hl, -⟩ := hr
  simp only [B35_0, Option.bind_some, List.append_nil, List.nil_append, List.cons_append, cond_true, cond_false, if_true, if_false, ite_true, ite_false, reduceIte, IC, bI_0, bI_1, bF, Bool.not_eq_false, Bool.not_eq_true, Bool.and_true, Bool.true_and, Bool.and_false, Bool.false_and, Bool.true_or, Bool.or_true, Bool.or_false, Bool.false_or, Bool.not_true, Bool.not_false, decide_true, decide_false, not_true_eq_false, not_false_eq_true, eq_self, Bool.true_eq_false, Bool.false_eq_true, C_has g hr', B35_5, B35_18, isL_i g hi, RDc, mib_N (show i < 8 by omega) (by decide), iN_cl (show i < 2147483648 by omega), show I 4 i = s (52 + 2 * i + 1) from (hl i hi).2]
theorem C_minOf (g : Gd s m) (hr : RideR s D I P N 1 ra) (hi : i < ctL s) : Rn X (d + 1) 34 0 [.ref 1, .int (Int32.ofNat i)] [] (Mh D I P N) = some ([.int (s (52 + 2 * i))], Mh D I P N) := by
  have h2 := g.n2
  have hr' := hr
  obtain ⟨-, hl, -⟩ := hr
  simp only [B34_0, Option.bind_some, List.append_nil, List.nil_append, List.cons_append, cond_true, cond_false, if_true, if_false, ite_true, ite_false, reduceIte, IC, bI_0, bI_1, bF, Bool.not_eq_false, Bool.not_eq_true, Bool.and_true, Bool.true_and, Bool.and_false, Bool.false_and, Bool.true_or, Bool.or_true, Bool.or_false, Bool.false_or, Bool.not_true, Bool.not_false, decide_true, decide_false, not_true_eq_false, not_false_eq_true, eq_self, Bool.true_eq_false, Bool.false_eq_true, C_has g hr', B34_5, B34_18, isL_i g hi, RDc, mib_N (show i < 8 by omega) (by decide), iN_cl (show i < 2147483648 by omega), show I 3 i = s (52 + 2 * i) from (hl i hi).1]
theorem C_mood (g : Gd s m) (hr : RideR s D I P N 1 ra) : Rn X (d + 1) 35 0 [.ref 1, .int (Int32.ofNat (legN s))] [] (Mh D I P N) = some ([.int (moodV s)], Mh D I P N) := by
  have h2 := g.n2
  have h3 := legN_le (s := s)
  unfold moodV
  by_cases hc : ctL s ≤ legN s
  · rw [if_pos hc]
    have hf : isL s (Int32.ofNat (legN s)) = false := by
      refine bt_no.mpr (Or.inr ?_)
      rw [h2.1, iN_ti (by omega), iN_ti (by omega)]; omega
    simp only [B35_0, Option.bind_some, List.append_nil, List.nil_append, List.cons_append, cond_true, cond_false, if_true, if_false, ite_true, ite_false, reduceIte, IC, bI_0, bI_1, bF, Bool.not_eq_false, Bool.not_eq_true, Bool.and_true, Bool.true_and, Bool.and_false, Bool.false_and, Bool.true_or, Bool.or_true, Bool.or_false, Bool.false_or, Bool.not_true, Bool.not_false, decide_true, decide_false, not_true_eq_false, not_false_eq_true, eq_self, Bool.true_eq_false, Bool.false_eq_true, C_has g hr, B35_5, B35_18, hf]
  · rw [if_neg hc]
    exact C_moodOf g hr (by omega)
theorem C_over (hr : RideR s D I P N 1 ra) : Rn X d 37 0 [.ref 1] [] (Mh D I P N) = some ([.int (bI (ovV s))], Mh D I P N) := by
  obtain ⟨⟨-, -, e5, e6, -⟩, -⟩ := hr
  simp only [B37_0, RDc, Option.bind_some, List.append_nil, List.nil_append, List.cons_append, cond_true, cond_false, if_true, if_false, ite_true, ite_false, reduceIte, IC, bI_0, bI_1, bF, Bool.not_eq_false, Bool.not_eq_true, Bool.and_true, Bool.true_and, Bool.and_false, Bool.false_and, Bool.true_or, Bool.or_true, Bool.or_false, Bool.false_or, Bool.not_true, Bool.not_false, decide_true, decide_false, not_true_eq_false, not_false_eq_true, eq_self, Bool.true_eq_false, Bool.false_eq_true, e5, e6, B37_16]
  unfold ovV
  by_cases h1 : s 4 < endV s
  · have h2 : ¬ endV s ≤ s 4 := by rw [i_nle]; exact h1
    simp +decide only [h1, h2, Option.bind_some, List.append_nil, List.nil_append, List.cons_append, cond_true, cond_false, if_true, if_false, ite_true, ite_false, reduceIte, IC, bI_0, bI_1, bF, Bool.not_eq_false, Bool.not_eq_true, Bool.and_true, Bool.true_and, Bool.and_false, Bool.false_and, Bool.true_or, Bool.or_true, Bool.or_false, Bool.false_or, Bool.not_true, Bool.not_false, decide_true, decide_false, not_true_eq_false, not_false_eq_true, eq_self, Bool.true_eq_false, Bool.false_eq_true]
    rfl
  · have h2 : endV s ≤ s 4 := by rw [← i_nlt]; exact h1
    simp +decide only [h1, h2, Option.bind_some, List.append_nil, List.nil_append, List.cons_append, cond_true, cond_false, if_true, if_false, ite_true, ite_false, reduceIte, IC, bI_0, bI_1, bF, Bool.not_eq_false, Bool.not_eq_true, Bool.and_true, Bool.true_and, Bool.and_false, Bool.false_and, Bool.true_or, Bool.or_true, Bool.or_false, Bool.false_or, Bool.not_true, Bool.not_false, decide_true, decide_false, not_true_eq_false, not_false_eq_true, eq_self, Bool.true_eq_false, Bool.false_eq_true]
    rfl
theorem C_can (hr : RideR s D I P N 1 ra) (hi : i < ctA s) : Rn X (d + 1) 40 0 [.ref 1, .ref (ra i)] [] (Mh D I P N) = some ([.int (bI (canV s i))], Mh D I P N) := by
  have hr' := hr
  obtain ⟨⟨-, -, -, -, e7, -⟩, -, -, ha, -⟩ := hr
  obtain ⟨-, ha⟩ := ha i hi
  obtain ⟨-, -, -, -, a3, a4, a5⟩ := id ha
  simp only [B40_0, Option.bind_some, List.append_nil, List.nil_append, List.cons_append, cond_true, cond_false, if_true, if_false, ite_true, ite_false, reduceIte, IC, bI_0, bI_1, bF, Bool.not_eq_false, Bool.not_eq_true, Bool.and_true, Bool.true_and, Bool.and_false, Bool.false_and, Bool.true_or, Bool.or_true, Bool.or_false, Bool.false_or, Bool.not_true, Bool.not_false, decide_true, decide_false, not_true_eq_false, not_false_eq_true, eq_self, Bool.true_eq_false, Bool.false_eq_true, C_over hr', B40_4, RDa ha.at, RDc, a3, a4, a5, e7, B40_33, B40_34]
  unfold canV
  cases h1 : ovV s with
  | true => simp +decide only [Option.bind_some, List.append_nil, List.nil_append, List.cons_append, cond_true, cond_false, if_true, if_false, ite_true, ite_false, reduceIte, IC, bI_0, bI_1, bF, Bool.not_eq_false, Bool.not_eq_true, Bool.and_true, Bool.true_and, Bool.and_false, Bool.false_and, Bool.true_or, Bool.or_true, Bool.or_false, Bool.false_or, Bool.not_true, Bool.not_false, decide_true, decide_false, not_true_eq_false, not_false_eq_true, eq_self, Bool.true_eq_false, Bool.false_eq_true]; rfl
  | false =>
    by_cases h2 : s (7 + 5 * i + 3) ≤ s (7 + 5 * i + 4)
    · have h3 : ¬ s (7 + 5 * i + 4) < s (7 + 5 * i + 3) := by rw [i_nlt]; exact h2
      simp +decide only [h2, h3, Option.bind_some, List.append_nil, List.nil_append, List.cons_append, cond_true, cond_false, if_true, if_false, ite_true, ite_false, reduceIte, IC, bI_0, bI_1, bF, Bool.not_eq_false, Bool.not_eq_true, Bool.and_true, Bool.true_and, Bool.and_false, Bool.false_and, Bool.true_or, Bool.or_true, Bool.or_false, Bool.false_or, Bool.not_true, Bool.not_false, decide_true, decide_false, not_true_eq_false, not_false_eq_true, eq_self, Bool.true_eq_false, Bool.false_eq_true]; rfl
    · have h3 : s (7 + 5 * i + 4) < s (7 + 5 * i + 3) := by rw [← i_nle]; exact h2
      by_cases h4 : s 5 < s (7 + 5 * i + 2)
      · have h5 : ¬ s (7 + 5 * i + 2) ≤ s 5 := by rw [i_nle]; exact h4
        simp +decide only [h2, h3, h4, h5, Option.bind_some, List.append_nil, List.nil_append, List.cons_append, cond_true, cond_false, if_true, if_false, ite_true, ite_false, reduceIte, IC, bI_0, bI_1, bF, Bool.not_eq_false, Bool.not_eq_true, Bool.and_true, Bool.true_and, Bool.and_false, Bool.false_and, Bool.true_or, Bool.or_true, Bool.or_false, Bool.false_or, Bool.not_true, Bool.not_false, decide_true, decide_false, not_true_eq_false, not_false_eq_true, eq_self, Bool.true_eq_false, Bool.false_eq_true]; rfl
      · have h5 : s (7 + 5 * i + 2) ≤ s 5 := by rw [← i_nlt]; exact h4
        simp +decide only [h2, h3, h4, h5, Option.bind_some, List.append_nil, List.nil_append, List.cons_append, cond_true, cond_false, if_true, if_false, ite_true, ite_false, reduceIte, IC, bI_0, bI_1, bF, Bool.not_eq_false, Bool.not_eq_true, Bool.and_true, Bool.true_and, Bool.and_false, Bool.false_and, Bool.true_or, Bool.or_true, Bool.or_false, Bool.false_or, Bool.not_true, Bool.not_false, decide_true, decide_false, not_true_eq_false, not_false_eq_true, eq_self, Bool.true_eq_false, Bool.false_eq_true]; rfl
end ClsA
