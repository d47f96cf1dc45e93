/-! the host: items told -/
def mx0 (x : Int32) : Int32 := if x ≤ 0 then 0 else x
def canT (s : Nat → Int32) (x : Int32) : Bool := isA s x && canV s x.toNatClampNeg
/-- k items from c on are told: the minutes, the row behind them -/
def tlaF (it : Nat → Int32) (l : Int32) : Nat → Int32 → Int32 → (Nat → Int32) → Int32 × (Nat → Int32)
  | 0, _, acc, s => (acc, s)
  | k + 1, c, acc, s => if itI l c = true then tlaF it l k (c + 1) (acc + mx0 (pSay s (it c.toNatClampNeg)).1) (pSay s (it c.toNatClampNeg)).2 else (-12, s)
def wcoF (it : Nat → Int32) (l : Int32) : Nat → Int32 → (Nat → Int32) → Int32 × (Nat → Int32)
  | 0, _, s => (0, s)
  | k + 1, c, s => if itI l c = true then (if canT s (it c.toNatClampNeg) = true then wcoF it l k (c + 1) (telS s (it c.toNatClampNeg).toNatClampNeg) else (-4, s)) else (-12, s)
def itwV (T : Nat → Int32) (a n : Int32) : Int32 := if (bt a 0 3 && bt n 0 20) = true then rfuV (T a.toNatClampNeg) 0 else -1
def tlaV (T U : Nat → Int32) (it : Nat → Nat → Int32) (a b n : Int32) (s : Nat → Int32) : Int32 × (Nat → Int32) := if itwV T a n = 0 then tlaF (it a.toNatClampNeg) (U a.toNatClampNeg) n.toNatClampNeg b 0 s else (itwV T a n, s)
def wcoV (T U : Nat → Int32) (it : Nat → Nat → Int32) (a b n : Int32) (s : Nat → Int32) : Int32 := if itwV T a n = 0 then (if (wcoF (it a.toNatClampNeg) (U a.toNatClampNeg) n.toNatClampNeg b s).1 = 0 then s 5 - (wcoF (it a.toNatClampNeg) (U a.toNatClampNeg) n.toNatClampNeg b s).2 5 else (wcoF (it a.toNatClampNeg) (U a.toNatClampNeg) n.toNatClampNeg b s).1) else itwV T a n
section HostC
variable {X : mX} {d : Nat} {D : Nat → Nat × Nat} {I : Nat → Nat → Int32} {P : Nat → Nat → Option Nat} {N : Nat} {h : mH} {s g S r w f : Nat → Int32} {J J' : Nat → Nat → Int32} {ra : Nat → Nat} {L : List Nat} {m : Int} {i j k n p q t r0 : Nat} {x y v a b c e l : Int32} {it it' : Nat → Int32}
theorem tla_of (hl : bt l 0 40 = true) (h : ∀ j, j < 40 → it j = it' j) : ∀ k c e s, tlaF it l k c e s = tlaF it' l k c e s
  | 0, _, _, _ => rfl
  | k + 1, c, e, s => by
    simp only [tlaF]
    cases hi : itI l c with
    | false => simp only [Bool.false_eq_true, if_false]
    | true =>
      obtain ⟨j, hj, hc⟩ := it_ix hl hi
      have hj2 : c.toNatClampNeg = j := by rw [hc, iN_cl (by omega)]
      simp only [if_true]
      rw [hj2, h j hj]
      exact tla_of hl h k _ _ _
theorem wco_of (hl : bt l 0 40 = true) (h : ∀ j, j < 40 → it j = it' j) : ∀ k c s, wcoF it l k c s = wcoF it' l k c s
  | 0, _, _ => rfl
  | k + 1, c, s => by
    simp only [wcoF]
    cases hi : itI l c with
    | false => simp only [Bool.false_eq_true, if_false]
    | true =>
      obtain ⟨j, hj, hc⟩ := it_ix hl hi
      have hj2 : c.toNatClampNeg = j := by rw [hc, iN_cl (by omega)]
      simp only [if_true]
      rw [hj2, h j hj]
      cases canT s (it' j) with
      | false => simp only [Bool.false_eq_true, if_false]
      | true =>
        simp only [if_true]
        exact wco_of hl h k _ _
theorem c_ti (hi : i ≤ 20) (hc : i = 0 ∨ (0 ≤ a.toInt ∧ a.toInt + (i : Int) ≤ 40)) : (a + Int32.ofNat i).toInt = a.toInt + (i : Int) ∧ (a.toInt64 + (Int32.ofNat i).toInt64).toInt = a.toInt + (i : Int) := by
  have e1 := Int32.toInt_lt a
  have e2 := Int32.le_toInt a
  constructor
  · rcases hc with rfl | h
    · rw [show Int32.ofNat 0 = 0 from rfl, Int32.add_zero]; omega
    · rw [t_add (by rw [iN_ti (by omega)]; omega) (by rw [iN_ti (by omega)]; omega), iN_ti (by omega)]
  · rw [Int64.toInt_add, Int32.toInt_toInt64, Int32.toInt_toInt64, iN_ti (by omega)]
    exact Int.bmod_eq_of_le (by omega) (by omega)
theorem c_nx : a + Int32.ofNat i + 1 = a + Int32.ofNat (i + 1) := by rw [Int32.ofNat_add, Int32.add_assoc]; rfl
theorem c_st (hi : i ≤ 20) (hc : i = 0 ∨ (0 ≤ a.toInt ∧ a.toInt + (i : Int) ≤ 40)) (hl : bt l 0 40 = true) (h : itI l (a + Int32.ofNat i) = true) : i + 1 = 0 ∨ (0 ≤ a.toInt ∧ a.toInt + ((i + 1 : Nat) : Int) ≤ 40) := by
  have h1 := bt_iff.mp h
  have h2 := bt_iff.mp hl
  rw [(c_ti hi hc).1] at h1
  omega
theorem ok_say (ok : Ok s 10) : Ok (pSay s a).2 10 ∧ ctA (pSay s a).2 = ctA s ∧ ∀ r, E320 s r → E320 (pSay s a).2 r := by
  unfold pSay
  cases hb : isA s a with
  | false => exact ⟨ok, rfl, fun _ h => h⟩
  | true =>
    obtain ⟨i, hi, rfl⟩ := isA_nat ok.1 hb
    have h9 := ok.1.a hi
    rw [if_pos rfl, iN_cl (by omega)]
    cases hc : canV s i with
    | false => exact ⟨ok, rfl, fun _ h => h⟩
    | true => exact ⟨ok.tel (by decide) hi hc, cN_tel h9, fun _ h => h.tel h9⟩
theorem M_say (ok : Ok s m) (g : Nat → Int32) : ∃ g', Rn X (d + 7) 198 0 [.ref 65, .int a] [] (Mh D (R6 I g s) P N) = some ([.int (pSay s a).1], Mh D (R6 I g' (pSay s a).2) P N) := by
  have gg := ok.1
  have hA := M_isA (X := X) (d := d + 5) (D := D) (I := R6 I g s) (P := P) (N := N) (a := a) gg
  rw [R6_66] at hA
  simp only [B198_0, IC, Option.bind_some, List.append_nil, List.nil_append, List.cons_append, cond_true, cond_false, if_true, if_false, ite_true, ite_false, reduceIte, IC, bI_0, bI_1, bF, Bool.not_eq_false, Bool.not_eq_true, Bool.and_true, Bool.true_and, Bool.and_false, Bool.false_and, Bool.true_or, Bool.or_true, Bool.or_false, Bool.false_or, Bool.not_true, Bool.not_false, decide_true, decide_false, not_true_eq_false, not_false_eq_true, eq_self, Bool.true_eq_false, Bool.false_eq_true, hA, B198_5, B198_15, B198_23, B198_28]
  unfold pSay
  cases hb : isA s a with
  | false => exact ⟨g, by simp only [Option.bind_some, List.append_nil, List.nil_append, List.cons_append, cond_true, cond_false, if_true, if_false, ite_true, ite_false, reduceIte, IC, bI_0, bI_1, bF, Bool.not_eq_false, Bool.not_eq_true, Bool.and_true, Bool.true_and, Bool.and_false, Bool.false_and, Bool.true_or, Bool.or_true, Bool.or_false, Bool.false_or, Bool.not_true, Bool.not_false, decide_true, decide_false, not_true_eq_false, not_false_eq_true, eq_self, Bool.true_eq_false, Bool.false_eq_true]⟩
  | true =>
    obtain ⟨i, hi, rfl⟩ := isA_nat gg hb
    have h9 := gg.a hi
    have e0 : (Int32.ofNat i).toNatClampNeg = i := iN_cl (by omega)
    have hC := M_can (X := X) (d := d + 3) (D := D) (I := R6 I g s) (P := P) (N := N) gg h9
    rw [R6_66] at hC
    simp only [Option.bind_some, List.append_nil, List.nil_append, List.cons_append, cond_true, cond_false, if_true, if_false, ite_true, ite_false, reduceIte, IC, bI_0, bI_1, bF, Bool.not_eq_false, Bool.not_eq_true, Bool.and_true, Bool.true_and, Bool.and_false, Bool.false_and, Bool.true_or, Bool.or_true, Bool.or_false, Bool.false_or, Bool.not_true, Bool.not_false, decide_true, decide_false, not_true_eq_false, not_false_eq_true, eq_self, Bool.true_eq_false, Bool.false_eq_true, hC, e0]
    cases hc : canV s i with
    | false => exact ⟨g, by simp only [Option.bind_some, List.append_nil, List.nil_append, List.cons_append, cond_true, cond_false, if_true, if_false, ite_true, ite_false, reduceIte, IC, bI_0, bI_1, bF, Bool.not_eq_false, Bool.not_eq_true, Bool.and_true, Bool.true_and, Bool.and_false, Bool.false_and, Bool.true_or, Bool.or_true, Bool.or_false, Bool.false_or, Bool.not_true, Bool.not_false, decide_true, decide_false, not_true_eq_false, not_false_eq_true, eq_self, Bool.true_eq_false, Bool.false_eq_true, B198_15, B198_28]⟩
    | true =>
      obtain ⟨g', eh⟩ := M_tel (X := X) (d := d) (D := D) (I := I) (P := P) (N := N) ok hi g
      exact ⟨g', by simp only [Option.bind_some, List.append_nil, List.nil_append, List.cons_append, cond_true, cond_false, if_true, if_false, ite_true, ite_false, reduceIte, IC, bI_0, bI_1, bF, Bool.not_eq_false, Bool.not_eq_true, Bool.and_true, Bool.true_and, Bool.and_false, Bool.false_and, Bool.true_or, Bool.or_true, Bool.or_false, Bool.false_or, Bool.not_true, Bool.not_false, decide_true, decide_false, not_true_eq_false, not_false_eq_true, eq_self, Bool.true_eq_false, Bool.false_eq_true, eh, B198_15, B198_23, B198_28]⟩
theorem M_itL {l' : Int64} (hr : r0 < 4) (hl : bt (I 74 r0) 0 40 = true) (hc : l'.toInt = c.toInt) : Rn X (d + 1) 260 0 [.ref 65, .int (Int32.ofNat r0), .long l', U_] [] (Mh D I P N) = some ([.int (bI (itI (I 74 r0) c))], Mh D I P N) := by
  have e := t_m1 (bt_iff.mp hl).1
  simp only [B260_0, RDm, Option.bind_some, List.append_nil, List.nil_append, List.cons_append, cond_true, cond_false, if_true, if_false, ite_true, ite_false, reduceIte, IC, bI_0, bI_1, bF, Bool.not_eq_false, Bool.not_eq_true, Bool.and_true, Bool.true_and, Bool.and_false, Bool.false_and, Bool.true_or, Bool.or_true, Bool.or_false, Bool.false_or, Bool.not_true, Bool.not_false, decide_true, decide_false, not_true_eq_false, not_false_eq_true, eq_self, Bool.true_eq_false, Bool.false_eq_true, rr74 hr, M_in, Int32.toInt_toInt64, e, hc, B260_14, L64]
  unfold itI bt
  cases decide (0 ≤ c.toInt) <;> cases decide (c.toInt ≤ (I 74 r0).toInt - 1) <;> rfl
theorem M_itw : Rn X (d + 3) 259 0 [.ref 65, .int a, .int b] [] (Mh D I P N) = some ([.int (itwV (I 73) a b)], Mh D I P N) := by
  simp only [B259_0, M_one, Option.bind_some, List.append_nil, List.nil_append, List.cons_append, cond_true, cond_false, if_true, if_false, ite_true, ite_false, reduceIte, IC, bI_0, bI_1, bF, Bool.not_eq_false, Bool.not_eq_true, Bool.and_true, Bool.true_and, Bool.and_false, Bool.false_and, Bool.true_or, Bool.or_true, Bool.or_false, Bool.false_or, Bool.not_true, Bool.not_false, decide_true, decide_false, not_true_eq_false, not_false_eq_true, eq_self, Bool.true_eq_false, Bool.false_eq_true, B259_4]
  unfold itwV
  cases h1 : bt a 0 3 with
  | false => simp only [Option.bind_some, List.append_nil, List.nil_append, List.cons_append, cond_true, cond_false, if_true, if_false, ite_true, ite_false, reduceIte, IC, bI_0, bI_1, bF, Bool.not_eq_false, Bool.not_eq_true, Bool.and_true, Bool.true_and, Bool.and_false, Bool.false_and, Bool.true_or, Bool.or_true, Bool.or_false, Bool.false_or, Bool.not_true, Bool.not_false, decide_true, decide_false, not_true_eq_false, not_false_eq_true, eq_self, Bool.true_eq_false, Bool.false_eq_true, B259_19, B259_29]
  | true =>
    simp only [Option.bind_some, List.append_nil, List.nil_append, List.cons_append, cond_true, cond_false, if_true, if_false, ite_true, ite_false, reduceIte, IC, bI_0, bI_1, bF, Bool.not_eq_false, Bool.not_eq_true, Bool.and_true, Bool.true_and, Bool.and_false, Bool.false_and, Bool.true_or, Bool.or_true, Bool.or_false, Bool.false_or, Bool.not_true, Bool.not_false, decide_true, decide_false, not_true_eq_false, not_false_eq_true, eq_self, Bool.true_eq_false, Bool.false_eq_true, M_bt, L64, B259_16]
    cases h2 : bt b 0 20 with
    | false => simp only [Option.bind_some, List.append_nil, List.nil_append, List.cons_append, cond_true, cond_false, if_true, if_false, ite_true, ite_false, reduceIte, IC, bI_0, bI_1, bF, Bool.not_eq_false, Bool.not_eq_true, Bool.and_true, Bool.true_and, Bool.and_false, Bool.false_and, Bool.true_or, Bool.or_true, Bool.or_false, Bool.false_or, Bool.not_true, Bool.not_false, decide_true, decide_false, not_true_eq_false, not_false_eq_true, eq_self, Bool.true_eq_false, Bool.false_eq_true, B259_19, B259_29]
    | true =>
      obtain ⟨r, hr, rfl⟩ := bt03 h1
      have e0 : (Int32.ofNat r).toNatClampNeg = r := iN_cl (by omega)
      simp only [Option.bind_some, List.append_nil, List.nil_append, List.cons_append, cond_true, cond_false, if_true, if_false, ite_true, ite_false, reduceIte, IC, bI_0, bI_1, bF, Bool.not_eq_false, Bool.not_eq_true, Bool.and_true, Bool.true_and, Bool.and_false, Bool.false_and, Bool.true_or, Bool.or_true, Bool.or_false, Bool.false_or, Bool.not_true, Bool.not_false, decide_true, decide_false, not_true_eq_false, not_false_eq_true, eq_self, Bool.true_eq_false, Bool.false_eq_true, IC, B257_0, RDm, rr73 hr, B257_30, e0, B259_29]
      unfold rfuV
      by_cases q : I 73 r < 0
      · have q' : ¬ 0 ≤ I 73 r := by rw [i_nle]; exact q
        simp only [q, q', Option.bind_some, List.append_nil, List.nil_append, List.cons_append, cond_true, cond_false, if_true, if_false, ite_true, ite_false, reduceIte, IC, bI_0, bI_1, bF, Bool.not_eq_false, Bool.not_eq_true, Bool.and_true, Bool.true_and, Bool.and_false, Bool.false_and, Bool.true_or, Bool.or_true, Bool.or_false, Bool.false_or, Bool.not_true, Bool.not_false, decide_true, decide_false, not_true_eq_false, not_false_eq_true, eq_self, Bool.true_eq_false, Bool.false_eq_true, B259_29]
      · have q' : 0 ≤ I 73 r := by rw [← i_nlt]; exact q
        by_cases q2 : I 73 r = 0
        · rw [q2] at q q'
          simp only [q, q', q2, Option.bind_some, List.append_nil, List.nil_append, List.cons_append, cond_true, cond_false, if_true, if_false, ite_true, ite_false, reduceIte, IC, bI_0, bI_1, bF, Bool.not_eq_false, Bool.not_eq_true, Bool.and_true, Bool.true_and, Bool.and_false, Bool.false_and, Bool.true_or, Bool.or_true, Bool.or_false, Bool.false_or, Bool.not_true, Bool.not_false, decide_true, decide_false, not_true_eq_false, not_false_eq_true, eq_self, Bool.true_eq_false, Bool.false_eq_true, B259_29]
        · simp only [q, q', q2, Option.bind_some, List.append_nil, List.nil_append, List.cons_append, cond_true, cond_false, if_true, if_false, ite_true, ite_false, reduceIte, IC, bI_0, bI_1, bF, Bool.not_eq_false, Bool.not_eq_true, Bool.and_true, Bool.true_and, Bool.and_false, Bool.false_and, Bool.true_or, Bool.or_true, Bool.or_false, Bool.false_or, Bool.not_true, Bool.not_false, decide_true, decide_false, not_true_eq_false, not_false_eq_true, eq_self, Bool.true_eq_false, Bool.false_eq_true, B259_29]
theorem mx0_p (h : x ≤ 0) : mx0 x = 0 := if_pos h
theorem mx0_n (h : ¬ x ≤ 0) : mx0 x = x := if_neg h
theorem M_tla1 (hr : r0 < 4) (hU : J 74 r0 = l) (hl : bt l 0 40 = true) (hit : ∀ j, j < 40 → J 75 (40 * r0 + j) = it j) (hn : n ≤ 20) : ∀ k i acc s g (l7 : Value), Ok s 10 → i + k = n → (i = 0 ∨ (0 ≤ a.toInt ∧ a.toInt + (i : Int) ≤ 40)) →
    ∃ g', Rn X (d + 8) 261 22 [.ref 65, .int (Int32.ofNat r0), .int a, .int (Int32.ofNat n), .int 0, .int acc, .int (Int32.ofNat i), l7] [] (Mh D (R6 J g s) P N) = some ([.int (tlaF it l k (a + Int32.ofNat i) acc s).1], Mh D (R6 J g' (tlaF it l k (a + Int32.ofNat i) acc s).2) P N)
  | 0, i, acc, s, g, l7, ok, hk, hc => by
    refine ⟨g, ?_⟩
    rw [B261_22, if_pos (by rw [iN_le (by omega) (by omega)]; omega)]
    rfl
  | k + 1, i, acc, s, g, l7, ok, hk, hc => by
    have hi20 : i ≤ 20 := by omega
    obtain ⟨e1, e2⟩ := c_ti hi20 hc
    have hL := M_itL (X := X) (d := d + 6) (D := D) (I := R6 J g s) (P := P) (N := N) (c := a + Int32.ofNat i) (l' := a.toInt64 + (Int32.ofNat i).toInt64) hr (by rw [R6_o (by decide) (by decide), hU]; exact hl) (by rw [e2, e1])
    rw [R6_o (by decide) (by decide), hU] at hL
    rw [B261_22, if_neg (by rw [iN_le (by omega) (by omega)]; omega)]
    simp only [IC, Option.bind_some, List.append_nil, List.nil_append, List.cons_append, cond_true, cond_false, if_true, if_false, ite_true, ite_false, reduceIte, IC, bI_0, bI_1, bF, Bool.not_eq_false, Bool.not_eq_true, Bool.and_true, Bool.true_and, Bool.and_false, Bool.false_and, Bool.true_or, Bool.or_true, Bool.or_false, Bool.false_or, Bool.not_true, Bool.not_false, decide_true, decide_false, not_true_eq_false, not_false_eq_true, eq_self, Bool.true_eq_false, Bool.false_eq_true, hL, B261_39]
    unfold tlaF
    cases hI : itI l (a + Int32.ofNat i) with
    | false => exact ⟨g, by simp only [Option.bind_some, List.append_nil, List.nil_append, List.cons_append, cond_true, cond_false, if_true, if_false, ite_true, ite_false, reduceIte, IC, bI_0, bI_1, bF, Bool.not_eq_false, Bool.not_eq_true, Bool.and_true, Bool.true_and, Bool.and_false, Bool.false_and, Bool.true_or, Bool.or_true, Bool.or_false, Bool.false_or, Bool.not_true, Bool.not_false, decide_true, decide_false, not_true_eq_false, not_false_eq_true, eq_self, Bool.true_eq_false, Bool.false_eq_true]⟩
    | true =>
      have hc2 := c_st hi20 hc hl hI
      obtain ⟨j, hj, hjx⟩ := it_ix hl hI
      have e0 : (a + Int32.ofNat i).toNatClampNeg = j := by rw [hjx, iN_cl (by omega)]
      have hx : Int32.ofNat (40 * r0) + a + Int32.ofNat i = Int32.ofNat (40 * r0 + j) := by rw [Int32.add_assoc, hjx, Int32.ofNat_add]
      have rd := rr75 (D := D) (I := R6 J g s) (P := P) (N := N) (j := 40 * r0 + j) (by omega)
      rw [R6_o (by decide) (by decide), hit j hj] at rd
      obtain ⟨g1, es⟩ := M_say (X := X) (d := d) (D := D) (I := J) (P := P) (N := N) (a := it j) ok g
      obtain ⟨g2, e3⟩ := M_tla1 hr hU hl hit hn k (i + 1) (acc + mx0 (pSay s (it j)).1) (pSay s (it j)).2 g1 (.int (pSay s (it j)).1) (ok_say ok).1 (by omega) hc2
      refine ⟨g2, ?_⟩
      simp only [Option.bind_some, List.append_nil, List.nil_append, List.cons_append, cond_true, cond_false, if_true, if_false, ite_true, ite_false, reduceIte, IC, bI_0, bI_1, bF, Bool.not_eq_false, Bool.not_eq_true, Bool.and_true, Bool.true_and, Bool.and_false, Bool.false_and, Bool.true_or, Bool.or_true, Bool.or_false, Bool.false_or, Bool.not_true, Bool.not_false, decide_true, decide_false, not_true_eq_false, not_false_eq_true, eq_self, Bool.true_eq_false, Bool.false_eq_true, RDm, hx, rd, es, B261_63, e0, B261_78, IX, c_nx]
      by_cases h0 : (pSay s (it j)).1 ≤ 0
      · rw [mx0_p h0] at e3 ⊢
        rw [if_pos h0]; exact e3
      · rw [mx0_n h0] at e3 ⊢
        rw [if_neg h0]; exact e3
theorem n20 (h : bt b 0 20 = true) : b = Int32.ofNat b.toNatClampNeg ∧ b.toNatClampNeg ≤ 20 := by
  have := bt_nat h
  exact ⟨this.1, by omega⟩
theorem itw_0 {T : Nat → Int32} (h : itwV T a b = 0) : ∃ r0, r0 < 4 ∧ a = Int32.ofNat r0 ∧ b = Int32.ofNat b.toNatClampNeg ∧ b.toNatClampNeg ≤ 20 := by
  unfold itwV at h
  cases h1 : bt a 0 3 with
  | false => rw [h1] at h; simp only [Bool.false_and, Bool.false_eq_true, if_false] at h; exact absurd h (by decide)
  | true =>
    cases h2 : bt b 0 20 with
    | false => rw [h1, h2] at h; simp only [Bool.true_and, Bool.false_eq_true, if_false] at h; exact absurd h (by decide)
    | true =>
      obtain ⟨r, hr, e⟩ := bt03 h1
      obtain ⟨q1, q2⟩ := n20 h2
      exact ⟨r, hr, e, q1, q2⟩
theorem F_tla (ok : Ok (I 66) 10) (hH : ∀ r, r < 4 → bt (I 74 r) 0 40 = true) : Rf X I 261 [.ref 65, .int a, .int b, .int c, U_, U_, U_, U_] (tlaV (I 73) (I 74) (fun r j => I 75 (40 * r + j)) a b c (I 66)) := by
  intro d D P N
  simp only [B261_0, IC, Option.bind_some, List.append_nil, List.nil_append, List.cons_append, cond_true, cond_false, if_true, if_false, ite_true, ite_false, reduceIte, IC, bI_0, bI_1, bF, Bool.not_eq_false, Bool.not_eq_true, Bool.and_true, Bool.true_and, Bool.and_false, Bool.false_and, Bool.true_or, Bool.or_true, Bool.or_false, Bool.false_or, Bool.not_true, Bool.not_false, decide_true, decide_false, not_true_eq_false, not_false_eq_true, eq_self, Bool.true_eq_false, Bool.false_eq_true, M_itw, B261_6]
  unfold tlaV
  by_cases h0 : itwV (I 73) a c = 0
  · obtain ⟨r, hr, rfl, q1, q2⟩ := itw_0 h0
    have e0 : (Int32.ofNat r).toNatClampNeg = r := iN_cl (by omega)
    obtain ⟨g', e⟩ := M_tla1 (X := X) (d := d + 32) (D := D) (J := I) (P := P) (N := N) (a := b) (n := c.toNatClampNeg) (it := fun j => I 75 (40 * r + j)) hr rfl (hH r hr) (fun j _ => rfl) q2 c.toNatClampNeg 0 0 (I 66) (I 69) U_ ok (by omega) (Or.inl rfl)
    rw [R6_id, ← q1, show Int32.ofNat 0 = 0 from rfl, Int32.add_zero] at e
    simp only [h0, Option.bind_some, List.append_nil, List.nil_append, List.cons_append, cond_true, cond_false, if_true, if_false, ite_true, ite_false, reduceIte, IC, bI_0, bI_1, bF, Bool.not_eq_false, Bool.not_eq_true, Bool.and_true, Bool.true_and, Bool.and_false, Bool.false_and, Bool.true_or, Bool.or_true, Bool.or_false, Bool.false_or, Bool.not_true, Bool.not_false, decide_true, decide_false, not_true_eq_false, not_false_eq_true, eq_self, Bool.true_eq_false, Bool.false_eq_true, e0]
    exact ⟨_, e, Sc_6⟩
  · simp only [h0, Option.bind_some, List.append_nil, List.nil_append, List.cons_append, cond_true, cond_false, if_true, if_false, ite_true, ite_false, reduceIte, IC, bI_0, bI_1, bF, Bool.not_eq_false, Bool.not_eq_true, Bool.and_true, Bool.true_and, Bool.and_false, Bool.false_and, Bool.true_or, Bool.or_true, Bool.or_false, Bool.false_or, Bool.not_true, Bool.not_false, decide_true, decide_false, not_true_eq_false, not_false_eq_true, eq_self, Bool.true_eq_false, Bool.false_eq_true]
    exact ⟨I, rfl, Sc_id⟩
theorem say_can (ok : Ok s 10) : (canT s x = true → ¬ (pSay s x).1 ≤ 0 ∧ (pSay s x).2 = telS s x.toNatClampNeg) ∧ (canT s x = false → (pSay s x).1 ≤ 0 ∧ (pSay s x).2 = s) := by
  unfold canT pSay
  cases hb : isA s x with
  | false => exact ⟨fun h => (by cases h), fun _ => ⟨(by show (-1 : Int32) ≤ 0; decide), rfl⟩⟩
  | true =>
    obtain ⟨i, hi, rfl⟩ := isA_nat ok.1 hb
    have h9 := ok.1.a hi
    rw [if_pos rfl, iN_cl (by omega)]
    cases hc : canV s i with
    | false => exact ⟨fun h => (by cases h), fun _ => ⟨(by show (-4 : Int32) ≤ 0; decide), rfl⟩⟩
    | true => exact ⟨fun _ => ⟨(pas_pos ok hc).1, rfl⟩, fun h => by cases h⟩
theorem M_wce (he : E320 s S) : Rn X (d + 8) 262 88 [.ref 65, .int v, .int a, .int c, .int e, .int x] [] (Mh D (R6 (u2r J 68 (row320 S r)) g s) P N) = some ([.int (if e = 0 then S 5 - s 5 else e)], Mh D (R6 (u2r J 68 (row320 S r)) g S) P N) := by
  simp only [B262_88, RDm, IC, Option.bind_some, List.append_nil, List.nil_append, List.cons_append, cond_true, cond_false, if_true, if_false, ite_true, ite_false, reduceIte, IC, bI_0, bI_1, bF, Bool.not_eq_false, Bool.not_eq_true, Bool.and_true, Bool.true_and, Bool.and_false, Bool.false_and, Bool.true_or, Bool.or_true, Bool.or_false, Bool.false_or, Bool.not_true, Bool.not_false, decide_true, decide_false, not_true_eq_false, not_false_eq_true, eq_self, Bool.true_eq_false, Bool.false_eq_true, M_pb he, R6_66, B262_100]
  by_cases h0 : e = 0
  · simp only [h0, Option.bind_some, List.append_nil, List.nil_append, List.cons_append, cond_true, cond_false, if_true, if_false, ite_true, ite_false, reduceIte, IC, bI_0, bI_1, bF, Bool.not_eq_false, Bool.not_eq_true, Bool.and_true, Bool.true_and, Bool.and_false, Bool.false_and, Bool.true_or, Bool.or_true, Bool.or_false, Bool.false_or, Bool.not_true, Bool.not_false, decide_true, decide_false, not_true_eq_false, not_false_eq_true, eq_self, Bool.true_eq_false, Bool.false_eq_true, RDm, R6_66, B262_119]
  · simp only [h0, Option.bind_some, List.append_nil, List.nil_append, List.cons_append, cond_true, cond_false, if_true, if_false, ite_true, ite_false, reduceIte, IC, bI_0, bI_1, bF, Bool.not_eq_false, Bool.not_eq_true, Bool.and_true, Bool.true_and, Bool.and_false, Bool.false_and, Bool.true_or, Bool.or_true, Bool.or_false, Bool.false_or, Bool.not_true, Bool.not_false, decide_true, decide_false, not_true_eq_false, not_false_eq_true, eq_self, Bool.true_eq_false, Bool.false_eq_true, B262_119]
theorem M_wco1 (hr : r0 < 4) (hU : J 74 r0 = l) (hl : bt l 0 40 = true) (hit : ∀ j, j < 40 → J 75 (40 * r0 + j) = it j) (hn : n ≤ 20) : ∀ k i s g, Ok s 10 → E320 s S → i + k = n → (i = 0 ∨ (0 ≤ a.toInt ∧ a.toInt + (i : Int) ≤ 40)) →
    ∃ g', Rn X (d + 8) 262 23 [.ref 65, .int (Int32.ofNat r0), .int a, .int (Int32.ofNat n), .int 0, .int (Int32.ofNat i)] [] (Mh D (R6 (u2r J 68 (row320 S r)) g s) P N)
      = some ([.int (if (wcoF it l k (a + Int32.ofNat i) s).1 = 0 then S 5 - (wcoF it l k (a + Int32.ofNat i) s).2 5 else (wcoF it l k (a + Int32.ofNat i) s).1)], Mh D (R6 (u2r J 68 (row320 S r)) g' S) P N)
  | 0, i, s, g, ok, he, hk, hc => by
    refine ⟨g, ?_⟩
    rw [B262_23, if_pos (by rw [iN_le (by omega) (by omega)]; omega), M_wce he]
    rfl
  | k + 1, i, s, g, ok, he, hk, hc => by
    have hi20 : i ≤ 20 := by omega
    obtain ⟨e1, e2⟩ := c_ti hi20 hc
    have o74 : ∀ g s, R6 (u2r J 68 (row320 S r)) g s 74 = J 74 := fun g s => by rw [R6_o (by decide) (by decide), u2r_o (by decide)]
    have o75 : ∀ g s, R6 (u2r J 68 (row320 S r)) g s 75 = J 75 := fun g s => by rw [R6_o (by decide) (by decide), u2r_o (by decide)]
    have hL := M_itL (X := X) (d := d + 6) (D := D) (I := R6 (u2r J 68 (row320 S r)) g s) (P := P) (N := N) (c := a + Int32.ofNat i) (l' := a.toInt64 + (Int32.ofNat i).toInt64) hr (by rw [o74, hU]; exact hl) (by rw [e2, e1])
    rw [o74, hU] at hL
    have stop : ∀ g' s' (e : Int32), E320 s' S → ¬ e = 0 → Rn X (d + 8) 262 80 [.ref 65, .int (Int32.ofNat r0), .int a, .int (Int32.ofNat n), .int 0, .int (Int32.ofNat i)] [.int e] (Mh D (R6 (u2r J 68 (row320 S r)) g' s') P N) = some ([.int e], Mh D (R6 (u2r J 68 (row320 S r)) g' S) P N) := by
      intro g' s' e he' hz
      rw [B262_80, B262_23]
      simp only [hz, Option.bind_some, List.append_nil, List.nil_append, List.cons_append, cond_true, cond_false, if_true, if_false, ite_true, ite_false, reduceIte, IC, bI_0, bI_1, bF, Bool.not_eq_false, Bool.not_eq_true, Bool.and_true, Bool.true_and, Bool.and_false, Bool.false_and, Bool.true_or, Bool.or_true, Bool.or_false, Bool.false_or, Bool.not_true, Bool.not_false, decide_true, decide_false, not_true_eq_false, not_false_eq_true, eq_self, Bool.true_eq_false, Bool.false_eq_true, M_wce he', ite_self]
    rw [B262_23, if_neg (by rw [iN_le (by omega) (by omega)]; omega)]
    simp only [IC, Option.bind_some, List.append_nil, List.nil_append, List.cons_append, cond_true, cond_false, if_true, if_false, ite_true, ite_false, reduceIte, IC, bI_0, bI_1, bF, Bool.not_eq_false, Bool.not_eq_true, Bool.and_true, Bool.true_and, Bool.and_false, Bool.false_and, Bool.true_or, Bool.or_true, Bool.or_false, Bool.false_or, Bool.not_true, Bool.not_false, decide_true, decide_false, not_true_eq_false, not_false_eq_true, eq_self, Bool.true_eq_false, Bool.false_eq_true, hL, B262_45]
    unfold wcoF
    have n12 : ¬ (-12 : Int32) = 0 := by decide
    have n4 : ¬ (-4 : Int32) = 0 := by decide
    cases hI : itI l (a + Int32.ofNat i) with
    | false => exact ⟨g, by simp only [Option.bind_some, List.append_nil, List.nil_append, List.cons_append, cond_true, cond_false, if_true, if_false, ite_true, ite_false, reduceIte, IC, bI_0, bI_1, bF, Bool.not_eq_false, Bool.not_eq_true, Bool.and_true, Bool.true_and, Bool.and_false, Bool.false_and, Bool.true_or, Bool.or_true, Bool.or_false, Bool.false_or, Bool.not_true, Bool.not_false, decide_true, decide_false, not_true_eq_false, not_false_eq_true, eq_self, Bool.true_eq_false, Bool.false_eq_true, stop g s (-12) he n12, n12]⟩
    | true =>
      have hc2 := c_st hi20 hc hl hI
      obtain ⟨j, hj, hjx⟩ := it_ix hl hI
      have e0 : (a + Int32.ofNat i).toNatClampNeg = j := by rw [hjx, iN_cl (by omega)]
      have hx : 40 * Int32.ofNat r0 + a + Int32.ofNat i = Int32.ofNat (40 * r0 + j) := by rw [Int32.add_assoc, hjx, ix40]
      have rd := rr75 (D := D) (I := R6 (u2r J 68 (row320 S r)) g s) (P := P) (N := N) (j := 40 * r0 + j) (by omega)
      rw [o75, hit j hj] at rd
      obtain ⟨g1, es⟩ := M_say (X := X) (d := d) (D := D) (I := u2r J 68 (row320 S r)) (P := P) (N := N) (a := it j) ok g
      have hs := say_can (x := it j) ok
      obtain ⟨ok1, -, he1⟩ := ok_say (a := it j) ok
      simp only [Option.bind_some, List.append_nil, List.nil_append, List.cons_append, cond_true, cond_false, if_true, if_false, ite_true, ite_false, reduceIte, IC, bI_0, bI_1, bF, Bool.not_eq_false, Bool.not_eq_true, Bool.and_true, Bool.true_and, Bool.and_false, Bool.false_and, Bool.true_or, Bool.or_true, Bool.or_false, Bool.false_or, Bool.not_true, Bool.not_false, decide_true, decide_false, not_true_eq_false, not_false_eq_true, eq_self, Bool.true_eq_false, Bool.false_eq_true, RDm, hx, rd, es, B262_71, e0]
      cases hT : canT s (it j) with
      | false =>
        obtain ⟨q1, q2⟩ := hs.2 hT
        refine ⟨g1, ?_⟩
        simp only [q1, Option.bind_some, List.append_nil, List.nil_append, List.cons_append, cond_true, cond_false, if_true, if_false, ite_true, ite_false, reduceIte, IC, bI_0, bI_1, bF, Bool.not_eq_false, Bool.not_eq_true, Bool.and_true, Bool.true_and, Bool.and_false, Bool.false_and, Bool.true_or, Bool.or_true, Bool.or_false, Bool.false_or, Bool.not_true, Bool.not_false, decide_true, decide_false, not_true_eq_false, not_false_eq_true, eq_self, Bool.true_eq_false, Bool.false_eq_true, stop g1 _ (-4) (he1 S he) n4, n4]
      | true =>
        obtain ⟨q1, q2⟩ := hs.1 hT
        obtain ⟨g2, e3⟩ := M_wco1 hr hU hl hit hn k (i + 1) (pSay s (it j)).2 g1 ok1 (he1 S he) (by omega) hc2
        refine ⟨g2, ?_⟩
        rw [q2] at e3 ⊢
        simp only [q1, Option.bind_some, List.append_nil, List.nil_append, List.cons_append, cond_true, cond_false, if_true, if_false, ite_true, ite_false, reduceIte, IC, bI_0, bI_1, bF, Bool.not_eq_false, Bool.not_eq_true, Bool.and_true, Bool.true_and, Bool.and_false, Bool.false_and, Bool.true_or, Bool.or_true, Bool.or_false, Bool.false_or, Bool.not_true, Bool.not_false, decide_true, decide_false, not_true_eq_false, not_false_eq_true, eq_self, Bool.true_eq_false, Bool.false_eq_true, B262_80, IX, c_nx]
        exact e3
theorem F_wco (ok : Ok (I 66) 10) (hH : ∀ r, r < 4 → bt (I 74 r) 0 40 = true) : Rf X I 262 [.ref 65, .int a, .int b, .int c, U_, U_] (wcoV (I 73) (I 74) (fun r j => I 75 (40 * r + j)) a b c (I 66), I 66) := by
  intro d D P N
  simp only [B262_0, IC, Option.bind_some, List.append_nil, List.nil_append, List.cons_append, cond_true, cond_false, if_true, if_false, ite_true, ite_false, reduceIte, IC, bI_0, bI_1, bF, Bool.not_eq_false, Bool.not_eq_true, Bool.and_true, Bool.true_and, Bool.and_false, Bool.false_and, Bool.true_or, Bool.or_true, Bool.or_false, Bool.false_or, Bool.not_true, Bool.not_false, decide_true, decide_false, not_true_eq_false, not_false_eq_true, eq_self, Bool.true_eq_false, Bool.false_eq_true, M_itw, B262_6]
  unfold wcoV
  by_cases h0 : itwV (I 73) a c = 0
  · obtain ⟨r, hr, rfl, q1, q2⟩ := itw_0 h0
    have e0 : (Int32.ofNat r).toNatClampNeg = r := iN_cl (by omega)
    have ep := M_pt (X := X) (d := d + 39) (D := D) (J := I) (P := P) (N := N) (g := I 69) (s := I 66)
    rw [R6_id] at ep
    obtain ⟨g', e⟩ := M_wco1 (X := X) (d := d + 32) (D := D) (J := I) (P := P) (N := N) (r := I 68) (a := b) (n := c.toNatClampNeg) (it := fun j => I 75 (40 * r + j)) hr rfl (hH r hr) (fun j _ => rfl) q2 c.toNatClampNeg 0 (I 66) (I 69) ok E320_rf (by omega) (Or.inl rfl)
    rw [← q1, show Int32.ofNat 0 = 0 from rfl, Int32.add_zero] at e
    simp only [h0, Option.bind_some, List.append_nil, List.nil_append, List.cons_append, cond_true, cond_false, if_true, if_false, ite_true, ite_false, reduceIte, IC, bI_0, bI_1, bF, Bool.not_eq_false, Bool.not_eq_true, Bool.and_true, Bool.true_and, Bool.and_false, Bool.false_and, Bool.true_or, Bool.or_true, Bool.or_false, Bool.false_or, Bool.not_true, Bool.not_false, decide_true, decide_false, not_true_eq_false, not_false_eq_true, eq_self, Bool.true_eq_false, Bool.false_eq_true, e0, ep, B262_20]
    exact ⟨_, e, (Sc_rf.r68).r6⟩
  · simp only [h0, Option.bind_some, List.append_nil, List.nil_append, List.cons_append, cond_true, cond_false, if_true, if_false, ite_true, ite_false, reduceIte, IC, bI_0, bI_1, bF, Bool.not_eq_false, Bool.not_eq_true, Bool.and_true, Bool.true_and, Bool.and_false, Bool.false_and, Bool.true_or, Bool.or_true, Bool.or_false, Bool.false_or, Bool.not_true, Bool.not_false, decide_true, decide_false, not_true_eq_false, not_false_eq_true, eq_self, Bool.true_eq_false, Bool.false_eq_true]
    exact ⟨I, rfl, Sc_id⟩
end HostC
