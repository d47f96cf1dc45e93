/-! the class: items told -/
section HostD
variable {X : mX} {d : Nat} {D : Nat → Nat × Nat} {I : Nat → Nat → Int32} {P : Nat → Nat → Option Nat} {N : Nat} {h : mH} {s g S r w f : Nat → Int32} {J J' : Nat → Nat → Int32} {ra : Nat → Nat} {L : List Nat} {m : Int} {i j k n p q t r0 : Nat} {x y v a b c e l : Int32} {it it' : Nat → Int32}
theorem FrC.tr {n : Nat} {I1 I2 : Nat → Nat → Int32} (h1 : FrC n ra I I1) (h2 : FrC n ra I1 I2) : FrC n ra I I2 := fun a q1 q2 q3 q4 q5 q6 q7 q8 => (h2 a q1 q2 q3 q4 q5 q6 q7 q8).trans (h1 a q1 q2 q3 q4 q5 q6 q7 q8)
theorem C_say (ok : Ok s 10) (hr : RideR s D I P N 1 ra) : ∃ I', Rn X (d + 6) 42 0 [.ref 1, .int a, U_, U_] [] (Mh D I P N) = some ([.int (pSay s a).1], Mh D I' P N) ∧ RideR (pSay s a).2 D I' P N 1 ra ∧ I' 31 = I 31 ∧ FrC (ctA s) ra I I' := by
  unfold pSay
  cases hb : isA s a with
  | false => exact ⟨I, by simp only [C_telB (d := d) ok hr hb, Option.bind_some, List.append_nil, List.nil_append, List.cons_append, cond_true, cond_false, if_true, if_false, ite_true, ite_false, reduceIte, IC, bI_0, bI_1, bF, Bool.not_eq_false, Bool.not_eq_true, Bool.and_true, Bool.true_and, Bool.and_false, Bool.false_and, Bool.true_or, Bool.or_true, Bool.or_false, Bool.false_or, Bool.not_true, Bool.not_false, decide_true, decide_false, not_true_eq_false, not_false_eq_true, eq_self, Bool.true_eq_false, Bool.false_eq_true], hr, rfl, frc_rf⟩
  | true =>
    obtain ⟨i, hi, rfl⟩ := isA_nat ok.1 hb
    have h9 := ok.1.a hi
    have e0 : (Int32.ofNat i).toNatClampNeg = i := iN_cl (by omega)
    simp only [Option.bind_some, List.append_nil, List.nil_append, List.cons_append, cond_true, cond_false, if_true, if_false, ite_true, ite_false, reduceIte, IC, bI_0, bI_1, bF, Bool.not_eq_false, Bool.not_eq_true, Bool.and_true, Bool.true_and, Bool.and_false, Bool.false_and, Bool.true_or, Bool.or_true, Bool.or_false, Bool.false_or, Bool.not_true, Bool.not_false, decide_true, decide_false, not_true_eq_false, not_false_eq_true, eq_self, Bool.true_eq_false, Bool.false_eq_true, e0]
    cases hc : canV s i with
    | false => exact ⟨I, by simp only [C_telN (d := d) ok hr hi hc, Option.bind_some, List.append_nil, List.nil_append, List.cons_append, cond_true, cond_false, if_true, if_false, ite_true, ite_false, reduceIte, IC, bI_0, bI_1, bF, Bool.not_eq_false, Bool.not_eq_true, Bool.and_true, Bool.true_and, Bool.and_false, Bool.false_and, Bool.true_or, Bool.or_true, Bool.or_false, Bool.false_or, Bool.not_true, Bool.not_false, decide_true, decide_false, not_true_eq_false, not_false_eq_true, eq_self, Bool.true_eq_false, Bool.false_eq_true], hr, rfl, frc_rf⟩
    | true =>
      obtain ⟨f, e⟩ := C_tel (X := X) (d := d) ok hr hi hc
      have h80 := (hr.2.2.2.1 i hi).2.1.1
      exact ⟨tlI I s ra i f, by simp only [e, Option.bind_some, List.append_nil, List.nil_append, List.cons_append, cond_true, cond_false, if_true, if_false, ite_true, ite_false, reduceIte, IC, bI_0, bI_1, bF, Bool.not_eq_false, Bool.not_eq_true, Bool.and_true, Bool.true_and, Bool.and_false, Bool.false_and, Bool.true_or, Bool.or_true, Bool.or_false, Bool.false_or, Bool.not_true, Bool.not_false, decide_true, decide_false, not_true_eq_false, not_false_eq_true, eq_self, Bool.true_eq_false, Bool.false_eq_true], by simp only [Option.bind_some, List.append_nil, List.nil_append, List.cons_append, cond_true, cond_false, if_true, if_false, ite_true, ite_false, reduceIte, IC, bI_0, bI_1, bF, Bool.not_eq_false, Bool.not_eq_true, Bool.and_true, Bool.true_and, Bool.and_false, Bool.false_and, Bool.true_or, Bool.or_true, Bool.or_false, Bool.false_or, Bool.not_true, Bool.not_false, decide_true, decide_false, not_true_eq_false, not_false_eq_true, eq_self, Bool.true_eq_false, Bool.false_eq_true]; exact hr.tel ok hi, tl_o (by decide) (by decide) (by omega), frc_tl hi⟩
theorem mx_0 : mmax x 0 = mx0 x := by
  unfold mmax mx0
  by_cases h : x < 0
  · rw [if_pos h, if_pos (Int32.le_of_lt h)]
  · rw [if_neg h]
    by_cases h2 : x ≤ 0
    · rw [if_pos h2]
      rw [Int32.lt_iff_toInt_lt, z_ti] at h
      rw [Int32.le_iff_toInt_le, z_ti] at h2
      rw [← Int32.toInt_inj, z_ti]; omega
    · rw [if_neg h2]
theorem FrC.lo {n : Nat} (hf : FrC n ra I J) (ha : ∀ i, i < n → 80 ≤ ra i) (h : p < 80) (h1 : p ≠ 1) (h3 : p ≠ 3) (h4 : p ≠ 4) (h13 : p ≠ 13) (h14 : p ≠ 14) (h15 : p ≠ 15) (h31 : p < 31 ∨ 35 < p) : J p = I p :=
  hf p h1 h3 h4 h13 h14 h15 h31 (fun i hi => by have := ha i hi; omega)
theorem N_tla1 (hr0 : r0 < 4) (hl : bt l 0 40 = true) (hn : n ≤ 20) : ∀ k i acc s I, Ok s 10 → RideR s D I P N 1 ra → I 31 5 = 0 → I 56 r0 = l → (∀ j, j < 40 → I (58 + r0) j = it j) → i + k = n → (i = 0 ∨ (0 ≤ a.toInt ∧ a.toInt + (i : Int) ≤ 40)) →
    ∃ I', Rn X (d + 8) 147 48 [.ref 0, .int (Int32.ofNat r0), .int a, .int (Int32.ofNat n), .int 0, .int acc, .int (Int32.ofNat i)] [] (Mh D I P N) = some ([.int (tlaF it l k (a + Int32.ofNat i) acc s).1], Mh D I' P N) ∧ RideR (tlaF it l k (a + Int32.ofNat i) acc s).2 D I' P N 1 ra ∧ I' 31 5 = 0 ∧ FrC (ctA s) ra I I'
  | 0, i, acc, s, I, ok, hr, h31, hU, hit, hk, hc => by
    refine ⟨I, ?_, hr, h31, frc_rf⟩
    rw [B147_48, if_pos (by rw [iN_le (by omega) (by omega)]; omega)]
    rfl
  | k + 1, i, acc, s, I, ok, hr, h31, hU, hit, hk, hc => by
    have hi20 : i ≤ 20 := by omega
    obtain ⟨e1, e2⟩ := c_ti hi20 hc
    have hL := C_hit (X := X) (d := d + 6) (D := D) (I := I) (P := P) (N := N) (c := a + Int32.ofNat i) hr0 (by rw [hU]; exact hl)
    rw [hU] at hL
    rw [B147_48, if_neg (by rw [iN_le (by omega) (by omega)]; omega)]
    simp only [RDc, IC, Option.bind_some, List.append_nil, List.nil_append, List.cons_append, cond_true, cond_false, if_true, if_false, ite_true, ite_false, reduceIte, IC, bI_0, bI_1, bF, Bool.not_eq_false, Bool.not_eq_true, Bool.and_true, Bool.true_and, Bool.and_false, Bool.false_and, Bool.true_or, Bool.or_true, Bool.or_false, Bool.false_or, Bool.not_true, Bool.not_false, decide_true, decide_false, not_true_eq_false, not_false_eq_true, eq_self, Bool.true_eq_false, Bool.false_eq_true, hL, B147_66]
    unfold tlaF
    cases hI : itI l (a + Int32.ofNat i) with
    | false => exact ⟨I, by simp only [Option.bind_some, List.append_nil, List.nil_append, List.cons_append, cond_true, cond_false, if_true, if_false, ite_true, ite_false, reduceIte, IC, bI_0, bI_1, bF, Bool.not_eq_false, Bool.not_eq_true, Bool.and_true, Bool.true_and, Bool.and_false, Bool.false_and, Bool.true_or, Bool.or_true, Bool.or_false, Bool.false_or, Bool.not_true, Bool.not_false, decide_true, decide_false, not_true_eq_false, not_false_eq_true, eq_self, Bool.true_eq_false, Bool.false_eq_true], by simp only [Option.bind_some, List.append_nil, List.nil_append, List.cons_append, cond_true, cond_false, if_true, if_false, ite_true, ite_false, reduceIte, IC, bI_0, bI_1, bF, Bool.not_eq_false, Bool.not_eq_true, Bool.and_true, Bool.true_and, Bool.and_false, Bool.false_and, Bool.true_or, Bool.or_true, Bool.or_false, Bool.false_or, Bool.not_true, Bool.not_false, decide_true, decide_false, not_true_eq_false, not_false_eq_true, eq_self, Bool.true_eq_false, Bool.false_eq_true]; exact hr, h31, frc_rf⟩
    | true =>
      have hc2 := c_st hi20 hc hl hI
      obtain ⟨j, hj, hjx⟩ := it_ix hl hI
      have e0 : (a + Int32.ofNat i).toNatClampNeg = j := by rw [hjx, iN_cl (by omega)]
      have rd := C_iat (X := X) (d := d + 5) (D := D) (I := I) (P := P) (N := N) (j := j) hr0 (by rw [hU]; exact hl) hj (by rw [hU, ← hjx]; exact hI)
      rw [hit j hj, ← hjx] at rd
      obtain ⟨I1, q1, q2, q3, q4⟩ := C_say (X := X) (d := d + 1) (a := it j) ok hr
      have h80 : ∀ j, j < ctA s → 80 ≤ ra j := fun j hj => (hr.2.2.2.1 j hj).2.1.1
      have hcA := (ok_say (a := it j) ok).2.1
      obtain ⟨I2, p1, p2, p3, p4⟩ := N_tla1 hr0 hl hn k (i + 1) (acc + mx0 (pSay s (it j)).1) (pSay s (it j)).2 I1 (ok_say ok).1 q2 (by rw [q3]; exact h31)
        (by rw [q4.lo h80 (by decide) (by decide) (by decide) (by decide) (by decide) (by decide) (by decide) (by omega)]; exact hU)
        (fun j hj => by rw [q4.lo h80 (by omega) (by omega) (by omega) (by omega) (by omega) (by omega) (by omega) (by omega)]; exact hit j hj) (by omega) hc2
      rw [hcA] at p4
      refine ⟨I2, ?_, by simp only [Option.bind_some, List.append_nil, List.nil_append, List.cons_append, cond_true, cond_false, if_true, if_false, ite_true, ite_false, reduceIte, IC, bI_0, bI_1, bF, Bool.not_eq_false, Bool.not_eq_true, Bool.and_true, Bool.true_and, Bool.and_false, Bool.false_and, Bool.true_or, Bool.or_true, Bool.or_false, Bool.false_or, Bool.not_true, Bool.not_false, decide_true, decide_false, not_true_eq_false, not_false_eq_true, eq_self, Bool.true_eq_false, Bool.false_eq_true, e0, c_nx]; exact p2, p3, q4.tr p4⟩
      simp only [Option.bind_some, List.append_nil, List.nil_append, List.cons_append, cond_true, cond_false, if_true, if_false, ite_true, ite_false, reduceIte, IC, bI_0, bI_1, bF, Bool.not_eq_false, Bool.not_eq_true, Bool.and_true, Bool.true_and, Bool.and_false, Bool.false_and, Bool.true_or, Bool.or_true, Bool.or_false, Bool.false_or, Bool.not_true, Bool.not_false, decide_true, decide_false, not_true_eq_false, not_false_eq_true, eq_self, Bool.true_eq_false, Bool.false_eq_true, RDc, IC, rd, B147_90, q1, B147_93, e0, mx_0, IX, c_nx]
      exact p1
theorem C_itw (hH : ∀ r, r < 4 → bt (I 55 r) (-1) 4 = true ∧ bt (I 56 r) 0 40 = true) (hr : r0 < 4) (h2 : bt b 0 20 = true) : Rn X (d + 2) 10 0 [.ref 54, .int (Int32.ofNat r0), .int 0] [] (Mh D I P N) = some ([.int (itwV (I 55) (Int32.ofNat r0) b)], Mh D I P N) := by
  have h1 : bt (Int32.ofNat r0) 0 3 = true := bt_iff.mpr (by rw [iN_ti (by omega)]; omega)
  have e0 : (Int32.ofNat r0).toNatClampNeg = r0 := iN_cl (by omega)
  rw [C_rfu hr (hH r0 hr).1]
  unfold itwV
  simp only [h1, h2, Option.bind_some, List.append_nil, List.nil_append, List.cons_append, cond_true, cond_false, if_true, if_false, ite_true, ite_false, reduceIte, IC, bI_0, bI_1, bF, Bool.not_eq_false, Bool.not_eq_true, Bool.and_true, Bool.true_and, Bool.and_false, Bool.false_and, Bool.true_or, Bool.or_true, Bool.or_false, Bool.false_or, Bool.not_true, Bool.not_false, decide_true, decide_false, not_true_eq_false, not_false_eq_true, eq_self, Bool.true_eq_false, Bool.false_eq_true, e0]
theorem itw_n1 {T : Nat → Int32} (h : (bt a 0 3 && bt b 0 20) = false) : itwV T a b = -1 := by
  unfold itwV
  rw [h]; rfl
theorem N_tla (ok : Ok s 10) (hr : RideR s D I P N 1 ra) (hl : I 31 5 = 0) (hH : ∀ r, r < 4 → bt (I 55 r) (-1) 4 = true ∧ bt (I 56 r) 0 40 = true) : ∃ I', Rn X (d + 40) 147 0 [.ref 0, .int a, .int b, .int c, U_, U_, U_] [] (Mh D I P N) = some ([.int (tlaV (I 55) (I 56) (fun r j => I (58 + r) j) a b c s).1], Mh D I' P N)
    ∧ RideR (tlaV (I 55) (I 56) (fun r j => I (58 + r) j) a b c s).2 D I' P N 1 ra ∧ I' 31 5 = 0 ∧ FrC (ctA s) ra I I' := by
  have n1 : ¬ (-1 : Int32) = 0 := by decide
  simp only [B147_0, RDc, IC, C_ish, Option.bind_some, List.append_nil, List.nil_append, List.cons_append, cond_true, cond_false, if_true, if_false, ite_true, ite_false, reduceIte, IC, bI_0, bI_1, bF, Bool.not_eq_false, Bool.not_eq_true, Bool.and_true, Bool.true_and, Bool.and_false, Bool.false_and, Bool.true_or, Bool.or_true, Bool.or_false, Bool.false_or, Bool.not_true, Bool.not_false, decide_true, decide_false, not_true_eq_false, not_false_eq_true, eq_self, Bool.true_eq_false, Bool.false_eq_true, B147_8]
  unfold tlaV
  cases h1 : bt a 0 3 with
  | false =>
    rw [itw_n1 (by rw [h1]; rfl)]
    exact ⟨I, by simp only [Option.bind_some, List.append_nil, List.nil_append, List.cons_append, cond_true, cond_false, if_true, if_false, ite_true, ite_false, reduceIte, IC, bI_0, bI_1, bF, Bool.not_eq_false, Bool.not_eq_true, Bool.and_true, Bool.true_and, Bool.and_false, Bool.false_and, Bool.true_or, Bool.or_true, Bool.or_false, Bool.false_or, Bool.not_true, Bool.not_false, decide_true, decide_false, not_true_eq_false, not_false_eq_true, eq_self, Bool.true_eq_false, Bool.false_eq_true, B147_21, n1], by simp only [Option.bind_some, List.append_nil, List.nil_append, List.cons_append, cond_true, cond_false, if_true, if_false, ite_true, ite_false, reduceIte, IC, bI_0, bI_1, bF, Bool.not_eq_false, Bool.not_eq_true, Bool.and_true, Bool.true_and, Bool.and_false, Bool.false_and, Bool.true_or, Bool.or_true, Bool.or_false, Bool.false_or, Bool.not_true, Bool.not_false, decide_true, decide_false, not_true_eq_false, not_false_eq_true, eq_self, Bool.true_eq_false, Bool.false_eq_true, n1]; exact hr, hl, frc_rf⟩
  | true =>
    simp only [Option.bind_some, List.append_nil, List.nil_append, List.cons_append, cond_true, cond_false, if_true, if_false, ite_true, ite_false, reduceIte, IC, bI_0, bI_1, bF, Bool.not_eq_false, Bool.not_eq_true, Bool.and_true, Bool.true_and, Bool.and_false, Bool.false_and, Bool.true_or, Bool.or_true, Bool.or_false, Bool.false_or, Bool.not_true, Bool.not_false, decide_true, decide_false, not_true_eq_false, not_false_eq_true, eq_self, Bool.true_eq_false, Bool.false_eq_true, C_btw, L32, B147_18]
    cases h2 : bt c 0 20 with
    | false =>
      rw [itw_n1 (by rw [h1, h2]; rfl)]
      exact ⟨I, by simp only [Option.bind_some, List.append_nil, List.nil_append, List.cons_append, cond_true, cond_false, if_true, if_false, ite_true, ite_false, reduceIte, IC, bI_0, bI_1, bF, Bool.not_eq_false, Bool.not_eq_true, Bool.and_true, Bool.true_and, Bool.and_false, Bool.false_and, Bool.true_or, Bool.or_true, Bool.or_false, Bool.false_or, Bool.not_true, Bool.not_false, decide_true, decide_false, not_true_eq_false, not_false_eq_true, eq_self, Bool.true_eq_false, Bool.false_eq_true, B147_21, n1], by simp only [Option.bind_some, List.append_nil, List.nil_append, List.cons_append, cond_true, cond_false, if_true, if_false, ite_true, ite_false, reduceIte, IC, bI_0, bI_1, bF, Bool.not_eq_false, Bool.not_eq_true, Bool.and_true, Bool.true_and, Bool.and_false, Bool.false_and, Bool.true_or, Bool.or_true, Bool.or_false, Bool.false_or, Bool.not_true, Bool.not_false, decide_true, decide_false, not_true_eq_false, not_false_eq_true, eq_self, Bool.true_eq_false, Bool.false_eq_true, n1]; exact hr, hl, frc_rf⟩
    | true =>
      obtain ⟨r0, hr0, rfl⟩ := bt03 h1
      have e0 : (Int32.ofNat r0).toNatClampNeg = r0 := iN_cl (by omega)
      have ew := C_itw (X := X) (d := d + 37) (D := D) (I := I) (P := P) (N := N) hH hr0 h2
      obtain ⟨c1, c2⟩ := n20 h2
      simp only [Option.bind_some, List.append_nil, List.nil_append, List.cons_append, cond_true, cond_false, if_true, if_false, ite_true, ite_false, reduceIte, IC, bI_0, bI_1, bF, Bool.not_eq_false, Bool.not_eq_true, Bool.and_true, Bool.true_and, Bool.and_false, Bool.false_and, Bool.true_or, Bool.or_true, Bool.or_false, Bool.false_or, Bool.not_true, Bool.not_false, decide_true, decide_false, not_true_eq_false, not_false_eq_true, eq_self, Bool.true_eq_false, Bool.false_eq_true, RDc, IC, ew, B147_32]
      by_cases h0 : itwV (I 55) (Int32.ofNat r0) c = 0
      · obtain ⟨I', p1, p2, p3, p4⟩ := N_tla1 (X := X) (d := d + 32) (a := b) (it := fun j => I (58 + r0) j) (n := c.toNatClampNeg) hr0 (hH r0 hr0).2 c2 c.toNatClampNeg 0 0 s I ok hr hl rfl (fun j _ => rfl) (by omega) (Or.inl rfl)
        rw [← c1, show Int32.ofNat 0 = 0 from rfl, Int32.add_zero] at p1
        rw [show Int32.ofNat 0 = 0 from rfl, Int32.add_zero] at p2
        refine ⟨I', by simp only [h0, Option.bind_some, List.append_nil, List.nil_append, List.cons_append, cond_true, cond_false, if_true, if_false, ite_true, ite_false, reduceIte, IC, bI_0, bI_1, bF, Bool.not_eq_false, Bool.not_eq_true, Bool.and_true, Bool.true_and, Bool.and_false, Bool.false_and, Bool.true_or, Bool.or_true, Bool.or_false, Bool.false_or, Bool.not_true, Bool.not_false, decide_true, decide_false, not_true_eq_false, not_false_eq_true, eq_self, Bool.true_eq_false, Bool.false_eq_true, e0]; exact p1, by simp only [h0, Option.bind_some, List.append_nil, List.nil_append, List.cons_append, cond_true, cond_false, if_true, if_false, ite_true, ite_false, reduceIte, IC, bI_0, bI_1, bF, Bool.not_eq_false, Bool.not_eq_true, Bool.and_true, Bool.true_and, Bool.and_false, Bool.false_and, Bool.true_or, Bool.or_true, Bool.or_false, Bool.false_or, Bool.not_true, Bool.not_false, decide_true, decide_false, not_true_eq_false, not_false_eq_true, eq_self, Bool.true_eq_false, Bool.false_eq_true, e0]; exact p2, p3, p4⟩
      · exact ⟨I, by simp only [h0, Option.bind_some, List.append_nil, List.nil_append, List.cons_append, cond_true, cond_false, if_true, if_false, ite_true, ite_false, reduceIte, IC, bI_0, bI_1, bF, Bool.not_eq_false, Bool.not_eq_true, Bool.and_true, Bool.true_and, Bool.and_false, Bool.false_and, Bool.true_or, Bool.or_true, Bool.or_false, Bool.false_or, Bool.not_true, Bool.not_false, decide_true, decide_false, not_true_eq_false, not_false_eq_true, eq_self, Bool.true_eq_false, Bool.false_eq_true], by simp only [h0, Option.bind_some, List.append_nil, List.nil_append, List.cons_append, cond_true, cond_false, if_true, if_false, ite_true, ite_false, reduceIte, IC, bI_0, bI_1, bF, Bool.not_eq_false, Bool.not_eq_true, Bool.and_true, Bool.true_and, Bool.and_false, Bool.false_and, Bool.true_or, Bool.or_true, Bool.or_false, Bool.false_or, Bool.not_true, Bool.not_false, decide_true, decide_false, not_true_eq_false, not_false_eq_true, eq_self, Bool.true_eq_false, Bool.false_eq_true]; exact hr, hl, frc_rf⟩
theorem N_wce (ok : Ok s 10) (hS : Srch D P N ra s I L J) (hL : L.length ≤ 30) : ∃ J', Rn X (d + 8) 148 111 [.ref 0, .int v, .int a, .int c, .int e, .int (s 5), .int x] [] (Mh D J P N) = some ([.int (if e = 0 then s 5 - pth L s 5 else e)], Mh D J' P N) ∧ Srch D P N ra s I [] J' := by
  obtain ⟨J', h1, h2⟩ := C_bak (X := X) (d := d + 4) ok hS hL
  obtain ⟨⟨-, -, -, -, k7, -, -⟩, -⟩ := id hS.1
  refine ⟨J', ?_, h1⟩
  simp only [B148_111, RDc, IC, Option.bind_some, List.append_nil, List.nil_append, List.cons_append, cond_true, cond_false, if_true, if_false, ite_true, ite_false, reduceIte, IC, bI_0, bI_1, bF, Bool.not_eq_false, Bool.not_eq_true, Bool.and_true, Bool.true_and, Bool.and_false, Bool.false_and, Bool.true_or, Bool.or_true, Bool.or_false, Bool.false_or, Bool.not_true, Bool.not_false, decide_true, decide_false, not_true_eq_false, not_false_eq_true, eq_self, Bool.true_eq_false, Bool.false_eq_true, h2, k7, B148_130]
  by_cases h0 : e = 0
  · simp only [h0, Option.bind_some, List.append_nil, List.nil_append, List.cons_append, cond_true, cond_false, if_true, if_false, ite_true, ite_false, reduceIte, IC, bI_0, bI_1, bF, Bool.not_eq_false, Bool.not_eq_true, Bool.and_true, Bool.true_and, Bool.and_false, Bool.false_and, Bool.true_or, Bool.or_true, Bool.or_false, Bool.false_or, Bool.not_true, Bool.not_false, decide_true, decide_false, not_true_eq_false, not_false_eq_true, eq_self, Bool.true_eq_false, Bool.false_eq_true, B148_142]
  · simp only [h0, Option.bind_some, List.append_nil, List.nil_append, List.cons_append, cond_true, cond_false, if_true, if_false, ite_true, ite_false, reduceIte, IC, bI_0, bI_1, bF, Bool.not_eq_false, Bool.not_eq_true, Bool.and_true, Bool.true_and, Bool.and_false, Bool.false_and, Bool.true_or, Bool.or_true, Bool.or_false, Bool.false_or, Bool.not_true, Bool.not_false, decide_true, decide_false, not_true_eq_false, not_false_eq_true, eq_self, Bool.true_eq_false, Bool.false_eq_true, B148_142]
theorem canT_0 (h : S 0 = s 0) : isA S x = isA s x := isA_0 h
theorem N_wco1 (ok : Ok s 10) (hr0 : r0 < 4) (hl : bt l 0 40 = true) (hU : I 56 r0 = l) (hit : ∀ j, j < 40 → I (58 + r0) j = it j) (hn : n ≤ 20) : ∀ k i L J, Srch D P N ra s I L J → L.length = i → i + k = n → (i = 0 ∨ (0 ≤ a.toInt ∧ a.toInt + (i : Int) ≤ 40)) →
    ∃ J', Rn X (d + 8) 148 46 [.ref 0, .int (Int32.ofNat r0), .int a, .int (Int32.ofNat n), .int 0, .int (s 5), .int (Int32.ofNat i)] [] (Mh D J P N)
      = some ([.int (if (wcoF it l k (a + Int32.ofNat i) (pth L s)).1 = 0 then s 5 - (wcoF it l k (a + Int32.ofNat i) (pth L s)).2 5 else (wcoF it l k (a + Int32.ofNat i) (pth L s)).1)], Mh D J' P N) ∧ Srch D P N ra s I [] J'
  | 0, i, L, J, hS, hL, hk, hc => by
    obtain ⟨J', h1, h2⟩ := N_wce (X := X) (d := d) (v := Int32.ofNat r0) (a := a) (c := Int32.ofNat n) (e := 0) (x := Int32.ofNat i) ok hS (by omega)
    refine ⟨J', ?_, h2⟩
    rw [B148_46, if_pos (by rw [iN_le (by omega) (by omega)]; omega)]
    exact h1
  | k + 1, i, L, J, hS, hL, hk, hc => by
    have hi20 : i ≤ 20 := by omega
    obtain ⟨e1, e2⟩ := c_ti hi20 hc
    obtain ⟨ok1, ec⟩ := pth_ok L ok hS.2.2.2.2
    have hrb : ∀ b, b < 80 → ∀ j, j < ctA s → b ≠ ra j := fun b hb j hj => by
      have := (hS.1.2.2.2.1 j (by rw [ec]; exact hj)).2.1.1; omega
    have fr : ∀ b, b < 80 → b ≠ 1 → b ≠ 13 → (b < 31 ∨ 35 < b) → J b = I b := fun b q1 q2 q3 q4 => hS.2.2.2.1 b q2 q3 q4 (hrb b q1)
    have f56 : J 56 = I 56 := fr 56 (by decide) (by decide) (by decide) (by omega)
    have f58 : J (58 + r0) = I (58 + r0) := fr _ (by omega) (by omega) (by omega) (by omega)
    have hLi := C_hit (X := X) (d := d + 6) (D := D) (I := J) (P := P) (N := N) (c := a + Int32.ofNat i) hr0 (by rw [f56, hU]; exact hl)
    rw [f56, hU] at hLi
    have n12 : ¬ (-12 : Int32) = 0 := by decide
    have n4 : ¬ (-4 : Int32) = 0 := by decide
    have stop : ∀ (e : Int32), ¬ e = 0 → ∃ J', Rn X (d + 8) 148 105 [.ref 0, .int (Int32.ofNat r0), .int a, .int (Int32.ofNat n), .int e, .int (s 5), .int (Int32.ofNat i)] [] (Mh D J P N) = some ([.int e], Mh D J' P N) ∧ Srch D P N ra s I [] J' := by
      intro e hz
      obtain ⟨J', h1, h2⟩ := N_wce (X := X) (d := d) (v := Int32.ofNat r0) (a := a) (c := Int32.ofNat n) (e := e) (x := Int32.ofNat i + 1) ok hS (by omega)
      rw [if_neg hz] at h1
      refine ⟨J', ?_, h2⟩
      rw [B148_105, B148_46]
      simp only [hz, Option.bind_some, List.append_nil, List.nil_append, List.cons_append, cond_true, cond_false, if_true, if_false, ite_true, ite_false, reduceIte, IC, bI_0, bI_1, bF, Bool.not_eq_false, Bool.not_eq_true, Bool.and_true, Bool.true_and, Bool.and_false, Bool.false_and, Bool.true_or, Bool.or_true, Bool.or_false, Bool.false_or, Bool.not_true, Bool.not_false, decide_true, decide_false, not_true_eq_false, not_false_eq_true, eq_self, Bool.true_eq_false, Bool.false_eq_true, h1, ite_self]
    rw [B148_46, if_neg (by rw [iN_le (by omega) (by omega)]; omega)]
    simp only [RDc, IC, Option.bind_some, List.append_nil, List.nil_append, List.cons_append, cond_true, cond_false, if_true, if_false, ite_true, ite_false, reduceIte, IC, bI_0, bI_1, bF, Bool.not_eq_false, Bool.not_eq_true, Bool.and_true, Bool.true_and, Bool.and_false, Bool.false_and, Bool.true_or, Bool.or_true, Bool.or_false, Bool.false_or, Bool.not_true, Bool.not_false, decide_true, decide_false, not_true_eq_false, not_false_eq_true, eq_self, Bool.true_eq_false, Bool.false_eq_true, hLi, B148_69]
    unfold wcoF
    cases hI : itI l (a + Int32.ofNat i) with
    | false =>
      obtain ⟨J', h1, h2⟩ := stop (-12) n12
      exact ⟨J', by simp only [Option.bind_some, List.append_nil, List.nil_append, List.cons_append, cond_true, cond_false, if_true, if_false, ite_true, ite_false, reduceIte, IC, bI_0, bI_1, bF, Bool.not_eq_false, Bool.not_eq_true, Bool.and_true, Bool.true_and, Bool.and_false, Bool.false_and, Bool.true_or, Bool.or_true, Bool.or_false, Bool.false_or, Bool.not_true, Bool.not_false, decide_true, decide_false, not_true_eq_false, not_false_eq_true, eq_self, Bool.true_eq_false, Bool.false_eq_true, h1, n12], h2⟩
    | true =>
      have hc2 := c_st hi20 hc hl hI
      obtain ⟨j, hj, hjx⟩ := it_ix hl hI
      have e0 : (a + Int32.ofNat i).toNatClampNeg = j := by rw [hjx, iN_cl (by omega)]
      have rd := C_iat (X := X) (d := d + 5) (D := D) (I := J) (P := P) (N := N) (j := j) hr0 (by rw [f56, hU]; exact hl) hj (by rw [f56, hU, ← hjx]; exact hI)
      rw [f58, hit j hj, ← hjx] at rd
      simp only [Option.bind_some, List.append_nil, List.nil_append, List.cons_append, cond_true, cond_false, if_true, if_false, ite_true, ite_false, reduceIte, IC, bI_0, bI_1, bF, Bool.not_eq_false, Bool.not_eq_true, Bool.and_true, Bool.true_and, Bool.and_false, Bool.false_and, Bool.true_or, Bool.or_true, Bool.or_false, Bool.false_or, Bool.not_true, Bool.not_false, decide_true, decide_false, not_true_eq_false, not_false_eq_true, eq_self, Bool.true_eq_false, Bool.false_eq_true, RDc, IC, rd, B148_95, e0]
      unfold canT
      cases hb : isA (pth L s) (it j) with
      | false =>
        have hb' : isA s (it j) = false := by rw [← isA_0 (pth_0 L)]; exact hb
        obtain ⟨J', h1, h2⟩ := stop (-4) n4
        refine ⟨J', ?_, h2⟩
        simp only [C_stpN ok hS (show L.length < 30 by omega) (Or.inl hb'), Option.bind_some, List.append_nil, List.nil_append, List.cons_append, cond_true, cond_false, if_true, if_false, ite_true, ite_false, reduceIte, IC, bI_0, bI_1, bF, Bool.not_eq_false, Bool.not_eq_true, Bool.and_true, Bool.true_and, Bool.and_false, Bool.false_and, Bool.true_or, Bool.or_true, Bool.or_false, Bool.false_or, Bool.not_true, Bool.not_false, decide_true, decide_false, not_true_eq_false, not_false_eq_true, eq_self, Bool.true_eq_false, Bool.false_eq_true, B148_98, h1, n4]
      | true =>
        obtain ⟨t, ht, hx⟩ := isA_nat ok1.1 hb
        have ht9 := ok1.1.a ht
        have ht' : t < ctA s := by rw [← ec]; exact ht
        have et : (it j).toNatClampNeg = t := by rw [hx, iN_cl (by omega)]
        cases hcn : canV (pth L s) t with
        | false =>
          obtain ⟨J', h1, h2⟩ := stop (-4) n4
          refine ⟨J', ?_, h2⟩
          simp only [C_stpN ok hS (show L.length < 30 by omega) (Or.inr ⟨t, ht', hx, hcn⟩), Option.bind_some, List.append_nil, List.nil_append, List.cons_append, cond_true, cond_false, if_true, if_false, ite_true, ite_false, reduceIte, IC, bI_0, bI_1, bF, Bool.not_eq_false, Bool.not_eq_true, Bool.and_true, Bool.true_and, Bool.and_false, Bool.false_and, Bool.true_or, Bool.or_true, Bool.or_false, Bool.false_or, Bool.not_true, Bool.not_false, decide_true, decide_false, not_true_eq_false, not_false_eq_true, eq_self, Bool.true_eq_false, Bool.false_eq_true, B148_98, h1, n4, et, hcn]
        | true =>
          obtain ⟨J2, hS2, e2⟩ := C_step (X := X) (d := d) ok hS (by omega) ht' hcn
          rw [← hx] at e2
          obtain ⟨J3, q1, q2⟩ := N_wco1 ok hr0 hl hU hit hn k (i + 1) (t :: L) J2 hS2 (by simp; omega) (by omega) hc2
          have n1 : ¬ (1 : Int32) = 0 := by decide
          refine ⟨J3, ?_, q2⟩
          simp only [e2, Option.bind_some, List.append_nil, List.nil_append, List.cons_append, cond_true, cond_false, if_true, if_false, ite_true, ite_false, reduceIte, IC, bI_0, bI_1, bF, Bool.not_eq_false, Bool.not_eq_true, Bool.and_true, Bool.true_and, Bool.and_false, Bool.false_and, Bool.true_or, Bool.or_true, Bool.or_false, Bool.false_or, Bool.not_true, Bool.not_false, decide_true, decide_false, not_true_eq_false, not_false_eq_true, eq_self, Bool.true_eq_false, Bool.false_eq_true, B148_98, n1, B148_105, IX, et, hcn, c_nx]
          exact q1
theorem N_wco (ok : Ok s 10) (hr : RideR s D I P N 1 ra) (hl : I 31 5 = 0) (hH : ∀ r, r < 4 → bt (I 55 r) (-1) 4 = true ∧ bt (I 56 r) 0 40 = true) : ∃ I', Rn X (d + 40) 148 0 [.ref 0, .int a, .int b, .int c, U_, U_, U_] [] (Mh D I P N) = some ([.int (wcoV (I 55) (I 56) (fun r j => I (58 + r) j) a b c s)], Mh D I' P N)
    ∧ RideR s D I' P N 1 ra ∧ I' 31 5 = 0 ∧ FrC (ctA s) ra I I' := by
  have n1 : ¬ (-1 : Int32) = 0 := by decide
  simp only [B148_0, RDc, IC, C_ish, Option.bind_some, List.append_nil, List.nil_append, List.cons_append, cond_true, cond_false, if_true, if_false, ite_true, ite_false, reduceIte, IC, bI_0, bI_1, bF, Bool.not_eq_false, Bool.not_eq_true, Bool.and_true, Bool.true_and, Bool.and_false, Bool.false_and, Bool.true_or, Bool.or_true, Bool.or_false, Bool.false_or, Bool.not_true, Bool.not_false, decide_true, decide_false, not_true_eq_false, not_false_eq_true, eq_self, Bool.true_eq_false, Bool.false_eq_true, B148_8]
  unfold wcoV
  cases h1 : bt a 0 3 with
  | false =>
    rw [itw_n1 (by rw [h1]; rfl)]
    exact ⟨I, by simp only [Option.bind_some, List.append_nil, List.nil_append, List.cons_append, cond_true, cond_false, if_true, if_false, ite_true, ite_false, reduceIte, IC, bI_0, bI_1, bF, Bool.not_eq_false, Bool.not_eq_true, Bool.and_true, Bool.true_and, Bool.and_false, Bool.false_and, Bool.true_or, Bool.or_true, Bool.or_false, Bool.false_or, Bool.not_true, Bool.not_false, decide_true, decide_false, not_true_eq_false, not_false_eq_true, eq_self, Bool.true_eq_false, Bool.false_eq_true, B148_21, n1], hr, hl, frc_rf⟩
  | true =>
    simp only [Option.bind_some, List.append_nil, List.nil_append, List.cons_append, cond_true, cond_false, if_true, if_false, ite_true, ite_false, reduceIte, IC, bI_0, bI_1, bF, Bool.not_eq_false, Bool.not_eq_true, Bool.and_true, Bool.true_and, Bool.and_false, Bool.false_and, Bool.true_or, Bool.or_true, Bool.or_false, Bool.false_or, Bool.not_true, Bool.not_false, decide_true, decide_false, not_true_eq_false, not_false_eq_true, eq_self, Bool.true_eq_false, Bool.false_eq_true, C_btw, L32, B148_18]
    cases h2 : bt c 0 20 with
    | false =>
      rw [itw_n1 (by rw [h1, h2]; rfl)]
      exact ⟨I, by simp only [Option.bind_some, List.append_nil, List.nil_append, List.cons_append, cond_true, cond_false, if_true, if_false, ite_true, ite_false, reduceIte, IC, bI_0, bI_1, bF, Bool.not_eq_false, Bool.not_eq_true, Bool.and_true, Bool.true_and, Bool.and_false, Bool.false_and, Bool.true_or, Bool.or_true, Bool.or_false, Bool.false_or, Bool.not_true, Bool.not_false, decide_true, decide_false, not_true_eq_false, not_false_eq_true, eq_self, Bool.true_eq_false, Bool.false_eq_true, B148_21, n1], hr, hl, frc_rf⟩
    | true =>
      obtain ⟨r0, hr0, rfl⟩ := bt03 h1
      have e0 : (Int32.ofNat r0).toNatClampNeg = r0 := iN_cl (by omega)
      have ew := C_itw (X := X) (d := d + 37) (D := D) (I := I) (P := P) (N := N) hH hr0 h2
      obtain ⟨c1, c2⟩ := n20 h2
      obtain ⟨⟨-, -, -, -, k7, -, -⟩, -⟩ := id hr
      simp only [Option.bind_some, List.append_nil, List.nil_append, List.cons_append, cond_true, cond_false, if_true, if_false, ite_true, ite_false, reduceIte, IC, bI_0, bI_1, bF, Bool.not_eq_false, Bool.not_eq_true, Bool.and_true, Bool.true_and, Bool.and_false, Bool.false_and, Bool.true_or, Bool.or_true, Bool.or_false, Bool.false_or, Bool.not_true, Bool.not_false, decide_true, decide_false, not_true_eq_false, not_false_eq_true, eq_self, Bool.true_eq_false, Bool.false_eq_true, RDc, IC, ew, B148_32, k7]
      by_cases h0 : itwV (I 55) (Int32.ofNat r0) c = 0
      · obtain ⟨J', p1, p2⟩ := N_wco1 (X := X) (d := d + 32) (a := b) (it := fun j => I (58 + r0) j) (n := c.toNatClampNeg) ok hr0 (hH r0 hr0).2 rfl (fun j _ => rfl) c2 c.toNatClampNeg 0 [] I (srch0 hr hl) rfl (by omega) (Or.inl rfl)
        obtain ⟨q1, q2, q3⟩ := srch_end p2
        rw [← c1, show Int32.ofNat 0 = 0 from rfl, Int32.add_zero] at p1
        exact ⟨J', by simp only [h0, Option.bind_some, List.append_nil, List.nil_append, List.cons_append, cond_true, cond_false, if_true, if_false, ite_true, ite_false, reduceIte, IC, bI_0, bI_1, bF, Bool.not_eq_false, Bool.not_eq_true, Bool.and_true, Bool.true_and, Bool.and_false, Bool.false_and, Bool.true_or, Bool.or_true, Bool.or_false, Bool.false_or, Bool.not_true, Bool.not_false, decide_true, decide_false, not_true_eq_false, not_false_eq_true, eq_self, Bool.true_eq_false, Bool.false_eq_true, e0]; exact p1, q1, q2, q3⟩
      · obtain ⟨J', p1, p2⟩ := N_wce (X := X) (d := d + 32) (v := Int32.ofNat r0) (a := b) (c := c) (e := itwV (I 55) (Int32.ofNat r0) c) (x := 0) ok (srch0 hr hl) (by simp)
        obtain ⟨q1, q2, q3⟩ := srch_end p2
        rw [if_neg h0] at p1
        refine ⟨J', ?_, q1, q2, q3⟩
        rw [B148_46]
        simp only [h0, Option.bind_some, List.append_nil, List.nil_append, List.cons_append, cond_true, cond_false, if_true, if_false, ite_true, ite_false, reduceIte, IC, bI_0, bI_1, bF, Bool.not_eq_false, Bool.not_eq_true, Bool.and_true, Bool.true_and, Bool.and_false, Bool.false_and, Bool.true_or, Bool.or_true, Bool.or_false, Bool.false_or, Bool.not_true, Bool.not_false, decide_true, decide_false, not_true_eq_false, not_false_eq_true, eq_self, Bool.true_eq_false, Bool.false_eq_true, p1, ite_self]
end HostD
