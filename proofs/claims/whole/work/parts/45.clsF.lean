/-! the class: ways, far, kind -/
section ClsF
variable {X : mX} {d : Nat} {D : Nat → Nat × Nat} {I : Nat → Nat → Int32} {P : Nat → Nat → Option Nat} {N : Nat} {h : mH} {s s' g S r f f' F c : Nat → Int32} {J : Nat → Nat → Int32} {ra : Nat → Nat} {m : Int} {i j k n p q : Nat} {x v w a b l fl : Int32}
theorem mx_im : mmax a b = imx a b := by
  unfold mmax imx
  by_cases h : a < b
  · rw [if_pos h, if_neg (by rw [i_nle]; exact h)]
  · rw [if_neg h, if_pos (by rw [← i_nlt]; exact h)]
theorem far_b (hm : m ≤ 10) : ∀ n s, Ok s m → (s 4).toInt ≤ (endV s).toInt → (farF n s).toInt ≤ (endV s).toInt
  | 0, s, _, h => h
  | n + 1, s, ok, h => by
    have key : ∀ k i acc, acc.toInt ≤ (endV s).toInt → i + k = ctA s → (foldA (fun a acc => bif canV s a then imx acc (farF n (telS s a)) else acc) i k acc).toInt ≤ (endV s).toInt := by
      intro k
      induction k with
      | zero => intro i acc ha _; exact ha
      | succ k ih =>
        intro i acc ha hk
        unfold foldA
        refine ih (i + 1) _ ?_ (by omega)
        cases hc : canV s i with
        | false => exact ha
        | true =>
          show (imx acc _).toInt ≤ _
          unfold imx
          split
          · exact ha
          · have h9 := ok.1.a (show i < ctA s by omega)
            have e := far_b hm n (telS s i) (ok.tel hm (by omega) hc)
            rw [end_tel h9 ok.1.n2.2, tel_4] at e
            have pb := pas_b (i := i) ok.1 (can_ov hc)
            have e4 := bt_iff.mp ok.1.1.2.2.2.2.1
            have eb := ok.1.endb
            refine e ?_
            rw [t_add (by omega) (by omega)]; exact pb.2.1
    exact key (ctA s) 0 (s 4) h (by omega)
theorem far_full (hm : m ≤ 10) (n : Nat) (ok : Ok s m) : ∀ k i acc, endV s ≤ acc → i + k = ctA s → foldA (fun a acc => bif canV s a then imx acc (farF n (telS s a)) else acc) i k acc = acc
  | 0, _, _, _, _ => rfl
  | k + 1, i, acc, ha, hk => by
    unfold foldA
    have e : (bif canV s i then imx acc (farF n (telS s i)) else acc) = acc := by
      cases hc : canV s i with
      | false => rfl
      | true =>
        have h9 := ok.1.a (show i < ctA s by omega)
        have e := far_b hm n (telS s i) (ok.tel hm (by omega) hc)
        rw [end_tel h9 ok.1.n2.2, tel_4] at e
        have pb := pas_b (i := i) ok.1 (can_ov hc)
        have e4 := bt_iff.mp ok.1.1.2.2.2.2.1
        have eb := ok.1.endb
        have e2 := e (by rw [t_add (by omega) (by omega)]; exact pb.2.1)
        show imx acc _ = acc
        unfold imx
        rw [Int32.le_iff_toInt_le] at ha
        rw [if_pos (by rw [Int32.le_iff_toInt_le]; omega)]
    rw [e]
    exact far_full hm n ok k (i + 1) acc ha (by omega)
/-- the most belief, if above the floor -/
def kfV (fl v : Int32) : Int32 := if v < 0 then fl else imx fl v
theorem kin_b (hm : m ≤ 10) : ∀ n s, Ok s m → -1 ≤ (kinF n s).toInt ∧ (kinF n s).toInt ≤ (s 5).toInt
  | 0, s, ok => by
    have h5 := bt_iff.mp ok.1.1.2.2.2.2.2
    have e1 : (-1 : Int32).toInt = -1 := rfl
    unfold kinF
    cases ovV s with
    | true => exact ⟨by show -1 ≤ (s 5).toInt; omega, Int.le_refl _⟩
    | false => exact ⟨by show -1 ≤ (-1 : Int32).toInt; omega, by show (-1 : Int32).toInt ≤ _; omega⟩
  | n + 1, s, ok => by
    have h5 := bt_iff.mp ok.1.1.2.2.2.2.2
    have e1 : (-1 : Int32).toInt = -1 := rfl
    have key : ∀ k i acc, -1 ≤ acc.toInt → acc.toInt ≤ (s 5).toInt → i + k = ctA s → -1 ≤ (foldA (fun a acc => bif canV s a then imx acc (kinF n (telS s a)) else acc) i k acc).toInt ∧ (foldA (fun a acc => bif canV s a then imx acc (kinF n (telS s a)) else acc) i k acc).toInt ≤ (s 5).toInt := by
      intro k
      induction k with
      | zero => intro i acc h1 h2 _; exact ⟨h1, h2⟩
      | succ k ih =>
        intro i acc h1 h2 hk
        unfold foldA
        cases hc : canV s i with
        | false => exact ih (i + 1) acc h1 h2 (by omega)
        | true =>
          have q := kin_b hm n (telS s i) (ok.tel hm (by omega) hc)
          rw [tel_5] at q
          have hcst := bt_iff.mp (ok.1.2.1 i (by omega)).2.2.1
          have hcc := can_c hc
          rw [t_sub (by omega) (by omega)] at q
          refine ih (i + 1) _ ?_ ?_ (by omega)
          · show -1 ≤ (imx acc _).toInt; unfold imx; split <;> omega
          · show (imx acc _).toInt ≤ _; unfold imx; split <;> omega
    unfold kinF
    cases ovV s with
    | true => exact ⟨by show -1 ≤ (s 5).toInt; omega, Int.le_refl _⟩
    | false => exact key (ctA s) 0 (-1) (by omega) (by omega) (by omega)
theorem kf_im (h1 : -1 ≤ a.toInt) (h2 : -1 ≤ v.toInt) : kfV (kfV fl a) v = kfV fl (imx a v) := by
  unfold kfV imx
  have z := z_ti
  by_cases hv : v < 0
  · rw [if_pos hv]
    rw [Int32.lt_iff_toInt_lt, z_ti] at hv
    rw [if_pos (show v ≤ a by rw [Int32.le_iff_toInt_le]; omega)]
  · rw [if_neg hv]
    by_cases ha : a < 0
    · rw [if_pos ha]
      have hn : ¬ v ≤ a := by
        rw [Int32.lt_iff_toInt_lt, z_ti] at ha hv
        rw [Int32.le_iff_toInt_le]; omega
      rw [if_neg hn, if_neg hv]
    · rw [if_neg ha]
      by_cases hva : v ≤ a
      · rw [if_pos hva, if_neg ha]
        by_cases hf : a ≤ fl
        · rw [if_pos hf, if_pos (by rw [Int32.le_iff_toInt_le] at *; omega)]
        · rw [if_neg hf, if_pos hva]
      · rw [if_neg hva, if_neg hv]
        by_cases hf : a ≤ fl
        · rw [if_pos hf]
        · rw [if_neg hf, if_neg hva, if_neg (by rw [Int32.le_iff_toInt_le] at *; omega)]
theorem kf_fold (hm : m ≤ 10) (n : Nat) (ok : Ok s m) : ∀ k i acc, -1 ≤ acc.toInt → i + k = ctA s →
    foldA (fun a acc => bif canV s a then kfV acc (kinF n (telS s a)) else acc) i k (kfV fl acc) = kfV fl (foldA (fun a acc => bif canV s a then imx acc (kinF n (telS s a)) else acc) i k acc)
  | 0, _, _, _, _ => rfl
  | k + 1, i, acc, ha, hk => by
    unfold foldA
    cases hc : canV s i with
    | false => exact kf_fold hm n ok k (i + 1) acc ha (by omega)
    | true =>
      have q := kin_b hm n (telS s i) (ok.tel hm (by omega) hc)
      show foldA _ (i + 1) k (kfV (kfV fl acc) (kinF n (telS s i))) = kfV fl (foldA _ (i + 1) k (imx acc (kinF n (telS s i))))
      rw [kf_im ha q.1]
      exact kf_fold hm n ok k (i + 1) _ (by unfold imx; split <;> omega) (by omega)

theorem C_way1 (hm : m ≤ 10) (n : Nat) (hn : n + 1 ≤ 4)
    (IH : ∀ s I , Ok s m → RideR s D I P N 1 ra → ∃ f, Rn X (d + n + 7) 79 0 [.ref 1, .int (Int32.ofNat n), U_, U_, U_] [] (Mh D I P N) = some ([.int (wayF n s)], Mh D (u2r I 13 f) P N))
    (ok : Ok s m) : ∀ k i I acc l9, RideR s D I P N 1 ra → True → i + k = ctA s →
    ∃ f, Rn X (d + (n + 1) + 7) 79 13 [.ref 1, .int (Int32.ofNat (n + 1)), .int acc, .int (Int32.ofNat i), l9] [] (Mh D I P N)
      = some ([.int (foldA (fun a acc => bif canV s a then acc + wayF n (telS s a) else acc) i k acc)], Mh D (u2r I 13 f) P N)
  | 0, i, I, acc, l9, hr, _, hk => by
    have h0 := ok.1.n0
    refine ⟨I 13, ?_⟩
    rw [u2r_id, B79_13, if_neg (by rw [Int32.le_iff_toInt_le, iN_ti (by omega), z_ti]; omega)]
    simp only [RDc, Option.bind_some, List.append_nil, List.nil_append, List.cons_append, cond_true, cond_false, if_true, if_false, ite_true, ite_false, reduceIte, IC, bI_0, bI_1, bF, Bool.not_eq_false, Bool.not_eq_true, Bool.and_true, Bool.true_and, Bool.and_false, Bool.false_and, Bool.true_or, Bool.or_true, Bool.or_false, Bool.false_or, Bool.not_true, Bool.not_false, decide_true, decide_false, not_true_eq_false, not_false_eq_true, eq_self, Bool.true_eq_false, Bool.false_eq_true, hr.1.1, h0.1]
    rw [if_pos (by rw [iN_le (by omega) (by omega)]; omega), B79_60]
    rfl
  | k + 1, i, I, acc, l9, hr, _, hk => by
    have h0 := ok.1.n0
    have hi : i < ctA s := by omega

    rw [B79_13, if_neg (by rw [Int32.le_iff_toInt_le, iN_ti (by omega), z_ti]; omega)]
    simp only [RDc, Option.bind_some, List.append_nil, List.nil_append, List.cons_append, cond_true, cond_false, if_true, if_false, ite_true, ite_false, reduceIte, IC, bI_0, bI_1, bF, Bool.not_eq_false, Bool.not_eq_true, Bool.and_true, Bool.true_and, Bool.and_false, Bool.false_and, Bool.true_or, Bool.or_true, Bool.or_false, Bool.false_or, Bool.not_true, Bool.not_false, decide_true, decide_false, not_true_eq_false, not_false_eq_true, eq_self, Bool.true_eq_false, Bool.false_eq_true, hr.1.1, h0.1]
    rw [if_neg (by rw [iN_le (by omega) (by omega)]; omega)]

    unfold foldA
    cases hc : canV s i with
    | false =>
      have e := C_telN (X := X) (d := d + n + 1) ok hr hi hc
      rw [show d + n + 1 + 6 = d + (n + 1) + 6 by omega] at e
      have hneg : (-4 : Int32) ≤ 0 := by decide
      simp only [e, Option.bind_some, List.append_nil, List.nil_append, List.cons_append, cond_true, cond_false, if_true, if_false, ite_true, ite_false, reduceIte, IC, bI_0, bI_1, bF, Bool.not_eq_false, Bool.not_eq_true, Bool.and_true, Bool.true_and, Bool.and_false, Bool.false_and, Bool.true_or, Bool.or_true, Bool.or_false, Bool.false_or, Bool.not_true, Bool.not_false, decide_true, decide_false, not_true_eq_false, not_false_eq_true, eq_self, Bool.true_eq_false, Bool.false_eq_true, B79_30, hneg, B79_54, IX]
      exact C_way1 hm n hn IH ok  k (i + 1) I acc _ hr trivial (by omega)
    | true =>
      obtain ⟨f1, e1⟩ := C_tel (X := X) (d := d + n + 1) ok hr hi hc
      rw [show d + n + 1 + 6 = d + (n + 1) + 6 by omega] at e1
      obtain ⟨f2, e2⟩ := IH (telS s i) (tlI I s ra i f1)  (ok.tel hm hi hc) (hr.tel ok hi)
      rw [show d + n + 7 = d + (n + 1) + 6 by omega] at e2
      have e3 := C_utl (X := X) (d := d + n + 6) (f := f1) (f' := f2) ok hm hr hi hc
      rw [show d + n + 6 + 1 = d + (n + 1) + 6 by omega] at e3
      simp only [e1, Option.bind_some, List.append_nil, List.nil_append, List.cons_append, cond_true, cond_false, if_true, if_false, ite_true, ite_false, reduceIte, IC, bI_0, bI_1, bF, Bool.not_eq_false, Bool.not_eq_true, Bool.and_true, Bool.true_and, Bool.and_false, Bool.false_and, Bool.true_or, Bool.or_true, Bool.or_false, Bool.false_or, Bool.not_true, Bool.not_false, decide_true, decide_false, not_true_eq_false, not_false_eq_true, eq_self, Bool.true_eq_false, Bool.false_eq_true, B79_30, (pas_pos ok hc).1, iN_p1, e2, B79_45, e3, B79_54, IX, cond_true]
      obtain ⟨f3, e4⟩ := C_way1 hm n hn IH ok  k (i + 1) (u2r I 13 f2) (acc + wayF n (telS s i)) (.int (pasV s i)) hr.u13 trivial (by omega)
      rw [u2r_r] at e4
      exact ⟨f3, e4⟩

theorem C_far1 (hm : m ≤ 10) (n : Nat) (hn : n + 1 ≤ 4)
    (IH : ∀ s I , Ok s m → RideR s D I P N 1 ra → ∃ f, Rn X (d + n + 7) 80 0 [.ref 1, .int (Int32.ofNat n), U_, U_, U_] [] (Mh D I P N) = some ([.int (farF n s)], Mh D (u2r I 13 f) P N))
    (ok : Ok s m) : ∀ k i I acc l9, RideR s D I P N 1 ra → True → i + k = ctA s →
    ∃ f, Rn X (d + (n + 1) + 7) 80 7 [.ref 1, .int (Int32.ofNat (n + 1)), .int acc, .int (Int32.ofNat i), l9] [] (Mh D I P N)
      = some ([.int (foldA (fun a acc => bif canV s a then imx acc (farF n (telS s a)) else acc) i k acc)], Mh D (u2r I 13 f) P N)
  | 0, i, I, acc, l9, hr, _, hk => by
    have h0 := ok.1.n0
    refine ⟨I 13, ?_⟩
    rw [u2r_id, B80_7, if_neg (by rw [Int32.le_iff_toInt_le, iN_ti (by omega), z_ti]; omega)]
    simp only [RDc, Option.bind_some, List.append_nil, List.nil_append, List.cons_append, cond_true, cond_false, if_true, if_false, ite_true, ite_false, reduceIte, IC, bI_0, bI_1, bF, Bool.not_eq_false, Bool.not_eq_true, Bool.and_true, Bool.true_and, Bool.and_false, Bool.false_and, Bool.true_or, Bool.or_true, Bool.or_false, Bool.false_or, Bool.not_true, Bool.not_false, decide_true, decide_false, not_true_eq_false, not_false_eq_true, eq_self, Bool.true_eq_false, Bool.false_eq_true, hr.1.1, h0.1]
    rw [if_pos (by rw [iN_le (by omega) (by omega)]; omega), B80_64]
    rfl
  | k + 1, i, I, acc, l9, hr, _, hk => by
    have h0 := ok.1.n0
    have hi : i < ctA s := by omega
    by_cases hfull : endV s ≤ acc
    · refine ⟨I 13, ?_⟩
      rw [u2r_id, B80_7, if_neg (by rw [Int32.le_iff_toInt_le, iN_ti (by omega), z_ti]; omega)]
      simp only [RDc, Option.bind_some, List.append_nil, List.nil_append, List.cons_append, cond_true, cond_false, if_true, if_false, ite_true, ite_false, reduceIte, IC, bI_0, bI_1, bF, Bool.not_eq_false, Bool.not_eq_true, Bool.and_true, Bool.true_and, Bool.and_false, Bool.false_and, Bool.true_or, Bool.or_true, Bool.or_false, Bool.false_or, Bool.not_true, Bool.not_false, decide_true, decide_false, not_true_eq_false, not_false_eq_true, eq_self, Bool.true_eq_false, Bool.false_eq_true, hr.1.1, h0.1, hr.1.2.2.1, hfull, B80_64, ite_self]
      rw [far_full hm n ok (k + 1) i acc hfull hk]
    rw [B80_7, if_neg (by rw [Int32.le_iff_toInt_le, iN_ti (by omega), z_ti]; omega)]
    simp only [RDc, Option.bind_some, List.append_nil, List.nil_append, List.cons_append, cond_true, cond_false, if_true, if_false, ite_true, ite_false, reduceIte, IC, bI_0, bI_1, bF, Bool.not_eq_false, Bool.not_eq_true, Bool.and_true, Bool.true_and, Bool.and_false, Bool.false_and, Bool.true_or, Bool.or_true, Bool.or_false, Bool.false_or, Bool.not_true, Bool.not_false, decide_true, decide_false, not_true_eq_false, not_false_eq_true, eq_self, Bool.true_eq_false, Bool.false_eq_true, hr.1.1, h0.1]
    rw [if_neg (by rw [iN_le (by omega) (by omega)]; omega)]
    rw [hr.1.2.2.1, if_neg hfull]
    unfold foldA
    cases hc : canV s i with
    | false =>
      have e := C_telN (X := X) (d := d + n + 1) ok hr hi hc
      rw [show d + n + 1 + 6 = d + (n + 1) + 6 by omega] at e
      have hneg : (-4 : Int32) ≤ 0 := by decide
      simp only [e, Option.bind_some, List.append_nil, List.nil_append, List.cons_append, cond_true, cond_false, if_true, if_false, ite_true, ite_false, reduceIte, IC, bI_0, bI_1, bF, Bool.not_eq_false, Bool.not_eq_true, Bool.and_true, Bool.true_and, Bool.and_false, Bool.false_and, Bool.true_or, Bool.or_true, Bool.or_false, Bool.false_or, Bool.not_true, Bool.not_false, decide_true, decide_false, not_true_eq_false, not_false_eq_true, eq_self, Bool.true_eq_false, Bool.false_eq_true, B80_32, hneg, B80_58, IX]
      exact C_far1 hm n hn IH ok  k (i + 1) I acc _ hr trivial (by omega)
    | true =>
      obtain ⟨f1, e1⟩ := C_tel (X := X) (d := d + n + 1) ok hr hi hc
      rw [show d + n + 1 + 6 = d + (n + 1) + 6 by omega] at e1
      obtain ⟨f2, e2⟩ := IH (telS s i) (tlI I s ra i f1)  (ok.tel hm hi hc) (hr.tel ok hi) 
      rw [show d + n + 7 = d + (n + 1) + 6 by omega] at e2
      have e3 := C_utl (X := X) (d := d + n + 6) (f := f1) (f' := f2) ok hm hr hi hc
      rw [show d + n + 6 + 1 = d + (n + 1) + 6 by omega] at e3
      simp only [e1, Option.bind_some, List.append_nil, List.nil_append, List.cons_append, cond_true, cond_false, if_true, if_false, ite_true, ite_false, reduceIte, IC, bI_0, bI_1, bF, Bool.not_eq_false, Bool.not_eq_true, Bool.and_true, Bool.true_and, Bool.and_false, Bool.false_and, Bool.true_or, Bool.or_true, Bool.or_false, Bool.false_or, Bool.not_true, Bool.not_false, decide_true, decide_false, not_true_eq_false, not_false_eq_true, eq_self, Bool.true_eq_false, Bool.false_eq_true, B80_32, (pas_pos ok hc).1, iN_p1, e2, B80_47, e3, B80_58, IX, mx_im]
      obtain ⟨f3, e4⟩ := C_far1 hm n hn IH ok  k (i + 1) (u2r I 13 f2) (imx acc (farF n (telS s i))) (.int (pasV s i)) hr.u13 trivial (by omega)
      rw [u2r_r] at e4
      exact ⟨f3, e4⟩

theorem C_kin1 (hm : m ≤ 10) (n : Nat) (hn : n + 1 ≤ 4)
    (IH : ∀ s I fl, Ok s m → RideR s D I P N 1 ra → ∃ f, Rn X (d + n + 7) 81 0 [.ref 1, .int (Int32.ofNat n), .int fl, U_, U_, U_] [] (Mh D I P N) = some ([.int (kfV fl (kinF n s))], Mh D (u2r I 13 f) P N))
    (ok : Ok s m) (fl0 : Int32) : ∀ k i I acc l9, RideR s D I P N 1 ra → True → i + k = ctA s →
    ∃ f, Rn X (d + (n + 1) + 7) 81 27 [.ref 1, .int (Int32.ofNat (n + 1)), .int fl0, .int acc, .int (Int32.ofNat i), l9] [] (Mh D I P N)
      = some ([.int (foldA (fun a acc => bif canV s a then kfV acc (kinF n (telS s a)) else acc) i k acc)], Mh D (u2r I 13 f) P N)
  | 0, i, I, acc, l9, hr, _, hk => by
    have h0 := ok.1.n0
    refine ⟨I 13, ?_⟩
    rw [u2r_id, B81_27, if_neg (by rw [Int32.le_iff_toInt_le, iN_ti (by omega), z_ti]; omega)]
    simp only [RDc, Option.bind_some, List.append_nil, List.nil_append, List.cons_append, cond_true, cond_false, if_true, if_false, ite_true, ite_false, reduceIte, IC, bI_0, bI_1, bF, Bool.not_eq_false, Bool.not_eq_true, Bool.and_true, Bool.true_and, Bool.and_false, Bool.false_and, Bool.true_or, Bool.or_true, Bool.or_false, Bool.false_or, Bool.not_true, Bool.not_false, decide_true, decide_false, not_true_eq_false, not_false_eq_true, eq_self, Bool.true_eq_false, Bool.false_eq_true, hr.1.1, h0.1]
    rw [if_pos (by rw [iN_le (by omega) (by omega)]; omega), B81_76]
    rfl
  | k + 1, i, I, acc, l9, hr, _, hk => by
    have h0 := ok.1.n0
    have hi : i < ctA s := by omega

    rw [B81_27, if_neg (by rw [Int32.le_iff_toInt_le, iN_ti (by omega), z_ti]; omega)]
    simp only [RDc, Option.bind_some, List.append_nil, List.nil_append, List.cons_append, cond_true, cond_false, if_true, if_false, ite_true, ite_false, reduceIte, IC, bI_0, bI_1, bF, Bool.not_eq_false, Bool.not_eq_true, Bool.and_true, Bool.true_and, Bool.and_false, Bool.false_and, Bool.true_or, Bool.or_true, Bool.or_false, Bool.false_or, Bool.not_true, Bool.not_false, decide_true, decide_false, not_true_eq_false, not_false_eq_true, eq_self, Bool.true_eq_false, Bool.false_eq_true, hr.1.1, h0.1]
    rw [if_neg (by rw [iN_le (by omega) (by omega)]; omega)]

    unfold foldA
    cases hc : canV s i with
    | false =>
      have e := C_telN (X := X) (d := d + n + 1) ok hr hi hc
      rw [show d + n + 1 + 6 = d + (n + 1) + 6 by omega] at e
      have hneg : (-4 : Int32) ≤ 0 := by decide
      simp only [e, Option.bind_some, List.append_nil, List.nil_append, List.cons_append, cond_true, cond_false, if_true, if_false, ite_true, ite_false, reduceIte, IC, bI_0, bI_1, bF, Bool.not_eq_false, Bool.not_eq_true, Bool.and_true, Bool.true_and, Bool.and_false, Bool.false_and, Bool.true_or, Bool.or_true, Bool.or_false, Bool.false_or, Bool.not_true, Bool.not_false, decide_true, decide_false, not_true_eq_false, not_false_eq_true, eq_self, Bool.true_eq_false, Bool.false_eq_true, B81_46, hneg, B81_70, IX]
      exact C_kin1 hm n hn IH ok fl0 k (i + 1) I acc _ hr trivial (by omega)
    | true =>
      obtain ⟨f1, e1⟩ := C_tel (X := X) (d := d + n + 1) ok hr hi hc
      rw [show d + n + 1 + 6 = d + (n + 1) + 6 by omega] at e1
      obtain ⟨f2, e2⟩ := IH (telS s i) (tlI I s ra i f1) acc (ok.tel hm hi hc) (hr.tel ok hi) 
      rw [show d + n + 7 = d + (n + 1) + 6 by omega] at e2
      have e3 := C_utl (X := X) (d := d + n + 6) (f := f1) (f' := f2) ok hm hr hi hc
      rw [show d + n + 6 + 1 = d + (n + 1) + 6 by omega] at e3
      simp only [e1, Option.bind_some, List.append_nil, List.nil_append, List.cons_append, cond_true, cond_false, if_true, if_false, ite_true, ite_false, reduceIte, IC, bI_0, bI_1, bF, Bool.not_eq_false, Bool.not_eq_true, Bool.and_true, Bool.true_and, Bool.and_false, Bool.false_and, Bool.true_or, Bool.or_true, Bool.or_false, Bool.false_or, Bool.not_true, Bool.not_false, decide_true, decide_false, not_true_eq_false, not_false_eq_true, eq_self, Bool.true_eq_false, Bool.false_eq_true, B81_46, (pas_pos ok hc).1, iN_p1, e2, B81_61, e3, B81_70, IX, cond_true]
      obtain ⟨f3, e4⟩ := C_kin1 hm n hn IH ok fl0 k (i + 1) (u2r I 13 f2) (kfV acc (kinF n (telS s i))) (.int (pasV s i)) hr.u13 trivial (by omega)
      rw [u2r_r] at e4
      exact ⟨f3, e4⟩
theorem C_way (hm : m ≤ 10) : ∀ n, n ≤ 4 → ∀ s I, Ok s m → RideR s D I P N 1 ra → ∃ f, Rn X (d + n + 7) 79 0 [.ref 1, .int (Int32.ofNat n), U_, U_, U_] [] (Mh D I P N) = some ([.int (wayF n s)], Mh D (u2r I 13 f) P N)
  | 0, _, s, I, ok, hr => by
    have eo := C_over (X := X) (d := d + 0 + 6) hr
    have h1 : Int32.ofNat 0 ≤ 0 := by decide
    refine ⟨I 13, ?_⟩
    rw [u2r_id, B79_0]
    simp only [Option.bind_some, List.append_nil, List.nil_append, List.cons_append, cond_true, cond_false, if_true, if_false, ite_true, ite_false, reduceIte, IC, bI_0, bI_1, bF, Bool.not_eq_false, Bool.not_eq_true, Bool.and_true, Bool.true_and, Bool.and_false, Bool.false_and, Bool.true_or, Bool.or_true, Bool.or_false, Bool.false_or, Bool.not_true, Bool.not_false, decide_true, decide_false, not_true_eq_false, not_false_eq_true, eq_self, Bool.true_eq_false, Bool.false_eq_true, eo, B79_4]
    unfold wayF
    cases ovV s with
    | true => simp only [Option.bind_some, List.append_nil, List.nil_append, List.cons_append, cond_true, cond_false, if_true, if_false, ite_true, ite_false, reduceIte, IC, bI_0, bI_1, bF, Bool.not_eq_false, Bool.not_eq_true, Bool.and_true, Bool.true_and, Bool.and_false, Bool.false_and, Bool.true_or, Bool.or_true, Bool.or_false, Bool.false_or, Bool.not_true, Bool.not_false, decide_true, decide_false, not_true_eq_false, not_false_eq_true, eq_self, Bool.true_eq_false, Bool.false_eq_true]
    | false => simp only [Option.bind_some, List.append_nil, List.nil_append, List.cons_append, cond_true, cond_false, if_true, if_false, ite_true, ite_false, reduceIte, IC, bI_0, bI_1, bF, Bool.not_eq_false, Bool.not_eq_true, Bool.and_true, Bool.true_and, Bool.and_false, Bool.false_and, Bool.true_or, Bool.or_true, Bool.or_false, Bool.false_or, Bool.not_true, Bool.not_false, decide_true, decide_false, not_true_eq_false, not_false_eq_true, eq_self, Bool.true_eq_false, Bool.false_eq_true, B79_13, h1, B79_60]
  | n + 1, hn, s, I, ok, hr => by
    have eo := C_over (X := X) (d := d + (n + 1) + 6) hr
    rw [B79_0]
    simp only [Option.bind_some, List.append_nil, List.nil_append, List.cons_append, cond_true, cond_false, if_true, if_false, ite_true, ite_false, reduceIte, IC, bI_0, bI_1, bF, Bool.not_eq_false, Bool.not_eq_true, Bool.and_true, Bool.true_and, Bool.and_false, Bool.false_and, Bool.true_or, Bool.or_true, Bool.or_false, Bool.false_or, Bool.not_true, Bool.not_false, decide_true, decide_false, not_true_eq_false, not_false_eq_true, eq_self, Bool.true_eq_false, Bool.false_eq_true, eo, B79_4]
    unfold wayF
    cases ovV s with
    | true => exact ⟨I 13, by rw [u2r_id]; simp only [Option.bind_some, List.append_nil, List.nil_append, List.cons_append, cond_true, cond_false, if_true, if_false, ite_true, ite_false, reduceIte, IC, bI_0, bI_1, bF, Bool.not_eq_false, Bool.not_eq_true, Bool.and_true, Bool.true_and, Bool.and_false, Bool.false_and, Bool.true_or, Bool.or_true, Bool.or_false, Bool.false_or, Bool.not_true, Bool.not_false, decide_true, decide_false, not_true_eq_false, not_false_eq_true, eq_self, Bool.true_eq_false, Bool.false_eq_true]⟩
    | false =>
      simp only [Option.bind_some, List.append_nil, List.nil_append, List.cons_append, cond_true, cond_false, if_true, if_false, ite_true, ite_false, reduceIte, IC, bI_0, bI_1, bF, Bool.not_eq_false, Bool.not_eq_true, Bool.and_true, Bool.true_and, Bool.and_false, Bool.false_and, Bool.true_or, Bool.or_true, Bool.or_false, Bool.false_or, Bool.not_true, Bool.not_false, decide_true, decide_false, not_true_eq_false, not_false_eq_true, eq_self, Bool.true_eq_false, Bool.false_eq_true]
      exact C_way1 hm n hn (fun s I ok hr => C_way hm n (by omega) s I ok hr) ok (ctA s) 0 I 0 U_ hr trivial (by omega)
theorem C_far (hm : m ≤ 10) : ∀ n, n ≤ 4 → ∀ s I, Ok s m → RideR s D I P N 1 ra → ∃ f, Rn X (d + n + 7) 80 0 [.ref 1, .int (Int32.ofNat n), U_, U_, U_] [] (Mh D I P N) = some ([.int (farF n s)], Mh D (u2r I 13 f) P N)
  | 0, _, s, I, ok, hr => by
    have h1 : Int32.ofNat 0 ≤ 0 := by decide
    refine ⟨I 13, ?_⟩
    rw [u2r_id, B80_0]
    simp only [RDc, Option.bind_some, List.append_nil, List.nil_append, List.cons_append, cond_true, cond_false, if_true, if_false, ite_true, ite_false, reduceIte, IC, bI_0, bI_1, bF, Bool.not_eq_false, Bool.not_eq_true, Bool.and_true, Bool.true_and, Bool.and_false, Bool.false_and, Bool.true_or, Bool.or_true, Bool.or_false, Bool.false_or, Bool.not_true, Bool.not_false, decide_true, decide_false, not_true_eq_false, not_false_eq_true, eq_self, Bool.true_eq_false, Bool.false_eq_true, hr.1.2.2.2.1, B80_7, h1, B80_64]
    rfl
  | n + 1, hn, s, I, ok, hr => by
    rw [B80_0]
    simp only [RDc, Option.bind_some, List.append_nil, List.nil_append, List.cons_append, cond_true, cond_false, if_true, if_false, ite_true, ite_false, reduceIte, IC, bI_0, bI_1, bF, Bool.not_eq_false, Bool.not_eq_true, Bool.and_true, Bool.true_and, Bool.and_false, Bool.false_and, Bool.true_or, Bool.or_true, Bool.or_false, Bool.false_or, Bool.not_true, Bool.not_false, decide_true, decide_false, not_true_eq_false, not_false_eq_true, eq_self, Bool.true_eq_false, Bool.false_eq_true, hr.1.2.2.2.1]
    exact C_far1 hm n hn (fun s I ok hr => C_far hm n (by omega) s I ok hr) ok (ctA s) 0 I (s 4) U_ hr trivial (by omega)
theorem kf_n1 : kfV fl (-1) = fl := rfl
theorem kf_lo (h : v ≤ fl) : kfV fl v = fl := by
  unfold kfV imx
  rw [if_pos h, ite_self]
theorem kf_hi (h0 : 0 ≤ v.toInt) (h : fl < v) : kfV fl v = v := by
  unfold kfV imx
  rw [if_neg (by rw [Int32.lt_iff_toInt_lt, z_ti]; omega), if_neg (by rw [i_nle]; exact h)]
theorem C_kin (hm : m ≤ 10) : ∀ n, n ≤ 4 → ∀ s I fl, Ok s m → RideR s D I P N 1 ra → ∃ f, Rn X (d + n + 7) 81 0 [.ref 1, .int (Int32.ofNat n), .int fl, U_, U_, U_] [] (Mh D I P N) = some ([.int (kfV fl (kinF n s))], Mh D (u2r I 13 f) P N)
  | n, hn, s, I, fl, ok, hr => by
    have eo := C_over (X := X) (d := d + n + 6) hr
    have h5 := bt_iff.mp ok.1.1.2.2.2.2.2
    have hkb := kin_b hm n s ok
    rw [B81_0]
    simp only [RDc, Option.bind_some, List.append_nil, List.nil_append, List.cons_append, cond_true, cond_false, if_true, if_false, ite_true, ite_false, reduceIte, IC, bI_0, bI_1, bF, Bool.not_eq_false, Bool.not_eq_true, Bool.and_true, Bool.true_and, Bool.and_false, Bool.false_and, Bool.true_or, Bool.or_true, Bool.or_false, Bool.false_or, Bool.not_true, Bool.not_false, decide_true, decide_false, not_true_eq_false, not_false_eq_true, eq_self, Bool.true_eq_false, Bool.false_eq_true, hr.1.2.2.2.2.1]
    by_cases hb : fl < s 5
    · simp only [hb, Option.bind_some, List.append_nil, List.nil_append, List.cons_append, cond_true, cond_false, if_true, if_false, ite_true, ite_false, reduceIte, IC, bI_0, bI_1, bF, Bool.not_eq_false, Bool.not_eq_true, Bool.and_true, Bool.true_and, Bool.and_false, Bool.false_and, Bool.true_or, Bool.or_true, Bool.or_false, Bool.false_or, Bool.not_true, Bool.not_false, decide_true, decide_false, not_true_eq_false, not_false_eq_true, eq_self, Bool.true_eq_false, Bool.false_eq_true, eo, B81_14]
      cases hov : ovV s with
      | true =>
        refine ⟨I 13, ?_⟩
        rw [u2r_id]
        have hk : kinF n s = s 5 := by cases n <;> (unfold kinF; rw [hov]; rfl)
        simp only [Option.bind_some, List.append_nil, List.nil_append, List.cons_append, cond_true, cond_false, if_true, if_false, ite_true, ite_false, reduceIte, IC, bI_0, bI_1, bF, Bool.not_eq_false, Bool.not_eq_true, Bool.and_true, Bool.true_and, Bool.and_false, Bool.false_and, Bool.true_or, Bool.or_true, Bool.or_false, Bool.false_or, Bool.not_true, Bool.not_false, decide_true, decide_false, not_true_eq_false, not_false_eq_true, eq_self, Bool.true_eq_false, Bool.false_eq_true, RDc, hr.1.2.2.2.2.1]
        rw [hk, kf_hi h5.1 hb]
      | false =>
        simp only [Option.bind_some, List.append_nil, List.nil_append, List.cons_append, cond_true, cond_false, if_true, if_false, ite_true, ite_false, reduceIte, IC, bI_0, bI_1, bF, Bool.not_eq_false, Bool.not_eq_true, Bool.and_true, Bool.true_and, Bool.and_false, Bool.false_and, Bool.true_or, Bool.or_true, Bool.or_false, Bool.false_or, Bool.not_true, Bool.not_false, decide_true, decide_false, not_true_eq_false, not_false_eq_true, eq_self, Bool.true_eq_false, Bool.false_eq_true]
        match n, hn with
        | 0, _ =>
          have h1 : Int32.ofNat 0 ≤ 0 := by decide
          refine ⟨I 13, ?_⟩
          have hk : kinF 0 s = -1 := by unfold kinF; rw [hov]; rfl
          rw [u2r_id, B81_27, if_pos h1, B81_76, hk, kf_n1]
        | n + 1, hn =>
          obtain ⟨f, e⟩ := C_kin1 (X := X) (d := d) hm n hn (fun s I fl ok hr => C_kin hm n (by omega) s I fl ok hr) ok fl (ctA s) 0 I fl U_ hr trivial (by omega)
          refine ⟨f, e.trans ?_⟩
          have hkf := kf_fold (fl := fl) hm n ok (ctA s) 0 (-1) (by decide) (by omega)
          rw [kf_n1] at hkf
          have hk : kinF (n + 1) s = foldA (fun a acc => bif canV s a then imx acc (kinF n (telS s a)) else acc) 0 (ctA s) (-1) := by
            show (bif ovV s then s 5 else _) = _
            rw [hov]; rfl
          rw [hk, ← hkf]
    · refine ⟨I 13, ?_⟩
      rw [u2r_id]
      simp only [hb, Option.bind_some, List.append_nil, List.nil_append, List.cons_append, cond_true, cond_false, if_true, if_false, ite_true, ite_false, reduceIte, IC, bI_0, bI_1, bF, Bool.not_eq_false, Bool.not_eq_true, Bool.and_true, Bool.true_and, Bool.and_false, Bool.false_and, Bool.true_or, Bool.or_true, Bool.or_false, Bool.false_or, Bool.not_true, Bool.not_false, decide_true, decide_false, not_true_eq_false, not_false_eq_true, eq_self, Bool.true_eq_false, Bool.false_eq_true]
      rw [kf_lo]
      rw [i_nlt] at hb
      rw [Int32.le_iff_toInt_le] at hb ⊢
      omega
end ClsF
