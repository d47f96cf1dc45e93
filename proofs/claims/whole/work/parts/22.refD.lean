/-! the reference: searches -/
/-- scratch: chosen's row c, chosenMany -/
def R7 (I : Nat → Nat → Int32) (c : Nat → Int32) (v : Int32) : Nat → Nat → Int32 := u2 (u2r I 70 c) 65 6 v
def setR (c : Nat → Int32) : Nat → List Nat → Nat → Int32
  | _, [] => c
  | p, a :: L => upd (setR c (p + 1) L) p (Int32.ofNat a)
section RefD
variable {X : mX} {d : Nat} {D : Nat → Nat × Nat} {I : Nat → Nat → Int32} {P : Nat → Nat → Option Nat} {N : Nat} {h : mH} {s g c : Nat → Int32} {m : Int} {i j k n p : Nat} {x v w : Int32}
theorem R7_70 : R6 (R7 I c v) g s 70 = c := rfl
theorem R7_w70 : u2 (R6 (R7 I c v) g s) 70 k x = R6 (R7 I (upd c k x) v) g s := by
  rw [u2_r, R7_70]
  unfold R6 R7
  rw [u2_r, u2r_c (a := 66) (by decide), u2r_c (a := 69) (by decide), u2r_c (a := 65) (by decide), u2r_r]
  rfl
theorem R7_w6 : u2 (R6 (R7 I c v) g s) 65 6 x = R6 (R7 I c x) g s := by
  rw [u2_r]
  unfold R6 R7
  rw [u2_r, u2_r, u2r_c (a := 66) (by decide), u2r_c (a := 69) (by decide), u2r_r]
  congr 2
  congr 1
  funext j
  show upd (upd (u2r I 70 c 65) 6 v) 6 x j = upd (u2r I 70 c 65) 6 x j
  unfold upd; split <;> rfl
theorem R7_id : R7 I (I 70) (I 65 6) = I := by
  unfold R7
  rw [u2r_id, u2_r]
  have : upd (I 65) 6 (I 65 6) = I 65 := by funext j; unfold upd; split <;> simp_all
  rw [this, u2r_id]
theorem w656 : hFS (Mh D I P N) 65 6 [11] (.int x) = some (Mh D (u2 I 65 6 x) P N) := wrI hN65 (ci := 11) rfl rfl
theorem upd_id : upd c k (c k) = c := by funext j; unfold upd; split <;> simp_all
theorem M_arr1 (hm : m ≤ 10) (n : Nat) (hn : n + 1 ≤ 4)
    (IH : ∀ p s g c v, Ok s m → p + n ≤ 4 → ∃ g' v', Rn X (d + n + 7) 200 0 [.ref 65, .int (Int32.ofNat n), .int (Int32.ofNat p), U_, U_, U_] [] (Mh D (R6 (R7 I c v) g s) P N) = some ([.int (bI (arrF n s))], Mh D (R6 (R7 I (bif arrF n s then setR c p (fstR n s) else c) v') g' s) P N))
    (ok : Ok s m) (hp : p + (n + 1) ≤ 4) : ∀ k i g v l5, i + k = ctA s →
    ∃ g' v', Rn X (d + (n + 1) + 7) 200 19 [.ref 65, .int (Int32.ofNat (n + 1)), .int (Int32.ofNat p), .int 0, .int (Int32.ofNat i), l5] [] (Mh D (R6 (R7 I c v) g s) P N)
      = some ([.int (bI (findF (fun a => canV s a && arrF n (telS s a)) i k).isSome)], Mh D (R6 (R7 I (match findF (fun a => canV s a && arrF n (telS s a)) i k with | none => c | some a => setR c p (a :: fstR n (telS s a))) v') g' s) P N)
  | 0, i, g, v, l5, hk => by
    have h0 := ok.1.n0
    refine ⟨g, v, ?_⟩
    rw [B200_19]
    simp (disch := omega) only [RDm, Option.bind_some, List.append_nil, List.nil_append, List.cons_append, cond_true, cond_false, if_true, if_false, ite_true, ite_false, reduceIte, IC, bI_0, bI_1, bF, Bool.not_eq_false, Bool.not_eq_true, Bool.and_true, Bool.true_and, Bool.and_false, Bool.false_and, Bool.true_or, Bool.or_true, Bool.or_false, Bool.false_or, Bool.not_true, Bool.not_false, decide_true, decide_false, not_true_eq_false, not_false_eq_true, eq_self, Bool.true_eq_false, Bool.false_eq_true, R6_66, h0.1, iN_le]
    rw [if_pos (by omega), B200_101]
    rfl
  | k + 1, i, g, v, l5, hk => by
    have h0 := ok.1.n0
    rw [B200_19]
    simp (disch := omega) only [RDm, Option.bind_some, List.append_nil, List.nil_append, List.cons_append, cond_true, cond_false, if_true, if_false, ite_true, ite_false, reduceIte, IC, bI_0, bI_1, bF, Bool.not_eq_false, Bool.not_eq_true, Bool.and_true, Bool.true_and, Bool.and_false, Bool.false_and, Bool.true_or, Bool.or_true, Bool.or_false, Bool.false_or, Bool.not_true, Bool.not_false, decide_true, decide_false, not_true_eq_false, not_false_eq_true, eq_self, Bool.true_eq_false, Bool.false_eq_true, R6_66, h0.1, iN_le]
    rw [if_neg (by omega), if_neg (by rw [Int32.le_iff_toInt_le, iN_ti (by omega), z_ti]; omega)]
    simp (disch := omega) only [M_can (I := R6 (R7 I c v) g s) (m := m) ok.1 (show i < 9 by omega), Option.bind_some, List.append_nil, List.nil_append, List.cons_append, cond_true, cond_false, if_true, if_false, ite_true, ite_false, reduceIte, IC, bI_0, bI_1, bF, Bool.not_eq_false, Bool.not_eq_true, Bool.and_true, Bool.true_and, Bool.and_false, Bool.false_and, Bool.true_or, Bool.or_true, Bool.or_false, Bool.false_or, Bool.not_true, Bool.not_false, decide_true, decide_false, not_true_eq_false, not_false_eq_true, eq_self, Bool.true_eq_false, Bool.false_eq_true, R6_66, B200_44]
    unfold findF
    cases hc : canV s i with
    | false =>
      simp only [Option.bind_some, List.append_nil, List.nil_append, List.cons_append, cond_true, cond_false, if_true, if_false, ite_true, ite_false, reduceIte, IC, bI_0, bI_1, bF, Bool.not_eq_false, Bool.not_eq_true, Bool.and_true, Bool.true_and, Bool.and_false, Bool.false_and, Bool.true_or, Bool.or_true, Bool.or_false, Bool.false_or, Bool.not_true, Bool.not_false, decide_true, decide_false, not_true_eq_false, not_false_eq_true, eq_self, Bool.true_eq_false, Bool.false_eq_true, B200_95, IX, Bool.false_eq_true]
      exact M_arr1 hm n hn IH ok hp k (i + 1) g v l5 (by omega)
    | true =>
      obtain ⟨g1, e1⟩ := M_tel (X := X) (d := d + n + 1) (D := D) (I := R7 I c v) (P := P) (N := N) ok (show i < ctA s by omega) g
      have e1' : Rn X (d + (n + 1) + 6) 196 0 [.ref 65, .int (Int32.ofNat i), U_, U_] [] (Mh D (R6 (R7 I c v) g s) P N) = _ := e1
      obtain ⟨g2, v2, e2⟩ := IH (p + 1) (telS s i) g1 c v (ok.tel hm (by omega) hc) (by omega)
      rw [show d + n + 7 = d + (n + 1) + 6 by omega] at e2
      simp only [Bool.true_eq_false, Option.bind_some, List.append_nil, List.nil_append, List.cons_append, cond_true, cond_false, if_true, if_false, ite_true, ite_false, reduceIte, IC, bI_0, bI_1, bF, Bool.not_eq_false, Bool.not_eq_true, Bool.and_true, Bool.true_and, Bool.and_false, Bool.false_and, Bool.true_or, Bool.or_true, Bool.or_false, Bool.false_or, Bool.not_true, Bool.not_false, decide_true, decide_false, not_true_eq_false, not_false_eq_true, eq_self, Bool.true_eq_false, Bool.false_eq_true, e1', B200_53, iN_p1, IX, e2]
      simp only [B200_65, Option.bind_some, List.append_nil, List.nil_append, List.cons_append, cond_true, cond_false, if_true, if_false, ite_true, ite_false, reduceIte, IC, bI_0, bI_1, bF, Bool.not_eq_false, Bool.not_eq_true, Bool.and_true, Bool.true_and, Bool.and_false, Bool.false_and, Bool.true_or, Bool.or_true, Bool.or_false, Bool.false_or, Bool.not_true, Bool.not_false, decide_true, decide_false, not_true_eq_false, not_false_eq_true, eq_self, Bool.true_eq_false, Bool.false_eq_true]
      rw [show d + (n + 1) + 6 = d + n + 5 + 2 by omega, M_telB (by omega)]
      simp (disch := omega) only [Option.bind_some, List.append_nil, List.nil_append, List.cons_append, cond_true, cond_false, if_true, if_false, ite_true, ite_false, reduceIte, IC, bI_0, bI_1, bF, Bool.not_eq_false, Bool.not_eq_true, Bool.and_true, Bool.true_and, Bool.and_false, Bool.false_and, Bool.true_or, Bool.or_true, Bool.or_false, Bool.false_or, Bool.not_true, Bool.not_false, decide_true, decide_false, not_true_eq_false, not_false_eq_true, eq_self, Bool.true_eq_false, Bool.false_eq_true, B200_74, RDm, rr70, R7_70]
      cases hr : arrF n (telS s i) with
      | false =>
        simp (disch := omega) only [Option.bind_some, List.append_nil, List.nil_append, List.cons_append, cond_true, cond_false, if_true, if_false, ite_true, ite_false, reduceIte, IC, bI_0, bI_1, bF, Bool.not_eq_false, Bool.not_eq_true, Bool.and_true, Bool.true_and, Bool.and_false, Bool.false_and, Bool.true_or, Bool.or_true, Bool.or_false, Bool.false_or, Bool.not_true, Bool.not_false, decide_true, decide_false, not_true_eq_false, not_false_eq_true, eq_self, Bool.true_eq_false, Bool.false_eq_true, B200_94, ww70, R7_70, R7_w70, upd_id, B200_95, IX, Bool.false_eq_true, bI_f, cond_false]
        exact M_arr1 hm n hn IH ok hp k (i + 1) g2 v2 _ (by omega)
      | true =>
        simp (disch := omega) only [Option.bind_some, List.append_nil, List.nil_append, List.cons_append, cond_true, cond_false, if_true, if_false, ite_true, ite_false, reduceIte, IC, bI_0, bI_1, bF, Bool.not_eq_false, Bool.not_eq_true, Bool.and_true, Bool.true_and, Bool.and_false, Bool.false_and, Bool.true_or, Bool.or_true, Bool.or_false, Bool.false_or, Bool.not_true, Bool.not_false, decide_true, decide_false, not_true_eq_false, not_false_eq_true, eq_self, Bool.true_eq_false, Bool.false_eq_true, B200_94, ww70, R7_70, R7_w70, B200_95, IX, Bool.true_eq_false, cond_true]
        refine ⟨g2, v2, ?_⟩
        rw [B200_19]
        simp (disch := omega) only [RDm, Option.bind_some, List.append_nil, List.nil_append, List.cons_append, cond_true, cond_false, if_true, if_false, ite_true, ite_false, reduceIte, IC, bI_0, bI_1, bF, Bool.not_eq_false, Bool.not_eq_true, Bool.and_true, Bool.true_and, Bool.and_false, Bool.false_and, Bool.true_or, Bool.or_true, Bool.or_false, Bool.false_or, Bool.not_true, Bool.not_false, decide_true, decide_false, not_true_eq_false, not_false_eq_true, eq_self, Bool.true_eq_false, Bool.false_eq_true, R6_66, Bool.true_eq_false, B200_101, ite_self]
        rfl
theorem M_arr (hm : m ≤ 10) : ∀ n, n ≤ 4 → ∀ p s g c v, Ok s m → p + n ≤ 4 →
    ∃ g' v', Rn X (d + n + 7) 200 0 [.ref 65, .int (Int32.ofNat n), .int (Int32.ofNat p), U_, U_, U_] [] (Mh D (R6 (R7 I c v) g s) P N) = some ([.int (bI (arrF n s))], Mh D (R6 (R7 I (bif arrF n s then setR c p (fstR n s) else c) v') g' s) P N)
  | 0, _, p, s, g, c, v, ok, hp => by
    have e := M_over (X := X) (d := d + 4) (D := D) (I := R6 (R7 I c v) g s) (P := P) (N := N) (m := m) ok.1
    rw [R6_66] at e
    have e' : Rn X (d + 0 + 6) 174 0 [.ref 65] [] (Mh D (R6 (R7 I c v) g s) P N) = _ := e
    rw [B200_0]
    simp only [Option.bind_some, List.append_nil, List.nil_append, List.cons_append, cond_true, cond_false, if_true, if_false, ite_true, ite_false, reduceIte, IC, bI_0, bI_1, bF, Bool.not_eq_false, Bool.not_eq_true, Bool.and_true, Bool.true_and, Bool.and_false, Bool.false_and, Bool.true_or, Bool.or_true, Bool.or_false, Bool.false_or, Bool.not_true, Bool.not_false, decide_true, decide_false, not_true_eq_false, not_false_eq_true, eq_self, Bool.true_eq_false, Bool.false_eq_true, e', B200_4]
    unfold arrF
    cases ho : ovV s with
    | true =>
      refine ⟨g, Int32.ofNat p, ?_⟩
      simp only [Option.bind_some, List.append_nil, List.nil_append, List.cons_append, cond_true, cond_false, if_true, if_false, ite_true, ite_false, reduceIte, IC, bI_0, bI_1, bF, Bool.not_eq_false, Bool.not_eq_true, Bool.and_true, Bool.true_and, Bool.and_false, Bool.false_and, Bool.true_or, Bool.or_true, Bool.or_false, Bool.false_or, Bool.not_true, Bool.not_false, decide_true, decide_false, not_true_eq_false, not_false_eq_true, eq_self, Bool.true_eq_false, Bool.false_eq_true, Bool.true_eq_false, w656, R7_w6]
      rfl
    | false =>
      refine ⟨g, v, ?_⟩
      simp only [Option.bind_some, List.append_nil, List.nil_append, List.cons_append, cond_true, cond_false, if_true, if_false, ite_true, ite_false, reduceIte, IC, bI_0, bI_1, bF, Bool.not_eq_false, Bool.not_eq_true, Bool.and_true, Bool.true_and, Bool.and_false, Bool.false_and, Bool.true_or, Bool.or_true, Bool.or_false, Bool.false_or, Bool.not_true, Bool.not_false, decide_true, decide_false, not_true_eq_false, not_false_eq_true, eq_self, Bool.true_eq_false, Bool.false_eq_true, B200_19, RDm, R6_66]
      have h1 : Int32.ofNat 0 ≤ 0 := by decide
      simp only [h1, Option.bind_some, List.append_nil, List.nil_append, List.cons_append, cond_true, cond_false, if_true, if_false, ite_true, ite_false, reduceIte, IC, bI_0, bI_1, bF, Bool.not_eq_false, Bool.not_eq_true, Bool.and_true, Bool.true_and, Bool.and_false, Bool.false_and, Bool.true_or, Bool.or_true, Bool.or_false, Bool.false_or, Bool.not_true, Bool.not_false, decide_true, decide_false, not_true_eq_false, not_false_eq_true, eq_self, Bool.true_eq_false, Bool.false_eq_true, ite_self, B200_101]
      rfl
  | n + 1, hn, p, s, g, c, v, ok, hp => by
    have e := M_over (X := X) (d := d + n + 5) (D := D) (I := R6 (R7 I c v) g s) (P := P) (N := N) (m := m) ok.1
    rw [R6_66] at e
    have e' : Rn X (d + (n + 1) + 6) 174 0 [.ref 65] [] (Mh D (R6 (R7 I c v) g s) P N) = _ := e
    rw [B200_0]
    simp only [Option.bind_some, List.append_nil, List.nil_append, List.cons_append, cond_true, cond_false, if_true, if_false, ite_true, ite_false, reduceIte, IC, bI_0, bI_1, bF, Bool.not_eq_false, Bool.not_eq_true, Bool.and_true, Bool.true_and, Bool.and_false, Bool.false_and, Bool.true_or, Bool.or_true, Bool.or_false, Bool.false_or, Bool.not_true, Bool.not_false, decide_true, decide_false, not_true_eq_false, not_false_eq_true, eq_self, Bool.true_eq_false, Bool.false_eq_true, e', B200_4]
    unfold arrF fstR
    cases ho : ovV s with
    | true =>
      refine ⟨g, Int32.ofNat p, ?_⟩
      simp only [Option.bind_some, List.append_nil, List.nil_append, List.cons_append, cond_true, cond_false, if_true, if_false, ite_true, ite_false, reduceIte, IC, bI_0, bI_1, bF, Bool.not_eq_false, Bool.not_eq_true, Bool.and_true, Bool.true_and, Bool.and_false, Bool.false_and, Bool.true_or, Bool.or_true, Bool.or_false, Bool.false_or, Bool.not_true, Bool.not_false, decide_true, decide_false, not_true_eq_false, not_false_eq_true, eq_self, Bool.true_eq_false, Bool.false_eq_true, Bool.true_eq_false, w656, R7_w6]
      rfl
    | false =>
      simp only [Option.bind_some, List.append_nil, List.nil_append, List.cons_append, cond_true, cond_false, if_true, if_false, ite_true, ite_false, reduceIte, IC, bI_0, bI_1, bF, Bool.not_eq_false, Bool.not_eq_true, Bool.and_true, Bool.true_and, Bool.and_false, Bool.false_and, Bool.true_or, Bool.or_true, Bool.or_false, Bool.false_or, Bool.not_true, Bool.not_false, decide_true, decide_false, not_true_eq_false, not_false_eq_true, eq_self, Bool.true_eq_false, Bool.false_eq_true]
      obtain ⟨g', v', e3⟩ := M_arr1 (c := c) hm n hn (fun p s g c v ok hp => M_arr hm n (by omega) p s g c v ok hp) ok hp (ctA s) 0 g v U_ (by omega)
      refine ⟨g', v', e3.trans ?_⟩
      cases findF (fun a => canV s a && arrF n (telS s a)) 0 (ctA s) <;> rfl
end RefD
