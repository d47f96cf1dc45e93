/-! the reference: more to play, reports -/
section RefI
variable {X : mX} {d : Nat} {D : Nat → Nat × Nat} {I : Nat → Nat → Int32} {P : Nat → Nat → Option Nat} {N : Nat} {h : mH} {s g c S r : Nat → Int32} {J : Nat → Nat → Int32} {m : Int} {i j k n p q : Nat} {x v w a b e f : Int32}
theorem ok_mor (ok : Ok s 9) (hi : i < ctA s) : Ok (morS s i) 10 := by
  have h1 := bt_iff.mp (ok.1.2.1 i hi).2.2.2.1
  have e1 : (1 : Int32).toInt = 1 := rfl
  refine ok_lt ⟨⟨ok.1.1, fun j hj => ?_, ok.1.2.2⟩, ok.2⟩ hi ?_
  · obtain ⟨b1, b2, b3, b4, b5⟩ := ok.1.2.1 j hj
    rw [bt_iff] at b4
    exact ⟨b1, b2, b3, bt_iff.mpr (by omega), b5⟩
  · rw [bt_iff, t_add (by omega) (by omega)]; omega
theorem Ok.wk (ok : Ok s 9) : Ok s 10 := ⟨⟨ok.1.1, fun j hj => by
    obtain ⟨b1, b2, b3, b4, b5⟩ := ok.1.2.1 j hj
    rw [bt_iff] at b4
    exact ⟨b1, b2, b3, bt_iff.mpr (by omega), b5⟩, ok.1.2.2⟩, ok.2⟩
theorem mor_bk : upd (morS s i) (7 + 5 * i + 3) (morS s i (7 + 5 * i + 3) - 1) = s := by
  have e : morS s i (7 + 5 * i + 3) = s (7 + 5 * i + 3) + 1 := upd_s
  rw [e, Int32.add_sub_cancel]; exact upd_bk
theorem F_mor1 (ok : Ok s 9) : ∀ k i acc g l4, i + k = ctA s → ∃ g', Rn X (d + 12) 214 11 [.ref 65, .int acc.1, .int acc.2, .int (Int32.ofNat i), l4] [] (Mh D (R6 I g s) P N)
      = some ([.int (foldA (fun a (acc : Int32 × Int32) => if kinF 4 (morS s a) ≤ acc.1 then acc else (kinF 4 (morS s a), Int32.ofNat a)) i k acc).2], Mh D (R6 I g' s) P N)
  | 0, i, acc, g, l4, hk => by
    have h0 := ok.1.n0
    refine ⟨g, ?_⟩
    rw [B214_11]
    simp (disch := omega) only [RDm, Option.bind_some, List.append_nil, List.nil_append, List.cons_append, cond_true, cond_false, if_true, if_false, ite_true, ite_false, reduceIte, IC, bI_0, bI_1, bF, Bool.not_eq_false, Bool.not_eq_true, Bool.and_true, Bool.true_and, Bool.and_false, Bool.false_and, Bool.true_or, Bool.or_true, Bool.or_false, Bool.false_or, Bool.not_true, Bool.not_false, decide_true, decide_false, not_true_eq_false, not_false_eq_true, eq_self, Bool.true_eq_false, Bool.false_eq_true, R6_66, h0.1, iN_le]
    rw [if_pos (by omega)]
    rfl
  | k + 1, i, acc, g, l4, hk => by
    have h0 := ok.1.n0
    have h9 : i < 9 := by omega
    rw [B214_11]
    simp (disch := omega) only [RDm, Option.bind_some, List.append_nil, List.nil_append, List.cons_append, cond_true, cond_false, if_true, if_false, ite_true, ite_false, reduceIte, IC, bI_0, bI_1, bF, Bool.not_eq_false, Bool.not_eq_true, Bool.and_true, Bool.true_and, Bool.and_false, Bool.false_and, Bool.true_or, Bool.or_true, Bool.or_false, Bool.false_or, Bool.not_true, Bool.not_false, decide_true, decide_false, not_true_eq_false, not_false_eq_true, eq_self, Bool.true_eq_false, Bool.false_eq_true, R6_66, h0.1, iN_le]
    rw [if_neg (by omega)]
    obtain ⟨g1, e1⟩ := M_kin (X := X) (d := d) (D := D) (I := I) (P := P) (N := N) (m := 10) (by decide) 4 (by decide) (morS s i) g (ok_mor ok (by omega))
    have e1' : Rn X (d + 11) 209 0 [.ref 65, .int 4, U_, U_, U_, U_] [] (Mh D (R6 I g (upd s (7 + 5 * i + 3) (s (7 + 5 * i + 3) + 1))) P N) = _ := e1
    have eb := mor_bk (s := s) (i := i)
    simp (disch := omega) only [Option.bind_some, List.append_nil, List.nil_append, List.cons_append, cond_true, cond_false, if_true, if_false, ite_true, ite_false, reduceIte, IC, bI_0, bI_1, bF, Bool.not_eq_false, Bool.not_eq_true, Bool.and_true, Bool.true_and, Bool.and_false, Bool.false_and, Bool.true_or, Bool.or_true, Bool.or_false, Bool.false_or, Bool.not_true, Bool.not_false, decide_true, decide_false, not_true_eq_false, not_false_eq_true, eq_self, Bool.true_eq_false, Bool.false_eq_true, R6_66, B214_30, RDm, B170_0, IX, rS, wS, R6_w, e1', B214_40, B214_51, eb]
    unfold foldA
    by_cases hle : kinF 4 (morS s i) ≤ acc.1
    · simp only [hle, Option.bind_some, List.append_nil, List.nil_append, List.cons_append, cond_true, cond_false, if_true, if_false, ite_true, ite_false, reduceIte, IC, bI_0, bI_1, bF, Bool.not_eq_false, Bool.not_eq_true, Bool.and_true, Bool.true_and, Bool.and_false, Bool.false_and, Bool.true_or, Bool.or_true, Bool.or_false, Bool.false_or, Bool.not_true, Bool.not_false, decide_true, decide_false, not_true_eq_false, not_false_eq_true, eq_self, Bool.true_eq_false, Bool.false_eq_true, B214_67, B214_80, IX]
      exact F_mor1 ok k (i + 1) acc g1 _ (by omega)
    · simp only [hle, Option.bind_some, List.append_nil, List.nil_append, List.cons_append, cond_true, cond_false, if_true, if_false, ite_true, ite_false, reduceIte, IC, bI_0, bI_1, bF, Bool.not_eq_false, Bool.not_eq_true, Bool.and_true, Bool.true_and, Bool.and_false, Bool.false_and, Bool.true_or, Bool.or_true, Bool.or_false, Bool.false_or, Bool.not_true, Bool.not_false, decide_true, decide_false, not_true_eq_false, not_false_eq_true, eq_self, Bool.true_eq_false, Bool.false_eq_true, B214_67, B214_80, IX]
      exact F_mor1 ok k (i + 1) (kinF 4 (morS s i), Int32.ofNat i) g1 _ (by omega)
theorem F_mor (ok : Ok (I 66) 9) : Rf X I 214 [.ref 65, U_, U_, U_, U_] (pMor (I 66), I 66) := by
  intro d D P N
  obtain ⟨g1, e1⟩ := M_kin (X := X) (d := d + 28) (D := D) (I := I) (P := P) (N := N) (m := 10) (by decide) 4 (by decide) (I 66) (I 69) ok.wk
  rw [R6_id] at e1
  have e1' : Rn X (d + 39) 209 0 [.ref 65, .int 4, U_, U_, U_, U_] [] (Mh D I P N) = _ := e1
  obtain ⟨g2, e2⟩ := F_mor1 (X := X) (d := d + 28) (D := D) (I := I) (P := P) (N := N) ok (ctA (I 66)) 0 (kinF 4 (I 66), -3) g1 U_ (by omega)
  simp only [B214_0, Option.bind_some, List.append_nil, List.nil_append, List.cons_append, cond_true, cond_false, if_true, if_false, ite_true, ite_false, reduceIte, IC, bI_0, bI_1, bF, Bool.not_eq_false, Bool.not_eq_true, Bool.and_true, Bool.true_and, Bool.and_false, Bool.false_and, Bool.true_or, Bool.or_true, Bool.or_false, Bool.false_or, Bool.not_true, Bool.not_false, decide_true, decide_false, not_true_eq_false, not_false_eq_true, eq_self, Bool.true_eq_false, Bool.false_eq_true, e1', B214_5]
  exact fin6 (g := g2) e2
theorem ok_bel {v : Int32} (ok : Ok s 10) (hv : bt v 0 100 = true) : Ok (upd s 5 v) 10 := by
  have h9 := ok.1.n0.2
  have h8 := ok.1.n2.2
  obtain ⟨⟨⟨g0, g1, g2, g3, g4, g5⟩, ga, gl⟩, gr⟩ := ok
  have ec : ctA (upd s 5 v) = ctA s := by unfold ctA; rw [upd_o (by omega)]
  have el : ctL (upd s 5 v) = ctL s := by unfold ctL; rw [upd_o (by omega)]
  refine ⟨⟨⟨?_, ?_, ?_, ?_, ?_, ?_⟩, fun j hj => ?_, fun k hk => ?_⟩, RuOK_of (upd_o (by omega)) (fun j hj => upd_o (by omega)) gr⟩
  · rw [upd_o (by omega)]; exact g0
  · rw [upd_o (by omega)]; exact g1
  · rw [upd_o (by omega)]; exact g2
  · rw [upd_o (by omega)]; exact g3
  · rw [upd_o (by omega)]; exact g4
  · rw [upd_s]; exact hv
  · rw [ec] at hj
    rw [upd_o (by omega), upd_o (by omega), upd_o (by omega), upd_o (by omega), upd_o (by omega)]; exact ga j hj
  · rw [el] at hk
    rw [upd_o (by omega), upd_o (by omega)]; exact gl k hk
theorem upd_upd {v w : Int32} : upd (upd s k v) k w = upd s k w := by funext j; unfold upd; split <;> rfl
theorem F_bfo1 (ok : Ok s 10) (hn : n ≤ 4) : ∀ k i b g c v, i + k = 101 → ∃ g' c' v', Rn X (d + n + 8) 215 27 [.ref 65, .int (Int32.ofNat n), .int (s 5), .int (-3), .int (Int32.ofNat i)] [] (Mh D (R6 (R7 I c v) g (upd s 5 b)) P N)
      = some ([.int (oV (findF (fun v => arrF n (upd s 5 (Int32.ofNat v))) i k))], Mh D (R6 (R7 I c' v') g' s) P N)
  | 0, i, b, g, c, v, hk => by
    refine ⟨g, c, v, ?_⟩
    rw [B215_27, if_pos (le_y (l := 101) (n := 101) rfl (by omega) (by omega) (by omega))]
    simp only [B215_69, RDm, WRm, Option.bind_some, List.append_nil, List.nil_append, List.cons_append, cond_true, cond_false, if_true, if_false, ite_true, ite_false, reduceIte, IC, bI_0, bI_1, bF, Bool.not_eq_false, Bool.not_eq_true, Bool.and_true, Bool.true_and, Bool.and_false, Bool.false_and, Bool.true_or, Bool.or_true, Bool.or_false, Bool.false_or, Bool.not_true, Bool.not_false, decide_true, decide_false, not_true_eq_false, not_false_eq_true, eq_self, Bool.true_eq_false, Bool.false_eq_true, R6_w, upd_upd, upd_id]
    rfl
  | k + 1, i, b, g, c, v, hk => by
    obtain ⟨g1, v1, e1⟩ := M_arr (X := X) (d := d) (D := D) (I := I) (P := P) (N := N) (m := 10) (by decide) n hn 0 (upd s 5 (Int32.ofNat i)) g c v (ok_bel ok (by rw [bt_iff, iN_ti (by omega)]; omega)) (by omega)
    have e1' : Rn X (d + n + 7) 200 0 [.ref 65, .int (Int32.ofNat n), .int 0, U_, U_, U_] [] (Mh D (R6 (R7 I c v) g (upd s 5 (Int32.ofNat i))) P N) = _ := e1
    rw [B215_27, if_neg (le_n (l := 101) (n := 101) rfl (by omega) (by omega) (by omega)), if_neg (by decide)]
    simp only [RDm, WRm, Option.bind_some, List.append_nil, List.nil_append, List.cons_append, cond_true, cond_false, if_true, if_false, ite_true, ite_false, reduceIte, IC, bI_0, bI_1, bF, Bool.not_eq_false, Bool.not_eq_true, Bool.and_true, Bool.true_and, Bool.and_false, Bool.false_and, Bool.true_or, Bool.or_true, Bool.or_false, Bool.false_or, Bool.not_true, Bool.not_false, decide_true, decide_false, not_true_eq_false, not_false_eq_true, eq_self, Bool.true_eq_false, Bool.false_eq_true, R6_w, upd_upd, e1', B215_52]
    unfold findF
    cases ha : arrF n (upd s 5 (Int32.ofNat i)) with
    | false =>
      simp only [Option.bind_some, List.append_nil, List.nil_append, List.cons_append, cond_true, cond_false, if_true, if_false, ite_true, ite_false, reduceIte, IC, bI_0, bI_1, bF, Bool.not_eq_false, Bool.not_eq_true, Bool.and_true, Bool.true_and, Bool.and_false, Bool.false_and, Bool.true_or, Bool.or_true, Bool.or_false, Bool.false_or, Bool.not_true, Bool.not_false, decide_true, decide_false, not_true_eq_false, not_false_eq_true, eq_self, Bool.true_eq_false, Bool.false_eq_true, B215_62, IX]
      exact F_bfo1 ok hn k (i + 1) _ g1 _ v1 (by omega)
    | true =>
      simp only [Option.bind_some, List.append_nil, List.nil_append, List.cons_append, cond_true, cond_false, if_true, if_false, ite_true, ite_false, reduceIte, IC, bI_0, bI_1, bF, Bool.not_eq_false, Bool.not_eq_true, Bool.and_true, Bool.true_and, Bool.and_false, Bool.false_and, Bool.true_or, Bool.or_true, Bool.or_false, Bool.false_or, Bool.not_true, Bool.not_false, decide_true, decide_false, not_true_eq_false, not_false_eq_true, eq_self, Bool.true_eq_false, Bool.false_eq_true, B215_62, IX]
      refine ⟨g1, setR c 0 (fstR n (upd s 5 (Int32.ofNat i))), v1, ?_⟩
      · rw [B215_27]
        simp (disch := omega) only [iN_0le, Option.bind_some, List.append_nil, List.nil_append, List.cons_append, cond_true, cond_false, if_true, if_false, ite_true, ite_false, reduceIte, IC, bI_0, bI_1, bF, Bool.not_eq_false, Bool.not_eq_true, Bool.and_true, Bool.true_and, Bool.and_false, Bool.false_and, Bool.true_or, Bool.or_true, Bool.or_false, Bool.false_or, Bool.not_true, Bool.not_false, decide_true, decide_false, not_true_eq_false, not_false_eq_true, eq_self, Bool.true_eq_false, Bool.false_eq_true, ite_self, B215_69, RDm, WRm, R6_w, upd_upd, upd_id]
        rfl
theorem F_bfo (ok : Ok (I 66) 10) : Rf X I 215 [.ref 65, .int x, U_, U_, U_] (pBfo (I 66) x, I 66) := by
  intro d D P N
  simp only [B215_0, Option.bind_some, List.append_nil, List.nil_append, List.cons_append, cond_true, cond_false, if_true, if_false, ite_true, ite_false, reduceIte, IC, bI_0, bI_1, bF, Bool.not_eq_false, Bool.not_eq_true, Bool.and_true, Bool.true_and, Bool.and_false, Bool.false_and, Bool.true_or, Bool.or_true, Bool.or_false, Bool.false_or, Bool.not_true, Bool.not_false, decide_true, decide_false, not_true_eq_false, not_false_eq_true, eq_self, Bool.true_eq_false, Bool.false_eq_true, M_bt, L64, B215_9]
  unfold pBfo
  cases hb : bt x 1 3 with
  | false => exact ⟨I, by simp only [Option.bind_some, List.append_nil, List.nil_append, List.cons_append, cond_true, cond_false, if_true, if_false, ite_true, ite_false, reduceIte, IC, bI_0, bI_1, bF, Bool.not_eq_false, Bool.not_eq_true, Bool.and_true, Bool.true_and, Bool.and_false, Bool.false_and, Bool.true_or, Bool.or_true, Bool.or_false, Bool.false_or, Bool.not_true, Bool.not_false, decide_true, decide_false, not_true_eq_false, not_false_eq_true, eq_self, Bool.true_eq_false, Bool.false_eq_true], Sc_id⟩
  | true =>
    have hb2 := bt_iff.mp hb
    have e1 : x = Int32.ofNat x.toNatClampNeg := iN_of (by omega)
    have e2 := cl_ti (x := x) (by omega)
    obtain ⟨g1, c1, v1, e3⟩ := F_bfo1 (X := X) (d := d + 32 - x.toNatClampNeg) (D := D) (I := I) (P := P) (N := N) (n := x.toNatClampNeg) ok (by omega) 101 0 (I 66 5) (I 69) (I 70) (I 65 6) rfl
    rw [upd_id, R67_id, ← e1, show d + 32 - x.toNatClampNeg + x.toNatClampNeg + 8 = d + 40 by omega] at e3
    refine fin7 (g := g1) (c := c1) (v := v1) ?_
    simp only [Option.bind_some, List.append_nil, List.nil_append, List.cons_append, cond_true, cond_false, if_true, if_false, ite_true, ite_false, reduceIte, IC, bI_0, bI_1, bF, Bool.not_eq_false, Bool.not_eq_true, Bool.and_true, Bool.true_and, Bool.and_false, Bool.false_and, Bool.true_or, Bool.or_true, Bool.or_false, Bool.false_or, Bool.not_true, Bool.not_false, decide_true, decide_false, not_true_eq_false, not_false_eq_true, eq_self, Bool.true_eq_false, Bool.false_eq_true, RDm]
    exact e3
theorem F_gam (ok : Ok (I 66) 10) : Rf X I 219 [.ref 65, .int x] (pGam (I 66) x, I 66) := by
  intro d D P N
  simp only [B219_0, B219_9, B219_17, B219_21, Option.bind_some, List.append_nil, List.nil_append, List.cons_append, cond_true, cond_false, if_true, if_false, ite_true, ite_false, reduceIte, IC, bI_0, bI_1, bF, Bool.not_eq_false, Bool.not_eq_true, Bool.and_true, Bool.true_and, Bool.and_false, Bool.false_and, Bool.true_or, Bool.or_true, Bool.or_false, Bool.false_or, Bool.not_true, Bool.not_false, decide_true, decide_false, not_true_eq_false, not_false_eq_true, eq_self, Bool.true_eq_false, Bool.false_eq_true, M_bt, L64]
  unfold pGam
  cases hb : bt x 1 4 with
  | false => exact ⟨I, by simp only [Option.bind_some, List.append_nil, List.nil_append, List.cons_append, cond_true, cond_false, if_true, if_false, ite_true, ite_false, reduceIte, IC, bI_0, bI_1, bF, Bool.not_eq_false, Bool.not_eq_true, Bool.and_true, Bool.true_and, Bool.and_false, Bool.false_and, Bool.true_or, Bool.or_true, Bool.or_false, Bool.false_or, Bool.not_true, Bool.not_false, decide_true, decide_false, not_true_eq_false, not_false_eq_true, eq_self, Bool.true_eq_false, Bool.false_eq_true], Sc_id⟩
  | true =>
    have hb2 := bt_iff.mp hb
    have e1 : x = Int32.ofNat x.toNatClampNeg := iN_of (by omega)
    have e2 := cl_ti (x := x) (by omega)
    obtain ⟨g', e⟩ := M_val (X := X) (d := d) (D := D) (I := I) (P := P) (N := N) (m := 10) (by decide) x.toNatClampNeg (by omega) (I 66) (I 69) ok
    rw [R6_id] at e
    have e' := Rn_up e (show d + 2 * x.toNatClampNeg + 7 ≤ d + 39 by omega)
    rw [← e1] at e'
    refine fin6 (g := g') ?_
    simp only [Option.bind_some, List.append_nil, List.nil_append, List.cons_append, cond_true, cond_false, if_true, if_false, ite_true, ite_false, reduceIte, IC, bI_0, bI_1, bF, Bool.not_eq_false, Bool.not_eq_true, Bool.and_true, Bool.true_and, Bool.and_false, Bool.false_and, Bool.true_or, Bool.or_true, Bool.or_false, Bool.false_or, Bool.not_true, Bool.not_false, decide_true, decide_false, not_true_eq_false, not_false_eq_true, eq_self, Bool.true_eq_false, Bool.false_eq_true, e', B219_17, B219_21]
theorem F_ply1 (ok : Ok s 10) (n : Nat) (hn : n + 1 ≤ 4) : ∀ k i g, i + k = ctA s → ∃ g', Rn X (d + 2 * n + 9) 220 22 [.ref 65, .int (Int32.ofNat (n + 1)), .int x, .int (Int32.ofNat i)] [] (Mh D (R6 I g s) P N)
      = some ([.int (oV (findF (fun a => canV s a && decide (trnV (valF n (telS s a)) = x)) i k))], Mh D (R6 I g' s) P N)
  | 0, i, g, hk => by
    have h0 := ok.1.n0
    refine ⟨g, ?_⟩
    rw [B220_22]
    simp (disch := omega) only [RDm, Option.bind_some, List.append_nil, List.nil_append, List.cons_append, cond_true, cond_false, if_true, if_false, ite_true, ite_false, reduceIte, IC, bI_0, bI_1, bF, Bool.not_eq_false, Bool.not_eq_true, Bool.and_true, Bool.true_and, Bool.and_false, Bool.false_and, Bool.true_or, Bool.or_true, Bool.or_false, Bool.false_or, Bool.not_true, Bool.not_false, decide_true, decide_false, not_true_eq_false, not_false_eq_true, eq_self, Bool.true_eq_false, Bool.false_eq_true, R6_66, h0.1, iN_le]
    rw [if_pos (by omega)]
    rfl
  | k + 1, i, g, hk => by
    have h0 := ok.1.n0
    rw [B220_22]
    simp (disch := omega) only [RDm, Option.bind_some, List.append_nil, List.nil_append, List.cons_append, cond_true, cond_false, if_true, if_false, ite_true, ite_false, reduceIte, IC, bI_0, bI_1, bF, Bool.not_eq_false, Bool.not_eq_true, Bool.and_true, Bool.true_and, Bool.and_false, Bool.false_and, Bool.true_or, Bool.or_true, Bool.or_false, Bool.false_or, Bool.not_true, Bool.not_false, decide_true, decide_false, not_true_eq_false, not_false_eq_true, eq_self, Bool.true_eq_false, Bool.false_eq_true, R6_66, h0.1, iN_le]
    rw [if_neg (by omega)]
    have ec := M_can (X := X) (d := d + 2 * n + 5) (D := D) (I := R6 I g s) (P := P) (N := N) (m := 10) ok.1 (show i < 9 by omega)
    simp only [R6_66] at ec
    have ec' : Rn X (d + 2 * n + 8) 189 0 [.ref 65, .int (Int32.ofNat i)] [] (Mh D (R6 I g s) P N) = _ := ec
    simp only [ec', Option.bind_some, List.append_nil, List.nil_append, List.cons_append, cond_true, cond_false, if_true, if_false, ite_true, ite_false, reduceIte, IC, bI_0, bI_1, bF, Bool.not_eq_false, Bool.not_eq_true, Bool.and_true, Bool.true_and, Bool.and_false, Bool.false_and, Bool.true_or, Bool.or_true, Bool.or_false, Bool.false_or, Bool.not_true, Bool.not_false, decide_true, decide_false, not_true_eq_false, not_false_eq_true, eq_self, Bool.true_eq_false, Bool.false_eq_true, B220_37]
    unfold findF
    cases hc : canV s i with
    | false =>
      simp only [Option.bind_some, List.append_nil, List.nil_append, List.cons_append, cond_true, cond_false, if_true, if_false, ite_true, ite_false, reduceIte, IC, bI_0, bI_1, bF, Bool.not_eq_false, Bool.not_eq_true, Bool.and_true, Bool.true_and, Bool.and_false, Bool.false_and, Bool.true_or, Bool.or_true, Bool.or_false, Bool.false_or, Bool.not_true, Bool.not_false, decide_true, decide_false, not_true_eq_false, not_false_eq_true, eq_self, Bool.true_eq_false, Bool.false_eq_true, B220_52, IX]
      exact F_ply1 ok n hn k (i + 1) g (by omega)
    | true =>
      obtain ⟨g1, e1⟩ := M_ld (X := X) (d := d) (D := D) (I := I) (P := P) (N := N) (m := 10) (by decide) n (fun s g ok => M_val (by decide) n (by omega) s g ok) ok (show i < ctA s by omega) hc g
      simp only [Option.bind_some, List.append_nil, List.nil_append, List.cons_append, cond_true, cond_false, if_true, if_false, ite_true, ite_false, reduceIte, IC, bI_0, bI_1, bF, Bool.not_eq_false, Bool.not_eq_true, Bool.and_true, Bool.true_and, Bool.and_false, Bool.false_and, Bool.true_or, Bool.or_true, Bool.or_false, Bool.false_or, Bool.not_true, Bool.not_false, decide_true, decide_false, not_true_eq_false, not_false_eq_true, eq_self, Bool.true_eq_false, Bool.false_eq_true, e1, B220_46]
      by_cases hv : trnV (valF n (telS s i)) = x
      · exact ⟨g1, by simp only [hv, Option.bind_some, List.append_nil, List.nil_append, List.cons_append, cond_true, cond_false, if_true, if_false, ite_true, ite_false, reduceIte, IC, bI_0, bI_1, bF, Bool.not_eq_false, Bool.not_eq_true, Bool.and_true, Bool.true_and, Bool.and_false, Bool.false_and, Bool.true_or, Bool.or_true, Bool.or_false, Bool.false_or, Bool.not_true, Bool.not_false, decide_true, decide_false, not_true_eq_false, not_false_eq_true, eq_self, Bool.true_eq_false, Bool.false_eq_true]; rfl⟩
      · simp only [hv, Option.bind_some, List.append_nil, List.nil_append, List.cons_append, cond_true, cond_false, if_true, if_false, ite_true, ite_false, reduceIte, IC, bI_0, bI_1, bF, Bool.not_eq_false, Bool.not_eq_true, Bool.and_true, Bool.true_and, Bool.and_false, Bool.false_and, Bool.true_or, Bool.or_true, Bool.or_false, Bool.false_or, Bool.not_true, Bool.not_false, decide_true, decide_false, not_true_eq_false, not_false_eq_true, eq_self, Bool.true_eq_false, Bool.false_eq_true, B220_52, IX]
        exact F_ply1 ok n hn k (i + 1) g1 (by omega)
theorem F_ply (ok : Ok (I 66) 10) : Rf X I 220 [.ref 65, .int x, U_, U_] (pPly (I 66) x, I 66) := by
  intro d D P N
  simp only [B220_0, Option.bind_some, List.append_nil, List.nil_append, List.cons_append, cond_true, cond_false, if_true, if_false, ite_true, ite_false, reduceIte, IC, bI_0, bI_1, bF, Bool.not_eq_false, Bool.not_eq_true, Bool.and_true, Bool.true_and, Bool.and_false, Bool.false_and, Bool.true_or, Bool.or_true, Bool.or_false, Bool.false_or, Bool.not_true, Bool.not_false, decide_true, decide_false, not_true_eq_false, not_false_eq_true, eq_self, Bool.true_eq_false, Bool.false_eq_true, M_bt, L64, B220_9]
  unfold pPly
  cases hb : bt x 1 4 with
  | false => exact ⟨I, by simp only [Option.bind_some, List.append_nil, List.nil_append, List.cons_append, cond_true, cond_false, if_true, if_false, ite_true, ite_false, reduceIte, IC, bI_0, bI_1, bF, Bool.not_eq_false, Bool.not_eq_true, Bool.and_true, Bool.true_and, Bool.and_false, Bool.false_and, Bool.true_or, Bool.or_true, Bool.or_false, Bool.false_or, Bool.not_true, Bool.not_false, decide_true, decide_false, not_true_eq_false, not_false_eq_true, eq_self, Bool.true_eq_false, Bool.false_eq_true], Sc_id⟩
  | true =>
    have hb2 := bt_iff.mp hb
    have e1 : x = Int32.ofNat x.toNatClampNeg := iN_of (by omega)
    have e2 := cl_ti (x := x) (by omega)
    obtain ⟨n, hn⟩ : ∃ n, x.toNatClampNeg = n + 1 := ⟨x.toNatClampNeg - 1, by omega⟩
    obtain ⟨g1, e⟩ := M_val (X := X) (d := d) (D := D) (I := I) (P := P) (N := N) (m := 10) (by decide) x.toNatClampNeg (by omega) (I 66) (I 69) ok
    rw [R6_id] at e
    have e' := Rn_up e (show d + 2 * x.toNatClampNeg + 7 ≤ d + 39 by omega)
    rw [← e1] at e'
    obtain ⟨g2, e3⟩ := F_ply1 (X := X) (d := d + 31 - 2 * n) (D := D) (I := I) (P := P) (N := N) (x := valF x.toNatClampNeg (I 66)) ok n (by omega) (ctA (I 66)) 0 g1 (by omega)
    rw [← hn, ← e1, show d + 31 - 2 * n + 2 * n + 9 = d + 40 by omega] at e3
    refine fin6 (g := g2) ?_
    simp only [Option.bind_some, List.append_nil, List.nil_append, List.cons_append, cond_true, cond_false, if_true, if_false, ite_true, ite_false, reduceIte, IC, bI_0, bI_1, bF, Bool.not_eq_false, Bool.not_eq_true, Bool.and_true, Bool.true_and, Bool.and_false, Bool.false_and, Bool.true_or, Bool.or_true, Bool.or_false, Bool.false_or, Bool.not_true, Bool.not_false, decide_true, decide_false, not_true_eq_false, not_false_eq_true, eq_self, Bool.true_eq_false, Bool.false_eq_true, e', B220_19]
    rw [show x.toNatClampNeg - 1 = n by omega]
    exact e3
theorem F_rep (g : Gd (I 66) m) : Rf X I 221 [.ref 65, .int a, .int b, .int e, U_] (pRep (I 66) a b e) := by
  intro d D P N
  have h3 := g.n3
  simp only [B221_0, B221_9, B221_22, B221_35, Option.bind_some, List.append_nil, List.nil_append, List.cons_append, cond_true, cond_false, if_true, if_false, ite_true, ite_false, reduceIte, IC, bI_0, bI_1, bF, Bool.not_eq_false, Bool.not_eq_true, Bool.and_true, Bool.true_and, Bool.and_false, Bool.false_and, Bool.true_or, Bool.or_true, Bool.or_false, Bool.false_or, Bool.not_true, Bool.not_false, decide_true, decide_false, not_true_eq_false, not_false_eq_true, eq_self, Bool.true_eq_false, Bool.false_eq_true, M_bt, L64, Int32.toInt_toInt64]
  unfold pRep
  cases ha : bt a 0 999 with
  | false => exact ⟨I, by simp only [Option.bind_some, List.append_nil, List.nil_append, List.cons_append, cond_true, cond_false, if_true, if_false, ite_true, ite_false, reduceIte, IC, bI_0, bI_1, bF, Bool.not_eq_false, Bool.not_eq_true, Bool.and_true, Bool.true_and, Bool.and_false, Bool.false_and, Bool.true_or, Bool.or_true, Bool.or_false, Bool.false_or, Bool.not_true, Bool.not_false, decide_true, decide_false, not_true_eq_false, not_false_eq_true, eq_self, Bool.true_eq_false, Bool.false_eq_true], by simp only [Option.bind_some, List.append_nil, List.nil_append, List.cons_append, cond_true, cond_false, if_true, if_false, ite_true, ite_false, reduceIte, IC, bI_0, bI_1, bF, Bool.not_eq_false, Bool.not_eq_true, Bool.and_true, Bool.true_and, Bool.and_false, Bool.false_and, Bool.true_or, Bool.or_true, Bool.or_false, Bool.false_or, Bool.not_true, Bool.not_false, decide_true, decide_false, not_true_eq_false, not_false_eq_true, eq_self, Bool.true_eq_false, Bool.false_eq_true]; exact Sc_id⟩
  | true =>
    cases hb : bt b a.toInt 999 with
    | false => exact ⟨I, by simp only [Option.bind_some, List.append_nil, List.nil_append, List.cons_append, cond_true, cond_false, if_true, if_false, ite_true, ite_false, reduceIte, IC, bI_0, bI_1, bF, Bool.not_eq_false, Bool.not_eq_true, Bool.and_true, Bool.true_and, Bool.and_false, Bool.false_and, Bool.true_or, Bool.or_true, Bool.or_false, Bool.false_or, Bool.not_true, Bool.not_false, decide_true, decide_false, not_true_eq_false, not_false_eq_true, eq_self, Bool.true_eq_false, Bool.false_eq_true], by simp only [Option.bind_some, List.append_nil, List.nil_append, List.cons_append, cond_true, cond_false, if_true, if_false, ite_true, ite_false, reduceIte, IC, bI_0, bI_1, bF, Bool.not_eq_false, Bool.not_eq_true, Bool.and_true, Bool.true_and, Bool.and_false, Bool.false_and, Bool.true_or, Bool.or_true, Bool.or_false, Bool.false_or, Bool.not_true, Bool.not_false, decide_true, decide_false, not_true_eq_false, not_false_eq_true, eq_self, Bool.true_eq_false, Bool.false_eq_true]; exact Sc_id⟩
    | true =>
      cases he : bt e 0 1 with
      | false => exact ⟨I, by simp only [Option.bind_some, List.append_nil, List.nil_append, List.cons_append, cond_true, cond_false, if_true, if_false, ite_true, ite_false, reduceIte, IC, bI_0, bI_1, bF, Bool.not_eq_false, Bool.not_eq_true, Bool.and_true, Bool.true_and, Bool.and_false, Bool.false_and, Bool.true_or, Bool.or_true, Bool.or_false, Bool.false_or, Bool.not_true, Bool.not_false, decide_true, decide_false, not_true_eq_false, not_false_eq_true, eq_self, Bool.true_eq_false, Bool.false_eq_true, B221_32, B221_35], by simp only [Option.bind_some, List.append_nil, List.nil_append, List.cons_append, cond_true, cond_false, if_true, if_false, ite_true, ite_false, reduceIte, IC, bI_0, bI_1, bF, Bool.not_eq_false, Bool.not_eq_true, Bool.and_true, Bool.true_and, Bool.and_false, Bool.false_and, Bool.true_or, Bool.or_true, Bool.or_false, Bool.false_or, Bool.not_true, Bool.not_false, decide_true, decide_false, not_true_eq_false, not_false_eq_true, eq_self, Bool.true_eq_false, Bool.false_eq_true]; exact Sc_id⟩
      | true =>
        by_cases h6 : I 66 3 = 6
        · exact ⟨I, by simp only [Option.bind_some, List.append_nil, List.nil_append, List.cons_append, cond_true, cond_false, if_true, if_false, ite_true, ite_false, reduceIte, IC, bI_0, bI_1, bF, Bool.not_eq_false, Bool.not_eq_true, Bool.and_true, Bool.true_and, Bool.and_false, Bool.false_and, Bool.true_or, Bool.or_true, Bool.or_false, Bool.false_or, Bool.not_true, Bool.not_false, decide_true, decide_false, not_true_eq_false, not_false_eq_true, eq_self, Bool.true_eq_false, Bool.false_eq_true, RDm, h6, B221_32], by simp only [Option.bind_some, List.append_nil, List.nil_append, List.cons_append, cond_true, cond_false, if_true, if_false, ite_true, ite_false, reduceIte, IC, bI_0, bI_1, bF, Bool.not_eq_false, Bool.not_eq_true, Bool.and_true, Bool.true_and, Bool.and_false, Bool.false_and, Bool.true_or, Bool.or_true, Bool.or_false, Bool.false_or, Bool.not_true, Bool.not_false, decide_true, decide_false, not_true_eq_false, not_false_eq_true, eq_self, Bool.true_eq_false, Bool.false_eq_true, h6]; exact Sc_id⟩
        · have hl : ctE (I 66) < 6 := by
            have e : ¬ ctE (I 66) = 6 := fun q => h6 (by rw [h3.1, q]; rfl)
            omega
          rw [h3.1] at h6
          simp (disch := omega) only [Option.bind_some, List.append_nil, List.nil_append, List.cons_append, cond_true, cond_false, if_true, if_false, ite_true, ite_false, reduceIte, IC, bI_0, bI_1, bF, Bool.not_eq_false, Bool.not_eq_true, Bool.and_true, Bool.true_and, Bool.and_false, Bool.false_and, Bool.true_or, Bool.or_true, Bool.or_false, Bool.false_or, Bool.not_true, Bool.not_false, decide_true, decide_false, not_true_eq_false, not_false_eq_true, eq_self, Bool.true_eq_false, Bool.false_eq_true, RDm, h3.1, h6, IX, wS, upd_o, upd_s, u2_r, u2r_s, u2r_r, WRm, B221_32, iN_p1]
          exact ⟨_, rfl, Sc_rf⟩
theorem F_for : Rf X I 222 [.ref 65, U_] (I 66 3, upd (I 66) 3 0) := by
  intro d D P N
  simp only [B222_0, RDm, WRm, Option.bind_some, List.append_nil, List.nil_append, List.cons_append, cond_true, cond_false, if_true, if_false, ite_true, ite_false, reduceIte, IC, bI_0, bI_1, bF, Bool.not_eq_false, Bool.not_eq_true, Bool.and_true, Bool.true_and, Bool.and_false, Bool.false_and, Bool.true_or, Bool.or_true, Bool.or_false, Bool.false_or, Bool.not_true, Bool.not_false, decide_true, decide_false, not_true_eq_false, not_false_eq_true, eq_self, Bool.true_eq_false, Bool.false_eq_true, u2_r]
  exact ⟨_, rfl, Sc_rf⟩
theorem F_sed : Rf X I 226 [.ref 65, .int x, U_] (I 66 6, upd (I 66) 6 x) := by
  intro d D P N
  simp only [B226_0, RDm, WRm, Option.bind_some, List.append_nil, List.nil_append, List.cons_append, cond_true, cond_false, if_true, if_false, ite_true, ite_false, reduceIte, IC, bI_0, bI_1, bF, Bool.not_eq_false, Bool.not_eq_true, Bool.and_true, Bool.true_and, Bool.and_false, Bool.false_and, Bool.true_or, Bool.or_true, Bool.or_false, Bool.false_or, Bool.not_true, Bool.not_false, decide_true, decide_false, not_true_eq_false, not_false_eq_true, eq_self, Bool.true_eq_false, Bool.false_eq_true, u2_r]
  exact ⟨_, rfl, Sc_rf⟩
end RefI
