/-! the reference: calls on the ride -/
section Up
variable {X : mX}
theorem runF_up : ∀ (n : Nat) {d d' y pc : Nat} {L st : List Value} {h : mH} {r : mR}, d ≤ d' → runF X n d y pc L st h = some r → runF X n d' y pc L st h = some r
  | 0, _, _, _, _, _, _, _, _, _, h => by cases h
  | n + 1, d, d', y, pc, L, st, h, r, hd, hr => by
    show mbody (runF X n) X d' y pc L st h = some r
    have hr' : mbody (runF X n) X d y pc L st h = some r := hr
    unfold mbody at hr' ⊢
    cases hn : nxt X y pc L st h with
    | none => rw [hn] at hr'; cases hr'
    | some q =>
      rw [hn] at hr'
      obtain q | q | q := q
      · exact hr'
      · exact runF_up n hd hr'
      · cases d with
        | zero => cases hr'
        | succ d =>
          cases d' with
          | zero => omega
          | succ d' =>
            obtain ⟨z, h1, h2⟩ := Option.bind_eq_some_iff.mp hr'
            exact Option.bind_eq_some_iff.mpr ⟨z, runF_up n (by omega) h1, runF_up n hd h2⟩
theorem Rn_up {d d' y pc : Nat} {L st : List Value} {h : mH} {r : mR} (hr : Rn X d y pc L st h = some r) (hd : d ≤ d') : Rn X d' y pc L st h = some r := by
  obtain ⟨n, hn⟩ := Rn_iff.mp hr
  exact Rn_iff.mpr ⟨n, runF_up n hd hn⟩
end Up
/-- nothing but scratch of the reference is unlike -/
def Sc (J I' : Nat → Nat → Int32) : Prop := (∀ a, a < 65 ∨ 79 < a → I' a = J a) ∧ (I' 66 = J 66 ∧ I' 67 = J 67 ∧ I' 71 = J 71 ∧ I' 72 = J 72 ∧ I' 73 = J 73 ∧ I' 74 = J 74 ∧ I' 75 = J 75 ∧ I' 76 = J 76 ∧ I' 77 = J 77 ∧ I' 78 = J 78 ∧ I' 79 = J 79) ∧ I' 65 3 = J 65 3 ∧ I' 65 11 = J 65 11 ∧ I' 65 13 = J 65 13 ∧ I' 65 27 = J 65 27
section RefF
variable {X : mX} {d : Nat} {D : Nat → Nat × Nat} {I : Nat → Nat → Int32} {P : Nat → Nat → Option Nat} {N : Nat} {h : mH} {s g c S : Nat → Int32} {m : Int} {i j k n p : Nat} {x v w a b e f : Int32}
theorem Sc_R : Sc (u2r I 66 S) (R6 (R7 I c v) g S) := by
  refine ⟨fun a ha => ?_, ⟨rfl, rfl, rfl, rfl, rfl, rfl, rfl, rfl, rfl, rfl, rfl⟩, rfl, rfl, rfl, rfl⟩
  rw [R6_o (by omega) (by omega), u2r_o (by omega)]
  unfold R7
  rw [u2_o (by omega), u2r_o (by omega)]
theorem Sc_6 : Sc (u2r I 66 S) (R6 I g S) := by
  refine ⟨fun a ha => ?_, ⟨rfl, rfl, rfl, rfl, rfl, rfl, rfl, rfl, rfl, rfl, rfl⟩, rfl, rfl, rfl, rfl⟩
  rw [R6_o (by omega) (by omega), u2r_o (by omega)]
theorem Sc_rf : Sc I I := ⟨fun _ _ => rfl, ⟨rfl, rfl, rfl, rfl, rfl, rfl, rfl, rfl, rfl, rfl, rfl⟩, rfl, rfl, rfl, rfl⟩
/-- a call of the reference that changes nothing but the row -/
def Rf (X : mX) (I : Nat → Nat → Int32) (y : Nat) (L : List Value) (q : Int32 × (Nat → Int32)) : Prop :=
  ∀ d D P N, ∃ I', Rn X (d + 40) y 0 L [] (Mh D I P N) = some ([.int q.1], Mh D I' P N) ∧ Sc (u2r I 66 q.2) I'
theorem Rf_id (h : ∀ d D P N, Rn X (d + 40) k 0 [] [] (Mh D I P N) = some ([.int x], Mh D I P N)) : Rf X I k [] (x, I 66) := fun d D P N => ⟨I, h d D P N, by show Sc (u2r I 66 (I 66)) I; rw [u2r_id]; exact Sc_rf⟩
theorem Sc_id : Sc (u2r I 66 (I 66)) I := by rw [u2r_id]; exact Sc_rf
theorem Sc_w {J : Nat → Nat → Int32} (h : u2r I 66 S = J) : Sc (u2r I 66 S) J := by rw [h]; exact Sc_rf
theorem M_road : Rn X (d + 1) 177 0 [.int a, .int b] [] h = some ([.int (bI (bt a 1 99 && bt b 0 2))], h) := by
  simp only [B177_0, B177_9, B177_21, B177_28, B177_29, Option.bind_some, List.append_nil, List.nil_append, List.cons_append, cond_true, cond_false, if_true, if_false, ite_true, ite_false, reduceIte, IC, bI_0, bI_1, bF, Bool.not_eq_false, Bool.not_eq_true, Bool.and_true, Bool.true_and, Bool.and_false, Bool.false_and, Bool.true_or, Bool.or_true, Bool.or_false, Bool.false_or, Bool.not_true, Bool.not_false, decide_true, decide_false, not_true_eq_false, not_false_eq_true, eq_self, M_bt, L64]
  cases bt a 1 99 <;> cases bt b 0 2 <;> rfl
theorem M_kind : Rn X (d + 1) 181 0 [.int a] [] h = some ([.int (bI (bt a 1 5))], h) := by
  simp only [B181_0, B181_9, Option.bind_some, List.append_nil, List.nil_append, List.cons_append, cond_true, cond_false, if_true, if_false, ite_true, ite_false, reduceIte, IC, bI_0, bI_1, bF, Bool.not_eq_false, Bool.not_eq_true, Bool.and_true, Bool.true_and, Bool.and_false, Bool.false_and, Bool.true_or, Bool.or_true, Bool.or_false, Bool.false_or, Bool.not_true, Bool.not_false, decide_true, decide_false, not_true_eq_false, not_false_eq_true, eq_self, M_bt, L64]
theorem M_prt : Rn X (d + 1) 182 0 [.int w, .int v] [] h = some ([.int (bI (pPrt w v))], h) := by
  simp only [B182_0, B182_14, B182_17, B182_31, B182_34, B182_48, B182_51, B182_55, B182_56, Option.bind_some, List.append_nil, List.nil_append, List.cons_append, cond_true, cond_false, if_true, if_false, ite_true, ite_false, reduceIte, IC, bI_0, bI_1, bF, Bool.not_eq_false, Bool.not_eq_true, Bool.and_true, Bool.true_and, Bool.and_false, Bool.false_and, Bool.true_or, Bool.or_true, Bool.or_false, Bool.false_or, Bool.not_true, Bool.not_false, decide_true, decide_false, not_true_eq_false, not_false_eq_true, eq_self, M_bt, L64]
  unfold pPrt
  by_cases h1 : w = 1
  · subst h1; cases hb : bt v 1 60 <;> simp +decide [hb, bI]
  by_cases h2 : w = 2
  · subst h2; cases hb : bt v 0 100 <;> simp +decide [hb, bI]
  by_cases h3 : w = 3
  · subst h3; cases hb : bt v 0 9 <;> simp +decide [hb, bI]
  simp [h1, h2, h3, bI]
theorem F_leg (g : Gd (I 66) m) : Rf X I 178 [.ref 65, .int a, .int b, U_] (pLeg (I 66) a b) := by
  intro d D P N
  have h2 := g.n2
  simp only [B178_0, M_road, Option.bind_some, List.append_nil, List.nil_append, List.cons_append, cond_true, cond_false, if_true, if_false, ite_true, ite_false, reduceIte, IC, bI_0, bI_1, bF, Bool.not_eq_false, Bool.not_eq_true, Bool.and_true, Bool.true_and, Bool.and_false, Bool.false_and, Bool.true_or, Bool.or_true, Bool.or_false, Bool.false_or, Bool.not_true, Bool.not_false, decide_true, decide_false, not_true_eq_false, not_false_eq_true, eq_self, B178_5]
  unfold pLeg
  cases hb : (bt a 1 99 && bt b 0 2) with
  | false => exact ⟨I, by simp only [Option.bind_some, List.append_nil, List.nil_append, List.cons_append, cond_true, cond_false, if_true, if_false, ite_true, ite_false, reduceIte, IC, bI_0, bI_1, bF, Bool.not_eq_false, Bool.not_eq_true, Bool.and_true, Bool.true_and, Bool.and_false, Bool.false_and, Bool.true_or, Bool.or_true, Bool.or_false, Bool.false_or, Bool.not_true, Bool.not_false, decide_true, decide_false, not_true_eq_false, not_false_eq_true, eq_self, Bool.false_eq_true], Sc_id⟩
  | true =>
    by_cases h8 : I 66 2 = 8
    · exact ⟨I, by simp only [Option.bind_some, List.append_nil, List.nil_append, List.cons_append, cond_true, cond_false, if_true, if_false, ite_true, ite_false, reduceIte, IC, bI_0, bI_1, bF, Bool.not_eq_false, Bool.not_eq_true, Bool.and_true, Bool.true_and, Bool.and_false, Bool.false_and, Bool.true_or, Bool.or_true, Bool.or_false, Bool.false_or, Bool.not_true, Bool.not_false, decide_true, decide_false, not_true_eq_false, not_false_eq_true, eq_self, RDm, h8], Sc_id⟩
    · have hl : ctL (I 66) < 8 := by
        have e : ¬ ctL (I 66) = 8 := fun q => h8 (by rw [h2.1, q]; rfl)
        omega
      simp (disch := omega) only [Option.bind_some, List.append_nil, List.nil_append, List.cons_append, cond_true, cond_false, if_true, if_false, ite_true, ite_false, reduceIte, IC, bI_0, bI_1, bF, Bool.not_eq_false, Bool.not_eq_true, Bool.and_true, Bool.true_and, Bool.and_false, Bool.false_and, Bool.true_or, Bool.or_true, Bool.or_false, Bool.false_or, Bool.not_true, Bool.not_false, decide_true, decide_false, not_true_eq_false, not_false_eq_true, eq_self, RDm, h8, h2.1, IX, wS, upd_o, u2_r, u2r_s, u2r_r, WRm]
      exact ⟨_, rfl, Sc_rf⟩
theorem F_legOf (g : Gd (I 66) m) : Rf X I 179 [.ref 65, .int a, .int w] (pLegOf (I 66) a w, I 66) := by
  intro d D P N
  refine ⟨I, ?_, Sc_id⟩
  have h2 := g.n2
  simp only [B179_0, Option.bind_some, List.append_nil, List.nil_append, List.cons_append, cond_true, cond_false, if_true, if_false, ite_true, ite_false, reduceIte, IC, bI_0, bI_1, bF, Bool.not_eq_false, Bool.not_eq_true, Bool.and_true, Bool.true_and, Bool.and_false, Bool.false_and, Bool.true_or, Bool.or_true, Bool.or_false, Bool.false_or, Bool.not_true, Bool.not_false, decide_true, decide_false, not_true_eq_false, not_false_eq_true, eq_self, M_isL g, B179_5, M_bt, L64, B179_15, B179_34, B179_35]
  unfold pLegOf
  cases hb : isL (I 66) a with
  | false => simp only [Option.bind_some, List.append_nil, List.nil_append, List.cons_append, cond_true, cond_false, if_true, if_false, ite_true, ite_false, reduceIte, IC, bI_0, bI_1, bF, Bool.not_eq_false, Bool.not_eq_true, Bool.and_true, Bool.true_and, Bool.and_false, Bool.false_and, Bool.true_or, Bool.or_true, Bool.or_false, Bool.false_or, Bool.not_true, Bool.not_false, decide_true, decide_false, not_true_eq_false, not_false_eq_true, eq_self, Bool.false_eq_true]
  | true =>
    cases hw : bt w 0 1 with
    | false => simp only [Option.bind_some, List.append_nil, List.nil_append, List.cons_append, cond_true, cond_false, if_true, if_false, ite_true, ite_false, reduceIte, IC, bI_0, bI_1, bF, Bool.not_eq_false, Bool.not_eq_true, Bool.and_true, Bool.true_and, Bool.and_false, Bool.false_and, Bool.true_or, Bool.or_true, Bool.or_false, Bool.false_or, Bool.not_true, Bool.not_false, decide_true, decide_false, not_true_eq_false, not_false_eq_true, eq_self, Bool.false_eq_true]
    | true =>
      obtain ⟨i, hi, rfl⟩ := isL_nat g hb
      have hw2 := bt_iff.mp hw
      have hww : w = 0 ∨ w = 1 := by
        rw [← Int32.toInt_inj, ← Int32.toInt_inj]
        show w.toInt = 0 ∨ w.toInt = 1
        omega
      rcases hww with rfl | rfl
      · simp (disch := omega) only [Option.bind_some, List.append_nil, List.nil_append, List.cons_append, cond_true, cond_false, if_true, if_false, ite_true, ite_false, reduceIte, IC, bI_0, bI_1, bF, Bool.not_eq_false, Bool.not_eq_true, Bool.and_true, Bool.true_and, Bool.and_false, Bool.false_and, Bool.true_or, Bool.or_true, Bool.or_false, Bool.false_or, Bool.not_true, Bool.not_false, decide_true, decide_false, not_true_eq_false, not_false_eq_true, eq_self, Bool.true_eq_false, RDm, IX, rS, iN_cl]
      · simp (disch := omega) +decide only [Option.bind_some, List.append_nil, List.nil_append, List.cons_append, cond_true, cond_false, if_true, if_false, ite_true, ite_false, reduceIte, IC, bI_0, bI_1, bF, Bool.not_eq_false, Bool.not_eq_true, Bool.and_true, Bool.true_and, Bool.and_false, Bool.false_and, Bool.true_or, Bool.or_true, Bool.or_false, Bool.false_or, Bool.not_true, Bool.not_false, decide_true, decide_false, not_true_eq_false, not_false_eq_true, eq_self, Bool.true_eq_false, RDm, IX, rS, iN_cl]
end RefF
