/-! the class: its calls on the ride, those that leave the answers as they are -/
def FrC (n : Nat) (ra : Nat → Nat) (I I' : Nat → Nat → Int32) : Prop := ∀ a, a ≠ 1 → a ≠ 3 → a ≠ 4 → a ≠ 13 → a ≠ 14 → a ≠ 15 → (a < 31 ∨ 35 < a) → (∀ i, i < n → a ≠ ra i) → I' a = I a
/-- a call of the class: its answer, its ride's row behind it, nothing else is unlike -/
def Cf (X : mX) (y : Nat) (L : List Value) (s : Nat → Int32) (q : Int32 × (Nat → Int32)) : Prop :=
  ∀ d D I P N ra, RideR s D I P N 1 ra → I 31 5 = 0 → ∃ I', Rn X (d + 40) y 0 L [] (Mh D I P N) = some ([.int q.1], Mh D I' P N) ∧ RideR q.2 D I' P N 1 ra ∧ I' 31 5 = 0 ∧ FrC (ctA s) ra I I'
section ClsJ
variable {X : mX} {d : Nat} {D : Nat → Nat × Nat} {I : Nat → Nat → Int32} {P : Nat → Nat → Option Nat} {N : Nat} {h : mH} {s s' g S r f f' F c : Nat → Int32} {J J' I' : Nat → Nat → Int32} {ra : Nat → Nat} {L : List Nat} {m : Int} {i j k n p q : Nat} {x v w a b e z fl : Int32}
theorem frc_rf {n : Nat} : FrC n ra I I := fun _ _ _ _ _ _ _ _ _ => rfl
theorem frc_13 {n : Nat} : FrC n ra I (u2r I 13 f) := fun a _ _ _ h13 _ _ _ _ => u2r_o h13
theorem frc_1 {n : Nat} : FrC n ra I (u2 I 1 k x) := fun a h1 _ _ _ _ _ _ _ => u2_o h1
theorem frc_tl {n : Nat} (hi : i < n) : FrC n ra I (tlI I s ra i f) := fun a h1 _ _ h13 _ _ _ ha => tl_o h1 h13 (ha i hi)
theorem frS_C {n : Nat} (h : FrS n ra I J) : FrC n ra I J := fun a h1 _ _ h13 _ _ h31 ha => h a h1 h13 h31 ha
theorem L32 : (0 : Int32).toInt = 0 ∧ (1 : Int32).toInt = 1 ∧ (2 : Int32).toInt = 2 ∧ (3 : Int32).toInt = 3 ∧ (4 : Int32).toInt = 4 ∧ (5 : Int32).toInt = 5 ∧ (8 : Int32).toInt = 8 ∧ (9 : Int32).toInt = 9 ∧ (20 : Int32).toInt = 20 ∧ (60 : Int32).toInt = 60 ∧ (99 : Int32).toInt = 99 ∧ (100 : Int32).toInt = 100 ∧ (999 : Int32).toInt = 999 ∧ (10 : Int32).toInt = 10 ∧ (14 : Int32).toInt = 14 ∧ (-1 : Int32).toInt = -1 := ⟨rfl, rfl, rfl, rfl, rfl, rfl, rfl, rfl, rfl, rfl, rfl, rfl, rfl, rfl, rfl, rfl⟩
theorem C_btw {lo hi : Int32} : Rn X d 156 0 [.int v, .int lo, .int hi] [] h = some ([.int (bI (bt v lo.toInt hi.toInt))], h) := by
  simp only [B156_0, B156_14, B156_15]
  unfold bt
  by_cases h1 : v < lo
  · have h1' := Int32.lt_iff_toInt_lt.mp h1
    rw [if_pos h1, decide_eq_false (show ¬ lo.toInt ≤ v.toInt by omega)]; rfl
  · have h1' : ¬ v.toInt < lo.toInt := fun q => h1 (Int32.lt_iff_toInt_lt.mpr q)
    rw [if_neg h1, decide_eq_true (show lo.toInt ≤ v.toInt by omega)]
    by_cases h2 : hi < v
    · have h2' := Int32.lt_iff_toInt_lt.mp h2
      rw [if_pos h2, decide_eq_false (show ¬ v.toInt ≤ hi.toInt by omega)]; rfl
    · have h2' : ¬ hi.toInt < v.toInt := fun q => h2 (Int32.lt_iff_toInt_lt.mpr q)
      rw [if_neg h2, decide_eq_true (show v.toInt ≤ hi.toInt by omega)]; rfl
theorem C_fit : Rn X (d + 1) 157 0 [.int w, .int v] [] h = some ([.int (bI (pPrt w v))], h) := by
  simp only [B157_0, B157_35, B157_43, B157_51, Option.bind_some, List.append_nil, List.nil_append, List.cons_append, cond_true, cond_false, if_true, if_false, ite_true, ite_false, reduceIte, IC, bI_0, bI_1, bF, Bool.not_eq_false, Bool.not_eq_true, Bool.and_true, Bool.true_and, Bool.and_false, Bool.false_and, Bool.true_or, Bool.or_true, Bool.or_false, Bool.false_or, Bool.not_true, Bool.not_false, decide_true, decide_false, not_true_eq_false, not_false_eq_true, eq_self, Bool.true_eq_false, Bool.false_eq_true, C_btw, L32]
  unfold pPrt
  by_cases h1 : w = 1
  · subst h1; cases hb : bt v 1 60 <;> simp +decide [hb, bI]
  by_cases h2 : w = 2
  · subst h2; cases hb : bt v 0 100 <;> simp +decide [hb, bI]
  by_cases h3 : w = 3
  · subst h3; cases hb : bt v 0 9 <;> simp +decide [hb, bI]
  simp [h1, h2, h3, bI]
theorem C_isL : Rn X (d + 1) 158 0 [.int a, .int b] [] h = some ([.int (bI (bt a 1 99 && bt b 0 2))], h) := by
  simp only [B158_0, B158_7, B158_16, B158_23, B158_24, Option.bind_some, List.append_nil, List.nil_append, List.cons_append, cond_true, cond_false, if_true, if_false, ite_true, ite_false, reduceIte, IC, bI_0, bI_1, bF, Bool.not_eq_false, Bool.not_eq_true, Bool.and_true, Bool.true_and, Bool.and_false, Bool.false_and, Bool.true_or, Bool.or_true, Bool.or_false, Bool.false_or, Bool.not_true, Bool.not_false, decide_true, decide_false, not_true_eq_false, not_false_eq_true, eq_self, Bool.true_eq_false, Bool.false_eq_true, C_btw, L32]
  cases bt a 1 99 <;> cases bt b 0 2 <;> simp +decide [bI]
theorem C_len : Rn X (d + 1) 159 0 [.int a] [] h = some ([.int (bI (bt a 0 4))], h) := by
  simp only [B159_0, B159_6, Option.bind_some, List.append_nil, List.nil_append, List.cons_append, cond_true, cond_false, if_true, if_false, ite_true, ite_false, reduceIte, IC, bI_0, bI_1, bF, Bool.not_eq_false, Bool.not_eq_true, Bool.and_true, Bool.true_and, Bool.and_false, Bool.false_and, Bool.true_or, Bool.or_true, Bool.or_false, Bool.false_or, Bool.not_true, Bool.not_false, decide_true, decide_false, not_true_eq_false, not_false_eq_true, eq_self, Bool.true_eq_false, Bool.false_eq_true, C_btw, L32]
theorem C_plc : Rn X (d + 1) 160 0 [.int a] [] h = some ([.int (bI (bt a 0 3))], h) := by
  simp only [B160_0, B160_6, Option.bind_some, List.append_nil, List.nil_append, List.cons_append, cond_true, cond_false, if_true, if_false, ite_true, ite_false, reduceIte, IC, bI_0, bI_1, bF, Bool.not_eq_false, Bool.not_eq_true, Bool.and_true, Bool.true_and, Bool.and_false, Bool.false_and, Bool.true_or, Bool.or_true, Bool.or_false, Bool.false_or, Bool.not_true, Bool.not_false, decide_true, decide_false, not_true_eq_false, not_false_eq_true, eq_self, Bool.true_eq_false, Bool.false_eq_true, C_btw, L32]
theorem RideR.chg (hr : RideR s D I P N 1 ra) (h8 : ctL s ≤ 8) (s0 : s' 0 = s 0) (s1 : s' 1 = s 1) (s2 : s' 2 = s 2) (s7 : ∀ k, 7 ≤ k → s' k = s k) (hI : ∀ a, a ≠ 1 → I' a = I a) (e1 : I' 1 1 = I 1 1) (e4 : I' 1 4 = I 1 4) (e5 : I' 1 5 = I 1 5) (e6 : I' 1 6 = s' 4) (e7 : I' 1 7 = s' 5) (e8 : I' 1 8 = s' 6) (e13 : I' 1 13 = s' 3) (hE : ctE s' ≤ ctE s) : RideR s' D I' P N 1 ra := by
  obtain ⟨⟨r1, r4', r5', -⟩, r2, r3, r4, r5, q, hq, hR⟩ := hr
  have el : ctL s' = ctL s := by unfold ctL; rw [s2]
  have ea : ctA s' = ctA s := by unfold ctA; rw [s0]
  have en : endV s' = endV s := by unfold endV; rw [el]; exact endF_of (fun j _ => s7 _ (by omega)) _ _ _ (by omega)
  refine ⟨⟨by rw [e1, s0]; exact r1, by rw [e4, s2]; exact r4', by rw [e5, en]; exact r5', e6, e7, e8, e13⟩, fun k hk => ?_, fun k hk => ?_, fun j hj => ?_, fun a b ha hb => ?_, q, hq, ?_⟩
  · rw [el] at hk
    rw [hI _ (by omega), hI _ (by omega), s7 _ (by omega), s7 _ (by omega)]; exact r2 k hk
  · rw [hI _ (by omega), hI _ (by omega), s7 _ (by omega), s7 _ (by omega), s7 _ (by omega)]; exact r3 k (by omega)
  · rw [ea] at hj
    obtain ⟨q1, q2⟩ := r4 j hj
    refine ⟨q1, ?_⟩
    have h80 := q2.1.1
    unfold AnsR
    rw [s7 _ (by omega), s7 _ (by omega), s7 _ (by omega), s7 _ (by omega), s7 _ (by omega)]
    exact q2.of (hI _ (by omega))
  · rw [ea] at ha hb; exact r5 a b ha hb
  · refine (hR.ofs s1 (fun j hj => s7 j (by omega))).of (fun j hj => hI _ ?_)
    have := hR.1.ne hj; omega
theorem N_legOf (g : Gd s m) : Cf X 113 [.ref 0, .int a, .int w] s (pLegOf s a w, s) := by
  intro d D I P N ra hr hl
  refine ⟨I, ?_, hr, hl, frc_rf⟩
  simp only [B113_0, RDc, Option.bind_some, List.append_nil, List.nil_append, List.cons_append, cond_true, cond_false, if_true, if_false, ite_true, ite_false, reduceIte, IC, bI_0, bI_1, bF, Bool.not_eq_false, Bool.not_eq_true, Bool.and_true, Bool.true_and, Bool.and_false, Bool.false_and, Bool.true_or, Bool.or_true, Bool.or_false, Bool.false_or, Bool.not_true, Bool.not_false, decide_true, decide_false, not_true_eq_false, not_false_eq_true, eq_self, Bool.true_eq_false, Bool.false_eq_true, C_has g hr, B113_8, C_btw, L32, B113_17, B113_20]
  unfold pLegOf
  cases hb : isL s a with
  | false => simp only [Option.bind_some, List.append_nil, List.nil_append, List.cons_append, cond_true, cond_false, if_true, if_false, ite_true, ite_false, reduceIte, IC, bI_0, bI_1, bF, Bool.not_eq_false, Bool.not_eq_true, Bool.and_true, Bool.true_and, Bool.and_false, Bool.false_and, Bool.true_or, Bool.or_true, Bool.or_false, Bool.false_or, Bool.not_true, Bool.not_false, decide_true, decide_false, not_true_eq_false, not_false_eq_true, eq_self, Bool.true_eq_false, Bool.false_eq_true]
  | true =>
    cases hw : bt w 0 1 with
    | false => simp only [Option.bind_some, List.append_nil, List.nil_append, List.cons_append, cond_true, cond_false, if_true, if_false, ite_true, ite_false, reduceIte, IC, bI_0, bI_1, bF, Bool.not_eq_false, Bool.not_eq_true, Bool.and_true, Bool.true_and, Bool.and_false, Bool.false_and, Bool.true_or, Bool.or_true, Bool.or_false, Bool.false_or, Bool.not_true, Bool.not_false, decide_true, decide_false, not_true_eq_false, not_false_eq_true, eq_self, Bool.true_eq_false, Bool.false_eq_true]
    | true =>
      obtain ⟨i, hi, rfl⟩ := isL_nat g hb
      have h2 := g.n2
      rcases bt01 hw with rfl | rfl
      · simp only [Option.bind_some, List.append_nil, List.nil_append, List.cons_append, cond_true, cond_false, if_true, if_false, ite_true, ite_false, reduceIte, IC, bI_0, bI_1, bF, Bool.not_eq_false, Bool.not_eq_true, Bool.and_true, Bool.true_and, Bool.and_false, Bool.false_and, Bool.true_or, Bool.or_true, Bool.or_false, Bool.false_or, Bool.not_true, Bool.not_false, decide_true, decide_false, not_true_eq_false, not_false_eq_true, eq_self, Bool.true_eq_false, Bool.false_eq_true, RDc, C_minOf g hr hi, B113_34, B113_45, iN_cl (show i < 2147483648 by omega)]
      · simp +decide only [Option.bind_some, List.append_nil, List.nil_append, List.cons_append, cond_true, cond_false, if_true, if_false, ite_true, ite_false, reduceIte, IC, bI_0, bI_1, bF, Bool.not_eq_false, Bool.not_eq_true, Bool.and_true, Bool.true_and, Bool.and_false, Bool.false_and, Bool.true_or, Bool.or_true, Bool.or_false, Bool.false_or, Bool.not_true, Bool.not_false, decide_true, decide_false, not_true_eq_false, not_false_eq_true, eq_self, Bool.true_eq_false, Bool.false_eq_true, RDc, C_moodOf g hr hi, B113_45, iN_cl (show i < 2147483648 by omega)]
theorem N_sta (g : Gd s m) : Cf X 116 [.ref 0, .int w] s (pSta s w, s) := by
  intro d D I P N ra hr hl
  refine ⟨I, ?_, hr, hl, frc_rf⟩
  obtain ⟨⟨-, -, e5, e6, e7, -⟩, -⟩ := id hr
  simp only [B116_0, B116_59, B116_71, B116_74, RDc, Option.bind_some, List.append_nil, List.nil_append, List.cons_append, cond_true, cond_false, if_true, if_false, ite_true, ite_false, reduceIte, IC, bI_0, bI_1, bF, Bool.not_eq_false, Bool.not_eq_true, Bool.and_true, Bool.true_and, Bool.and_false, Bool.false_and, Bool.true_or, Bool.or_true, Bool.or_false, Bool.false_or, Bool.not_true, Bool.not_false, decide_true, decide_false, not_true_eq_false, not_false_eq_true, eq_self, Bool.true_eq_false, Bool.false_eq_true, C_legN g hr, C_mood g hr, e5, e6, e7]
  unfold pSta
  by_cases h0 : w = 0
  · simp only [h0, Option.bind_some, List.append_nil, List.nil_append, List.cons_append, cond_true, cond_false, if_true, if_false, ite_true, ite_false, reduceIte, IC, bI_0, bI_1, bF, Bool.not_eq_false, Bool.not_eq_true, Bool.and_true, Bool.true_and, Bool.and_false, Bool.false_and, Bool.true_or, Bool.or_true, Bool.or_false, Bool.false_or, Bool.not_true, Bool.not_false, decide_true, decide_false, not_true_eq_false, not_false_eq_true, eq_self, Bool.true_eq_false, Bool.false_eq_true]
  by_cases h1 : w = 1
  · simp +decide only [h1, Option.bind_some, List.append_nil, List.nil_append, List.cons_append, cond_true, cond_false, if_true, if_false, ite_true, ite_false, reduceIte, IC, bI_0, bI_1, bF, Bool.not_eq_false, Bool.not_eq_true, Bool.and_true, Bool.true_and, Bool.and_false, Bool.false_and, Bool.true_or, Bool.or_true, Bool.or_false, Bool.false_or, Bool.not_true, Bool.not_false, decide_true, decide_false, not_true_eq_false, not_false_eq_true, eq_self, Bool.true_eq_false, Bool.false_eq_true]
  by_cases h2 : w = 2
  · simp +decide only [h2, Option.bind_some, List.append_nil, List.nil_append, List.cons_append, cond_true, cond_false, if_true, if_false, ite_true, ite_false, reduceIte, IC, bI_0, bI_1, bF, Bool.not_eq_false, Bool.not_eq_true, Bool.and_true, Bool.true_and, Bool.and_false, Bool.false_and, Bool.true_or, Bool.or_true, Bool.or_false, Bool.false_or, Bool.not_true, Bool.not_false, decide_true, decide_false, not_true_eq_false, not_false_eq_true, eq_self, Bool.true_eq_false, Bool.false_eq_true]
  by_cases h3 : w = 3
  · simp +decide only [h3, Option.bind_some, List.append_nil, List.nil_append, List.cons_append, cond_true, cond_false, if_true, if_false, ite_true, ite_false, reduceIte, IC, bI_0, bI_1, bF, Bool.not_eq_false, Bool.not_eq_true, Bool.and_true, Bool.true_and, Bool.and_false, Bool.false_and, Bool.true_or, Bool.or_true, Bool.or_false, Bool.false_or, Bool.not_true, Bool.not_false, decide_true, decide_false, not_true_eq_false, not_false_eq_true, eq_self, Bool.true_eq_false, Bool.false_eq_true]
  by_cases h4 : w = 4
  · simp +decide only [h4, Option.bind_some, List.append_nil, List.nil_append, List.cons_append, cond_true, cond_false, if_true, if_false, ite_true, ite_false, reduceIte, IC, bI_0, bI_1, bF, Bool.not_eq_false, Bool.not_eq_true, Bool.and_true, Bool.true_and, Bool.and_false, Bool.false_and, Bool.true_or, Bool.or_true, Bool.or_false, Bool.false_or, Bool.not_true, Bool.not_false, decide_true, decide_false, not_true_eq_false, not_false_eq_true, eq_self, Bool.true_eq_false, Bool.false_eq_true]
  simp only [h0, h1, h2, h3, h4, Option.bind_some, List.append_nil, List.nil_append, List.cons_append, cond_true, cond_false, if_true, if_false, ite_true, ite_false, reduceIte, IC, bI_0, bI_1, bF, Bool.not_eq_false, Bool.not_eq_true, Bool.and_true, Bool.true_and, Bool.and_false, Bool.false_and, Bool.true_or, Bool.or_true, Bool.or_false, Bool.false_or, Bool.not_true, Bool.not_false, decide_true, decide_false, not_true_eq_false, not_false_eq_true, eq_self, Bool.true_eq_false, Bool.false_eq_true]
theorem N_aof (ok : Ok s m) : Cf X 109 [.ref 0, .int a, .int w, U_] s (pAof s a w, s) := by
  intro d D I P N ra hr hl
  have g := ok.1
  rw [B109_0]
  simp only [RDc, Option.bind_some, List.append_nil, List.nil_append, List.cons_append, cond_true, cond_false, if_true, if_false, ite_true, ite_false, reduceIte, IC, bI_0, bI_1, bF, Bool.not_eq_false, Bool.not_eq_true, Bool.and_true, Bool.true_and, Bool.and_false, Bool.false_and, Bool.true_or, Bool.or_true, Bool.or_false, Bool.false_or, Bool.not_true, Bool.not_false, decide_true, decide_false, not_true_eq_false, not_false_eq_true, eq_self, Bool.true_eq_false, Bool.false_eq_true, C_at g hr]
  unfold pAof ansO
  cases hb : isA s a with
  | false => exact ⟨I, by simp only [Option.bind_some, List.append_nil, List.nil_append, List.cons_append, cond_true, cond_false, if_true, if_false, ite_true, ite_false, reduceIte, IC, bI_0, bI_1, bF, Bool.not_eq_false, Bool.not_eq_true, Bool.and_true, Bool.true_and, Bool.and_false, Bool.false_and, Bool.true_or, Bool.or_true, Bool.or_false, Bool.false_or, Bool.not_true, Bool.not_false, decide_true, decide_false, not_true_eq_false, not_false_eq_true, eq_self, Bool.true_eq_false, Bool.false_eq_true, B109_8, oc_none], hr, hl, frc_rf⟩
  | true =>
    obtain ⟨i, hi, rfl⟩ := isA_nat g hb
    have h9 := g.a hi
    have e0 : (Int32.ofNat i).toNatClampNeg = i := iN_cl (by omega)
    have hA := (hr.2.2.2.1 i hi).2
    obtain ⟨-, a0, a1, a2, a3, a4, a5⟩ := id hA
    simp only [Option.bind_some, List.append_nil, List.nil_append, List.cons_append, cond_true, cond_false, if_true, if_false, ite_true, ite_false, reduceIte, IC, bI_0, bI_1, bF, Bool.not_eq_false, Bool.not_eq_true, Bool.and_true, Bool.true_and, Bool.and_false, Bool.false_and, Bool.true_or, Bool.or_true, Bool.or_false, Bool.false_or, Bool.not_true, Bool.not_false, decide_true, decide_false, not_true_eq_false, not_false_eq_true, eq_self, Bool.true_eq_false, Bool.false_eq_true, e0, B109_8, oc_some, RDa hA.at, a0, a2, a3, a4, a5]
    have hcan := C_can (X := X) (d := d + 38) hr hi
    obtain ⟨f, eh⟩ := C_hold (X := X) (d := d + 35) ok hr hi
    by_cases w0 : w = 0
    · subst w0; exact ⟨I, by simp +decide only [Option.bind_some, List.append_nil, List.nil_append, List.cons_append, cond_true, cond_false, if_true, if_false, ite_true, ite_false, reduceIte, IC, bI_0, bI_1, bF, Bool.not_eq_false, Bool.not_eq_true, Bool.and_true, Bool.true_and, Bool.and_false, Bool.false_and, Bool.true_or, Bool.or_true, Bool.or_false, Bool.false_or, Bool.not_true, Bool.not_false, decide_true, decide_false, not_true_eq_false, not_false_eq_true, eq_self, Bool.true_eq_false, Bool.false_eq_true]; rfl, hr, hl, frc_rf⟩
    by_cases w1 : w = 1
    · subst w1; exact ⟨I, by simp +decide only [Option.bind_some, List.append_nil, List.nil_append, List.cons_append, cond_true, cond_false, if_true, if_false, ite_true, ite_false, reduceIte, IC, bI_0, bI_1, bF, Bool.not_eq_false, Bool.not_eq_true, Bool.and_true, Bool.true_and, Bool.and_false, Bool.false_and, Bool.true_or, Bool.or_true, Bool.or_false, Bool.false_or, Bool.not_true, Bool.not_false, decide_true, decide_false, not_true_eq_false, not_false_eq_true, eq_self, Bool.true_eq_false, Bool.false_eq_true]; rfl, hr, hl, frc_rf⟩
    by_cases w2 : w = 2
    · subst w2; exact ⟨I, by simp +decide only [Option.bind_some, List.append_nil, List.nil_append, List.cons_append, cond_true, cond_false, if_true, if_false, ite_true, ite_false, reduceIte, IC, bI_0, bI_1, bF, Bool.not_eq_false, Bool.not_eq_true, Bool.and_true, Bool.true_and, Bool.and_false, Bool.false_and, Bool.true_or, Bool.or_true, Bool.or_false, Bool.false_or, Bool.not_true, Bool.not_false, decide_true, decide_false, not_true_eq_false, not_false_eq_true, eq_self, Bool.true_eq_false, Bool.false_eq_true]; rfl, hr, hl, frc_rf⟩
    by_cases w3 : w = 3
    · subst w3; exact ⟨I, by simp +decide only [Option.bind_some, List.append_nil, List.nil_append, List.cons_append, cond_true, cond_false, if_true, if_false, ite_true, ite_false, reduceIte, IC, bI_0, bI_1, bF, Bool.not_eq_false, Bool.not_eq_true, Bool.and_true, Bool.true_and, Bool.and_false, Bool.false_and, Bool.true_or, Bool.or_true, Bool.or_false, Bool.false_or, Bool.not_true, Bool.not_false, decide_true, decide_false, not_true_eq_false, not_false_eq_true, eq_self, Bool.true_eq_false, Bool.false_eq_true]; rfl, hr, hl, frc_rf⟩
    by_cases w4 : w = 4
    · subst w4; exact ⟨I, by simp +decide only [Option.bind_some, List.append_nil, List.nil_append, List.cons_append, cond_true, cond_false, if_true, if_false, ite_true, ite_false, reduceIte, IC, bI_0, bI_1, bF, Bool.not_eq_false, Bool.not_eq_true, Bool.and_true, Bool.true_and, Bool.and_false, Bool.false_and, Bool.true_or, Bool.or_true, Bool.or_false, Bool.false_or, Bool.not_true, Bool.not_false, decide_true, decide_false, not_true_eq_false, not_false_eq_true, eq_self, Bool.true_eq_false, Bool.false_eq_true]; rfl, hr, hl, frc_rf⟩
    by_cases w5 : w = 5
    · subst w5
      refine ⟨u2r I 13 f, ?_, hr.u13, by rw [u2r_o (by decide)]; exact hl, frc_13⟩
      simp +decide only [Option.bind_some, List.append_nil, List.nil_append, List.cons_append, cond_true, cond_false, if_true, if_false, ite_true, ite_false, reduceIte, IC, bI_0, bI_1, bF, Bool.not_eq_false, Bool.not_eq_true, Bool.and_true, Bool.true_and, Bool.and_false, Bool.false_and, Bool.true_or, Bool.or_true, Bool.or_false, Bool.false_or, Bool.not_true, Bool.not_false, decide_true, decide_false, not_true_eq_false, not_false_eq_true, eq_self, Bool.true_eq_false, Bool.false_eq_true, RDc, eh, B109_93]
    by_cases w6 : w = 6
    · subst w6
      refine ⟨I, ?_, hr, hl, frc_rf⟩
      simp +decide only [Option.bind_some, List.append_nil, List.nil_append, List.cons_append, cond_true, cond_false, if_true, if_false, ite_true, ite_false, reduceIte, IC, bI_0, bI_1, bF, Bool.not_eq_false, Bool.not_eq_true, Bool.and_true, Bool.true_and, Bool.and_false, Bool.false_and, Bool.true_or, Bool.or_true, Bool.or_false, Bool.false_or, Bool.not_true, Bool.not_false, decide_true, decide_false, not_true_eq_false, not_false_eq_true, eq_self, Bool.true_eq_false, Bool.false_eq_true, RDc, hcan, B109_102, B109_110]
      cases canV s i <;> rfl
    refine ⟨I, ?_, hr, hl, frc_rf⟩
    have hw : bt w 0 6 = false := by
      cases hw : bt w 0 6 with
      | false => rfl
      | true =>
        exfalso
        have hw2 := bt_iff.mp hw
        have : w = 0 ∨ w = 1 ∨ w = 2 ∨ w = 3 ∨ w = 4 ∨ w = 5 ∨ w = 6 := by
          rw [← Int32.toInt_inj, ← Int32.toInt_inj, ← Int32.toInt_inj, ← Int32.toInt_inj, ← Int32.toInt_inj, ← Int32.toInt_inj, ← Int32.toInt_inj]
          show w.toInt = 0 ∨ w.toInt = 1 ∨ w.toInt = 2 ∨ w.toInt = 3 ∨ w.toInt = 4 ∨ w.toInt = 5 ∨ w.toInt = 6
          omega
        simp [w0, w1, w2, w3, w4, w5, w6] at this
    simp only [w0, w1, w2, w3, w4, w5, w6, hw, Option.bind_some, List.append_nil, List.nil_append, List.cons_append, cond_true, cond_false, if_true, if_false, ite_true, ite_false, reduceIte, IC, bI_0, bI_1, bF, Bool.not_eq_false, Bool.not_eq_true, Bool.and_true, Bool.true_and, Bool.and_false, Bool.false_and, Bool.true_or, Bool.or_true, Bool.or_false, Bool.false_or, Bool.not_true, Bool.not_false, decide_true, decide_false, not_true_eq_false, not_false_eq_true, eq_self, Bool.true_eq_false, Bool.false_eq_true]
theorem N_say (ok : Ok s 10) : Cf X 120 [.ref 0, .int a] s (pSay s a) := by
  intro d D I P N ra hr hl
  have g := ok.1
  rw [B120_0]
  simp only [RDc, Option.bind_some, List.append_nil, List.nil_append, List.cons_append, cond_true, cond_false, if_true, if_false, ite_true, ite_false, reduceIte, IC, bI_0, bI_1, bF, Bool.not_eq_false, Bool.not_eq_true, Bool.and_true, Bool.true_and, Bool.and_false, Bool.false_and, Bool.true_or, Bool.or_true, Bool.or_false, Bool.false_or, Bool.not_true, Bool.not_false, decide_true, decide_false, not_true_eq_false, not_false_eq_true, eq_self, Bool.true_eq_false, Bool.false_eq_true]
  unfold pSay
  cases hb : isA s a with
  | false => exact ⟨I, by simp only [C_telB (d := d + 33) ok hr hb, Option.bind_some, List.append_nil, List.nil_append, List.cons_append, cond_true, cond_false, if_true, if_false, ite_true, ite_false, reduceIte, IC, bI_0, bI_1, bF, Bool.not_eq_false, Bool.not_eq_true, Bool.and_true, Bool.true_and, Bool.and_false, Bool.false_and, Bool.true_or, Bool.or_true, Bool.or_false, Bool.false_or, Bool.not_true, Bool.not_false, decide_true, decide_false, not_true_eq_false, not_false_eq_true, eq_self, Bool.true_eq_false, Bool.false_eq_true, B120_8], by simp only [Option.bind_some, List.append_nil, List.nil_append, List.cons_append, cond_true, cond_false, if_true, if_false, ite_true, ite_false, reduceIte, IC, bI_0, bI_1, bF, Bool.not_eq_false, Bool.not_eq_true, Bool.and_true, Bool.true_and, Bool.and_false, Bool.false_and, Bool.true_or, Bool.or_true, Bool.or_false, Bool.false_or, Bool.not_true, Bool.not_false, decide_true, decide_false, not_true_eq_false, not_false_eq_true, eq_self, Bool.true_eq_false, Bool.false_eq_true]; exact hr, hl, frc_rf⟩
  | true =>
    obtain ⟨i, hi, rfl⟩ := isA_nat g hb
    have h9 := g.a hi
    have e0 : (Int32.ofNat i).toNatClampNeg = i := iN_cl (by omega)
    simp only [Option.bind_some, List.append_nil, List.nil_append, List.cons_append, cond_true, cond_false, if_true, if_false, ite_true, ite_false, reduceIte, IC, bI_0, bI_1, bF, Bool.not_eq_false, Bool.not_eq_true, Bool.and_true, Bool.true_and, Bool.and_false, Bool.false_and, Bool.true_or, Bool.or_true, Bool.or_false, Bool.false_or, Bool.not_true, Bool.not_false, decide_true, decide_false, not_true_eq_false, not_false_eq_true, eq_self, Bool.true_eq_false, Bool.false_eq_true, e0]
    cases hc : canV s i with
    | false => exact ⟨I, by simp only [C_telN (d := d + 33) ok hr hi hc, Option.bind_some, List.append_nil, List.nil_append, List.cons_append, cond_true, cond_false, if_true, if_false, ite_true, ite_false, reduceIte, IC, bI_0, bI_1, bF, Bool.not_eq_false, Bool.not_eq_true, Bool.and_true, Bool.true_and, Bool.and_false, Bool.false_and, Bool.true_or, Bool.or_true, Bool.or_false, Bool.false_or, Bool.not_true, Bool.not_false, decide_true, decide_false, not_true_eq_false, not_false_eq_true, eq_self, Bool.true_eq_false, Bool.false_eq_true, B120_8], by simp only [Option.bind_some, List.append_nil, List.nil_append, List.cons_append, cond_true, cond_false, if_true, if_false, ite_true, ite_false, reduceIte, IC, bI_0, bI_1, bF, Bool.not_eq_false, Bool.not_eq_true, Bool.and_true, Bool.true_and, Bool.and_false, Bool.false_and, Bool.true_or, Bool.or_true, Bool.or_false, Bool.false_or, Bool.not_true, Bool.not_false, decide_true, decide_false, not_true_eq_false, not_false_eq_true, eq_self, Bool.true_eq_false, Bool.false_eq_true]; exact hr, hl, frc_rf⟩
    | true =>
      obtain ⟨f, e⟩ := C_tel (X := X) (d := d + 33) ok hr hi hc
      have h80 := (hr.2.2.2.1 i hi).2.1.1
      refine ⟨tlI I s ra i f, by simp only [e, Option.bind_some, List.append_nil, List.nil_append, List.cons_append, cond_true, cond_false, if_true, if_false, ite_true, ite_false, reduceIte, IC, bI_0, bI_1, bF, Bool.not_eq_false, Bool.not_eq_true, Bool.and_true, Bool.true_and, Bool.and_false, Bool.false_and, Bool.true_or, Bool.or_true, Bool.or_false, Bool.false_or, Bool.not_true, Bool.not_false, decide_true, decide_false, not_true_eq_false, not_false_eq_true, eq_self, Bool.true_eq_false, Bool.false_eq_true, B120_8], by simp only [Option.bind_some, List.append_nil, List.nil_append, List.cons_append, cond_true, cond_false, if_true, if_false, ite_true, ite_false, reduceIte, IC, bI_0, bI_1, bF, Bool.not_eq_false, Bool.not_eq_true, Bool.and_true, Bool.true_and, Bool.and_false, Bool.false_and, Bool.true_or, Bool.or_true, Bool.or_false, Bool.false_or, Bool.not_true, Bool.not_false, decide_true, decide_false, not_true_eq_false, not_false_eq_true, eq_self, Bool.true_eq_false, Bool.false_eq_true]; exact hr.tel ok hi, by rw [tl_o (by decide) (by decide) (by omega)]; exact hl, frc_tl hi⟩
theorem N_bel (g : Gd s m) : Cf X 115 [.ref 0, .int v, U_] s (pBel s v) := by
  intro d D I P N ra hr hl
  simp only [B115_0, C_btw, L32, Option.bind_some, List.append_nil, List.nil_append, List.cons_append, cond_true, cond_false, if_true, if_false, ite_true, ite_false, reduceIte, IC, bI_0, bI_1, bF, Bool.not_eq_false, Bool.not_eq_true, Bool.and_true, Bool.true_and, Bool.and_false, Bool.false_and, Bool.true_or, Bool.or_true, Bool.or_false, Bool.false_or, Bool.not_true, Bool.not_false, decide_true, decide_false, not_true_eq_false, not_false_eq_true, eq_self, Bool.true_eq_false, Bool.false_eq_true, B115_7]
  unfold pBel
  cases hb : bt v 0 100 with
  | false => exact ⟨I, by simp only [Option.bind_some, List.append_nil, List.nil_append, List.cons_append, cond_true, cond_false, if_true, if_false, ite_true, ite_false, reduceIte, IC, bI_0, bI_1, bF, Bool.not_eq_false, Bool.not_eq_true, Bool.and_true, Bool.true_and, Bool.and_false, Bool.false_and, Bool.true_or, Bool.or_true, Bool.or_false, Bool.false_or, Bool.not_true, Bool.not_false, decide_true, decide_false, not_true_eq_false, not_false_eq_true, eq_self, Bool.true_eq_false, Bool.false_eq_true], by simp only [Option.bind_some, List.append_nil, List.nil_append, List.cons_append, cond_true, cond_false, if_true, if_false, ite_true, ite_false, reduceIte, IC, bI_0, bI_1, bF, Bool.not_eq_false, Bool.not_eq_true, Bool.and_true, Bool.true_and, Bool.and_false, Bool.false_and, Bool.true_or, Bool.or_true, Bool.or_false, Bool.false_or, Bool.not_true, Bool.not_false, decide_true, decide_false, not_true_eq_false, not_false_eq_true, eq_self, Bool.true_eq_false, Bool.false_eq_true]; exact hr, hl, frc_rf⟩
  | true =>
    obtain ⟨⟨e1, e4, e5, e6, e7, e8, e13⟩, -⟩ := id hr
    refine ⟨u2 I 1 7 v, by simp only [Option.bind_some, List.append_nil, List.nil_append, List.cons_append, cond_true, cond_false, if_true, if_false, ite_true, ite_false, reduceIte, IC, bI_0, bI_1, bF, Bool.not_eq_false, Bool.not_eq_true, Bool.and_true, Bool.true_and, Bool.and_false, Bool.false_and, Bool.true_or, Bool.or_true, Bool.or_false, Bool.false_or, Bool.not_true, Bool.not_false, decide_true, decide_false, not_true_eq_false, not_false_eq_true, eq_self, Bool.true_eq_false, Bool.false_eq_true, RDc, WRc, e7], ?_, by rw [u2_o (by decide)]; exact hl, frc_1⟩
    simp only [Option.bind_some, List.append_nil, List.nil_append, List.cons_append, cond_true, cond_false, if_true, if_false, ite_true, ite_false, reduceIte, IC, bI_0, bI_1, bF, Bool.not_eq_false, Bool.not_eq_true, Bool.and_true, Bool.true_and, Bool.and_false, Bool.false_and, Bool.true_or, Bool.or_true, Bool.or_false, Bool.false_or, Bool.not_true, Bool.not_false, decide_true, decide_false, not_true_eq_false, not_false_eq_true, eq_self, Bool.true_eq_false, Bool.false_eq_true]
    refine hr.chg g.n2.2 (upd_o (by decide)) (upd_o (by decide)) (upd_o (by decide)) (fun k hk => upd_o (by omega)) (fun a ha => u2_o ha) ?_ ?_ ?_ ?_ ?_ ?_ ?_ ?_
    · rw [u2_s, upd_o (by decide)]
    · rw [u2_s, upd_o (by decide)]
    · rw [u2_s, upd_o (by decide)]
    · rw [u2_s, upd_o (by decide), upd_o (by decide)]; exact e6
    · rw [u2_s, upd_s, upd_s]
    · rw [u2_s, upd_o (by decide), upd_o (by decide)]; exact e8
    · rw [u2_s, upd_o (by decide), upd_o (by decide)]; exact e13
    · unfold ctE; rw [upd_o (by decide)]; exact Nat.le_refl _
theorem N_sed (g : Gd s m) : Cf X 137 [.ref 0, .int v, U_] s (s 6, upd s 6 v) := by
  intro d D I P N ra hr hl
  obtain ⟨⟨e1, e4, e5, e6, e7, e8, e13⟩, -⟩ := id hr
  refine ⟨u2 I 1 8 v, by simp only [B137_0, Option.bind_some, List.append_nil, List.nil_append, List.cons_append, cond_true, cond_false, if_true, if_false, ite_true, ite_false, reduceIte, IC, bI_0, bI_1, bF, Bool.not_eq_false, Bool.not_eq_true, Bool.and_true, Bool.true_and, Bool.and_false, Bool.false_and, Bool.true_or, Bool.or_true, Bool.or_false, Bool.false_or, Bool.not_true, Bool.not_false, decide_true, decide_false, not_true_eq_false, not_false_eq_true, eq_self, Bool.true_eq_false, Bool.false_eq_true, RDc, WRc, e8], ?_, by rw [u2_o (by decide)]; exact hl, frc_1⟩
  show RideR (upd s 6 v) D (u2 I 1 8 v) P N 1 ra
  refine hr.chg g.n2.2 (upd_o (by decide)) (upd_o (by decide)) (upd_o (by decide)) (fun k hk => upd_o (by omega)) (fun a ha => u2_o ha) ?_ ?_ ?_ ?_ ?_ ?_ ?_ ?_
  · rw [u2_s, upd_o (by decide)]
  · rw [u2_s, upd_o (by decide)]
  · rw [u2_s, upd_o (by decide)]
  · rw [u2_s, upd_o (by decide), upd_o (by decide)]; exact e6
  · rw [u2_s, upd_o (by decide), upd_o (by decide)]; exact e7
  · rw [u2_s, upd_s, upd_s]
  · rw [u2_s, upd_o (by decide), upd_o (by decide)]; exact e13
  · unfold ctE; rw [upd_o (by decide)]; exact Nat.le_refl _
theorem N_for (g : Gd s m) : Cf X 134 [.ref 0, U_] s (s 3, upd s 3 0) := by
  intro d D I P N ra hr hl
  obtain ⟨⟨e1, e4, e5, e6, e7, e8, e13⟩, -⟩ := id hr
  refine ⟨u2 I 1 13 0, by simp only [B134_0, Option.bind_some, List.append_nil, List.nil_append, List.cons_append, cond_true, cond_false, if_true, if_false, ite_true, ite_false, reduceIte, IC, bI_0, bI_1, bF, Bool.not_eq_false, Bool.not_eq_true, Bool.and_true, Bool.true_and, Bool.and_false, Bool.false_and, Bool.true_or, Bool.or_true, Bool.or_false, Bool.false_or, Bool.not_true, Bool.not_false, decide_true, decide_false, not_true_eq_false, not_false_eq_true, eq_self, Bool.true_eq_false, Bool.false_eq_true, RDc, WRc, e13], ?_, by rw [u2_o (by decide)]; exact hl, frc_1⟩
  show RideR (upd s 3 0) D (u2 I 1 13 0) P N 1 ra
  refine hr.chg g.n2.2 (upd_o (by decide)) (upd_o (by decide)) (upd_o (by decide)) (fun k hk => upd_o (by omega)) (fun a ha => u2_o ha) ?_ ?_ ?_ ?_ ?_ ?_ ?_ ?_
  · rw [u2_s, upd_o (by decide)]
  · rw [u2_s, upd_o (by decide)]
  · rw [u2_s, upd_o (by decide)]
  · rw [u2_s, upd_o (by decide), upd_o (by decide)]; exact e6
  · rw [u2_s, upd_o (by decide), upd_o (by decide)]; exact e7
  · rw [u2_s, upd_o (by decide), upd_o (by decide)]; exact e8
  · rw [u2_s, upd_s, upd_s]
  · unfold ctE; rw [upd_s]; exact Nat.zero_le _
theorem C_can1 (g : Gd s m) (hr : RideR s D I P N 1 ra) : ∀ k i acc (l3 : Value), i + k = ctA s → Rn X (d + 4) 41 4 [.ref 1, .int acc, .int (Int32.ofNat i), l3] [] (Mh D I P N) = some ([.int (foldA (fun a acc => acc ||| (bif canV s a then (1 : Int32) <<< (Int32.ofNat a &&& 31) else (0 : Int32))) i k acc)], Mh D I P N)
  | 0, i, acc, l3, hk => by
    have h0 := g.n0
    rw [B41_4]
    simp only [RDc, Option.bind_some, List.append_nil, List.nil_append, List.cons_append, cond_true, cond_false, if_true, if_false, ite_true, ite_false, reduceIte, IC, bI_0, bI_1, bF, Bool.not_eq_false, Bool.not_eq_true, Bool.and_true, Bool.true_and, Bool.and_false, Bool.false_and, Bool.true_or, Bool.or_true, Bool.or_false, Bool.false_or, Bool.not_true, Bool.not_false, decide_true, decide_false, not_true_eq_false, not_false_eq_true, eq_self, Bool.true_eq_false, Bool.false_eq_true, hr.1.1, h0.1]
    rw [if_pos (by rw [iN_le (by omega) (by omega)]; omega)]; rfl
  | k + 1, i, acc, l3, hk => by
    have h0 := g.n0
    have hi : i < ctA s := by omega
    rw [B41_4]
    simp only [RDc, Option.bind_some, List.append_nil, List.nil_append, List.cons_append, cond_true, cond_false, if_true, if_false, ite_true, ite_false, reduceIte, IC, bI_0, bI_1, bF, Bool.not_eq_false, Bool.not_eq_true, Bool.and_true, Bool.true_and, Bool.and_false, Bool.false_and, Bool.true_or, Bool.or_true, Bool.or_false, Bool.false_or, Bool.not_true, Bool.not_false, decide_true, decide_false, not_true_eq_false, not_false_eq_true, eq_self, Bool.true_eq_false, Bool.false_eq_true, hr.1.1, h0.1]
    rw [if_neg (by rw [iN_le (by omega) (by omega)]; omega)]
    simp only [C_at g hr, ans_i g hi, Option.bind_some, List.append_nil, List.nil_append, List.cons_append, cond_true, cond_false, if_true, if_false, ite_true, ite_false, reduceIte, IC, bI_0, bI_1, bF, Bool.not_eq_false, Bool.not_eq_true, Bool.and_true, Bool.true_and, Bool.and_false, Bool.false_and, Bool.true_or, Bool.or_true, Bool.or_false, Bool.false_or, Bool.not_true, Bool.not_false, decide_true, decide_false, not_true_eq_false, not_false_eq_true, eq_self, Bool.true_eq_false, Bool.false_eq_true, B41_17, oc_some, C_can hr hi, B41_27]
    unfold foldA
    cases hc : canV s i with
    | false =>
      simp only [Option.bind_some, List.append_nil, List.nil_append, List.cons_append, cond_true, cond_false, if_true, if_false, ite_true, ite_false, reduceIte, IC, bI_0, bI_1, bF, Bool.not_eq_false, Bool.not_eq_true, Bool.and_true, Bool.true_and, Bool.and_false, Bool.false_and, Bool.true_or, Bool.or_true, Bool.or_false, Bool.false_or, Bool.not_true, Bool.not_false, decide_true, decide_false, not_true_eq_false, not_false_eq_true, eq_self, Bool.true_eq_false, Bool.false_eq_true, B41_36, IX]
      have e := C_can1 g hr k (i + 1) acc (va_rf (some (ra i))) (by omega)
      rw [Int32.or_zero]
      exact e
    | true =>
      simp only [Option.bind_some, List.append_nil, List.nil_append, List.cons_append, cond_true, cond_false, if_true, if_false, ite_true, ite_false, reduceIte, IC, bI_0, bI_1, bF, Bool.not_eq_false, Bool.not_eq_true, Bool.and_true, Bool.true_and, Bool.and_false, Bool.false_and, Bool.true_or, Bool.or_true, Bool.or_false, Bool.false_or, Bool.not_true, Bool.not_false, decide_true, decide_false, not_true_eq_false, not_false_eq_true, eq_self, Bool.true_eq_false, Bool.false_eq_true, B41_36, IX]
      exact C_can1 g hr k (i + 1) _ (va_rf (some (ra i))) (by omega)
theorem C_canS (g : Gd s m) (hr : RideR s D I P N 1 ra) : Rn X (d + 4) 41 0 [.ref 1, U_, U_, U_] [] (Mh D I P N) = some ([.int (canS s)], Mh D I P N) := by
  rw [B41_0]; exact C_can1 g hr (ctA s) 0 0 U_ (by omega)
theorem N_can (g : Gd s m) : Cf X 121 [.ref 0] s (canS s, s) := by
  intro d D I P N ra hr hl
  exact ⟨I, by simp only [B121_0, Option.bind_some, List.append_nil, List.nil_append, List.cons_append, cond_true, cond_false, if_true, if_false, ite_true, ite_false, reduceIte, IC, bI_0, bI_1, bF, Bool.not_eq_false, Bool.not_eq_true, Bool.and_true, Bool.true_and, Bool.and_false, Bool.false_and, Bool.true_or, Bool.or_true, Bool.or_false, Bool.false_or, Bool.not_true, Bool.not_false, decide_true, decide_false, not_true_eq_false, not_false_eq_true, eq_self, Bool.true_eq_false, Bool.false_eq_true, RDc, C_canS (d := d + 35) g hr, B121_7], hr, hl, frc_rf⟩
theorem N_few (ok : Ok s 10) : Cf X 122 [.ref 0] s (pFew s, s) := by
  intro d D I P N ra hr hl
  obtain ⟨f, e⟩ := C_sho (X := X) (d := d + 27) ok hr
  refine ⟨u2r I 13 f, ?_, hr.u13, by rw [u2r_o (by decide)]; exact hl, frc_13⟩
  simp only [B122_0, Option.bind_some, List.append_nil, List.nil_append, List.cons_append, cond_true, cond_false, if_true, if_false, ite_true, ite_false, reduceIte, IC, bI_0, bI_1, bF, Bool.not_eq_false, Bool.not_eq_true, Bool.and_true, Bool.true_and, Bool.and_false, Bool.false_and, Bool.true_or, Bool.or_true, Bool.or_false, Bool.false_or, Bool.not_true, Bool.not_false, decide_true, decide_false, not_true_eq_false, not_false_eq_true, eq_self, Bool.true_eq_false, Bool.false_eq_true, RDc, e, B122_7]
  rfl
theorem N_way (ok : Ok s 10) : Cf X 124 [.ref 0, .int x] s (pWay s x, s) := by
  intro d D I P N ra hr hl
  simp only [B124_0, C_len, Option.bind_some, List.append_nil, List.nil_append, List.cons_append, cond_true, cond_false, if_true, if_false, ite_true, ite_false, reduceIte, IC, bI_0, bI_1, bF, Bool.not_eq_false, Bool.not_eq_true, Bool.and_true, Bool.true_and, Bool.and_false, Bool.false_and, Bool.true_or, Bool.or_true, Bool.or_false, Bool.false_or, Bool.not_true, Bool.not_false, decide_true, decide_false, not_true_eq_false, not_false_eq_true, eq_self, Bool.true_eq_false, Bool.false_eq_true, B124_4, B124_19]
  unfold pWay
  cases hb : bt x 0 4 with
  | false => exact ⟨I, by simp only [Option.bind_some, List.append_nil, List.nil_append, List.cons_append, cond_true, cond_false, if_true, if_false, ite_true, ite_false, reduceIte, IC, bI_0, bI_1, bF, Bool.not_eq_false, Bool.not_eq_true, Bool.and_true, Bool.true_and, Bool.and_false, Bool.false_and, Bool.true_or, Bool.or_true, Bool.or_false, Bool.false_or, Bool.not_true, Bool.not_false, decide_true, decide_false, not_true_eq_false, not_false_eq_true, eq_self, Bool.true_eq_false, Bool.false_eq_true], hr, hl, frc_rf⟩
  | true =>
    obtain ⟨e1, e2⟩ := bt_nat hb
    obtain ⟨f, e⟩ := C_way (X := X) (d := d) (m := 10) (by decide) x.toNatClampNeg (by omega) s I ok hr
    have e' := Rn_up e (show d + x.toNatClampNeg + 7 ≤ d + 39 by omega)
    rw [← e1] at e'
    exact ⟨u2r I 13 f, by simp only [Option.bind_some, List.append_nil, List.nil_append, List.cons_append, cond_true, cond_false, if_true, if_false, ite_true, ite_false, reduceIte, IC, bI_0, bI_1, bF, Bool.not_eq_false, Bool.not_eq_true, Bool.and_true, Bool.true_and, Bool.and_false, Bool.false_and, Bool.true_or, Bool.or_true, Bool.or_false, Bool.false_or, Bool.not_true, Bool.not_false, decide_true, decide_false, not_true_eq_false, not_false_eq_true, eq_self, Bool.true_eq_false, Bool.false_eq_true, RDc, e', B124_15, B124_19], hr.u13, by rw [u2r_o (by decide)]; exact hl, frc_13⟩
theorem N_far (ok : Ok s 10) : Cf X 125 [.ref 0, .int x] s (pFar s x, s) := by
  intro d D I P N ra hr hl
  simp only [B125_0, C_len, Option.bind_some, List.append_nil, List.nil_append, List.cons_append, cond_true, cond_false, if_true, if_false, ite_true, ite_false, reduceIte, IC, bI_0, bI_1, bF, Bool.not_eq_false, Bool.not_eq_true, Bool.and_true, Bool.true_and, Bool.and_false, Bool.false_and, Bool.true_or, Bool.or_true, Bool.or_false, Bool.false_or, Bool.not_true, Bool.not_false, decide_true, decide_false, not_true_eq_false, not_false_eq_true, eq_self, Bool.true_eq_false, Bool.false_eq_true, B125_4, B125_19]
  unfold pFar
  cases hb : bt x 0 4 with
  | false => exact ⟨I, by simp only [Option.bind_some, List.append_nil, List.nil_append, List.cons_append, cond_true, cond_false, if_true, if_false, ite_true, ite_false, reduceIte, IC, bI_0, bI_1, bF, Bool.not_eq_false, Bool.not_eq_true, Bool.and_true, Bool.true_and, Bool.and_false, Bool.false_and, Bool.true_or, Bool.or_true, Bool.or_false, Bool.false_or, Bool.not_true, Bool.not_false, decide_true, decide_false, not_true_eq_false, not_false_eq_true, eq_self, Bool.true_eq_false, Bool.false_eq_true], hr, hl, frc_rf⟩
  | true =>
    obtain ⟨e1, e2⟩ := bt_nat hb
    obtain ⟨f, e⟩ := C_far (X := X) (d := d) (m := 10) (by decide) x.toNatClampNeg (by omega) s I ok hr
    have e' := Rn_up e (show d + x.toNatClampNeg + 7 ≤ d + 39 by omega)
    rw [← e1] at e'
    exact ⟨u2r I 13 f, by simp only [Option.bind_some, List.append_nil, List.nil_append, List.cons_append, cond_true, cond_false, if_true, if_false, ite_true, ite_false, reduceIte, IC, bI_0, bI_1, bF, Bool.not_eq_false, Bool.not_eq_true, Bool.and_true, Bool.true_and, Bool.and_false, Bool.false_and, Bool.true_or, Bool.or_true, Bool.or_false, Bool.false_or, Bool.not_true, Bool.not_false, decide_true, decide_false, not_true_eq_false, not_false_eq_true, eq_self, Bool.true_eq_false, Bool.false_eq_true, RDc, e', B125_15, B125_19], hr.u13, by rw [u2r_o (by decide)]; exact hl, frc_13⟩
theorem kf_non (h : -1 ≤ v.toInt) : kfV (-3) v = nonV v := by
  unfold kfV nonV
  have e3 : (-3 : Int32).toInt = -3 := rfl
  by_cases hv : v < 0
  · have h2 : ¬ 0 ≤ v := by rw [i_nle]; exact hv
    rw [if_pos hv, if_neg h2]
  · have h2 : 0 ≤ v := by rw [← i_nlt]; exact hv
    rw [if_neg hv, if_pos h2]
    unfold imx
    rw [if_neg (by rw [Int32.le_iff_toInt_le, e3]; omega)]
theorem N_kin (ok : Ok s 10) : Cf X 126 [.ref 0, .int x] s (pKin s x, s) := by
  intro d D I P N ra hr hl
  simp only [B126_0, C_len, Option.bind_some, List.append_nil, List.nil_append, List.cons_append, cond_true, cond_false, if_true, if_false, ite_true, ite_false, reduceIte, IC, bI_0, bI_1, bF, Bool.not_eq_false, Bool.not_eq_true, Bool.and_true, Bool.true_and, Bool.and_false, Bool.false_and, Bool.true_or, Bool.or_true, Bool.or_false, Bool.false_or, Bool.not_true, Bool.not_false, decide_true, decide_false, not_true_eq_false, not_false_eq_true, eq_self, Bool.true_eq_false, Bool.false_eq_true, B126_4, B126_21]
  unfold pKin
  cases hb : bt x 0 4 with
  | false => exact ⟨I, by simp only [Option.bind_some, List.append_nil, List.nil_append, List.cons_append, cond_true, cond_false, if_true, if_false, ite_true, ite_false, reduceIte, IC, bI_0, bI_1, bF, Bool.not_eq_false, Bool.not_eq_true, Bool.and_true, Bool.true_and, Bool.and_false, Bool.false_and, Bool.true_or, Bool.or_true, Bool.or_false, Bool.false_or, Bool.not_true, Bool.not_false, decide_true, decide_false, not_true_eq_false, not_false_eq_true, eq_self, Bool.true_eq_false, Bool.false_eq_true, B126_21], hr, hl, frc_rf⟩
  | true =>
    obtain ⟨e1, e2⟩ := bt_nat hb
    obtain ⟨f, e⟩ := C_kin (X := X) (d := d) (m := 10) (by decide) x.toNatClampNeg (by omega) s I (-3) ok hr
    have e' := Rn_up e (show d + x.toNatClampNeg + 7 ≤ d + 39 by omega)
    rw [← e1, kf_non (kin_b (m := 10) (by decide) _ s ok).1] at e'
    exact ⟨u2r I 13 f, by simp only [Option.bind_some, List.append_nil, List.nil_append, List.cons_append, cond_true, cond_false, if_true, if_false, ite_true, ite_false, reduceIte, IC, bI_0, bI_1, bF, Bool.not_eq_false, Bool.not_eq_true, Bool.and_true, Bool.true_and, Bool.and_false, Bool.false_and, Bool.true_or, Bool.or_true, Bool.or_false, Bool.false_or, Bool.not_true, Bool.not_false, decide_true, decide_false, not_true_eq_false, not_false_eq_true, eq_self, Bool.true_eq_false, Bool.false_eq_true, RDc, e', B126_17, B126_21], hr.u13, by rw [u2r_o (by decide)]; exact hl, frc_13⟩
theorem N_gam (ok : Ok s 10) : Cf X 131 [.ref 0, .int x] s (pGam s x, s) := by
  intro d D I P N ra hr hl
  simp only [B131_0, C_btw, L32, Option.bind_some, List.append_nil, List.nil_append, List.cons_append, cond_true, cond_false, if_true, if_false, ite_true, ite_false, reduceIte, IC, bI_0, bI_1, bF, Bool.not_eq_false, Bool.not_eq_true, Bool.and_true, Bool.true_and, Bool.and_false, Bool.false_and, Bool.true_or, Bool.or_true, Bool.or_false, Bool.false_or, Bool.not_true, Bool.not_false, decide_true, decide_false, not_true_eq_false, not_false_eq_true, eq_self, Bool.true_eq_false, Bool.false_eq_true, B131_6, B131_21]
  unfold pGam
  cases hb : bt x 1 4 with
  | false => exact ⟨I, by simp only [Option.bind_some, List.append_nil, List.nil_append, List.cons_append, cond_true, cond_false, if_true, if_false, ite_true, ite_false, reduceIte, IC, bI_0, bI_1, bF, Bool.not_eq_false, Bool.not_eq_true, Bool.and_true, Bool.true_and, Bool.and_false, Bool.false_and, Bool.true_or, Bool.or_true, Bool.or_false, Bool.false_or, Bool.not_true, Bool.not_false, decide_true, decide_false, not_true_eq_false, not_false_eq_true, eq_self, Bool.true_eq_false, Bool.false_eq_true], hr, hl, frc_rf⟩
  | true =>
    have hb2 := bt_iff.mp hb
    have e1 : x = Int32.ofNat x.toNatClampNeg := iN_of (by omega)
    have e2 := cl_ti (x := x) (by omega)
    obtain ⟨f, e⟩ := C_val (X := X) (d := d) (m := 10) (by decide) x.toNatClampNeg (by omega) s I ok hr
    have e' := Rn_up e (show d + x.toNatClampNeg + 7 ≤ d + 39 by omega)
    rw [← e1] at e'
    exact ⟨u2r I 13 f, by simp only [Option.bind_some, List.append_nil, List.nil_append, List.cons_append, cond_true, cond_false, if_true, if_false, ite_true, ite_false, reduceIte, IC, bI_0, bI_1, bF, Bool.not_eq_false, Bool.not_eq_true, Bool.and_true, Bool.true_and, Bool.and_false, Bool.false_and, Bool.true_or, Bool.or_true, Bool.or_false, Bool.false_or, Bool.not_true, Bool.not_false, decide_true, decide_false, not_true_eq_false, not_false_eq_true, eq_self, Bool.true_eq_false, Bool.false_eq_true, RDc, e', B131_17, B131_21], hr.u13, by rw [u2r_o (by decide)]; exact hl, frc_13⟩
theorem N_ply (ok : Ok s 10) : Cf X 132 [.ref 0, .int x] s (pPly s x, s) := by
  intro d D I P N ra hr hl
  simp only [B132_0, C_btw, L32, Option.bind_some, List.append_nil, List.nil_append, List.cons_append, cond_true, cond_false, if_true, if_false, ite_true, ite_false, reduceIte, IC, bI_0, bI_1, bF, Bool.not_eq_false, Bool.not_eq_true, Bool.and_true, Bool.true_and, Bool.and_false, Bool.false_and, Bool.true_or, Bool.or_true, Bool.or_false, Bool.false_or, Bool.not_true, Bool.not_false, decide_true, decide_false, not_true_eq_false, not_false_eq_true, eq_self, Bool.true_eq_false, Bool.false_eq_true, B132_6, B132_21]
  unfold pPly
  cases hb : bt x 1 4 with
  | false => exact ⟨I, by simp only [Option.bind_some, List.append_nil, List.nil_append, List.cons_append, cond_true, cond_false, if_true, if_false, ite_true, ite_false, reduceIte, IC, bI_0, bI_1, bF, Bool.not_eq_false, Bool.not_eq_true, Bool.and_true, Bool.true_and, Bool.and_false, Bool.false_and, Bool.true_or, Bool.or_true, Bool.or_false, Bool.false_or, Bool.not_true, Bool.not_false, decide_true, decide_false, not_true_eq_false, not_false_eq_true, eq_self, Bool.true_eq_false, Bool.false_eq_true], hr, hl, frc_rf⟩
  | true =>
    have hb2 := bt_iff.mp hb
    have e1 : x = Int32.ofNat x.toNatClampNeg := iN_of (by omega)
    have e2 := cl_ti (x := x) (by omega)
    obtain ⟨n, hn⟩ : ∃ n, x.toNatClampNeg = n + 1 := ⟨x.toNatClampNeg - 1, by omega⟩
    obtain ⟨f, e⟩ := C_bst (X := X) (d := d) n (by omega) ok hr
    have e' := Rn_up e (show d + n + 9 ≤ d + 39 by omega)
    rw [← hn, ← e1] at e'
    refine ⟨u2r I 13 f, ?_, hr.u13, by rw [u2r_o (by decide)]; exact hl, frc_13⟩
    rw [show x.toNatClampNeg - 1 = n by omega]
    simp only [Option.bind_some, List.append_nil, List.nil_append, List.cons_append, cond_true, cond_false, if_true, if_false, ite_true, ite_false, reduceIte, IC, bI_0, bI_1, bF, Bool.not_eq_false, Bool.not_eq_true, Bool.and_true, Bool.true_and, Bool.and_false, Bool.false_and, Bool.true_or, Bool.or_true, Bool.or_false, Bool.false_or, Bool.not_true, Bool.not_false, decide_true, decide_false, not_true_eq_false, not_false_eq_true, eq_self, Bool.true_eq_false, Bool.false_eq_true, RDc, e', B132_17, B132_21]
end ClsJ
