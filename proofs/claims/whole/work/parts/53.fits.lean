/-! what fits: class and reference; anew, change, reports of the class -/
def R8 (I : Nat → Nat → Int32) (x y z : Int32) : Nat → Nat → Int32 := u2 (u2 (u2 I 65 7 x) 65 8 y) 65 9 z
def ftF (s : Nat → Int32) (but : Int32) (h : Nat) (acc : Nat × Nat × Nat) : Nat × Nat × Nat := bif fitV s but h then (acc.1 + 1, (if acc.1 = 0 then h else acc.2.1), h) else acc
section Fits
variable {X : mX} {d : Nat} {D : Nat → Nat × Nat} {I : Nat → Nat → Int32} {P : Nat → Nat → Option Nat} {N : Nat} {h : mH} {s s' g S r f f' F c : Nat → Int32} {J J' I' : Nat → Nat → Int32} {ra : Nat → Nat} {L : List Nat} {m : Int} {i j k n p q t : Nat} {x y v w a b e z fl : Int32}
theorem R8_7 : R8 I x y z 65 7 = x := rfl
theorem R8_8 : R8 I x y z 65 8 = y := rfl
theorem R8_9 : R8 I x y z 65 9 = z := rfl
theorem R8_66 : R8 I x y z 66 = I 66 := rfl
theorem R8_w7 : u2 (R8 I x y z) 65 7 v = R8 I v y z := by
  funext b k; unfold R8 u2
  by_cases hb : b = 65
  · subst hb; simp only [if_true]; unfold upd
    by_cases h9 : k = 9
    · simp [h9]
    · by_cases h8 : k = 8
      · simp [h8]
      · simp [h9, h8]; split <;> rfl
  · simp [hb]
theorem R8_w8 : u2 (R8 I x y z) 65 8 v = R8 I x v z := by
  funext b k; unfold R8 u2
  by_cases hb : b = 65
  · subst hb; simp only [if_true]; unfold upd
    by_cases h9 : k = 9
    · simp [h9]
    · by_cases h8 : k = 8
      · simp [h8]
      · simp [h9, h8]
  · simp [hb]
theorem R8_w9 : u2 (R8 I x y z) 65 9 v = R8 I x y v := by
  funext b k; unfold R8 u2
  by_cases hb : b = 65
  · subst hb; simp only [if_true]; unfold upd
    by_cases h9 : k = 9
    · simp [h9]
    · simp [h9]
  · simp [hb]
theorem R8_id : R8 I (I 65 7) (I 65 8) (I 65 9) = I := by
  funext b k; unfold R8 u2
  by_cases hb : b = 65
  · subst hb; simp only [if_true]; unfold upd
    by_cases h9 : k = 9
    · simp [h9]
    · by_cases h8 : k = 8
      · simp [h8]
      · simp [h9, h8]; intro h; rw [h]
  · simp [hb]
theorem Sc_8 : Sc I (R8 I x y z) := by
  refine ⟨fun a ha => ?_, ⟨rfl, rfl, rfl, rfl, rfl, rfl, rfl, rfl, rfl, rfl, rfl⟩, rfl, rfl, rfl, rfl⟩
  unfold R8; rw [u2_o (by omega), u2_o (by omega), u2_o (by omega)]
theorem bI_eq {a b : Bool} : (bI a = bI b) = (a = b) := by cases a <;> cases b <;> simp +decide [bI]
theorem M_fi1 (g : Gd (I 66) m) : ∀ k r acc (l5 l6 : Value), r + k = ctE (I 66) → ∃ l5' l6', Rn X d 223 18 [.ref 65, .int w, .int (Int32.ofNat n), .int (bI acc), .int (Int32.ofNat r), l5, l6] [] (Mh D I P N)
      = Rn X d 223 18 [.ref 65, .int w, .int (Int32.ofNat n), .int (bI (foldA (fun r acc => acc && fit1 (I 66) w n r) r k acc)), .int (Int32.ofNat (ctE (I 66))), l5', l6'] [] (Mh D I P N)
  | 0, r, acc, l5, l6, hk => ⟨l5, l6, by rw [show r = ctE (I 66) by omega]; rfl⟩
  | k + 1, r, acc, l5, l6, hk => by
    have h3 := g.n3
    have tail : ∀ held, ∃ l5' l6', Rn X d 223 64 [.ref 65, .int w, .int (Int32.ofNat n), .int (bI acc), .int (Int32.ofNat r), .int (Int32.ofNat (68 + 3 * r)), l6] [.int (bI held)] (Mh D I P N)
        = Rn X d 223 18 [.ref 65, .int w, .int (Int32.ofNat n), .int (bI (foldA (fun r acc => acc && fit1 (I 66) w n r) (r + 1) k (acc && (decide (Int32.ofNat r = w) || (held == decide (I 66 (68 + 3 * r + 2) = 1)))))), .int (Int32.ofNat (ctE (I 66))), l5', l6'] [] (Mh D I P N) := by
      intro held
      rw [B223_64]
      cases acc with
      | false =>
        simp only [Option.bind_some, List.append_nil, List.nil_append, List.cons_append, cond_true, cond_false, if_true, if_false, ite_true, ite_false, reduceIte, IC, bI_0, bI_1, bF, Bool.not_eq_false, Bool.not_eq_true, Bool.and_true, Bool.true_and, Bool.and_false, Bool.false_and, Bool.true_or, Bool.or_true, Bool.or_false, Bool.false_or, Bool.not_true, Bool.not_false, decide_true, decide_false, not_true_eq_false, not_false_eq_true, eq_self, Bool.true_eq_false, Bool.false_eq_true, B223_103, B223_104, IX]
        exact M_fi1 g k (r + 1) false _ _ (by omega)
      | true =>
        by_cases hw : Int32.ofNat r = w
        · simp only [hw, Option.bind_some, List.append_nil, List.nil_append, List.cons_append, cond_true, cond_false, if_true, if_false, ite_true, ite_false, reduceIte, IC, bI_0, bI_1, bF, Bool.not_eq_false, Bool.not_eq_true, Bool.and_true, Bool.true_and, Bool.and_false, Bool.false_and, Bool.true_or, Bool.or_true, Bool.or_false, Bool.false_or, Bool.not_true, Bool.not_false, decide_true, decide_false, not_true_eq_false, not_false_eq_true, eq_self, Bool.true_eq_false, Bool.false_eq_true, B223_99, B223_104]
          rw [← hw, iN_succ]
          have := M_fi1 g k (r + 1) true (.int (Int32.ofNat (68 + 3 * r))) (.int (bI held)) (by omega)
          rw [← hw] at this
          exact this
        · simp (disch := omega) only [hw, Option.bind_some, List.append_nil, List.nil_append, List.cons_append, cond_true, cond_false, if_true, if_false, ite_true, ite_false, reduceIte, IC, bI_0, bI_1, bF, Bool.not_eq_false, Bool.not_eq_true, Bool.and_true, Bool.true_and, Bool.and_false, Bool.false_and, Bool.true_or, Bool.or_true, Bool.or_false, Bool.false_or, Bool.not_true, Bool.not_false, decide_true, decide_false, not_true_eq_false, not_false_eq_true, eq_self, Bool.true_eq_false, Bool.false_eq_true, RDm, IX, rS]
          by_cases h1 : I 66 (68 + 3 * r + 2) = 1
          · simp only [h1, Option.bind_some, List.append_nil, List.nil_append, List.cons_append, cond_true, cond_false, if_true, if_false, ite_true, ite_false, reduceIte, IC, bI_0, bI_1, bF, Bool.not_eq_false, Bool.not_eq_true, Bool.and_true, Bool.true_and, Bool.and_false, Bool.false_and, Bool.true_or, Bool.or_true, Bool.or_false, Bool.false_or, Bool.not_true, Bool.not_false, decide_true, decide_false, not_true_eq_false, not_false_eq_true, eq_self, Bool.true_eq_false, Bool.false_eq_true, B223_96]
            cases held with
            | true =>
              simp only [bI_t, Option.bind_some, List.append_nil, List.nil_append, List.cons_append, cond_true, cond_false, if_true, if_false, ite_true, ite_false, reduceIte, IC, bI_0, bI_1, bF, Bool.not_eq_false, Bool.not_eq_true, Bool.and_true, Bool.true_and, Bool.and_false, Bool.false_and, Bool.true_or, Bool.or_true, Bool.or_false, Bool.false_or, Bool.not_true, Bool.not_false, decide_true, decide_false, not_true_eq_false, not_false_eq_true, eq_self, Bool.true_eq_false, Bool.false_eq_true, B223_99, B223_104, IX]
              exact M_fi1 g k (r + 1) true _ _ (by omega)
            | false =>
              simp +decide only [bI_f, Option.bind_some, List.append_nil, List.nil_append, List.cons_append, cond_true, cond_false, if_true, if_false, ite_true, ite_false, reduceIte, IC, bI_0, bI_1, bF, Bool.not_eq_false, Bool.not_eq_true, Bool.and_true, Bool.true_and, Bool.and_false, Bool.false_and, Bool.true_or, Bool.or_true, Bool.or_false, Bool.false_or, Bool.not_true, Bool.not_false, decide_true, decide_false, not_true_eq_false, not_false_eq_true, eq_self, Bool.true_eq_false, Bool.false_eq_true, B223_103, B223_104, IX]
              exact M_fi1 g k (r + 1) false _ _ (by omega)
          · simp only [h1, Option.bind_some, List.append_nil, List.nil_append, List.cons_append, cond_true, cond_false, if_true, if_false, ite_true, ite_false, reduceIte, IC, bI_0, bI_1, bF, Bool.not_eq_false, Bool.not_eq_true, Bool.and_true, Bool.true_and, Bool.and_false, Bool.false_and, Bool.true_or, Bool.or_true, Bool.or_false, Bool.false_or, Bool.not_true, Bool.not_false, decide_true, decide_false, not_true_eq_false, not_false_eq_true, eq_self, Bool.true_eq_false, Bool.false_eq_true, B223_96]
            cases held with
            | true =>
              simp +decide only [bI_t, Option.bind_some, List.append_nil, List.nil_append, List.cons_append, cond_true, cond_false, if_true, if_false, ite_true, ite_false, reduceIte, IC, bI_0, bI_1, bF, Bool.not_eq_false, Bool.not_eq_true, Bool.and_true, Bool.true_and, Bool.and_false, Bool.false_and, Bool.true_or, Bool.or_true, Bool.or_false, Bool.false_or, Bool.not_true, Bool.not_false, decide_true, decide_false, not_true_eq_false, not_false_eq_true, eq_self, Bool.true_eq_false, Bool.false_eq_true, B223_103, B223_104, IX]
              exact M_fi1 g k (r + 1) false _ _ (by omega)
            | false =>
              simp only [bI_f, Option.bind_some, List.append_nil, List.nil_append, List.cons_append, cond_true, cond_false, if_true, if_false, ite_true, ite_false, reduceIte, IC, bI_0, bI_1, bF, Bool.not_eq_false, Bool.not_eq_true, Bool.and_true, Bool.true_and, Bool.and_false, Bool.false_and, Bool.true_or, Bool.or_true, Bool.or_false, Bool.false_or, Bool.not_true, Bool.not_false, decide_true, decide_false, not_true_eq_false, not_false_eq_true, eq_self, Bool.true_eq_false, Bool.false_eq_true, B223_99, B223_104, IX]
              exact M_fi1 g k (r + 1) true _ _ (by omega)
    rw [B223_18]
    simp (disch := omega) only [RDm, Option.bind_some, List.append_nil, List.nil_append, List.cons_append, cond_true, cond_false, if_true, if_false, ite_true, ite_false, reduceIte, IC, bI_0, bI_1, bF, Bool.not_eq_false, Bool.not_eq_true, Bool.and_true, Bool.true_and, Bool.and_false, Bool.false_and, Bool.true_or, Bool.or_true, Bool.or_false, Bool.false_or, Bool.not_true, Bool.not_false, decide_true, decide_false, not_true_eq_false, not_false_eq_true, eq_self, Bool.true_eq_false, Bool.false_eq_true, h3.1, iN_le]
    rw [if_neg (by omega)]
    simp (disch := omega) only [RDm, Option.bind_some, List.append_nil, List.nil_append, List.cons_append, cond_true, cond_false, if_true, if_false, ite_true, ite_false, reduceIte, IC, bI_0, bI_1, bF, Bool.not_eq_false, Bool.not_eq_true, Bool.and_true, Bool.true_and, Bool.and_false, Bool.false_and, Bool.true_or, Bool.or_true, Bool.or_false, Bool.false_or, Bool.not_true, Bool.not_false, decide_true, decide_false, not_true_eq_false, not_false_eq_true, eq_self, Bool.true_eq_false, Bool.false_eq_true, IX, rS]
    have hf : foldA (fun r acc => acc && fit1 (I 66) w n r) r (k + 1) acc = foldA (fun r acc => acc && fit1 (I 66) w n r) (r + 1) k (acc && fit1 (I 66) w n r) := rfl
    rw [hf]
    unfold fit1
    by_cases hh : I 66 (68 + 3 * r + 1) - I 66 (68 + 3 * r) < Int32.ofNat n
    · have hn : ¬ Int32.ofNat n ≤ I 66 (68 + 3 * r + 1) - I 66 (68 + 3 * r) := by rw [i_nle]; exact hh
      rw [if_neg hn, decide_eq_true hh]
      exact tail true
    · have hn : Int32.ofNat n ≤ I 66 (68 + 3 * r + 1) - I 66 (68 + 3 * r) := by rw [← i_nlt]; exact hh
      rw [if_pos hn, decide_eq_false hh]
      exact tail false
def ftR (acc : Nat × Nat × Nat) (y z : Int32) : Prop := 0 < acc.1 → y = Int32.ofNat acc.2.1 ∧ z = Int32.ofNat acc.2.2
theorem M_ff1 (g : Gd (I 66) m) : ∀ k t (acc : Nat × Nat × Nat) y z (l3 l4 l5 l6 : Value), t + k = 61 → acc.1 ≤ t → ftR acc y z → ∃ y' z', ftR (foldA (ftF (I 66) w) t k acc) y' z' ∧
    Rn X d 223 7 [.ref 65, .int w, .int (Int32.ofNat t), l3, l4, l5, l6] [] (Mh D (R8 I (Int32.ofNat acc.1) y z) P N) = some ([], Mh D (R8 I (Int32.ofNat (foldA (ftF (I 66) w) t k acc).1) y' z') P N)
  | 0, t, acc, y, z, l3, l4, l5, l6, hk, ha, hf => by
    refine ⟨y, z, hf, ?_⟩
    rw [B223_7, if_pos (le_y (l := 61) (n := 61) rfl (by omega) (by omega) (by omega))]; rfl
  | k + 1, t, acc, y, z, l3, l4, l5, l6, hk, ha, hf => by
    have h3 := g.n3
    obtain ⟨l5', l6', e1⟩ := M_fi1 (X := X) (d := d) (D := D) (I := R8 I (Int32.ofNat acc.1) y z) (P := P) (N := N) (w := w) (n := t) (m := m) g (ctE (I 66)) 0 true l5 l6 (by rw [R8_66]; omega)
    rw [R8_66] at e1
    rw [B223_7, if_neg (le_n (l := 61) (n := 61) rfl (by omega) (by omega) (by omega))]
    have e1' : Rn X d 223 18 [.ref 65, .int w, .int (Int32.ofNat t), .int 1, .int 0, l5, l6] [] (Mh D (R8 I (Int32.ofNat acc.1) y z) P N) = _ := e1
    rw [e1']
    have hv : foldA (fun r acc => acc && fit1 (I 66) w t r) 0 (ctE (I 66)) true = fitV (I 66) w t := rfl
    rw [hv, B223_18]
    simp (disch := omega) only [RDm, Option.bind_some, List.append_nil, List.nil_append, List.cons_append, cond_true, cond_false, if_true, if_false, ite_true, ite_false, reduceIte, IC, bI_0, bI_1, bF, Bool.not_eq_false, Bool.not_eq_true, Bool.and_true, Bool.true_and, Bool.and_false, Bool.false_and, Bool.true_or, Bool.or_true, Bool.or_false, Bool.false_or, Bool.not_true, Bool.not_false, decide_true, decide_false, not_true_eq_false, not_false_eq_true, eq_self, Bool.true_eq_false, Bool.false_eq_true, R8_66, h3.1, iN_le]
    rw [if_pos (Nat.le_refl _)]
    have hF : foldA (ftF (I 66) w) t (k + 1) acc = foldA (ftF (I 66) w) (t + 1) k (ftF (I 66) w t acc) := rfl
    rw [hF]
    unfold ftF
    cases hv2 : fitV (I 66) w t with
    | false =>
      simp only [Option.bind_some, List.append_nil, List.nil_append, List.cons_append, cond_true, cond_false, if_true, if_false, ite_true, ite_false, reduceIte, IC, bI_0, bI_1, bF, Bool.not_eq_false, Bool.not_eq_true, Bool.and_true, Bool.true_and, Bool.and_false, Bool.false_and, Bool.true_or, Bool.or_true, Bool.or_false, Bool.false_or, Bool.not_true, Bool.not_false, decide_true, decide_false, not_true_eq_false, not_false_eq_true, eq_self, Bool.true_eq_false, Bool.false_eq_true, B223_149, IX]
      exact M_ff1 g k (t + 1) acc y z _ _ _ _ (by omega) (by omega) hf
    | true =>
      simp only [Option.bind_some, List.append_nil, List.nil_append, List.cons_append, cond_true, cond_false, if_true, if_false, ite_true, ite_false, reduceIte, IC, bI_0, bI_1, bF, Bool.not_eq_false, Bool.not_eq_true, Bool.and_true, Bool.true_and, Bool.and_false, Bool.false_and, Bool.true_or, Bool.or_true, Bool.or_false, Bool.false_or, Bool.not_true, Bool.not_false, decide_true, decide_false, not_true_eq_false, not_false_eq_true, eq_self, Bool.true_eq_false, Bool.false_eq_true, R8_7, iN_z (show acc.1 < 2147483648 by omega)]
      by_cases h0 : acc.1 = 0
      · simp only [h0, Option.bind_some, List.append_nil, List.nil_append, List.cons_append, cond_true, cond_false, if_true, if_false, ite_true, ite_false, reduceIte, IC, bI_0, bI_1, bF, Bool.not_eq_false, Bool.not_eq_true, Bool.and_true, Bool.true_and, Bool.and_false, Bool.false_and, Bool.true_or, Bool.or_true, Bool.or_false, Bool.false_or, Bool.not_true, Bool.not_false, decide_true, decide_false, not_true_eq_false, not_false_eq_true, eq_self, Bool.true_eq_false, Bool.false_eq_true, B223_131, WRm, R8_w8, R8_w9, RDm, R8_7, R8_w7, B223_149, IX]
        have hz : Int32.ofNat 0 + 1 = Int32.ofNat 1 := rfl
        exact M_ff1 g k (t + 1) (0 + 1, t, t) (Int32.ofNat t) (Int32.ofNat t) _ _ _ _ (by omega) (by show 0 + 1 ≤ t + 1; omega) (fun _ => ⟨rfl, rfl⟩)
      · have hp := hf (by omega)
        simp only [h0, Option.bind_some, List.append_nil, List.nil_append, List.cons_append, cond_true, cond_false, if_true, if_false, ite_true, ite_false, reduceIte, IC, bI_0, bI_1, bF, Bool.not_eq_false, Bool.not_eq_true, Bool.and_true, Bool.true_and, Bool.and_false, Bool.false_and, Bool.true_or, Bool.or_true, Bool.or_false, Bool.false_or, Bool.not_true, Bool.not_false, decide_true, decide_false, not_true_eq_false, not_false_eq_true, eq_self, Bool.true_eq_false, Bool.false_eq_true, R8_8, B223_131, WRm, R8_w8, R8_w9, RDm, R8_7, R8_w7, B223_149, IX]
        exact M_ff1 g k (t + 1) (acc.1 + 1, acc.2.1, t) y (Int32.ofNat t) _ _ _ _ (by omega) (by show acc.1 + 1 ≤ t + 1; omega) (fun _ => ⟨hp.1, rfl⟩)
theorem fit_le : ∀ k t (acc : Nat × Nat × Nat), (foldA (ftF s w) t k acc).1 ≤ acc.1 + k
  | 0, _, _ => Nat.le_refl _
  | k + 1, t, acc => by
    have h := fit_le k (t + 1) (ftF s w t acc)
    have h2 : (ftF s w t acc).1 ≤ acc.1 + 1 := by
      unfold ftF; cases fitV s w t
      · exact Nat.le_succ _
      · exact Nat.le_refl _
    show (foldA (ftF s w) (t + 1) k (ftF s w t acc)).1 ≤ _
    omega
theorem fitC_e : fitC s w = foldA (ftF s w) 1 60 (0, 0, 0) := rfl
theorem M_ff (g : Gd (I 66) m) : ∃ y' z', ftR (fitC (I 66) w) y' z' ∧ Rn X d 223 0 [.ref 65, .int w, U_, U_, U_, U_, U_] [] (Mh D (R8 I x y z) P N) = some ([], Mh D (R8 I (Int32.ofNat (fitC (I 66) w).1) y' z') P N) := by
  obtain ⟨y', z', h1, e⟩ := M_ff1 (X := X) (d := d) (D := D) (P := P) (N := N) (w := w) g 60 1 (0, 0, 0) y z U_ U_ U_ U_ rfl (by decide) (fun h => by cases h)
  refine ⟨y', z', h1, ?_⟩
  rw [B223_0]
  simp only [WRm, Option.bind_some, List.append_nil, List.nil_append, List.cons_append, cond_true, cond_false, if_true, if_false, ite_true, ite_false, reduceIte, IC, bI_0, bI_1, bF, Bool.not_eq_false, Bool.not_eq_true, Bool.and_true, Bool.true_and, Bool.and_false, Bool.false_and, Bool.true_or, Bool.or_true, Bool.or_false, Bool.false_or, Bool.not_true, Bool.not_false, decide_true, decide_false, not_true_eq_false, not_false_eq_true, eq_self, Bool.true_eq_false, Bool.false_eq_true, R8_w7]
  exact e
theorem F_spn (g : Gd (I 66) m) : Rf X I 224 [.ref 65, .int x] (pSpn (I 66) x, I 66) := by
  intro d D P N
  simp only [B224_0, Option.bind_some, List.append_nil, List.nil_append, List.cons_append, cond_true, cond_false, if_true, if_false, ite_true, ite_false, reduceIte, IC, bI_0, bI_1, bF, Bool.not_eq_false, Bool.not_eq_true, Bool.and_true, Bool.true_and, Bool.and_false, Bool.false_and, Bool.true_or, Bool.or_true, Bool.or_false, Bool.false_or, Bool.not_true, Bool.not_false, decide_true, decide_false, not_true_eq_false, not_false_eq_true, eq_self, Bool.true_eq_false, Bool.false_eq_true, M_bt, L64, B224_9]
  unfold pSpn
  cases hb : bt x 0 2 with
  | false => exact ⟨I, by simp only [Option.bind_some, List.append_nil, List.nil_append, List.cons_append, cond_true, cond_false, if_true, if_false, ite_true, ite_false, reduceIte, IC, bI_0, bI_1, bF, Bool.not_eq_false, Bool.not_eq_true, Bool.and_true, Bool.true_and, Bool.and_false, Bool.false_and, Bool.true_or, Bool.or_true, Bool.or_false, Bool.false_or, Bool.not_true, Bool.not_false, decide_true, decide_false, not_true_eq_false, not_false_eq_true, eq_self, Bool.true_eq_false, Bool.false_eq_true], Sc_id⟩
  | true =>
    obtain ⟨y', z', h1, e⟩ := M_ff (X := X) (d := d + 39) (D := D) (P := P) (N := N) (w := -1) (x := I 65 7) (y := I 65 8) (z := I 65 9) g
    rw [R8_id] at e
    have hle := fit_le (s := I 66) (w := -1) 60 1 (0, 0, 0)
    rw [← fitC_e] at hle
    refine ⟨R8 I (Int32.ofNat (fitC (I 66) (-1)).1) y' z', ?_, by show Sc (u2r I 66 (I 66)) _; rw [u2r_id]; exact Sc_8⟩
    simp only [Option.bind_some, List.append_nil, List.nil_append, List.cons_append, cond_true, cond_false, if_true, if_false, ite_true, ite_false, reduceIte, IC, bI_0, bI_1, bF, Bool.not_eq_false, Bool.not_eq_true, Bool.and_true, Bool.true_and, Bool.and_false, Bool.false_and, Bool.true_or, Bool.or_true, Bool.or_false, Bool.false_or, Bool.not_true, Bool.not_false, decide_true, decide_false, not_true_eq_false, not_false_eq_true, eq_self, Bool.true_eq_false, Bool.false_eq_true, e, B224_19]
    by_cases h0 : x = 0
    · simp only [h0, Option.bind_some, List.append_nil, List.nil_append, List.cons_append, cond_true, cond_false, if_true, if_false, ite_true, ite_false, reduceIte, IC, bI_0, bI_1, bF, Bool.not_eq_false, Bool.not_eq_true, Bool.and_true, Bool.true_and, Bool.and_false, Bool.false_and, Bool.true_or, Bool.or_true, Bool.or_false, Bool.false_or, Bool.not_true, Bool.not_false, decide_true, decide_false, not_true_eq_false, not_false_eq_true, eq_self, Bool.true_eq_false, Bool.false_eq_true, RDm, R8_7, B224_58]
    · simp (disch := omega) only [h0, Option.bind_some, List.append_nil, List.nil_append, List.cons_append, cond_true, cond_false, if_true, if_false, ite_true, ite_false, reduceIte, IC, bI_0, bI_1, bF, Bool.not_eq_false, Bool.not_eq_true, Bool.and_true, Bool.true_and, Bool.and_false, Bool.false_and, Bool.true_or, Bool.or_true, Bool.or_false, Bool.false_or, Bool.not_true, Bool.not_false, decide_true, decide_false, not_true_eq_false, not_false_eq_true, eq_self, Bool.true_eq_false, Bool.false_eq_true, RDm, R8_7, R8_8, R8_9, iN_z]
      by_cases hc : (fitC (I 66) (-1)).1 = 0
      · simp only [hc, Option.bind_some, List.append_nil, List.nil_append, List.cons_append, cond_true, cond_false, if_true, if_false, ite_true, ite_false, reduceIte, IC, bI_0, bI_1, bF, Bool.not_eq_false, Bool.not_eq_true, Bool.and_true, Bool.true_and, Bool.and_false, Bool.false_and, Bool.true_or, Bool.or_true, Bool.or_false, Bool.false_or, Bool.not_true, Bool.not_false, decide_true, decide_false, not_true_eq_false, not_false_eq_true, eq_self, Bool.true_eq_false, Bool.false_eq_true, B224_58]
      · have h2 := h1 (by omega)
        by_cases hx1 : x = 1
        · simp only [hc, hx1, Option.bind_some, List.append_nil, List.nil_append, List.cons_append, cond_true, cond_false, if_true, if_false, ite_true, ite_false, reduceIte, IC, bI_0, bI_1, bF, Bool.not_eq_false, Bool.not_eq_true, Bool.and_true, Bool.true_and, Bool.and_false, Bool.false_and, Bool.true_or, Bool.or_true, Bool.or_false, Bool.false_or, Bool.not_true, Bool.not_false, decide_true, decide_false, not_true_eq_false, not_false_eq_true, eq_self, Bool.true_eq_false, Bool.false_eq_true, B224_58, h2.1]
        · simp only [hc, hx1, Option.bind_some, List.append_nil, List.nil_append, List.cons_append, cond_true, cond_false, if_true, if_false, ite_true, ite_false, reduceIte, IC, bI_0, bI_1, bF, Bool.not_eq_false, Bool.not_eq_true, Bool.and_true, Bool.true_and, Bool.and_false, Bool.false_and, Bool.true_or, Bool.or_true, Bool.or_false, Bool.false_or, Bool.not_true, Bool.not_false, decide_true, decide_false, not_true_eq_false, not_false_eq_true, eq_self, Bool.true_eq_false, Bool.false_eq_true, B224_58, h2.2]
theorem M_lia1 (g : Gd (I 66) m) : ∀ k r x y z, r + k = ctE (I 66) → ∃ x' y' z', Rn X (d + 1) 225 20 [.ref 65, .int 1, .int (Int32.ofNat r)] [] (Mh D (R8 I x y z) P N)
      = some ([.int (oV (findF (fun r => decide (0 < (fitC (I 66) (Int32.ofNat r)).1)) r k))], Mh D (R8 I x' y' z') P N)
  | 0, r, x, y, z, hk => by
    have h3 := g.n3
    refine ⟨x, y, z, ?_⟩
    rw [B225_20]
    simp (disch := omega) only [RDm, Option.bind_some, List.append_nil, List.nil_append, List.cons_append, cond_true, cond_false, if_true, if_false, ite_true, ite_false, reduceIte, IC, bI_0, bI_1, bF, Bool.not_eq_false, Bool.not_eq_true, Bool.and_true, Bool.true_and, Bool.and_false, Bool.false_and, Bool.true_or, Bool.or_true, Bool.or_false, Bool.false_or, Bool.not_true, Bool.not_false, decide_true, decide_false, not_true_eq_false, not_false_eq_true, eq_self, Bool.true_eq_false, Bool.false_eq_true, R8_66, h3.1, iN_le]
    rw [if_pos (by omega), B225_54]; rfl
  | k + 1, r, x, y, z, hk => by
    have h3 := g.n3
    obtain ⟨y', z', h1, e⟩ := M_ff (X := X) (d := d) (D := D) (P := P) (N := N) (w := Int32.ofNat r) (x := x) (y := y) (z := z) g
    have hle := fit_le (s := I 66) (w := Int32.ofNat r) 60 1 (0, 0, 0)
    rw [← fitC_e] at hle
    have h10 : ¬ (1 : Int32) = 0 := by decide
    rw [B225_20]
    simp (disch := omega) only [RDm, Option.bind_some, List.append_nil, List.nil_append, List.cons_append, cond_true, cond_false, if_true, if_false, ite_true, ite_false, reduceIte, IC, bI_0, bI_1, bF, Bool.not_eq_false, Bool.not_eq_true, Bool.and_true, Bool.true_and, Bool.and_false, Bool.false_and, Bool.true_or, Bool.or_true, Bool.or_false, Bool.false_or, Bool.not_true, Bool.not_false, decide_true, decide_false, not_true_eq_false, not_false_eq_true, eq_self, Bool.true_eq_false, Bool.false_eq_true, R8_66, h3.1, iN_le]
    rw [if_neg (by omega), if_neg h10]
    simp only [e, Option.bind_some, List.append_nil, List.nil_append, List.cons_append, cond_true, cond_false, if_true, if_false, ite_true, ite_false, reduceIte, IC, bI_0, bI_1, bF, Bool.not_eq_false, Bool.not_eq_true, Bool.and_true, Bool.true_and, Bool.and_false, Bool.false_and, Bool.true_or, Bool.or_true, Bool.or_false, Bool.false_or, Bool.not_true, Bool.not_false, decide_true, decide_false, not_true_eq_false, not_false_eq_true, eq_self, Bool.true_eq_false, Bool.false_eq_true, B225_39, RDm, R8_7]
    unfold findF
    by_cases hc : 0 < (fitC (I 66) (Int32.ofNat r)).1
    · have hn : ¬ Int32.ofNat (fitC (I 66) (Int32.ofNat r)).1 ≤ 0 := by rw [Int32.le_iff_toInt_le, iN_ti (by omega), z_ti]; omega
      exact ⟨_, y', z', by simp only [hn, hc, Option.bind_some, List.append_nil, List.nil_append, List.cons_append, cond_true, cond_false, if_true, if_false, ite_true, ite_false, reduceIte, IC, bI_0, bI_1, bF, Bool.not_eq_false, Bool.not_eq_true, Bool.and_true, Bool.true_and, Bool.and_false, Bool.false_and, Bool.true_or, Bool.or_true, Bool.or_false, Bool.false_or, Bool.not_true, Bool.not_false, decide_true, decide_false, not_true_eq_false, not_false_eq_true, eq_self, Bool.true_eq_false, Bool.false_eq_true]; rfl⟩
    · have hn : Int32.ofNat (fitC (I 66) (Int32.ofNat r)).1 ≤ 0 := by rw [Int32.le_iff_toInt_le, iN_ti (by omega), z_ti]; omega
      simp only [hn, hc, Option.bind_some, List.append_nil, List.nil_append, List.cons_append, cond_true, cond_false, if_true, if_false, ite_true, ite_false, reduceIte, IC, bI_0, bI_1, bF, Bool.not_eq_false, Bool.not_eq_true, Bool.and_true, Bool.true_and, Bool.and_false, Bool.false_and, Bool.true_or, Bool.or_true, Bool.or_false, Bool.false_or, Bool.not_true, Bool.not_false, decide_true, decide_false, not_true_eq_false, not_false_eq_true, eq_self, Bool.true_eq_false, Bool.false_eq_true, IX]
      exact M_lia1 g k (r + 1) _ y' z' (by omega)
theorem F_lia (g : Gd (I 66) m) : Rf X I 225 [.ref 65, U_, U_] (pLia (I 66), I 66) := by
  intro d D P N
  obtain ⟨y', z', h1, e⟩ := M_ff (X := X) (d := d + 39) (D := D) (P := P) (N := N) (w := -1) (x := I 65 7) (y := I 65 8) (z := I 65 9) g
  rw [R8_id] at e
  have hle := fit_le (s := I 66) (w := -1) 60 1 (0, 0, 0)
  rw [← fitC_e] at hle
  simp only [B225_0, Option.bind_some, List.append_nil, List.nil_append, List.cons_append, cond_true, cond_false, if_true, if_false, ite_true, ite_false, reduceIte, IC, bI_0, bI_1, bF, Bool.not_eq_false, Bool.not_eq_true, Bool.and_true, Bool.true_and, Bool.and_false, Bool.false_and, Bool.true_or, Bool.or_true, Bool.or_false, Bool.false_or, Bool.not_true, Bool.not_false, decide_true, decide_false, not_true_eq_false, not_false_eq_true, eq_self, Bool.true_eq_false, Bool.false_eq_true, e, B225_5, RDm, R8_7, iN_z (show (fitC (I 66) (-1)).1 < 2147483648 by omega), B225_17]
  unfold pLia
  by_cases hc : (fitC (I 66) (-1)).1 = 0
  · obtain ⟨x2, y2, z2, e2⟩ := M_lia1 (X := X) (d := d + 39) (D := D) (P := P) (N := N) g (ctE (I 66)) 0 (Int32.ofNat (fitC (I 66) (-1)).1) y' z' (by omega)
    refine ⟨R8 I x2 y2 z2, ?_, by show Sc (u2r I 66 (I 66)) _; rw [u2r_id]; exact Sc_8⟩
    rw [hc] at e2 ⊢
    simp only [Option.bind_some, List.append_nil, List.nil_append, List.cons_append, cond_true, cond_false, if_true, if_false, ite_true, ite_false, reduceIte, IC, bI_0, bI_1, bF, Bool.not_eq_false, Bool.not_eq_true, Bool.and_true, Bool.true_and, Bool.and_false, Bool.false_and, Bool.true_or, Bool.or_true, Bool.or_false, Bool.false_or, Bool.not_true, Bool.not_false, decide_true, decide_false, not_true_eq_false, not_false_eq_true, eq_self, Bool.true_eq_false, Bool.false_eq_true]
    exact e2
  · refine ⟨R8 I (Int32.ofNat (fitC (I 66) (-1)).1) y' z', ?_, by show Sc (u2r I 66 (I 66)) _; rw [u2r_id]; exact Sc_8⟩
    simp only [hc, Option.bind_some, List.append_nil, List.nil_append, List.cons_append, cond_true, cond_false, if_true, if_false, ite_true, ite_false, reduceIte, IC, bI_0, bI_1, bF, Bool.not_eq_false, Bool.not_eq_true, Bool.and_true, Bool.true_and, Bool.and_false, Bool.false_and, Bool.true_or, Bool.or_true, Bool.or_false, Bool.false_or, Bool.not_true, Bool.not_false, decide_true, decide_false, not_true_eq_false, not_false_eq_true, eq_self, Bool.true_eq_false, Bool.false_eq_true, B225_20, RDm, B225_54, ite_self]
end Fits
