/-! the reference reads the rules: values, conditions -/
section RefM
variable {X : mX} {d : Nat} {D : Nat → Nat × Nat} {I : Nat → Nat → Int32} {P : Nat → Nat → Option Nat} {N : Nat} {h : mH} {b : Nat → Int32} {J K K' : Nat → Nat → Int32} {n i j k p o m r : Nat} {c x a y : Int32} {v : Int64} {T : List Nat} {B C : List Int32} {A : List pSt}
theorem R2_val (hq : QR J K b n T o C) (g : Gt b n T) (hx : TxR J b n) (hl : C.length < 202) : ∃ K', Rn X (d + 5) 246 0 [.ref 65, U_] [] (Mh D K P N) = some ([], Mh D K' P N) ∧ (isV (hS b n T) = true → QR J K' b n T.tail o (C ++ [hV b n T])) ∧ (isV (hS b n T) = false → QW J K' b n T o) := by
  have ef := R2_fct (X := X) (d := d + 1) (D := D) (P := P) (N := N) hq g hx
  have h19 := hq.2.1.2
  simp only [B246_0, IC, ef, Option.bind_some, List.append_nil, List.nil_append, List.cons_append, cond_true, cond_false, if_true, if_false, ite_true, ite_false, reduceIte, IC, bI_0, bI_1, bF, Bool.not_eq_false, Bool.not_eq_true, Bool.and_true, Bool.true_and, Bool.and_false, Bool.false_and, Bool.true_or, Bool.or_true, Bool.or_false, Bool.false_or, Bool.not_true, Bool.not_false, decide_true, decide_false, not_true_eq_false, not_false_eq_true, eq_self, Bool.true_eq_false, Bool.false_eq_true, B246_4]
  by_cases hb : bt (hS b n T) 13 17 = true
  · have hr := bt_iff.mp hb
    have e12 : (12 : Int32).toInt = 12 := rfl
    have et : (12 - hS b n T).toInt = 12 - (hS b n T).toInt := by rw [t_sub (by omega) (by omega), e12]
    have hn : ¬ 0 ≤ 12 - hS b n T := by rw [Int32.le_iff_toInt_le, et, z_ti]; omega
    have h18 : ¬ hS b n T = 18 := fun e => by rw [e] at hb; exact absurd hb (by decide)
    have hv : hV b n T = 12 - hS b n T := by
      cases T with
      | nil => exact absurd (show bt (19 : Int32) 13 17 = true from hb) (by decide)
      | cons p T => exact va_ne h18
    have hi : isV (hS b n T) = true := by unfold isV; rw [hb, Bool.or_true]
    obtain ⟨K1, e1, q1, -⟩ := R2_w1 (X := X) (d := d + 1) (D := D) (P := P) (N := N) hq g hx
    obtain ⟨K2, e2, q2⟩ := R2_wri (X := X) (d := d + 4) (D := D) (P := P) (N := N) (x := 12 - hS b n T) q1 hl
    refine ⟨K2, ?_, fun _ => by rw [hv]; exact q2, fun q => by rw [hi] at q; cases q⟩
    simp only [hb, hn, Option.bind_some, List.append_nil, List.nil_append, List.cons_append, cond_true, cond_false, if_true, if_false, ite_true, ite_false, reduceIte, IC, bI_0, bI_1, bF, Bool.not_eq_false, Bool.not_eq_true, Bool.and_true, Bool.true_and, Bool.and_false, Bool.false_and, Bool.true_or, Bool.or_true, Bool.or_false, Bool.false_or, Bool.not_true, Bool.not_false, decide_true, decide_false, not_true_eq_false, not_false_eq_true, eq_self, Bool.true_eq_false, Bool.false_eq_true, IC, e1, B246_14, e2, B246_19, B246_44]
  · have hb' : bt (hS b n T) 13 17 = false := by simpa using hb
    have h00 : (0 : Int32) ≤ 0 := by decide
    obtain ⟨K1, e1, q1, q2⟩ := R2_num (X := X) (d := d) (D := D) (P := P) (N := N) (x := 9999) hq g hx
    simp only [hb, h00, Option.bind_some, List.append_nil, List.nil_append, List.cons_append, cond_true, cond_false, if_true, if_false, ite_true, ite_false, reduceIte, IC, bI_0, bI_1, bF, Bool.not_eq_false, Bool.not_eq_true, Bool.and_true, Bool.true_and, Bool.and_false, Bool.false_and, Bool.true_or, Bool.or_true, Bool.or_false, Bool.false_or, Bool.not_true, Bool.not_false, decide_true, decide_false, not_true_eq_false, not_false_eq_true, eq_self, Bool.true_eq_false, Bool.false_eq_true, RDm, h19, IC, e1, B246_36]
    by_cases h18 : hS b n T = 18
    · have hi : isV (hS b n T) = true := by unfold isV; rw [h18]; decide
      have hv := bt_iff.mp (hV_b hi)
      have hle : hV b n T ≤ 9999 := by rw [Int32.le_iff_toInt_le]; exact hv.2
      obtain ⟨q3, q4⟩ := q1 ⟨h18, hle⟩
      obtain ⟨K2, e2, q5⟩ := R2_wri (X := X) (d := d + 4) (D := D) (P := P) (N := N) (x := hV b n T) q3 hl
      refine ⟨K2, ?_, fun _ => q5, fun q => by rw [hi] at q; cases q⟩
      simp only [q4, e2, Option.bind_some, List.append_nil, List.nil_append, List.cons_append, cond_true, cond_false, if_true, if_false, ite_true, ite_false, reduceIte, IC, bI_0, bI_1, bF, Bool.not_eq_false, Bool.not_eq_true, Bool.and_true, Bool.true_and, Bool.and_false, Bool.false_and, Bool.true_or, Bool.or_true, Bool.or_false, Bool.false_or, Bool.not_true, Bool.not_false, decide_true, decide_false, not_true_eq_false, not_false_eq_true, eq_self, Bool.true_eq_false, Bool.false_eq_true, B246_44]
    · have hi : isV (hS b n T) = false := by unfold isV; rw [hb', decide_eq_false h18]; rfl
      have q3 := q2 (fun q => h18 q.1)
      refine ⟨K1, ?_, fun q => (by rw [hi] at q; cases q), fun _ => q3⟩
      simp only [R2_wrn q3, Option.bind_some, List.append_nil, List.nil_append, List.cons_append, cond_true, cond_false, if_true, if_false, ite_true, ite_false, reduceIte, IC, bI_0, bI_1, bF, Bool.not_eq_false, Bool.not_eq_true, Bool.and_true, Bool.true_and, Bool.and_false, Bool.false_and, Bool.true_or, Bool.or_true, Bool.or_false, Bool.false_or, Bool.not_true, Bool.not_false, decide_true, decide_false, not_true_eq_false, not_false_eq_true, eq_self, Bool.true_eq_false, Bool.false_eq_true, B246_44]
theorem R2_vaW (hq : QW J K b n T o) (g : Gt b n T) (hx : TxR J b n) : Rn X (d + 5) 246 0 [.ref 65, U_] [] (Mh D K P N) = some ([], Mh D K P N) := by
  have hw := R2_wrW (X := X) (d := d + 1) (D := D) (P := P) (N := N) hq g hx
  have n10 : ¬ (1 : Int32) = 0 := by decide
  have h00 : (0 : Int32) ≤ 0 := by decide
  have z : ∀ c : Int64, ¬ c = 0 → ¬ lg_cmp 0 c = 0 := fun c hc q => hc ((lg_cmp_eq _ _).mp q).symm
  simp only [B246_0, B244_0, IC, hw, Option.bind_some, List.append_nil, List.nil_append, List.cons_append, cond_true, cond_false, if_true, if_false, ite_true, ite_false, reduceIte, IC, bI_0, bI_1, bF, Bool.not_eq_false, Bool.not_eq_true, Bool.and_true, Bool.true_and, Bool.and_false, Bool.false_and, Bool.true_or, Bool.or_true, Bool.or_false, Bool.false_or, Bool.not_true, Bool.not_false, decide_true, decide_false, not_true_eq_false, not_false_eq_true, eq_self, Bool.true_eq_false, Bool.false_eq_true, B244_4, z 12455 (by decide), z 441828 (by decide), z 671108 (by decide), z 72754342 (by decide), z 492210354 (by decide), B244_70, B246_4, h00, RDm, hq.2, n10, B246_44]
theorem hB_g (hx : TxR K b n) (hc : sgn6 c = true) : (rB K n (hP n T) = c) = (hS b n T = c) := by
  rw [← hB_sg (b := b) (n := n) (T := T) hc]
  refine (rB_h (T := T) hx).eq ?_
  rcases sgn6_c hc with rfl | rfl | rfl | rfl | rfl | rfl <;> decide
theorem R2_cmp (hq : QR J K b n T o (B ++ exL A)) (g : Gt b n T) (hx : TxR J b n) (hl : B.length + (exL A).length ≤ hP n T) : ∃ K', Rn X (d + 6) 247 0 [.ref 65, U_] [] (Mh D K P N) = some ([], Mh D K' P N) ∧ QE J K' b n (cmpP (hS b n) (hV b n) T A) o B := by
  have hn := hx.2.1
  have g1 := gt_tl g
  have g2 := gt_tl g1
  have p1 := gt_P g
  have p2 := gt_P g1
  have p3 := gt_P g2
  have n10 : ¬ (1 : Int32) = 0 := by decide
  have hC : (B ++ exL A).length ≤ hP n T := by rw [List.length_append]; exact hl
  obtain ⟨K1, e1, q1, w1⟩ := R2_val (X := X) (d := d) (D := D) (P := P) (N := N) hq g hx (by omega)
  have wrong : ∀ {K T}, QW J K b n T o → Gt b n T → Rn X (d + 6) 247 4 [.ref 65, U_] [] (Mh D K P N) = some ([], Mh D K P N) := by
    intro K T hw gw
    have m1 : ¬ (-1 : Int32) = 60 := by decide
    have m2 : ¬ (-1 : Int32) = 61 := by decide
    have m3 : ¬ (-1 : Int32) = 62 := by decide
    simp only [B247_4, RDm, hw.2, n10, Option.bind_some, List.append_nil, List.nil_append, List.cons_append, cond_true, cond_false, if_true, if_false, ite_true, ite_false, reduceIte, IC, bI_0, bI_1, bF, Bool.not_eq_false, Bool.not_eq_true, Bool.and_true, Bool.true_and, Bool.and_false, Bool.false_and, Bool.true_or, Bool.or_true, Bool.or_false, Bool.false_or, Bool.not_true, Bool.not_false, decide_true, decide_false, not_true_eq_false, not_false_eq_true, eq_self, Bool.true_eq_false, Bool.false_eq_true, B247_23, m1, m2, m3, B247_48, IC, R2_wW (d := d + 2) hw, B247_51, R2_vaW (d := d) hw gw hx, B247_55, B247_80, R2_wrn hw, B247_83]
  unfold cmpP
  simp only [B247_0, IC, e1, Option.bind_some, List.append_nil, List.nil_append, List.cons_append, cond_true, cond_false, if_true, if_false, ite_true, ite_false, reduceIte, IC, bI_0, bI_1, bF, Bool.not_eq_false, Bool.not_eq_true, Bool.and_true, Bool.true_and, Bool.and_false, Bool.false_and, Bool.true_or, Bool.or_true, Bool.or_false, Bool.false_or, Bool.not_true, Bool.not_false, decide_true, decide_false, not_true_eq_false, not_false_eq_true, eq_self, Bool.true_eq_false, Bool.false_eq_true]
  cases hv1 : isV (hS b n T) with
  | false =>
    refine ⟨K1, wrong (w1 hv1) g, fun q => (by cases q), fun _ => w1 hv1⟩
  | true =>
    have q1' := q1 hv1
    have r1 := p1.2.2 (isV_n hv1)
    have hxk := q1'.1.tx hx
    have hb := R2_byt (X := X) (d := d + 5) (D := D) (P := P) (N := N) hxk (show hP n T.tail ≤ 300 by omega)
    have s60 := hB_g (T := T.tail) (c := 60) hxk (by decide)
    have s61 := hB_g (T := T.tail) (c := 61) hxk (by decide)
    have s62 := hB_g (T := T.tail) (c := 62) hxk (by decide)
    have step : Rn X (d + 6) 247 4 [.ref 65, U_] [] (Mh D K1 P N) = Rn X (d + 6) 247 23 [.ref 65, U_] [.int (rB K1 n (hP n T.tail))] (Mh D K1 P N) := by
      simp only [B247_4, RDm, q1'.2.1.2, q1'.1.2.1, IC, hb, Option.bind_some, List.append_nil, List.nil_append, List.cons_append, cond_true, cond_false, if_true, if_false, ite_true, ite_false, reduceIte, IC, bI_0, bI_1, bF, Bool.not_eq_false, Bool.not_eq_true, Bool.and_true, Bool.true_and, Bool.and_false, Bool.false_and, Bool.true_or, Bool.or_true, Bool.or_false, Bool.false_or, Bool.not_true, Bool.not_false, decide_true, decide_false, not_true_eq_false, not_false_eq_true, eq_self, Bool.true_eq_false, Bool.false_eq_true]
    rw [step]
    generalize hbb : rB K1 n (hP n T.tail) = bb at s60 s61 s62
    cases hg : isG (hS b n T.tail) with
    | false =>
      have c60 : ¬ bb = 60 := fun e => by rw [s60] at e; rw [e] at hg; exact absurd hg (by decide)
      have c61 : ¬ bb = 61 := fun e => by rw [s61] at e; rw [e] at hg; exact absurd hg (by decide)
      have c62 : ¬ bb = 62 := fun e => by rw [s62] at e; rw [e] at hg; exact absurd hg (by decide)
      have e0 := R2_w0 (X := X) (d := d + 2) (D := D) (P := P) (N := N) q1'
      refine ⟨u2 K1 65 19 1, ?_, fun q => (by cases q), fun _ => e0.2⟩
      simp only [B247_23, c60, c61, c62, Option.bind_some, List.append_nil, List.nil_append, List.cons_append, cond_true, cond_false, if_true, if_false, ite_true, ite_false, reduceIte, IC, bI_0, bI_1, bF, Bool.not_eq_false, Bool.not_eq_true, Bool.and_true, Bool.true_and, Bool.and_false, Bool.false_and, Bool.true_or, Bool.or_true, Bool.or_false, Bool.false_or, Bool.not_true, Bool.not_false, decide_true, decide_false, not_true_eq_false, not_false_eq_true, eq_self, Bool.true_eq_false, Bool.false_eq_true, B247_48, IC, e0.1, B247_51, R2_vaW (d := d) e0.2 g1 hx, B247_55, B247_80, R2_wrn e0.2, B247_83]
    | true =>
      have r2 := p2.2.2 (isG_n hg)
      have hbS : bb = hS b n T.tail := by
        rcases isG_c hg with e | e | e
        · have e2 := e
          rw [← s60] at e2
          rw [e2, e]
        · have e2 := e
          rw [← s61] at e2
          rw [e2, e]
        · have e2 := e
          rw [← s62] at e2
          rw [e2, e]
      obtain ⟨K2, e2, q2, -⟩ := R2_w1 (X := X) (d := d + 2) (D := D) (P := P) (N := N) q1' g1 hx
      obtain ⟨K3, e3, q3, w3⟩ := R2_val (X := X) (d := d) (D := D) (P := P) (N := N) q2 g2 hx (by rw [List.length_append]; show _ + 1 < 202; omega)
      have to51 : Rn X (d + 6) 247 23 [.ref 65, U_] [.int bb] (Mh D K1 P N) = Rn X (d + 6) 247 55 [.ref 65, .int bb] [] (Mh D K3 P N) := by
        rcases isG_c hg with e | e | e
        · have eb : bb = 60 := by rw [hbS]; exact e
          simp +decide only [B247_23, eb, Option.bind_some, List.append_nil, List.nil_append, List.cons_append, cond_true, cond_false, if_true, if_false, ite_true, ite_false, reduceIte, IC, bI_0, bI_1, bF, Bool.not_eq_false, Bool.not_eq_true, Bool.and_true, Bool.true_and, Bool.and_false, Bool.false_and, Bool.true_or, Bool.or_true, Bool.or_false, Bool.false_or, Bool.not_true, Bool.not_false, decide_true, decide_false, not_true_eq_false, not_false_eq_true, eq_self, Bool.true_eq_false, Bool.false_eq_true, B247_43, B247_48, IC, e2, B247_51, e3]
        · have eb : bb = 61 := by rw [hbS]; exact e
          simp +decide only [B247_23, eb, Option.bind_some, List.append_nil, List.nil_append, List.cons_append, cond_true, cond_false, if_true, if_false, ite_true, ite_false, reduceIte, IC, bI_0, bI_1, bF, Bool.not_eq_false, Bool.not_eq_true, Bool.and_true, Bool.true_and, Bool.and_false, Bool.false_and, Bool.true_or, Bool.or_true, Bool.or_false, Bool.false_or, Bool.not_true, Bool.not_false, decide_true, decide_false, not_true_eq_false, not_false_eq_true, eq_self, Bool.true_eq_false, Bool.false_eq_true, B247_43, B247_48, IC, e2, B247_51, e3]
        · have eb : bb = 62 := by rw [hbS]; exact e
          simp +decide only [B247_23, eb, Option.bind_some, List.append_nil, List.nil_append, List.cons_append, cond_true, cond_false, if_true, if_false, ite_true, ite_false, reduceIte, IC, bI_0, bI_1, bF, Bool.not_eq_false, Bool.not_eq_true, Bool.and_true, Bool.true_and, Bool.and_false, Bool.false_and, Bool.true_or, Bool.or_true, Bool.or_false, Bool.false_or, Bool.not_true, Bool.not_false, decide_true, decide_false, not_true_eq_false, not_false_eq_true, eq_self, Bool.true_eq_false, Bool.false_eq_true, B247_43, B247_48, IC, e2, B247_51, e3]
      rw [to51]
      have to80 : ∀ h, Rn X (d + 6) 247 55 [.ref 65, .int bb] [] h = Rn X (d + 6) 247 80 [.ref 65, .int bb] [.int (if hS b n T.tail = 60 then -11 else if hS b n T.tail = 61 then -12 else -13), .ref 65] h := by
        intro h
        rw [hbS, B247_55]
        rcases isG_c hg with e | e | e <;> rw [e] <;> simp +decide only [Option.bind_some, List.append_nil, List.nil_append, List.cons_append, cond_true, cond_false, if_true, if_false, ite_true, ite_false, reduceIte, IC, bI_0, bI_1, bF, Bool.not_eq_false, Bool.not_eq_true, Bool.and_true, Bool.true_and, Bool.and_false, Bool.false_and, Bool.true_or, Bool.or_true, Bool.or_false, Bool.false_or, Bool.not_true, Bool.not_false, decide_true, decide_false, not_true_eq_false, not_false_eq_true, eq_self, Bool.true_eq_false, Bool.false_eq_true]
      rw [to80]
      cases hv3 : isV (hS b n T.tail.tail) with
      | false =>
        have w3' := w3 hv3
        exact ⟨K3, by simp only [B247_80, IC, R2_wrn w3', Option.bind_some, List.append_nil, List.nil_append, List.cons_append, cond_true, cond_false, if_true, if_false, ite_true, ite_false, reduceIte, IC, bI_0, bI_1, bF, Bool.not_eq_false, Bool.not_eq_true, Bool.and_true, Bool.true_and, Bool.and_false, Bool.false_and, Bool.true_or, Bool.or_true, Bool.or_false, Bool.false_or, Bool.not_true, Bool.not_false, decide_true, decide_false, not_true_eq_false, not_false_eq_true, eq_self, Bool.true_eq_false, Bool.false_eq_true, B247_83], fun q => (by cases q), fun _ => w3'⟩
      | true =>
        have r3 := p3.2.2 (isV_n hv3)
        obtain ⟨K4, e4, q4⟩ := R2_wri (X := X) (d := d + 5) (D := D) (P := P) (N := N) (x := if hS b n T.tail = 60 then -11 else if hS b n T.tail = 61 then -12 else -13) (q3 hv3) (by rw [List.length_append, List.length_append]; show _ + 1 + 1 < 202; omega)
        refine ⟨K4, by simp only [B247_80, IC, e4, Option.bind_some, List.append_nil, List.nil_append, List.cons_append, cond_true, cond_false, if_true, if_false, ite_true, ite_false, reduceIte, IC, bI_0, bI_1, bF, Bool.not_eq_false, Bool.not_eq_true, Bool.and_true, Bool.true_and, Bool.and_false, Bool.false_and, Bool.true_or, Bool.or_true, Bool.or_false, Bool.false_or, Bool.not_true, Bool.not_false, decide_true, decide_false, not_true_eq_false, not_false_eq_true, eq_self, Bool.true_eq_false, Bool.false_eq_true, B247_83], fun _ => ?_, fun q => (by cases q)⟩
        show QR J K4 b n T.tail.tail.tail o (B ++ exL (A ++ [(hS b n T.tail, hV b n T, hV b n T.tail.tail)]))
        rw [exL_app]
        show QR J K4 b n T.tail.tail.tail o (B ++ (exL A ++ (exS (hS b n T.tail, hV b n T, hV b n T.tail.tail) ++ [])))
        rw [exS_3 hg]
        simp only [List.append_assoc, List.cons_append, List.nil_append, List.append_nil] at q4 ⊢
        exact q4
theorem R2_nt : ∀ T f (K : Nat → Nat → Int32), QR J K b n T o C → Gt b n T → TxR J b n → ∃ K', Rn X (d + 7) 248 2 [.ref 65, .int (bI f)] [] (Mh D K P N) = Rn X (d + 7) 248 46 [.ref 65, .int (bI (notP (hS b n) f T).1)] [.int (rB K' n (hP n (notP (hS b n) f T).2))] (Mh D K' P N) ∧ QR J K' b n (notP (hS b n) f T).2 o C
  | [], f, K, hq, g, hx => by
    have hn := hx.2.1
    obtain ⟨v, e1, hv⟩ := R2_wrd (X := X) (d := d + 4) (D := D) (P := P) (N := N) hq g hx
    have hb := R2_byt (X := X) (d := d + 6) (D := D) (P := P) (N := N) (hq.1.tx hx) (show hP n [] ≤ 300 by show n ≤ 300; omega)
    have h12 : ¬ hS b n [] = 12 := by show ¬ (19 : Int32) = 12; decide
    refine ⟨K, ?_, hq⟩
    simp only [B248_2, IC, e1, Option.bind_some, List.append_nil, List.nil_append, List.cons_append, cond_true, cond_false, if_true, if_false, ite_true, ite_false, reduceIte, IC, bI_0, bI_1, bF, Bool.not_eq_false, Bool.not_eq_true, Bool.and_true, Bool.true_and, Bool.and_false, Bool.false_and, Bool.true_or, Bool.or_true, Bool.or_false, Bool.false_or, Bool.not_true, Bool.not_false, decide_true, decide_false, not_true_eq_false, not_false_eq_true, eq_self, Bool.true_eq_false, Bool.false_eq_true, B248_6, WCs hv, h12, RDm, hq.2.1.2, hq.1.2.1, hb]
    rfl
  | p :: T, f, K, hq, g, hx => by
    have hn := hx.2.1
    have hp := gt_P g
    obtain ⟨v, e1, hv⟩ := R2_wrd (X := X) (d := d + 4) (D := D) (P := P) (N := N) hq g hx
    have hb := R2_byt (X := X) (d := d + 6) (D := D) (P := P) (N := N) (hq.1.tx hx) (show hP n (p :: T) ≤ 300 by omega)
    unfold notP
    by_cases h12 : hS b n (p :: T) = 12
    · rw [if_pos h12]
      obtain ⟨K1, e2, q1, -⟩ := R2_w1 (X := X) (d := d + 3) (D := D) (P := P) (N := N) hq g hx
      obtain ⟨K2, e3, q2⟩ := R2_nt T (!f) K1 q1 (gt_tl g) hx
      refine ⟨K2, ?_, q2⟩
      rw [← e3, B248_2]
      simp only [IC, e1, Option.bind_some, List.append_nil, List.nil_append, List.cons_append, cond_true, cond_false, if_true, if_false, ite_true, ite_false, reduceIte, IC, bI_0, bI_1, bF, Bool.not_eq_false, Bool.not_eq_true, Bool.and_true, Bool.true_and, Bool.and_false, Bool.false_and, Bool.true_or, Bool.or_true, Bool.or_false, Bool.false_or, Bool.not_true, Bool.not_false, decide_true, decide_false, not_true_eq_false, not_false_eq_true, eq_self, Bool.true_eq_false, Bool.false_eq_true, B248_6, WCs hv, h12]
      cases f with
      | false => simp only [bI_f, bI_t, Option.bind_some, List.append_nil, List.nil_append, List.cons_append, cond_true, cond_false, if_true, if_false, ite_true, ite_false, reduceIte, IC, bI_0, bI_1, bF, Bool.not_eq_false, Bool.not_eq_true, Bool.and_true, Bool.true_and, Bool.and_false, Bool.false_and, Bool.true_or, Bool.or_true, Bool.or_false, Bool.false_or, Bool.not_true, Bool.not_false, decide_true, decide_false, not_true_eq_false, not_false_eq_true, eq_self, Bool.true_eq_false, Bool.false_eq_true, B248_22, IC, e2, B248_28, Bool.not_false]
      | true => simp only [bI_f, bI_t, Option.bind_some, List.append_nil, List.nil_append, List.cons_append, cond_true, cond_false, if_true, if_false, ite_true, ite_false, reduceIte, IC, bI_0, bI_1, bF, Bool.not_eq_false, Bool.not_eq_true, Bool.and_true, Bool.true_and, Bool.and_false, Bool.false_and, Bool.true_or, Bool.or_true, Bool.or_false, Bool.false_or, Bool.not_true, Bool.not_false, decide_true, decide_false, not_true_eq_false, not_false_eq_true, eq_self, Bool.true_eq_false, Bool.false_eq_true, B248_22, IC, e2, B248_28, Bool.not_true, show ¬ (1 : Int32) = 0 by decide]
    · rw [if_neg h12]
      refine ⟨K, ?_, hq⟩
      simp only [B248_2, IC, e1, Option.bind_some, List.append_nil, List.nil_append, List.cons_append, cond_true, cond_false, if_true, if_false, ite_true, ite_false, reduceIte, IC, bI_0, bI_1, bF, Bool.not_eq_false, Bool.not_eq_true, Bool.and_true, Bool.true_and, Bool.and_false, Bool.false_and, Bool.true_or, Bool.or_true, Bool.or_false, Bool.false_or, Bool.not_true, Bool.not_false, decide_true, decide_false, not_true_eq_false, not_false_eq_true, eq_self, Bool.true_eq_false, Bool.false_eq_true, B248_6, WCs hv, h12, RDm, hq.2.1.2, hq.1.2.1, hb]
/-- behind what one is: the not -/
theorem R2_128 {q1 : Bool} {rs : pRs} (hq : QE J K b n rs o B) (hl : B.length + (exL rs.2.2).length < 202) : ∃ K', Rn X (d + 7) 248 128 [.ref 65, .int (bI q1)] [] (Mh D K P N) = some ([], Mh D K' P N) ∧ QE J K' b n (rs.1, rs.2.1, cA (rs.1 && q1) rs.2.2 12) o B := by
  obtain ⟨r1, T1, A1⟩ := rs
  obtain ⟨h1, h2⟩ := hq
  dsimp only at h1 h2 hl ⊢
  cases q1 with
  | false =>
    refine ⟨K, by simp only [B248_128, bI_f, Option.bind_some, List.append_nil, List.nil_append, List.cons_append, cond_true, cond_false, if_true, if_false, ite_true, ite_false, reduceIte, IC, bI_0, bI_1, bF, Bool.not_eq_false, Bool.not_eq_true, Bool.and_true, Bool.true_and, Bool.and_false, Bool.false_and, Bool.true_or, Bool.or_true, Bool.or_false, Bool.false_or, Bool.not_true, Bool.not_false, decide_true, decide_false, not_true_eq_false, not_false_eq_true, eq_self, Bool.true_eq_false, Bool.false_eq_true, B248_138], fun q => ?_, fun q => h2 q⟩
    rw [Bool.and_false]; exact h1 q
  | true =>
    cases r1 with
    | false =>
      refine ⟨K, by simp only [B248_128, bI_t, Option.bind_some, List.append_nil, List.nil_append, List.cons_append, cond_true, cond_false, if_true, if_false, ite_true, ite_false, reduceIte, IC, bI_0, bI_1, bF, Bool.not_eq_false, Bool.not_eq_true, Bool.and_true, Bool.true_and, Bool.and_false, Bool.false_and, Bool.true_or, Bool.or_true, Bool.or_false, Bool.false_or, Bool.not_true, Bool.not_false, decide_true, decide_false, not_true_eq_false, not_false_eq_true, eq_self, Bool.true_eq_false, Bool.false_eq_true, IC, R2_wrn (h2 rfl), B248_138, show ¬ (1 : Int32) = 0 by decide], fun q => (by cases q), fun _ => h2 rfl⟩
    | true =>
      obtain ⟨K2, e1, q1⟩ := R2_wri (X := X) (d := d + 6) (D := D) (P := P) (N := N) (x := -20) (h1 rfl) (by rw [List.length_append]; exact hl)
      refine ⟨K2, by simp only [B248_128, bI_t, Option.bind_some, List.append_nil, List.nil_append, List.cons_append, cond_true, cond_false, if_true, if_false, ite_true, ite_false, reduceIte, IC, bI_0, bI_1, bF, Bool.not_eq_false, Bool.not_eq_true, Bool.and_true, Bool.true_and, Bool.and_false, Bool.false_and, Bool.true_or, Bool.or_true, Bool.or_false, Bool.false_or, Bool.not_true, Bool.not_false, decide_true, decide_false, not_true_eq_false, not_false_eq_true, eq_self, Bool.true_eq_false, Bool.false_eq_true, IC, e1, B248_138, show ¬ (1 : Int32) = 0 by decide], fun _ => ?_, fun q => (by cases q)⟩
      show QR J K2 b n T1 o (B ++ exL (A1 ++ [(12, 0, 0)]))
      rw [exL_app, ← List.append_assoc]
      exact q1
def POne (X : mX) (D : Nat → Nat × Nat) (P : Nat → Nat → Option Nat) (N : Nat) (J : Nat → Nat → Int32) (b : Nat → Int32) (n : Nat) (B : List Int32) (r : Nat) : Prop := ∀ d K T A, QR J K b n T (3 - r) (B ++ exL A) → Gt b n T → T.length < 200 → (2 * A.length ≤ hP n T ∧ B.length + (exL A).length ≤ hP n T) →
  ∃ K', Rn X (d + 7 + 3 * r) 248 0 [.ref 65, U_] [] (Mh D K P N) = some ([], Mh D K' P N) ∧ QE J K' b n (oneP (hS b n) (hV b n) (grpP (hS b n) (hV b n) r) T A) (3 - r) B
def PCnd (X : mX) (D : Nat → Nat × Nat) (P : Nat → Nat → Option Nat) (N : Nat) (J : Nat → Nat → Int32) (b : Nat → Int32) (n : Nat) (B : List Int32) (r : Nat) : Prop := ∀ d K T A, QR J K b n T (3 - r) (B ++ exL A) → Gt b n T → T.length < 200 → (2 * A.length ≤ hP n T ∧ B.length + (exL A).length ≤ hP n T) →
  ∃ K', Rn X (d + 9 + 3 * r) 250 0 [.ref 65] [] (Mh D K P N) = some ([], Mh D K' P N) ∧ QE J K' b n (cndP (hS b n) (hV b n) (grpP (hS b n) (hV b n) r) 200 false false T A) (3 - r) B
theorem R2_cdW (hq : QW J K b n T o) : Rn X (d + 1) 250 0 [.ref 65] [] (Mh D K P N) = some ([], Mh D K P N) := by
  have n10 : ¬ (1 : Int32) = 0 := by decide
  simp only [B250_0, RDm, hq.2, n10, Option.bind_some, List.append_nil, List.nil_append, List.cons_append, cond_true, cond_false, if_true, if_false, ite_true, ite_false, reduceIte, IC, bI_0, bI_1, bF, Bool.not_eq_false, Bool.not_eq_true, Bool.and_true, Bool.true_and, Bool.and_false, Bool.false_and, Bool.true_or, Bool.or_true, Bool.or_false, Bool.false_or, Bool.not_true, Bool.not_false, decide_true, decide_false, not_true_eq_false, not_false_eq_true, eq_self, Bool.true_eq_false, Bool.false_eq_true]
/-- what one is, between the nots and the not -/
def PMid (X : mX) (D : Nat → Nat × Nat) (P : Nat → Nat → Option Nat) (N : Nat) (J : Nat → Nat → Int32) (b : Nat → Int32) (n : Nat) (B : List Int32) (r : Nat) : Prop := ∀ d K T A (f : Bool), QR J K b n T (3 - r) (B ++ exL A) → Gt b n T → T.length < 200 → (2 * A.length ≤ hP n T ∧ B.length + (exL A).length ≤ hP n T) →
  ∃ K', Rn X (d + 7 + 3 * r) 248 46 [.ref 65, .int (bI f)] [.int (rB K n (hP n T))] (Mh D K P N) = Rn X (d + 7 + 3 * r) 248 128 [.ref 65, .int (bI f)] [] (Mh D K' P N) ∧ QE J K' b n (on1 (hS b n) (hV b n) (grpP (hS b n) (hV b n) r) T A) (3 - r) B
theorem one_mid (hx : TxR J b n) (h : PMid X D P N J b n B r) : POne X D P N J b n B r := by
  intro d K T A hq g hT hl
  have hn := hx.2.1
  have nb := not_b' T false g
  obtain ⟨K1, e1, q1⟩ := R2_nt (X := X) (d := d + 3 * r) (D := D) (P := P) (N := N) T false K hq g hx
  unfold oneP
  generalize notP (hS b n) false T = q at nb e1 q1 ⊢
  obtain ⟨f, T1⟩ := q
  obtain ⟨n1, n2, n3, n4⟩ := nb
  dsimp only at n1 n2 n3 n4 e1 q1 ⊢
  have hl1 : 2 * A.length ≤ hP n T1 ∧ B.length + (exL A).length ≤ hP n T1 := by omega
  obtain ⟨K2, e2, q2⟩ := h d K1 T1 A f q1 n1 (by omega) hl1
  have gb := GB_on1 (GB_grp (b := b) (n := n) r) T1 A 0 B.length n1 (by omega) (by omega)
  have gp := gt_P gb.1.1
  obtain ⟨K3, e3, q3⟩ := R2_128 (X := X) (d := d + 3 * r) (D := D) (P := P) (N := N) (q1 := f) q2 (by have := gb.2.2; omega)
  refine ⟨K3, ?_, q3⟩
  rw [show d + 7 + 3 * r = d + 3 * r + 6 + 1 by omega, B248_0]
  rw [show d + 3 * r + 6 + 1 = d + 3 * r + 7 by omega]
  rw [show d + 7 + 3 * r = d + 3 * r + 7 by omega] at e2
  exact e1.trans (e2.trans e3)
theorem iN_p {j : Nat} (h : 1 ≤ j) : Int32.ofNat j - 1 = Int32.ofNat (j - 1) := iN_pred h
theorem mid_n (hx : TxR J b n) (h40 : ¬ hS b n T = 40) (f : Bool) (hq : QR J K b n T o (B ++ exL A)) (g : Gt b n T) (hl : B.length + (exL A).length ≤ hP n T) : ∃ K', Rn X (d + 7) 248 46 [.ref 65, .int (bI f)] [.int (rB K n (hP n T))] (Mh D K P N) = Rn X (d + 7) 248 128 [.ref 65, .int (bI f)] [] (Mh D K' P N) ∧ QE J K' b n (cmpP (hS b n) (hV b n) T A) o B := by
  have hb : ¬ rB K n (hP n T) = 40 := by rw [hB_g (hq.1.tx hx) (by decide)]; exact h40
  obtain ⟨K1, e1, q1⟩ := R2_cmp (X := X) (d := d) (D := D) (P := P) (N := N) hq g hx hl
  exact ⟨K1, by simp only [B248_46, hb, Option.bind_some, List.append_nil, List.nil_append, List.cons_append, cond_true, cond_false, if_true, if_false, ite_true, ite_false, reduceIte, IC, bI_0, bI_1, bF, Bool.not_eq_false, Bool.not_eq_true, Bool.and_true, Bool.true_and, Bool.and_false, Bool.false_and, Bool.true_or, Bool.or_true, Bool.or_false, Bool.false_or, Bool.not_true, Bool.not_false, decide_true, decide_false, not_true_eq_false, not_false_eq_true, eq_self, Bool.true_eq_false, Bool.false_eq_true, B248_124, IC, e1], q1⟩
theorem mid_0 (hx : TxR J b n) : PMid X D P N J b n B 0 := by
  intro d K T A f hq g hT hl
  by_cases h40 : hS b n T = 40
  · have hb : rB K n (hP n T) = 40 := by rw [hB_g (hq.1.tx hx) (by decide)]; exact h40
    have n10 : ¬ (1 : Int32) = 0 := by decide
    have h17 : K 65 17 = 3 := hq.1.2.2.2
    have h33 : (3 : Int32) ≤ 3 := by decide
    have e0 := R2_w0 (X := X) (d := d + 3) (D := D) (P := P) (N := N) hq
    generalize u2 K 65 19 1 = K1 at e0
    obtain ⟨e1, q1⟩ := e0
    have k17 : K1 65 17 = 3 := q1.1.2.2.2
    have q2 : QW J (u2 K1 65 17 (Int32.ofNat 4)) b n T 4 := ⟨q1.1.op, q1.2⟩
    have q3 : QW J (u2 (u2 K1 65 17 (Int32.ofNat 4)) 65 17 (Int32.ofNat 3)) b n T 3 := ⟨q2.1.op, q1.2⟩
    have ec := R2_cdW (X := X) (d := d + 5) (D := D) (P := P) (N := N) q2
    have r17 : u2 K1 65 17 (Int32.ofNat 4) 65 17 = 4 := rfl
    have s34 : (3 : Int32) + 1 = Int32.ofNat 4 := rfl
    have s43 : (4 : Int32) - 1 = Int32.ofNat 3 := by decide
    refine ⟨u2 (u2 K1 65 17 (Int32.ofNat 4)) 65 17 (Int32.ofNat 3), ?_, ?_⟩
    · simp only [B248_46, hb, Option.bind_some, List.append_nil, List.nil_append, List.cons_append, cond_true, cond_false, if_true, if_false, ite_true, ite_false, reduceIte, IC, bI_0, bI_1, bF, Bool.not_eq_false, Bool.not_eq_true, Bool.and_true, Bool.true_and, Bool.and_false, Bool.false_and, Bool.true_or, Bool.or_true, Bool.or_false, Bool.false_or, Bool.not_true, Bool.not_false, decide_true, decide_false, not_true_eq_false, not_false_eq_true, eq_self, Bool.true_eq_false, Bool.false_eq_true, RDm, h17, h33, B248_65, IC, e1, B248_68, k17, s34, WRm, ec, B248_82, r17, s43, q3.2, n10, B248_117, B248_118, R2_wW (d := d + 3) q3, B248_121, Nat.mul_zero, Nat.add_zero]
    · unfold on1
      rw [if_pos h40]
      exact ⟨fun q => (by cases q), fun _ => q3⟩
  · obtain ⟨K1, e1, q1⟩ := mid_n (X := X) (d := d) (D := D) (P := P) (N := N) hx h40 f hq g hl.2
    refine ⟨K1, e1, ?_⟩
    unfold on1
    rw [if_neg h40]
    exact q1
theorem mid_s (hx : TxR J b n) (hr : r + 1 ≤ 3) (h : PCnd X D P N J b n B r) : PMid X D P N J b n B (r + 1) := by
  intro d K T A f hq g hT hl
  have hn := hx.2.1
  have hP0 := gt_P g
  have ed : d + 7 + 3 * (r + 1) = d + 3 + 3 * r + 7 := by omega
  by_cases h40 : hS b n T = 40
  · have hb : rB K n (hP n T) = 40 := by rw [hB_g (hq.1.tx hx) (by decide)]; exact h40
    have n10 : ¬ (1 : Int32) = 0 := by decide
    have h17 : K 65 17 = Int32.ofNat (3 - (r + 1)) := hq.1.2.2.2
    have h33 : ¬ (3 : Int32) ≤ Int32.ofNat (3 - (r + 1)) := by rw [show (3 : Int32) = Int32.ofNat 3 from rfl, iN_le (by omega) (by omega)]; omega
    obtain ⟨K1, e1, q1, -⟩ := R2_w1 (X := X) (d := d + 6 + 3 * r) (D := D) (P := P) (N := N) hq g hx
    have k17 : K1 65 17 = Int32.ofNat (3 - (r + 1)) := q1.1.2.2.2
    have s1 : Int32.ofNat (3 - (r + 1)) + 1 = Int32.ofNat (3 - r) := by rw [iN_succ, show 3 - (r + 1) + 1 = 3 - r by omega]
    have q2 : QR J (u2 K1 65 17 (Int32.ofNat (3 - r))) b n T.tail (3 - r) (B ++ exL A) := ⟨q1.1.op, q1.2⟩
    have tl := tl_l (T := T)
    obtain ⟨K3, e3, q3⟩ := h d (u2 K1 65 17 (Int32.ofNat (3 - r))) T.tail A q2 (gt_tl g) (by omega) (by omega)
    have gc := GB_cnd (GB_grp (b := b) (n := n) r) 200 false false T.tail A 0 B.length (gt_tl g) (by unfold o2; simp only [Bool.false_eq_true, if_false]; omega) (by unfold o2; simp only [Bool.false_eq_true, if_false]; omega)
    have step : Rn X (d + 3 + 3 * r + 7) 248 46 [.ref 65, .int (bI f)] [.int (rB K n (hP n T))] (Mh D K P N) = Rn X (d + 3 + 3 * r + 7) 248 82 [.ref 65, .int (bI f)] [] (Mh D K3 P N) := by
      rw [show d + 6 + 3 * r + 3 = d + 3 + 3 * r + 6 by omega] at e1
      rw [show d + 9 + 3 * r = d + 3 + 3 * r + 6 by omega] at e3
      simp only [B248_46, hb, Option.bind_some, List.append_nil, List.nil_append, List.cons_append, cond_true, cond_false, if_true, if_false, ite_true, ite_false, reduceIte, IC, bI_0, bI_1, bF, Bool.not_eq_false, Bool.not_eq_true, Bool.and_true, Bool.true_and, Bool.and_false, Bool.false_and, Bool.true_or, Bool.or_true, Bool.or_false, Bool.false_or, Bool.not_true, Bool.not_false, decide_true, decide_false, not_true_eq_false, not_false_eq_true, eq_self, Bool.true_eq_false, Bool.false_eq_true, RDm, h17, h33, B248_65, IC, e1, B248_68, k17, s1, WRm, e3]
    have hon : on1 (hS b n) (hV b n) (grpP (hS b n) (hV b n) (r + 1)) T A = grpP (hS b n) (hV b n) (r + 1) T A := by unfold on1; rw [if_pos h40]
    rw [hon, ed, step]
    unfold grpP
    generalize cndP (hS b n) (hV b n) (grpP (hS b n) (hV b n) r) 200 false false T.tail A = cc at q3 gc ⊢
    obtain ⟨c1, T3, A3⟩ := cc
    obtain ⟨⟨gg, -, -⟩, -, -⟩ := gc
    obtain ⟨qa, qb⟩ := q3
    dsimp only at gg qa qb ⊢
    have s2 : Int32.ofNat (3 - r) - 1 = Int32.ofNat (3 - (r + 1)) := by rw [iN_p (by omega), show 3 - r - 1 = 3 - (r + 1) by omega]
    cases c1 with
    | false =>
      have qw := qb rfl
      have k17' : K3 65 17 = Int32.ofNat (3 - r) := qw.1.2.2.2
      have q4 : QW J (u2 K3 65 17 (Int32.ofNat (3 - (r + 1)))) b n T3 (3 - (r + 1)) := ⟨qw.1.op, qw.2⟩
      refine ⟨_, ?_, fun q => (by cases q), fun _ => q4⟩
      have ww := R2_wW (X := X) (d := d + 6 + 3 * r) (D := D) (P := P) (N := N) (x := 0) q4
      rw [show d + 6 + 3 * r + 3 = d + 3 + 3 * r + 6 by omega] at ww
      simp only [B248_82, RDm, k17', s2, WRm, q4.2, n10, Option.bind_some, List.append_nil, List.nil_append, List.cons_append, cond_true, cond_false, if_true, if_false, ite_true, ite_false, reduceIte, IC, bI_0, bI_1, bF, Bool.not_eq_false, Bool.not_eq_true, Bool.and_true, Bool.true_and, Bool.and_false, Bool.false_and, Bool.true_or, Bool.or_true, Bool.or_false, Bool.false_or, Bool.not_true, Bool.not_false, decide_true, decide_false, not_true_eq_false, not_false_eq_true, eq_self, Bool.true_eq_false, Bool.false_eq_true, B248_117, B248_118, IC, ww, B248_121]
    | true =>
      have qr := qa rfl
      have k17' : K3 65 17 = Int32.ofNat (3 - r) := qr.1.2.2.2
      have q4 : QR J (u2 K3 65 17 (Int32.ofNat (3 - (r + 1)))) b n T3 (3 - (r + 1)) (B ++ exL A3) := ⟨qr.1.op, qr.2⟩
      have hg3 := gt_P gg
      have hbt := R2_byt (X := X) (d := d + 3 + 3 * r + 6) (D := D) (P := P) (N := N) (q4.1.tx hx) (show hP n T3 ≤ 300 by omega)
      have e41 := hB_g (T := T3) (c := 41) (q4.1.tx hx) (by decide)
      have s3 : Rn X (d + 3 + 3 * r + 7) 248 82 [.ref 65, .int (bI f)] [] (Mh D K3 P N) = Rn X (d + 3 + 3 * r + 7) 248 108 [.ref 65, .int (bI f)] [.int (rB (u2 K3 65 17 (Int32.ofNat (3 - (r + 1)))) n (hP n T3)), .ref 65] (Mh D (u2 K3 65 17 (Int32.ofNat (3 - (r + 1)))) P N) := by
        simp only [B248_82, RDm, k17', s2, WRm, q4.2.1.2, q4.1.2.1, Option.bind_some, List.append_nil, List.nil_append, List.cons_append, cond_true, cond_false, if_true, if_false, ite_true, ite_false, reduceIte, IC, bI_0, bI_1, bF, Bool.not_eq_false, Bool.not_eq_true, Bool.and_true, Bool.true_and, Bool.and_false, Bool.false_and, Bool.true_or, Bool.or_true, Bool.or_false, Bool.false_or, Bool.not_true, Bool.not_false, decide_true, decide_false, not_true_eq_false, not_false_eq_true, eq_self, Bool.true_eq_false, Bool.false_eq_true, IC, hbt]
      rw [s3]
      generalize rB (u2 K3 65 17 (Int32.ofNat (3 - (r + 1)))) n (hP n T3) = bb at e41
      generalize u2 K3 65 17 (Int32.ofNat (3 - (r + 1))) = K4 at q4
      by_cases h41 : hS b n T3 = 41
      · rw [h41] at e41
        have eb : bb = 41 := by rw [e41]
        obtain ⟨K5, e5, q5, -⟩ := R2_w1 (X := X) (d := d + 6 + 3 * r) (D := D) (P := P) (N := N) q4 gg hx
        rw [show d + 6 + 3 * r + 3 = d + 3 + 3 * r + 6 by omega] at e5
        refine ⟨K5, by simp only [B248_108, eb, Option.bind_some, List.append_nil, List.nil_append, List.cons_append, cond_true, cond_false, if_true, if_false, ite_true, ite_false, reduceIte, IC, bI_0, bI_1, bF, Bool.not_eq_false, Bool.not_eq_true, Bool.and_true, Bool.true_and, Bool.and_false, Bool.false_and, Bool.true_or, Bool.or_true, Bool.or_false, Bool.false_or, Bool.not_true, Bool.not_false, decide_true, decide_false, not_true_eq_false, not_false_eq_true, eq_self, Bool.true_eq_false, Bool.false_eq_true, B248_118, IC, e5, B248_121], ?_⟩
        simp only [h41, Option.bind_some, List.append_nil, List.nil_append, List.cons_append, cond_true, cond_false, if_true, if_false, ite_true, ite_false, reduceIte, IC, bI_0, bI_1, bF, Bool.not_eq_false, Bool.not_eq_true, Bool.and_true, Bool.true_and, Bool.and_false, Bool.false_and, Bool.true_or, Bool.or_true, Bool.or_false, Bool.false_or, Bool.not_true, Bool.not_false, decide_true, decide_false, not_true_eq_false, not_false_eq_true, eq_self, Bool.true_eq_false, Bool.false_eq_true]
        exact ⟨fun _ => q5, fun q => (by cases q)⟩
      · have eb : ¬ bb = 41 := by rw [e41]; exact h41
        obtain ⟨e5, q5⟩ := R2_w0 (X := X) (d := d + 6 + 3 * r) (D := D) (P := P) (N := N) q4
        rw [show d + 6 + 3 * r + 3 = d + 3 + 3 * r + 6 by omega] at e5
        refine ⟨u2 K4 65 19 1, by simp only [B248_108, eb, Option.bind_some, List.append_nil, List.nil_append, List.cons_append, cond_true, cond_false, if_true, if_false, ite_true, ite_false, reduceIte, IC, bI_0, bI_1, bF, Bool.not_eq_false, Bool.not_eq_true, Bool.and_true, Bool.true_and, Bool.and_false, Bool.false_and, Bool.true_or, Bool.or_true, Bool.or_false, Bool.false_or, Bool.not_true, Bool.not_false, decide_true, decide_false, not_true_eq_false, not_false_eq_true, eq_self, Bool.true_eq_false, Bool.false_eq_true, B248_117, B248_118, IC, e5, B248_121], ?_⟩
        simp only [h41, Option.bind_some, List.append_nil, List.nil_append, List.cons_append, cond_true, cond_false, if_true, if_false, ite_true, ite_false, reduceIte, IC, bI_0, bI_1, bF, Bool.not_eq_false, Bool.not_eq_true, Bool.and_true, Bool.true_and, Bool.and_false, Bool.false_and, Bool.true_or, Bool.or_true, Bool.or_false, Bool.false_or, Bool.not_true, Bool.not_false, decide_true, decide_false, not_true_eq_false, not_false_eq_true, eq_self, Bool.true_eq_false, Bool.false_eq_true]
        exact ⟨fun q => (by cases q), fun _ => q5⟩
  · obtain ⟨K1, e1, q1⟩ := mid_n (X := X) (d := d + 3 + 3 * r) (D := D) (P := P) (N := N) hx h40 f hq g hl.2
    rw [ed]
    refine ⟨K1, e1, ?_⟩
    unfold on1
    rw [if_neg h40]
    exact q1
theorem al_W (hq : QW J K b n T o) (g : Gt b n T) (hx : TxR J b n) (l : Bool) : Rn X (d + 3) 249 (bif l then 24 else 4) [.ref 65] [] (Mh D K P N) = some ([], Mh D K P N) ∧ Rn X (d + 3) 250 (bif l then 32 else 12) [.ref 65] [] (Mh D K P N) = some ([], Mh D K P N) := by
  have hw := R2_wrW (X := X) (d := d) (D := D) (P := P) (N := N) hq g hx
  have z1 : ¬ lg_cmp 0 1476 = 0 := fun q => absurd ((lg_cmp_eq _ _).mp q) (by decide)
  have z2 : ¬ lg_cmp 0 498 = 0 := fun q => absurd ((lg_cmp_eq _ _).mp q) (by decide)
  have wn := fun x => R2_wrn (X := X) (d := d + 2) (D := D) (P := P) (N := N) (x := x) hq
  cases l with
  | false => exact ⟨by simp only [Option.bind_some, List.append_nil, List.nil_append, List.cons_append, cond_true, cond_false, if_true, if_false, ite_true, ite_false, reduceIte, IC, bI_0, bI_1, bF, Bool.not_eq_false, Bool.not_eq_true, Bool.and_true, Bool.true_and, Bool.and_false, Bool.false_and, Bool.true_or, Bool.or_true, Bool.or_false, Bool.false_or, Bool.not_true, Bool.not_false, decide_true, decide_false, not_true_eq_false, not_false_eq_true, eq_self, Bool.true_eq_false, Bool.false_eq_true, B249_4, IC, hw, B249_8, z1], by simp only [Option.bind_some, List.append_nil, List.nil_append, List.cons_append, cond_true, cond_false, if_true, if_false, ite_true, ite_false, reduceIte, IC, bI_0, bI_1, bF, Bool.not_eq_false, Bool.not_eq_true, Bool.and_true, Bool.true_and, Bool.and_false, Bool.false_and, Bool.true_or, Bool.or_true, Bool.or_false, Bool.false_or, Bool.not_true, Bool.not_false, decide_true, decide_false, not_true_eq_false, not_false_eq_true, eq_self, Bool.true_eq_false, Bool.false_eq_true, B250_12, IC, hw, B250_16, z2]⟩
  | true => exact ⟨by simp only [Option.bind_some, List.append_nil, List.nil_append, List.cons_append, cond_true, cond_false, if_true, if_false, ite_true, ite_false, reduceIte, IC, bI_0, bI_1, bF, Bool.not_eq_false, Bool.not_eq_true, Bool.and_true, Bool.true_and, Bool.and_false, Bool.false_and, Bool.true_or, Bool.or_true, Bool.or_false, Bool.false_or, Bool.not_true, Bool.not_false, decide_true, decide_false, not_true_eq_false, not_false_eq_true, eq_self, Bool.true_eq_false, Bool.false_eq_true, B249_24, IC, wn, B249_30, B249_4, hw, B249_8, z1], by simp only [Option.bind_some, List.append_nil, List.nil_append, List.cons_append, cond_true, cond_false, if_true, if_false, ite_true, ite_false, reduceIte, IC, bI_0, bI_1, bF, Bool.not_eq_false, Bool.not_eq_true, Bool.and_true, Bool.true_and, Bool.and_false, Bool.false_and, Bool.true_or, Bool.or_true, Bool.or_false, Bool.false_or, Bool.not_true, Bool.not_false, decide_true, decide_false, not_true_eq_false, not_false_eq_true, eq_self, Bool.true_eq_false, Bool.false_eq_true, B250_32, IC, wn, B250_38, B250_12, hw, B250_16, z2]⟩
/-- within all within condition -/
noncomputable def ctx (X : mX) (d : Nat) (o l : Bool) (z : Option mR) : Option mR := (z.bind fun z1 => Rn X (d + 1) 249 (bif o then 24 else 4) [.ref 65] (z1.1 ++ []) z1.2).bind fun z2 => Rn X (d + 2) 250 (bif l then 32 else 12) [.ref 65] (z2.1 ++ []) z2.2
theorem R2_cA (hq : QR J K b n T o (B ++ exL A)) (hl : B.length + (exL A).length < 202) (q : Bool) : (∃ K', Rn X (d + 1) 249 (bif q then 24 else 4) [.ref 65] [] (Mh D K P N) = Rn X (d + 1) 249 4 [.ref 65] [] (Mh D K' P N) ∧ QR J K' b n T o (B ++ exL (cA q A 11)))
    ∧ (∃ K', Rn X (d + 1) 250 (bif q then 32 else 12) [.ref 65] [] (Mh D K P N) = Rn X (d + 1) 250 12 [.ref 65] [] (Mh D K' P N) ∧ QR J K' b n T o (B ++ exL (cA q A 10))) := by
  cases q with
  | false => exact ⟨⟨K, rfl, hq⟩, ⟨K, rfl, hq⟩⟩
  | true =>
    obtain ⟨K1, e1, q1⟩ := R2_wri (X := X) (d := d) (D := D) (P := P) (N := N) (x := -21) hq (by rw [List.length_append]; exact hl)
    obtain ⟨K2, e2, q2⟩ := R2_wri (X := X) (d := d) (D := D) (P := P) (N := N) (x := -22) hq (by rw [List.length_append]; exact hl)
    refine ⟨⟨K1, by simp only [Option.bind_some, List.append_nil, List.nil_append, List.cons_append, cond_true, cond_false, if_true, if_false, ite_true, ite_false, reduceIte, IC, bI_0, bI_1, bF, Bool.not_eq_false, Bool.not_eq_true, Bool.and_true, Bool.true_and, Bool.and_false, Bool.false_and, Bool.true_or, Bool.or_true, Bool.or_false, Bool.false_or, Bool.not_true, Bool.not_false, decide_true, decide_false, not_true_eq_false, not_false_eq_true, eq_self, Bool.true_eq_false, Bool.false_eq_true, B249_24, IC, e1, B249_30], ?_⟩, ⟨K2, by simp only [Option.bind_some, List.append_nil, List.nil_append, List.cons_append, cond_true, cond_false, if_true, if_false, ite_true, ite_false, reduceIte, IC, bI_0, bI_1, bF, Bool.not_eq_false, Bool.not_eq_true, Bool.and_true, Bool.true_and, Bool.and_false, Bool.false_and, Bool.true_or, Bool.or_true, Bool.or_false, Bool.false_or, Bool.not_true, Bool.not_false, decide_true, decide_false, not_true_eq_false, not_false_eq_true, eq_self, Bool.true_eq_false, Bool.false_eq_true, B250_32, IC, e2, B250_38], ?_⟩⟩
    · show QR J K1 b n T o (B ++ exL (A ++ [(11, 0, 0)]))
      rw [exL_app, ← List.append_assoc]; exact q1
    · show QR J K2 b n T o (B ++ exL (A ++ [(10, 0, 0)]))
      rw [exL_app, ← List.append_assoc]; exact q2
theorem R2_cn1 (hx : TxR J b n) (h : POne X D P N J b n B r) : ∀ k (o l : Bool) T A K, T.length < k → QR J K b n T (3 - r) (B ++ exL A) → Gt b n T → T.length < 200 → (2 * A.length + 2 * o2 o + 2 * o2 l ≤ hP n T ∧ B.length + (exL A).length + o2 o + o2 l ≤ hP n T) →
    ∃ K', ctx X (d + 7 + 3 * r) o l (Rn X (d + 7 + 3 * r) 248 0 [.ref 65, U_] [] (Mh D K P N)) = some ([], Mh D K' P N) ∧ QE J K' b n (cndP (hS b n) (hV b n) (grpP (hS b n) (hV b n) r) k o l T A) (3 - r) B
  | 0, o, l, T, A, K, hk, _, _, _, _ => by omega
  | k + 1, o, l, T, A, K, hk, hq, g, hT, hl => by
    have hn := hx.2.1
    obtain ⟨K1, e1, q1⟩ := h d K T A hq g hT (by omega)
    have gb := GB_one (GB_grp (b := b) (n := n) r) T A (2 * o2 o + 2 * o2 l) (B.length + o2 o + o2 l) g (by omega) (by omega)
    unfold ctx cndP
    rw [e1]
    generalize oneP (hS b n) (hV b n) (grpP (hS b n) (hV b n) r) T A = rr at q1 gb ⊢
    obtain ⟨r1, T1, A1⟩ := rr
    obtain ⟨⟨g1, g2, g3⟩, g4, g5⟩ := gb
    obtain ⟨qa, qb⟩ := q1
    dsimp only at g1 g2 g3 g4 g5 qa qb ⊢
    simp only [Option.bind_some, List.append_nil]
    cases r1 with
    | false =>
      have qw := qb rfl
      have w1 := (al_W (X := X) (d := d + 5 + 3 * r) (D := D) (P := P) (N := N) qw g1 hx o).1
      have w2 := (al_W (X := X) (d := d + 6 + 3 * r) (D := D) (P := P) (N := N) qw g1 hx l).2
      rw [show d + 5 + 3 * r + 3 = d + 7 + 3 * r + 1 by omega] at w1
      rw [show d + 6 + 3 * r + 3 = d + 7 + 3 * r + 2 by omega] at w2
      rw [w1]
      simp only [Option.bind_some, List.append_nil]
      exact ⟨K1, w2, fun q => (by cases q), fun _ => qw⟩
    | true =>
      have qr := qa rfl
      have p1 := gt_P g1
      have tl1 := tl_l (T := T1)
      simp only [cond_true]
      have ca := cA_l (o := o) (A := A1) (x := 11) (Or.inr (Or.inl rfl))
      have cb := cA_l (o := l) (A := cA o A1 11) (x := 10) (Or.inl rfl)
      obtain ⟨K2, e2, q2⟩ := (R2_cA (X := X) (d := d + 7 + 3 * r) (D := D) (P := P) (N := N) qr (by omega) o).1
      rw [e2]
      obtain ⟨v, ev, hv⟩ := R2_wrd (X := X) (d := d + 5 + 3 * r) (D := D) (P := P) (N := N) q2 g1 hx
      rw [show d + 5 + 3 * r + 2 = d + 7 + 3 * r by omega] at ev
      by_cases h11 : hS b n T1 = 11
      · rw [if_pos h11]
        have hw := gt_w g1 (Or.inr (Or.inl h11))
        rw [h11, if_neg (by decide)] at hw
        have hne : T1 ≠ [] := gt_ne (b := b) (n := n) (by rw [h11]; decide)
        have htl : T1.tail.length + 1 = T1.length := by cases T1 with | nil => exact absurd rfl hne | cons p T => rfl
        obtain ⟨K3, e3, q3, -⟩ := R2_w1 (X := X) (d := d + 4 + 3 * r) (D := D) (P := P) (N := N) q2 g1 hx
        rw [show d + 4 + 3 * r + 3 = d + 7 + 3 * r by omega] at e3
        obtain ⟨K4, e4, q4⟩ := R2_cn1 hx h k true l T1.tail (cA o A1 11) K3 (by omega) q3 (gt_tl g1) (by omega) (by rw [ca.1, ca.2]; unfold o2 at *; simp only [if_true]; omega)
        refine ⟨K4, ?_, q4⟩
        rw [← e4]
        simp only [B249_4, IC, ev, Option.bind_some, List.append_nil, List.nil_append, List.cons_append, cond_true, cond_false, if_true, if_false, ite_true, ite_false, reduceIte, IC, bI_0, bI_1, bF, Bool.not_eq_false, Bool.not_eq_true, Bool.and_true, Bool.true_and, Bool.and_false, Bool.false_and, Bool.true_or, Bool.or_true, Bool.or_false, Bool.false_or, Bool.not_true, Bool.not_false, decide_true, decide_false, not_true_eq_false, not_false_eq_true, eq_self, Bool.true_eq_false, Bool.false_eq_true, B249_8, WCs hv, h11, e3, B249_20, ctx]
      · rw [if_neg h11]
        have s1 : Rn X (d + 7 + 3 * r + 1) 249 4 [.ref 65] [] (Mh D K2 P N) = some ([], Mh D K2 P N) := by
          simp only [B249_4, IC, ev, Option.bind_some, List.append_nil, List.nil_append, List.cons_append, cond_true, cond_false, if_true, if_false, ite_true, ite_false, reduceIte, IC, bI_0, bI_1, bF, Bool.not_eq_false, Bool.not_eq_true, Bool.and_true, Bool.true_and, Bool.and_false, Bool.false_and, Bool.true_or, Bool.or_true, Bool.or_false, Bool.false_or, Bool.not_true, Bool.not_false, decide_true, decide_false, not_true_eq_false, not_false_eq_true, eq_self, Bool.true_eq_false, Bool.false_eq_true, B249_8, WCs hv, h11]
        rw [s1]
        simp only [Option.bind_some, List.append_nil]
        obtain ⟨K3, e3, q3⟩ := (R2_cA (X := X) (d := d + 7 + 3 * r + 1) (D := D) (P := P) (N := N) q2 (by rw [ca.2]; unfold o2 at *; omega) l).2
        rw [e3]
        obtain ⟨v', ev', hv'⟩ := R2_wrd (X := X) (d := d + 6 + 3 * r) (D := D) (P := P) (N := N) q3 g1 hx
        rw [show d + 6 + 3 * r + 2 = d + 7 + 3 * r + 1 by omega] at ev'
        by_cases h10 : hS b n T1 = 10
        · rw [if_pos h10]
          have hw := gt_w g1 (Or.inl h10)
          rw [h10, if_pos rfl] at hw
          have hne : T1 ≠ [] := gt_ne (b := b) (n := n) (by rw [h10]; decide)
          have htl : T1.tail.length + 1 = T1.length := by cases T1 with | nil => exact absurd rfl hne | cons p T => rfl
          obtain ⟨K4, e4, q4, -⟩ := R2_w1 (X := X) (d := d + 5 + 3 * r) (D := D) (P := P) (N := N) q3 g1 hx
          rw [show d + 5 + 3 * r + 3 = d + 7 + 3 * r + 1 by omega] at e4
          obtain ⟨K5, e5, q5⟩ := R2_cn1 hx h k false true T1.tail (cA l (cA o A1 11) 10) K4 (by omega) q4 (gt_tl g1) (by omega) (by rw [cb.1, cb.2, ca.1, ca.2]; unfold o2 at *; simp only [if_true, Bool.false_eq_true, if_false]; omega)
          refine ⟨K5, ?_, q5⟩
          rw [← e5]
          simp only [B250_12, IC, ev', Option.bind_some, List.append_nil, List.nil_append, List.cons_append, cond_true, cond_false, if_true, if_false, ite_true, ite_false, reduceIte, IC, bI_0, bI_1, bF, Bool.not_eq_false, Bool.not_eq_true, Bool.and_true, Bool.true_and, Bool.and_false, Bool.false_and, Bool.true_or, Bool.or_true, Bool.or_false, Bool.false_or, Bool.not_true, Bool.not_false, decide_true, decide_false, not_true_eq_false, not_false_eq_true, eq_self, Bool.true_eq_false, Bool.false_eq_true, B250_16, WCs hv', h10, e4, B250_28, B249_0, ctx]
        · rw [if_neg h10]
          refine ⟨K3, ?_, fun _ => q3, fun q => (by cases q)⟩
          simp only [B250_12, IC, ev', Option.bind_some, List.append_nil, List.nil_append, List.cons_append, cond_true, cond_false, if_true, if_false, ite_true, ite_false, reduceIte, IC, bI_0, bI_1, bF, Bool.not_eq_false, Bool.not_eq_true, Bool.and_true, Bool.true_and, Bool.and_false, Bool.false_and, Bool.true_or, Bool.or_true, Bool.or_false, Bool.false_or, Bool.not_true, Bool.not_false, decide_true, decide_false, not_true_eq_false, not_false_eq_true, eq_self, Bool.true_eq_false, Bool.false_eq_true, B250_16, WCs hv', h10]
theorem cnd_of (hx : TxR J b n) (h : POne X D P N J b n B r) : PCnd X D P N J b n B r := by
  intro d K T A hq g hT hl
  obtain ⟨K1, e1, q1⟩ := R2_cn1 (d := d) hx h 200 false false T A K hT hq g hT (by unfold o2; simp only [Bool.false_eq_true, if_false]; omega)
  refine ⟨K1, ?_, q1⟩
  rw [← e1]
  rw [show d + 9 + 3 * r = d + 7 + 3 * r + 2 by omega]
  simp only [B250_0, RDm, hq.2.1.2, Option.bind_some, List.append_nil, List.nil_append, List.cons_append, cond_true, cond_false, if_true, if_false, ite_true, ite_false, reduceIte, IC, bI_0, bI_1, bF, Bool.not_eq_false, Bool.not_eq_true, Bool.and_true, Bool.true_and, Bool.and_false, Bool.false_and, Bool.true_or, Bool.or_true, Bool.or_false, Bool.false_or, Bool.not_true, Bool.not_false, decide_true, decide_false, not_true_eq_false, not_false_eq_true, eq_self, Bool.true_eq_false, Bool.false_eq_true, IC, B249_0, ctx]
theorem all_r (hx : TxR J b n) : ∀ r, r ≤ 3 → POne X D P N J b n B r
  | 0, _ => one_mid hx (mid_0 hx)
  | r + 1, h => one_mid hx (mid_s hx h (cnd_of hx (all_r hx r (by omega))))
theorem R2_cnd (hx : TxR J b n) (hq : QR J K b n T 0 B) (g : Gt b n T) (hT : T.length < 200) (hl : B.length ≤ hP n T) : ∃ K', Rn X (d + 18) 250 0 [.ref 65] [] (Mh D K P N) = some ([], Mh D K' P N) ∧ QE J K' b n (cndP (hS b n) (hV b n) (grpP (hS b n) (hV b n) 3) 200 false false T []) 0 B := by
  have := cnd_of hx (all_r (X := X) (D := D) (P := P) (N := N) (B := B) hx 3 (by omega)) d K T [] (by rw [show B ++ exL [] = B from List.append_nil B]; exact hq) g hT ⟨by simp, by simpa [exL] using hl⟩
  exact this
end RefM
