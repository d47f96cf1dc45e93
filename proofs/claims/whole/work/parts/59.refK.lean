/-! the reference: the rows of a proof -/
def tls : List Nat → (Nat → Int32) → (Nat → Int32)
  | [], s => s
  | a :: l, s => tls l (telS s a)
def okP : List Nat → (Nat → Int32) → Prop
  | [], _ => True
  | a :: l, s => (a < ctA s ∧ canV s a = true) ∧ okP l (telS s a)
def prvR : List Nat → Nat → (Nat → Int32) → (Nat → Int32) → (Nat → Int32)
  | [], _, _, w => w
  | a :: l, i, s, w => prvR l (i + 1) (telS s a) (upd (upd (upd w (3 * i) (Int32.ofNat a)) (3 * i + 1) (telS s a 4)) (3 * i + 2) (telS s a 5))
def prvI (I : Nat → Nat → Int32) : Nat → Nat → Int32 := match shoF (I 66) with | none => I | some n => u2 (u2r I 71 (prvR (fstR n (I 66)) 0 (I 66) (I 71))) 65 11 (Int32.ofNat n)
def jdg1 (W : Nat → Nat → Int32) (n i : Nat) (s : Nat → Int32) : Bool := isA s (W 0 i) && canV s (W 0 i).toNatClampNeg && decide (W 1 i = telS s (W 0 i).toNatClampNeg 4) && decide (W 2 i = telS s (W 0 i).toNatClampNeg 5) && (decide (i + 1 < n) || ovV (telS s (W 0 i).toNatClampNeg))
def jdgF (W : Nat → Nat → Int32) (n : Nat) : Nat → Nat → (Nat → Int32) → Int32
  | 0, _, _ => 0
  | k + 1, i, s => if jdg1 W n i s = true then jdgF W n k (i + 1) (telS s (W 0 i).toNatClampNeg) else Int32.ofNat (i + 1)
section RefK
variable {X : mX} {d : Nat} {D : Nat → Nat × Nat} {I : Nat → Nat → Int32} {P : Nat → Nat → Option Nat} {N : Nat} {h : mH} {s g c S r w : Nat → Int32} {J : Nat → Nat → Int32} {m : Int} {i j k n p q : Nat} {x v a b e f : Int32}
theorem fst_ok : ∀ n s, okP (fstR n s) s
  | 0, _ => trivial
  | n + 1, s => by
    unfold fstR
    cases ovV s with
    | true => exact trivial
    | false =>
      show okP (match findF (fun a => canV s a && arrF n (telS s a)) 0 (ctA s) with | none => [] | some a => a :: fstR n (telS s a)) s
      cases hf : findF (fun a => canV s a && arrF n (telS s a)) 0 (ctA s) with
      | none => exact trivial
      | some a =>
        have h1 := findF_lt _ _ _ hf
        have h2 := h1.2.2
        simp only [Bool.and_eq_true] at h2
        exact ⟨⟨by omega, h2.1⟩, fst_ok n (telS s a)⟩
theorem R71_w : u2 (R6 (u2r (u2r J 71 w) 68 r) g s) 71 k x = R6 (u2r (u2r J 71 (upd w k x)) 68 r) g s := by
  funext b
  by_cases h1 : b = 71
  · subst h1; rfl
  · rw [u2_o h1]
    unfold R6
    by_cases h2 : b = 66
    · subst h2; rfl
    · rw [u2r_o h2, u2r_o h2]
      by_cases h3 : b = 69
      · subst h3; rfl
      · rw [u2r_o h3, u2r_o h3]
        by_cases h4 : b = 68
        · subst h4; rfl
        · rw [u2r_o h4, u2r_o h4, u2r_o h1, u2r_o h1]
theorem M_prv1 (hn : n ≤ 4) : ∀ l i s g w (l3 : Value), Ok s 10 → E320 s S → okP l s → i + l.length = n → (∀ j, j < l.length → J 70 (i + j) = Int32.ofNat (l.getD j 0)) → ∃ g', Rn X (d + 7) 230 23 [.ref 65, .int (Int32.ofNat n), .int (Int32.ofNat i), l3] [] (Mh D (R6 (u2r (u2r J 71 w) 68 (row320 S c)) g s) P N)
      = some ([.int (Int32.ofNat n)], Mh D (R6 (u2r (u2r J 71 (prvR l i s w)) 68 (row320 S c)) g' S) P N)
  | [], i, s, g, w, l3, ok, he, hp, hi, hq => by
    refine ⟨g, ?_⟩
    have hi : i = n := by simpa using hi
    rw [B230_23, if_pos (by rw [iN_le (by omega) (by omega)]; omega)]
    simp only [IC, Option.bind_some, List.append_nil, List.nil_append, List.cons_append, cond_true, cond_false, if_true, if_false, ite_true, ite_false, reduceIte, IC, bI_0, bI_1, bF, Bool.not_eq_false, Bool.not_eq_true, Bool.and_true, Bool.true_and, Bool.and_false, Bool.false_and, Bool.true_or, Bool.or_true, Bool.or_false, Bool.false_or, Bool.not_true, Bool.not_false, decide_true, decide_false, not_true_eq_false, not_false_eq_true, eq_self, Bool.true_eq_false, Bool.false_eq_true, M_pb he, B230_95]
    rfl
  | a :: l, i, s, g, w, l3, ok, he, hp, hi, hq => by
    have hi' : i + l.length + 1 = n := by simp at hi; omega
    have hq0 := hq 0 (by simp)
    have ha9 := ok.1.a hp.1.1
    obtain ⟨g1, e1⟩ := M_tel (X := X) (d := d) (D := D) (I := u2r (u2r J 71 w) 68 (row320 S c)) (P := P) (N := N) ok hp.1.1 g
    have hJ : ∀ w g s, R6 (u2r (u2r J 71 w) 68 (row320 S c)) g s 70 i = Int32.ofNat a := fun w g s => hq0
    obtain ⟨g2, e2⟩ := M_prv1 hn l (i + 1) (telS s a) g1 (upd (upd (upd w (3 * i) (Int32.ofNat a)) (3 * i + 1) (telS s a 4)) (3 * i + 2) (telS s a 5)) (.int (pasV s a)) (ok.tel (by decide) hp.1.1 hp.1.2) (he.tel ha9) hp.2 (by omega)
      (fun j hj => by have := hq (j + 1) (by simp; omega); rw [show i + (j + 1) = i + 1 + j by omega] at this; exact this)
    refine ⟨g2, ?_⟩
    rw [B230_23, if_neg (by rw [iN_le (by omega) (by omega)]; omega)]
    have r70 : ∀ I', hAI 0 (Mh D I' P N) 70 (Int32.ofNat i) = some (I' 70 i) := fun I' => rr70 (by omega)
    have w0 : ∀ I' x, hAS 0 (Mh D I' P N) 71 (Int32.ofNat (3 * i)) x = some (Mh D (u2 I' 71 (3 * i) x) P N) := fun I' x => ww71 (by omega)
    have w1 : ∀ I' x, hAS 0 (Mh D I' P N) 71 (Int32.ofNat (3 * i + 1)) x = some (Mh D (u2 I' 71 (3 * i + 1) x) P N) := fun I' x => ww71 (by omega)
    have w2 : ∀ I' x, hAS 0 (Mh D I' P N) 71 (Int32.ofNat (3 * i + 2)) x = some (Mh D (u2 I' 71 (3 * i + 2) x) P N) := fun I' x => ww71 (by omega)
    simp only [RDm, Option.bind_some, List.append_nil, List.nil_append, List.cons_append, cond_true, cond_false, if_true, if_false, ite_true, ite_false, reduceIte, IC, bI_0, bI_1, bF, Bool.not_eq_false, Bool.not_eq_true, Bool.and_true, Bool.true_and, Bool.and_false, Bool.false_and, Bool.true_or, Bool.or_true, Bool.or_false, Bool.false_or, Bool.not_true, Bool.not_false, decide_true, decide_false, not_true_eq_false, not_false_eq_true, eq_self, Bool.true_eq_false, Bool.false_eq_true, r70, hJ, e1, B230_38, IX, w0, w1, w2, R71_w, R6_66]
    exact e2
theorem F_prv (ok : Ok (I 66) 10) : ∀ d D P N, ∃ I', Rn X (d + 40) 230 0 [.ref 65, U_, U_, U_] [] (Mh D I P N) = some ([.int (pFew (I 66))], Mh D I' P N) ∧ Sc (prvI I) I' := by
  intro d D P N
  obtain ⟨g', v', e⟩ := M_sho (X := X) (d := d + 27) (D := D) (I := I) (P := P) (N := N) ok (I 69) (I 70) (I 65 6)
  rw [R67_id] at e
  simp only [B230_0, IC, Option.bind_some, List.append_nil, List.nil_append, List.cons_append, cond_true, cond_false, if_true, if_false, ite_true, ite_false, reduceIte, IC, bI_0, bI_1, bF, Bool.not_eq_false, Bool.not_eq_true, Bool.and_true, Bool.true_and, Bool.and_false, Bool.false_and, Bool.true_or, Bool.or_true, Bool.or_false, Bool.false_or, Bool.not_true, Bool.not_false, decide_true, decide_false, not_true_eq_false, not_false_eq_true, eq_self, Bool.true_eq_false, Bool.false_eq_true, e, B230_4]
  unfold pFew prvI
  cases hs : shoF (I 66) with
  | none =>
    have h1 : ¬ (0 : Int32) ≤ -1 := by decide
    refine ⟨_, by simp only [oM, h1, Option.bind_some, List.append_nil, List.nil_append, List.cons_append, cond_true, cond_false, if_true, if_false, ite_true, ite_false, reduceIte, IC, bI_0, bI_1, bF, Bool.not_eq_false, Bool.not_eq_true, Bool.and_true, Bool.true_and, Bool.and_false, Bool.false_and, Bool.true_or, Bool.or_true, Bool.or_false, Bool.false_or, Bool.not_true, Bool.not_false, decide_true, decide_false, not_true_eq_false, not_false_eq_true, eq_self, Bool.true_eq_false, Bool.false_eq_true]; rfl, ?_⟩
    have := (Sc_rf (I := I)).r7 (c := shoC (I 70) (I 66) none) (v := v')
    have h2 := this.r6 (g := g') (S := I 66)
    rw [u2r_id] at h2
    exact h2
  | some n =>
    obtain ⟨hn1, hn2, hn3⟩ := sho_lt hs
    have hlen := fst_len n (I 66) hn2 hn3
    have h1 : (0 : Int32) ≤ Int32.ofNat n := by rw [Int32.le_iff_toInt_le, iN_ti (by omega), z_ti]; omega
    have e70 : ∀ j, j < (fstR n (I 66)).length → setR (I 70) 0 (fstR n (I 66)) (0 + j) = Int32.ofNat ((fstR n (I 66)).getD j 0) := fun j hj => setR_at _ 0 j hj
    generalize hB : u2 (R7 I (shoC (I 70) (I 66) (some n)) v') 65 11 (Int32.ofNat n) = B
    have hB70 : ∀ j, j < (fstR n (I 66)).length → B 70 (0 + j) = Int32.ofNat ((fstR n (I 66)).getD j 0) := fun j hj => by rw [← hB]; exact e70 j hj
    have hb : ∀ r, u2 (R6 (u2r (R7 I (shoC (I 70) (I 66) (some n)) v') 68 r) g' (I 66)) 65 11 (Int32.ofNat n) = R6 (u2r (u2r B 71 (B 71)) 68 r) g' (I 66) := by
      intro r
      rw [u2r_id, ← hB]
      funext b
      by_cases q1 : b = 65
      · subst q1; rfl
      · rw [u2_o q1]
        unfold R6
        by_cases h2 : b = 66
        · subst h2; rfl
        · rw [u2r_o h2, u2r_o h2]
          by_cases h3 : b = 69
          · subst h3; rfl
          · rw [u2r_o h3, u2r_o h3]
            by_cases h4 : b = 68
            · subst h4; rfl
            · rw [u2r_o h4, u2r_o h4, u2_o q1]
    obtain ⟨g2, e2⟩ := M_prv1 (X := X) (d := d + 33) (D := D) (P := P) (N := N) (J := B) (S := I 66) (c := R7 I (shoC (I 70) (I 66) (some n)) v' 68) (show n ≤ 4 by omega) (fstR n (I 66)) 0 (I 66) g' (B 71) U_ ok E320_rf (fst_ok n (I 66)) (by omega) hB70
    refine ⟨R6 (u2r (u2r B 71 (prvR (fstR n (I 66)) 0 (I 66) (B 71))) 68 (row320 (I 66) (R7 I (shoC (I 70) (I 66) (some n)) v' 68))) g2 (I 66), ?_, ?_⟩
    · simp only [oM, h1, Option.bind_some, List.append_nil, List.nil_append, List.cons_append, cond_true, cond_false, if_true, if_false, ite_true, ite_false, reduceIte, IC, bI_0, bI_1, bF, Bool.not_eq_false, Bool.not_eq_true, Bool.and_true, Bool.true_and, Bool.and_false, Bool.false_and, Bool.true_or, Bool.or_true, Bool.or_false, Bool.false_or, Bool.not_true, Bool.not_false, decide_true, decide_false, not_true_eq_false, not_false_eq_true, eq_self, Bool.true_eq_false, Bool.false_eq_true, M_pt, B230_16, WRm]
      rw [hb]
      exact e2
    · have hB71 : B 71 = I 71 := by rw [← hB]; rfl
      rw [hB71]
      refine ⟨fun a ha => ?_, ⟨rfl, ?_, rfl, ?_, ?_, ?_, ?_, ?_, ?_, ?_, ?_⟩, ?_, ?_, ?_, ?_⟩
      · rw [R6_o (by omega) (by omega), u2r_o (by omega), u2r_o (by omega), ← hB, u2_o (by omega)]
        unfold R7
        show _ = u2 (u2r I 71 _) 65 11 _ a
        rw [u2_o (by omega), u2r_o (by omega), u2_o (by omega), u2r_o (by omega)]
      all_goals rw [← hB]; rfl
theorem F_isr (hn : I 65 11 = Int32.ofNat n) (h4 : n ≤ 4) : Rn X (d + 1) 231 0 [.ref 65, .int a, .int b] [] (Mh D I P N) = some ([.int (bI (bt a 0 ((n : Int) - 1) && bt b 0 2))], Mh D I P N) := by
  have e0 : 0 ≤ (I 65 11).toInt := by rw [hn, iN_ti (by omega)]; omega
  have e := t_m1 e0
  rw [hn, iN_ti (by omega)] at e
  simp only [B231_0, RDm, Option.bind_some, List.append_nil, List.nil_append, List.cons_append, cond_true, cond_false, if_true, if_false, ite_true, ite_false, reduceIte, IC, bI_0, bI_1, bF, Bool.not_eq_false, Bool.not_eq_true, Bool.and_true, Bool.true_and, Bool.and_false, Bool.false_and, Bool.true_or, Bool.or_true, Bool.or_false, Bool.false_or, Bool.not_true, Bool.not_false, decide_true, decide_false, not_true_eq_false, not_false_eq_true, eq_self, Bool.true_eq_false, Bool.false_eq_true, M_bt, L64, Int32.toInt_toInt64, hn, e, B231_13, B231_25, B231_32, B231_33]
  cases bt a 0 ((n : Int) - 1) with
  | false => simp +decide only [Option.bind_some, List.append_nil, List.nil_append, List.cons_append, cond_true, cond_false, if_true, if_false, ite_true, ite_false, reduceIte, IC, bI_0, bI_1, bF, Bool.not_eq_false, Bool.not_eq_true, Bool.and_true, Bool.true_and, Bool.and_false, Bool.false_and, Bool.true_or, Bool.or_true, Bool.or_false, Bool.false_or, Bool.not_true, Bool.not_false, decide_true, decide_false, not_true_eq_false, not_false_eq_true, eq_self, Bool.true_eq_false, Bool.false_eq_true]; rfl
  | true => cases bt b 0 2 <;> simp +decide only [Option.bind_some, List.append_nil, List.nil_append, List.cons_append, cond_true, cond_false, if_true, if_false, ite_true, ite_false, reduceIte, IC, bI_0, bI_1, bF, Bool.not_eq_false, Bool.not_eq_true, Bool.and_true, Bool.true_and, Bool.and_false, Bool.false_and, Bool.true_or, Bool.or_true, Bool.or_false, Bool.false_or, Bool.not_true, Bool.not_false, decide_true, decide_false, not_true_eq_false, not_false_eq_true, eq_self, Bool.true_eq_false, Bool.false_eq_true] <;> rfl
theorem row_ix (h : (bt a 0 ((n : Int) - 1) && bt b 0 2) = true) (h4 : n ≤ 4) : ∃ i j, a = Int32.ofNat i ∧ b = Int32.ofNat j ∧ i < n ∧ j ≤ 2 ∧ a.toNatClampNeg = i ∧ b.toNatClampNeg = j ∧ 3 * a + b = Int32.ofNat (3 * i + j) := by
  simp only [Bool.and_eq_true] at h
  have h1 := bt_iff.mp h.1
  have h2 := bt_iff.mp h.2
  have e1 : a = Int32.ofNat a.toNatClampNeg := iN_of (by omega)
  have e2 : b = Int32.ofNat b.toNatClampNeg := iN_of (by omega)
  have c1 := cl_ti (x := a) (by omega)
  have c2 := cl_ti (x := b) (by omega)
  refine ⟨a.toNatClampNeg, b.toNatClampNeg, e1, e2, by omega, by omega, rfl, rfl, ?_⟩
  have : b.toNatClampNeg = 0 ∨ b.toNatClampNeg = 1 ∨ b.toNatClampNeg = 2 := by omega
  rw [e1, e2, iN_cl (by omega), iN_cl (by omega), Int32.ofNat_add, ← IX.2.2.2.2.2.1]
theorem F_row (hn : I 65 11 = Int32.ofNat n) (h4 : n ≤ 4) : Rn X (d + 40) 232 0 [.ref 65, .int a, .int b] [] (Mh D I P N) = some ([.int (if (bt a 0 ((n : Int) - 1) && bt b 0 2) = true then I 71 (3 * a.toNatClampNeg + b.toNatClampNeg) else -9)], Mh D I P N) := by
  simp only [B232_0, IC, Option.bind_some, List.append_nil, List.nil_append, List.cons_append, cond_true, cond_false, if_true, if_false, ite_true, ite_false, reduceIte, IC, bI_0, bI_1, bF, Bool.not_eq_false, Bool.not_eq_true, Bool.and_true, Bool.true_and, Bool.and_false, Bool.false_and, Bool.true_or, Bool.or_true, Bool.or_false, Bool.false_or, Bool.not_true, Bool.not_false, decide_true, decide_false, not_true_eq_false, not_false_eq_true, eq_self, Bool.true_eq_false, Bool.false_eq_true, F_isr hn h4, B232_6]
  cases hb : (bt a 0 ((n : Int) - 1) && bt b 0 2) with
  | false => simp only [Option.bind_some, List.append_nil, List.nil_append, List.cons_append, cond_true, cond_false, if_true, if_false, ite_true, ite_false, reduceIte, IC, bI_0, bI_1, bF, Bool.not_eq_false, Bool.not_eq_true, Bool.and_true, Bool.true_and, Bool.and_false, Bool.false_and, Bool.true_or, Bool.or_true, Bool.or_false, Bool.false_or, Bool.not_true, Bool.not_false, decide_true, decide_false, not_true_eq_false, not_false_eq_true, eq_self, Bool.true_eq_false, Bool.false_eq_true, B232_24]
  | true =>
    obtain ⟨i, j, -, -, hi, hj, c1, c2, e⟩ := row_ix hb h4
    have r := rr71 (D := D) (I := I) (P := P) (N := N) (j := 3 * i + j) (by omega)
    simp only [Option.bind_some, List.append_nil, List.nil_append, List.cons_append, cond_true, cond_false, if_true, if_false, ite_true, ite_false, reduceIte, IC, bI_0, bI_1, bF, Bool.not_eq_false, Bool.not_eq_true, Bool.and_true, Bool.true_and, Bool.and_false, Bool.false_and, Bool.true_or, Bool.or_true, Bool.or_false, Bool.false_or, Bool.not_true, Bool.not_false, decide_true, decide_false, not_true_eq_false, not_false_eq_true, eq_self, Bool.true_eq_false, Bool.false_eq_true, RDm, e, r, B232_24, c1, c2]
theorem F_alt (hn : I 65 11 = Int32.ofNat n) (h4 : n ≤ 4) : Rn X (d + 40) 233 0 [.ref 65, .int a, .int b, .int v, U_] [] (Mh D I P N) = (if (bt a 0 ((n : Int) - 1) && bt b 0 2) = true then some ([.int (I 71 (3 * a.toNatClampNeg + b.toNatClampNeg))], Mh D (u2 I 71 (3 * a.toNatClampNeg + b.toNatClampNeg) v) P N) else some ([.int (-9)], Mh D I P N)) := by
  simp only [B233_0, IC, Option.bind_some, List.append_nil, List.nil_append, List.cons_append, cond_true, cond_false, if_true, if_false, ite_true, ite_false, reduceIte, IC, bI_0, bI_1, bF, Bool.not_eq_false, Bool.not_eq_true, Bool.and_true, Bool.true_and, Bool.and_false, Bool.false_and, Bool.true_or, Bool.or_true, Bool.or_false, Bool.false_or, Bool.not_true, Bool.not_false, decide_true, decide_false, not_true_eq_false, not_false_eq_true, eq_self, Bool.true_eq_false, Bool.false_eq_true, F_isr hn h4, B233_6]
  cases hb : (bt a 0 ((n : Int) - 1) && bt b 0 2) with
  | false => simp only [Option.bind_some, List.append_nil, List.nil_append, List.cons_append, cond_true, cond_false, if_true, if_false, ite_true, ite_false, reduceIte, IC, bI_0, bI_1, bF, Bool.not_eq_false, Bool.not_eq_true, Bool.and_true, Bool.true_and, Bool.and_false, Bool.false_and, Bool.true_or, Bool.or_true, Bool.or_false, Bool.false_or, Bool.not_true, Bool.not_false, decide_true, decide_false, not_true_eq_false, not_false_eq_true, eq_self, Bool.true_eq_false, Bool.false_eq_true]
  | true =>
    obtain ⟨i, j, -, -, hi, hj, c1, c2, e⟩ := row_ix hb h4
    have r := rr71 (D := D) (I := I) (P := P) (N := N) (j := 3 * i + j) (by omega)
    have w := ww71 (D := D) (I := I) (P := P) (N := N) (j := 3 * i + j) (x := v) (by omega)
    simp only [Option.bind_some, List.append_nil, List.nil_append, List.cons_append, cond_true, cond_false, if_true, if_false, ite_true, ite_false, reduceIte, IC, bI_0, bI_1, bF, Bool.not_eq_false, Bool.not_eq_true, Bool.and_true, Bool.true_and, Bool.and_false, Bool.false_and, Bool.true_or, Bool.or_true, Bool.or_false, Bool.false_or, Bool.not_true, Bool.not_false, decide_true, decide_false, not_true_eq_false, not_false_eq_true, eq_self, Bool.true_eq_false, Bool.false_eq_true, RDm, e, r, w, c1, c2]
end RefK
