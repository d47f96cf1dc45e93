/-! judge, both sides -/
section Judge
variable {X : mX} {d : Nat} {D : Nat → Nat × Nat} {I : Nat → Nat → Int32} {P : Nat → Nat → Option Nat} {N : Nat} {h : mH} {s g c S r w : Nat → Int32} {J J' : Nat → Nat → Int32} {ra : Nat → Nat} {L : List Nat} {W : Nat → Nat → Int32} {m : Int} {i j k n p q : Nat} {x v a b e f : Int32}
theorem M_jend (he : E320 s S) {l3 l4 l5 : Value} : Rn X (d + 8) 234 154 [.ref 65, .int a, .int b, l3, l4, l5] [] (Mh D (R6 (u2r J 68 (row320 S c)) g s) P N) = some ([.int a], Mh D (R6 (u2r J 68 (row320 S c)) g S) P N) := by
  simp only [B234_154, IC, Option.bind_some, List.append_nil, List.nil_append, List.cons_append, cond_true, cond_false, if_true, if_false, ite_true, ite_false, reduceIte, IC, bI_0, bI_1, bF, Bool.not_eq_false, Bool.not_eq_true, Bool.and_true, Bool.true_and, Bool.and_false, Bool.false_and, Bool.true_or, Bool.or_true, Bool.or_false, Bool.false_or, Bool.not_true, Bool.not_false, decide_true, decide_false, not_true_eq_false, not_false_eq_true, eq_self, Bool.true_eq_false, Bool.false_eq_true, M_pb he, B234_158]
theorem M_jbad (he : E320 s S) (hi : i < 4) {l3 l4 l5 : Int32} : Rn X (d + 8) 234 132 [.ref 65, .int 0, .int (Int32.ofNat i), .int l3, .int l4, .int l5] [] (Mh D (R6 (u2r J 68 (row320 S c)) g s) P N) = some ([.int (Int32.ofNat (i + 1))], Mh D (R6 (u2r J 68 (row320 S c)) g S) P N) := by
  have hz : ¬ Int32.ofNat (i + 1) = 0 := by rw [iN_z (by omega)]; omega
  simp only [B234_132, B234_133, Option.bind_some, List.append_nil, List.nil_append, List.cons_append, cond_true, cond_false, if_true, if_false, ite_true, ite_false, reduceIte, IC, bI_0, bI_1, bF, Bool.not_eq_false, Bool.not_eq_true, Bool.and_true, Bool.true_and, Bool.and_false, Bool.false_and, Bool.true_or, Bool.or_true, Bool.or_false, Bool.false_or, Bool.not_true, Bool.not_false, decide_true, decide_false, not_true_eq_false, not_false_eq_true, eq_self, Bool.true_eq_false, Bool.false_eq_true, B234_147, IX]
  rw [B234_8]
  simp only [RDm, Option.bind_some, List.append_nil, List.nil_append, List.cons_append, cond_true, cond_false, if_true, if_false, ite_true, ite_false, reduceIte, IC, bI_0, bI_1, bF, Bool.not_eq_false, Bool.not_eq_true, Bool.and_true, Bool.true_and, Bool.and_false, Bool.false_and, Bool.true_or, Bool.or_true, Bool.or_false, Bool.false_or, Bool.not_true, Bool.not_false, decide_true, decide_false, not_true_eq_false, not_false_eq_true, eq_self, Bool.true_eq_false, Bool.false_eq_true, hz, M_jend he, ite_self]
theorem M_jdg1 (hJ : J 65 11 = Int32.ofNat n) (hn : n ≤ 4) (hW : ∀ w i, w < 3 → i < 4 → W w i = J 71 (3 * i + w)) : ∀ k i s g (l3 l4 l5 : Value), Ok s 10 → E320 s S → i + k = n → ∃ g', Rn X (d + 8) 234 8 [.ref 65, .int 0, .int (Int32.ofNat i), l3, l4, l5] [] (Mh D (R6 (u2r J 68 (row320 S c)) g s) P N)
      = some ([.int (jdgF W n k i s)], Mh D (R6 (u2r J 68 (row320 S c)) g' S) P N)
  | 0, i, s, g, l3, l4, l5, ok, he, hk => by
    refine ⟨g, ?_⟩
    have j11 : R6 (u2r J 68 (row320 S c)) g s 65 11 = Int32.ofNat n := hJ
    rw [B234_8]
    simp only [RDm, Option.bind_some, List.append_nil, List.nil_append, List.cons_append, cond_true, cond_false, if_true, if_false, ite_true, ite_false, reduceIte, IC, bI_0, bI_1, bF, Bool.not_eq_false, Bool.not_eq_true, Bool.and_true, Bool.true_and, Bool.and_false, Bool.false_and, Bool.true_or, Bool.or_true, Bool.or_false, Bool.false_or, Bool.not_true, Bool.not_false, decide_true, decide_false, not_true_eq_false, not_false_eq_true, eq_self, Bool.true_eq_false, Bool.false_eq_true, j11]
    rw [if_pos (by rw [iN_le (by omega) (by omega)]; omega), M_jend he]
    rfl
  | k + 1, i, s, g, l3, l4, l5, ok, he, hk => by
    have j11 : ∀ g s, R6 (u2r J 68 (row320 S c)) g s 65 11 = Int32.ofNat n := fun _ _ => hJ
    have r0 : ∀ g s, hAI 0 (Mh D (R6 (u2r J 68 (row320 S c)) g s) P N) 71 (Int32.ofNat (3 * i)) = some (W 0 i) := fun g s => by rw [rr71 (by omega), hW 0 i (by omega) (by omega)]; rfl
    have r1 : ∀ g s, hAI 0 (Mh D (R6 (u2r J 68 (row320 S c)) g s) P N) 71 (Int32.ofNat (3 * i + 1)) = some (W 1 i) := fun g s => by rw [rr71 (by omega), hW 1 i (by omega) (by omega)]; rfl
    have r2 : ∀ g s, hAI 0 (Mh D (R6 (u2r J 68 (row320 S c)) g s) P N) 71 (Int32.ofNat (3 * i + 2)) = some (W 2 i) := fun g s => by rw [rr71 (by omega), hW 2 i (by omega) (by omega)]; rfl
    have hA := M_isA (X := X) (d := d + 6) (D := D) (I := R6 (u2r J 68 (row320 S c)) g s) (P := P) (N := N) (m := 10) (a := W 0 i) ok.1
    rw [R6_66] at hA
    rw [B234_8]
    simp only [RDm, Option.bind_some, List.append_nil, List.nil_append, List.cons_append, cond_true, cond_false, if_true, if_false, ite_true, ite_false, reduceIte, IC, bI_0, bI_1, bF, Bool.not_eq_false, Bool.not_eq_true, Bool.and_true, Bool.true_and, Bool.and_false, Bool.false_and, Bool.true_or, Bool.or_true, Bool.or_false, Bool.false_or, Bool.not_true, Bool.not_false, decide_true, decide_false, not_true_eq_false, not_false_eq_true, eq_self, Bool.true_eq_false, Bool.false_eq_true, j11]
    rw [if_neg (by rw [iN_le (by omega) (by omega)]; omega)]
    simp only [IX, r0, Option.bind_some, List.append_nil, List.nil_append, List.cons_append, cond_true, cond_false, if_true, if_false, ite_true, ite_false, reduceIte, IC, bI_0, bI_1, bF, Bool.not_eq_false, Bool.not_eq_true, Bool.and_true, Bool.true_and, Bool.and_false, Bool.false_and, Bool.true_or, Bool.or_true, Bool.or_false, Bool.false_or, Bool.not_true, Bool.not_false, decide_true, decide_false, not_true_eq_false, not_false_eq_true, eq_self, Bool.true_eq_false, Bool.false_eq_true, hA, B234_34]
    unfold jdgF
    cases hb : isA s (W 0 i) with
    | false =>
      refine ⟨g, ?_⟩
      have : jdg1 W n i s = false := by unfold jdg1; rw [hb]; rfl
      simp only [Option.bind_some, List.append_nil, List.nil_append, List.cons_append, cond_true, cond_false, if_true, if_false, ite_true, ite_false, reduceIte, IC, bI_0, bI_1, bF, Bool.not_eq_false, Bool.not_eq_true, Bool.and_true, Bool.true_and, Bool.and_false, Bool.false_and, Bool.true_or, Bool.or_true, Bool.or_false, Bool.false_or, Bool.not_true, Bool.not_false, decide_true, decide_false, not_true_eq_false, not_false_eq_true, eq_self, Bool.true_eq_false, Bool.false_eq_true, B234_49, B234_50, B234_66, M_jbad he (show i < 4 by omega), this]
    | true =>
      obtain ⟨t, ht, hx⟩ := isA_nat ok.1 hb
      have ht9 := ok.1.a ht
      have e0 : (W 0 i).toNatClampNeg = t := by rw [hx, iN_cl (by omega)]
      have hC := M_can (X := X) (d := d + 4) (D := D) (I := R6 (u2r J 68 (row320 S c)) g s) (P := P) (N := N) (m := 10) (i := t) ok.1 ht9
      rw [R6_66, ← hx] at hC
      simp only [Option.bind_some, List.append_nil, List.nil_append, List.cons_append, cond_true, cond_false, if_true, if_false, ite_true, ite_false, reduceIte, IC, bI_0, bI_1, bF, Bool.not_eq_false, Bool.not_eq_true, Bool.and_true, Bool.true_and, Bool.and_false, Bool.false_and, Bool.true_or, Bool.or_true, Bool.or_false, Bool.false_or, Bool.not_true, Bool.not_false, decide_true, decide_false, not_true_eq_false, not_false_eq_true, eq_self, Bool.true_eq_false, Bool.false_eq_true, hC, B234_42]
      cases hc : canV s t with
      | false =>
        refine ⟨g, ?_⟩
        have : jdg1 W n i s = false := by unfold jdg1; rw [hb, e0, hc]; rfl
        simp only [Option.bind_some, List.append_nil, List.nil_append, List.cons_append, cond_true, cond_false, if_true, if_false, ite_true, ite_false, reduceIte, IC, bI_0, bI_1, bF, Bool.not_eq_false, Bool.not_eq_true, Bool.and_true, Bool.true_and, Bool.and_false, Bool.false_and, Bool.true_or, Bool.or_true, Bool.or_false, Bool.false_or, Bool.not_true, Bool.not_false, decide_true, decide_false, not_true_eq_false, not_false_eq_true, eq_self, Bool.true_eq_false, Bool.false_eq_true, B234_49, B234_50, B234_66, M_jbad he (show i < 4 by omega), this]
      | true =>
        obtain ⟨g1, e1⟩ := M_tel (X := X) (d := d + 1) (D := D) (I := u2r J 68 (row320 S c)) (P := P) (N := N) ok ht g
        rw [← hx] at e1
        have he2 := he.tel (i := t) ht9
        have ok2 := ok.tel (by decide) ht hc
        have hO := M_over (X := X) (d := d + 5) (D := D) (I := R6 (u2r J 68 (row320 S c)) g1 (telS s t)) (P := P) (N := N) (m := 10) ok2.1
        rw [R6_66] at hO
        have n1 : ¬ (1 : Int32) = 0 := by decide
        simp only [Option.bind_some, List.append_nil, List.nil_append, List.cons_append, cond_true, cond_false, if_true, if_false, ite_true, ite_false, reduceIte, IC, bI_0, bI_1, bF, Bool.not_eq_false, Bool.not_eq_true, Bool.and_true, Bool.true_and, Bool.and_false, Bool.false_and, Bool.true_or, Bool.or_true, Bool.or_false, Bool.false_or, Bool.not_true, Bool.not_false, decide_true, decide_false, not_true_eq_false, not_false_eq_true, eq_self, Bool.true_eq_false, Bool.false_eq_true, B234_50, n1, e1, B234_62, B234_66, RDm, IX, r1, R6_66, j11, r2]
        by_cases h4 : W 1 i = telS s t 4
        · by_cases h5 : W 2 i = telS s t 5
          · have good : ∀ l5 : Int32, ∃ g', Rn X (d + 8) 234 128 [.ref 65, .int 0, .int (Int32.ofNat i), .int (W 0 i), .int 1, .int l5] [] (Mh D (R6 (u2r J 68 (row320 S c)) g1 (telS s t)) P N) = some ([.int (jdgF W n k (i + 1) (telS s t))], Mh D (R6 (u2r J 68 (row320 S c)) g' S) P N) := by
              intro l5
              obtain ⟨g2, e2⟩ := M_jdg1 hJ hn hW k (i + 1) (telS s t) g1 (.int (W 0 i)) (.int 1) (.int l5) ok2 he2 (by omega)
              refine ⟨g2, ?_⟩
              simp only [B234_128, B234_133, n1, Option.bind_some, List.append_nil, List.nil_append, List.cons_append, cond_true, cond_false, if_true, if_false, ite_true, ite_false, reduceIte, IC, bI_0, bI_1, bF, Bool.not_eq_false, Bool.not_eq_true, Bool.and_true, Bool.true_and, Bool.and_false, Bool.false_and, Bool.true_or, Bool.or_true, Bool.or_false, Bool.false_or, Bool.not_true, Bool.not_false, decide_true, decide_false, not_true_eq_false, not_false_eq_true, eq_self, Bool.true_eq_false, Bool.false_eq_true, B234_147, IX]
              exact e2
            obtain ⟨g2, e2⟩ := good (pasV s t)
            have hlt : (Int32.ofNat i < Int32.ofNat n - 1) = (i + 1 < n) := by rw [iN_pred (by omega), iN_lt (by omega) (by omega)]; exact propext (by omega)
            by_cases hl : i + 1 < n
            · have : jdg1 W n i s = true := by unfold jdg1; rw [hb, e0, hc, decide_eq_true h4, decide_eq_true h5, decide_eq_true hl]; rfl
              refine ⟨g2, ?_⟩
              simp only [h4, h5, Option.bind_some, List.append_nil, List.nil_append, List.cons_append, cond_true, cond_false, if_true, if_false, ite_true, ite_false, reduceIte, IC, bI_0, bI_1, bF, Bool.not_eq_false, Bool.not_eq_true, Bool.and_true, Bool.true_and, Bool.and_false, Bool.false_and, Bool.true_or, Bool.or_true, Bool.or_false, Bool.false_or, Bool.not_true, Bool.not_false, decide_true, decide_false, not_true_eq_false, not_false_eq_true, eq_self, Bool.true_eq_false, Bool.false_eq_true, hlt, hl, this, e0]
              exact e2
            · cases ho : ovV (telS s t) with
              | true =>
                have : jdg1 W n i s = true := by unfold jdg1; rw [hb, e0, hc, decide_eq_true h4, decide_eq_true h5, decide_eq_false hl, ho]; rfl
                refine ⟨g2, ?_⟩
                rw [ho] at hO
                simp only [h4, h5, Option.bind_some, List.append_nil, List.nil_append, List.cons_append, cond_true, cond_false, if_true, if_false, ite_true, ite_false, reduceIte, IC, bI_0, bI_1, bF, Bool.not_eq_false, Bool.not_eq_true, Bool.and_true, Bool.true_and, Bool.and_false, Bool.false_and, Bool.true_or, Bool.or_true, Bool.or_false, Bool.false_or, Bool.not_true, Bool.not_false, decide_true, decide_false, not_true_eq_false, not_false_eq_true, eq_self, Bool.true_eq_false, Bool.false_eq_true, hlt, hl, this, e0, hO, B234_125, bI_t, n1]
                exact e2
              | false =>
                have : jdg1 W n i s = false := by unfold jdg1; rw [hb, e0, hc, decide_eq_true h4, decide_eq_true h5, decide_eq_false hl, ho]; rfl
                refine ⟨g1, ?_⟩
                rw [ho] at hO
                simp only [h4, h5, Option.bind_some, List.append_nil, List.nil_append, List.cons_append, cond_true, cond_false, if_true, if_false, ite_true, ite_false, reduceIte, IC, bI_0, bI_1, bF, Bool.not_eq_false, Bool.not_eq_true, Bool.and_true, Bool.true_and, Bool.and_false, Bool.false_and, Bool.true_or, Bool.or_true, Bool.or_false, Bool.false_or, Bool.not_true, Bool.not_false, decide_true, decide_false, not_true_eq_false, not_false_eq_true, eq_self, Bool.true_eq_false, Bool.false_eq_true, hlt, hl, this, hO, B234_125, bI_f, M_jbad he2 (show i < 4 by omega)]
          · have : jdg1 W n i s = false := by unfold jdg1; rw [hb, e0, hc, decide_eq_true h4, decide_eq_false h5]; rfl
            refine ⟨g1, ?_⟩
            simp only [h4, h5, Option.bind_some, List.append_nil, List.nil_append, List.cons_append, cond_true, cond_false, if_true, if_false, ite_true, ite_false, reduceIte, IC, bI_0, bI_1, bF, Bool.not_eq_false, Bool.not_eq_true, Bool.and_true, Bool.true_and, Bool.and_false, Bool.false_and, Bool.true_or, Bool.or_true, Bool.or_false, Bool.false_or, Bool.not_true, Bool.not_false, decide_true, decide_false, not_true_eq_false, not_false_eq_true, eq_self, Bool.true_eq_false, Bool.false_eq_true, this, M_jbad he2 (show i < 4 by omega)]
        · have : jdg1 W n i s = false := by unfold jdg1; rw [hb, e0, hc, decide_eq_false h4]; rfl
          refine ⟨g1, ?_⟩
          simp only [h4, Option.bind_some, List.append_nil, List.nil_append, List.cons_append, cond_true, cond_false, if_true, if_false, ite_true, ite_false, reduceIte, IC, bI_0, bI_1, bF, Bool.not_eq_false, Bool.not_eq_true, Bool.and_true, Bool.true_and, Bool.and_false, Bool.false_and, Bool.true_or, Bool.or_true, Bool.or_false, Bool.false_or, Bool.not_true, Bool.not_false, decide_true, decide_false, not_true_eq_false, not_false_eq_true, eq_self, Bool.true_eq_false, Bool.false_eq_true, this, M_jbad he2 (show i < 4 by omega)]
theorem F_jdg (ok : Ok (I 66) 10) (hJ : I 65 11 = Int32.ofNat n) (hn : n ≤ 4) (hW : ∀ w i, w < 3 → i < 4 → W w i = I 71 (3 * i + w)) : Rf X I 234 [.ref 65, U_, U_, U_, U_, U_] (jdgF W n n 0 (I 66), I 66) := by
  intro d D P N
  have ep := M_pt (X := X) (d := d + 39) (D := D) (J := I) (P := P) (N := N) (g := I 69) (s := I 66)
  rw [R6_id] at ep
  obtain ⟨g1, e3⟩ := M_jdg1 (X := X) (d := d + 32) (D := D) (P := P) (N := N) (c := I 68) hJ hn hW n 0 (I 66) (I 69) U_ U_ U_ ok E320_rf (by omega)
  refine ⟨R6 (u2r I 68 (row320 (I 66) (I 68))) g1 (I 66), ?_, (Sc_rf.r68).r6⟩
  simp only [B234_0, IC, Option.bind_some, List.append_nil, List.nil_append, List.cons_append, cond_true, cond_false, if_true, if_false, ite_true, ite_false, reduceIte, IC, bI_0, bI_1, bF, Bool.not_eq_false, Bool.not_eq_true, Bool.and_true, Bool.true_and, Bool.and_false, Bool.false_and, Bool.true_or, Bool.or_true, Bool.or_false, Bool.false_or, Bool.not_true, Bool.not_false, decide_true, decide_false, not_true_eq_false, not_false_eq_true, eq_self, Bool.true_eq_false, Bool.false_eq_true, ep, B234_4]
  exact e3
theorem rq50 : (mib 0 3 = true ∧ mib 1 3 = true ∧ mib 2 3 = true) ∧ (if Int32.toNatClampNeg 0 < 3 then some (51 + Int32.toNatClampNeg 0) else none) = some 51 ∧ (if Int32.toNatClampNeg 1 < 3 then some (51 + Int32.toNatClampNeg 1) else none) = some 52 ∧ (if Int32.toNatClampNeg 2 < 3 then some (51 + Int32.toNatClampNeg 2) else none) = some 53 := by decide
theorem rw5 (h : j < 4) : hAI 0 (Mh D I P N) 51 (Int32.ofNat j) = some (I 51 j) ∧ hAI 0 (Mh D I P N) 52 (Int32.ofNat j) = some (I 52 j) ∧ hAI 0 (Mh D I P N) 53 (Int32.ofNat j) = some (I 53 j) := by
  refine ⟨?_, ?_, ?_⟩
  · rw [rdA hN51 (n := 4) rfl rfl, mib_N h (by decide), iN_cl (by omega)]; rfl
  · rw [rdA hN52 (n := 4) rfl rfl, mib_N h (by decide), iN_cl (by omega)]; rfl
  · rw [rdA hN53 (n := 4) rfl rfl, mib_N h (by decide), iN_cl (by omega)]; rfl
theorem ww5 (h : j < 4) : (∀ I x, hAS 0 (Mh D I P N) 51 (Int32.ofNat j) x = some (Mh D (u2 I 51 j x) P N)) ∧ (∀ I x, hAS 0 (Mh D I P N) 52 (Int32.ofNat j) x = some (Mh D (u2 I 52 j x) P N)) ∧ (∀ I x, hAS 0 (Mh D I P N) 53 (Int32.ofNat j) x = some (Mh D (u2 I 53 j x) P N)) := by
  refine ⟨fun I x => ?_, fun I x => ?_, fun I x => ?_⟩
  · rw [wrA hN51 (n := 4) rfl rfl, mib_N h (by decide), iN_cl (by omega)]; rfl
  · rw [wrA hN52 (n := 4) rfl rfl, mib_N h (by decide), iN_cl (by omega)]; rfl
  · rw [wrA hN53 (n := 4) rfl rfl, mib_N h (by decide), iN_cl (by omega)]; rfl
theorem pth_0 : ∀ L, pth L s 0 = s 0
  | [] => rfl
  | a :: L => by
    show telS (pth L s) a 0 = _
    rw [tel_o (by omega) (by omega) (by omega), pth_0 L]
theorem isA_0 (h : S 0 = s 0) : isA S a = isA s a := by unfold isA; rw [h]
theorem N_jend (ok : Ok s 10) (hS : Srch D P N ra s I L J) (hL : L.length ≤ 30) {l3 : Value} : ∃ J', Rn X (d + 8) 143 119 [.ref 0, .int a, .int b, l3] [] (Mh D J P N) = some ([.int a], Mh D J' P N) ∧ Srch D P N ra s I [] J' := by
  obtain ⟨J', h1, h2⟩ := C_bak (X := X) (d := d + 4) ok hS hL
  refine ⟨J', ?_, h1⟩
  simp only [B143_119, RDc, Option.bind_some, List.append_nil, List.nil_append, List.cons_append, cond_true, cond_false, if_true, if_false, ite_true, ite_false, reduceIte, IC, bI_0, bI_1, bF, Bool.not_eq_false, Bool.not_eq_true, Bool.and_true, Bool.true_and, Bool.and_false, Bool.false_and, Bool.true_or, Bool.or_true, Bool.or_false, Bool.false_or, Bool.not_true, Bool.not_false, decide_true, decide_false, not_true_eq_false, not_false_eq_true, eq_self, Bool.true_eq_false, Bool.false_eq_true, h2, B143_126]
theorem N_jbad (ok : Ok s 10) (hS : Srch D P N ra s I L J) (hL : L.length ≤ 30) (hi : i < 4) {l3 : Value} : ∃ J', Rn X (d + 8) 143 99 [.ref 0, .int 0, .int (Int32.ofNat i), l3] [] (Mh D J P N) = some ([.int (Int32.ofNat (i + 1))], Mh D J' P N) ∧ Srch D P N ra s I [] J' := by
  have hz : ¬ Int32.ofNat (i + 1) = 0 := by rw [iN_z (by omega)]; omega
  obtain ⟨J', h1, h2⟩ := N_jend (X := X) (d := d) (a := Int32.ofNat (i + 1)) (b := Int32.ofNat (i + 1)) (l3 := .int 0) ok hS hL
  refine ⟨J', ?_, h2⟩
  simp only [B143_99, B143_100, Option.bind_some, List.append_nil, List.nil_append, List.cons_append, cond_true, cond_false, if_true, if_false, ite_true, ite_false, reduceIte, IC, bI_0, bI_1, bF, Bool.not_eq_false, Bool.not_eq_true, Bool.and_true, Bool.true_and, Bool.and_false, Bool.false_and, Bool.true_or, Bool.or_true, Bool.or_false, Bool.false_or, Bool.not_true, Bool.not_false, decide_true, decide_false, not_true_eq_false, not_false_eq_true, eq_self, Bool.true_eq_false, Bool.false_eq_true, B143_112, IX]
  rw [B143_4]
  simp only [RDc, Option.bind_some, List.append_nil, List.nil_append, List.cons_append, cond_true, cond_false, if_true, if_false, ite_true, ite_false, reduceIte, IC, bI_0, bI_1, bF, Bool.not_eq_false, Bool.not_eq_true, Bool.and_true, Bool.true_and, Bool.and_false, Bool.false_and, Bool.true_or, Bool.or_true, Bool.or_false, Bool.false_or, Bool.not_true, Bool.not_false, decide_true, decide_false, not_true_eq_false, not_false_eq_true, eq_self, Bool.true_eq_false, Bool.false_eq_true, hz, ite_self]
  exact h1
theorem N_jdg1 (ok : Ok s 10) (h8 : I 0 8 = Int32.ofNat n) (hn : n ≤ 4) (hW : ∀ i, i < 4 → W 0 i = I 51 i ∧ W 1 i = I 52 i ∧ W 2 i = I 53 i) : ∀ k i L J (l3 : Value), Srch D P N ra s I L J → L.length = i → i + k = n → ∃ J', Rn X (d + 8) 143 4 [.ref 0, .int 0, .int (Int32.ofNat i), l3] [] (Mh D J P N)
      = some ([.int (jdgF W n k i (pth L s))], Mh D J' P N) ∧ Srch D P N ra s I [] J'
  | 0, i, L, J, l3, hS, hL, hk => by
    have hra : ∀ j, j < ctA s → 0 ≠ ra j := fun j hj => by
      obtain ⟨-, e⟩ := pth_ok L ok hS.2.2.2.2
      have := (hS.1.2.2.2.1 j (by rw [e]; exact hj)).2.1.1; omega
    have j8 : J 0 8 = Int32.ofNat n := by rw [hS.2.2.2.1 0 (by decide) (by decide) (by omega) hra]; exact h8
    obtain ⟨J', h1, h2⟩ := N_jend (X := X) (d := d) (a := 0) (b := Int32.ofNat i) (l3 := l3) ok hS (by omega)
    refine ⟨J', ?_, h2⟩
    rw [B143_4]
    simp only [RDc, Option.bind_some, List.append_nil, List.nil_append, List.cons_append, cond_true, cond_false, if_true, if_false, ite_true, ite_false, reduceIte, IC, bI_0, bI_1, bF, Bool.not_eq_false, Bool.not_eq_true, Bool.and_true, Bool.true_and, Bool.and_false, Bool.false_and, Bool.true_or, Bool.or_true, Bool.or_false, Bool.false_or, Bool.not_true, Bool.not_false, decide_true, decide_false, not_true_eq_false, not_false_eq_true, eq_self, Bool.true_eq_false, Bool.false_eq_true, j8]
    rw [if_pos (by rw [iN_le (by omega) (by omega)]; omega)]
    exact h1
  | k + 1, i, L, J, l3, hS, hL, hk => by
    obtain ⟨ok1, ec⟩ := pth_ok L ok hS.2.2.2.2
    have hrb : ∀ b, b < 80 → ∀ j, j < ctA s → b ≠ ra j := fun b hb j hj => by
      have := (hS.1.2.2.2.1 j (by rw [ec]; exact hj)).2.1.1; omega
    have fr : ∀ b, b < 80 → b ≠ 1 → b ≠ 13 → (b < 31 ∨ 35 < b) → J b = I b := fun b q1 q2 q3 q4 => hS.2.2.2.1 b q2 q3 q4 (hrb b q1)
    have j8 : J 0 8 = Int32.ofNat n := by rw [fr 0 (by decide) (by decide) (by decide) (by omega)]; exact h8
    have j51 : J 51 i = W 0 i := by rw [fr 51 (by decide) (by decide) (by decide) (by omega)]; exact (hW i (by omega)).1.symm
    have w5 := rw5 (D := D) (I := J) (P := P) (N := N) (j := i) (by omega)
    have n4 : ¬ (4 : Int32) ≤ Int32.ofNat i := le_n (l := 4) (n := 4) rfl (by omega) (by omega) (by omega)
    rw [B143_4]
    simp only [RDc, Option.bind_some, List.append_nil, List.nil_append, List.cons_append, cond_true, cond_false, if_true, if_false, ite_true, ite_false, reduceIte, IC, bI_0, bI_1, bF, Bool.not_eq_false, Bool.not_eq_true, Bool.and_true, Bool.true_and, Bool.and_false, Bool.false_and, Bool.true_or, Bool.or_true, Bool.or_false, Bool.false_or, Bool.not_true, Bool.not_false, decide_true, decide_false, not_true_eq_false, not_false_eq_true, eq_self, Bool.true_eq_false, Bool.false_eq_true, j8]
    rw [if_neg (by rw [iN_le (by omega) (by omega)]; omega), if_neg n4]
    simp only [rq50, Option.bind_some, List.append_nil, List.nil_append, List.cons_append, cond_true, cond_false, if_true, if_false, ite_true, ite_false, reduceIte, IC, bI_0, bI_1, bF, Bool.not_eq_false, Bool.not_eq_true, Bool.and_true, Bool.true_and, Bool.and_false, Bool.false_and, Bool.true_or, Bool.or_true, Bool.or_false, Bool.false_or, Bool.not_true, Bool.not_false, decide_true, decide_false, not_true_eq_false, not_false_eq_true, eq_self, Bool.true_eq_false, Bool.false_eq_true, oc_some, w5.1, j51]
    unfold jdgF
    have bad : ∀ L' J', Srch D P N ra s I L' J' → L'.length ≤ 30 → jdg1 W n i (pth L s) = false → ∃ J'', Rn X (d + 8) 143 99 [.ref 0, .int 0, .int (Int32.ofNat i), l3] [] (Mh D J' P N) = some ([.int (if jdg1 W n i (pth L s) = true then jdgF W n k (i + 1) (telS (pth L s) (W 0 i).toNatClampNeg) else Int32.ofNat (i + 1))], Mh D J'' P N) ∧ Srch D P N ra s I [] J'' := by
      intro L' J' hS' hL' hj
      obtain ⟨J2, q1, q2⟩ := N_jbad (X := X) (d := d) (i := i) (l3 := l3) ok hS' hL' (by omega)
      exact ⟨J2, by simp only [hj, Option.bind_some, List.append_nil, List.nil_append, List.cons_append, cond_true, cond_false, if_true, if_false, ite_true, ite_false, reduceIte, IC, bI_0, bI_1, bF, Bool.not_eq_false, Bool.not_eq_true, Bool.and_true, Bool.true_and, Bool.and_false, Bool.false_and, Bool.true_or, Bool.or_true, Bool.or_false, Bool.false_or, Bool.not_true, Bool.not_false, decide_true, decide_false, not_true_eq_false, not_false_eq_true, eq_self, Bool.true_eq_false, Bool.false_eq_true]; exact q1, q2⟩
    cases hb : isA (pth L s) (W 0 i) with
    | false =>
      have hb' : isA s (W 0 i) = false := by rw [← isA_0 (pth_0 L)]; exact hb
      have hj : jdg1 W n i (pth L s) = false := by unfold jdg1; rw [hb]; rfl
      simp only [C_stpN ok hS (by omega) (Or.inl hb'), Option.bind_some, List.append_nil, List.nil_append, List.cons_append, cond_true, cond_false, if_true, if_false, ite_true, ite_false, reduceIte, IC, bI_0, bI_1, bF, Bool.not_eq_false, Bool.not_eq_true, Bool.and_true, Bool.true_and, Bool.and_false, Bool.false_and, Bool.true_or, Bool.or_true, Bool.or_false, Bool.false_or, Bool.not_true, Bool.not_false, decide_true, decide_false, not_true_eq_false, not_false_eq_true, eq_self, Bool.true_eq_false, Bool.false_eq_true, B143_36]
      exact bad L J hS (by omega) hj
    | true =>
      obtain ⟨t, ht, hx⟩ := isA_nat ok1.1 hb
      have ht9 := ok1.1.a ht
      have ht' : t < ctA s := by rw [← ec]; exact ht
      have e0 : (W 0 i).toNatClampNeg = t := by rw [hx, iN_cl (by omega)]
      cases hc : canV (pth L s) t with
      | false =>
        have hj : jdg1 W n i (pth L s) = false := by unfold jdg1; rw [hb, e0, hc]; rfl
        simp only [C_stpN ok hS (by omega) (Or.inr ⟨t, ht', hx, hc⟩), Option.bind_some, List.append_nil, List.nil_append, List.cons_append, cond_true, cond_false, if_true, if_false, ite_true, ite_false, reduceIte, IC, bI_0, bI_1, bF, Bool.not_eq_false, Bool.not_eq_true, Bool.and_true, Bool.true_and, Bool.and_false, Bool.false_and, Bool.true_or, Bool.or_true, Bool.or_false, Bool.false_or, Bool.not_true, Bool.not_false, decide_true, decide_false, not_true_eq_false, not_false_eq_true, eq_self, Bool.true_eq_false, Bool.false_eq_true, B143_36]
        exact bad L J hS (by omega) hj
      | true =>
        obtain ⟨J2, hS2, e2⟩ := C_step (X := X) (d := d) ok hS (by omega) ht' hc
        rw [← hx] at e2
        have n1 : ¬ (1 : Int32) = 0 := by decide
        have hL2 : (t :: L).length ≤ 30 := by simp; omega
        obtain ⟨⟨-, -, -, k6, k7, -, -⟩, -⟩ := id hS2.1
        have k6' : J2 1 6 = telS (pth L s) t 4 := k6
        have k7' : J2 1 7 = telS (pth L s) t 5 := k7
        have fr2 : ∀ b, b < 80 → b ≠ 1 → b ≠ 13 → (b < 31 ∨ 35 < b) → J2 b = I b := fun b q1 q2 q3 q4 => hS2.2.2.2.1 b q2 q3 q4 (hrb b q1)
        have w2 := rw5 (D := D) (I := J2) (P := P) (N := N) (j := i) (by omega)
        have j52 : J2 52 i = W 1 i := by rw [fr2 52 (by decide) (by decide) (by decide) (by omega)]; exact (hW i (by omega)).2.1.symm
        have j53 : J2 53 i = W 2 i := by rw [fr2 53 (by decide) (by decide) (by decide) (by omega)]; exact (hW i (by omega)).2.2.symm
        have j82 : J2 0 8 = Int32.ofNat n := by rw [fr2 0 (by decide) (by decide) (by decide) (by omega)]; exact h8
        have hO := C_over (X := X) (d := d + 7) hS2.1
        simp only [e2, Option.bind_some, List.append_nil, List.nil_append, List.cons_append, cond_true, cond_false, if_true, if_false, ite_true, ite_false, reduceIte, IC, bI_0, bI_1, bF, Bool.not_eq_false, Bool.not_eq_true, Bool.and_true, Bool.true_and, Bool.and_false, Bool.false_and, Bool.true_or, Bool.or_true, Bool.or_false, Bool.false_or, Bool.not_true, Bool.not_false, decide_true, decide_false, not_true_eq_false, not_false_eq_true, eq_self, Bool.true_eq_false, Bool.false_eq_true, B143_36, n1, RDc, rq50, oc_some, w2, k6', k7', j52, j53, j82]
        by_cases h4 : telS (pth L s) t 4 = W 1 i
        · by_cases h5 : telS (pth L s) t 5 = W 2 i
          · have good : ∃ J', Rn X (d + 8) 143 95 [.ref 0, .int 0, .int (Int32.ofNat i), l3] [] (Mh D J2 P N) = some ([.int (jdgF W n k (i + 1) (telS (pth L s) t))], Mh D J' P N) ∧ Srch D P N ra s I [] J' := by
              obtain ⟨J3, q1, q2⟩ := N_jdg1 ok h8 hn hW k (i + 1) (t :: L) J2 (.int 1) hS2 (by simp; omega) (by omega)
              refine ⟨J3, ?_, q2⟩
              simp only [B143_95, B143_100, n1, Option.bind_some, List.append_nil, List.nil_append, List.cons_append, cond_true, cond_false, if_true, if_false, ite_true, ite_false, reduceIte, IC, bI_0, bI_1, bF, Bool.not_eq_false, Bool.not_eq_true, Bool.and_true, Bool.true_and, Bool.and_false, Bool.false_and, Bool.true_or, Bool.or_true, Bool.or_false, Bool.false_or, Bool.not_true, Bool.not_false, decide_true, decide_false, not_true_eq_false, not_false_eq_true, eq_self, Bool.true_eq_false, Bool.false_eq_true, B143_112, IX]
              exact q1
            have hlt : (Int32.ofNat i < Int32.ofNat n - 1) = (i + 1 < n) := by rw [iN_pred (by omega), iN_lt (by omega) (by omega)]; exact propext (by omega)
            by_cases hl : i + 1 < n
            · have : jdg1 W n i (pth L s) = true := by unfold jdg1; rw [hb, e0, hc, decide_eq_true h4.symm, decide_eq_true h5.symm, decide_eq_true hl]; rfl
              simp only [h4, h5, Option.bind_some, List.append_nil, List.nil_append, List.cons_append, cond_true, cond_false, if_true, if_false, ite_true, ite_false, reduceIte, IC, bI_0, bI_1, bF, Bool.not_eq_false, Bool.not_eq_true, Bool.and_true, Bool.true_and, Bool.and_false, Bool.false_and, Bool.true_or, Bool.or_true, Bool.or_false, Bool.false_or, Bool.not_true, Bool.not_false, decide_true, decide_false, not_true_eq_false, not_false_eq_true, eq_self, Bool.true_eq_false, Bool.false_eq_true, hlt, hl, this, e0]
              exact good
            · cases ho : ovV (telS (pth L s) t) with
              | true =>
                have : jdg1 W n i (pth L s) = true := by unfold jdg1; rw [hb, e0, hc, decide_eq_true h4.symm, decide_eq_true h5.symm, decide_eq_false hl, ho]; rfl
                have hO' : Rn X (d + 7) 37 0 [.ref 1] [] (Mh D J2 P N) = some ([.int 1], Mh D J2 P N) := by rw [hO]; show some ([Value.int (bI (ovV (telS (pth L s) t)))], _) = _; rw [ho]; rfl
                simp only [h4, h5, Option.bind_some, List.append_nil, List.nil_append, List.cons_append, cond_true, cond_false, if_true, if_false, ite_true, ite_false, reduceIte, IC, bI_0, bI_1, bF, Bool.not_eq_false, Bool.not_eq_true, Bool.and_true, Bool.true_and, Bool.and_false, Bool.false_and, Bool.true_or, Bool.or_true, Bool.or_false, Bool.false_or, Bool.not_true, Bool.not_false, decide_true, decide_false, not_true_eq_false, not_false_eq_true, eq_self, Bool.true_eq_false, Bool.false_eq_true, hlt, hl, this, e0, hO', B143_92, n1]
                exact good
              | false =>
                have hj : jdg1 W n i (pth L s) = false := by unfold jdg1; rw [hb, e0, hc, decide_eq_true h4.symm, decide_eq_true h5.symm, decide_eq_false hl, ho]; rfl
                have hO' : Rn X (d + 7) 37 0 [.ref 1] [] (Mh D J2 P N) = some ([.int 0], Mh D J2 P N) := by rw [hO]; show some ([Value.int (bI (ovV (telS (pth L s) t)))], _) = _; rw [ho]; rfl
                have := bad _ _ hS2 hL2 hj
                simp only [h4, h5, Option.bind_some, List.append_nil, List.nil_append, List.cons_append, cond_true, cond_false, if_true, if_false, ite_true, ite_false, reduceIte, IC, bI_0, bI_1, bF, Bool.not_eq_false, Bool.not_eq_true, Bool.and_true, Bool.true_and, Bool.and_false, Bool.false_and, Bool.true_or, Bool.or_true, Bool.or_false, Bool.false_or, Bool.not_true, Bool.not_false, decide_true, decide_false, not_true_eq_false, not_false_eq_true, eq_self, Bool.true_eq_false, Bool.false_eq_true, hlt, hl, hO', B143_92]
                exact this
          · have hj : jdg1 W n i (pth L s) = false := by unfold jdg1; rw [hb, e0, hc, decide_eq_true h4.symm, decide_eq_false (Ne.symm h5)]; rfl
            have := bad _ _ hS2 hL2 hj
            simp only [h4, h5, Option.bind_some, List.append_nil, List.nil_append, List.cons_append, cond_true, cond_false, if_true, if_false, ite_true, ite_false, reduceIte, IC, bI_0, bI_1, bF, Bool.not_eq_false, Bool.not_eq_true, Bool.and_true, Bool.true_and, Bool.and_false, Bool.false_and, Bool.true_or, Bool.or_true, Bool.or_false, Bool.false_or, Bool.not_true, Bool.not_false, decide_true, decide_false, not_true_eq_false, not_false_eq_true, eq_self, Bool.true_eq_false, Bool.false_eq_true]
            exact this
        · have hj : jdg1 W n i (pth L s) = false := by unfold jdg1; rw [hb, e0, hc, decide_eq_false (Ne.symm h4)]; rfl
          have := bad _ _ hS2 hL2 hj
          simp only [h4, Option.bind_some, List.append_nil, List.nil_append, List.cons_append, cond_true, cond_false, if_true, if_false, ite_true, ite_false, reduceIte, IC, bI_0, bI_1, bF, Bool.not_eq_false, Bool.not_eq_true, Bool.and_true, Bool.true_and, Bool.and_false, Bool.false_and, Bool.true_or, Bool.or_true, Bool.or_false, Bool.false_or, Bool.not_true, Bool.not_false, decide_true, decide_false, not_true_eq_false, not_false_eq_true, eq_self, Bool.true_eq_false, Bool.false_eq_true]
          exact this
theorem N_jdg (ok : Ok s 10) (hr : RideR s D I P N 1 ra) (hl : I 31 5 = 0) (h8 : I 0 8 = Int32.ofNat n) (hn : n ≤ 4) (hW : ∀ i, i < 4 → W 0 i = I 51 i ∧ W 1 i = I 52 i ∧ W 2 i = I 53 i) : ∃ I', Rn X (d + 40) 143 0 [.ref 0, U_, U_, U_] [] (Mh D I P N) = some ([.int (jdgF W n n 0 s)], Mh D I' P N) ∧ RideR s D I' P N 1 ra ∧ I' 31 5 = 0 ∧ FrC (ctA s) ra I I' := by
  obtain ⟨J', h1, h2⟩ := N_jdg1 (X := X) (d := d + 32) ok h8 hn hW n 0 [] I U_ (srch0 hr hl) rfl (by omega)
  obtain ⟨q1, q2, q3⟩ := srch_end h2
  refine ⟨J', ?_, q1, q2, q3⟩
  rw [B143_0]
  exact h1
end Judge
