/-! the class: change, reports, anew -/
section ClsO
variable {X : mX} {d : Nat} {D : Nat → Nat × Nat} {I : Nat → Nat → Int32} {P : Nat → Nat → Option Nat} {N : Nat} {h : mH} {s s' g S r f f' F c : Nat → Int32} {J J' I' : Nat → Nat → Int32} {ra : Nat → Nat} {L : List Nat} {m : Int} {i j k n p q t : Nat} {x y v w a b e z fl : Int32}
theorem prt_k (h : pPrt w v = true) : w = 1 ∨ w = 2 ∨ w = 3 := by
  unfold pPrt at h
  by_cases h1 : w = 1
  · exact Or.inl h1
  by_cases h2 : w = 2
  · exact Or.inr (Or.inl h2)
  by_cases h3 : w = 3
  · exact Or.inr (Or.inr h3)
  rw [decide_eq_false h1, decide_eq_false h2, decide_eq_false h3] at h
  cases h
theorem N_chg (g : Gd s m) : Cf X 110 [.ref 0, .int a, .int w, .int v, U_, U_] s (pChg s a w v) := by
  intro d D I P N ra hr hl
  rw [B110_0]
  simp only [RDc, Option.bind_some, List.append_nil, List.nil_append, List.cons_append, cond_true, cond_false, if_true, if_false, ite_true, ite_false, reduceIte, IC, bI_0, bI_1, bF, Bool.not_eq_false, Bool.not_eq_true, Bool.and_true, Bool.true_and, Bool.and_false, Bool.false_and, Bool.true_or, Bool.or_true, Bool.or_false, Bool.false_or, Bool.not_true, Bool.not_false, decide_true, decide_false, not_true_eq_false, not_false_eq_true, eq_self, Bool.true_eq_false, Bool.false_eq_true, C_at g hr]
  unfold pChg ansO
  cases hb : isA s a with
  | false => exact ⟨I, by simp only [Option.bind_some, List.append_nil, List.nil_append, List.cons_append, cond_true, cond_false, if_true, if_false, ite_true, ite_false, reduceIte, IC, bI_0, bI_1, bF, Bool.not_eq_false, Bool.not_eq_true, Bool.and_true, Bool.true_and, Bool.and_false, Bool.false_and, Bool.true_or, Bool.or_true, Bool.or_false, Bool.false_or, Bool.not_true, Bool.not_false, decide_true, decide_false, not_true_eq_false, not_false_eq_true, eq_self, Bool.true_eq_false, Bool.false_eq_true, B110_8, oc_none, B110_23], by simp only [Option.bind_some, List.append_nil, List.nil_append, List.cons_append, cond_true, cond_false, if_true, if_false, ite_true, ite_false, reduceIte, IC, bI_0, bI_1, bF, Bool.not_eq_false, Bool.not_eq_true, Bool.and_true, Bool.true_and, Bool.and_false, Bool.false_and, Bool.true_or, Bool.or_true, Bool.or_false, Bool.false_or, Bool.not_true, Bool.not_false, decide_true, decide_false, not_true_eq_false, not_false_eq_true, eq_self, Bool.true_eq_false, Bool.false_eq_true]; exact hr, hl, frc_rf⟩
  | true =>
    obtain ⟨i, hi, rfl⟩ := isA_nat g hb
    have h9 := g.a hi
    have e0 : (Int32.ofNat i).toNatClampNeg = i := iN_cl (by omega)
    have hA := (hr.2.2.2.1 i hi).2
    obtain ⟨-, a0, a1, a2, a3, a4, a5⟩ := id hA
    have h80 := hA.1.1
    have c1 : (1 : Int32).toNatClampNeg = 1 ∧ (2 : Int32).toNatClampNeg = 2 ∧ (3 : Int32).toNatClampNeg = 3 := ⟨rfl, rfl, rfl⟩
    simp only [Option.bind_some, List.append_nil, List.nil_append, List.cons_append, cond_true, cond_false, if_true, if_false, ite_true, ite_false, reduceIte, IC, bI_0, bI_1, bF, Bool.not_eq_false, Bool.not_eq_true, Bool.and_true, Bool.true_and, Bool.and_false, Bool.false_and, Bool.true_or, Bool.or_true, Bool.or_false, Bool.false_or, Bool.not_true, Bool.not_false, decide_true, decide_false, not_true_eq_false, not_false_eq_true, eq_self, Bool.true_eq_false, Bool.false_eq_true, e0, B110_8, oc_some, C_fit (d := d + 38), B110_20]
    cases hp : pPrt w v with
    | false => exact ⟨I, by simp only [Option.bind_some, List.append_nil, List.nil_append, List.cons_append, cond_true, cond_false, if_true, if_false, ite_true, ite_false, reduceIte, IC, bI_0, bI_1, bF, Bool.not_eq_false, Bool.not_eq_true, Bool.and_true, Bool.true_and, Bool.and_false, Bool.false_and, Bool.true_or, Bool.or_true, Bool.or_false, Bool.false_or, Bool.not_true, Bool.not_false, decide_true, decide_false, not_true_eq_false, not_false_eq_true, eq_self, Bool.true_eq_false, Bool.false_eq_true, B110_23], by simp only [Option.bind_some, List.append_nil, List.nil_append, List.cons_append, cond_true, cond_false, if_true, if_false, ite_true, ite_false, reduceIte, IC, bI_0, bI_1, bF, Bool.not_eq_false, Bool.not_eq_true, Bool.and_true, Bool.true_and, Bool.and_false, Bool.false_and, Bool.true_or, Bool.or_true, Bool.or_false, Bool.false_or, Bool.not_true, Bool.not_false, decide_true, decide_false, not_true_eq_false, not_false_eq_true, eq_self, Bool.true_eq_false, Bool.false_eq_true]; exact hr, hl, frc_rf⟩
    | true =>
      rcases prt_k hp with rfl | rfl | rfl
      · refine ⟨u2 I (ra i) 2 v, ?_, ?_, by rw [u2_o (by omega)]; exact hl, fun c _ _ _ _ _ _ _ hc => u2_o (hc i hi)⟩
        · simp +decide only [Option.bind_some, List.append_nil, List.nil_append, List.cons_append, cond_true, cond_false, if_true, if_false, ite_true, ite_false, reduceIte, IC, bI_0, bI_1, bF, Bool.not_eq_false, Bool.not_eq_true, Bool.and_true, Bool.true_and, Bool.and_false, Bool.false_and, Bool.true_or, Bool.or_true, Bool.or_false, Bool.false_or, Bool.not_true, Bool.not_false, decide_true, decide_false, not_true_eq_false, not_false_eq_true, eq_self, Bool.true_eq_false, Bool.false_eq_true, RDa hA.at, WRa hA.at, a2, B110_80, c1]
        · simp only [Option.bind_some, List.append_nil, List.nil_append, List.cons_append, cond_true, cond_false, if_true, if_false, ite_true, ite_false, reduceIte, IC, bI_0, bI_1, bF, Bool.not_eq_false, Bool.not_eq_true, Bool.and_true, Bool.true_and, Bool.and_false, Bool.false_and, Bool.true_or, Bool.or_true, Bool.or_false, Bool.false_or, Bool.not_true, Bool.not_false, decide_true, decide_false, not_true_eq_false, not_false_eq_true, eq_self, Bool.true_eq_false, Bool.false_eq_true, c1]; exact hr.ans g hi (k := 2) (Or.inl rfl)
      · refine ⟨u2 I (ra i) 3 v, ?_, ?_, by rw [u2_o (by omega)]; exact hl, fun c _ _ _ _ _ _ _ hc => u2_o (hc i hi)⟩
        · simp +decide only [Option.bind_some, List.append_nil, List.nil_append, List.cons_append, cond_true, cond_false, if_true, if_false, ite_true, ite_false, reduceIte, IC, bI_0, bI_1, bF, Bool.not_eq_false, Bool.not_eq_true, Bool.and_true, Bool.true_and, Bool.and_false, Bool.false_and, Bool.true_or, Bool.or_true, Bool.or_false, Bool.false_or, Bool.not_true, Bool.not_false, decide_true, decide_false, not_true_eq_false, not_false_eq_true, eq_self, Bool.true_eq_false, Bool.false_eq_true, RDa hA.at, WRa hA.at, a3, B110_80, c1]
        · simp only [Option.bind_some, List.append_nil, List.nil_append, List.cons_append, cond_true, cond_false, if_true, if_false, ite_true, ite_false, reduceIte, IC, bI_0, bI_1, bF, Bool.not_eq_false, Bool.not_eq_true, Bool.and_true, Bool.true_and, Bool.and_false, Bool.false_and, Bool.true_or, Bool.or_true, Bool.or_false, Bool.false_or, Bool.not_true, Bool.not_false, decide_true, decide_false, not_true_eq_false, not_false_eq_true, eq_self, Bool.true_eq_false, Bool.false_eq_true, c1]; exact hr.ans g hi (k := 3) (Or.inr (Or.inl rfl))
      · refine ⟨u2 I (ra i) 4 v, ?_, ?_, by rw [u2_o (by omega)]; exact hl, fun c _ _ _ _ _ _ _ hc => u2_o (hc i hi)⟩
        · simp +decide only [Option.bind_some, List.append_nil, List.nil_append, List.cons_append, cond_true, cond_false, if_true, if_false, ite_true, ite_false, reduceIte, IC, bI_0, bI_1, bF, Bool.not_eq_false, Bool.not_eq_true, Bool.and_true, Bool.true_and, Bool.and_false, Bool.false_and, Bool.true_or, Bool.or_true, Bool.or_false, Bool.false_or, Bool.not_true, Bool.not_false, decide_true, decide_false, not_true_eq_false, not_false_eq_true, eq_self, Bool.true_eq_false, Bool.false_eq_true, RDa hA.at, WRa hA.at, a4, B110_80, c1]
        · simp only [Option.bind_some, List.append_nil, List.nil_append, List.cons_append, cond_true, cond_false, if_true, if_false, ite_true, ite_false, reduceIte, IC, bI_0, bI_1, bF, Bool.not_eq_false, Bool.not_eq_true, Bool.and_true, Bool.true_and, Bool.and_false, Bool.false_and, Bool.true_or, Bool.or_true, Bool.or_false, Bool.false_or, Bool.not_true, Bool.not_false, decide_true, decide_false, not_true_eq_false, not_false_eq_true, eq_self, Bool.true_eq_false, Bool.false_eq_true, c1]; exact hr.ans g hi (k := 4) (Or.inr (Or.inr rfl))
theorem RideR.rep (hr : RideR s D I P N 1 ra) (g : Gd s m) (ho : ∀ j, j ≠ 3 → j < 68 ∨ 86 ≤ j → s' j = s j) (hI : ∀ a, a ≠ 1 → a ≠ 14 → a ≠ 15 → I' a = I a) (h1 : ∀ k, k ≠ 13 → I' 1 k = I 1 k) (e13 : I' 1 13 = s' 3)
    (hE : ∀ r, r < ctE s' → I' 14 r = s' (68 + 3 * r + 1) - s' (68 + 3 * r) ∧ I' 15 r = s' (68 + 3 * r + 2)) : RideR s' D I' P N 1 ra := by
  have h8 := g.n2.2
  obtain ⟨⟨r1, r4', r5', r6', r7', r8', r13'⟩, r2, r3, r4, r5, q, hq, hR⟩ := hr
  have ea : ctA s' = ctA s := by unfold ctA; rw [ho _ (by omega) (by omega)]
  have el : ctL s' = ctL s := by unfold ctL; rw [ho _ (by omega) (by omega)]
  have en : endV s' = endV s := by unfold endV; rw [el]; exact endF_of (fun j _ => ho _ (by omega) (by omega)) _ _ _ (by omega)
  refine ⟨⟨by rw [h1 1 (by decide), ho 0 (by decide) (by decide)]; exact r1, by rw [h1 4 (by decide), ho 2 (by decide) (by decide)]; exact r4', by rw [h1 5 (by decide), en]; exact r5', by rw [h1 6 (by decide), ho 4 (by decide) (by decide)]; exact r6', by rw [h1 7 (by decide), ho 5 (by decide) (by decide)]; exact r7', by rw [h1 8 (by decide), ho 6 (by decide) (by decide)]; exact r8', e13⟩, fun k hk => ?_, hE, fun j hj => ?_, fun a b ha hb => ?_, q, hq, ?_⟩
  · rw [el] at hk
    rw [hI _ (by omega) (by omega) (by omega), hI _ (by omega) (by omega) (by omega), ho _ (by omega) (by omega), ho _ (by omega) (by omega)]; exact r2 k hk
  · rw [ea] at hj
    have hj9 := g.a hj
    obtain ⟨q1, q2⟩ := r4 j hj
    have h80 := q2.1.1
    refine ⟨q1, ?_⟩
    unfold AnsR
    rw [ho _ (by omega) (by omega), ho _ (by omega) (by omega), ho _ (by omega) (by omega), ho _ (by omega) (by omega), ho _ (by omega) (by omega)]
    exact q2.of (hI _ (by omega) (by omega) (by omega))
  · rw [ea] at ha hb; exact r5 a b ha hb
  · refine (hR.ofs (ho _ (by omega) (by omega)) (fun j hj => ho j (by omega) (by omega))).of (fun j hj => ?_)
    have := hR.1.ne hj
    exact hI _ (by omega) (by omega) (by omega)
theorem ww14 (h : j < 6) : (∀ I x, hAS 0 (Mh D I P N) 14 (Int32.ofNat j) x = some (Mh D (u2 I 14 j x) P N)) ∧ (∀ I x, hAS 0 (Mh D I P N) 15 (Int32.ofNat j) x = some (Mh D (u2 I 15 j x) P N)) := by
  refine ⟨fun I x => ?_, fun I x => ?_⟩
  · rw [wrA hN14 (n := 6) rfl rfl, mib_N h (by decide), iN_cl (by omega)]; rfl
  · rw [wrA hN15 (n := 6) rfl rfl, mib_N h (by decide), iN_cl (by omega)]; rfl
theorem N_rep (g : Gd s m) : Cf X 133 [.ref 0, .int a, .int b, .int e] s (pRep s a b e) := by
  intro d D I P N ra hr hl
  have h3 := g.n3
  obtain ⟨⟨e1, e4, e5, e6, e7, e8, e13⟩, r2, r3, -⟩ := id hr
  simp only [B133_0, C_btw, L32, Option.bind_some, List.append_nil, List.nil_append, List.cons_append, cond_true, cond_false, if_true, if_false, ite_true, ite_false, reduceIte, IC, bI_0, bI_1, bF, Bool.not_eq_false, Bool.not_eq_true, Bool.and_true, Bool.true_and, Bool.and_false, Bool.false_and, Bool.true_or, Bool.or_true, Bool.or_false, Bool.false_or, Bool.not_true, Bool.not_false, decide_true, decide_false, not_true_eq_false, not_false_eq_true, eq_self, Bool.true_eq_false, Bool.false_eq_true, B133_8]
  unfold pRep
  cases h1 : bt a 0 999 with
  | false => exact ⟨I, by simp only [Option.bind_some, List.append_nil, List.nil_append, List.cons_append, cond_true, cond_false, if_true, if_false, ite_true, ite_false, reduceIte, IC, bI_0, bI_1, bF, Bool.not_eq_false, Bool.not_eq_true, Bool.and_true, Bool.true_and, Bool.and_false, Bool.false_and, Bool.true_or, Bool.or_true, Bool.or_false, Bool.false_or, Bool.not_true, Bool.not_false, decide_true, decide_false, not_true_eq_false, not_false_eq_true, eq_self, Bool.true_eq_false, Bool.false_eq_true, B133_31], by simp only [Option.bind_some, List.append_nil, List.nil_append, List.cons_append, cond_true, cond_false, if_true, if_false, ite_true, ite_false, reduceIte, IC, bI_0, bI_1, bF, Bool.not_eq_false, Bool.not_eq_true, Bool.and_true, Bool.true_and, Bool.and_false, Bool.false_and, Bool.true_or, Bool.or_true, Bool.or_false, Bool.false_or, Bool.not_true, Bool.not_false, decide_true, decide_false, not_true_eq_false, not_false_eq_true, eq_self, Bool.true_eq_false, Bool.false_eq_true]; exact hr, hl, frc_rf⟩
  | true =>
    simp only [Option.bind_some, List.append_nil, List.nil_append, List.cons_append, cond_true, cond_false, if_true, if_false, ite_true, ite_false, reduceIte, IC, bI_0, bI_1, bF, Bool.not_eq_false, Bool.not_eq_true, Bool.and_true, Bool.true_and, Bool.and_false, Bool.false_and, Bool.true_or, Bool.or_true, Bool.or_false, Bool.false_or, Bool.not_true, Bool.not_false, decide_true, decide_false, not_true_eq_false, not_false_eq_true, eq_self, Bool.true_eq_false, Bool.false_eq_true, C_btw, L32, B133_19]
    cases h2 : bt b a.toInt 999 with
    | false => exact ⟨I, by simp only [Option.bind_some, List.append_nil, List.nil_append, List.cons_append, cond_true, cond_false, if_true, if_false, ite_true, ite_false, reduceIte, IC, bI_0, bI_1, bF, Bool.not_eq_false, Bool.not_eq_true, Bool.and_true, Bool.true_and, Bool.and_false, Bool.false_and, Bool.true_or, Bool.or_true, Bool.or_false, Bool.false_or, Bool.not_true, Bool.not_false, decide_true, decide_false, not_true_eq_false, not_false_eq_true, eq_self, Bool.true_eq_false, Bool.false_eq_true, B133_31], by simp only [Option.bind_some, List.append_nil, List.nil_append, List.cons_append, cond_true, cond_false, if_true, if_false, ite_true, ite_false, reduceIte, IC, bI_0, bI_1, bF, Bool.not_eq_false, Bool.not_eq_true, Bool.and_true, Bool.true_and, Bool.and_false, Bool.false_and, Bool.true_or, Bool.or_true, Bool.or_false, Bool.false_or, Bool.not_true, Bool.not_false, decide_true, decide_false, not_true_eq_false, not_false_eq_true, eq_self, Bool.true_eq_false, Bool.false_eq_true]; exact hr, hl, frc_rf⟩
    | true =>
      simp only [Option.bind_some, List.append_nil, List.nil_append, List.cons_append, cond_true, cond_false, if_true, if_false, ite_true, ite_false, reduceIte, IC, bI_0, bI_1, bF, Bool.not_eq_false, Bool.not_eq_true, Bool.and_true, Bool.true_and, Bool.and_false, Bool.false_and, Bool.true_or, Bool.or_true, Bool.or_false, Bool.false_or, Bool.not_true, Bool.not_false, decide_true, decide_false, not_true_eq_false, not_false_eq_true, eq_self, Bool.true_eq_false, Bool.false_eq_true, C_btw, L32, B133_28]
      cases h4 : bt e 0 1 with
      | false => exact ⟨I, by simp only [Option.bind_some, List.append_nil, List.nil_append, List.cons_append, cond_true, cond_false, if_true, if_false, ite_true, ite_false, reduceIte, IC, bI_0, bI_1, bF, Bool.not_eq_false, Bool.not_eq_true, Bool.and_true, Bool.true_and, Bool.and_false, Bool.false_and, Bool.true_or, Bool.or_true, Bool.or_false, Bool.false_or, Bool.not_true, Bool.not_false, decide_true, decide_false, not_true_eq_false, not_false_eq_true, eq_self, Bool.true_eq_false, Bool.false_eq_true, B133_31], by simp only [Option.bind_some, List.append_nil, List.nil_append, List.cons_append, cond_true, cond_false, if_true, if_false, ite_true, ite_false, reduceIte, IC, bI_0, bI_1, bF, Bool.not_eq_false, Bool.not_eq_true, Bool.and_true, Bool.true_and, Bool.and_false, Bool.false_and, Bool.true_or, Bool.or_true, Bool.or_false, Bool.false_or, Bool.not_true, Bool.not_false, decide_true, decide_false, not_true_eq_false, not_false_eq_true, eq_self, Bool.true_eq_false, Bool.false_eq_true]; exact hr, hl, frc_rf⟩
      | true =>
        simp only [Option.bind_some, List.append_nil, List.nil_append, List.cons_append, cond_true, cond_false, if_true, if_false, ite_true, ite_false, reduceIte, IC, bI_0, bI_1, bF, Bool.not_eq_false, Bool.not_eq_true, Bool.and_true, Bool.true_and, Bool.and_false, Bool.false_and, Bool.true_or, Bool.or_true, Bool.or_false, Bool.false_or, Bool.not_true, Bool.not_false, decide_true, decide_false, not_true_eq_false, not_false_eq_true, eq_self, Bool.true_eq_false, Bool.false_eq_true, RDc, B45_0, e13]
        by_cases h6 : s 3 = 6
        · have hn : ¬ (6 : Int32) < 6 := by decide
          exact ⟨I, by simp only [Option.bind_some, List.append_nil, List.nil_append, List.cons_append, cond_true, cond_false, if_true, if_false, ite_true, ite_false, reduceIte, IC, bI_0, bI_1, bF, Bool.not_eq_false, Bool.not_eq_true, Bool.and_true, Bool.true_and, Bool.and_false, Bool.false_and, Bool.true_or, Bool.or_true, Bool.or_false, Bool.false_or, Bool.not_true, Bool.not_false, decide_true, decide_false, not_true_eq_false, not_false_eq_true, eq_self, Bool.true_eq_false, Bool.false_eq_true, h6, hn, B133_44], by simp only [Option.bind_some, List.append_nil, List.nil_append, List.cons_append, cond_true, cond_false, if_true, if_false, ite_true, ite_false, reduceIte, IC, bI_0, bI_1, bF, Bool.not_eq_false, Bool.not_eq_true, Bool.and_true, Bool.true_and, Bool.and_false, Bool.false_and, Bool.true_or, Bool.or_true, Bool.or_false, Bool.false_or, Bool.not_true, Bool.not_false, decide_true, decide_false, not_true_eq_false, not_false_eq_true, eq_self, Bool.true_eq_false, Bool.false_eq_true, h6]; exact hr, hl, frc_rf⟩
        · have h6' : ctE s < 6 := by
            rcases Nat.lt_or_ge (ctE s) 6 with q | q
            · exact q
            · exact absurd (show s 3 = 6 by rw [h3.1, show ctE s = 6 by omega]; rfl) h6
          have hlt : s 3 < 6 := by rw [h3.1, show (6 : Int32) = Int32.ofNat 6 from rfl, iN_lt (by omega) (by decide)]; exact h6'
          have w := ww14 (D := D) (P := P) (N := N) h6'
          have en : s 3 + 1 - 1 = s 3 := Int32.add_sub_cancel _ _
          generalize hI' : u2 (u2 (u2 I 14 (ctE s) (b - a)) 15 (ctE s) e) 1 13 (s 3 + 1) = I'
          have i1 : I' 1 = upd (I 1) 13 (s 3 + 1) := by rw [← hI', u2_s, u2_o (by decide), u2_o (by decide)]
          have i14 : I' 14 = upd (I 14) (ctE s) (b - a) := by rw [← hI', u2_o (by decide), u2_o (by decide), u2_s]
          have i15 : I' 15 = upd (I 15) (ctE s) e := by rw [← hI', u2_o (by decide), u2_s, u2_o (by decide)]
          have io : ∀ c, c ≠ 1 → c ≠ 14 → c ≠ 15 → I' c = I c := by
            intro c h1 h2 h3; rw [← hI', u2_o h1, u2_o h3, u2_o h2]
          refine ⟨I', ?_, ?_, by rw [io 31 (by decide) (by decide) (by decide)]; exact hl, fun c h1 _ _ _ h14 h15 _ _ => io c h1 h14 h15⟩
          · rw [← hI']
            simp only [h6, hlt, Option.bind_some, List.append_nil, List.nil_append, List.cons_append, cond_true, cond_false, if_true, if_false, ite_true, ite_false, reduceIte, IC, bI_0, bI_1, bF, Bool.not_eq_false, Bool.not_eq_true, Bool.and_true, Bool.true_and, Bool.and_false, Bool.false_and, Bool.true_or, Bool.or_true, Bool.or_false, Bool.false_or, Bool.not_true, Bool.not_false, decide_true, decide_false, not_true_eq_false, not_false_eq_true, eq_self, Bool.true_eq_false, Bool.false_eq_true, RDc, h3.1, w.1, w.2, u2_o (show 1 ≠ 14 by decide), u2_o (show 1 ≠ 15 by decide), e13, WRc, u2_s, upd_s]
            rw [← h3.1, en, if_pos hlt, if_neg h6]
            simp only [Option.bind_some, List.append_nil, List.nil_append, List.cons_append, cond_true, cond_false, if_true, if_false, ite_true, ite_false, reduceIte, IC, bI_0, bI_1, bF, Bool.not_eq_false, Bool.not_eq_true, Bool.and_true, Bool.true_and, Bool.and_false, Bool.false_and, Bool.true_or, Bool.or_true, Bool.or_false, Bool.false_or, Bool.not_true, Bool.not_false, decide_true, decide_false, not_true_eq_false, not_false_eq_true, eq_self, Bool.true_eq_false, Bool.false_eq_true, B133_44]
          · simp only [h6, Option.bind_some, List.append_nil, List.nil_append, List.cons_append, cond_true, cond_false, if_true, if_false, ite_true, ite_false, reduceIte, IC, bI_0, bI_1, bF, Bool.not_eq_false, Bool.not_eq_true, Bool.and_true, Bool.true_and, Bool.and_false, Bool.false_and, Bool.true_or, Bool.or_true, Bool.or_false, Bool.false_or, Bool.not_true, Bool.not_false, decide_true, decide_false, not_true_eq_false, not_false_eq_true, eq_self, Bool.true_eq_false, Bool.false_eq_true]
            have hx : ∀ j, j ≠ 3 → j ≠ 68 + 3 * ctE s → j ≠ 68 + 3 * ctE s + 1 → j ≠ 68 + 3 * ctE s + 2 → (upd (upd (upd (upd s (68 + 3 * ctE s) a) (68 + 3 * ctE s + 1) b) (68 + 3 * ctE s + 2) e) 3 (s 3 + 1)) j = s j := fun j q1 q2 q3 q4 => by rw [upd_o q1, upd_o q4, upd_o q3, upd_o q2]
            have xa : (upd (upd (upd (upd s (68 + 3 * ctE s) a) (68 + 3 * ctE s + 1) b) (68 + 3 * ctE s + 2) e) 3 (s 3 + 1)) (68 + 3 * ctE s) = a := by rw [upd_o (by omega), upd_o (by omega), upd_o (by omega), upd_s]
            have xb : (upd (upd (upd (upd s (68 + 3 * ctE s) a) (68 + 3 * ctE s + 1) b) (68 + 3 * ctE s + 2) e) 3 (s 3 + 1)) (68 + 3 * ctE s + 1) = b := by rw [upd_o (by omega), upd_o (by omega), upd_s]
            have xe : (upd (upd (upd (upd s (68 + 3 * ctE s) a) (68 + 3 * ctE s + 1) b) (68 + 3 * ctE s + 2) e) 3 (s 3 + 1)) (68 + 3 * ctE s + 2) = e := by rw [upd_o (by omega), upd_s]
            have x3 : (upd (upd (upd (upd s (68 + 3 * ctE s) a) (68 + 3 * ctE s + 1) b) (68 + 3 * ctE s + 2) e) 3 (s 3 + 1)) 3 = s 3 + 1 := by rw [upd_s]
            generalize (upd (upd (upd (upd s (68 + 3 * ctE s) a) (68 + 3 * ctE s + 1) b) (68 + 3 * ctE s + 2) e) 3 (s 3 + 1)) = s' at hx xa xb xe x3
            have cE : ctE s' = ctE s + 1 := by
              have : s' 3 = Int32.ofNat (ctE s + 1) := by rw [x3, h3.1, iN_succ]
              unfold ctE at this ⊢
              rw [this, iN_cl (by unfold ctE at h6'; omega)]
            refine hr.rep g (fun j hj h => hx j hj (by omega) (by omega) (by omega)) io (fun k hk => by rw [i1, upd_o hk]) (by rw [i1, upd_s, x3]) (fun r hrr => ?_)
            rw [cE] at hrr
            rw [i14, i15]
            by_cases hre : r = ctE s
            · subst hre; rw [upd_s, upd_s, xa, xb, xe]; exact ⟨rfl, rfl⟩
            · rw [upd_o hre, upd_o hre, hx _ (by omega) (by omega) (by omega) (by omega), hx _ (by omega) (by omega) (by omega) (by omega), hx _ (by omega) (by omega) (by omega) (by omega)]
              exact r3 r (by omega)
theorem RideR.told (hr : RideR s D I P N 1 ra) (g : Gd s m) (hi : i < ctA s) : RideR (upd s (7 + 5 * i + 4) v) D (u2 I (ra i) 5 v) P N 1 ra := by
  have h9 := g.a hi
  have h8 := g.n2.2
  obtain ⟨⟨e1, e4, e5, e6, e7, e8, e13⟩, r2, r3, r4, r5, q, hq, hR⟩ := hr
  have h80 := (r4 i hi).2.1.1
  have hA := (r4 i hi).2.at
  have ht : ∀ j, j < 7 ∨ 52 ≤ j → upd s (7 + 5 * i + 4) v j = s j := fun j hj => upd_o (by omega)
  have el : ctL (upd s (7 + 5 * i + 4) v) = ctL s := by unfold ctL; rw [ht _ (by omega)]
  have ee : ctE (upd s (7 + 5 * i + 4) v) = ctE s := by unfold ctE; rw [ht _ (by omega)]
  have ea : ctA (upd s (7 + 5 * i + 4) v) = ctA s := by unfold ctA; rw [ht _ (by omega)]
  have en : endV (upd s (7 + 5 * i + 4) v) = endV s := by unfold endV; rw [el]; exact endF_of (fun j _ => ht _ (by omega)) _ _ _ (by omega)
  refine ⟨?_, fun k hk => ?_, fun k hk => ?_, fun j hj => ?_, fun a b ha hb => ?_, q, hq, ?_⟩
  · rw [u2_o (show 1 ≠ ra i by omega), ht _ (by omega), ht _ (by omega), ht _ (by omega), ht _ (by omega), ht _ (by omega), ht _ (by omega), en]
    exact ⟨e1, e4, e5, e6, e7, e8, e13⟩
  · rw [el] at hk
    rw [u2_o (by omega), u2_o (by omega), ht _ (by omega), ht _ (by omega)]; exact r2 k hk
  · rw [ee] at hk
    rw [u2_o (by omega), u2_o (by omega), ht _ (by omega), ht _ (by omega), ht _ (by omega)]; exact r3 k hk
  · rw [ea] at hj
    have hj9 := g.a hj
    obtain ⟨q1, q2, q3, q4, q5, q6, q7, q8⟩ := r4 j hj
    refine ⟨q1, ?_⟩
    unfold AnsR
    by_cases hji : j = i
    · subst hji
      rw [u2_s, upd_o (show 7 + 5 * j ≠ 7 + 5 * j + 4 by omega), upd_o (show 7 + 5 * j + 1 ≠ 7 + 5 * j + 4 by omega), upd_o (show 7 + 5 * j + 2 ≠ 7 + 5 * j + 4 by omega), upd_o (show 7 + 5 * j + 3 ≠ 7 + 5 * j + 4 by omega), upd_s, upd_o (by decide), upd_o (by decide), upd_o (by decide), upd_o (by decide), upd_o (by decide), upd_s]
      exact ⟨q2, q3, q4, q5, q6, q7, rfl⟩
    · rw [u2_o (fun e => hji (r5 j i hj hi e)), upd_o (by omega), upd_o (by omega), upd_o (by omega), upd_o (by omega), upd_o (by omega)]
      exact ⟨q2, q3, q4, q5, q6, q7, q8⟩
  · rw [ea] at ha hb; exact r5 a b ha hb
  · exact (hR.ofs (ht _ (by omega)) (fun j hj => ht _ (by omega))).of (fun j hj => u2_o (hR.1.nA hA hj))
theorem gd_told (g : Gd s m) (h9 : i < 9) : Gd (upd s (7 + 5 * i + 4) 0) m := by
  have h8 := g.n2.2
  have hz : bt 0 0 10 = true := rfl
  have ha9 := g.n0.2
  obtain ⟨⟨g0, g1, g2, g3, g4, g5⟩, ga, gl⟩ := g
  have ea : ctA (upd s (7 + 5 * i + 4) 0) = ctA s := by unfold ctA; rw [upd_o (by omega)]
  have el : ctL (upd s (7 + 5 * i + 4) 0) = ctL s := by unfold ctL; rw [upd_o (by omega)]
  refine ⟨⟨?_, ?_, ?_, ?_, ?_, ?_⟩, fun j hj => ?_, fun k hk => ?_⟩
  · rw [upd_o (by omega)]; exact g0
  · rw [upd_o (by omega)]; exact g1
  · rw [upd_o (by omega)]; exact g2
  · rw [upd_o (by omega)]; exact g3
  · rw [upd_o (by omega)]; exact g4
  · rw [upd_o (by omega)]; exact g5
  · rw [ea] at hj
    obtain ⟨q1, q2, q3, q4, q5⟩ := ga j hj
    rw [upd_o (by omega), upd_o (by omega), upd_o (by omega), upd_o (by omega)]
    refine ⟨q1, q2, q3, q4, ?_⟩
    by_cases hji : j = i
    · subst hji; rw [upd_s]; exact hz
    · rw [upd_o (by omega)]; exact q5
  · rw [el] at hk
    rw [upd_o (by omega), upd_o (by omega)]; exact gl k hk
theorem gd_45 (g : Gd s m) : Gd (upd (upd s 4 0) 5 100) m := by
  have h8 := g.n2.2
  have ha9 := g.n0.2
  obtain ⟨⟨g0, g1, g2, g3, g4, g5⟩, ga, gl⟩ := g
  have hx : ∀ j, j ≠ 4 → j ≠ 5 → upd (upd s 4 0) 5 100 j = s j := fun j h4 h5 => by rw [upd_o h5, upd_o h4]
  have x4 : upd (upd s 4 0) 5 100 4 = 0 := by rw [upd_o (by decide), upd_s]
  have x5 : upd (upd s 4 0) 5 100 5 = 100 := upd_s
  generalize upd (upd s 4 0) 5 100 = s' at hx x4 x5
  have ea : ctA s' = ctA s := by unfold ctA; rw [hx _ (by omega) (by omega)]
  have el : ctL s' = ctL s := by unfold ctL; rw [hx _ (by omega) (by omega)]
  refine ⟨⟨?_, ?_, ?_, ?_, ?_, ?_⟩, fun j hj => ?_, fun k hk => ?_⟩
  · rw [hx _ (by omega) (by omega)]; exact g0
  · rw [hx _ (by omega) (by omega)]; exact g1
  · rw [hx _ (by omega) (by omega)]; exact g2
  · rw [hx _ (by omega) (by omega)]; exact g3
  · rw [x4]; rfl
  · rw [x5]; rfl
  · rw [ea] at hj
    rw [hx _ (by omega) (by omega), hx _ (by omega) (by omega), hx _ (by omega) (by omega), hx _ (by omega) (by omega), hx _ (by omega) (by omega)]; exact ga j hj
  · rw [el] at hk
    rw [hx _ (by omega) (by omega), hx _ (by omega) (by omega)]; exact gl k hk
theorem C_anw1 : ∀ k i s I (l2 : Value), RideR s D I P N 1 ra → Gd s m → i + k = ctA s → ∃ I', Rn X (d + 1) 38 13 [.ref 1, .int (Int32.ofNat i), l2] [] (Mh D I P N) = some ([], Mh D I' P N)
      ∧ RideR (foldA (fun a r => upd r (7 + 5 * a + 4) 0) i k s) D I' P N 1 ra ∧ (∀ c, (∀ t, t < i + k → c ≠ ra t) → I' c = I c)
  | 0, i, s, I, l2, hr, g, hk => by
    have h0 := g.n0
    refine ⟨I, ?_, hr, fun _ _ => rfl⟩
    rw [B38_13]
    simp only [RDc, Option.bind_some, List.append_nil, List.nil_append, List.cons_append, cond_true, cond_false, if_true, if_false, ite_true, ite_false, reduceIte, IC, bI_0, bI_1, bF, Bool.not_eq_false, Bool.not_eq_true, Bool.and_true, Bool.true_and, Bool.and_false, Bool.false_and, Bool.true_or, Bool.or_true, Bool.or_false, Bool.false_or, Bool.not_true, Bool.not_false, decide_true, decide_false, not_true_eq_false, not_false_eq_true, eq_self, Bool.true_eq_false, Bool.false_eq_true, hr.1.1, h0.1]
    rw [if_pos (by rw [iN_le (by omega) (by omega)]; omega)]
  | k + 1, i, s, I, l2, hr, g, hk => by
    have h0 := g.n0
    have hi : i < ctA s := by omega
    have hA := (hr.2.2.2.1 i hi).2
    have h9 := g.a hi
    have ea : ctA (upd s (7 + 5 * i + 4) 0) = ctA s := by unfold ctA; rw [upd_o (by omega)]
    obtain ⟨I', q1, q2, q3⟩ := C_anw1 k (i + 1) (upd s (7 + 5 * i + 4) 0) (u2 I (ra i) 5 0) (va_rf (some (ra i))) (hr.told (v := 0) g hi) (gd_told g h9) (by rw [ea]; omega)
    refine ⟨I', ?_, q2, fun c hc => (q3 c (fun t ht => hc t (by omega))).trans (u2_o (hc i (by omega)))⟩
    rw [B38_13]
    simp only [RDc, Option.bind_some, List.append_nil, List.nil_append, List.cons_append, cond_true, cond_false, if_true, if_false, ite_true, ite_false, reduceIte, IC, bI_0, bI_1, bF, Bool.not_eq_false, Bool.not_eq_true, Bool.and_true, Bool.true_and, Bool.and_false, Bool.false_and, Bool.true_or, Bool.or_true, Bool.or_false, Bool.false_or, Bool.not_true, Bool.not_false, decide_true, decide_false, not_true_eq_false, not_false_eq_true, eq_self, Bool.true_eq_false, Bool.false_eq_true, hr.1.1, h0.1]
    rw [if_neg (by rw [iN_le (by omega) (by omega)]; omega)]
    simp only [C_at g hr, ans_i g hi, Option.bind_some, List.append_nil, List.nil_append, List.cons_append, cond_true, cond_false, if_true, if_false, ite_true, ite_false, reduceIte, IC, bI_0, bI_1, bF, Bool.not_eq_false, Bool.not_eq_true, Bool.and_true, Bool.true_and, Bool.and_false, Bool.false_and, Bool.true_or, Bool.or_true, Bool.or_false, Bool.false_or, Bool.not_true, Bool.not_false, decide_true, decide_false, not_true_eq_false, not_false_eq_true, eq_self, Bool.true_eq_false, Bool.false_eq_true, B38_26, oc_some, WRa hA.at, B38_36, IX]
    exact q1
theorem N_anw (g : Gd s m) : Cf X 117 [.ref 0, U_] s (s 4, anwS s) := by
  intro d D I P N ra hr hl
  obtain ⟨⟨e1, e4, e5, e6, e7, e8, e13⟩, -⟩ := id hr
  have hr2 : RideR (upd (upd s 4 0) 5 100) D (u2 (u2 I 1 6 0) 1 7 100) P N 1 ra := by
    refine hr.chg g.n2.2 ?_ ?_ ?_ (fun k hk => ?_) (fun a ha => by rw [u2_o ha, u2_o ha]) ?_ ?_ ?_ ?_ ?_ ?_ ?_ ?_
    · rw [upd_o (by decide), upd_o (by decide)]
    · rw [upd_o (by decide), upd_o (by decide)]
    · rw [upd_o (by decide), upd_o (by decide)]
    · rw [upd_o (by omega), upd_o (by omega)]
    · rw [u2_s, u2_s, upd_o (by decide), upd_o (by decide)]
    · rw [u2_s, u2_s, upd_o (by decide), upd_o (by decide)]
    · rw [u2_s, u2_s, upd_o (by decide), upd_o (by decide)]
    · rw [u2_s, u2_s, upd_o (by decide), upd_s, upd_o (by decide), upd_s]
    · rw [u2_s, upd_s, upd_s]
    · rw [u2_s, u2_s, upd_o (by decide), upd_o (by decide), upd_o (by decide), upd_o (by decide)]; exact e8
    · rw [u2_s, u2_s, upd_o (by decide), upd_o (by decide), upd_o (by decide), upd_o (by decide)]; exact e13
    · unfold ctE; rw [upd_o (by decide), upd_o (by decide)]; exact Nat.le_refl _
  have ea : ctA (upd (upd s 4 0) 5 100) = ctA s := by unfold ctA; rw [upd_o (by omega), upd_o (by omega)]
  obtain ⟨I', q1, q2, q3⟩ := C_anw1 (X := X) (d := d + 38) (ctA s) 0 _ _ U_ hr2 (gd_45 g) (by rw [ea]; omega)
  have h31 : ∀ t, t < 0 + ctA s → 31 ≠ ra t := fun t ht => by have := (hr.2.2.2.1 t (by omega)).2.1.1; omega
  refine ⟨I', ?_, q2, by rw [q3 31 h31, u2_o (by decide), u2_o (by decide)]; exact hl, fun c h1 _ _ _ _ _ _ hc => (q3 c (fun t ht => hc t (by omega))).trans (by rw [u2_o h1, u2_o h1])⟩
  have q1' : Rn X (d + 38 + 1) 38 13 [.ref 1, .int 0, U_] [] (Mh D (u2 (u2 I 1 6 0) 1 7 100) P N) = _ := q1
  simp only [B117_0, Option.bind_some, List.append_nil, List.nil_append, List.cons_append, cond_true, cond_false, if_true, if_false, ite_true, ite_false, reduceIte, IC, bI_0, bI_1, bF, Bool.not_eq_false, Bool.not_eq_true, Bool.and_true, Bool.true_and, Bool.and_false, Bool.false_and, Bool.true_or, Bool.or_true, Bool.or_false, Bool.false_or, Bool.not_true, Bool.not_false, decide_true, decide_false, not_true_eq_false, not_false_eq_true, eq_self, Bool.true_eq_false, Bool.false_eq_true, RDc, e6, B38_0, WRc, q1', B117_15]
end ClsO
