/-! the class: the road, anew, change, reports -/
section ClsM
variable {X : mX} {d : Nat} {D : Nat → Nat × Nat} {I : Nat → Nat → Int32} {P : Nat → Nat → Option Nat} {N : Nat} {h : mH} {s s' g S r f f' F c : Nat → Int32} {J J' I' : Nat → Nat → Int32} {ra : Nat → Nat} {L : List Nat} {m : Int} {i j k n p q t : Nat} {x v w a b e z fl : Int32}
theorem endF_app : ∀ k i e, endF s i (k + 1) e = endF s i k e + s (52 + 2 * (i + k))
  | 0, i, e => rfl
  | k + 1, i, e => by
    show endF s (i + 1) (k + 1) (e + s (52 + 2 * i)) = endF s (i + 1) k (e + s (52 + 2 * i)) + _
    rw [endF_app k (i + 1), show i + 1 + k = i + (k + 1) by omega]
theorem endF_acc : ∀ k i e, endF s i k (e + x) = endF s i k e + x
  | 0, _, _ => rfl
  | k + 1, i, e => by
    unfold endF
    rw [Int32.add_assoc, Int32.add_comm x, ← Int32.add_assoc, endF_acc k (i + 1)]
theorem endF_chg (hs : s' (52 + 2 * j) = x) (ho : ∀ k, k ≠ j → s' (52 + 2 * k) = s (52 + 2 * k)) : ∀ k i e, i ≤ j → j < i + k → endF s' i k e = endF s i k e + (x - s (52 + 2 * j))
  | 0, i, e, h1, h2 => by omega
  | k + 1, i, e, h1, h2 => by
    unfold endF
    by_cases hij : i = j
    · subst hij
      have key : ∀ k t e, i < t → endF s' t k e = endF s t k e := by
        intro k
        induction k with
        | zero => intro t e _; rfl
        | succ k ih => intro t e ht; unfold endF; rw [ho t (by omega), ih (t + 1) _ (by omega)]
      rw [hs, key k (i + 1) _ (by omega), ← endF_acc, Int32.add_assoc]
      rw [show s (52 + 2 * i) + (x - s (52 + 2 * i)) = x by rw [Int32.add_comm, Int32.sub_add_cancel]]
    · rw [ho i hij]
      exact endF_chg hs ho k (i + 1) _ (by omega) (by omega)
/-- the road changed -/
theorem RideR.road (hr : RideR s D I P N 1 ra) (s0 : s' 0 = s 0) (s1 : s' 1 = s 1) (s3 : s' 3 = s 3) (s4 : s' 4 = s 4) (s5 : s' 5 = s 5) (s6 : s' 6 = s 6) (ho : ∀ j, (7 ≤ j ∧ j < 52) ∨ 68 ≤ j → s' j = s j) (g : Gd s m)
    (hI : ∀ a, a ≠ 1 → a ≠ 3 → a ≠ 4 → I' a = I a) (h1 : ∀ k, k ≠ 4 → k ≠ 5 → I' 1 k = I 1 k) (e4 : I' 1 4 = s' 2) (e5 : I' 1 5 = endV s') (hl : ∀ k, k < ctL s' → I' 3 k = s' (52 + 2 * k) ∧ I' 4 k = s' (52 + 2 * k + 1)) : RideR s' D I' P N 1 ra := by
  obtain ⟨⟨r1, r4', r5', r6', r7', r8', r13'⟩, r2, r3, r4, r5, q, hq, hR⟩ := hr
  have ea : ctA s' = ctA s := by unfold ctA; rw [s0]
  have ee : ctE s' = ctE s := by unfold ctE; rw [s3]
  refine ⟨⟨by rw [h1 1 (by decide) (by decide), s0]; exact r1, e4, e5, by rw [h1 6 (by decide) (by decide), s4]; exact r6', by rw [h1 7 (by decide) (by decide), s5]; exact r7', by rw [h1 8 (by decide) (by decide), s6]; exact r8', by rw [h1 13 (by decide) (by decide), s3]; exact r13'⟩, hl, fun k hk => ?_, fun j hj => ?_, fun a b ha hb => ?_, q, hq, ?_⟩
  · rw [ee] at hk
    rw [hI _ (by omega) (by omega) (by omega), hI _ (by omega) (by omega) (by omega), ho _ (by omega), ho _ (by omega), ho _ (by omega)]; exact r3 k hk
  · rw [ea] at hj
    have hj9 := g.a hj
    obtain ⟨q1, q2⟩ := r4 j hj
    have h80 := q2.1.1
    refine ⟨q1, ?_⟩
    unfold AnsR
    rw [ho _ (by omega), ho _ (by omega), ho _ (by omega), ho _ (by omega), ho _ (by omega)]
    exact q2.of (hI _ (by omega) (by omega) (by omega))
  · rw [ea] at ha hb; exact r5 a b ha hb
  · refine (hR.ofs s1 (fun j hj => ho j (by omega))).of (fun j hj => ?_)
    have := hR.1.ne hj
    exact hI _ (by omega) (by omega) (by omega)
theorem ww34 (h : j < 8) : (∀ I x, hAS 0 (Mh D I P N) 3 (Int32.ofNat j) x = some (Mh D (u2 I 3 j x) P N)) ∧ (∀ I x, hAS 0 (Mh D I P N) 4 (Int32.ofNat j) x = some (Mh D (u2 I 4 j x) P N)) := by
  refine ⟨fun I x => ?_, fun I x => ?_⟩
  · rw [wrA hN3 (n := 8) rfl rfl, mib_N h (by decide), iN_cl (by omega)]; rfl
  · rw [wrA hN4 (n := 8) rfl rfl, mib_N h (by decide), iN_cl (by omega)]; rfl
theorem N_leg (g : Gd s m) : Cf X 112 [.ref 0, .int a, .int b] s (pLeg s a b) := by
  intro d D I P N ra hr hl
  have h2 := g.n2
  obtain ⟨⟨e1, e4, e5, e6, e7, e8, e13⟩, r2, -⟩ := id hr
  simp only [B112_0, C_isL, Option.bind_some, List.append_nil, List.nil_append, List.cons_append, cond_true, cond_false, if_true, if_false, ite_true, ite_false, reduceIte, IC, bI_0, bI_1, bF, Bool.not_eq_false, Bool.not_eq_true, Bool.and_true, Bool.true_and, Bool.and_false, Bool.false_and, Bool.true_or, Bool.or_true, Bool.or_false, Bool.false_or, Bool.not_true, Bool.not_false, decide_true, decide_false, not_true_eq_false, not_false_eq_true, eq_self, Bool.true_eq_false, Bool.false_eq_true, B112_5]
  unfold pLeg
  cases hb : (bt a 1 99 && bt b 0 2) with
  | false => exact ⟨I, by simp only [Option.bind_some, List.append_nil, List.nil_append, List.cons_append, cond_true, cond_false, if_true, if_false, ite_true, ite_false, reduceIte, IC, bI_0, bI_1, bF, Bool.not_eq_false, Bool.not_eq_true, Bool.and_true, Bool.true_and, Bool.and_false, Bool.false_and, Bool.true_or, Bool.or_true, Bool.or_false, Bool.false_or, Bool.not_true, Bool.not_false, decide_true, decide_false, not_true_eq_false, not_false_eq_true, eq_self, Bool.true_eq_false, Bool.false_eq_true], by simp only [Option.bind_some, List.append_nil, List.nil_append, List.cons_append, cond_true, cond_false, if_true, if_false, ite_true, ite_false, reduceIte, IC, bI_0, bI_1, bF, Bool.not_eq_false, Bool.not_eq_true, Bool.and_true, Bool.true_and, Bool.and_false, Bool.false_and, Bool.true_or, Bool.or_true, Bool.or_false, Bool.false_or, Bool.not_true, Bool.not_false, decide_true, decide_false, not_true_eq_false, not_false_eq_true, eq_self, Bool.true_eq_false, Bool.false_eq_true]; exact hr, hl, frc_rf⟩
  | true =>
    by_cases h8 : s 2 = 8
    · have hn : ¬ (8 : Int32) < 8 := by decide
      exact ⟨I, by simp only [Option.bind_some, List.append_nil, List.nil_append, List.cons_append, cond_true, cond_false, if_true, if_false, ite_true, ite_false, reduceIte, IC, bI_0, bI_1, bF, Bool.not_eq_false, Bool.not_eq_true, Bool.and_true, Bool.true_and, Bool.and_false, Bool.false_and, Bool.true_or, Bool.or_true, Bool.or_false, Bool.false_or, Bool.not_true, Bool.not_false, decide_true, decide_false, not_true_eq_false, not_false_eq_true, eq_self, Bool.true_eq_false, Bool.false_eq_true, RDc, B32_0, e4, h8, hn, B112_19], by simp only [Option.bind_some, List.append_nil, List.nil_append, List.cons_append, cond_true, cond_false, if_true, if_false, ite_true, ite_false, reduceIte, IC, bI_0, bI_1, bF, Bool.not_eq_false, Bool.not_eq_true, Bool.and_true, Bool.true_and, Bool.and_false, Bool.false_and, Bool.true_or, Bool.or_true, Bool.or_false, Bool.false_or, Bool.not_true, Bool.not_false, decide_true, decide_false, not_true_eq_false, not_false_eq_true, eq_self, Bool.true_eq_false, Bool.false_eq_true, h8]; exact hr, hl, frc_rf⟩
    · have hlt : ctL s < 8 := by
        have e : ¬ ctL s = 8 := fun q => h8 (by rw [h2.1, q]; rfl)
        omega
      have hlt8 : Int32.ofNat (ctL s) < 8 := by rw [show (8 : Int32) = Int32.ofNat 8 from rfl, iN_lt (by omega) (by omega)]; exact hlt
      have n0 : ¬ Int32.ofNat (ctL s) < 0 := iN_neg (by omega)
      have n1 : ¬ Int32.ofNat (ctL s + 1) ≤ Int32.ofNat (ctL s) := by rw [iN_le (by omega) (by omega)]; omega
      have n2 : ¬ (8 : Int32) ≤ Int32.ofNat (ctL s) := le_n (l := 8) (n := 8) rfl (by omega) (by omega) hlt
      have n3 : ¬ (1 : Int32) = 0 := by decide
      have w := ww34 (D := D) (P := P) (N := N) hlt
      have hm := mib_N (j := ctL s) (n := 8) hlt (by decide)
      have hc := iN_cl (j := ctL s) (by omega)
      rw [h2.1] at h8 e4
      rw [h2.1]
      simp only [h8, Option.bind_some, List.append_nil, List.nil_append, List.cons_append, cond_true, cond_false, if_true, if_false, ite_true, ite_false, reduceIte, IC, bI_0, bI_1, bF, Bool.not_eq_false, Bool.not_eq_true, Bool.and_true, Bool.true_and, Bool.and_false, Bool.false_and, Bool.true_or, Bool.or_true, Bool.or_false, Bool.false_or, Bool.not_true, Bool.not_false, decide_true, decide_false, not_true_eq_false, not_false_eq_true, eq_self, Bool.true_eq_false, Bool.false_eq_true]
      generalize hI' : u2 (u2 (u2 (u2 (u2 I 3 (ctL s) 0) 1 4 (Int32.ofNat (ctL s + 1))) 1 5 (endV s + (a - 0))) 3 (ctL s) a) 4 (ctL s) b = I'
      have i1 : I' 1 = upd (upd (I 1) 4 (Int32.ofNat (ctL s + 1))) 5 (endV s + (a - 0)) := by
        rw [← hI', u2_o (by decide), u2_o (by decide), u2_s, u2_s, u2_o (by decide)]
      have i3 : I' 3 = upd (upd (I 3) (ctL s) 0) (ctL s) a := by
        rw [← hI', u2_o (by decide), u2_s, u2_o (by decide), u2_o (by decide), u2_s]
      have i4 : I' 4 = upd (I 4) (ctL s) b := by
        rw [← hI', u2_s, u2_o (by decide), u2_o (by decide), u2_o (by decide), u2_o (by decide)]
      have io : ∀ c, c ≠ 1 → c ≠ 3 → c ≠ 4 → I' c = I c := by
        intro c h1 h3 h4
        rw [← hI', u2_o h4, u2_o h3, u2_o h1, u2_o h1, u2_o h3]
      refine ⟨I', ?_, ?_, ?_, ?_⟩
      · rw [← hI']
        simp only [RDc, Option.bind_some, List.append_nil, List.nil_append, List.cons_append, cond_true, cond_false, if_true, if_false, ite_true, ite_false, reduceIte, IC, bI_0, bI_1, bF, Bool.not_eq_false, Bool.not_eq_true, Bool.and_true, Bool.true_and, Bool.and_false, Bool.false_and, Bool.true_or, Bool.or_true, Bool.or_false, Bool.false_or, Bool.not_true, Bool.not_false, decide_true, decide_false, not_true_eq_false, not_false_eq_true, eq_self, Bool.true_eq_false, Bool.false_eq_true, B32_0, e4, hlt8, hm, hc, IX, WRc, u2_o (show 1 ≠ 3 by decide), B33_0, B31_0, u2_s, upd_s, n0, n1, n2, B31_23, n3, B33_5, upd_o (show 5 ≠ 4 by decide), e5, u2_o (show 3 ≠ 1 by decide), B33_39, B32_41, B112_19]
      · have hx : ∀ j, j ≠ 2 → j ≠ 52 + 2 * ctL s → j ≠ 52 + 2 * ctL s + 1 → (upd (upd (upd s (52 + 2 * ctL s) a) (52 + 2 * ctL s + 1) b) 2 (Int32.ofNat (ctL s) + 1)) j = s j := fun j h1 h2 h3 => by
          rw [upd_o h1, upd_o h3, upd_o h2]
        have xa : (upd (upd (upd s (52 + 2 * ctL s) a) (52 + 2 * ctL s + 1) b) 2 (Int32.ofNat (ctL s) + 1)) (52 + 2 * ctL s) = a := by
          rw [upd_o (by omega), upd_o (by omega), upd_s]
        have xb : (upd (upd (upd s (52 + 2 * ctL s) a) (52 + 2 * ctL s + 1) b) 2 (Int32.ofNat (ctL s) + 1)) (52 + 2 * ctL s + 1) = b := by
          rw [upd_o (by omega), upd_s]
        have x2 : (upd (upd (upd s (52 + 2 * ctL s) a) (52 + 2 * ctL s + 1) b) 2 (Int32.ofNat (ctL s) + 1)) 2 = Int32.ofNat (ctL s + 1) := by
          rw [upd_s, iN_succ]
        generalize (upd (upd (upd s (52 + 2 * ctL s) a) (52 + 2 * ctL s + 1) b) 2 (Int32.ofNat (ctL s) + 1)) = s' at hx xa xb x2
        have cl' : ctL s' = ctL s + 1 := by unfold ctL; rw [x2, iN_cl (by omega)]; rfl
        show RideR s' D I' P N 1 ra
        refine hr.road (hx 0 (by decide) (by omega) (by omega)) (hx 1 (by decide) (by omega) (by omega)) (hx 3 (by decide) (by omega) (by omega)) (hx 4 (by decide) (by omega) (by omega)) (hx 5 (by decide) (by omega) (by omega)) (hx 6 (by decide) (by omega) (by omega)) (fun j hj => hx j (by omega) (by omega) (by omega)) g io (fun k h4 h5 => by rw [i1, upd_o h5, upd_o h4]) ?_ ?_ ?_
        · rw [i1, upd_o (by decide), upd_s, x2]
        · rw [i1, upd_s, Int32.sub_zero]
          unfold endV
          rw [cl', endF_app, Nat.zero_add, xa]
          have key : ∀ k i e, i + k ≤ ctL s → endF s' i k e = endF s i k e := by
            intro k
            induction k with
            | zero => intro i e _; rfl
            | succ k ih => intro i e hk; unfold endF; rw [hx _ (by omega) (by omega) (by omega), ih (i + 1) _ (by omega)]
          rw [key (ctL s) 0 0 (by omega)]
        · intro k hk
          rw [cl'] at hk
          rw [i3, i4]
          by_cases hkc : k = ctL s
          · subst hkc; rw [upd_s, upd_s, xa, xb]; exact ⟨rfl, rfl⟩
          · rw [upd_o hkc, upd_o hkc, upd_o hkc, hx _ (by omega) (by omega) (by omega), hx _ (by omega) (by omega) (by omega)]
            exact r2 k (by omega)
      · rw [io 31 (by decide) (by decide) (by decide)]; exact hl
      · intro c h1 h3 h4 _ _ _ _ _; exact io c h1 h3 h4
theorem N_drv (g : Gd s m) : Cf X 114 [.ref 0, .int w, .int a, .int b, U_] s (pDrv s w a b) := by
  intro d D I P N ra hr hl
  have h2 := g.n2
  obtain ⟨⟨e1, e4, e5, e6, e7, e8, e13⟩, r2, -⟩ := id hr
  simp only [B114_0, RDc, Option.bind_some, List.append_nil, List.nil_append, List.cons_append, cond_true, cond_false, if_true, if_false, ite_true, ite_false, reduceIte, IC, bI_0, bI_1, bF, Bool.not_eq_false, Bool.not_eq_true, Bool.and_true, Bool.true_and, Bool.and_false, Bool.false_and, Bool.true_or, Bool.or_true, Bool.or_false, Bool.false_or, Bool.not_true, Bool.not_false, decide_true, decide_false, not_true_eq_false, not_false_eq_true, eq_self, Bool.true_eq_false, Bool.false_eq_true, C_has g hr, B114_8, B114_19]
  unfold pDrv
  cases hb : isL s w with
  | false => exact ⟨I, by simp only [Option.bind_some, List.append_nil, List.nil_append, List.cons_append, cond_true, cond_false, if_true, if_false, ite_true, ite_false, reduceIte, IC, bI_0, bI_1, bF, Bool.not_eq_false, Bool.not_eq_true, Bool.and_true, Bool.true_and, Bool.and_false, Bool.false_and, Bool.true_or, Bool.or_true, Bool.or_false, Bool.false_or, Bool.not_true, Bool.not_false, decide_true, decide_false, not_true_eq_false, not_false_eq_true, eq_self, Bool.true_eq_false, Bool.false_eq_true], by simp only [Option.bind_some, List.append_nil, List.nil_append, List.cons_append, cond_true, cond_false, if_true, if_false, ite_true, ite_false, reduceIte, IC, bI_0, bI_1, bF, Bool.not_eq_false, Bool.not_eq_true, Bool.and_true, Bool.true_and, Bool.and_false, Bool.false_and, Bool.true_or, Bool.or_true, Bool.or_false, Bool.false_or, Bool.not_true, Bool.not_false, decide_true, decide_false, not_true_eq_false, not_false_eq_true, eq_self, Bool.true_eq_false, Bool.false_eq_true]; exact hr, hl, frc_rf⟩
  | true =>
    simp only [Option.bind_some, List.append_nil, List.nil_append, List.cons_append, cond_true, cond_false, if_true, if_false, ite_true, ite_false, reduceIte, IC, bI_0, bI_1, bF, Bool.not_eq_false, Bool.not_eq_true, Bool.and_true, Bool.true_and, Bool.and_false, Bool.false_and, Bool.true_or, Bool.or_true, Bool.or_false, Bool.false_or, Bool.not_true, Bool.not_false, decide_true, decide_false, not_true_eq_false, not_false_eq_true, eq_self, Bool.true_eq_false, Bool.false_eq_true, C_isL, B114_16, B114_19]
    cases hb2 : (bt a 1 99 && bt b 0 2) with
    | false => exact ⟨I, by simp only [Option.bind_some, List.append_nil, List.nil_append, List.cons_append, cond_true, cond_false, if_true, if_false, ite_true, ite_false, reduceIte, IC, bI_0, bI_1, bF, Bool.not_eq_false, Bool.not_eq_true, Bool.and_true, Bool.true_and, Bool.and_false, Bool.false_and, Bool.true_or, Bool.or_true, Bool.or_false, Bool.false_or, Bool.not_true, Bool.not_false, decide_true, decide_false, not_true_eq_false, not_false_eq_true, eq_self, Bool.true_eq_false, Bool.false_eq_true], by simp only [Option.bind_some, List.append_nil, List.nil_append, List.cons_append, cond_true, cond_false, if_true, if_false, ite_true, ite_false, reduceIte, IC, bI_0, bI_1, bF, Bool.not_eq_false, Bool.not_eq_true, Bool.and_true, Bool.true_and, Bool.and_false, Bool.false_and, Bool.true_or, Bool.or_true, Bool.or_false, Bool.false_or, Bool.not_true, Bool.not_false, decide_true, decide_false, not_true_eq_false, not_false_eq_true, eq_self, Bool.true_eq_false, Bool.false_eq_true]; exact hr, hl, frc_rf⟩
    | true =>
      simp only [Option.bind_some, List.append_nil, List.nil_append, List.cons_append, cond_true, cond_false, if_true, if_false, ite_true, ite_false, reduceIte, IC, bI_0, bI_1, bF, Bool.not_eq_false, Bool.not_eq_true, Bool.and_true, Bool.true_and, Bool.and_false, Bool.false_and, Bool.true_or, Bool.or_true, Bool.or_false, Bool.false_or, Bool.not_true, Bool.not_false, decide_true, decide_false, not_true_eq_false, not_false_eq_true, eq_self, Bool.true_eq_false, Bool.false_eq_true, RDc, C_legN g hr, B114_28, B114_52]
      obtain ⟨i, hi, rfl⟩ := isL_nat g hb
      have e0 : (Int32.ofNat i).toNatClampNeg = i := iN_cl (by omega)
      by_cases h1 : Int32.ofNat i < Int32.ofNat (legN s)
      · exact ⟨I, by simp only [h1, Option.bind_some, List.append_nil, List.nil_append, List.cons_append, cond_true, cond_false, if_true, if_false, ite_true, ite_false, reduceIte, IC, bI_0, bI_1, bF, Bool.not_eq_false, Bool.not_eq_true, Bool.and_true, Bool.true_and, Bool.and_false, Bool.false_and, Bool.true_or, Bool.or_true, Bool.or_false, Bool.false_or, Bool.not_true, Bool.not_false, decide_true, decide_false, not_true_eq_false, not_false_eq_true, eq_self, Bool.true_eq_false, Bool.false_eq_true, true_or], by simp only [h1, Option.bind_some, List.append_nil, List.nil_append, List.cons_append, cond_true, cond_false, if_true, if_false, ite_true, ite_false, reduceIte, IC, bI_0, bI_1, bF, Bool.not_eq_false, Bool.not_eq_true, Bool.and_true, Bool.true_and, Bool.and_false, Bool.false_and, Bool.true_or, Bool.or_true, Bool.or_false, Bool.false_or, Bool.not_true, Bool.not_false, decide_true, decide_false, not_true_eq_false, not_false_eq_true, eq_self, Bool.true_eq_false, Bool.false_eq_true, true_or]; exact hr, hl, frc_rf⟩
      · have key : ∃ I', Rn X (d + 39 + 1) 114 55 [.ref 0, .int (Int32.ofNat i), .int a, .int b, .int (Int32.ofNat (legN s))] [] (Mh D I P N) = some ([.int (endV (upd (upd s (52 + 2 * i) a) (52 + 2 * i + 1) b))], Mh D I' P N) ∧ RideR (upd (upd s (52 + 2 * i) a) (52 + 2 * i + 1) b) D I' P N 1 ra ∧ I' 31 5 = 0 ∧ FrC (ctA s) ra I I' := by
          have w := ww34 (D := D) (P := P) (N := N) (j := i) (by omega)
          have hm := mib_N (j := i) (n := 8) (by omega) (by decide)
          have g3 : I 3 i = s (52 + 2 * i) := (r2 i hi).1
          have hx : ∀ j, j ≠ 52 + 2 * i → j ≠ 52 + 2 * i + 1 → (upd (upd s (52 + 2 * i) a) (52 + 2 * i + 1) b) j = s j := fun j h1 h2 => by rw [upd_o h2, upd_o h1]
          have xa : (upd (upd s (52 + 2 * i) a) (52 + 2 * i + 1) b) (52 + 2 * i) = a := by rw [upd_o (by omega), upd_s]
          have xb : (upd (upd s (52 + 2 * i) a) (52 + 2 * i + 1) b) (52 + 2 * i + 1) = b := by rw [upd_s]
          generalize (upd (upd s (52 + 2 * i) a) (52 + 2 * i + 1) b) = s' at hx xa xb
          have cl' : ctL s' = ctL s := by unfold ctL; rw [hx _ (by omega) (by omega)]
          have en : endV s + (a - s (52 + 2 * i)) = endV s' := by
            unfold endV
            rw [cl', endF_chg (j := i) (x := a) xa (fun k hk => hx _ (by omega) (by omega)) (ctL s) 0 0 (by omega) (by omega)]
          generalize hI' : u2 (u2 (u2 I 1 5 (endV s')) 3 i a) 4 i b = I'
          have i1 : I' 1 = upd (I 1) 5 (endV s') := by rw [← hI', u2_o (by decide), u2_o (by decide), u2_s]
          have i3 : I' 3 = upd (I 3) i a := by rw [← hI', u2_o (by decide), u2_s, u2_o (by decide)]
          have i4 : I' 4 = upd (I 4) i b := by rw [← hI', u2_s, u2_o (by decide), u2_o (by decide)]
          have io : ∀ c, c ≠ 1 → c ≠ 3 → c ≠ 4 → I' c = I c := by
            intro c h1 h3 h4; rw [← hI', u2_o h4, u2_o h3, u2_o h1]
          have n3 : ¬ (1 : Int32) = 0 := by decide
          refine ⟨I', ?_, ?_, by rw [io 31 (by decide) (by decide) (by decide)]; exact hl, fun c h1 h3 h4 _ _ _ _ _ => io c h1 h3 h4⟩
          · rw [← hI']
            simp only [B114_55, RDc, Option.bind_some, List.append_nil, List.nil_append, List.cons_append, cond_true, cond_false, if_true, if_false, ite_true, ite_false, reduceIte, IC, bI_0, bI_1, bF, Bool.not_eq_false, Bool.not_eq_true, Bool.and_true, Bool.true_and, Bool.and_false, Bool.false_and, Bool.true_or, Bool.or_true, Bool.or_false, Bool.false_or, Bool.not_true, Bool.not_false, decide_true, decide_false, not_true_eq_false, not_false_eq_true, eq_self, Bool.true_eq_false, Bool.false_eq_true, B33_0, C_has g hr, isL_i g hi, B33_5, e5, hm, e0, g3, en, WRc, B33_39, B114_65, u2_o (show 1 ≠ 3 by decide), u2_o (show 1 ≠ 4 by decide), u2_s, upd_s]
          · refine hr.road (hx 0 (by omega) (by omega)) (hx 1 (by omega) (by omega)) (hx 3 (by omega) (by omega)) (hx 4 (by omega) (by omega)) (hx 5 (by omega) (by omega)) (hx 6 (by omega) (by omega)) (fun j hj => hx j (by omega) (by omega)) g io (fun k h4 h5 => by rw [i1, upd_o h5]) ?_ ?_ ?_
            · rw [i1, upd_o (by decide), hx _ (by omega) (by omega)]; exact e4
            · rw [i1, upd_s]
            · intro k hk
              rw [cl'] at hk
              rw [i3, i4]
              by_cases hki : k = i
              · subst hki; rw [upd_s, upd_s, xa, xb]; exact ⟨rfl, rfl⟩
              · rw [upd_o hki, upd_o hki, hx _ (by omega) (by omega), hx _ (by omega) (by omega)]
                exact r2 k hk
        simp only [h1, Option.bind_some, List.append_nil, List.nil_append, List.cons_append, cond_true, cond_false, if_true, if_false, ite_true, ite_false, reduceIte, IC, bI_0, bI_1, bF, Bool.not_eq_false, Bool.not_eq_true, Bool.and_true, Bool.true_and, Bool.and_false, Bool.false_and, Bool.true_or, Bool.or_true, Bool.or_false, Bool.false_or, Bool.not_true, Bool.not_false, decide_true, decide_false, not_true_eq_false, not_false_eq_true, eq_self, Bool.true_eq_false, Bool.false_eq_true, e0]
        by_cases h3 : Int32.ofNat i = Int32.ofNat (legN s)
        · by_cases h4 : 0 < s 4
          · have h5 : ¬ s 4 ≤ 0 := by rw [i_nle]; exact h4
            exact ⟨I, by simp only [h3, Option.bind_some, List.append_nil, List.nil_append, List.cons_append, cond_true, cond_false, if_true, if_false, ite_true, ite_false, reduceIte, IC, bI_0, bI_1, bF, Bool.not_eq_false, Bool.not_eq_true, Bool.and_true, Bool.true_and, Bool.and_false, Bool.false_and, Bool.true_or, Bool.or_true, Bool.or_false, Bool.false_or, Bool.not_true, Bool.not_false, decide_true, decide_false, not_true_eq_false, not_false_eq_true, eq_self, Bool.true_eq_false, Bool.false_eq_true, RDc, e6, h5, h4, and_self, or_true, false_or], by simp only [h3, Option.bind_some, List.append_nil, List.nil_append, List.cons_append, cond_true, cond_false, if_true, if_false, ite_true, ite_false, reduceIte, IC, bI_0, bI_1, bF, Bool.not_eq_false, Bool.not_eq_true, Bool.and_true, Bool.true_and, Bool.and_false, Bool.false_and, Bool.true_or, Bool.or_true, Bool.or_false, Bool.false_or, Bool.not_true, Bool.not_false, decide_true, decide_false, not_true_eq_false, not_false_eq_true, eq_self, Bool.true_eq_false, Bool.false_eq_true, h5, h4, and_self, or_true, false_or]; exact hr, hl, frc_rf⟩
          · have h5 : s 4 ≤ 0 := by rw [← i_nlt]; exact h4
            simp only [h3, Option.bind_some, List.append_nil, List.nil_append, List.cons_append, cond_true, cond_false, if_true, if_false, ite_true, ite_false, reduceIte, IC, bI_0, bI_1, bF, Bool.not_eq_false, Bool.not_eq_true, Bool.and_true, Bool.true_and, Bool.and_false, Bool.false_and, Bool.true_or, Bool.or_true, Bool.or_false, Bool.false_or, Bool.not_true, Bool.not_false, decide_true, decide_false, not_true_eq_false, not_false_eq_true, eq_self, Bool.true_eq_false, Bool.false_eq_true, RDc, e6, h5, h4, and_false, or_false]
            rw [h3] at key
            exact key
        · simp only [h3, Option.bind_some, List.append_nil, List.nil_append, List.cons_append, cond_true, cond_false, if_true, if_false, ite_true, ite_false, reduceIte, IC, bI_0, bI_1, bF, Bool.not_eq_false, Bool.not_eq_true, Bool.and_true, Bool.true_and, Bool.and_false, Bool.false_and, Bool.true_or, Bool.or_true, Bool.or_false, Bool.false_or, Bool.not_true, Bool.not_false, decide_true, decide_false, not_true_eq_false, not_false_eq_true, eq_self, Bool.true_eq_false, Bool.false_eq_true, false_and, or_false]
          exact key
end ClsM
