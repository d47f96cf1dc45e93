/-! the class: more, the road, anew, change, reports -/
section ClsL
variable {X : mX} {d : Nat} {D : Nat → Nat × Nat} {I : Nat → Nat → Int32} {P : Nat → Nat → Option Nat} {N : Nat} {h : mH} {s s' g S r f f' F c : Nat → Int32} {J J' I' : Nat → Nat → Int32} {ra : Nat → Nat} {L : List Nat} {m : Int} {i j k n p q t : Nat} {x v w a b e z fl : Int32}
/-- s' is s but for one's LEFT -/
def eqL (i : Nat) (s' s : Nat → Int32) : Prop := ∀ k, k ≠ 7 + 5 * i + 3 → s' k = s k
theorem eqL.end (h : eqL i s' s) (hi : i < 9) (h8 : ctL s ≤ 8) : endV s' = endV s ∧ ctL s' = ctL s ∧ ctA s' = ctA s ∧ ctR s' = ctR s := by
  have el : ctL s' = ctL s := by unfold ctL; rw [h _ (by omega)]
  have ea : ctA s' = ctA s := by unfold ctA; rw [h _ (by omega)]
  have er : ctR s' = ctR s := by unfold ctR; rw [h _ (by omega)]
  refine ⟨?_, el, ea, er⟩
  unfold endV; rw [el]
  exact endF_of (fun j _ => h _ (by omega)) _ _ _ (by omega)
theorem legF_of (h4 : s' 4 = s 4) (h : ∀ j, j < 16 → s' (52 + j) = s (52 + j)) : ∀ k i e, i + k ≤ 8 → legF s' i k e = legF s i k e
  | 0, _, _, _ => rfl
  | k + 1, i, e, hk => by
    unfold legF
    rw [h (2 * i) (by omega), h4]
    split
    · exact legF_of h4 h k (i + 1) _ (by omega)
    · rfl
theorem eqL.hld (h : eqL i s' s) (hi : i < 9) (ht : t < 9) (h8 : ctL s ≤ 8) : hldV s' t = hldV s t := by
  obtain ⟨en, el, ea, er⟩ := h.end hi h8
  have hl : legN s' = legN s := by
    unfold legN; rw [el]; exact legF_of (h 4 (by omega)) (fun j _ => h _ (by omega)) _ _ _ (by omega)
  have hm : moodV s' = moodV s := by
    have := legN_le (s := s)
    unfold moodV; rw [el, hl]
    split
    · rfl
    · rw [h _ (by omega)]
  have hf : fctV s' t = fctV s t := by
    funext c; unfold fctV; rw [hl, hm, h _ (by omega), h 5 (by omega)]
  have hso : ∀ f e, soV s' f e t = soV s f e t := by
    intro f e; unfold soV
    rw [hf, show (fun k => s' (118 + k)) = fun k => s (118 + k) from funext fun k => h _ (by omega)]
  have hr : ∀ k j f, rulF s' t j k f = rulF s t j k f := by
    intro k
    induction k with
    | zero => intro j f; rfl
    | succ k ih =>
      intro j f
      unfold rulF
      rw [h _ (by omega), h (86 + 4 * j) (by omega), h (86 + 4 * j + 3) (by omega), hso, ih]
  have hR0 : ∀ o, hRl s' t o = hRl s t o := by
    intro o
    have e0 : s' (7 + 5 * t + 1) = s (7 + 5 * t + 1) := h _ (by omega)
    have eo : hR0 s' t o = hR0 s t o := by
      cases o with
      | none => exact e0
      | some k =>
        have e1 : s' (86 + 4 * k + 1) = s (86 + 4 * k + 1) := h _ (by omega)
        have e2 : s' (86 + 4 * k + 2) = s (86 + 4 * k + 2) := h _ (by omega)
        simp only [hR0, e0, e1, e2]
    unfold hRl
    rw [eo]
  unfold hldV hl2 hl1
  rw [hr, er, hR0, hm, h _ (by omega), h (7 + 5 * t + 4) (by omega)]
theorem eqL.tel (h : eqL i s' s) (hi : i < 9) (ht : t < 9) (h8 : ctL s ≤ 8) : eqL i (telS s' t) (telS s t) := by
  intro k hk
  have hp : pasV s' t = pasV s t := by
    unfold pasV; rw [h.hld hi ht h8, (h.end hi h8).1, h 4 (by omega)]
  unfold telS
  rw [hp, h 4 (by omega), h 5 (by omega), h (7 + 5 * t + 2) (by omega), h (7 + 5 * t + 4) (by omega)]
  unfold upd
  split
  · rfl
  · split
    · rfl
    · split
      · rfl
      · exact h k hk
/-- one more of what is never short -/
theorem kin_mor (hm : m ≤ 10) : ∀ (n : Nat) s s', Ok s m → eqL i s' s → i < ctA s → (s (7 + 5 * i + 4)).toInt + (n : Int) ≤ (s (7 + 5 * i + 3)).toInt → (s (7 + 5 * i + 4)).toInt + (n : Int) ≤ (s' (7 + 5 * i + 3)).toInt → kinF n s' = kinF n s := by
  intro n
  induction n with
  | zero =>
    intro s s' ok he hi h1 h2
    have h9 := ok.1.a hi
    have hov : ovV s' = ovV s := by unfold ovV; rw [(he.end h9 ok.1.n2.2).1, he 4 (by omega)]
    unfold kinF; rw [hov, he 5 (by omega)]
  | succ n ih =>
    intro s s' ok he hi h1 h2
    have h9 := ok.1.a hi
    have h8 := ok.1.n2.2
    have hov : ovV s' = ovV s := by unfold ovV; rw [(he.end h9 h8).1, he 4 (by omega)]
    have hcan : ∀ t, t < ctA s → canV s' t = canV s t := by
      intro t ht
      have ht9 := ok.1.a ht
      unfold canV
      rw [hov, he (7 + 5 * t + 2) (by omega), he 5 (by omega), he (7 + 5 * t + 4) (by omega)]
      by_cases hti : t = i
      · subst hti
        have q1 : s (7 + 5 * t + 4) < s' (7 + 5 * t + 3) := by rw [Int32.lt_iff_toInt_lt]; omega
        have q2 : s (7 + 5 * t + 4) < s (7 + 5 * t + 3) := by rw [Int32.lt_iff_toInt_lt]; omega
        rw [decide_eq_true q1, decide_eq_true q2]
      · rw [he (7 + 5 * t + 3) (by omega)]
    unfold kinF
    rw [hov, he 5 (by omega), (he.end h9 h8).2.2.1]
    cases ovV s with
    | true => rw [cond_true, cond_true]
    | false =>
      show foldA _ 0 (ctA s) (-1) = foldA _ 0 (ctA s) (-1)
      refine foldA_of _ _ _ (fun t acc _ ht => ?_)
      have ht' : t < ctA s := by omega
      rw [hcan t ht']
      cases hc : canV s t with
      | false => rw [cond_false, cond_false]
      | true =>
        have ht9 := ok.1.a ht'
        have hd := bt_iff.mp (ok.1.2.1 i hi).2.2.2.2
        have e1 : (1 : Int32).toInt = 1 := rfl
        have key : kinF n (telS s' t) = kinF n (telS s t) := by
          have ea : telS s t (7 + 5 * i + 3) = s (7 + 5 * i + 3) := tel_o (by omega) (by omega) (by omega)
          have ea' : telS s' t (7 + 5 * i + 3) = s' (7 + 5 * i + 3) := tel_o (by omega) (by omega) (by omega)
          have et : (telS s t (7 + 5 * i + 4)).toInt ≤ (s (7 + 5 * i + 4)).toInt + 1 := by
            by_cases hti : t = i
            · subst hti; rw [tel_t, t_add (by omega) (by omega)]; omega
            · rw [tel_o (by omega) (by omega) (by omega)]; omega
          exact ih (telS s t) (telS s' t) (ok.tel hm ht' hc) (he.tel h9 ht9 h8) (by rw [cN_tel ht9]; exact hi) (by rw [ea]; omega) (by rw [ea']; omega)
        rw [key]
theorem mor_eqL : eqL i (morS s i) s := fun k hk => upd_o hk
theorem lf_bk1 (h80 : p ≠ 13) (hv : I p 4 + 1 = v) : u2 (u2r (u2 I p 4 v) 13 f) p 4 ((u2r (u2 I p 4 v) 13 f) p 4 - 1) = u2r I 13 f := by
  rw [u2r_o h80, u2_s, upd_s, ← hv, Int32.add_sub_cancel]
  exact lf_bk h80 rfl
theorem N_mor1 (ok : Ok s 9) : ∀ k i (acc : Int32 × Int32) I (l4 l5 : Value), RideR s D I P N 1 ra → i + k = ctA s → (kinF 4 s).toInt ≤ acc.1.toInt → -1 ≤ acc.1.toInt → ∃ f, Rn X (d + 12) 129 16 [.ref 0, .int (nonV acc.1), .int acc.2, .int (Int32.ofNat i), l4, l5] [] (Mh D I P N)
      = some ([.int (foldA (fun a (acc : Int32 × Int32) => if kinF 4 (morS s a) ≤ acc.1 then acc else (kinF 4 (morS s a), Int32.ofNat a)) i k acc).2], Mh D (u2r I 13 f) P N)
  | 0, i, acc, I, l4, l5, hr, hk, _, _ => by
    have h0 := ok.1.n0
    refine ⟨I 13, ?_⟩
    rw [u2r_id, B129_16]
    simp only [RDc, Option.bind_some, List.append_nil, List.nil_append, List.cons_append, cond_true, cond_false, if_true, if_false, ite_true, ite_false, reduceIte, IC, bI_0, bI_1, bF, Bool.not_eq_false, Bool.not_eq_true, Bool.and_true, Bool.true_and, Bool.and_false, Bool.false_and, Bool.true_or, Bool.or_true, Bool.or_false, Bool.false_or, Bool.not_true, Bool.not_false, decide_true, decide_false, not_true_eq_false, not_false_eq_true, eq_self, Bool.true_eq_false, Bool.false_eq_true, hr.1.1, h0.1]
    rw [if_pos (by rw [iN_le (by omega) (by omega)]; omega)]; rfl
  | k + 1, i, acc, I, l4, l5, hr, hk, hka, ha1 => by
    have h0 := ok.1.n0
    have hi : i < ctA s := by omega
    have hA := (hr.2.2.2.1 i hi).2
    obtain ⟨⟨h80, -⟩, -, -, -, -, a4, a5⟩ := id hA
    have hne : ra i ≠ 13 := by omega
    obtain ⟨b1, b2, b3, b4, b5⟩ := ok.1.2.1 i hi
    rw [bt_iff] at b4 b5
    have e4 : (4 : Int32).toInt = 4 := rfl
    have hsub : (s (7 + 5 * i + 3) - s (7 + 5 * i + 4)).toInt = (s (7 + 5 * i + 3)).toInt - (s (7 + 5 * i + 4)).toInt := t_sub (by omega) (by omega)
    rw [B129_16]
    simp only [RDc, Option.bind_some, List.append_nil, List.nil_append, List.cons_append, cond_true, cond_false, if_true, if_false, ite_true, ite_false, reduceIte, IC, bI_0, bI_1, bF, Bool.not_eq_false, Bool.not_eq_true, Bool.and_true, Bool.true_and, Bool.and_false, Bool.false_and, Bool.true_or, Bool.or_true, Bool.or_false, Bool.false_or, Bool.not_true, Bool.not_false, decide_true, decide_false, not_true_eq_false, not_false_eq_true, eq_self, Bool.true_eq_false, Bool.false_eq_true, hr.1.1, h0.1]
    rw [if_neg (by rw [iN_le (by omega) (by omega)]; omega)]
    simp only [C_at ok.1 hr, ans_i ok.1 hi, Option.bind_some, List.append_nil, List.nil_append, List.cons_append, cond_true, cond_false, if_true, if_false, ite_true, ite_false, reduceIte, IC, bI_0, bI_1, bF, Bool.not_eq_false, Bool.not_eq_true, Bool.and_true, Bool.true_and, Bool.and_false, Bool.false_and, Bool.true_or, Bool.or_true, Bool.or_false, Bool.false_or, Bool.not_true, Bool.not_false, decide_true, decide_false, not_true_eq_false, not_false_eq_true, eq_self, Bool.true_eq_false, Bool.false_eq_true, B129_35, oc_some, RDa hA.at, a4, a5]
    unfold foldA
    have ok2 := ok_mor ok hi
    by_cases h4 : 4 ≤ s (7 + 5 * i + 3) - s (7 + 5 * i + 4)
    · have h4' : 4 ≤ (s (7 + 5 * i + 3)).toInt - (s (7 + 5 * i + 4)).toInt := by rw [Int32.le_iff_toInt_le, hsub, e4] at h4; exact h4
      have e1 : (1 : Int32).toInt = 1 := rfl
      have hm3 : (morS s i (7 + 5 * i + 3)).toInt = (s (7 + 5 * i + 3)).toInt + 1 := by
        unfold morS; rw [upd_s, t_add (by omega) (by omega)]; omega
      have hk4 : kinF 4 (morS s i) = kinF 4 s := kin_mor (m := 10) (by decide) 4 s (morS s i) ok.wk mor_eqL hi (by show _ + (4 : Int) ≤ _; omega) (by show _ + (4 : Int) ≤ _; omega)
      have hle : kinF 4 (morS s i) ≤ acc.1 := by rw [hk4, Int32.le_iff_toInt_le]; exact hka
      simp only [h4, hle, Option.bind_some, List.append_nil, List.nil_append, List.cons_append, cond_true, cond_false, if_true, if_false, ite_true, ite_false, reduceIte, IC, bI_0, bI_1, bF, Bool.not_eq_false, Bool.not_eq_true, Bool.and_true, Bool.true_and, Bool.and_false, Bool.false_and, Bool.true_or, Bool.or_true, Bool.or_false, Bool.false_or, Bool.not_true, Bool.not_false, decide_true, decide_false, not_true_eq_false, not_false_eq_true, eq_self, Bool.true_eq_false, Bool.false_eq_true, B129_101, IX]
      exact N_mor1 ok k (i + 1) acc I _ _ hr (by omega) hka ha1
    · have hr2 : RideR (morS s i) D (u2 I (ra i) 4 (s (7 + 5 * i + 3) + 1)) P N 1 ra := hr.ans ok.1 hi (k := 4) (Or.inr (Or.inr rfl))
      obtain ⟨f, e1⟩ := C_kin (X := X) (d := d) (m := 10) (by decide) 4 (by decide) (morS s i) _ (nonV acc.1) ok2 hr2
      have e1' : Rn X (d + 11) 81 0 [.ref 1, .int 4, .int (nonV acc.1), U_, U_, U_] [] (Mh D (u2 I (ra i) 4 (s (7 + 5 * i + 3) + 1)) P N) = _ := e1
      have hbk := lf_bk1 (I := I) (p := ra i) (v := s (7 + 5 * i + 3) + 1) (f := f) hne (by rw [a4])
      simp only [h4, Option.bind_some, List.append_nil, List.nil_append, List.cons_append, cond_true, cond_false, if_true, if_false, ite_true, ite_false, reduceIte, IC, bI_0, bI_1, bF, Bool.not_eq_false, Bool.not_eq_true, Bool.and_true, Bool.true_and, Bool.and_false, Bool.false_and, Bool.true_or, Bool.or_true, Bool.or_false, Bool.false_or, Bool.not_true, Bool.not_false, decide_true, decide_false, not_true_eq_false, not_false_eq_true, eq_self, Bool.true_eq_false, Bool.false_eq_true, RDa hA.at, WRa hA.at, a4, RDc, e1', B129_77, hbk]
      have hkb := kin_b (m := 10) (by decide) 4 (morS s i) ok2
      have e3 : (-3 : Int32).toInt = -3 := rfl
      by_cases hle : kinF 4 (morS s i) ≤ acc.1
      · have hle2 : kfV (nonV acc.1) (kinF 4 (morS s i)) ≤ nonV acc.1 := by
          rw [Int32.le_iff_toInt_le] at hle
          unfold kfV nonV imx
          by_cases h1 : kinF 4 (morS s i) < 0
          · rw [if_pos h1]; rw [Int32.le_iff_toInt_le]; exact Int.le_refl _
          · rw [if_neg h1]
            rw [Int32.lt_iff_toInt_lt, z_ti] at h1
            have h2 : 0 ≤ acc.1 := by rw [Int32.le_iff_toInt_le, z_ti]; omega
            rw [if_pos h2, if_pos (by rw [Int32.le_iff_toInt_le]; exact hle), Int32.le_iff_toInt_le]
            exact Int.le_refl _
        simp only [hle, hle2, Option.bind_some, List.append_nil, List.nil_append, List.cons_append, cond_true, cond_false, if_true, if_false, ite_true, ite_false, reduceIte, IC, bI_0, bI_1, bF, Bool.not_eq_false, Bool.not_eq_true, Bool.and_true, Bool.true_and, Bool.and_false, Bool.false_and, Bool.true_or, Bool.or_true, Bool.or_false, Bool.false_or, Bool.not_true, Bool.not_false, decide_true, decide_false, not_true_eq_false, not_false_eq_true, eq_self, Bool.true_eq_false, Bool.false_eq_true, B129_101, IX]
        obtain ⟨f2, e2⟩ := N_mor1 ok k (i + 1) acc (u2r I 13 f) (va_rf (some (ra i))) (.int (kfV (nonV acc.1) (kinF 4 (morS s i)))) hr.u13 (by omega) hka ha1
        rw [u2r_r] at e2
        exact ⟨f2, e2⟩
      · have hlt : acc.1.toInt < (kinF 4 (morS s i)).toInt := by rw [Int32.le_iff_toInt_le] at hle; omega
        have h1 : ¬ kinF 4 (morS s i) < 0 := by rw [Int32.lt_iff_toInt_lt, z_ti]; omega
        have hn : nonV (kinF 4 (morS s i)) = kinF 4 (morS s i) := by unfold nonV; rw [if_pos (by rw [← i_nlt]; exact h1)]
        have hkf : kfV (nonV acc.1) (kinF 4 (morS s i)) = kinF 4 (morS s i) := by
          rw [Int32.lt_iff_toInt_lt, z_ti] at h1
          refine kf_hi (by omega) ?_
          unfold nonV
          by_cases h2 : 0 ≤ acc.1
          · rw [if_pos h2, Int32.lt_iff_toInt_lt]; exact hlt
          · rw [if_neg h2, Int32.lt_iff_toInt_lt, e3]; omega
        have hle2 : ¬ kinF 4 (morS s i) ≤ nonV acc.1 := by
          rw [Int32.lt_iff_toInt_lt, z_ti] at h1
          unfold nonV
          by_cases h2 : 0 ≤ acc.1
          · rw [if_pos h2]; exact hle
          · rw [if_neg h2, Int32.le_iff_toInt_le, e3]; omega
        simp only [hle, hkf, hle2, Option.bind_some, List.append_nil, List.nil_append, List.cons_append, cond_true, cond_false, if_true, if_false, ite_true, ite_false, reduceIte, IC, bI_0, bI_1, bF, Bool.not_eq_false, Bool.not_eq_true, Bool.and_true, Bool.true_and, Bool.and_false, Bool.false_and, Bool.true_or, Bool.or_true, Bool.or_false, Bool.false_or, Bool.not_true, Bool.not_false, decide_true, decide_false, not_true_eq_false, not_false_eq_true, eq_self, Bool.true_eq_false, Bool.false_eq_true, B129_101, IX]
        obtain ⟨f2, e2⟩ := N_mor1 ok k (i + 1) (kinF 4 (morS s i), Int32.ofNat i) (u2r I 13 f) (va_rf (some (ra i))) (.int (kinF 4 (morS s i))) hr.u13 (by omega) (by show (kinF 4 s).toInt ≤ (kinF 4 (morS s i)).toInt; omega) hkb.1
        rw [u2r_r, show nonV (kinF 4 (morS s i), Int32.ofNat i).1 = kinF 4 (morS s i) from hn] at e2
        exact ⟨f2, e2⟩
theorem N_mor (ok : Ok s 9) : Cf X 129 [.ref 0, U_, U_, U_, U_, U_] s (pMor s, s) := by
  intro d D I P N ra hr hl
  obtain ⟨f, e1⟩ := C_kin (X := X) (d := d + 28) (m := 10) (by decide) 4 (by decide) s _ (-3) ok.wk hr
  have hkb := kin_b (m := 10) (by decide) 4 s ok.wk
  rw [kf_non hkb.1] at e1
  have e1' : Rn X (d + 39) 81 0 [.ref 1, .int 4, .int (-3), U_, U_, U_] [] (Mh D I P N) = _ := e1
  obtain ⟨f2, e2⟩ := N_mor1 (X := X) (d := d + 28) ok (ctA s) 0 (kinF 4 s, -3) (u2r I 13 f) U_ U_ hr.u13 (by omega) (Int.le_refl _) hkb.1
  rw [u2r_r] at e2
  refine ⟨u2r I 13 f2, ?_, hr.u13, by rw [u2r_o (by decide)]; exact hl, frc_13⟩
  simp only [B129_0, B129_10, RDc, Option.bind_some, List.append_nil, List.nil_append, List.cons_append, cond_true, cond_false, if_true, if_false, ite_true, ite_false, reduceIte, IC, bI_0, bI_1, bF, Bool.not_eq_false, Bool.not_eq_true, Bool.and_true, Bool.true_and, Bool.and_false, Bool.false_and, Bool.true_or, Bool.or_true, Bool.or_false, Bool.false_or, Bool.not_true, Bool.not_false, decide_true, decide_false, not_true_eq_false, not_false_eq_true, eq_self, Bool.true_eq_false, Bool.false_eq_true, e1']
  exact e2
end ClsL
