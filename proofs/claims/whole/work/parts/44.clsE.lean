/-! the class: the row behind a telling; taking back; searches -/
section ClsE
variable {X : mX} {d : Nat} {D : Nat → Nat × Nat} {I : Nat → Nat → Int32} {P : Nat → Nat → Option Nat} {N : Nat} {h : mH} {s s' g S r f f' F c : Nat → Int32} {J : Nat → Nat → Int32} {ra : Nat → Nat} {m : Int} {i j k n p q : Nat} {x v w a b l : Int32}
theorem RulR.ofs (h : RulR s D I N q) (h1 : s' 1 = s 1) (hs : ∀ j, 86 ≤ j → s' j = s j) : RulR s' D I N q := by
  obtain ⟨h2, h3, h4⟩ := h
  have e1 : ctR s' = ctR s := by unfold ctR; rw [h1]
  have e2 : ∀ k, enN s' k = enN s k := fun k => by unfold enN; rw [hs _ (by omega)]
  have e3 : ∀ k, frm s' k = frm s k := fun k => by cases k with
    | zero => rfl
    | succ k => exact e2 k
  have e4 : (fun j => s' (118 + j)) = fun j => s (118 + j) := by funext j; exact hs _ (by omega)
  refine ⟨h2, by rw [h1]; exact h3, fun k hk => ?_⟩
  rw [e1] at hk
  rw [e2, e3, e4, hs (86 + 4 * k) (by omega), hs (86 + 4 * k + 1) (by omega), hs (86 + 4 * k + 2) (by omega)]
  exact h4 k hk
theorem end_tel (hi : i < 9) (h8 : ctL s ≤ 8) : endV (telS s i) = endV s := by
  have el : ctL (telS s i) = ctL s := by unfold ctL; rw [tel_o (by omega) (by omega) (by omega)]
  unfold endV
  rw [el]
  exact endF_of (fun j hj => tel_o (by omega) (by omega) (by omega)) _ _ _ (by omega)
theorem tl_o (h1 : k ≠ 1) (h2 : k ≠ 13) (h3 : k ≠ ra i) : tlI I s ra i f k = I k := by
  unfold tlI; rw [u2_o h3, u2_o h1, u2_o h1, u2r_o h2]
theorem tl_1 (h80 : 80 ≤ ra i) : tlI I s ra i f 1 = upd (upd (I 1) 6 (s 4 + pasV s i)) 7 (s 5 - s (7 + 5 * i + 2)) := by
  unfold tlI
  rw [u2_o (show 1 ≠ ra i by omega), u2_s, u2_s, u2r_o (by decide)]
theorem tl_a (h80 : 80 ≤ ra i) : tlI I s ra i f (ra i) = upd (I (ra i)) 5 (s (7 + 5 * i + 4) + 1) := by
  unfold tlI
  rw [u2_s, u2_o (show ra i ≠ 1 by omega), u2_o (show ra i ≠ 1 by omega), u2r_o (show ra i ≠ 13 by omega)]
theorem RideR.tel (ok : Ok s m) (hr : RideR s D I P N 1 ra) (hi : i < ctA s) : RideR (telS s i) D (tlI I s ra i f) P N 1 ra := by
  have h9 := ok.1.a hi
  have h8 := ok.1.n2.2
  obtain ⟨⟨e1, e4, e5, e6, e7, e8, e13⟩, r2, r3, r4, r5, q, hq, hR⟩ := hr
  have h80 := (r4 i hi).2.1.1
  have hA := (r4 i hi).2.at
  have el : ctL (telS s i) = ctL s := by unfold ctL; rw [tel_o (by omega) (by omega) (by omega)]
  have ee : ctE (telS s i) = ctE s := by unfold ctE; rw [tel_o (by omega) (by omega) (by omega)]
  have t1 := tl_1 (I := I) (s := s) (f := f) h80
  refine ⟨⟨?_, ?_, ?_, ?_, ?_, ?_, ?_⟩, fun k hk => ?_, fun r hr => ?_, fun j hj => ?_, fun a b ha hb => ?_, q, hq, ?_⟩
  · rw [t1, upd_o (by decide), upd_o (by decide), tel_o (by omega) (by omega) (by omega)]; exact e1
  · rw [t1, upd_o (by decide), upd_o (by decide), tel_o (by omega) (by omega) (by omega)]; exact e4
  · rw [t1, upd_o (by decide), upd_o (by decide), end_tel h9 h8]; exact e5
  · rw [t1, upd_o (by decide), upd_s, tel_4]
  · rw [t1, upd_s, tel_5]
  · rw [t1, upd_o (by decide), upd_o (by decide), tel_o (by omega) (by omega) (by omega)]; exact e8
  · rw [t1, upd_o (by decide), upd_o (by decide), tel_o (by omega) (by omega) (by omega)]; exact e13
  · rw [el] at hk
    rw [tl_o (by omega) (by omega) (by omega), tl_o (by omega) (by omega) (by omega), tel_o (by omega) (by omega) (by omega), tel_o (by omega) (by omega) (by omega)]
    exact r2 k hk
  · rw [ee] at hr
    have h6 := ok.1.n3.2
    rw [tl_o (by omega) (by omega) (by omega), tl_o (by omega) (by omega) (by omega), tel_o (by omega) (by omega) (by omega), tel_o (by omega) (by omega) (by omega), tel_o (by omega) (by omega) (by omega)]
    exact r3 r hr
  · rw [cN_tel h9] at hj
    obtain ⟨q1, q2, q3, q4, q5, q6, q7, q8⟩ := r4 j hj
    refine ⟨q1, ?_⟩
    unfold AnsR
    rw [tel_o (by omega) (by omega) (by omega), tel_o (by omega) (by omega) (by omega), tel_o (by omega) (by omega) (by omega), tel_o (by omega) (by omega) (by omega)]
    by_cases hji : j = i
    · subst hji
      rw [tl_a h80, tel_t, upd_s, upd_o (by decide), upd_o (by decide), upd_o (by decide), upd_o (by decide), upd_o (by decide)]
      exact ⟨q2, q3, q4, q5, q6, q7, rfl⟩
    · rw [tl_o (by omega) (by omega) (fun e => hji (r5 j i hj hi e)), tel_o (show 7 + 5 * j + 4 ≠ 4 by omega) (by omega) (by omega)]
      exact ⟨q2, q3, q4, q5, q6, q7, q8⟩
  · rw [cN_tel h9] at ha hb
    exact r5 a b ha hb
  · refine (hR.ofs (tel_o (by omega) (by omega) (by omega)) (fun j hj => tel_o (by omega) (by omega) (by omega))).of (fun j hj => ?_)
    have := hR.1.ne hj
    exact tl_o (by omega) (by omega) (hR.1.nA hA hj)
theorem tl_bk (hr : RideR s D I P N 1 ra) (hi : i < ctA s) (x y z : Int32) (hx : x = s 4) (hy : y = s 5) (hz : z = s (7 + 5 * i + 4)) : u2 (u2 (u2 (u2r (tlI I s ra i f) 13 f') 1 6 x) 1 7 y) (ra i) 5 z = u2r I 13 f' := by
  obtain ⟨⟨-, -, -, e6, e7, -⟩, -, -, r4, -⟩ := hr
  obtain ⟨-, ⟨h80, -⟩, -, -, -, -, -, a5⟩ := r4 i hi
  subst hx hy hz
  funext b k
  by_cases hb : b = ra i
  · subst hb
    rw [u2_s, u2_o (by omega), u2_o (by omega), u2r_o (by omega), tl_a h80, u2r_o (by omega)]
    by_cases hk : k = 5
    · subst hk; rw [upd_s]; exact a5.symm
    · rw [upd_o hk, upd_o hk]
  · rw [u2_o hb]
    by_cases hb1 : b = 1
    · subst hb1
      rw [u2_s, u2_s, u2r_o (by decide), u2r_o (by decide), tl_1 h80]
      by_cases h7 : k = 7
      · subst h7; rw [upd_s]; exact e7.symm
      · rw [upd_o h7]
        by_cases h6 : k = 6
        · subst h6; rw [upd_s]; exact e6.symm
        · rw [upd_o h6, upd_o h7, upd_o h6]
    · rw [u2_o hb1, u2_o hb1]
      by_cases h13 : b = 13
      · subst h13; rw [u2r_s, u2r_s]
      · rw [u2r_o h13, u2r_o h13, tl_o hb1 h13 hb]
theorem C_utl (ok : Ok s m) (hm : m ≤ 10) (hr : RideR s D I P N 1 ra) (hi : i < ctA s) (hc : canV s i = true) : Rn X (d + 1) 43 0 [.ref 1, .int (Int32.ofNat i), .int (pasV s i), U_] [] (Mh D (u2r (tlI I s ra i f) 13 f') P N) = some ([], Mh D (u2r I 13 f') P N) := by
  have h9 := ok.1.a hi
  have hr2 : RideR (telS s i) D (u2r (tlI I s ra i f) 13 f') P N 1 ra := (hr.tel ok hi).u13
  have ok2 := ok.tel hm hi hc
  have hi2 : i < ctA (telS s i) := by rw [cN_tel h9]; exact hi
  obtain ⟨⟨-, -, -, e6, e7, -⟩, -, -, r4, -⟩ := id hr2
  have hA := (r4 i hi2).2
  obtain ⟨⟨h80, -⟩, -, -, -, a3, -, a5⟩ := id hA
  have hne : ra i ≠ 1 := by omega
  rw [B43_0]
  simp only [Option.bind_some, List.append_nil, List.nil_append, List.cons_append, cond_true, cond_false, if_true, if_false, ite_true, ite_false, reduceIte, IC, bI_0, bI_1, bF, Bool.not_eq_false, Bool.not_eq_true, Bool.and_true, Bool.true_and, Bool.and_false, Bool.false_and, Bool.true_or, Bool.or_true, Bool.or_false, Bool.false_or, Bool.not_true, Bool.not_false, decide_true, decide_false, not_true_eq_false, not_false_eq_true, eq_self, Bool.true_eq_false, Bool.false_eq_true, C_at ok2.1 hr2, ans_i ok2.1 hi2, B43_5, oc_some, RDc, WRc, RDa hA.at, WRa hA.at, u2_s, u2_o hne, u2_o hne.symm, upd_o (show 7 ≠ 6 by decide), upd_s, e6, e7, a3, a5, B43_43]
  refine congrArg (fun I => some ([], Mh D I P N)) (tl_bk hr hi _ _ _ ?_ ?_ ?_)
  · rw [tel_4, Int32.add_sub_cancel]
  · rw [tel_5, tel_o (by omega) (by omega) (by omega), Int32.sub_add_cancel]
  · rw [tel_t, Int32.add_sub_cancel]
theorem tl_u : u2r (tlI I s ra i f) 13 (tlI I s ra i f 13) = tlI I s ra i f := u2r_id
theorem pas_pos (ok : Ok s m) (hc : canV s i = true) : ¬ pasV s i ≤ 0 ∧ 0 < pasV s i ∧ ¬ pasV s i < 0 := by
  have h := (pas_b (i := i) ok.1 (can_ov hc)).1
  refine ⟨?_, ?_, ?_⟩
  · rw [Int32.le_iff_toInt_le, z_ti]; omega
  · rw [Int32.lt_iff_toInt_lt, z_ti]; omega
  · rw [Int32.lt_iff_toInt_lt, z_ti]; omega
/-- a row of n or fewer arrives with so much belief -/
def arB : Nat → Int32 → (Nat → Int32) → Bool
  | 0, b, s => decide (b ≤ s 5) && ovV s
  | n + 1, b, s => decide (b ≤ s 5) && (ovV s || (findF (fun a => canV s a && arB n b (telS s a)) 0 (ctA s)).isSome)
theorem C_arr1 (hm : m ≤ 10) (n : Nat) (hn : n + 1 ≤ 4)
    (IH : ∀ s I, Ok s m → RideR s D I P N 1 ra → ∃ f, Rn X (d + n + 7) 78 0 [.ref 1, .int (Int32.ofNat n), .int b, U_, U_, U_] [] (Mh D I P N) = some ([.int (bI (arB n b s))], Mh D (u2r I 13 f) P N))
    (ok : Ok s m) : ∀ k i I l5, RideR s D I P N 1 ra → i + k = ctA s →
    ∃ f, Rn X (d + (n + 1) + 7) 78 24 [.ref 1, .int (Int32.ofNat (n + 1)), .int b, .int 0, .int (Int32.ofNat i), l5] [] (Mh D I P N)
      = some ([.int (bI (findF (fun a => canV s a && arB n b (telS s a)) i k).isSome)], Mh D (u2r I 13 f) P N)
  | 0, i, I, l5, hr, hk => by
    have h0 := ok.1.n0
    refine ⟨I 13, ?_⟩
    rw [u2r_id, B78_24, if_neg (by rw [Int32.le_iff_toInt_le, iN_ti (by omega), z_ti]; omega)]
    simp only [RDc, Option.bind_some, List.append_nil, List.nil_append, List.cons_append, cond_true, cond_false, if_true, if_false, ite_true, ite_false, reduceIte, IC, bI_0, bI_1, bF, Bool.not_eq_false, Bool.not_eq_true, Bool.and_true, Bool.true_and, Bool.and_false, Bool.false_and, Bool.true_or, Bool.or_true, Bool.or_false, Bool.false_or, Bool.not_true, Bool.not_false, decide_true, decide_false, not_true_eq_false, not_false_eq_true, eq_self, Bool.true_eq_false, Bool.false_eq_true, hr.1.1, h0.1]
    rw [if_pos (by rw [iN_le (by omega) (by omega)]; omega), B78_77]
    rfl
  | k + 1, i, I, l5, hr, hk => by
    have h0 := ok.1.n0
    have hi : i < ctA s := by omega
    rw [B78_24, if_neg (by rw [Int32.le_iff_toInt_le, iN_ti (by omega), z_ti]; omega)]
    simp only [RDc, Option.bind_some, List.append_nil, List.nil_append, List.cons_append, cond_true, cond_false, if_true, if_false, ite_true, ite_false, reduceIte, IC, bI_0, bI_1, bF, Bool.not_eq_false, Bool.not_eq_true, Bool.and_true, Bool.true_and, Bool.and_false, Bool.false_and, Bool.true_or, Bool.or_true, Bool.or_false, Bool.false_or, Bool.not_true, Bool.not_false, decide_true, decide_false, not_true_eq_false, not_false_eq_true, eq_self, Bool.true_eq_false, Bool.false_eq_true, hr.1.1, h0.1]
    rw [if_neg (by rw [iN_le (by omega) (by omega)]; omega)]
    unfold findF
    cases hc : canV s i with
    | false =>
      have e := C_telN (X := X) (d := d + n + 1) ok hr hi hc
      rw [show d + n + 1 + 6 = d + (n + 1) + 6 by omega] at e
      have hneg : (-4 : Int32) ≤ 0 := by decide
      simp only [e, Option.bind_some, List.append_nil, List.nil_append, List.cons_append, cond_true, cond_false, if_true, if_false, ite_true, ite_false, reduceIte, IC, bI_0, bI_1, bF, Bool.not_eq_false, Bool.not_eq_true, Bool.and_true, Bool.true_and, Bool.and_false, Bool.false_and, Bool.true_or, Bool.or_true, Bool.or_false, Bool.false_or, Bool.not_true, Bool.not_false, decide_true, decide_false, not_true_eq_false, not_false_eq_true, eq_self, Bool.true_eq_false, Bool.false_eq_true, B78_47, hneg, B78_71, IX]
      exact C_arr1 hm n hn IH ok k (i + 1) I _ hr (by omega)
    | true =>
      obtain ⟨f1, e1⟩ := C_tel (X := X) (d := d + n + 1) ok hr hi hc
      rw [show d + n + 1 + 6 = d + (n + 1) + 6 by omega] at e1
      obtain ⟨f2, e2⟩ := IH (telS s i) (tlI I s ra i f1) (ok.tel hm hi hc) (hr.tel ok hi)
      rw [show d + n + 7 = d + (n + 1) + 6 by omega] at e2
      have e3 := C_utl (X := X) (d := d + n + 6) (f := f1) (f' := f2) ok hm hr hi hc
      rw [show d + n + 6 + 1 = d + (n + 1) + 6 by omega] at e3
      simp only [e1, Option.bind_some, List.append_nil, List.nil_append, List.cons_append, cond_true, cond_false, if_true, if_false, ite_true, ite_false, reduceIte, IC, bI_0, bI_1, bF, Bool.not_eq_false, Bool.not_eq_true, Bool.and_true, Bool.true_and, Bool.and_false, Bool.false_and, Bool.true_or, Bool.or_true, Bool.or_false, Bool.false_or, Bool.not_true, Bool.not_false, decide_true, decide_false, not_true_eq_false, not_false_eq_true, eq_self, Bool.true_eq_false, Bool.false_eq_true, B78_47, (pas_pos ok hc).1, iN_p1, e2, B78_62, e3, B78_71, IX]
      cases ha : arB n b (telS s i) with
      | false =>
        simp only [Option.bind_some, List.append_nil, List.nil_append, List.cons_append, cond_true, cond_false, if_true, if_false, ite_true, ite_false, reduceIte, IC, bI_0, bI_1, bF, Bool.not_eq_false, Bool.not_eq_true, Bool.and_true, Bool.true_and, Bool.and_false, Bool.false_and, Bool.true_or, Bool.or_true, Bool.or_false, Bool.false_or, Bool.not_true, Bool.not_false, decide_true, decide_false, not_true_eq_false, not_false_eq_true, eq_self, Bool.true_eq_false, Bool.false_eq_true, bI_f]
        obtain ⟨f3, e4⟩ := C_arr1 hm n hn IH ok k (i + 1) (u2r I 13 f2) (.int (pasV s i)) hr.u13 (by omega)
        rw [u2r_r] at e4
        exact ⟨f3, e4⟩
      | true =>
        refine ⟨f2, ?_⟩
        rw [B78_24, if_neg (by rw [Int32.le_iff_toInt_le, iN_ti (by omega), z_ti]; omega)]
        simp only [RDc, Option.bind_some, List.append_nil, List.nil_append, List.cons_append, cond_true, cond_false, if_true, if_false, ite_true, ite_false, reduceIte, IC, bI_0, bI_1, bF, Bool.not_eq_false, Bool.not_eq_true, Bool.and_true, Bool.true_and, Bool.and_false, Bool.false_and, Bool.true_or, Bool.or_true, Bool.or_false, Bool.false_or, Bool.not_true, Bool.not_false, decide_true, decide_false, not_true_eq_false, not_false_eq_true, eq_self, Bool.true_eq_false, Bool.false_eq_true, B78_77, ite_self]
        rfl
theorem C_arr (hm : m ≤ 10) : ∀ n, n ≤ 4 → ∀ s I, Ok s m → RideR s D I P N 1 ra → ∃ f, Rn X (d + n + 7) 78 0 [.ref 1, .int (Int32.ofNat n), .int b, U_, U_, U_] [] (Mh D I P N) = some ([.int (bI (arB n b s))], Mh D (u2r I 13 f) P N)
  | 0, _, s, I, ok, hr => by
    have eo := C_over (X := X) (d := d + 6) hr
    refine ⟨I 13, ?_⟩
    have h1 : Int32.ofNat 0 ≤ 0 := by decide
    rw [u2r_id, B78_0]
    simp only [RDc, Option.bind_some, List.append_nil, List.nil_append, List.cons_append, cond_true, cond_false, if_true, if_false, ite_true, ite_false, reduceIte, IC, bI_0, bI_1, bF, Bool.not_eq_false, Bool.not_eq_true, Bool.and_true, Bool.true_and, Bool.and_false, Bool.false_and, Bool.true_or, Bool.or_true, Bool.or_false, Bool.false_or, Bool.not_true, Bool.not_false, decide_true, decide_false, not_true_eq_false, not_false_eq_true, eq_self, Bool.true_eq_false, Bool.false_eq_true, hr.1.2.2.2.2.1]
    unfold arB
    by_cases hb : b ≤ s 5
    · have eo' : Rn X (d + 0 + 6) 37 0 [.ref 1] [] (Mh D I P N) = _ := eo
      simp only [hb, Option.bind_some, List.append_nil, List.nil_append, List.cons_append, cond_true, cond_false, if_true, if_false, ite_true, ite_false, reduceIte, IC, bI_0, bI_1, bF, Bool.not_eq_false, Bool.not_eq_true, Bool.and_true, Bool.true_and, Bool.and_false, Bool.false_and, Bool.true_or, Bool.or_true, Bool.or_false, Bool.false_or, Bool.not_true, Bool.not_false, decide_true, decide_false, not_true_eq_false, not_false_eq_true, eq_self, Bool.true_eq_false, Bool.false_eq_true, eo', B78_14]
      cases ovV s with
      | true => simp only [Option.bind_some, List.append_nil, List.nil_append, List.cons_append, cond_true, cond_false, if_true, if_false, ite_true, ite_false, reduceIte, IC, bI_0, bI_1, bF, Bool.not_eq_false, Bool.not_eq_true, Bool.and_true, Bool.true_and, Bool.and_false, Bool.false_and, Bool.true_or, Bool.or_true, Bool.or_false, Bool.false_or, Bool.not_true, Bool.not_false, decide_true, decide_false, not_true_eq_false, not_false_eq_true, eq_self, Bool.true_eq_false, Bool.false_eq_true]; rfl
      | false => simp only [Option.bind_some, List.append_nil, List.nil_append, List.cons_append, cond_true, cond_false, if_true, if_false, ite_true, ite_false, reduceIte, IC, bI_0, bI_1, bF, Bool.not_eq_false, Bool.not_eq_true, Bool.and_true, Bool.true_and, Bool.and_false, Bool.false_and, Bool.true_or, Bool.or_true, Bool.or_false, Bool.false_or, Bool.not_true, Bool.not_false, decide_true, decide_false, not_true_eq_false, not_false_eq_true, eq_self, Bool.true_eq_false, Bool.false_eq_true, B78_24, h1, B78_77]; rfl
    · simp only [hb, Option.bind_some, List.append_nil, List.nil_append, List.cons_append, cond_true, cond_false, if_true, if_false, ite_true, ite_false, reduceIte, IC, bI_0, bI_1, bF, Bool.not_eq_false, Bool.not_eq_true, Bool.and_true, Bool.true_and, Bool.and_false, Bool.false_and, Bool.true_or, Bool.or_true, Bool.or_false, Bool.false_or, Bool.not_true, Bool.not_false, decide_true, decide_false, not_true_eq_false, not_false_eq_true, eq_self, Bool.true_eq_false, Bool.false_eq_true]; rfl
  | n + 1, hn, s, I, ok, hr => by
    have eo := C_over (X := X) (d := d + (n + 1) + 6) hr
    rw [B78_0]
    simp only [RDc, Option.bind_some, List.append_nil, List.nil_append, List.cons_append, cond_true, cond_false, if_true, if_false, ite_true, ite_false, reduceIte, IC, bI_0, bI_1, bF, Bool.not_eq_false, Bool.not_eq_true, Bool.and_true, Bool.true_and, Bool.and_false, Bool.false_and, Bool.true_or, Bool.or_true, Bool.or_false, Bool.false_or, Bool.not_true, Bool.not_false, decide_true, decide_false, not_true_eq_false, not_false_eq_true, eq_self, Bool.true_eq_false, Bool.false_eq_true, hr.1.2.2.2.2.1]
    unfold arB
    by_cases hb : b ≤ s 5
    · simp only [hb, Option.bind_some, List.append_nil, List.nil_append, List.cons_append, cond_true, cond_false, if_true, if_false, ite_true, ite_false, reduceIte, IC, bI_0, bI_1, bF, Bool.not_eq_false, Bool.not_eq_true, Bool.and_true, Bool.true_and, Bool.and_false, Bool.false_and, Bool.true_or, Bool.or_true, Bool.or_false, Bool.false_or, Bool.not_true, Bool.not_false, decide_true, decide_false, not_true_eq_false, not_false_eq_true, eq_self, Bool.true_eq_false, Bool.false_eq_true, eo, B78_14]
      cases ovV s with
      | true => exact ⟨I 13, by rw [u2r_id]; simp only [Option.bind_some, List.append_nil, List.nil_append, List.cons_append, cond_true, cond_false, if_true, if_false, ite_true, ite_false, reduceIte, IC, bI_0, bI_1, bF, Bool.not_eq_false, Bool.not_eq_true, Bool.and_true, Bool.true_and, Bool.and_false, Bool.false_and, Bool.true_or, Bool.or_true, Bool.or_false, Bool.false_or, Bool.not_true, Bool.not_false, decide_true, decide_false, not_true_eq_false, not_false_eq_true, eq_self, Bool.true_eq_false, Bool.false_eq_true]; rfl⟩
      | false =>
        simp only [Option.bind_some, List.append_nil, List.nil_append, List.cons_append, cond_true, cond_false, if_true, if_false, ite_true, ite_false, reduceIte, IC, bI_0, bI_1, bF, Bool.not_eq_false, Bool.not_eq_true, Bool.and_true, Bool.true_and, Bool.and_false, Bool.false_and, Bool.true_or, Bool.or_true, Bool.or_false, Bool.false_or, Bool.not_true, Bool.not_false, decide_true, decide_false, not_true_eq_false, not_false_eq_true, eq_self, Bool.true_eq_false, Bool.false_eq_true]
        exact C_arr1 hm n hn (fun s I ok hr => C_arr hm n (by omega) s I ok hr) ok (ctA s) 0 I U_ hr (by omega)
    · refine ⟨I 13, ?_⟩
      rw [u2r_id]
      simp only [hb, Option.bind_some, List.append_nil, List.nil_append, List.cons_append, cond_true, cond_false, if_true, if_false, ite_true, ite_false, reduceIte, IC, bI_0, bI_1, bF, Bool.not_eq_false, Bool.not_eq_true, Bool.and_true, Bool.true_and, Bool.and_false, Bool.false_and, Bool.true_or, Bool.or_true, Bool.or_false, Bool.false_or, Bool.not_true, Bool.not_false, decide_true, decide_false, not_true_eq_false, not_false_eq_true, eq_self, Bool.true_eq_false, Bool.false_eq_true]; rfl
end ClsE
