/-! the reference: conditions, what one holds, telling -/
theorem i_nlt {x y : Int32} : (¬ x < y) = (y ≤ x) := by rw [Int32.lt_iff_toInt_lt, Int32.le_iff_toInt_le]; exact propext Int.not_lt
theorem i_nle {x y : Int32} : (¬ x ≤ y) = (y < x) := by rw [Int32.lt_iff_toInt_lt, Int32.le_iff_toInt_le]; exact propext Int.not_le
theorem iN_m1 {j : Nat} : Int32.ofNat (j + 1) + (-1) = Int32.ofNat j := by
  rw [Int32.ofNat_add, Int32.add_assoc]
  show Int32.ofNat j + (1 + -1) = _
  rw [show (1 : Int32) + -1 = 0 from rfl, Int32.add_zero]
theorem iN_p1 {j : Nat} : Int32.ofNat (j + 1) - 1 = Int32.ofNat j := iN_pred (by omega)
theorem iN_z {j : Nat} (h : j < 2147483648) : (Int32.ofNat j = 0) = (j = 0) := iN_inj (k := 0) h (by decide)
theorem iN_0le {j : Nat} (h : j < 2147483648) : (0 ≤ Int32.ofNat j) = True := by rw [Int32.le_iff_toInt_le, iN_ti h, z_ti]; exact eq_true (by omega)
/-- the reference's row s and its stack g -/
def R6 (I : Nat → Nat → Int32) (g s : Nat → Int32) : Nat → Nat → Int32 := u2r (u2r I 69 g) 66 s
section RefB
variable {X : mX} {d : Nat} {D : Nat → Nat × Nat} {I : Nat → Nat → Int32} {P : Nat → Nat → Option Nat} {N : Nat} {h : mH} {s g : Nat → Int32} {m : Int} {i j k : Nat} {x : Int32} {r : Nat → Int32} {a : Nat}
theorem u2_r {J : Nat → Nat → Int32} : u2 J a k x = u2r J a (upd (J a) k x) := by funext b; unfold u2 u2r; by_cases hb : b = a <;> simp [hb]
theorem u2r_r {J : Nat → Nat → Int32} {r' : Nat → Int32} : u2r (u2r J a r) a r' = u2r J a r' := by funext b; unfold u2r; by_cases hb : b = a <;> simp [hb]
theorem u2r_c {J : Nat → Nat → Int32} {r' : Nat → Int32} {b : Nat} (hab : a ≠ b) : u2r (u2r J a r) b r' = u2r (u2r J b r') a r := by
  funext c; unfold u2r
  by_cases h1 : c = b
  · by_cases h2 : c = a
    · omega
    · have h3 : ¬ b = a := fun e => hab e.symm
      simp [h1, h3]
  · by_cases h2 : c = a <;> simp [h1, h2]
    intro e; omega
theorem u2r_id {J : Nat → Nat → Int32} : u2r J a (J a) = J := by funext b; unfold u2r; by_cases hb : b = a <;> simp [hb]
theorem R6_66 : R6 I g s 66 = s := rfl
theorem R6_69 : R6 I g s 69 = g := rfl
theorem R6_o (h1 : a ≠ 66) (h2 : a ≠ 69) : R6 I g s a = I a := by unfold R6; rw [u2r_o h1, u2r_o h2]
theorem R6_w : u2 (R6 I g s) 66 k x = R6 I g (upd s k x) := by rw [u2_r]; unfold R6; rw [u2r_r, u2r_s]
theorem R6_wr : u2r (R6 I g s) 66 r = R6 I g r := by unfold R6; rw [u2r_r]
theorem R6_v : u2 (R6 I g s) 69 k x = R6 I (upd g k x) s := by
  rw [u2_r]; show u2r (R6 I g s) 69 (upd g k x) = _
  unfold R6; rw [u2r_c (by decide), u2r_r]
theorem R6_id : R6 I (I 69) (I 66) = I := by unfold R6; rw [u2r_id]; exact u2r_id
def stkR (g : Nat → Int32) : List Int32 → Prop
  | [] => True
  | x :: t => g t.length = x ∧ stkR g t
theorem stkR_upd : ∀ {st : List Int32}, st.length ≤ k → stkR g st → stkR (upd g k x) st
  | [], _, _ => trivial
  | y :: t, h1, h2 => by
    have h3 : t.length < k := h1
    exact ⟨by rw [upd_o (by omega)]; exact h2.1, stkR_upd (by omega) h2.2⟩
theorem stkR_last : ∀ {st : List Int32}, stkR g st → st ≠ [] → st.getLast? = some (g 0)
  | [x], h, _ => by rw [h.1.symm]; rfl
  | x :: y :: t, h, _ => by rw [List.getLast?_cons_cons]; exact stkR_last h.2 (by simp)
def endC (st : List Int32) : Bool := match st with | [] => true | st => decide (st.getLast? = some 1)
theorem rK {n : Nat} (h : j < n) (hn : n ≤ 200) : hAI 0 (Mh D I P N) 69 (Int32.ofNat j) = some (I 69 j) := by rw [rdA hN69 (n := 200) rfl rfl, mib_N (by omega) (by decide), iN_cl (by omega)]; rfl
theorem wK (h : j < 200) : hAS 0 (Mh D I P N) 69 (Int32.ofNat j) x = some (Mh D (u2 I 69 j x) P N) := by rw [wrA hN69 (n := 200) rfl rfl, mib_N h (by decide), iN_cl (by omega)]; rfl
theorem rK1 (h : j < 200) : hAI 0 (Mh D I P N) 69 (Int32.ofNat j) = some (I 69 j) := rK h (by decide)
theorem M_so' {fr : Int32} {to : Nat} (ok : Gd s m) (ha : a < 9) (hto : to ≤ 202) : ∀ k i g st st' l6, runC (fctV s a) (fun k => s (118 + k)) i k st = some st' → stkR g st → st.length ≤ 30 → i + k = to →
    ∃ g', Rn X (d + 4) 187 6 [.ref 65, .int fr, .int (Int32.ofNat to), .int (Int32.ofNat a), .int (Int32.ofNat st.length), .int (Int32.ofNat i), l6] [] (Mh D (R6 I g s) P N) = some ([.int (bI (endC st'))], Mh D (R6 I g' s) P N)
  | 0, i, g, st, st', l6, hr, hk, hl, he => by
    refine ⟨g, ?_⟩
    cases hr
    rw [B187_6, if_pos (by rw [iN_le (by omega) (by omega)]; omega)]
    simp (disch := omega) only [iN_z]
    match st, hk, hl with
    | [], _, _ =>
      rw [if_pos (show ([] : List Int32).length = 0 from rfl), B187_143, B187_148]; rfl
    | x :: t, hk, _ =>
      have e := stkR_last hk (by simp)
      rw [if_neg (by simp)]
      simp only [RDm, Option.bind_some, List.append_nil, List.nil_append, List.cons_append, cond_true, cond_false, if_true, if_false, ite_true, ite_false, reduceIte, IC, bI_0, bI_1, bF, Bool.not_eq_false, Bool.not_eq_true, Bool.and_true, Bool.true_and, Bool.and_false, Bool.false_and, Bool.true_or, Bool.or_true, Bool.or_false, Bool.false_or, Bool.not_true, Bool.not_false, decide_true, decide_false, not_true_eq_false, not_false_eq_true, eq_self, Bool.true_eq_false, Bool.false_eq_true, R6_69]
      show _ = some ([Value.int (bI (decide ((x :: t).getLast? = some 1)))], _)
      rw [e]
      by_cases h9 : g 0 = 1
      · rw [if_neg (by simp [h9]), B187_143, B187_148, h9]; rfl
      · rw [if_pos h9, B187_148]
        have h8 : ¬ some (g 0) = some 1 := fun q => h9 (Option.some.inj q)
        simp only [h8, Option.bind_some, List.append_nil, List.nil_append, List.cons_append, cond_true, cond_false, if_true, if_false, ite_true, ite_false, reduceIte, IC, bI_0, bI_1, bF, Bool.not_eq_false, Bool.not_eq_true, Bool.and_true, Bool.true_and, Bool.and_false, Bool.false_and, Bool.true_or, Bool.or_true, Bool.or_false, Bool.false_or, Bool.not_true, Bool.not_false, decide_true, decide_false, not_true_eq_false, not_false_eq_true, eq_self, Bool.true_eq_false, Bool.false_eq_true]
        rfl
  | k + 1, i, g, st, st', l6, hr, hk, hl, he => by
    rw [B187_6, if_neg (by rw [iN_le (by omega) (by omega)]; omega)]
    simp (disch := omega) only [RDm, Option.bind_some, List.append_nil, List.nil_append, List.cons_append, cond_true, cond_false, if_true, if_false, ite_true, ite_false, reduceIte, IC, bI_0, bI_1, bF, Bool.not_eq_false, Bool.not_eq_true, Bool.and_true, Bool.true_and, Bool.and_false, Bool.false_and, Bool.true_or, Bool.or_true, Bool.or_false, Bool.false_or, Bool.not_true, Bool.not_false, decide_true, decide_false, not_true_eq_false, not_false_eq_true, eq_self, Bool.true_eq_false, Bool.false_eq_true, IX, rS, R6_66]
    have hr2 : (stpC (fctV s a) (s (118 + i)) st).bind (runC (fctV s a) (fun k => s (118 + k)) (i + 1) k) = some st' := hr
    obtain ⟨st1, h1, h2⟩ := Option.bind_eq_some_iff.mp hr2
    unfold stpC at h1
    by_cases hc : -10 < s (118 + i)
    · rw [if_pos hc] at h1
      split at h1
      · next hlen =>
        cases h1
        have hc2 : ¬ s (118 + i) ≤ -10 := by rw [i_nle]; exact hc
        rw [if_neg hc2]
        simp (disch := omega) only [M_fct (I := R6 I g s) (m := m) ok ha, B187_44, B187_122, Option.bind_some, List.append_nil, List.nil_append, List.cons_append, cond_true, cond_false, if_true, if_false, ite_true, ite_false, reduceIte, IC, bI_0, bI_1, bF, Bool.not_eq_false, Bool.not_eq_true, Bool.and_true, Bool.true_and, Bool.and_false, Bool.false_and, Bool.true_or, Bool.or_true, Bool.or_false, Bool.false_or, Bool.not_true, Bool.not_false, decide_true, decide_false, not_true_eq_false, not_false_eq_true, eq_self, Bool.true_eq_false, Bool.false_eq_true, wK, R6_v, IX, R6_66]
        exact M_so' ok ha hto k (i + 1) (upd g st.length (fctV s a (s (118 + i)))) _ st' _ h2 ⟨upd_s, stkR_upd (Nat.le_refl _) hk⟩ (by rw [List.length_cons]; omega) (by omega)
      · cases h1
    · rw [if_neg hc] at h1
      have hc2 : s (118 + i) ≤ -10 := by rw [← i_nlt]; exact hc
      rw [if_pos hc2]
      by_cases hn : s (118 + i) = -20
      · rw [if_pos hn] at h1
        rw [if_neg (by simpa using hn)]
        match st, h1, hk, hl with
        | x :: t, h1, hk, hl =>
          cases h1
          have hl2 : t.length < 30 := hl
          simp (disch := omega) only [List.length_cons, iN_p1, rK1, B187_122, Option.bind_some, List.append_nil, List.nil_append, List.cons_append, cond_true, cond_false, if_true, if_false, ite_true, ite_false, reduceIte, IC, bI_0, bI_1, bF, Bool.not_eq_false, Bool.not_eq_true, Bool.and_true, Bool.true_and, Bool.and_false, Bool.false_and, Bool.true_or, Bool.or_true, Bool.or_false, Bool.false_or, Bool.not_true, Bool.not_false, decide_true, decide_false, not_true_eq_false, not_false_eq_true, eq_self, Bool.true_eq_false, Bool.false_eq_true, wK, R6_v, IX, R6_69]
          rw [hk.1]
          exact M_so' ok ha hto k (i + 1) (upd g t.length (1 - x)) _ st' _ h2 ⟨upd_s, stkR_upd (Nat.le_refl _) hk.2⟩ hl (by omega)
      · rw [if_neg hn] at h1
        rw [if_pos (by simpa using hn)]
        match st, h1, hk, hl with
        | y :: x :: t, h1, hk, hl =>
          cases h1
          have hl2 : t.length + 1 < 30 := hl
          simp (disch := omega) only [List.length_cons, iN_m1, iN_p1, rK1, Option.bind_some, List.append_nil, List.nil_append, List.cons_append, cond_true, cond_false, if_true, if_false, ite_true, ite_false, reduceIte, IC, bI_0, bI_1, bF, Bool.not_eq_false, Bool.not_eq_true, Bool.and_true, Bool.true_and, Bool.and_false, Bool.false_and, Bool.true_or, Bool.or_true, Bool.or_false, Bool.false_or, Bool.not_true, Bool.not_false, decide_true, decide_false, not_true_eq_false, not_false_eq_true, eq_self, Bool.true_eq_false, Bool.false_eq_true, M_hld, B187_113, R6_69]
          have e1 : g (t.length + 1) = y := hk.1
          have e2 : g t.length = x := hk.2.1
          rw [e1, e2]
          cases hb : hldC (s (118 + i)) x y with
          | false =>
            rw [if_pos rfl, B187_121]
            simp (disch := omega) only [wK, R6_v, Option.bind_some, List.append_nil, List.nil_append, List.cons_append, cond_true, cond_false, if_true, if_false, ite_true, ite_false, reduceIte, IC, bI_0, bI_1, bF, Bool.not_eq_false, Bool.not_eq_true, Bool.and_true, Bool.true_and, Bool.and_false, Bool.false_and, Bool.true_or, Bool.or_true, Bool.or_false, Bool.false_or, Bool.not_true, Bool.not_false, decide_true, decide_false, not_true_eq_false, not_false_eq_true, eq_self, Bool.true_eq_false, Bool.false_eq_true, B187_122, IX]
            rw [hb] at h2
            exact M_so' ok ha hto k (i + 1) (upd g t.length 0) (bI false :: t) st' _ h2 ⟨upd_s, stkR_upd (Nat.le_refl _) hk.2.2⟩ (by simp at hl ⊢; omega) (by omega)
          | true =>
            rw [if_neg (by simp), B187_121]
            simp (disch := omega) only [wK, R6_v, Option.bind_some, List.append_nil, List.nil_append, List.cons_append, cond_true, cond_false, if_true, if_false, ite_true, ite_false, reduceIte, IC, bI_0, bI_1, bF, Bool.not_eq_false, Bool.not_eq_true, Bool.and_true, Bool.true_and, Bool.and_false, Bool.false_and, Bool.true_or, Bool.or_true, Bool.or_false, Bool.false_or, Bool.not_true, Bool.not_false, decide_true, decide_false, not_true_eq_false, not_false_eq_true, eq_self, Bool.true_eq_false, Bool.false_eq_true, B187_122, IX]
            rw [hb] at h2
            exact M_so' ok ha hto k (i + 1) (upd g t.length 1) (bI true :: t) st' _ h2 ⟨upd_s, stkR_upd (Nat.le_refl _) hk.2.2⟩ (by simp at hl ⊢; omega) (by omega)
theorem M_so {f t : Nat} {st : List Int32} (ok : Gd s m) (ha : a < 9) (ht : t ≤ 202) (hf : f ≤ t) (hr : runC (fctV s a) (fun k => s (118 + k)) f (t - f) [] = some st) :
    ∃ g', Rn X (d + 4) 187 0 [.ref 65, .int (Int32.ofNat f), .int (Int32.ofNat t), .int (Int32.ofNat a), U_, U_, U_] [] (Mh D (R6 I g s) P N) = some ([.int (bI (soV s f t a))], Mh D (R6 I g' s) P N) := by
  obtain ⟨g', hg⟩ := M_so' (X := X) (d := d) (D := D) (I := I) (P := P) (N := N) (fr := Int32.ofNat f) ok ha ht (t - f) f g [] st U_ hr trivial (by simp) (by omega)
  refine ⟨g', ?_⟩
  rw [B187_0]
  refine Eq.trans hg ?_
  unfold soV
  rw [hr]
  cases st <;> rfl
end RefB
