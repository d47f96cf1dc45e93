/-! the class reads conditions -/
theorem stpR_snoc {r5 r6 r7 s5 s6 s7 : Nat → Int32} {t : pSt} : ∀ (A : List pSt) (i : Nat), stpR r5 r6 r7 i A → (∀ j, i ≤ j → j < i + A.length → s5 j = r5 j ∧ s6 j = r6 j ∧ s7 j = r7 j) → stOK t → (s5 (i + A.length) = t.1 ∧ s6 (i + A.length) = t.2.1 ∧ s7 (i + A.length) = t.2.2) → stpR s5 s6 s7 i (A ++ [t])
  | [], i, _, _, ht, h => ⟨h, ht, trivial⟩
  | u :: A, i, h, he, ht, hx => by
    obtain ⟨⟨h1, h2, h3⟩, h4, h5⟩ := h
    obtain ⟨e1, e2, e3⟩ := he i (Nat.le_refl _) (by simp)
    refine ⟨⟨e1.trans h1, e2.trans h2, e3.trans h3⟩, h4, stpR_snoc A (i + 1) h5 (fun j q1 q2 => he j (by omega) (by simp; omega)) ht ?_⟩
    rw [show i + 1 + A.length = i + (u :: A).length by simp; omega]
    exact hx
def CE (D : Nat → Nat × Nat) (P : Nat → Nat → Option Nat) (N : Nat) (J : Nat → Nat → Int32) (b : Nat → Int32) (n : Nat) (T0 : List Nat) (q : Nat) : Prop := P 36 7 = some q ∧ RAt D N q ∧ 80 ≤ q ∧ TkR J b n T0 ∧ T0.length ≤ 200 ∧ n ≤ 200
def CF (J K : Nat → Nat → Int32) (T0 : List Nat) (q : Nat) (T : List Nat) : Prop :=
  ((∀ c, c ≠ 36 → (c < q ∨ q + 7 < c) → K c = J c) ∧ (∀ k, k ≠ 6 → K 36 k = J 36 k)) ∧ ∃ pre, T0 = pre ++ T ∧ K 36 6 = Int32.ofNat pre.length
def CQ (J K : Nat → Nat → Int32) (T0 : List Nat) (q : Nat) (T : List Nat) (A : List pSt) : Prop :=
  CF J K T0 q T ∧ (K q 8 = Int32.ofNat A.length ∧ stpR (K (q + 5)) (K (q + 6)) (K (q + 7)) 0 A) ∧ K q 0 = J q 0 ∧ ∀ j, 1 ≤ j → j ≤ 4 → K (q + j) = J (q + j)
def CR (J K : Nat → Nat → Int32) (T0 : List Nat) (q : Nat) (r : pRs) (B : List pSt) : Prop := (r.1 = true → CQ J K T0 q r.2.1 (B ++ r.2.2)) ∧ (r.1 = false → CF J K T0 q r.2.1)
section ClsR
variable {X : mX} {d : Nat} {D : Nat → Nat × Nat} {I : Nat → Nat → Int32} {P : Nat → Nat → Option Nat} {N : Nat} {h : mH} {b : Nat → Int32} {J K K' : Nat → Nat → Int32} {n i j k p o m l s q r : Nat} {c x a y z : Int32} {T T0 : List Nat} {A B : List pSt} {u : pSt}
theorem wR100 (h : RAt D N q) (h1 : 5 ≤ j) (h2 : j ≤ 7) (hi : i < 100) : hAS 0 (Mh D I P N) (q + j) (Int32.ofNat i) x = some (Mh D (u2 I (q + j) i x) P N) := by
  rw [wrA (by have := h.2.1; omega) (h.2.2.2.2 j h1 h2) rfl, mib_N hi (by decide), iN_cl (by omega)]; rfl
theorem wR8 (h : RAt D N q) (h1 : 1 ≤ j) (h2 : j ≤ 4) (hi : i < 8) : hAS 0 (Mh D I P N) (q + j) (Int32.ofNat i) x = some (Mh D (u2 I (q + j) i x) P N) := by
  rw [wrA (by have := h.2.1; omega) (h.2.2.2.1 j h1 h2) rfl, mib_N hi (by decide), iN_cl (by omega)]; rfl
theorem wR5 (h : RAt D N q) : hFS (Mh D I P N) q 8 [5] (.int x) = some (Mh D (u2 I q 8 x) P N) ∧ hFS (Mh D I P N) q 0 [5] (.int x) = some (Mh D (u2 I q 0 x) P N) := by
  have hl : q < 80 + N := by have := h.2.1; omega
  exact ⟨wrI hl h.2.2.1 rfl, wrI hl h.2.2.1 rfl⟩
theorem CF.tk (he : CE D P N J b n T0 q) (h : CF J K T0 q T) : K 36 5 = Int32.ofNat T0.length ∧ K 38 = J 38 ∧ K 39 = J 39 ∧ K 40 = J 40 := by
  have h8 := he.2.2.1
  exact ⟨(h.1.2 5 (by decide)).trans he.2.2.2.1.1, h.1.1 38 (by decide) (by omega), h.1.1 39 (by decide) (by omega), h.1.1 40 (by decide) (by omega)⟩
theorem K2_tok (he : CE D P N J b n T0 q) (h : CF J K T0 q T) : Rn X d 59 0 [.ref 36] [] (Mh D K P N) = some ([.int (hS b n T)], Mh D K P N) := by
  obtain ⟨t5, t38, -, -⟩ := h.tk he
  obtain ⟨-, pre, hp, h6⟩ := h
  have hl := he.2.2.2.2.1
  have hpl : pre.length + T.length = T0.length := by rw [hp, List.length_append]
  have n0 : ¬ Int32.ofNat pre.length < 0 := iN_neg (by omega)
  simp only [B59_0, RDc, h6, t5, n0, Option.bind_some, List.append_nil, List.nil_append, List.cons_append, cond_true, cond_false, if_true, if_false, ite_true, ite_false, reduceIte, IC, bI_0, bI_1, bF, Bool.not_eq_false, Bool.not_eq_true, Bool.and_true, Bool.true_and, Bool.and_false, Bool.false_and, Bool.true_or, Bool.or_true, Bool.or_false, Bool.false_or, Bool.not_true, Bool.not_false, decide_true, decide_false, not_true_eq_false, not_false_eq_true, eq_self, Bool.true_eq_false, Bool.false_eq_true]
  cases T with
  | nil =>
    have h0 : ([] : List Nat).length = 0 := rfl
    have hle : Int32.ofNat T0.length ≤ Int32.ofNat pre.length := by rw [iN_le (by omega) (by omega)]; omega
    simp only [hle, Option.bind_some, List.append_nil, List.nil_append, List.cons_append, cond_true, cond_false, if_true, if_false, ite_true, ite_false, reduceIte, IC, bI_0, bI_1, bF, Bool.not_eq_false, Bool.not_eq_true, Bool.and_true, Bool.true_and, Bool.and_false, Bool.false_and, Bool.true_or, Bool.or_true, Bool.or_false, Bool.false_or, Bool.not_true, Bool.not_false, decide_true, decide_false, not_true_eq_false, not_false_eq_true, eq_self, Bool.true_eq_false, Bool.false_eq_true, B59_40, B59_42]
    rfl
  | cons p T =>
    have hlen : (p :: T).length = T.length + 1 := rfl
    have hle : ¬ Int32.ofNat T0.length ≤ Int32.ofNat pre.length := by rw [iN_le (by omega) (by omega)]; omega
    have h200 : ¬ (200 : Int32) ≤ Int32.ofNat pre.length := le_n (l := 200) (n := 200) rfl (by omega) (by omega) (by omega)
    have hm := mib_N (j := pre.length) (n := 200) (by omega) (by decide)
    have e0 : (Int32.ofNat pre.length).toNatClampNeg = pre.length := iN_cl (by omega)
    have hat : T0[pre.length]? = some p := by rw [hp, List.getElem?_append_right (Nat.le_refl _), Nat.sub_self]; rfl
    have hv := (he.2.2.2.1.2 _ _ hat).1
    simp only [hle, h200, hm, e0, t38, hv, Option.bind_some, List.append_nil, List.nil_append, List.cons_append, cond_true, cond_false, if_true, if_false, ite_true, ite_false, reduceIte, IC, bI_0, bI_1, bF, Bool.not_eq_false, Bool.not_eq_true, Bool.and_true, Bool.true_and, Bool.and_false, Bool.false_and, Bool.true_or, Bool.or_true, Bool.or_false, Bool.false_or, Bool.not_true, Bool.not_false, decide_true, decide_false, not_true_eq_false, not_false_eq_true, eq_self, Bool.true_eq_false, Bool.false_eq_true, RDc, h6, B59_42]
    rfl
theorem K2_vlu (he : CE D P N J b n T0 q) (h : CF J K T0 q T) : Rn X d 60 0 [.ref 36] [] (Mh D K P N) = some ([.int (hV b n T)], Mh D K P N) := by
  obtain ⟨t5, -, t39, -⟩ := h.tk he
  obtain ⟨-, pre, hp, h6⟩ := h
  have hl := he.2.2.2.2.1
  have hpl : pre.length + T.length = T0.length := by rw [hp, List.length_append]
  have n0 : ¬ Int32.ofNat pre.length < 0 := iN_neg (by omega)
  simp only [B60_0, RDc, h6, t5, n0, Option.bind_some, List.append_nil, List.nil_append, List.cons_append, cond_true, cond_false, if_true, if_false, ite_true, ite_false, reduceIte, IC, bI_0, bI_1, bF, Bool.not_eq_false, Bool.not_eq_true, Bool.and_true, Bool.true_and, Bool.and_false, Bool.false_and, Bool.true_or, Bool.or_true, Bool.or_false, Bool.false_or, Bool.not_true, Bool.not_false, decide_true, decide_false, not_true_eq_false, not_false_eq_true, eq_self, Bool.true_eq_false, Bool.false_eq_true]
  cases T with
  | nil =>
    have h0 : ([] : List Nat).length = 0 := rfl
    have hle : Int32.ofNat T0.length ≤ Int32.ofNat pre.length := by rw [iN_le (by omega) (by omega)]; omega
    simp only [hle, Option.bind_some, List.append_nil, List.nil_append, List.cons_append, cond_true, cond_false, if_true, if_false, ite_true, ite_false, reduceIte, IC, bI_0, bI_1, bF, Bool.not_eq_false, Bool.not_eq_true, Bool.and_true, Bool.true_and, Bool.and_false, Bool.false_and, Bool.true_or, Bool.or_true, Bool.or_false, Bool.false_or, Bool.not_true, Bool.not_false, decide_true, decide_false, not_true_eq_false, not_false_eq_true, eq_self, Bool.true_eq_false, Bool.false_eq_true, B60_40, B60_41]
    rfl
  | cons p T =>
    have hlen : (p :: T).length = T.length + 1 := rfl
    have hle : ¬ Int32.ofNat T0.length ≤ Int32.ofNat pre.length := by rw [iN_le (by omega) (by omega)]; omega
    have h200 : ¬ (200 : Int32) ≤ Int32.ofNat pre.length := le_n (l := 200) (n := 200) rfl (by omega) (by omega) (by omega)
    have hm := mib_N (j := pre.length) (n := 200) (by omega) (by decide)
    have e0 : (Int32.ofNat pre.length).toNatClampNeg = pre.length := iN_cl (by omega)
    have hat : T0[pre.length]? = some p := by rw [hp, List.getElem?_append_right (Nat.le_refl _), Nat.sub_self]; rfl
    have hv := (he.2.2.2.1.2 _ _ hat).2.1
    simp only [hle, h200, hm, e0, t39, hv, Option.bind_some, List.append_nil, List.nil_append, List.cons_append, cond_true, cond_false, if_true, if_false, ite_true, ite_false, reduceIte, IC, bI_0, bI_1, bF, Bool.not_eq_false, Bool.not_eq_true, Bool.and_true, Bool.true_and, Bool.and_false, Bool.false_and, Bool.true_or, Bool.or_true, Bool.or_false, Bool.false_or, Bool.not_true, Bool.not_false, decide_true, decide_false, not_true_eq_false, not_false_eq_true, eq_self, Bool.true_eq_false, Bool.false_eq_true, RDc, h6, B60_41]
    rfl
/-- one token on -/
theorem CF.adv (h : CF J K T0 q T) (hne : T ≠ []) : ∃ x, K 36 6 = x ∧ CF J (u2 K 36 6 (x + 1)) T0 q T.tail := by
  obtain ⟨⟨f1, f2⟩, pre, hp, h6⟩ := h
  cases T with
  | nil => exact absurd rfl hne
  | cons p T =>
    refine ⟨_, rfl, ⟨fun c h1 h2 => by rw [u2_o h1]; exact f1 c h1 h2, fun k hk => by rw [u2_s, upd_o hk]; exact f2 k hk⟩, pre ++ [p], ?_, ?_⟩
    · rw [hp, List.append_assoc]; rfl
    · rw [u2_s, upd_s, h6, List.length_append, iN_succ]; rfl
theorem CQ.adv (he : CE D P N J b n T0 q) (h : CQ J K T0 q T A) (hne : T ≠ []) : ∃ x, K 36 6 = x ∧ CQ J (u2 K 36 6 (x + 1)) T0 q T.tail A := by
  have h8 := he.2.2.1
  obtain ⟨hf, ⟨q1, q2⟩, q3, q4⟩ := h
  obtain ⟨x, e, hf2⟩ := hf.adv hne
  have o : ∀ j, u2 K 36 6 (x + 1) (q + j) = K (q + j) := fun j => u2_o (by omega)
  refine ⟨x, e, hf2, ⟨by rw [show q = q + 0 from rfl, o 0]; exact q1, by rw [o 5, o 6, o 7]; exact q2⟩, by rw [show q = q + 0 from rfl, o 0]; exact q3, fun j h1 h2 => by rw [o j]; exact q4 j h1 h2⟩
def adW (K : Nat → Nat → Int32) (q m : Nat) (u : pSt) : Nat → Nat → Int32 := u2 (u2 (u2 (u2 K (q + 5) m u.1) (q + 6) m u.2.1) (q + 7) m u.2.2) q 8 (Int32.ofNat (m + 1))
theorem K2_add (he : CE D P N J b n T0 q) (h : CQ J K T0 q T A) (hl : A.length < 100) (hu : stOK u) : Rn X d 71 0 [.ref q, .int u.1, .int u.2.1, .int u.2.2] [] (Mh D K P N) = some ([], Mh D (adW K q A.length u) P N) ∧ CQ J (adW K q A.length u) T0 q T (A ++ [u]) := by
  have h8 := he.2.2.1
  have hR := he.2.1
  obtain ⟨⟨⟨f1, f2⟩, pre, hp, h6⟩, ⟨q1, q2⟩, q3, q4⟩ := h
  have n100 : ¬ (100 : Int32) ≤ Int32.ofNat A.length := le_n (l := 100) (n := 100) rfl (by omega) (by omega) hl
  have r1 : u2 K (q + 5) A.length u.1 q 8 = Int32.ofNat A.length := by rw [u2_o (by omega)]; exact q1
  have r2 : u2 (u2 K (q + 5) A.length u.1) (q + 6) A.length u.2.1 q 8 = Int32.ofNat A.length := by rw [u2_o (by omega), u2_o (by omega)]; exact q1
  have r3 : u2 (u2 (u2 K (q + 5) A.length u.1) (q + 6) A.length u.2.1) (q + 7) A.length u.2.2 q 8 = Int32.ofNat A.length := by rw [u2_o (by omega), u2_o (by omega), u2_o (by omega)]; exact q1
  have o : ∀ c, c ≠ q → c ≠ q + 5 → c ≠ q + 6 → c ≠ q + 7 → adW K q A.length u c = K c := fun c h1 h2 h3 h4 => by
    unfold adW; rw [u2_o h1, u2_o h4, u2_o h3, u2_o h2]
  have e5 : adW K q A.length u (q + 5) = upd (K (q + 5)) A.length u.1 := by
    unfold adW; rw [u2_o (by omega), u2_o (by omega), u2_o (by omega), u2_s]
  have e6 : adW K q A.length u (q + 6) = upd (K (q + 6)) A.length u.2.1 := by
    unfold adW; rw [u2_o (by omega), u2_o (by omega), u2_s, u2_o (by omega)]
  have e7 : adW K q A.length u (q + 7) = upd (K (q + 7)) A.length u.2.2 := by
    unfold adW; rw [u2_o (by omega), u2_s, u2_o (by omega), u2_o (by omega)]
  have e0 : ∀ j, j ≠ 8 → adW K q A.length u q j = K q j := fun j hj => by
    unfold adW; rw [u2_s, upd_o hj, u2_o (by omega), u2_o (by omega), u2_o (by omega)]
  have e8 : adW K q A.length u q 8 = Int32.ofNat (A.length + 1) := by unfold adW; rw [u2_s, upd_s]
  refine ⟨?_, ⟨⟨fun c h1 h2 => by rw [o c (by omega) (by omega) (by omega) (by omega)]; exact f1 c h1 h2, fun k hk => by rw [o 36 (by omega) (by omega) (by omega) (by omega)]; exact f2 k hk⟩, pre, hp, by rw [o 36 (by omega) (by omega) (by omega) (by omega)]; exact h6⟩, ⟨by rw [e8, List.length_append]; rfl, ?_⟩, by rw [e0 0 (by decide)]; exact q3, fun j h1 h2 => by rw [o (q + j) (by omega) (by omega) (by omega) (by omega)]; exact q4 j h1 h2⟩
  · simp only [B71_0, rdR5 hR, q1, n100, Option.bind_some, List.append_nil, List.nil_append, List.cons_append, cond_true, cond_false, if_true, if_false, ite_true, ite_false, reduceIte, IC, bI_0, bI_1, bF, Bool.not_eq_false, Bool.not_eq_true, Bool.and_true, Bool.true_and, Bool.and_false, Bool.false_and, Bool.true_or, Bool.or_true, Bool.or_false, Bool.false_or, Bool.not_true, Bool.not_false, decide_true, decide_false, not_true_eq_false, not_false_eq_true, eq_self, Bool.true_eq_false, Bool.false_eq_true, wR100 hR (show 5 ≤ 5 by omega) (show 5 ≤ 7 by omega) hl, r1, wR100 hR (show 5 ≤ 6 by omega) (show 6 ≤ 7 by omega) hl, r2, wR100 hR (show 5 ≤ 7 by omega) (show 7 ≤ 7 by omega) hl, r3, wR5 hR, IX, B71_49]
    rfl
  · rw [e5, e6, e7]
    refine stpR_snoc A 0 q2 (fun j h1 h2 => ?_) hu ?_
    · rw [upd_o (by omega), upd_o (by omega), upd_o (by omega)]; exact ⟨rfl, rfl, rfl⟩
    · rw [Nat.zero_add, upd_s, upd_s, upd_s]; exact ⟨rfl, rfl, rfl⟩
theorem K2_isv : Rn X d 58 0 [.int x] [] h = some ([.int (bI (isV x))], h) := by
  have e13 : (13 : Int32).toInt = 13 := rfl
  have e17 : (17 : Int32).toInt = 17 := rfl
  unfold isV
  by_cases h18 : x = 18
  · subst h18; simp only [B58_0, Option.bind_some, List.append_nil, List.nil_append, List.cons_append, cond_true, cond_false, if_true, if_false, ite_true, ite_false, reduceIte, IC, bI_0, bI_1, bF, Bool.not_eq_false, Bool.not_eq_true, Bool.and_true, Bool.true_and, Bool.and_false, Bool.false_and, Bool.true_or, Bool.or_true, Bool.or_false, Bool.false_or, Bool.not_true, Bool.not_false, decide_true, decide_false, not_true_eq_false, not_false_eq_true, eq_self, Bool.true_eq_false, Bool.false_eq_true, B58_18, B58_23]; rfl
  · rw [decide_eq_false h18, Bool.false_or]
    cases hb : bt x 13 17 with
    | true =>
      have h1 := bt_iff.mp hb
      have q1 : ¬ x < 13 := by rw [Int32.lt_iff_toInt_lt, e13]; omega
      have q2 : ¬ (17 : Int32) < x := by rw [Int32.lt_iff_toInt_lt, e17]; omega
      simp only [B58_0, h18, q1, q2, Option.bind_some, List.append_nil, List.nil_append, List.cons_append, cond_true, cond_false, if_true, if_false, ite_true, ite_false, reduceIte, IC, bI_0, bI_1, bF, Bool.not_eq_false, Bool.not_eq_true, Bool.and_true, Bool.true_and, Bool.and_false, Bool.false_and, Bool.true_or, Bool.or_true, Bool.or_false, Bool.false_or, Bool.not_true, Bool.not_false, decide_true, decide_false, not_true_eq_false, not_false_eq_true, eq_self, Bool.true_eq_false, Bool.false_eq_true, B58_18, B58_23]; rfl
    | false =>
      have h1 := bt_no.mp hb
      by_cases q1 : x < 13
      · simp only [B58_0, h18, q1, Option.bind_some, List.append_nil, List.nil_append, List.cons_append, cond_true, cond_false, if_true, if_false, ite_true, ite_false, reduceIte, IC, bI_0, bI_1, bF, Bool.not_eq_false, Bool.not_eq_true, Bool.and_true, Bool.true_and, Bool.and_false, Bool.false_and, Bool.true_or, Bool.or_true, Bool.or_false, Bool.false_or, Bool.not_true, Bool.not_false, decide_true, decide_false, not_true_eq_false, not_false_eq_true, eq_self, Bool.true_eq_false, Bool.false_eq_true, B58_22, B58_23]; rfl
      · have q2 : (17 : Int32) < x := by
          rw [Int32.lt_iff_toInt_lt, e13] at q1
          rw [Int32.lt_iff_toInt_lt, e17]; omega
        simp only [B58_0, h18, q1, q2, Option.bind_some, List.append_nil, List.nil_append, List.cons_append, cond_true, cond_false, if_true, if_false, ite_true, ite_false, reduceIte, IC, bI_0, bI_1, bF, Bool.not_eq_false, Bool.not_eq_true, Bool.and_true, Bool.true_and, Bool.and_false, Bool.false_and, Bool.true_or, Bool.or_true, Bool.or_false, Bool.false_or, Bool.not_true, Bool.not_false, decide_true, decide_false, not_true_eq_false, not_false_eq_true, eq_self, Bool.true_eq_false, Bool.false_eq_true, B58_22, B58_23]; rfl
theorem K2_cmp (he : CE D P N J b n T0 q) (h : CQ J K T0 q T (B ++ A)) (g : Gt b n T) (hl : 2 * (B.length + A.length) ≤ hP n T) : ∃ K', Rn X (d + 1) 57 0 [.ref 36, U_, U_] [] (Mh D K P N) = some ([.int (bI (cmpP (hS b n) (hV b n) T A).1)], Mh D K' P N) ∧ CR J K' T0 q (cmpP (hS b n) (hV b n) T A) B := by
  have hn := he.2.2.2.2.2
  have g1 := gt_tl g
  have g2 := gt_tl g1
  have p1 := gt_P g
  have p2 := gt_P g1
  have p3 := gt_P g2
  have n10 : ¬ (1 : Int32) = 0 := by decide
  unfold cmpP
  simp only [B57_0, IC, K2_tok he h.1, Option.bind_some, List.append_nil, List.nil_append, List.cons_append, cond_true, cond_false, if_true, if_false, ite_true, ite_false, reduceIte, IC, bI_0, bI_1, bF, Bool.not_eq_false, Bool.not_eq_true, Bool.and_true, Bool.true_and, Bool.and_false, Bool.false_and, Bool.true_or, Bool.or_true, Bool.or_false, Bool.false_or, Bool.not_true, Bool.not_false, decide_true, decide_false, not_true_eq_false, not_false_eq_true, eq_self, Bool.true_eq_false, Bool.false_eq_true, B57_4, K2_isv, B57_7]
  cases hv1 : isV (hS b n T) with
  | false => exact ⟨K, by simp only [Option.bind_some, List.append_nil, List.nil_append, List.cons_append, cond_true, cond_false, if_true, if_false, ite_true, ite_false, reduceIte, IC, bI_0, bI_1, bF, Bool.not_eq_false, Bool.not_eq_true, Bool.and_true, Bool.true_and, Bool.and_false, Bool.false_and, Bool.true_or, Bool.or_true, Bool.or_false, Bool.false_or, Bool.not_true, Bool.not_false, decide_true, decide_false, not_true_eq_false, not_false_eq_true, eq_self, Bool.true_eq_false, Bool.false_eq_true]; rfl, fun q => (by cases q), fun _ => h.1⟩
  | true =>
    have r1 := p1.2.2 (isV_n hv1)
    obtain ⟨x1, e1, h1⟩ := h.adv he (isV_n hv1)
    simp only [Option.bind_some, List.append_nil, List.nil_append, List.cons_append, cond_true, cond_false, if_true, if_false, ite_true, ite_false, reduceIte, IC, bI_0, bI_1, bF, Bool.not_eq_false, Bool.not_eq_true, Bool.and_true, Bool.true_and, Bool.and_false, Bool.false_and, Bool.true_or, Bool.or_true, Bool.or_false, Bool.false_or, Bool.not_true, Bool.not_false, decide_true, decide_false, not_true_eq_false, not_false_eq_true, eq_self, Bool.true_eq_false, Bool.false_eq_true, IC, K2_vlu he h.1, B57_16, RDc, e1, WRc, K2_tok he h1.1, B57_31]
    cases hg : isG (hS b n T.tail) with
    | false =>
      have c60 : ¬ hS b n T.tail = 60 := fun e => by rw [e] at hg; exact absurd hg (by decide)
      have c61 : ¬ hS b n T.tail = 61 := fun e => by rw [e] at hg; exact absurd hg (by decide)
      have c62 : ¬ hS b n T.tail = 62 := fun e => by rw [e] at hg; exact absurd hg (by decide)
      exact ⟨u2 K 36 6 (x1 + 1), by simp only [c60, c61, c62, Option.bind_some, List.append_nil, List.nil_append, List.cons_append, cond_true, cond_false, if_true, if_false, ite_true, ite_false, reduceIte, IC, bI_0, bI_1, bF, Bool.not_eq_false, Bool.not_eq_true, Bool.and_true, Bool.true_and, Bool.and_false, Bool.false_and, Bool.true_or, Bool.or_true, Bool.or_false, Bool.false_or, Bool.not_true, Bool.not_false, decide_true, decide_false, not_true_eq_false, not_false_eq_true, eq_self, Bool.true_eq_false, Bool.false_eq_true]; rfl, fun q => (by cases q), fun _ => h1.1⟩
    | true =>
      have r2 := p2.2.2 (isG_n hg)
      obtain ⟨x2, e2, h2⟩ := h1.adv he (isG_n hg)
      have to52 : ∀ h, (if hS b n T.tail = 60 then Rn X (d + 1) 57 52 [.ref 36, .int (hV b n T), .int (hS b n T.tail)] [] h else if hS b n T.tail = 61 then Rn X (d + 1) 57 52 [.ref 36, .int (hV b n T), .int (hS b n T.tail)] [] h else if hS b n T.tail = 62 then Rn X (d + 1) 57 52 [.ref 36, .int (hV b n T), .int (hS b n T.tail)] [] h else some ([.int 0], h)) = Rn X (d + 1) 57 52 [.ref 36, .int (hV b n T), .int (hS b n T.tail)] [] h := by
        intro h
        rcases isG_c hg with e | e | e
        · rw [if_pos e]
        · rw [if_neg (by rw [e]; decide), if_pos e]
        · rw [if_neg (by rw [e]; decide), if_neg (by rw [e]; decide), if_pos e]
      rw [to52]
      generalize u2 K 36 6 (x1 + 1) = K1 at h1 e2 h2 ⊢
      simp only [B57_52, RDc, e2, WRc, Option.bind_some, List.append_nil, List.nil_append, List.cons_append, cond_true, cond_false, if_true, if_false, ite_true, ite_false, reduceIte, IC, bI_0, bI_1, bF, Bool.not_eq_false, Bool.not_eq_true, Bool.and_true, Bool.true_and, Bool.and_false, Bool.false_and, Bool.true_or, Bool.or_true, Bool.or_false, Bool.false_or, Bool.not_true, Bool.not_false, decide_true, decide_false, not_true_eq_false, not_false_eq_true, eq_self, Bool.true_eq_false, Bool.false_eq_true, IC, K2_tok he h2.1, B57_66, K2_isv, B57_69]
      cases hv3 : isV (hS b n T.tail.tail) with
      | false => exact ⟨u2 K1 36 6 (x2 + 1), by simp only [Option.bind_some, List.append_nil, List.nil_append, List.cons_append, cond_true, cond_false, if_true, if_false, ite_true, ite_false, reduceIte, IC, bI_0, bI_1, bF, Bool.not_eq_false, Bool.not_eq_true, Bool.and_true, Bool.true_and, Bool.and_false, Bool.false_and, Bool.true_or, Bool.or_true, Bool.or_false, Bool.false_or, Bool.not_true, Bool.not_false, decide_true, decide_false, not_true_eq_false, not_false_eq_true, eq_self, Bool.true_eq_false, Bool.false_eq_true]; rfl, fun q => (by cases q), fun _ => h2.1⟩
      | true =>
        have r3 := p3.2.2 (isV_n hv3)
        have hst : stOK (hS b n T.tail, hV b n T, hV b n T.tail.tail) := Or.inr (Or.inr (Or.inr ⟨isG_c hg, hV_b hv1, hV_b hv3⟩))
        have hR := he.2.1
        generalize u2 K1 36 6 (x2 + 1) = K2 at h2 ⊢
        obtain ⟨e3, h3⟩ := K2_add (X := X) (d := d) (u := (hS b n T.tail, hV b n T, hV b n T.tail.tail)) he h2 (by rw [List.length_append]; omega) hst
        obtain ⟨x4, e4, h4⟩ := h3.adv he (isV_n hv3)
        generalize adW K2 q (B ++ A).length (hS b n T.tail, hV b n T, hV b n T.tail.tail) = K3 at e3 h3 e4 h4
        refine ⟨u2 K3 36 6 (x4 + 1), ?_, fun _ => ?_, fun q => (by cases q)⟩
        · simp only [Option.bind_some, List.append_nil, List.nil_append, List.cons_append, cond_true, cond_false, if_true, if_false, ite_true, ite_false, reduceIte, IC, bI_0, bI_1, bF, Bool.not_eq_false, Bool.not_eq_true, Bool.and_true, Bool.true_and, Bool.and_false, Bool.false_and, Bool.true_or, Bool.or_true, Bool.or_false, Bool.false_or, Bool.not_true, Bool.not_false, decide_true, decide_false, not_true_eq_false, not_false_eq_true, eq_self, Bool.true_eq_false, Bool.false_eq_true, RDc, he.1, IC, K2_vlu he h2.1, B57_84, rdR5 hR, e3, B57_87, e4, WRc]
          rfl
        · rw [List.append_assoc] at h4
          exact h4
theorem K2_nt (he : CE D P N J b n T0 q) : ∀ T k (f : Bool) (K : Nat → Nat → Int32), CQ J K T0 q T A → k + T.length < 200 → ∃ K' k', Rn X (d + 1) 55 4 [.ref 36, .int y, .int (bI f), .int (Int32.ofNat k)] [] (Mh D K P N) = Rn X (d + 1) 55 46 [.ref 36, .int y, .int (bI (notP (hS b n) f T).1), .int k'] [] (Mh D K' P N) ∧ CQ J K' T0 q (notP (hS b n) f T).2 A
  | [], k, f, K, h, hk => by
    have h12 : ¬ hS b n [] = 12 := by show ¬ (19 : Int32) = 12; decide
    have hk2 : ¬ (200 : Int32) ≤ Int32.ofNat k := le_n (l := 200) (n := 200) rfl (by omega) (by omega) (by simp at hk; omega)
    refine ⟨K, Int32.ofNat k, ?_, h⟩
    rw [B55_4, if_neg hk2]
    simp only [IC, K2_tok he h.1, Option.bind_some, List.append_nil, List.nil_append, List.cons_append, cond_true, cond_false, if_true, if_false, ite_true, ite_false, reduceIte, IC, bI_0, bI_1, bF, Bool.not_eq_false, Bool.not_eq_true, Bool.and_true, Bool.true_and, Bool.and_false, Bool.false_and, Bool.true_or, Bool.or_true, Bool.or_false, Bool.false_or, Bool.not_true, Bool.not_false, decide_true, decide_false, not_true_eq_false, not_false_eq_true, eq_self, Bool.true_eq_false, Bool.false_eq_true, B55_15, h12]
    rfl
  | p :: T, k, f, K, h, hk => by
    have hlen : (p :: T).length = T.length + 1 := rfl
    have hk2 : ¬ (200 : Int32) ≤ Int32.ofNat k := le_n (l := 200) (n := 200) rfl (by omega) (by omega) (by omega)
    unfold notP
    rw [B55_4, if_neg hk2]
    by_cases h12 : hS b n (p :: T) = 12
    · rw [if_pos h12]
      obtain ⟨x1, e1, h1⟩ := h.adv he (by simp)
      obtain ⟨K2, k2, e2, h2⟩ := K2_nt he T (k + 1) (!f) _ h1 (by omega)
      refine ⟨K2, k2, ?_, h2⟩
      rw [← e2]
      simp only [IC, K2_tok he h.1, Option.bind_some, List.append_nil, List.nil_append, List.cons_append, cond_true, cond_false, if_true, if_false, ite_true, ite_false, reduceIte, IC, bI_0, bI_1, bF, Bool.not_eq_false, Bool.not_eq_true, Bool.and_true, Bool.true_and, Bool.and_false, Bool.false_and, Bool.true_or, Bool.or_true, Bool.or_false, Bool.false_or, Bool.not_true, Bool.not_false, decide_true, decide_false, not_true_eq_false, not_false_eq_true, eq_self, Bool.true_eq_false, Bool.false_eq_true, B55_15, h12]
      cases f with
      | false => simp only [bI_f, bI_t, Option.bind_some, List.append_nil, List.nil_append, List.cons_append, cond_true, cond_false, if_true, if_false, ite_true, ite_false, reduceIte, IC, bI_0, bI_1, bF, Bool.not_eq_false, Bool.not_eq_true, Bool.and_true, Bool.true_and, Bool.and_false, Bool.false_and, Bool.true_or, Bool.or_true, Bool.or_false, Bool.false_or, Bool.not_true, Bool.not_false, decide_true, decide_false, not_true_eq_false, not_false_eq_true, eq_self, Bool.true_eq_false, Bool.false_eq_true, B55_29, RDc, e1, WRc, IX]
      | true => simp only [bI_f, bI_t, Option.bind_some, List.append_nil, List.nil_append, List.cons_append, cond_true, cond_false, if_true, if_false, ite_true, ite_false, reduceIte, IC, bI_0, bI_1, bF, Bool.not_eq_false, Bool.not_eq_true, Bool.and_true, Bool.true_and, Bool.and_false, Bool.false_and, Bool.true_or, Bool.or_true, Bool.or_false, Bool.false_or, Bool.not_true, Bool.not_false, decide_true, decide_false, not_true_eq_false, not_false_eq_true, eq_self, Bool.true_eq_false, Bool.false_eq_true, B55_29, RDc, e1, WRc, IX]
    · rw [if_neg h12]
      refine ⟨K, Int32.ofNat k, ?_, h⟩
      simp only [IC, K2_tok he h.1, Option.bind_some, List.append_nil, List.nil_append, List.cons_append, cond_true, cond_false, if_true, if_false, ite_true, ite_false, reduceIte, IC, bI_0, bI_1, bF, Bool.not_eq_false, Bool.not_eq_true, Bool.and_true, Bool.true_and, Bool.and_false, Bool.false_and, Bool.true_or, Bool.or_true, Bool.or_false, Bool.false_or, Bool.not_true, Bool.not_false, decide_true, decide_false, not_true_eq_false, not_false_eq_true, eq_self, Bool.true_eq_false, Bool.false_eq_true, B55_15, h12]
/-- behind what one is: the not -/
theorem K2_67 (he : CE D P N J b n T0 q) {f : Bool} {rs : pRs} (h : CR J K T0 q rs B) (hl : f = true → B.length + rs.2.2.length < 100) : ∃ K', Rn X (d + 1) 55 67 [.ref 36, .int y, .int (bI f), .int z] [.int (bI rs.1)] (Mh D K P N) = some ([.int (bI rs.1)], Mh D K' P N) ∧ CR J K' T0 q (rs.1, rs.2.1, cA (rs.1 && f) rs.2.2 12) B := by
  obtain ⟨r1, T1, A1⟩ := rs
  obtain ⟨h1, h2⟩ := h
  dsimp only at h1 h2 hl ⊢
  cases r1 with
  | false => exact ⟨K, by simp only [B55_67, bI_f, Option.bind_some, List.append_nil, List.nil_append, List.cons_append, cond_true, cond_false, if_true, if_false, ite_true, ite_false, reduceIte, IC, bI_0, bI_1, bF, Bool.not_eq_false, Bool.not_eq_true, Bool.and_true, Bool.true_and, Bool.and_false, Bool.false_and, Bool.true_or, Bool.or_true, Bool.or_false, Bool.false_or, Bool.not_true, Bool.not_false, decide_true, decide_false, not_true_eq_false, not_false_eq_true, eq_self, Bool.true_eq_false, Bool.false_eq_true, B55_87], fun q => (by cases q), fun _ => h2 rfl⟩
  | true =>
    have n10 : ¬ (1 : Int32) = 0 := by decide
    have hR := he.2.1
    cases f with
    | false => exact ⟨K, by simp only [B55_67, bI_f, bI_t, n10, Option.bind_some, List.append_nil, List.nil_append, List.cons_append, cond_true, cond_false, if_true, if_false, ite_true, ite_false, reduceIte, IC, bI_0, bI_1, bF, Bool.not_eq_false, Bool.not_eq_true, Bool.and_true, Bool.true_and, Bool.and_false, Bool.false_and, Bool.true_or, Bool.or_true, Bool.or_false, Bool.false_or, Bool.not_true, Bool.not_false, decide_true, decide_false, not_true_eq_false, not_false_eq_true, eq_self, Bool.true_eq_false, Bool.false_eq_true, B55_87], fun _ => h1 rfl, fun q => (by cases q)⟩
    | true =>
      obtain ⟨e1, q1⟩ := K2_add (X := X) (d := d) (u := (12, 0, 0)) he (h1 rfl) (by rw [List.length_append]; exact hl rfl) (Or.inr (Or.inr (Or.inl rfl)))
      generalize adW K q (B ++ A1).length (12, 0, 0) = K3 at e1 q1
      refine ⟨K3, ?_, fun _ => ?_, fun q => (by cases q)⟩
      · simp only [B55_67, bI_t, n10, Option.bind_some, List.append_nil, List.nil_append, List.cons_append, cond_true, cond_false, if_true, if_false, ite_true, ite_false, reduceIte, IC, bI_0, bI_1, bF, Bool.not_eq_false, Bool.not_eq_true, Bool.and_true, Bool.true_and, Bool.and_false, Bool.false_and, Bool.true_or, Bool.or_true, Bool.or_false, Bool.false_or, Bool.not_true, Bool.not_false, decide_true, decide_false, not_true_eq_false, not_false_eq_true, eq_self, Bool.true_eq_false, Bool.false_eq_true, RDc, he.1, rdR5 hR, e1, B55_87]
      · rw [List.append_assoc] at q1
        exact q1
def KOne (X : mX) (D : Nat → Nat × Nat) (P : Nat → Nat → Option Nat) (N : Nat) (J : Nat → Nat → Int32) (b : Nat → Int32) (n : Nat) (T0 : List Nat) (q : Nat) (B : List pSt) (r : Nat) : Prop := ∀ d K T A, CQ J K T0 q T (B ++ A) → Gt b n T → T.length < 200 → (2 * (B.length + A.length) ≤ hP n T ∧ (exL A).length ≤ hP n T) →
  ∃ K', Rn X (d + 2 + 3 * r) 55 0 [.ref 36, .int (Int32.ofNat (3 - r)), U_, U_] [] (Mh D K P N) = some ([.int (bI (oneP (hS b n) (hV b n) (grpP (hS b n) (hV b n) r) T A).1)], Mh D K' P N) ∧ CR J K' T0 q (oneP (hS b n) (hV b n) (grpP (hS b n) (hV b n) r) T A) B
def KCnd (X : mX) (D : Nat → Nat × Nat) (P : Nat → Nat → Option Nat) (N : Nat) (J : Nat → Nat → Int32) (b : Nat → Int32) (n : Nat) (T0 : List Nat) (q : Nat) (B : List pSt) (r : Nat) : Prop := ∀ d K T A, CQ J K T0 q T (B ++ A) → Gt b n T → T.length < 200 → (2 * (B.length + A.length) ≤ hP n T ∧ (exL A).length ≤ hP n T) →
  ∃ K', Rn X (d + 3 + 3 * r) 54 0 [.ref 36, .int (Int32.ofNat (3 - r)), U_, U_, U_] [] (Mh D K P N) = some ([.int (bI (cndP (hS b n) (hV b n) (grpP (hS b n) (hV b n) r) 200 false false T A).1)], Mh D K' P N) ∧ CR J K' T0 q (cndP (hS b n) (hV b n) (grpP (hS b n) (hV b n) r) 200 false false T A) B
def KGrp (X : mX) (D : Nat → Nat × Nat) (P : Nat → Nat → Option Nat) (N : Nat) (J : Nat → Nat → Int32) (b : Nat → Int32) (n : Nat) (T0 : List Nat) (q : Nat) (B : List pSt) (r : Nat) : Prop := ∀ d K T A, CQ J K T0 q T (B ++ A) → Gt b n T → T.length < 200 → hS b n T = 40 → (2 * (B.length + A.length) ≤ hP n T ∧ (exL A).length ≤ hP n T) →
  ∃ K', Rn X (d + 1 + 3 * r) 56 0 [.ref 36, .int (Int32.ofNat (3 - r))] [] (Mh D K P N) = some ([.int (bI (grpP (hS b n) (hV b n) r T A).1)], Mh D K' P N) ∧ CR J K' T0 q (grpP (hS b n) (hV b n) r T A) B
theorem one_grp (he : CE D P N J b n T0 q) (hg : KGrp X D P N J b n T0 q B r) : KOne X D P N J b n T0 q B r := by
  intro d K T A h g hT hl
  have hn := he.2.2.2.2.2
  have nb := not_b' T false g
  obtain ⟨K1, k1, e1, q1⟩ := K2_nt (X := X) (d := d + 1 + 3 * r) (y := Int32.ofNat (3 - r)) he T 0 false K h (by omega)
  unfold oneP
  generalize notP (hS b n) false T = qq at nb e1 q1 ⊢
  obtain ⟨f, T1⟩ := qq
  obtain ⟨n1, n2, n3, n4⟩ := nb
  dsimp only at n1 n2 n3 n4 e1 q1 ⊢
  have gb := GB_on1 (GB_grp (b := b) (n := n) r) T1 A (2 * B.length + (if f = true then 2 else 0)) 0 n1 (by cases f <;> simp at n3 ⊢ <;> omega) (by omega)
  have gp := gt_P gb.1.1
  have start : Rn X (d + 2 + 3 * r) 55 0 [.ref 36, .int (Int32.ofNat (3 - r)), U_, U_] [] (Mh D K P N) = Rn X (d + 1 + 3 * r + 1) 55 46 [.ref 36, .int (Int32.ofNat (3 - r)), .int (bI f), .int k1] [] (Mh D K1 P N) := by
    rw [show d + 2 + 3 * r = d + 1 + 3 * r + 1 by omega, B55_0]
    exact e1
  rw [start]
  have mid : ∃ K2 z, Rn X (d + 1 + 3 * r + 1) 55 46 [.ref 36, .int (Int32.ofNat (3 - r)), .int (bI f), .int k1] [] (Mh D K1 P N) = Rn X (d + 1 + 3 * r + 1) 55 67 [.ref 36, .int (Int32.ofNat (3 - r)), .int (bI f), .int z] [.int (bI (on1 (hS b n) (hV b n) (grpP (hS b n) (hV b n) r) T1 A).1)] (Mh D K2 P N) ∧ CR J K2 T0 q (on1 (hS b n) (hV b n) (grpP (hS b n) (hV b n) r) T1 A) B := by
    unfold on1
    by_cases h40 : hS b n T1 = 40
    · rw [if_pos h40]
      obtain ⟨K2, e2, q2⟩ := hg d K1 T1 A q1 n1 (by omega) h40 (by omega)
      refine ⟨K2, k1, ?_, q2⟩
      simp only [B55_46, IC, K2_tok he q1.1, Option.bind_some, List.append_nil, List.nil_append, List.cons_append, cond_true, cond_false, if_true, if_false, ite_true, ite_false, reduceIte, IC, bI_0, bI_1, bF, Bool.not_eq_false, Bool.not_eq_true, Bool.and_true, Bool.true_and, Bool.and_false, Bool.false_and, Bool.true_or, Bool.or_true, Bool.or_false, Bool.false_or, Bool.not_true, Bool.not_false, decide_true, decide_false, not_true_eq_false, not_false_eq_true, eq_self, Bool.true_eq_false, Bool.false_eq_true, B55_50, h40, e2, B55_60]
    · rw [if_neg h40]
      obtain ⟨K2, e2, q2⟩ := K2_cmp (X := X) (d := d + 3 * r) he q1 n1 (by omega)
      rw [show d + 3 * r + 1 = d + 1 + 3 * r by omega] at e2
      refine ⟨K2, k1, ?_, q2⟩
      simp only [B55_46, IC, K2_tok he q1.1, Option.bind_some, List.append_nil, List.nil_append, List.cons_append, cond_true, cond_false, if_true, if_false, ite_true, ite_false, reduceIte, IC, bI_0, bI_1, bF, Bool.not_eq_false, Bool.not_eq_true, Bool.and_true, Bool.true_and, Bool.and_false, Bool.false_and, Bool.true_or, Bool.or_true, Bool.or_false, Bool.false_or, Bool.not_true, Bool.not_false, decide_true, decide_false, not_true_eq_false, not_false_eq_true, eq_self, Bool.true_eq_false, Bool.false_eq_true, B55_50, h40, e2]
  obtain ⟨K2, z, e2, q2⟩ := mid
  rw [e2]
  obtain ⟨K3, e3, q3⟩ := K2_67 (X := X) (d := d + 1 + 3 * r) (y := Int32.ofNat (3 - r)) (z := z) (f := f) he q2 (fun hf => by have := gb.2.1; rw [if_pos hf] at this; omega)
  exact ⟨K3, e3, q3⟩
theorem grp_0 (he : CE D P N J b n T0 q) : KGrp X D P N J b n T0 q B 0 := by
  intro d K T A h g hT h40 hl
  refine ⟨K, ?_, fun q => (by cases q), fun _ => h.1⟩
  have h3 : ¬ Int32.ofNat (3 - 0) < 3 := by decide
  simp only [Nat.mul_zero, Nat.add_zero]
  rw [B56_0, if_neg h3]
  rfl
theorem grp_s (he : CE D P N J b n T0 q) (hr : r + 1 ≤ 3) (hc : KCnd X D P N J b n T0 q B r) : KGrp X D P N J b n T0 q B (r + 1) := by
  intro d K T A h g hT h40 hl
  have hn := he.2.2.2.2.2
  have hP0 := gt_P g
  have n10 : ¬ (1 : Int32) = 0 := by decide
  have h3 : Int32.ofNat (3 - (r + 1)) < 3 := by rw [show (3 : Int32) = Int32.ofNat 3 from rfl, iN_lt (by omega) (by omega)]; omega
  have s1 : Int32.ofNat (3 - (r + 1)) + 1 = Int32.ofNat (3 - r) := by rw [iN_succ, show 3 - (r + 1) + 1 = 3 - r by omega]
  obtain ⟨x1, e1, h1⟩ := h.adv he (gt_ne (b := b) (n := n) (by rw [h40]; decide))
  have tl := tl_l (T := T)
  obtain ⟨K2, e2, q2⟩ := hc d (u2 K 36 6 (x1 + 1)) T.tail A h1 (gt_tl g) (by omega) (by omega)
  have gc := GB_cnd (GB_grp (b := b) (n := n) r) 200 false false T.tail A (2 * B.length) 0 (gt_tl g) (by unfold o2; simp only [Bool.false_eq_true, if_false]; omega) (by unfold o2; simp only [Bool.false_eq_true, if_false]; omega)
  rw [show d + 1 + 3 * (r + 1) = d + 3 + 3 * r + 1 by omega]
  have s2 : Rn X (d + 3 + 3 * r + 1) 56 0 [.ref 36, .int (Int32.ofNat (3 - (r + 1)))] [] (Mh D K P N) = Rn X (d + 3 + 3 * r + 1) 56 24 [.ref 36, .int (Int32.ofNat (3 - (r + 1)))] [.int (bI (cndP (hS b n) (hV b n) (grpP (hS b n) (hV b n) r) 200 false false T.tail A).1)] (Mh D K2 P N) := by
    rw [B56_0, if_pos h3]
    simp only [RDc, e1, WRc, Option.bind_some, List.append_nil, List.nil_append, List.cons_append, cond_true, cond_false, if_true, if_false, ite_true, ite_false, reduceIte, IC, bI_0, bI_1, bF, Bool.not_eq_false, Bool.not_eq_true, Bool.and_true, Bool.true_and, Bool.and_false, Bool.false_and, Bool.true_or, Bool.or_true, Bool.or_false, Bool.false_or, Bool.not_true, Bool.not_false, decide_true, decide_false, not_true_eq_false, not_false_eq_true, eq_self, Bool.true_eq_false, Bool.false_eq_true, IC, s1, e2]
  rw [s2]
  unfold grpP
  generalize cndP (hS b n) (hV b n) (grpP (hS b n) (hV b n) r) 200 false false T.tail A = cc at q2 gc ⊢
  obtain ⟨c1, T3, A3⟩ := cc
  obtain ⟨⟨gg, -, -⟩, -, -⟩ := gc
  obtain ⟨qa, qb⟩ := q2
  dsimp only at gg qa qb ⊢
  cases c1 with
  | false => exact ⟨K2, by simp only [B56_24, bI_f, Option.bind_some, List.append_nil, List.nil_append, List.cons_append, cond_true, cond_false, if_true, if_false, ite_true, ite_false, reduceIte, IC, bI_0, bI_1, bF, Bool.not_eq_false, Bool.not_eq_true, Bool.and_true, Bool.true_and, Bool.and_false, Bool.false_and, Bool.true_or, Bool.or_true, Bool.or_false, Bool.false_or, Bool.not_true, Bool.not_false, decide_true, decide_false, not_true_eq_false, not_false_eq_true, eq_self, Bool.true_eq_false, Bool.false_eq_true, B56_36], fun q => (by cases q), fun _ => qb rfl⟩
  | true =>
    have qr := qa rfl
    by_cases h41 : hS b n T3 = 41
    · obtain ⟨x3, e3, h3'⟩ := qr.adv he (gt_ne (b := b) (n := n) (by rw [h41]; decide))
      refine ⟨u2 K2 36 6 (x3 + 1), ?_, ?_⟩
      · simp only [B56_24, bI_t, n10, Option.bind_some, List.append_nil, List.nil_append, List.cons_append, cond_true, cond_false, if_true, if_false, ite_true, ite_false, reduceIte, IC, bI_0, bI_1, bF, Bool.not_eq_false, Bool.not_eq_true, Bool.and_true, Bool.true_and, Bool.and_false, Bool.false_and, Bool.true_or, Bool.or_true, Bool.or_false, Bool.false_or, Bool.not_true, Bool.not_false, decide_true, decide_false, not_true_eq_false, not_false_eq_true, eq_self, Bool.true_eq_false, Bool.false_eq_true, IC, K2_tok he qr.1, B56_31, h41, RDc, e3, WRc]
      · simp only [h41, Option.bind_some, List.append_nil, List.nil_append, List.cons_append, cond_true, cond_false, if_true, if_false, ite_true, ite_false, reduceIte, IC, bI_0, bI_1, bF, Bool.not_eq_false, Bool.not_eq_true, Bool.and_true, Bool.true_and, Bool.and_false, Bool.false_and, Bool.true_or, Bool.or_true, Bool.or_false, Bool.false_or, Bool.not_true, Bool.not_false, decide_true, decide_false, not_true_eq_false, not_false_eq_true, eq_self, Bool.true_eq_false, Bool.false_eq_true]
        exact ⟨fun _ => h3', fun q => (by cases q)⟩
    · refine ⟨K2, ?_, ?_⟩
      · simp only [B56_24, bI_t, bI_f, n10, Option.bind_some, List.append_nil, List.nil_append, List.cons_append, cond_true, cond_false, if_true, if_false, ite_true, ite_false, reduceIte, IC, bI_0, bI_1, bF, Bool.not_eq_false, Bool.not_eq_true, Bool.and_true, Bool.true_and, Bool.and_false, Bool.false_and, Bool.true_or, Bool.or_true, Bool.or_false, Bool.false_or, Bool.not_true, Bool.not_false, decide_true, decide_false, not_true_eq_false, not_false_eq_true, eq_self, Bool.true_eq_false, Bool.false_eq_true, IC, K2_tok he qr.1, B56_31, h41, B56_36]
      · simp only [h41, Option.bind_some, List.append_nil, List.nil_append, List.cons_append, cond_true, cond_false, if_true, if_false, ite_true, ite_false, reduceIte, IC, bI_0, bI_1, bF, Bool.not_eq_false, Bool.not_eq_true, Bool.and_true, Bool.true_and, Bool.and_false, Bool.false_and, Bool.true_or, Bool.or_true, Bool.or_false, Bool.false_or, Bool.not_true, Bool.not_false, decide_true, decide_false, not_true_eq_false, not_false_eq_true, eq_self, Bool.true_eq_false, Bool.false_eq_true]
        exact ⟨fun q => (by cases q), fun _ => qr.1⟩
theorem K2_cAd (he : CE D P N J b n T0 q) (h : CQ J K T0 q T (B ++ A)) (f : Bool) (hl : f = true → B.length + A.length < 100) (hx : x = 10 ∨ x = 11) : ∃ K', (f = true → Rn X d 71 0 [.ref q, .int x, .int 0, .int 0] [] (Mh D K P N) = some ([], Mh D K' P N)) ∧ (f = false → K' = K) ∧ CQ J K' T0 q T (B ++ cA f A x) := by
  cases f with
  | false => exact ⟨K, fun q => (by cases q), fun _ => rfl, h⟩
  | true =>
    obtain ⟨e1, q1⟩ := K2_add (X := X) (d := d) (u := (x, 0, 0)) he h (by rw [List.length_append]; exact hl rfl) (by rcases hx with rfl | rfl; exact Or.inl rfl; exact Or.inr (Or.inl rfl))
    refine ⟨_, fun _ => e1, fun q => (by cases q), ?_⟩
    rw [List.append_assoc] at q1
    exact q1
theorem K2_cn1 (he : CE D P N J b n T0 q) (hO : KOne X D P N J b n T0 q B r) : ∀ k ia ie T A K, T.length < k → k + m = 200 → ia ≤ m → ie ≤ m → CQ J K T0 q T (B ++ A) → Gt b n T → T.length < 200 → (2 * (B.length + A.length) + 2 * o2 (decide (0 < ia)) + 2 * o2 (decide (0 < ie)) ≤ hP n T ∧ (exL A).length + o2 (decide (0 < ia)) + o2 (decide (0 < ie)) ≤ hP n T) →
    ∃ K', Rn X (d + 3 + 3 * r) 54 7 [.ref 36, .int (Int32.ofNat (3 - r)), .int (Int32.ofNat ia), .int (Int32.ofNat ie), .int (Int32.ofNat m)] [] (Mh D K P N) = some ([.int (bI (cndP (hS b n) (hV b n) (grpP (hS b n) (hV b n) r) k (decide (0 < ia)) (decide (0 < ie)) T A).1)], Mh D K' P N) ∧ CR J K' T0 q (cndP (hS b n) (hV b n) (grpP (hS b n) (hV b n) r) k (decide (0 < ia)) (decide (0 < ie)) T A) B := by
  intro k
  induction k generalizing m with
  | zero => intro ia ie T A K hk; omega
  | succ k IH =>
    intro ia ie T A K hk hm hia hie hq g hT hl
    have hn := he.2.2.2.2.2
    have n10 : ¬ (1 : Int32) = 0 := by decide
    have hR := he.2.1
    have h200 : ¬ (200 : Int32) ≤ Int32.ofNat m := le_n (l := 200) (n := 200) rfl (by omega) (by omega) (by omega)
    obtain ⟨K1, e1, q1⟩ := hO d K T A hq g hT (by omega)
    have gb := GB_one (GB_grp (b := b) (n := n) r) T A (2 * B.length + (2 * o2 (decide (0 < ia)) + 2 * o2 (decide (0 < ie)))) (o2 (decide (0 < ia)) + o2 (decide (0 < ie))) g (by omega) (by omega)
    unfold cndP
    rw [show d + 3 + 3 * r = d + 2 + 3 * r + 1 by omega, B54_7, if_neg h200]
    simp only [IC, e1, Option.bind_some, List.append_nil, List.nil_append, List.cons_append, cond_true, cond_false, if_true, if_false, ite_true, ite_false, reduceIte, IC, bI_0, bI_1, bF, Bool.not_eq_false, Bool.not_eq_true, Bool.and_true, Bool.true_and, Bool.and_false, Bool.false_and, Bool.true_or, Bool.or_true, Bool.or_false, Bool.false_or, Bool.not_true, Bool.not_false, decide_true, decide_false, not_true_eq_false, not_false_eq_true, eq_self, Bool.true_eq_false, Bool.false_eq_true]
    generalize oneP (hS b n) (hV b n) (grpP (hS b n) (hV b n) r) T A = rr at q1 gb ⊢
    obtain ⟨r1, T1, A1⟩ := rr
    obtain ⟨⟨g1, g2, g3⟩, g4, g5⟩ := gb
    obtain ⟨qa, qb⟩ := q1
    dsimp only at g1 g2 g3 g4 g5 qa qb ⊢
    have p1 := gt_P g1
    have tl1 := tl_l (T := T1)
    cases r1 with
    | false => exact ⟨K1, by simp only [B54_20, bI_f, Option.bind_some, List.append_nil, List.nil_append, List.cons_append, cond_true, cond_false, if_true, if_false, ite_true, ite_false, reduceIte, IC, bI_0, bI_1, bF, Bool.not_eq_false, Bool.not_eq_true, Bool.and_true, Bool.true_and, Bool.and_false, Bool.false_and, Bool.true_or, Bool.or_true, Bool.or_false, Bool.false_or, Bool.not_true, Bool.not_false, decide_true, decide_false, not_true_eq_false, not_false_eq_true, eq_self, Bool.true_eq_false, Bool.false_eq_true], fun q => (by cases q), fun _ => qb rfl⟩
    | true =>
      have qr := qa rfl
      have ca := cA_l (o := decide (0 < ia)) (A := A1) (x := 11) (Or.inr (Or.inl rfl))
      have cb := cA_l (o := decide (0 < ie)) (A := cA (decide (0 < ia)) A1 11) (x := 10) (Or.inl rfl)
      have o2e : ∀ f : Bool, o2 f = if f = true then 1 else 0 := fun _ => rfl
      obtain ⟨K2, e2a, e2b, q2⟩ := K2_cAd (X := X) (d := d + 2 + 3 * r) (x := 11) he qr (decide (0 < ia)) (fun hf => by rw [hf, show o2 true = 1 from rfl] at g4; omega) (Or.inr rfl)
      have s20 : Rn X (d + 2 + 3 * r + 1) 54 20 [.ref 36, .int (Int32.ofNat (3 - r)), .int (Int32.ofNat ia), .int (Int32.ofNat ie), .int (Int32.ofNat m)] [.int (bI true)] (Mh D K1 P N) = Rn X (d + 2 + 3 * r + 1) 54 47 [.ref 36, .int (Int32.ofNat (3 - r)), .int (Int32.ofNat (ia + 1)), .int (Int32.ofNat ie), .int (Int32.ofNat m)] [.int (hS b n T1)] (Mh D K2 P N) := by
        by_cases h0 : 0 < ia
        · have hle : ¬ Int32.ofNat ia ≤ 0 := by rw [show (0 : Int32) = Int32.ofNat 0 from rfl, iN_le (by omega) (by omega)]; omega
          have e2 := e2a (decide_eq_true h0)
          simp only [B54_20, bI_t, n10, hle, Option.bind_some, List.append_nil, List.nil_append, List.cons_append, cond_true, cond_false, if_true, if_false, ite_true, ite_false, reduceIte, IC, bI_0, bI_1, bF, Bool.not_eq_false, Bool.not_eq_true, Bool.and_true, Bool.true_and, Bool.and_false, Bool.false_and, Bool.true_or, Bool.or_true, Bool.or_false, Bool.false_or, Bool.not_true, Bool.not_false, decide_true, decide_false, not_true_eq_false, not_false_eq_true, eq_self, Bool.true_eq_false, Bool.false_eq_true, RDc, he.1, rdR5 hR, e2, B54_40, IC, K2_tok he q2.1, IX]
        · have hle : Int32.ofNat ia ≤ 0 := by rw [show (0 : Int32) = Int32.ofNat 0 from rfl, iN_le (by omega) (by omega)]; omega
          have e2 := e2b (decide_eq_false h0)
          subst e2
          simp only [B54_20, bI_t, n10, hle, Option.bind_some, List.append_nil, List.nil_append, List.cons_append, cond_true, cond_false, if_true, if_false, ite_true, ite_false, reduceIte, IC, bI_0, bI_1, bF, Bool.not_eq_false, Bool.not_eq_true, Bool.and_true, Bool.true_and, Bool.and_false, Bool.false_and, Bool.true_or, Bool.or_true, Bool.or_false, Bool.false_or, Bool.not_true, Bool.not_false, decide_true, decide_false, not_true_eq_false, not_false_eq_true, eq_self, Bool.true_eq_false, Bool.false_eq_true, B54_40, IC, K2_tok he q2.1, IX]
      simp only [Option.bind_some, List.append_nil, List.nil_append, List.cons_append, cond_true, cond_false, if_true, if_false, ite_true, ite_false, reduceIte, IC, bI_0, bI_1, bF, Bool.not_eq_false, Bool.not_eq_true, Bool.and_true, Bool.true_and, Bool.and_false, Bool.false_and, Bool.true_or, Bool.or_true, Bool.or_false, Bool.false_or, Bool.not_true, Bool.not_false, decide_true, decide_false, not_true_eq_false, not_false_eq_true, eq_self, Bool.true_eq_false, Bool.false_eq_true]
      rw [s20, B54_47]
      by_cases h11 : hS b n T1 = 11
      · rw [if_pos h11]
        have hw := gt_w g1 (Or.inr (Or.inl h11))
        rw [h11, if_neg (by decide)] at hw
        have hne : T1 ≠ [] := gt_ne (b := b) (n := n) (by rw [h11]; decide)
        have htl : T1.tail.length + 1 = T1.length := by cases T1 with | nil => exact absurd rfl hne | cons p T => rfl
        obtain ⟨x3, e3, h3⟩ := q2.adv he hne
        have d1 : decide (0 < ia + 1) = true := decide_eq_true (by omega)
        obtain ⟨K4, e4, q4⟩ := IH (m := m + 1) (ia + 1) ie T1.tail (cA (decide (0 < ia)) A1 11) (u2 K2 36 6 (x3 + 1)) (by omega) (by omega) (by omega) (by omega) h3 (gt_tl g1) (by omega) (by rw [d1, ca.1, ca.2, ← o2e, show o2 true = 1 from rfl]; omega)
        rw [d1] at e4 q4
        rw [if_pos h11]
        refine ⟨K4, ?_, q4⟩
        rw [← e4, show d + 3 + 3 * r = d + 2 + 3 * r + 1 by omega]
        simp only [B54_83, RDc, e3, WRc, Option.bind_some, List.append_nil, List.nil_append, List.cons_append, cond_true, cond_false, if_true, if_false, ite_true, ite_false, reduceIte, IC, bI_0, bI_1, bF, Bool.not_eq_false, Bool.not_eq_true, Bool.and_true, Bool.true_and, Bool.and_false, Bool.false_and, Bool.true_or, Bool.or_true, Bool.or_false, Bool.false_or, Bool.not_true, Bool.not_false, decide_true, decide_false, not_true_eq_false, not_false_eq_true, eq_self, Bool.true_eq_false, Bool.false_eq_true, IX]
      · rw [if_neg h11, if_neg h11]
        obtain ⟨K3, e3a, e3b, q3⟩ := K2_cAd (X := X) (d := d + 2 + 3 * r) (x := 10) he q2 (decide (0 < ie)) (fun hf => by rw [ca.1, ← o2e]; rw [hf, show o2 true = 1 from rfl] at g4; omega) (Or.inl rfl)
        have s67 : (if Int32.ofNat ie ≤ 0 then Rn X (d + 2 + 3 * r + 1) 54 67 [.ref 36, .int (Int32.ofNat (3 - r)), .int (Int32.ofNat (ia + 1)), .int (Int32.ofNat ie), .int (Int32.ofNat m)] [] (Mh D K2 P N) else (hFR (Mh D K2 P N) 36 7 [4]).bind fun x1 => bif isC (Mh D K2 P N) x1 5 then (Rn X (d + 2 + 3 * r) 71 0 [.ref x1, .int 10, .int 0, .int 0] [] (Mh D K2 P N)).bind fun z2 => Rn X (d + 2 + 3 * r + 1) 54 67 [.ref 36, .int (Int32.ofNat (3 - r)), .int (Int32.ofNat (ia + 1)), .int (Int32.ofNat ie), .int (Int32.ofNat m)] (z2.1 ++ []) z2.2 else none)
            = Rn X (d + 2 + 3 * r + 1) 54 76 [.ref 36, .int (Int32.ofNat (3 - r)), .int 0, .int (Int32.ofNat (ie + 1)), .int (Int32.ofNat m)] [.int (hS b n T1)] (Mh D K3 P N) := by
          by_cases h0 : 0 < ie
          · have hle : ¬ Int32.ofNat ie ≤ 0 := by rw [show (0 : Int32) = Int32.ofNat 0 from rfl, iN_le (by omega) (by omega)]; omega
            have e2 := e3a (decide_eq_true h0)
            simp only [hle, Option.bind_some, List.append_nil, List.nil_append, List.cons_append, cond_true, cond_false, if_true, if_false, ite_true, ite_false, reduceIte, IC, bI_0, bI_1, bF, Bool.not_eq_false, Bool.not_eq_true, Bool.and_true, Bool.true_and, Bool.and_false, Bool.false_and, Bool.true_or, Bool.or_true, Bool.or_false, Bool.false_or, Bool.not_true, Bool.not_false, decide_true, decide_false, not_true_eq_false, not_false_eq_true, eq_self, Bool.true_eq_false, Bool.false_eq_true, RDc, he.1, rdR5 hR, e2, B54_67, IC, K2_tok he q3.1, IX]
          · have hle : Int32.ofNat ie ≤ 0 := by rw [show (0 : Int32) = Int32.ofNat 0 from rfl, iN_le (by omega) (by omega)]; omega
            have e2 := e3b (decide_eq_false h0)
            subst e2
            simp only [hle, Option.bind_some, List.append_nil, List.nil_append, List.cons_append, cond_true, cond_false, if_true, if_false, ite_true, ite_false, reduceIte, IC, bI_0, bI_1, bF, Bool.not_eq_false, Bool.not_eq_true, Bool.and_true, Bool.true_and, Bool.and_false, Bool.false_and, Bool.true_or, Bool.or_true, Bool.or_false, Bool.false_or, Bool.not_true, Bool.not_false, decide_true, decide_false, not_true_eq_false, not_false_eq_true, eq_self, Bool.true_eq_false, Bool.false_eq_true, B54_67, IC, K2_tok he q3.1, IX]
        rw [s67, B54_76]
        by_cases h10 : hS b n T1 = 10
        · rw [if_pos h10, if_pos h10]
          have hw := gt_w g1 (Or.inl h10)
          rw [h10, if_pos rfl] at hw
          have hne : T1 ≠ [] := gt_ne (b := b) (n := n) (by rw [h10]; decide)
          have htl : T1.tail.length + 1 = T1.length := by cases T1 with | nil => exact absurd rfl hne | cons p T => rfl
          obtain ⟨x3, e3, h3⟩ := q3.adv he hne
          have d1 : decide (0 < ie + 1) = true := decide_eq_true (by omega)
          have d0 : decide (0 < 0) = false := rfl
          obtain ⟨K4, e4, q4⟩ := IH (m := m + 1) 0 (ie + 1) T1.tail (cA (decide (0 < ie)) (cA (decide (0 < ia)) A1 11) 10) (u2 K3 36 6 (x3 + 1)) (by omega) (by omega) (by omega) (by omega) h3 (gt_tl g1) (by omega) (by rw [d1, d0, cb.1, cb.2, ca.1, ca.2, ← o2e, ← o2e, show o2 true = 1 from rfl, show o2 false = 0 from rfl]; omega)
          rw [d1, d0] at e4 q4
          refine ⟨K4, ?_, q4⟩
          rw [← e4, show d + 3 + 3 * r = d + 2 + 3 * r + 1 by omega]
          simp only [B54_83, RDc, e3, WRc, Option.bind_some, List.append_nil, List.nil_append, List.cons_append, cond_true, cond_false, if_true, if_false, ite_true, ite_false, reduceIte, IC, bI_0, bI_1, bF, Bool.not_eq_false, Bool.not_eq_true, Bool.and_true, Bool.true_and, Bool.and_false, Bool.false_and, Bool.true_or, Bool.or_true, Bool.or_false, Bool.false_or, Bool.not_true, Bool.not_false, decide_true, decide_false, not_true_eq_false, not_false_eq_true, eq_self, Bool.true_eq_false, Bool.false_eq_true, IX]
          rfl
        · rw [if_neg h10, if_neg h10]
          exact ⟨K3, rfl, fun _ => q3, fun q => (by cases q)⟩
theorem K2_cnd' (he : CE D P N J b n T0 q) (hO : KOne X D P N J b n T0 q B r) : KCnd X D P N J b n T0 q B r := by
  intro d K T A h g hT hl
  obtain ⟨K1, e1, q1⟩ := K2_cn1 (d := d) (m := 0) he hO 200 0 0 T A K hT rfl (Nat.le_refl _) (Nat.le_refl _) h g hT (by
    have : o2 (decide (0 < 0)) = 0 := rfl
    omega)
  refine ⟨K1, ?_, q1⟩
  rw [show d + 3 + 3 * r = d + 2 + 3 * r + 1 by omega] at e1 ⊢
  rw [B54_0]
  exact e1
theorem K2_all (he : CE D P N J b n T0 q) : ∀ r, r ≤ 3 → KOne X D P N J b n T0 q B r
  | 0, _ => one_grp he (grp_0 he)
  | r + 1, h => one_grp he (grp_s he h (K2_cnd' he (K2_all he r (by omega))))
theorem K2_cnd (he : CE D P N J b n T0 q) (h : CQ J K T0 q T B) (g : Gt b n T) (hT : T.length < 200) (hl : 2 * B.length ≤ hP n T) : ∃ K', Rn X (d + 12) 54 0 [.ref 36, .int 0, U_, U_, U_] [] (Mh D K P N) = some ([.int (bI (cndP (hS b n) (hV b n) (grpP (hS b n) (hV b n) 3) 200 false false T []).1)], Mh D K' P N) ∧ CR J K' T0 q (cndP (hS b n) (hV b n) (grpP (hS b n) (hV b n) 3) 200 false false T []) B := by
  have := K2_cnd' he (K2_all (X := X) (B := B) he 3 (by omega)) d K T [] (by rw [List.append_nil]; exact h) g hT ⟨by simpa using hl, by simp [exL]⟩
  exact this
end ClsR
