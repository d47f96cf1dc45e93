/-! the class: conditions, rules -/
def sN : List Bool → Nat
  | [] => 1
  | b :: t => 2 * sN t + (bif b then 1 else 0)
def b2n (b : Bool) : Nat := bif b then 1 else 0
def stkT : Bool := (List.range 4096).all fun v =>
  (decide ((Int32.ofNat v <<< (1 &&& 31)) ||| bI true = Int32.ofNat (2 * v + 1)) && decide ((Int32.ofNat v <<< (1 &&& 31)) ||| bI false = Int32.ofNat (2 * v)))
  && decide (Int32.ofNat v ^^^ 1 = Int32.ofNat (if v % 2 = 1 then v - 1 else v + 1))
  && decide (Int32.ofNat v &&& 1 = Int32.ofNat (v % 2)) && decide (Int32.ofNat v >>> (1 &&& 31) = Int32.ofNat (v / 2))
  && (decide (Int32.ofNat v &&& (0 ||| (-2)) = Int32.ofNat (v - v % 2)) && decide (Int32.ofNat v &&& (1 ||| (-2)) = Int32.ofNat v))
  && (decide (Int32.ofNat v ||| 0 = Int32.ofNat v) && decide (Int32.ofNat v ||| 1 = Int32.ofNat (v - v % 2 + 1)))
theorem stkT_ok : stkT = true := by decide +kernel
theorem stk_v {v : Nat} (h : v < 4096) : ((Int32.ofNat v <<< (1 &&& 31)) ||| bI true = Int32.ofNat (2 * v + 1) ∧ (Int32.ofNat v <<< (1 &&& 31)) ||| bI false = Int32.ofNat (2 * v))
    ∧ Int32.ofNat v ^^^ 1 = Int32.ofNat (if v % 2 = 1 then v - 1 else v + 1) ∧ Int32.ofNat v &&& 1 = Int32.ofNat (v % 2) ∧ Int32.ofNat v >>> (1 &&& 31) = Int32.ofNat (v / 2)
    ∧ (Int32.ofNat v &&& (0 ||| (-2)) = Int32.ofNat (v - v % 2) ∧ Int32.ofNat v &&& (1 ||| (-2)) = Int32.ofNat v) ∧ (Int32.ofNat v ||| 0 = Int32.ofNat v ∧ Int32.ofNat v ||| 1 = Int32.ofNat (v - v % 2 + 1)) := by
  have h1 := stkT_ok
  unfold stkT at h1
  rw [List.all_eq_true] at h1
  have h2 := h1 v (List.mem_range.mpr h)
  simp only [Bool.and_eq_true, decide_eq_true_eq] at h2
  exact ⟨h2.1.1.1.1.1, h2.1.1.1.1.2, h2.1.1.1.2, h2.1.1.2, h2.1.2, h2.2⟩
theorem sN_lt : ∀ st : List Bool, sN st < 2 ^ (st.length + 1) ∧ 1 ≤ sN st
  | [] => by decide
  | b :: t => by
    have := sN_lt t
    rw [List.length_cons, Nat.pow_succ]
    unfold sN
    cases b <;> simp <;> omega
theorem sN_b {st : List Bool} (h : st.length ≤ 11) : sN st < 4096 := by
  have h1 := (sN_lt st).1
  have h2 : 2 ^ (st.length + 1) ≤ 2 ^ 12 := Nat.pow_le_pow_right (by decide) (by omega)
  have h3 : (2 : Nat) ^ 12 = 4096 := by decide
  omega
theorem hldC_b (x y : Bool) : hldC (-22) (bI x) (bI y) = (x || y) ∧ hldC (-21) (bI x) (bI y) = (x && y) := by
  cases x <;> cases y <;> decide
theorem not_b (x : Bool) : 1 - bI x = bI (!x) := by cases x <;> decide
/-- what stands for a fact, or the number -/
def opW (F : Nat → Int32) (l n : Int32) : Int32 := if n < 0 then l else F n.toNatClampNeg
def opV (F : Nat → Int32) (l : Int32) : Int32 := opW F l ((-1) - l)
def cmV (sg x y : Int32) : Bool := if sg = 60 then decide (x < y) else if sg = 62 then decide (y < x) else decide (x = y)
section ClsB
variable {X : mX} {d : Nat} {D : Nat → Nat × Nat} {I : Nat → Nat → Int32} {P : Nat → Nat → Option Nat} {N : Nat} {h : mH} {s g c S r f F : Nat → Int32} {ra : Nat → Nat} {m : Int} {i j k n p q : Nat} {x v w a b l : Int32}
theorem op_b (hl : bt l (-5) 9999 = true) : ((-1) - l < 0) = (0 ≤ l.toInt) ∧ (l.toInt < 0 → ((-1) - l).toNatClampNeg < 5 ∧ ¬ 5 ≤ (-1) - l ∧ mib ((-1) - l) 5 = true) := by
  have h := bt_iff.mp hl
  have e1 : (-1 : Int32).toInt = -1 := rfl
  have e2 : ((-1) - l).toInt = -1 - l.toInt := by rw [t_sub (by omega) (by omega), e1]
  have e5 : (5 : Int32).toInt = 5 := rfl
  refine ⟨?_, fun hn => ⟨?_, ?_, ?_⟩⟩
  · rw [Int32.lt_iff_toInt_lt, e2, z_ti]; exact propext ⟨fun q => by omega, fun q => by omega⟩
  · rw [← Int32.toNat_toInt, e2]; omega
  · rw [Int32.le_iff_toInt_le, e2, e5]; omega
  · exact mib_x (by omega) (by omega)
theorem rdR5 (h : RAt D N q) : hFI (Mh D I P N) q 0 [5] = some (I q 0) ∧ hFI (Mh D I P N) q 8 [5] = some (I q 8) ∧ hFR (Mh D I P N) q 1 [5] = some (q + 1) ∧ hFR (Mh D I P N) q 2 [5] = some (q + 2) ∧ hFR (Mh D I P N) q 3 [5] = some (q + 3) ∧ hFR (Mh D I P N) q 4 [5] = some (q + 4) ∧ hFR (Mh D I P N) q 5 [5] = some (q + 5) ∧ hFR (Mh D I P N) q 6 [5] = some (q + 6) ∧ hFR (Mh D I P N) q 7 [5] = some (q + 7) ∧ isC (Mh D I P N) q 5 = true := by
  have hl : q < 80 + N := by have := h.2.1; omega
  exact ⟨rdI hl h.2.2.1 rfl, rdI hl h.2.2.1 rfl, rdR hl h.2.2.1 rfl, rdR hl h.2.2.1 rfl, rdR hl h.2.2.1 rfl, rdR hl h.2.2.1 rfl, rdR hl h.2.2.1 rfl, rdR hl h.2.2.1 rfl, rdR hl h.2.2.1 rfl, isc_of hl h.2.2.1⟩
theorem rdR8 (h : RAt D N q) (h1 : 1 ≤ j) (h2 : j ≤ 4) (hi : i < 8) : hAI 0 (Mh D I P N) (q + j) (Int32.ofNat i) = some (I (q + j) i) := by
  rw [rdA (by have := h.2.1; omega) (h.2.2.2.1 j h1 h2) rfl, mib_N hi (by decide), iN_cl (by omega)]; rfl
theorem rdR100 (h : RAt D N q) (h1 : 5 ≤ j) (h2 : j ≤ 7) (hi : i < 100) : hAI 0 (Mh D I P N) (q + j) (Int32.ofNat i) = some (I (q + j) i) := by
  rw [rdA (by have := h.2.1; omega) (h.2.2.2.2 j h1 h2) rfl, mib_N hi (by decide), iN_cl (by omega)]; rfl
theorem C_cmp70 {l3 l4 x y : Int32} (h : RAt D N q) (hj : j < 100) : Rn X d 76 70 [.ref q, .int (Int32.ofNat j), .ref 13, .int l3, .int l4, .int x, .int y, U_] [] (Mh D I P N) = some ([.int (bI (cmV (I (q + 5) j) x y))], Mh D I P N) := by
  simp (disch := omega) only [B76_70, rdR5 h, Option.bind_some, List.append_nil, List.nil_append, List.cons_append, cond_true, cond_false, if_true, if_false, ite_true, ite_false, reduceIte, IC, bI_0, bI_1, bF, Bool.not_eq_false, Bool.not_eq_true, Bool.and_true, Bool.true_and, Bool.and_false, Bool.false_and, Bool.true_or, Bool.or_true, Bool.or_false, Bool.false_or, Bool.not_true, Bool.not_false, decide_true, decide_false, not_true_eq_false, not_false_eq_true, eq_self, Bool.true_eq_false, Bool.false_eq_true, rdR100 h]
  unfold cmV
  by_cases h60 : I (q + 5) j = 60
  · simp only [h60, Option.bind_some, List.append_nil, List.nil_append, List.cons_append, cond_true, cond_false, if_true, if_false, ite_true, ite_false, reduceIte, IC, bI_0, bI_1, bF, Bool.not_eq_false, Bool.not_eq_true, Bool.and_true, Bool.true_and, Bool.and_false, Bool.false_and, Bool.true_or, Bool.or_true, Bool.or_false, Bool.false_or, Bool.not_true, Bool.not_false, decide_true, decide_false, not_true_eq_false, not_false_eq_true, eq_self, Bool.true_eq_false, Bool.false_eq_true, B76_81, B76_92, B76_88, B76_134]
    by_cases hxy : y ≤ x
    · have : ¬ x < y := by rw [i_nlt]; exact hxy
      simp only [hxy, this, Option.bind_some, List.append_nil, List.nil_append, List.cons_append, cond_true, cond_false, if_true, if_false, ite_true, ite_false, reduceIte, IC, bI_0, bI_1, bF, Bool.not_eq_false, Bool.not_eq_true, Bool.and_true, Bool.true_and, Bool.and_false, Bool.false_and, Bool.true_or, Bool.or_true, Bool.or_false, Bool.false_or, Bool.not_true, Bool.not_false, decide_true, decide_false, not_true_eq_false, not_false_eq_true, eq_self, Bool.true_eq_false, Bool.false_eq_true, B76_136, B76_145, B76_146]; rfl
    · have h2 : x < y := by rw [← i_nle]; exact hxy
      have h3 : ¬ (1 : Int32) = 0 := by decide
      simp only [hxy, h2, h3, Option.bind_some, List.append_nil, List.nil_append, List.cons_append, cond_true, cond_false, if_true, if_false, ite_true, ite_false, reduceIte, IC, bI_0, bI_1, bF, Bool.not_eq_false, Bool.not_eq_true, Bool.and_true, Bool.true_and, Bool.and_false, Bool.false_and, Bool.true_or, Bool.or_true, Bool.or_false, Bool.false_or, Bool.not_true, Bool.not_false, decide_true, decide_false, not_true_eq_false, not_false_eq_true, eq_self, Bool.true_eq_false, Bool.false_eq_true, B76_136, B76_141, B76_146]; rfl
  · have h3 : ¬ (1 : Int32) = 0 := by decide
    simp (disch := omega) only [h60, Option.bind_some, List.append_nil, List.nil_append, List.cons_append, cond_true, cond_false, if_true, if_false, ite_true, ite_false, reduceIte, IC, bI_0, bI_1, bF, Bool.not_eq_false, Bool.not_eq_true, Bool.and_true, Bool.true_and, Bool.and_false, Bool.false_and, Bool.true_or, Bool.or_true, Bool.or_false, Bool.false_or, Bool.not_true, Bool.not_false, decide_true, decide_false, not_true_eq_false, not_false_eq_true, eq_self, Bool.true_eq_false, Bool.false_eq_true, B76_96, rdR5 h, rdR100 h]
    by_cases h62 : I (q + 5) j = 62
    · simp only [h62, Option.bind_some, List.append_nil, List.nil_append, List.cons_append, cond_true, cond_false, if_true, if_false, ite_true, ite_false, reduceIte, IC, bI_0, bI_1, bF, Bool.not_eq_false, Bool.not_eq_true, Bool.and_true, Bool.true_and, Bool.and_false, Bool.false_and, Bool.true_or, Bool.or_true, Bool.or_false, Bool.false_or, Bool.not_true, Bool.not_false, decide_true, decide_false, not_true_eq_false, not_false_eq_true, eq_self, Bool.true_eq_false, Bool.false_eq_true, B76_107, B76_118, B76_114, B76_134]
      by_cases hxy : x ≤ y
      · have h4 : ¬ y < x := by rw [i_nlt]; exact hxy
        simp only [hxy, h4, Option.bind_some, List.append_nil, List.nil_append, List.cons_append, cond_true, cond_false, if_true, if_false, ite_true, ite_false, reduceIte, IC, bI_0, bI_1, bF, Bool.not_eq_false, Bool.not_eq_true, Bool.and_true, Bool.true_and, Bool.and_false, Bool.false_and, Bool.true_or, Bool.or_true, Bool.or_false, Bool.false_or, Bool.not_true, Bool.not_false, decide_true, decide_false, not_true_eq_false, not_false_eq_true, eq_self, Bool.true_eq_false, Bool.false_eq_true, B76_136, B76_145, B76_146]; rfl
      · have h4 : y < x := by rw [← i_nle]; exact hxy
        simp only [hxy, h4, h3, Option.bind_some, List.append_nil, List.nil_append, List.cons_append, cond_true, cond_false, if_true, if_false, ite_true, ite_false, reduceIte, IC, bI_0, bI_1, bF, Bool.not_eq_false, Bool.not_eq_true, Bool.and_true, Bool.true_and, Bool.and_false, Bool.false_and, Bool.true_or, Bool.or_true, Bool.or_false, Bool.false_or, Bool.not_true, Bool.not_false, decide_true, decide_false, not_true_eq_false, not_false_eq_true, eq_self, Bool.true_eq_false, Bool.false_eq_true, B76_136, B76_141, B76_146]; rfl
    · simp only [h62, Option.bind_some, List.append_nil, List.nil_append, List.cons_append, cond_true, cond_false, if_true, if_false, ite_true, ite_false, reduceIte, IC, bI_0, bI_1, bF, Bool.not_eq_false, Bool.not_eq_true, Bool.and_true, Bool.true_and, Bool.and_false, Bool.false_and, Bool.true_or, Bool.or_true, Bool.or_false, Bool.false_or, Bool.not_true, Bool.not_false, decide_true, decide_false, not_true_eq_false, not_false_eq_true, eq_self, Bool.true_eq_false, Bool.false_eq_true, B76_122, B76_133, B76_129, B76_134]
      by_cases hxy : x = y
      · simp only [hxy, h3, Option.bind_some, List.append_nil, List.nil_append, List.cons_append, cond_true, cond_false, if_true, if_false, ite_true, ite_false, reduceIte, IC, bI_0, bI_1, bF, Bool.not_eq_false, Bool.not_eq_true, Bool.and_true, Bool.true_and, Bool.and_false, Bool.false_and, Bool.true_or, Bool.or_true, Bool.or_false, Bool.false_or, Bool.not_true, Bool.not_false, decide_true, decide_false, not_true_eq_false, not_false_eq_true, eq_self, Bool.true_eq_false, Bool.false_eq_true, B76_136, B76_141, B76_146]; rfl
      · simp only [hxy, Option.bind_some, List.append_nil, List.nil_append, List.cons_append, cond_true, cond_false, if_true, if_false, ite_true, ite_false, reduceIte, IC, bI_0, bI_1, bF, Bool.not_eq_false, Bool.not_eq_true, Bool.and_true, Bool.true_and, Bool.and_false, Bool.false_and, Bool.true_or, Bool.or_true, Bool.or_false, Bool.false_or, Bool.not_true, Bool.not_false, decide_true, decide_false, not_true_eq_false, not_false_eq_true, eq_self, Bool.true_eq_false, Bool.false_eq_true, B76_136, B76_145, B76_146]; rfl
theorem C_cmp43 {l3 l4 x : Int32} (h : RAt D N q) (hj : j < 100) (h4 : ¬ l4 < 0 → ¬ 5 ≤ l4 ∧ mib l4 5 = true) : Rn X d 76 43 [.ref q, .int (Int32.ofNat j), .ref 13, .int l3, .int l4, .int x, U_, U_] [] (Mh D I P N) = some ([.int (bI (cmV (I (q + 5) j) x (opW (I 13) (I (q + 7) j) l4)))], Mh D I P N) := by
  have e5 : Int32.ofNat 5 = 5 := rfl
  unfold opW
  rw [B76_43]
  by_cases hr : l4 < 0
  · rw [if_pos hr, if_pos hr]
    simp (disch := omega) only [B76_62, rdR5 h, rdR100 h, Option.bind_some, List.append_nil, List.nil_append, List.cons_append, cond_true, cond_false, if_true, if_false, ite_true, ite_false, reduceIte, IC, bI_0, bI_1, bF, Bool.not_eq_false, Bool.not_eq_true, Bool.and_true, Bool.true_and, Bool.and_false, Bool.false_and, Bool.true_or, Bool.or_true, Bool.or_false, Bool.false_or, Bool.not_true, Bool.not_false, decide_true, decide_false, not_true_eq_false, not_false_eq_true, eq_self, Bool.true_eq_false, Bool.false_eq_true, B76_68, C_cmp70 h hj]
  · obtain ⟨r4, r5⟩ := h4 hr
    rw [if_neg hr, if_neg hr]
    simp only [B76_48, RDc, e5, r4, B76_55, r5, B76_68, Option.bind_some, List.append_nil, List.nil_append, List.cons_append, cond_true, cond_false, if_true, if_false, ite_true, ite_false, reduceIte, IC, bI_0, bI_1, bF, Bool.not_eq_false, Bool.not_eq_true, Bool.and_true, Bool.true_and, Bool.and_false, Bool.false_and, Bool.true_or, Bool.or_true, Bool.or_false, Bool.false_or, Bool.not_true, Bool.not_false, decide_true, decide_false, not_true_eq_false, not_false_eq_true, eq_self, Bool.true_eq_false, Bool.false_eq_true, C_cmp70 h hj]
theorem C_cmp19 {l3 l4 : Int32} (h : RAt D N q) (hj : j < 100) (h3 : ¬ l3 < 0 → ¬ 5 ≤ l3 ∧ mib l3 5 = true) (h4 : ¬ l4 < 0 → ¬ 5 ≤ l4 ∧ mib l4 5 = true) : Rn X d 76 19 [.ref q, .int (Int32.ofNat j), .ref 13, .int l3, .int l4, U_, U_, U_] [] (Mh D I P N) = some ([.int (bI (cmV (I (q + 5) j) (opW (I 13) (I (q + 6) j) l3) (opW (I 13) (I (q + 7) j) l4)))], Mh D I P N) := by
  have e5 : Int32.ofNat 5 = 5 := rfl
  rw [B76_19]
  have e : opW (I 13) (I (q + 6) j) l3 = if l3 < 0 then I (q + 6) j else I 13 l3.toNatClampNeg := rfl
  by_cases hr : l3 < 0
  · rw [if_pos hr, e, if_pos hr]
    simp (disch := omega) only [B76_35, rdR5 h, rdR100 h, Option.bind_some, List.append_nil, List.nil_append, List.cons_append, cond_true, cond_false, if_true, if_false, ite_true, ite_false, reduceIte, IC, bI_0, bI_1, bF, Bool.not_eq_false, Bool.not_eq_true, Bool.and_true, Bool.true_and, Bool.and_false, Bool.false_and, Bool.true_or, Bool.or_true, Bool.or_false, Bool.false_or, Bool.not_true, Bool.not_false, decide_true, decide_false, not_true_eq_false, not_false_eq_true, eq_self, Bool.true_eq_false, Bool.false_eq_true, B76_41, C_cmp43 h hj h4]
  · obtain ⟨r4, r5⟩ := h3 hr
    rw [if_neg hr, e, if_neg hr]
    simp only [B76_23, RDc, e5, r4, B76_29, r5, B76_41, Option.bind_some, List.append_nil, List.nil_append, List.cons_append, cond_true, cond_false, if_true, if_false, ite_true, ite_false, reduceIte, IC, bI_0, bI_1, bF, Bool.not_eq_false, Bool.not_eq_true, Bool.and_true, Bool.true_and, Bool.and_false, Bool.false_and, Bool.true_or, Bool.or_true, Bool.or_false, Bool.false_or, Bool.not_true, Bool.not_false, decide_true, decide_false, not_true_eq_false, not_false_eq_true, eq_self, Bool.true_eq_false, Bool.false_eq_true, C_cmp43 h hj h4]
theorem C_cmp (h : RAt D N q) (hj : j < 100) (hL : bt (I (q + 6) j) (-5) 9999 = true) (hR : bt (I (q + 7) j) (-5) 9999 = true) : Rn X d 76 0 [.ref q, .int (Int32.ofNat j), .ref 13, U_, U_, U_, U_, U_] [] (Mh D I P N)
    = some ([.int (bI (cmV (I (q + 5) j) (opV (I 13) (I (q + 6) j)) (opV (I 13) (I (q + 7) j))))], Mh D I P N) := by
  have key : ∀ x2 x2', bt x2 (-5) 9999 = true → bt x2' (-5) 9999 = true → Rn X d 76 19 [.ref q, .int (Int32.ofNat j), .ref 13, .int ((-1) - x2), .int ((-1) - x2'), U_, U_, U_] [] (Mh D I P N) = some ([.int (bI (cmV (I (q + 5) j) (opW (I 13) (I (q + 6) j) ((-1) - x2)) (opW (I 13) (I (q + 7) j) ((-1) - x2'))))], Mh D I P N) := by
    intro x2 x2' h2 h2'
    refine C_cmp19 h hj (fun hn => ?_) (fun hn => ?_)
    · have := op_b h2; rw [this.1] at hn; exact (this.2 (by omega)).2
    · have := op_b h2'; rw [this.1] at hn; exact (this.2 (by omega)).2
  rw [B76_0, (rdR5 h).2.2.2.2.2.2.2.1, Option.bind_some, rdR100 h (by decide) (by decide) hj, Option.bind_some, B76_9, (rdR5 h).2.2.2.2.2.2.2.2.1, Option.bind_some, rdR100 h (by decide) (by decide) hj, Option.bind_some]
  exact key _ _ hL hR
end ClsB
