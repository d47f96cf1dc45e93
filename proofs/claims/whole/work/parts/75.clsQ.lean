/-! the class reads tokens -/
def cBy (I : Nat → Nat → Int32) (n i : Nat) : Int32 := if i < n then I 49 i else 0
def bOf (I : Nat → Nat → Int32) (n : Nat) : Nat → Int32 := fun i => if bt (cBy I n i) 1 127 = true then cBy I n i else 0
def TxC (I : Nat → Nat → Int32) (P : Nat → Nat → Option Nat) (b : Nat → Int32) (n : Nat) : Prop := P 36 0 = some 49 ∧ I 36 1 = Int32.ofNat n ∧ n ≤ 200 ∧ ∀ i, Alk (cBy I n i) (b i)
theorem bOf_alk {I : Nat → Nat → Int32} {n i : Nat} : Alk (cBy I n i) (bOf I n i) := by
  unfold bOf
  cases h : bt (cBy I n i) 1 127 with
  | true => rw [if_pos rfl]; exact Or.inl rfl
  | false => rw [if_neg (by decide)]; exact Or.inr ⟨rfl, h⟩
def splB : Nat → List (List Int32) → Bool
  | s, [] => decide (s = 91)
  | s, u :: L => decide (subL pTC s u.length = u) && (List.range u.length).all (fun k => !decide (pTC (s + k) = 32)) && (decide (s + u.length = 90) || (decide (s + u.length < 90) && decide (pTC (s + u.length) = 32))) && splB (s + u.length + 1) L
theorem spl_ok : splB 0 WL = true := by decide +kernel
/-- the arrays hold the tokens at these places -/
def TkR (I : Nat → Nat → Int32) (b : Nat → Int32) (n : Nat) (L : List Nat) : Prop := I 36 5 = Int32.ofNat L.length ∧ ∀ j p, L[j]? = some p → I 38 j = srF b n p ∧ I 39 j = vaF b n p ∧ I 40 j = Int32.ofNat p
section ClsQ
variable {X : mX} {d : Nat} {D : Nat → Nat × Nat} {I : Nat → Nat → Int32} {P : Nat → Nat → Option Nat} {N : Nat} {h : mH} {b : Nat → Int32} {J K K' : Nat → Nat → Int32} {n i j k p o m l s : Nat} {c x a y : Int32} {T : List Nat} {l3 l5 : Value}
theorem TxC.of (hx : TxC I P b n) (h1 : K 36 1 = I 36 1) (h2 : K 49 = I 49) : TxC K P b n := by
  refine ⟨hx.1, h1.trans hx.2.1, hx.2.2.1, fun i => ?_⟩
  have := hx.2.2.2 i
  unfold cBy at this ⊢
  rw [h2]; exact this
theorem K2_byt (hx : TxC I P b n) (hi : i ≤ 300) : Rn X d 62 0 [.ref 36, .int (Int32.ofNat i)] [] (Mh D I P N) = some ([.int (cBy I n i)], Mh D I P N) := by
  obtain ⟨h1, h2, h3, -⟩ := hx
  have n0 : ¬ Int32.ofNat i < 0 := iN_neg (by omega)
  unfold cBy
  simp only [B62_0, n0, RDc, h1, h2, Option.bind_some, List.append_nil, List.nil_append, List.cons_append, cond_true, cond_false, if_true, if_false, ite_true, ite_false, reduceIte, IC, bI_0, bI_1, bF, Bool.not_eq_false, Bool.not_eq_true, Bool.and_true, Bool.true_and, Bool.and_false, Bool.false_and, Bool.true_or, Bool.or_true, Bool.or_false, Bool.false_or, Bool.not_true, Bool.not_false, decide_true, decide_false, not_true_eq_false, not_false_eq_true, eq_self, Bool.true_eq_false, Bool.false_eq_true]
  by_cases h : i < n
  · have hl : ¬ Int32.ofNat n ≤ Int32.ofNat i := by rw [iN_le (by omega) (by omega)]; omega
    have hl2 : ¬ Int32.ofNat 200 ≤ Int32.ofNat i := by rw [iN_le (by omega) (by omega)]; omega
    have hm := mib_N (j := i) (n := 200) (by omega) (by decide)
    have e0 : (Int32.ofNat i).toNatClampNeg = i := iN_cl (by omega)
    simp only [hl, hl2, h, hm, e0, Option.bind_some, List.append_nil, List.nil_append, List.cons_append, cond_true, cond_false, if_true, if_false, ite_true, ite_false, reduceIte, IC, bI_0, bI_1, bF, Bool.not_eq_false, Bool.not_eq_true, Bool.and_true, Bool.true_and, Bool.and_false, Bool.false_and, Bool.true_or, Bool.or_true, Bool.or_false, Bool.false_or, Bool.not_true, Bool.not_false, decide_true, decide_false, not_true_eq_false, not_false_eq_true, eq_self, Bool.true_eq_false, Bool.false_eq_true, RDc, B62_31]
  · have hl : Int32.ofNat n ≤ Int32.ofNat i := by rw [iN_le (by omega) (by omega)]; omega
    simp only [hl, h, Option.bind_some, List.append_nil, List.nil_append, List.cons_append, cond_true, cond_false, if_true, if_false, ite_true, ite_false, reduceIte, IC, bI_0, bI_1, bF, Bool.not_eq_false, Bool.not_eq_true, Bool.and_true, Bool.true_and, Bool.and_false, Bool.false_and, Bool.true_or, Bool.or_true, Bool.or_false, Bool.false_or, Bool.not_true, Bool.not_false, decide_true, decide_false, not_true_eq_false, not_false_eq_true, eq_self, Bool.true_eq_false, Bool.false_eq_true, B62_30, B62_31]
theorem K2_let : Rn X d 63 0 [.int x] [] h = some ([.int (bI (isLt x))], h) := by
  have e1 : (97 : Int32).toInt = 97 := rfl
  have e2 : (122 : Int32).toInt = 122 := rfl
  cases hb : isLt x with
  | true =>
    have h1 := bt_iff.mp hb
    have q1 : ¬ x < 97 := by rw [Int32.lt_iff_toInt_lt, e1]; omega
    have q2 : ¬ (122 : Int32) < x := by rw [Int32.lt_iff_toInt_lt, e2]; omega
    simp only [B63_0, q1, q2, Option.bind_some, List.append_nil, List.nil_append, List.cons_append, cond_true, cond_false, if_true, if_false, ite_true, ite_false, reduceIte, IC, bI_0, bI_1, bF, Bool.not_eq_false, Bool.not_eq_true, Bool.and_true, Bool.true_and, Bool.and_false, Bool.false_and, Bool.true_or, Bool.or_true, Bool.or_false, Bool.false_or, Bool.not_true, Bool.not_false, decide_true, decide_false, not_true_eq_false, not_false_eq_true, eq_self, Bool.true_eq_false, Bool.false_eq_true, B63_17]; rfl
  | false =>
    have h1 := bt_no.mp hb
    by_cases q1 : x < 97
    · simp only [B63_0, q1, Option.bind_some, List.append_nil, List.nil_append, List.cons_append, cond_true, cond_false, if_true, if_false, ite_true, ite_false, reduceIte, IC, bI_0, bI_1, bF, Bool.not_eq_false, Bool.not_eq_true, Bool.and_true, Bool.true_and, Bool.and_false, Bool.false_and, Bool.true_or, Bool.or_true, Bool.or_false, Bool.false_or, Bool.not_true, Bool.not_false, decide_true, decide_false, not_true_eq_false, not_false_eq_true, eq_self, Bool.true_eq_false, Bool.false_eq_true, B63_16, B63_17]; rfl
    · have q2 : (122 : Int32) < x := by
        rw [Int32.lt_iff_toInt_lt, e1] at q1
        rw [Int32.lt_iff_toInt_lt, e2]; omega
      simp only [B63_0, q1, q2, Option.bind_some, List.append_nil, List.nil_append, List.cons_append, cond_true, cond_false, if_true, if_false, ite_true, ite_false, reduceIte, IC, bI_0, bI_1, bF, Bool.not_eq_false, Bool.not_eq_true, Bool.and_true, Bool.true_and, Bool.and_false, Bool.false_and, Bool.true_or, Bool.or_true, Bool.or_false, Bool.false_or, Bool.not_true, Bool.not_false, decide_true, decide_false, not_true_eq_false, not_false_eq_true, eq_self, Bool.true_eq_false, Bool.false_eq_true, B63_16, B63_17]; rfl
theorem K2_dig : Rn X d 64 0 [.int x] [] h = some ([.int (bI (isDg x))], h) := by
  have e1 : (48 : Int32).toInt = 48 := rfl
  have e2 : (57 : Int32).toInt = 57 := rfl
  cases hb : isDg x with
  | true =>
    have h1 := bt_iff.mp hb
    have q1 : ¬ x < 48 := by rw [Int32.lt_iff_toInt_lt, e1]; omega
    have q2 : ¬ (57 : Int32) < x := by rw [Int32.lt_iff_toInt_lt, e2]; omega
    simp only [B64_0, q1, q2, Option.bind_some, List.append_nil, List.nil_append, List.cons_append, cond_true, cond_false, if_true, if_false, ite_true, ite_false, reduceIte, IC, bI_0, bI_1, bF, Bool.not_eq_false, Bool.not_eq_true, Bool.and_true, Bool.true_and, Bool.and_false, Bool.false_and, Bool.true_or, Bool.or_true, Bool.or_false, Bool.false_or, Bool.not_true, Bool.not_false, decide_true, decide_false, not_true_eq_false, not_false_eq_true, eq_self, Bool.true_eq_false, Bool.false_eq_true, B64_17]; rfl
  | false =>
    have h1 := bt_no.mp hb
    by_cases q1 : x < 48
    · simp only [B64_0, q1, Option.bind_some, List.append_nil, List.nil_append, List.cons_append, cond_true, cond_false, if_true, if_false, ite_true, ite_false, reduceIte, IC, bI_0, bI_1, bF, Bool.not_eq_false, Bool.not_eq_true, Bool.and_true, Bool.true_and, Bool.and_false, Bool.false_and, Bool.true_or, Bool.or_true, Bool.or_false, Bool.false_or, Bool.not_true, Bool.not_false, decide_true, decide_false, not_true_eq_false, not_false_eq_true, eq_self, Bool.true_eq_false, Bool.false_eq_true, B64_16, B64_17]; rfl
    · have q2 : (57 : Int32) < x := by
        rw [Int32.lt_iff_toInt_lt, e1] at q1
        rw [Int32.lt_iff_toInt_lt, e2]; omega
      simp only [B64_0, q1, q2, Option.bind_some, List.append_nil, List.nil_append, List.cons_append, cond_true, cond_false, if_true, if_false, ite_true, ite_false, reduceIte, IC, bI_0, bI_1, bF, Bool.not_eq_false, Bool.not_eq_true, Bool.and_true, Bool.true_and, Bool.and_false, Bool.false_and, Bool.true_or, Bool.or_true, Bool.or_false, Bool.false_or, Bool.not_true, Bool.not_false, decide_true, decide_false, not_true_eq_false, not_false_eq_true, eq_self, Bool.true_eq_false, Bool.false_eq_true, B64_16, B64_17]; rfl
theorem K2_er1 (hx : TxC I P b n) : ∀ k j, j + k = n → Rn X (d + 1) 65 23 [.ref 36, .int y, .int (bI (isLt c)), .int (bI (isDg c)), .int (Int32.ofNat j)] [] (Mh D I P N) = some ([.int (Int32.ofNat (enF b c k j))], Mh D I P N)
  | 0, j, hk => by
    rw [B65_23]
    simp only [RDc, Option.bind_some, List.append_nil, List.nil_append, List.cons_append, cond_true, cond_false, if_true, if_false, ite_true, ite_false, reduceIte, IC, bI_0, bI_1, bF, Bool.not_eq_false, Bool.not_eq_true, Bool.and_true, Bool.true_and, Bool.and_false, Bool.false_and, Bool.true_or, Bool.or_true, Bool.or_false, Bool.false_or, Bool.not_true, Bool.not_false, decide_true, decide_false, not_true_eq_false, not_false_eq_true, eq_self, Bool.true_eq_false, Bool.false_eq_true, hx.2.1, show j = n by omega, Int32.le_refl, B65_70]
    rfl
  | k + 1, j, hk => by
    have hn := hx.2.2.1
    have hl : ¬ Int32.ofNat n ≤ Int32.ofNat j := by rw [iN_le (by omega) (by omega)]; omega
    have hb := K2_byt (X := X) (d := d) (D := D) (I := I) (P := P) (N := N) hx (show j ≤ 300 by omega)
    have ha := hx.2.2.2 j
    have ih := K2_er1 hx k (j + 1) (by omega)
    have n10 : ¬ (1 : Int32) = 0 := by decide
    rw [B65_23, show enF b c (k + 1) j = bif ruC c (b j) then enF b c k (j + 1) else j from rfl]
    unfold ruC
    simp only [RDc, Option.bind_some, List.append_nil, List.nil_append, List.cons_append, cond_true, cond_false, if_true, if_false, ite_true, ite_false, reduceIte, IC, bI_0, bI_1, bF, Bool.not_eq_false, Bool.not_eq_true, Bool.and_true, Bool.true_and, Bool.and_false, Bool.false_and, Bool.true_or, Bool.or_true, Bool.or_false, Bool.false_or, Bool.not_true, Bool.not_false, decide_true, decide_false, not_true_eq_false, not_false_eq_true, eq_self, Bool.true_eq_false, Bool.false_eq_true, hx.2.1, hl]
    cases h1 : isLt c with
    | true =>
      rw [lt_dg h1]
      rw [h1, lt_dg h1] at ih
      simp only [bI_t, bI_f, n10, Option.bind_some, List.append_nil, List.nil_append, List.cons_append, cond_true, cond_false, if_true, if_false, ite_true, ite_false, reduceIte, IC, bI_0, bI_1, bF, Bool.not_eq_false, Bool.not_eq_true, Bool.and_true, Bool.true_and, Bool.and_false, Bool.false_and, Bool.true_or, Bool.or_true, Bool.or_false, Bool.false_or, Bool.not_true, Bool.not_false, decide_true, decide_false, not_true_eq_false, not_false_eq_true, eq_self, Bool.true_eq_false, Bool.false_eq_true, IC, hb, B65_42, K2_let, ha.lt, B65_45]
      cases isLt (b j) with
      | true =>
        simp only [bI_t, bI_f, Option.bind_some, List.append_nil, List.nil_append, List.cons_append, cond_true, cond_false, if_true, if_false, ite_true, ite_false, reduceIte, IC, bI_0, bI_1, bF, Bool.not_eq_false, Bool.not_eq_true, Bool.and_true, Bool.true_and, Bool.and_false, Bool.false_and, Bool.true_or, Bool.or_true, Bool.or_false, Bool.false_or, Bool.not_true, Bool.not_false, decide_true, decide_false, not_true_eq_false, not_false_eq_true, eq_self, Bool.true_eq_false, Bool.false_eq_true, B65_64, IX] at ih ⊢
        exact ih
      | false => simp only [bI_t, bI_f, Option.bind_some, List.append_nil, List.nil_append, List.cons_append, cond_true, cond_false, if_true, if_false, ite_true, ite_false, reduceIte, IC, bI_0, bI_1, bF, Bool.not_eq_false, Bool.not_eq_true, Bool.and_true, Bool.true_and, Bool.and_false, Bool.false_and, Bool.true_or, Bool.or_true, Bool.or_false, Bool.false_or, Bool.not_true, Bool.not_false, decide_true, decide_false, not_true_eq_false, not_false_eq_true, eq_self, Bool.true_eq_false, Bool.false_eq_true, B65_48, B65_70]
    | false =>
      rw [h1] at ih
      cases h2 : isDg c with
      | true =>
        rw [h2] at ih
        simp only [bI_t, bI_f, n10, Option.bind_some, List.append_nil, List.nil_append, List.cons_append, cond_true, cond_false, if_true, if_false, ite_true, ite_false, reduceIte, IC, bI_0, bI_1, bF, Bool.not_eq_false, Bool.not_eq_true, Bool.and_true, Bool.true_and, Bool.and_false, Bool.false_and, Bool.true_or, Bool.or_true, Bool.or_false, Bool.false_or, Bool.not_true, Bool.not_false, decide_true, decide_false, not_true_eq_false, not_false_eq_true, eq_self, Bool.true_eq_false, Bool.false_eq_true, B65_48, IC, hb, B65_58, K2_dig, ha.dg, B65_61]
        cases isDg (b j) with
        | true =>
          simp only [bI_t, bI_f, Option.bind_some, List.append_nil, List.nil_append, List.cons_append, cond_true, cond_false, if_true, if_false, ite_true, ite_false, reduceIte, IC, bI_0, bI_1, bF, Bool.not_eq_false, Bool.not_eq_true, Bool.and_true, Bool.true_and, Bool.and_false, Bool.false_and, Bool.true_or, Bool.or_true, Bool.or_false, Bool.false_or, Bool.not_true, Bool.not_false, decide_true, decide_false, not_true_eq_false, not_false_eq_true, eq_self, Bool.true_eq_false, Bool.false_eq_true, B65_64, IX] at ih ⊢
          exact ih
        | false => simp only [bI_t, bI_f, Option.bind_some, List.append_nil, List.nil_append, List.cons_append, cond_true, cond_false, if_true, if_false, ite_true, ite_false, reduceIte, IC, bI_0, bI_1, bF, Bool.not_eq_false, Bool.not_eq_true, Bool.and_true, Bool.true_and, Bool.and_false, Bool.false_and, Bool.true_or, Bool.or_true, Bool.or_false, Bool.false_or, Bool.not_true, Bool.not_false, decide_true, decide_false, not_true_eq_false, not_false_eq_true, eq_self, Bool.true_eq_false, Bool.false_eq_true, B65_70]
      | false => simp only [bI_t, bI_f, Option.bind_some, List.append_nil, List.nil_append, List.cons_append, cond_true, cond_false, if_true, if_false, ite_true, ite_false, reduceIte, IC, bI_0, bI_1, bF, Bool.not_eq_false, Bool.not_eq_true, Bool.and_true, Bool.true_and, Bool.and_false, Bool.false_and, Bool.true_or, Bool.or_true, Bool.or_false, Bool.false_or, Bool.not_true, Bool.not_false, decide_true, decide_false, not_true_eq_false, not_false_eq_true, eq_self, Bool.true_eq_false, Bool.false_eq_true, B65_48, B65_70]
theorem K2_eor (hx : TxC I P b n) (hp : p < n) : Rn X (d + 1) 65 0 [.ref 36, .int (Int32.ofNat p), U_, U_, U_] [] (Mh D I P N) = some ([.int (Int32.ofNat (enP b n p))], Mh D I P N) := by
  have hn := hx.2.2.1
  have hb := K2_byt (X := X) (d := d) (D := D) (I := I) (P := P) (N := N) hx (show p ≤ 300 by omega)
  have ha := hx.2.2.2 p
  have h1 := K2_er1 (X := X) (d := d) (D := D) (N := N) (c := b p) (y := Int32.ofNat p) hx (n - (p + 1)) (p + 1) (by omega)
  simp only [B65_0, IC, hb, Option.bind_some, List.append_nil, List.nil_append, List.cons_append, cond_true, cond_false, if_true, if_false, ite_true, ite_false, reduceIte, IC, bI_0, bI_1, bF, Bool.not_eq_false, Bool.not_eq_true, Bool.and_true, Bool.true_and, Bool.and_false, Bool.false_and, Bool.true_or, Bool.or_true, Bool.or_false, Bool.false_or, Bool.not_true, Bool.not_false, decide_true, decide_false, not_true_eq_false, not_false_eq_true, eq_self, Bool.true_eq_false, Bool.false_eq_true, B65_5, K2_let, ha.lt, B65_8, B65_14, K2_dig, ha.dg, B65_17, IX]
  exact h1
theorem ofsub (h : j ≤ i) : Int32.ofNat i - Int32.ofNat j = Int32.ofNat (i - j) := (Int32.ofNat_sub _ _ h).symm
theorem K2_sam (hx : TxC I P b n) (hl : ∀ j, p ≤ j → j < p + l → isLt (b j) = true) (hp : p + l ≤ n) (hs : s + l ≤ 90) : ∀ m k (l5 : Value), k + m = l → Rn X (d + 1) 68 3 [.ref 36, .int (Int32.ofNat p), .int (Int32.ofNat (p + l)), .int (Int32.ofNat s), .int (Int32.ofNat k), l5] [] (Mh D I P N) = some ([.int (bI (decide (subL b (p + k) m = subL pTC (s + k) m)))], Mh D I P N)
  | 0, k, l5, hk => by
    have hn := hx.2.2.1
    rw [B68_3, ofsub (by omega), show p + l - p = l by omega, if_pos (by rw [iN_le (by omega) (by omega)]; omega)]
    rfl
  | m + 1, k, l5, hk => by
    have hn := hx.2.2.1
    have hb := K2_byt (X := X) (d := d) (D := D) (I := I) (P := P) (N := N) hx (show p + k ≤ 300 by omega)
    have ha := (hx.2.2.2 (p + k)).id (Or.inl (hl (p + k) (by omega) (by omega)))
    have hm : mib (Int32.ofNat (s + k)) pTL = true := mib_N (j := s + k) (n := 90) (by omega) (by decide)
    have n0 : ¬ Int32.ofNat (s + k) < 0 := iN_neg (by omega)
    have n90 : ¬ Int32.ofNat pTL ≤ Int32.ofNat (s + k) := by
      show ¬ Int32.ofNat 90 ≤ _
      rw [iN_le (by omega) (by omega)]; omega
    have e1 : Int32.ofNat s + Int32.ofNat k = Int32.ofNat (s + k) := (Int32.ofNat_add _ _).symm
    have e2 : Int32.ofNat p + Int32.ofNat k = Int32.ofNat (p + k) := (Int32.ofNat_add _ _).symm
    have e0 : (Int32.ofNat (s + k)).toNatClampNeg = s + k := iN_cl (by omega)
    have ih := K2_sam hx hl hp hs m (k + 1) (.int (Int32.ofNat (s + k))) (by omega)
    rw [B68_3, ofsub (by omega), show p + l - p = l by omega, if_neg (by rw [iN_le (by omega) (by omega)]; omega)]
    simp only [e1, n0, n90, hm, e0, e2, IC, hb, ha, Option.bind_some, List.append_nil, List.nil_append, List.cons_append, cond_true, cond_false, if_true, if_false, ite_true, ite_false, reduceIte, IC, bI_0, bI_1, bF, Bool.not_eq_false, Bool.not_eq_true, Bool.and_true, Bool.true_and, Bool.and_false, Bool.false_and, Bool.true_or, Bool.or_true, Bool.or_false, Bool.false_or, Bool.not_true, Bool.not_false, decide_true, decide_false, not_true_eq_false, not_false_eq_true, eq_self, Bool.true_eq_false, Bool.false_eq_true, B68_47]
    show _ = some ([Value.int (bI (decide (b (p + k) :: subL b (p + k + 1) m = pTC (s + k) :: subL pTC (s + k + 1) m)))], _)
    by_cases he : pTC (s + k) = b (p + k)
    · simp only [he, Option.bind_some, List.append_nil, List.nil_append, List.cons_append, cond_true, cond_false, if_true, if_false, ite_true, ite_false, reduceIte, IC, bI_0, bI_1, bF, Bool.not_eq_false, Bool.not_eq_true, Bool.and_true, Bool.true_and, Bool.and_false, Bool.false_and, Bool.true_or, Bool.or_true, Bool.or_false, Bool.false_or, Bool.not_true, Bool.not_false, decide_true, decide_false, not_true_eq_false, not_false_eq_true, eq_self, Bool.true_eq_false, Bool.false_eq_true, IX]
      rw [ih]
      have : (b (p + k) :: subL b (p + k + 1) m = b (p + k) :: subL pTC (s + k + 1) m) = (subL b (p + (k + 1)) m = subL pTC (s + (k + 1)) m) := propext ⟨fun q => (List.cons.inj q).2, fun q => by rw [show p + k + 1 = p + (k + 1) from rfl, q]; rfl⟩
      simp only [this]
    · have hne : ¬ (b (p + k) :: subL b (p + k + 1) m = pTC (s + k) :: subL pTC (s + k + 1) m) := fun q => he (List.cons.inj q).1.symm
      rw [if_neg he, decide_eq_false hne, B68_50]
      rfl
theorem K2_adv {w g : Int32} : ∀ m c, (∀ k, k < m → ¬ pTC (c + k) = 32) → c + m ≤ 90 → Rn X (d + 2) 67 8 [.ref 36, .int x, .int y, .int w, .int g, .int (Int32.ofNat c)] [] h = Rn X (d + 2) 67 8 [.ref 36, .int x, .int y, .int w, .int g, .int (Int32.ofNat (c + m))] [] h
  | 0, c, _, _ => rfl
  | m + 1, c, hk, hc => by
    have h1 : ¬ Int32.ofNat pTL < Int32.ofNat c := by
      show ¬ Int32.ofNat 90 < _
      rw [iN_lt (by omega) (by omega)]; omega
    have h2 : ¬ Int32.ofNat c = Int32.ofNat pTL := by
      show ¬ _ = Int32.ofNat 90
      rw [iN_inj (by omega) (by omega)]; omega
    have hm : mib (Int32.ofNat c) pTL = true := mib_N (j := c) (n := 90) (by omega) (by decide)
    have e0 : (Int32.ofNat c).toNatClampNeg = c := iN_cl (by omega)
    have h32 := hk 0 (by omega)
    rw [Nat.add_zero] at h32
    have ih := K2_adv (w := w) (g := g) m (c + 1) (fun k q => by rw [show c + 1 + k = c + (k + 1) by omega]; exact hk (k + 1) (by omega)) (by omega)
    rw [show c + (m + 1) = c + 1 + m by omega, ← ih, B67_8]
    simp only [h1, h2, hm, e0, h32, Option.bind_some, List.append_nil, List.nil_append, List.cons_append, cond_true, cond_false, if_true, if_false, ite_true, ite_false, reduceIte, IC, bI_0, bI_1, bF, Bool.not_eq_false, Bool.not_eq_true, Bool.and_true, Bool.true_and, Bool.and_false, Bool.false_and, Bool.true_or, Bool.or_true, Bool.or_false, Bool.false_or, Bool.not_true, Bool.not_false, decide_true, decide_false, not_true_eq_false, not_false_eq_true, eq_self, Bool.true_eq_false, Bool.false_eq_true, B67_73, IX]
theorem K2_wg (hx : TxC I P b n) (hl : ∀ j, p ≤ j → j < p + l → isLt (b j) = true) (hp : p + l ≤ n) : ∀ (L : List (List Int32)) j s, splB s L = true → s ≤ 91 → j + L.length ≤ 100 → Rn X (d + 2) 67 8 [.ref 36, .int (Int32.ofNat p), .int (Int32.ofNat (p + l)), .int (Int32.ofNat j), .int (Int32.ofNat s), .int (Int32.ofNat s)] [] (Mh D I P N) = some ([.int (wdF j L (subL b p l))], Mh D I P N)
  | [], j, s, hs, _, hj => by
    have : s = 91 := by simpa [splB] using hs
    subst this
    have h1 : Int32.ofNat pTL < Int32.ofNat 91 := by decide
    rw [B67_8, if_pos h1]
    rfl
  | u :: L, j, s, hs, h91, hj => by
    have hn := hx.2.2.1
    simp only [splB, Bool.and_eq_true, Bool.or_eq_true, decide_eq_true_eq, List.all_eq_true, List.mem_range, Bool.not_eq_true', decide_eq_false_iff_not] at hs
    obtain ⟨⟨⟨hu, h32⟩, hend⟩, hL⟩ := hs
    have hs90 : s + u.length ≤ 90 := by omega
    have ad := K2_adv (X := X) (d := d) (h := Mh D I P N) (x := Int32.ofNat p) (y := Int32.ofNat (p + l)) (w := Int32.ofNat j) (g := Int32.ofNat s) u.length s h32 hs90
    have ih := K2_wg hx hl hp L (j + 1) (s + u.length + 1) hL (by omega) (by simp at hj; omega)
    have to40 : Rn X (d + 2) 67 8 [.ref 36, .int (Int32.ofNat p), .int (Int32.ofNat (p + l)), .int (Int32.ofNat j), .int (Int32.ofNat s), .int (Int32.ofNat (s + u.length))] [] (Mh D I P N) = Rn X (d + 2) 67 40 [.ref 36, .int (Int32.ofNat p), .int (Int32.ofNat (p + l)), .int (Int32.ofNat j), .int (Int32.ofNat s), .int (Int32.ofNat (s + u.length))] [] (Mh D I P N) := by
      have h1 : ¬ Int32.ofNat pTL < Int32.ofNat (s + u.length) := by
        show ¬ Int32.ofNat 90 < _
        rw [iN_lt (by omega) (by omega)]; omega
      rw [B67_8, if_neg h1]
      rcases hend with he | ⟨he1, he2⟩
      · rw [if_pos (by rw [he]; rfl)]
      · have h2 : ¬ Int32.ofNat (s + u.length) = Int32.ofNat pTL := by
          show ¬ _ = Int32.ofNat 90
          rw [iN_inj (by omega) (by omega)]; omega
        have hm : mib (Int32.ofNat (s + u.length)) pTL = true := mib_N (j := s + u.length) (n := 90) he1 (by decide)
        have e0 : (Int32.ofNat (s + u.length)).toNatClampNeg = s + u.length := iN_cl (by omega)
        rw [if_neg h2]
        simp only [hm, e0, he2, Option.bind_some, List.append_nil, List.nil_append, List.cons_append, cond_true, cond_false, if_true, if_false, ite_true, ite_false, reduceIte, IC, bI_0, bI_1, bF, Bool.not_eq_false, Bool.not_eq_true, Bool.and_true, Bool.true_and, Bool.and_false, Bool.false_and, Bool.true_or, Bool.or_true, Bool.or_false, Bool.false_or, Bool.not_true, Bool.not_false, decide_true, decide_false, not_true_eq_false, not_false_eq_true, eq_self, Bool.true_eq_false, Bool.false_eq_true]
    have to8 : Rn X (d + 2) 67 64 [.ref 36, .int (Int32.ofNat p), .int (Int32.ofNat (p + l)), .int (Int32.ofNat j), .int (Int32.ofNat s), .int (Int32.ofNat (s + u.length))] [] (Mh D I P N) = some ([.int (wdF (j + 1) L (subL b p l))], Mh D I P N) := by
      rw [← ih]
      simp only [B67_64, B67_73, IX]
    rw [ad, to40, B67_40, ofsub (by omega), ofsub (by omega), show s + u.length - s = u.length by omega, show p + l - p = l by omega]
    simp only [wdF]
    by_cases hlen : u.length = l
    · have hsm := K2_sam (X := X) (d := d) (D := D) (N := N) (s := s) hx hl hp (by omega) l 0 U_ (by omega)
      have he : (subL b p l = u) = (subL b (p + 0) l = subL pTC (s + 0) l) := by rw [Nat.add_zero, Nat.add_zero, ← hlen, hu]
      rw [if_neg (by rw [hlen]; exact fun q => q rfl)]
      simp only [B68_0, IC, Option.bind_some, List.append_nil, List.nil_append, List.cons_append, cond_true, cond_false, if_true, if_false, ite_true, ite_false, reduceIte, IC, bI_0, bI_1, bF, Bool.not_eq_false, Bool.not_eq_true, Bool.and_true, Bool.true_and, Bool.and_false, Bool.false_and, Bool.true_or, Bool.or_true, Bool.or_false, Bool.false_or, Bool.not_true, Bool.not_false, decide_true, decide_false, not_true_eq_false, not_false_eq_true, eq_self, Bool.true_eq_false, Bool.false_eq_true]
      rw [show (Value.int 0) = Value.int (Int32.ofNat 0) from rfl, hsm]
      simp only [Option.bind_some, List.append_nil, List.nil_append, List.cons_append, cond_true, cond_false, if_true, if_false, ite_true, ite_false, reduceIte, IC, bI_0, bI_1, bF, Bool.not_eq_false, Bool.not_eq_true, Bool.and_true, Bool.true_and, Bool.and_false, Bool.false_and, Bool.true_or, Bool.or_true, Bool.or_false, Bool.false_or, Bool.not_true, Bool.not_false, decide_true, decide_false, not_true_eq_false, not_false_eq_true, eq_self, Bool.true_eq_false, Bool.false_eq_true, B67_59]
      by_cases hw : subL b p l = u
      · have hw2 := hw
        rw [he] at hw2
        rw [decide_eq_true hw2, if_neg (by decide), if_pos hw]
      · have hw2 := hw
        rw [he] at hw2
        rw [decide_eq_false hw2, if_pos rfl, to8, if_neg hw]
    · have hne : ¬ subL b p l = u := fun q => hlen (by rw [← q, subL_len])
      rw [if_pos (by rw [iN_inj (by omega) (by omega)]; exact hlen), to8, if_neg hne]
theorem K2_wrd (hx : TxC I P b n) (hl : ∀ j, p ≤ j → j < p + l → isLt (b j) = true) (hp : p + l ≤ n) : Rn X (d + 2) 67 0 [.ref 36, .int (Int32.ofNat p), .int (Int32.ofNat (p + l)), U_, U_, U_] [] (Mh D I P N) = some ([.int (wdI (subL b p l))], Mh D I P N) := by
  rw [B67_0]
  exact K2_wg (X := X) (d := d) (D := D) (N := N) hx hl hp WL 0 0 spl_ok (by omega) (by decide)
theorem K2_srt (hx : TxC I P b n) (hp : p < n) : Rn X (d + 3) 66 0 [.ref 36, .int (Int32.ofNat p), .int (Int32.ofNat (enP b n p)), U_, U_] [] (Mh D I P N) = some ([.int (srF b n p)], Mh D I P N) := by
  have hn := hx.2.2.1
  have he := enP_b (b := b) hp
  have hb := K2_byt (X := X) (d := d + 2) (D := D) (I := I) (P := P) (N := N) hx (show p ≤ 300 by omega)
  have ha := hx.2.2.2 p
  simp only [B66_0, IC, hb, Option.bind_some, List.append_nil, List.nil_append, List.cons_append, cond_true, cond_false, if_true, if_false, ite_true, ite_false, reduceIte, IC, bI_0, bI_1, bF, Bool.not_eq_false, Bool.not_eq_true, Bool.and_true, Bool.true_and, Bool.and_false, Bool.false_and, Bool.true_or, Bool.or_true, Bool.or_false, Bool.false_or, Bool.not_true, Bool.not_false, decide_true, decide_false, not_true_eq_false, not_false_eq_true, eq_self, Bool.true_eq_false, Bool.false_eq_true, B66_5, K2_let, ha.lt, B66_10]
  unfold srF
  cases hl : isLt (b p) with
  | true =>
    have hw := K2_wrd (X := X) (d := d) (D := D) (N := N) (p := p) (l := enP b n p - p) hx (fun j h1 h2 => tok_lt (n := n) hl h1 (by omega)) (by omega)
    rw [show p + (enP b n p - p) = enP b n p by omega] at hw
    simp only [Option.bind_some, List.append_nil, List.nil_append, List.cons_append, cond_true, cond_false, if_true, if_false, ite_true, ite_false, reduceIte, IC, bI_0, bI_1, bF, Bool.not_eq_false, Bool.not_eq_true, Bool.and_true, Bool.true_and, Bool.and_false, Bool.false_and, Bool.true_or, Bool.or_true, Bool.or_false, Bool.false_or, Bool.not_true, Bool.not_false, decide_true, decide_false, not_true_eq_false, not_false_eq_true, eq_self, Bool.true_eq_false, Bool.false_eq_true, IC, hw, B66_19]
  | false =>
    simp only [Option.bind_some, List.append_nil, List.nil_append, List.cons_append, cond_true, cond_false, if_true, if_false, ite_true, ite_false, reduceIte, IC, bI_0, bI_1, bF, Bool.not_eq_false, Bool.not_eq_true, Bool.and_true, Bool.true_and, Bool.and_false, Bool.false_and, Bool.true_or, Bool.or_true, Bool.or_false, Bool.false_or, Bool.not_true, Bool.not_false, decide_true, decide_false, not_true_eq_false, not_false_eq_true, eq_self, Bool.true_eq_false, Bool.false_eq_true, K2_dig, ha.dg, B66_24]
    cases hd : isDg (b p) with
    | true =>
      have e4 : (4 < Int32.ofNat (enP b n p - p)) = ¬ (enP b n p - p ≤ 4) := by
        rw [show (4 : Int32) = Int32.ofNat 4 from rfl, iN_lt (by omega) (by omega)]; exact propext ⟨fun q => by omega, fun q => by omega⟩
      simp only [Option.bind_some, List.append_nil, List.nil_append, List.cons_append, cond_true, cond_false, if_true, if_false, ite_true, ite_false, reduceIte, IC, bI_0, bI_1, bF, Bool.not_eq_false, Bool.not_eq_true, Bool.and_true, Bool.true_and, Bool.and_false, Bool.false_and, Bool.true_or, Bool.or_true, Bool.or_false, Bool.false_or, Bool.not_true, Bool.not_false, decide_true, decide_false, not_true_eq_false, not_false_eq_true, eq_self, Bool.true_eq_false, Bool.false_eq_true, ofsub (show p ≤ enP b n p by omega), e4]
      by_cases h4 : enP b n p - p ≤ 4
      · simp only [h4, Option.bind_some, List.append_nil, List.nil_append, List.cons_append, cond_true, cond_false, if_true, if_false, ite_true, ite_false, reduceIte, IC, bI_0, bI_1, bF, Bool.not_eq_false, Bool.not_eq_true, Bool.and_true, Bool.true_and, Bool.and_false, Bool.false_and, Bool.true_or, Bool.or_true, Bool.or_false, Bool.false_or, Bool.not_true, Bool.not_false, decide_true, decide_false, not_true_eq_false, not_false_eq_true, eq_self, Bool.true_eq_false, Bool.false_eq_true, B66_41]
      · simp only [h4, Option.bind_some, List.append_nil, List.nil_append, List.cons_append, cond_true, cond_false, if_true, if_false, ite_true, ite_false, reduceIte, IC, bI_0, bI_1, bF, Bool.not_eq_false, Bool.not_eq_true, Bool.and_true, Bool.true_and, Bool.and_false, Bool.false_and, Bool.true_or, Bool.or_true, Bool.or_false, Bool.false_or, Bool.not_true, Bool.not_false, decide_true, decide_false, not_true_eq_false, not_false_eq_true, eq_self, Bool.true_eq_false, Bool.false_eq_true, B66_41]
    | false =>
      have q60 := ha.eq (c := 60) (by decide)
      have q61 := ha.eq (c := 61) (by decide)
      have q62 := ha.eq (c := 62) (by decide)
      have q40 := ha.eq (c := 40) (by decide)
      have q41 := ha.eq (c := 41) (by decide)
      have q59 := ha.eq (c := 59) (by decide)
      have n10 : ¬ (1 : Int32) = 0 := by decide
      cases hs : sgn6 (b p) with
      | true =>
        have hcc : cBy I n p = b p := by
          rcases ha with h | ⟨h, -⟩
          · exact h
          · rw [h] at hs; exact absurd hs (by decide)
        rw [hcc]
        rcases sgn6_c hs with e | e | e | e | e | e <;> rw [e] <;> simp +decide only [Option.bind_some, List.append_nil, List.nil_append, List.cons_append, cond_true, cond_false, if_true, if_false, ite_true, ite_false, reduceIte, IC, bI_0, bI_1, bF, Bool.not_eq_false, Bool.not_eq_true, Bool.and_true, Bool.true_and, Bool.and_false, Bool.false_and, Bool.true_or, Bool.or_true, Bool.or_false, Bool.false_or, Bool.not_true, Bool.not_false, decide_true, decide_false, not_true_eq_false, not_false_eq_true, eq_self, Bool.true_eq_false, Bool.false_eq_true, B66_60, B66_65, B66_90, B66_96]
      | false =>
        have z : ∀ c : Int32, sgn6 c = true → ¬ b p = c := fun c hc e => by rw [e, hc] at hs; cases hs
        have c60 : ¬ cBy I n p = 60 := by rw [q60]; exact z 60 (by decide)
        have c61 : ¬ cBy I n p = 61 := by rw [q61]; exact z 61 (by decide)
        have c62 : ¬ cBy I n p = 62 := by rw [q62]; exact z 62 (by decide)
        have c40 : ¬ cBy I n p = 40 := by rw [q40]; exact z 40 (by decide)
        have c41 : ¬ cBy I n p = 41 := by rw [q41]; exact z 41 (by decide)
        have c59 : ¬ cBy I n p = 59 := by rw [q59]; exact z 59 (by decide)
        simp only [c60, c61, c62, c40, c41, c59, Option.bind_some, List.append_nil, List.nil_append, List.cons_append, cond_true, cond_false, if_true, if_false, ite_true, ite_false, reduceIte, IC, bI_0, bI_1, bF, Bool.not_eq_false, Bool.not_eq_true, Bool.and_true, Bool.true_and, Bool.and_false, Bool.false_and, Bool.true_or, Bool.or_true, Bool.or_false, Bool.false_or, Bool.not_true, Bool.not_false, decide_true, decide_false, not_true_eq_false, not_false_eq_true, eq_self, Bool.true_eq_false, Bool.false_eq_true, B66_65, B66_96]
theorem K2_vl1 (hx : TxC I P b n) (hj : j ≤ n) : ∀ k i a, i + k = j → (∀ q, i ≤ q → q < j → isDg (b q) = true) → Rn X (d + 1) 69 17 [.ref 36, .int x, .int y, .int (Int32.ofNat j), .int a, .int (Int32.ofNat i)] [] (Mh D I P N) = some ([.int (nuF b i k a)], Mh D I P N)
  | 0, i, a, hk, _ => by
    have hn := hx.2.2.1
    rw [B69_17, if_pos (by rw [iN_le (by omega) (by omega)]; omega)]
    rfl
  | k + 1, i, a, hk, hd => by
    have hn := hx.2.2.1
    have hb := K2_byt (X := X) (d := d) (D := D) (I := I) (P := P) (N := N) hx (show i ≤ 300 by omega)
    have ha := (hx.2.2.2 i).id (Or.inr (hd i (Nat.le_refl _) (by omega)))
    rw [B69_17, if_neg (by rw [iN_le (by omega) (by omega)]; omega)]
    simp only [IC, hb, ha, Option.bind_some, List.append_nil, List.nil_append, List.cons_append, cond_true, cond_false, if_true, if_false, ite_true, ite_false, reduceIte, IC, bI_0, bI_1, bF, Bool.not_eq_false, Bool.not_eq_true, Bool.and_true, Bool.true_and, Bool.and_false, Bool.false_and, Bool.true_or, Bool.or_true, Bool.or_false, Bool.false_or, Bool.not_true, Bool.not_false, decide_true, decide_false, not_true_eq_false, not_false_eq_true, eq_self, Bool.true_eq_false, Bool.false_eq_true, B69_34, IX]
    exact K2_vl1 hx hj k (i + 1) _ (by omega) (fun q h1 h2 => hd q (by omega) h2)
theorem K2_val (hx : TxC I P b n) (hp : p < n) : Rn X (d + 1) 69 0 [.ref 36, .int (srF b n p), .int (Int32.ofNat p), .int (Int32.ofNat (enP b n p)), U_, U_] [] (Mh D I P N) = some ([.int (vaF b n p)], Mh D I P N) := by
  have hn := hx.2.2.1
  have he := enP_b (b := b) hp
  unfold vaF
  rw [B69_0]
  by_cases h18 : srF b n p = 18
  · obtain ⟨k1, k2⟩ := sr_18 h18
    rw [if_pos h18, if_pos h18]
    exact K2_vl1 hx he.2 _ p 0 (by omega) (fun q h1 h2 => tok_dg (n := n) k1 h1 h2)
  · rw [if_neg h18, if_neg h18]
theorem rw38 (h : j < 200) : hAI 0 (Mh D I P N) 38 (Int32.ofNat j) = some (I 38 j) ∧ hAI 0 (Mh D I P N) 39 (Int32.ofNat j) = some (I 39 j) ∧ hAI 0 (Mh D I P N) 40 (Int32.ofNat j) = some (I 40 j) := by
  refine ⟨?_, ?_, ?_⟩
  · rw [rdA hN38 (n := 200) rfl rfl, mib_N h (by decide), iN_cl (by omega)]; rfl
  · rw [rdA hN39 (n := 200) rfl rfl, mib_N h (by decide), iN_cl (by omega)]; rfl
  · rw [rdA hN40 (n := 200) rfl rfl, mib_N h (by decide), iN_cl (by omega)]; rfl
theorem ww38 (h : j < 200) : (∀ I x, hAS 0 (Mh D I P N) 38 (Int32.ofNat j) x = some (Mh D (u2 I 38 j x) P N)) ∧ (∀ I x, hAS 0 (Mh D I P N) 39 (Int32.ofNat j) x = some (Mh D (u2 I 39 j x) P N)) ∧ (∀ I x, hAS 0 (Mh D I P N) 40 (Int32.ofNat j) x = some (Mh D (u2 I 40 j x) P N)) := by
  refine ⟨fun I x => ?_, fun I x => ?_, fun I x => ?_⟩
  · rw [wrA hN38 (n := 200) rfl rfl, mib_N h (by decide), iN_cl (by omega)]; rfl
  · rw [wrA hN39 (n := 200) rfl rfl, mib_N h (by decide), iN_cl (by omega)]; rfl
  · rw [wrA hN40 (n := 200) rfl rfl, mib_N h (by decide), iN_cl (by omega)]; rfl
def tkW (I : Nat → Nat → Int32) (m : Nat) (x y z : Int32) : Nat → Nat → Int32 := u2 (u2 (u2 (u2 I 38 m x) 39 m y) 40 m z) 36 5 (Int32.ofNat (m + 1))
theorem K2_sc1 (hx : TxC J P b n) : ∀ k i t (pre : List Nat) (l3 : Value) (I : Nat → Nat → Int32), i + k = n → t ≤ i → pre.length ≤ i → TkR I b n pre → (∀ c, c ≠ 36 → c ≠ 38 → c ≠ 39 → c ≠ 40 → I c = J c) → (∀ q, q ≠ 5 → I 36 q = J 36 q) →
    ∃ I', Rn X (d + 4) 61 9 [.ref 36, .int (Int32.ofNat i), .int (Int32.ofNat t), l3] [] (Mh D I P N) = some ([], Mh D I' P N) ∧ TkR I' b n (pre ++ tk b n i) ∧ (∀ c, c ≠ 36 → c ≠ 38 → c ≠ 39 → c ≠ 40 → I' c = J c) ∧ (∀ q, q ≠ 5 → I' 36 q = J 36 q) := by
  intro k
  induction k using Nat.strongRecOn with
  | ind k IH =>
  intro i t pre l3 I hk ht hpre hT hf1 hf2
  have hn := hx.2.2.1
  have hxI : TxC I P b n := hx.of (hf2 1 (by decide)) (hf1 49 (by decide) (by decide) (by decide) (by decide))
  by_cases hin : i < n
  · have ht2 : ¬ (200 : Int32) ≤ Int32.ofNat t := le_n (l := 200) (n := 200) rfl (by omega) (by omega) (by omega)
    have hl : ¬ Int32.ofNat n ≤ Int32.ofNat i := by rw [iN_le (by omega) (by omega)]; omega
    have he := enP_b (b := b) hin
    have e1 := K2_eor (X := X) (d := d + 2) (D := D) (I := I) (P := P) (N := N) hxI hin
    have hb := K2_byt (X := X) (d := d + 3) (D := D) (I := I) (P := P) (N := N) hxI (show i ≤ 300 by omega)
    have e32 := (hxI.2.2.2 i).eq (c := 32) (by decide)
    by_cases h32 : b i = 32
    · have he1 : enP b n i = i + 1 := by
        unfold enP
        rw [h32]
        generalize n - (i + 1) = kk
        cases kk with
        | zero => rfl
        | succ kk =>
          show (bif ruC 32 (b (i + 1)) then _ else _) = _
          rw [show ruC 32 (b (i + 1)) = false by unfold ruC; rw [show isLt 32 = false by decide, show isDg 32 = false by decide]; rfl]; rfl
      obtain ⟨I', r1, r2, r3, r4⟩ := IH (k - 1) (by omega) (i + 1) (t + 1) pre (.int (Int32.ofNat (i + 1))) I (by omega) (by omega) (by omega) hT hf1 hf2
      refine ⟨I', ?_, by rw [tk_b hin h32]; exact r2, r3, r4⟩
      rw [B61_9, if_neg ht2]
      simp only [RDc, hxI.2.1, hl, IC, e1, Option.bind_some, List.append_nil, List.nil_append, List.cons_append, cond_true, cond_false, if_true, if_false, ite_true, ite_false, reduceIte, IC, bI_0, bI_1, bF, Bool.not_eq_false, Bool.not_eq_true, Bool.and_true, Bool.true_and, Bool.and_false, Bool.false_and, Bool.true_or, Bool.or_true, Bool.or_false, Bool.false_or, Bool.not_true, Bool.not_false, decide_true, decide_false, not_true_eq_false, not_false_eq_true, eq_self, Bool.true_eq_false, Bool.false_eq_true, B61_29, hb, B61_35, e32, h32, B61_109, IX, he1]
      exact r1
    · have hm : ¬ (200 : Int32) ≤ Int32.ofNat pre.length := le_n (l := 200) (n := 200) rfl (by omega) (by omega) (by omega)
      have w := ww38 (D := D) (P := P) (N := N) (j := pre.length) (by omega)
      have es := K2_srt (X := X) (d := d) (D := D) (I := I) (P := P) (N := N) hxI hin
      have hxI2 : TxC (u2 I 38 pre.length (srF b n i)) P b n := hxI.of rfl rfl
      have ev := K2_val (X := X) (d := d + 2) (D := D) (I := u2 I 38 pre.length (srF b n i)) (P := P) (N := N) hxI2 hin
      have r38 : hAI 0 (Mh D (u2 I 38 pre.length (srF b n i)) P N) 38 (Int32.ofNat pre.length) = some (srF b n i) := by
        rw [(rw38 (by omega)).1, u2_s, upd_s]
      have t5 := hT.1
      have t5a : u2 I 38 pre.length (srF b n i) 36 5 = Int32.ofNat pre.length := t5
      have t5b : u2 (u2 I 38 pre.length (srF b n i)) 39 pre.length (vaF b n i) 36 5 = Int32.ofNat pre.length := t5
      have t5c : u2 (u2 (u2 I 38 pre.length (srF b n i)) 39 pre.length (vaF b n i)) 40 pre.length (Int32.ofNat i) 36 5 = Int32.ofNat pre.length := t5
      have hlen : (pre ++ [i]).length = pre.length + 1 := by rw [List.length_append]; rfl
      obtain ⟨I', r1, r2, r3, r4⟩ := IH (n - enP b n i) (by omega) (enP b n i) (t + 1) (pre ++ [i]) (.int (Int32.ofNat (enP b n i))) (tkW I pre.length (srF b n i) (vaF b n i) (Int32.ofNat i)) (by omega) (by omega) (by rw [hlen]; omega) (by
          refine ⟨by rw [hlen]; rfl, fun j p hj => ?_⟩
          show upd (I 38) pre.length (srF b n i) j = _ ∧ upd (I 39) pre.length (vaF b n i) j = _ ∧ upd (I 40) pre.length (Int32.ofNat i) j = _
          by_cases hjl : j < pre.length
          · rw [List.getElem?_append_left hjl] at hj
            rw [upd_o (by omega), upd_o (by omega), upd_o (by omega)]
            exact hT.2 j p hj
          · have hj0 : j = pre.length := by
              have := (List.getElem?_eq_some_iff.mp hj).1
              rw [hlen] at this; omega
            rw [hj0, List.getElem?_append_right (Nat.le_refl _), Nat.sub_self] at hj
            cases hj
            rw [hj0, upd_s, upd_s, upd_s]
            exact ⟨rfl, rfl, rfl⟩) (fun c h1 h2 h3 h4 => by
          unfold tkW
          rw [u2_o h1, u2_o h4, u2_o h3, u2_o h2]; exact hf1 c h1 h2 h3 h4) (fun q hq => by
          unfold tkW
          rw [u2_s, upd_o hq]; exact hf2 q hq)
      refine ⟨I', ?_, by rw [tk_t hin h32, show pre ++ i :: tk b n (enP b n i) = (pre ++ [i]) ++ tk b n (enP b n i) by rw [List.append_assoc]; rfl]; exact r2, r3, r4⟩
      rw [B61_9, if_neg ht2]
      simp only [RDc, hxI.2.1, hl, IC, e1, Option.bind_some, List.append_nil, List.nil_append, List.cons_append, cond_true, cond_false, if_true, if_false, ite_true, ite_false, reduceIte, IC, bI_0, bI_1, bF, Bool.not_eq_false, Bool.not_eq_true, Bool.and_true, Bool.true_and, Bool.and_false, Bool.false_and, Bool.true_or, Bool.or_true, Bool.or_false, Bool.false_or, Bool.not_true, Bool.not_false, decide_true, decide_false, not_true_eq_false, not_false_eq_true, eq_self, Bool.true_eq_false, Bool.false_eq_true, B61_29, hb, B61_35, e32, h32, t5, hm, es, B61_64, w, t5a, r38, ev, B61_88, t5b, t5c, WRc, B61_109, IX]
      exact r1
  · have hin2 : i = n := by omega
    subst hin2
    refine ⟨I, ?_, by rw [tk_n (Nat.le_refl _), List.append_nil]; exact hT, hf1, hf2⟩
    rw [B61_9]
    by_cases ht2 : (200 : Int32) ≤ Int32.ofNat t
    · rw [if_pos ht2, B61_117]
    · rw [if_neg ht2]
      simp only [RDc, hxI.2.1, Int32.le_refl, Option.bind_some, List.append_nil, List.nil_append, List.cons_append, cond_true, cond_false, if_true, if_false, ite_true, ite_false, reduceIte, IC, bI_0, bI_1, bF, Bool.not_eq_false, Bool.not_eq_true, Bool.and_true, Bool.true_and, Bool.and_false, Bool.false_and, Bool.true_or, Bool.or_true, Bool.or_false, Bool.false_or, Bool.not_true, Bool.not_false, decide_true, decide_false, not_true_eq_false, not_false_eq_true, eq_self, Bool.true_eq_false, Bool.false_eq_true, B61_117]
theorem K2_scn (hx : TxC J P b n) : ∃ I', Rn X (d + 4) 61 0 [.ref 36, U_, U_, U_] [] (Mh D J P N) = some ([], Mh D I' P N) ∧ TkR I' b n (tk b n 0) ∧ (∀ c, c ≠ 36 → c ≠ 38 → c ≠ 39 → c ≠ 40 → I' c = J c) ∧ (∀ q, q ≠ 5 → I' 36 q = J 36 q) := by
  obtain ⟨I', r1, r2, r3⟩ := K2_sc1 (X := X) (d := d) (D := D) (N := N) hx n 0 0 [] U_ (u2 J 36 5 0) (by omega) (Nat.le_refl _) (Nat.le_refl _) ⟨rfl, fun j p hj => by simp at hj⟩ (fun c h1 _ _ _ => by rw [u2_o h1]) (fun q hq => by rw [u2_s, upd_o hq])
  refine ⟨I', ?_, r2, r3⟩
  simp only [B61_0, WRc, Option.bind_some, List.append_nil, List.nil_append, List.cons_append, cond_true, cond_false, if_true, if_false, ite_true, ite_false, reduceIte, IC, bI_0, bI_1, bF, Bool.not_eq_false, Bool.not_eq_true, Bool.and_true, Bool.true_and, Bool.and_false, Bool.false_and, Bool.true_or, Bool.or_true, Bool.or_false, Bool.false_or, Bool.not_true, Bool.not_false, decide_true, decide_false, not_true_eq_false, not_false_eq_true, eq_self, Bool.true_eq_false, Bool.false_eq_true]
  exact r1
end ClsQ
