/-! the reference reads the rules -/
/-- x stands for the byte y -/
def Alk (x y : Int32) : Prop := x = y ∨ (y = 0 ∧ bt x 1 127 = false)
theorem Alk.lt {x y : Int32} (h : Alk x y) : isLt x = isLt y := by
  rcases h with rfl | ⟨rfl, h⟩
  · rfl
  · have h1 := bt_no.mp h
    rw [show isLt (0 : Int32) = false by decide]
    exact bt_no.mpr (by omega)
theorem Alk.dg {x y : Int32} (h : Alk x y) : isDg x = isDg y := by
  rcases h with rfl | ⟨rfl, h⟩
  · rfl
  · have h1 := bt_no.mp h
    rw [show isDg (0 : Int32) = false by decide]
    exact bt_no.mpr (by omega)
theorem Alk.eq {x y c : Int32} (h : Alk x y) (hc : bt c 1 127 = true) : (x = c) = (y = c) := by
  rcases h with rfl | ⟨rfl, h⟩
  · rfl
  · refine propext ⟨fun e => ?_, fun e => ?_⟩
    · rw [e, hc] at h; cases h
    · rw [← e] at hc; exact absurd hc (by decide)
theorem Alk.id {x y : Int32} (h : Alk x y) (hy : isLt y = true ∨ isDg y = true) : x = y := by
  rcases h with rfl | ⟨rfl, h⟩
  · rfl
  · exact absurd hy (by decide)
def rB (I : Nat → Nat → Int32) (n i : Nat) : Int32 := if i < n then I 72 i else -1
def TxR (I : Nat → Nat → Int32) (b : Nat → Int32) (n : Nat) : Prop := I 65 13 = Int32.ofNat n ∧ n ≤ 200 ∧ ∀ i, Alk (rB I n i) (b i)
theorem bt05c {x : Int32} (h : bt x 0 5 = true) : x = 0 ∨ x = 1 ∨ x = 2 ∨ x = 3 ∨ x = 4 ∨ x = 5 := by
  have h1 := bt_iff.mp h
  have e : ∀ k : Int32, x.toInt = k.toInt → x = k := fun k q => Int32.toInt_inj.mp q
  have h2 : x.toInt = 0 ∨ x.toInt = 1 ∨ x.toInt = 2 ∨ x.toInt = 3 ∨ x.toInt = 4 ∨ x.toInt = 5 := by omega
  rcases h2 with q | q | q | q | q | q
  · exact Or.inl (e 0 q)
  · exact Or.inr (Or.inl (e 1 q))
  · exact Or.inr (Or.inr (Or.inl (e 2 q)))
  · exact Or.inr (Or.inr (Or.inr (Or.inl (e 3 q))))
  · exact Or.inr (Or.inr (Or.inr (Or.inr (Or.inl (e 4 q)))))
  · exact Or.inr (Or.inr (Or.inr (Or.inr (Or.inr (e 5 q)))))
theorem bt1317c {x : Int32} (h : bt x 13 17 = true) : x = 13 ∨ x = 14 ∨ x = 15 ∨ x = 16 ∨ x = 17 := by
  have h1 := bt_iff.mp h
  have e : ∀ k : Int32, x.toInt = k.toInt → x = k := fun k q => Int32.toInt_inj.mp q
  have h2 : x.toInt = 13 ∨ x.toInt = 14 ∨ x.toInt = 15 ∨ x.toInt = 16 ∨ x.toInt = 17 := by omega
  rcases h2 with q | q | q | q | q
  · exact Or.inl (e 13 q)
  · exact Or.inr (Or.inl (e 14 q))
  · exact Or.inr (Or.inr (Or.inl (e 15 q)))
  · exact Or.inr (Or.inr (Or.inr (Or.inl (e 16 q))))
  · exact Or.inr (Or.inr (Or.inr (Or.inr (e 17 q))))
def wvL (t : Nat → Int32) : Nat → Nat → Int64 → Int64
  | _, 0, a => a
  | i, k + 1, a => wvL t (i + 1) k (if a ≤ 36028797018963967 then 32 * a + (t i - 96).toInt64 else a)
def nuL (t : Nat → Int32) : Nat → Nat → Int32 → Int32
  | _, 0, a => a
  | i, k + 1, a => nuL t (i + 1) k (10 * a + t i - 48)
theorem nuL_e {t b : Nat → Int32} : ∀ k i a, (∀ j, i ≤ j → j < i + k → t j = b j) → nuL t i k a = nuF b i k a
  | 0, i, a, _ => rfl
  | k + 1, i, a, h => by
    show nuL t (i + 1) k (10 * a + t i - 48) = nuF b (i + 1) k (a * 10 + (b i - 48))
    rw [h i (Nat.le_refl _) (by omega), Int32.mul_comm 10 a, Int32.sub_eq_add_neg, Int32.sub_eq_add_neg, Int32.add_assoc]
    exact nuL_e k (i + 1) _ (fun j h1 h2 => h j (by omega) (by omega))
theorem wvL_z {t b : Nat → Int32} : ∀ k i (a : Int64) (L : List Int32), (∀ j, i ≤ j → j < i + k → t j = b j ∧ isLt (b j) = true) → a.toInt = zR L → 0 ≤ a.toInt → a.toInt < 2305843009213693952 → (wvL t i k a).toInt = zR ((subL b i k).reverse ++ L)
  | 0, i, a, L, _, h, _, _ => h
  | k + 1, i, a, L, hb, h, h0, h1 => by
    obtain ⟨q1, q2⟩ := hb i (Nat.le_refl _) (by omega)
    have q3 := bt_iff.mp q2
    show (wvL t (i + 1) k (if a ≤ 36028797018963967 then 32 * a + (t i - 96).toInt64 else a)).toInt = zR ((b i :: subL b (i + 1) k).reverse ++ L)
    rw [List.reverse_cons, List.append_assoc, q1]
    have e0 : (96 : Int32).toInt = 96 := rfl
    have e1 : (b i - 96).toInt = (b i).toInt - 96 := by rw [t_sub (by omega) (by omega), e0]
    have e2 : ((b i - 96).toInt64).toInt = (b i).toInt - 96 := by rw [Int32.toInt_toInt64, e1]
    have e3 : (36028797018963967 : Int64).toInt = 36028797018963967 := rfl
    have e4 : (32 : Int64).toInt = 32 := rfl
    have hz : zR ([b i] ++ L) = if zR L ≤ 36028797018963967 then 32 * zR L + ((b i).toInt - 96) else zR L := rfl
    by_cases hc : a ≤ 36028797018963967
    · have hc2 := Int64.le_iff_toInt_le.mp hc
      rw [e3] at hc2
      have e5 : (32 * a).toInt = 32 * a.toInt := by
        rw [Int64.toInt_mul, e4]; exact Int.bmod_eq_of_le (by omega) (by omega)
      have e6 : (32 * a + (b i - 96).toInt64).toInt = 32 * a.toInt + ((b i).toInt - 96) := by
        rw [Int64.toInt_add, e5, e2]; exact Int.bmod_eq_of_le (by omega) (by omega)
      rw [if_pos hc]
      refine wvL_z k (i + 1) _ ([b i] ++ L) (fun j h2 h3 => hb j (by omega) (by omega)) ?_ (by rw [e6]; omega) (by rw [e6]; omega)
      rw [e6, hz, ← h, if_pos hc2]
    · have hc2 : ¬ a.toInt ≤ 36028797018963967 := fun q => hc (Int64.le_iff_toInt_le.mpr (by rw [e3]; exact q))
      rw [if_neg hc]
      refine wvL_z k (i + 1) _ ([b i] ++ L) (fun j h2 h3 => hb j (by omega) (by omega)) ?_ h0 h1
      rw [hz, ← h, if_neg hc2]
theorem codR_snoc {c c' : Nat → Int32} {x : Int32} : ∀ (C : List Int32) (i : Nat), codR c i C → (∀ j, i ≤ j → j < i + C.length → c' j = c j) → c' (i + C.length) = x → codR c' i (C ++ [x])
  | [], i, _, _, h => ⟨h, trivial⟩
  | y :: C, i, h, he, hx => by
    refine ⟨(he i (Nat.le_refl _) (by simp)).trans h.1, codR_snoc C (i + 1) h.2 (fun j h1 h2 => he j (by omega) (by simp; omega)) ?_⟩
    rw [show i + 1 + C.length = i + (y :: C).length by simp; omega]
    exact hx
def QF (J K : Nat → Nat → Int32) (b : Nat → Int32) (n : Nat) (T : List Nat) (o : Nat) : Prop :=
  ((∀ c, c ≠ 65 → c ≠ 66 → K c = J c) ∧ (∀ k, k < 14 ∨ 19 < k → K 65 k = J 65 k) ∧ (∀ k, k < 118 ∨ 320 ≤ k → K 66 k = J 66 k)) ∧ (K 65 14 = Int32.ofNat (hP n T) ∧ K 65 15 = Int32.ofNat (hE b n T) ∧ K 65 17 = Int32.ofNat o)
def QR (J K : Nat → Nat → Int32) (b : Nat → Int32) (n : Nat) (T : List Nat) (o : Nat) (C : List Int32) : Prop :=
  QF J K b n T o ∧ (K 65 18 = Int32.ofNat C.length ∧ K 65 19 = 0) ∧ codR (fun j => K 66 (118 + j)) 0 C
def QW (J K : Nat → Nat → Int32) (b : Nat → Int32) (n : Nat) (T : List Nat) (o : Nat) : Prop := QF J K b n T o ∧ K 65 19 = 1
def QE (J K : Nat → Nat → Int32) (b : Nat → Int32) (n : Nat) (r : pRs) (o : Nat) (B : List Int32) : Prop := (r.1 = true → QR J K b n r.2.1 o (B ++ exL r.2.2)) ∧ (r.1 = false → QW J K b n r.2.1 o)
section RefL
variable {X : mX} {d : Nat} {D : Nat → Nat × Nat} {I : Nat → Nat → Int32} {P : Nat → Nat → Option Nat} {N : Nat} {h : mH} {b : Nat → Int32} {J K K' : Nat → Nat → Int32} {n i j k p o m : Nat} {c x a y : Int32} {v : Int64} {T : List Nat} {B C : List Int32} {A : List pSt}
theorem TxR.of (h : TxR J b n) (h1 : K 65 13 = J 65 13) (h2 : K 72 = J 72) : TxR K b n := by
  refine ⟨h1.trans h.1, h.2.1, fun i => ?_⟩
  have := h.2.2 i
  unfold rB at this ⊢
  rw [h2]; exact this
theorem QF.tx (h : QF J K b n T o) (hx : TxR J b n) : TxR K b n := hx.of (h.1.2.1 13 (by decide)) (h.1.1 72 (by decide) (by decide))
theorem TxR.end_ (h : TxR J b n) (hi : n ≤ i) : isLt (b i) = false ∧ isDg (b i) = false ∧ ¬ b i = 32 := by
  have h1 := h.2.2 i
  unfold rB at h1
  rw [if_neg (by omega)] at h1
  refine ⟨by rw [← h1.lt]; decide, by rw [← h1.dg]; decide, ?_⟩
  have := h1.eq (c := 32) (by decide)
  rw [← this]; decide
theorem R2_byt (hx : TxR K b n) (hi : i ≤ 300) : Rn X d 236 0 [.ref 65, .int (Int32.ofNat i)] [] (Mh D K P N) = some ([.int (rB K n i)], Mh D K P N) := by
  have hn := hx.2.1
  unfold rB
  simp only [B236_0, RDm, hx.1, Option.bind_some, List.append_nil, List.nil_append, List.cons_append, cond_true, cond_false, if_true, if_false, ite_true, ite_false, reduceIte, IC, bI_0, bI_1, bF, Bool.not_eq_false, Bool.not_eq_true, Bool.and_true, Bool.true_and, Bool.and_false, Bool.false_and, Bool.true_or, Bool.or_true, Bool.or_false, Bool.false_or, Bool.not_true, Bool.not_false, decide_true, decide_false, not_true_eq_false, not_false_eq_true, eq_self, Bool.true_eq_false, Bool.false_eq_true]
  by_cases h : i < n
  · have r := rr72 (D := D) (I := K) (P := P) (N := N) (j := i) (by omega)
    have hl : ¬ Int32.ofNat n ≤ Int32.ofNat i := by rw [iN_le (by omega) (by omega)]; omega
    simp only [hl, h, Option.bind_some, List.append_nil, List.nil_append, List.cons_append, cond_true, cond_false, if_true, if_false, ite_true, ite_false, reduceIte, IC, bI_0, bI_1, bF, Bool.not_eq_false, Bool.not_eq_true, Bool.and_true, Bool.true_and, Bool.and_false, Bool.false_and, Bool.true_or, Bool.or_true, Bool.or_false, Bool.false_or, Bool.not_true, Bool.not_false, decide_true, decide_false, not_true_eq_false, not_false_eq_true, eq_self, Bool.true_eq_false, Bool.false_eq_true, r, B236_18]
  · have hl : Int32.ofNat n ≤ Int32.ofNat i := by rw [iN_le (by omega) (by omega)]; omega
    simp only [hl, h, Option.bind_some, List.append_nil, List.nil_append, List.cons_append, cond_true, cond_false, if_true, if_false, ite_true, ite_false, reduceIte, IC, bI_0, bI_1, bF, Bool.not_eq_false, Bool.not_eq_true, Bool.and_true, Bool.true_and, Bool.and_false, Bool.false_and, Bool.true_or, Bool.or_true, Bool.or_false, Bool.false_or, Bool.not_true, Bool.not_false, decide_true, decide_false, not_true_eq_false, not_false_eq_true, eq_self, Bool.true_eq_false, Bool.false_eq_true, B236_18]
theorem R2_let : Rn X (d + 1) 237 0 [.int x] [] h = some ([.int (bI (isLt x))], h) := by
  show _ = some ([Value.int (bI (bt x 97 122))], h)
  simp only [B237_0, M_bt, L64, Option.bind_some, List.append_nil, List.nil_append, List.cons_append, cond_true, cond_false, if_true, if_false, ite_true, ite_false, reduceIte, IC, bI_0, bI_1, bF, Bool.not_eq_false, Bool.not_eq_true, Bool.and_true, Bool.true_and, Bool.and_false, Bool.false_and, Bool.true_or, Bool.or_true, Bool.or_false, Bool.false_or, Bool.not_true, Bool.not_false, decide_true, decide_false, not_true_eq_false, not_false_eq_true, eq_self, Bool.true_eq_false, Bool.false_eq_true, B237_11]
theorem R2_dig : Rn X (d + 1) 238 0 [.int x] [] h = some ([.int (bI (isDg x))], h) := by
  show _ = some ([Value.int (bI (bt x 48 57))], h)
  simp only [B238_0, M_bt, L64, Option.bind_some, List.append_nil, List.nil_append, List.cons_append, cond_true, cond_false, if_true, if_false, ite_true, ite_false, reduceIte, IC, bI_0, bI_1, bF, Bool.not_eq_false, Bool.not_eq_true, Bool.and_true, Bool.true_and, Bool.and_false, Bool.false_and, Bool.true_or, Bool.or_true, Bool.or_false, Bool.false_or, Bool.not_true, Bool.not_false, decide_true, decide_false, not_true_eq_false, not_false_eq_true, eq_self, Bool.true_eq_false, Bool.false_eq_true, B238_11]
theorem R2_tks (hx : TxR K b n) (hj : K 65 15 = Int32.ofNat j) (hj2 : j ≤ n) : Rn X (d + 2) 239 86 [.ref 65, .int (bI (isLt c)), .int (bI (isDg c))] [] (Mh D K P N)
    = bif ruC c (b j) then Rn X (d + 2) 239 86 [.ref 65, .int (bI (isLt c)), .int (bI (isDg c))] [] (Mh D (u2 K 65 15 (Int32.ofNat (j + 1))) P N) else some ([], Mh D K P N) := by
  have hn := hx.2.1
  have hb := R2_byt (X := X) (d := d + 1) (D := D) (P := P) (N := N) hx (show j ≤ 300 by omega)
  have hl : isLt (rB K n j) = isLt (b j) := (hx.2.2 j).lt
  have hd : isDg (rB K n j) = isDg (b j) := (hx.2.2 j).dg
  have n10 : ¬ (1 : Int32) = 0 := by decide
  unfold ruC
  rw [B239_86]
  cases h1 : isLt c with
  | true =>
    rw [lt_dg h1]
    simp only [bI_t, bI_f, n10, Option.bind_some, List.append_nil, List.nil_append, List.cons_append, cond_true, cond_false, if_true, if_false, ite_true, ite_false, reduceIte, IC, bI_0, bI_1, bF, Bool.not_eq_false, Bool.not_eq_true, Bool.and_true, Bool.true_and, Bool.and_false, Bool.false_and, Bool.true_or, Bool.or_true, Bool.or_false, Bool.false_or, Bool.not_true, Bool.not_false, decide_true, decide_false, not_true_eq_false, not_false_eq_true, eq_self, Bool.true_eq_false, Bool.false_eq_true, RDm, IC, hj, hb, B239_98, R2_let, hl, B239_101, B239_104]
    cases isLt (b j) with
    | true => simp only [Option.bind_some, List.append_nil, List.nil_append, List.cons_append, cond_true, cond_false, if_true, if_false, ite_true, ite_false, reduceIte, IC, bI_0, bI_1, bF, Bool.not_eq_false, Bool.not_eq_true, Bool.and_true, Bool.true_and, Bool.and_false, Bool.false_and, Bool.true_or, Bool.or_true, Bool.or_false, Bool.false_or, Bool.not_true, Bool.not_false, decide_true, decide_false, not_true_eq_false, not_false_eq_true, eq_self, Bool.true_eq_false, Bool.false_eq_true, B239_122, RDm, WRm, hj, IX]
    | false => simp only [Option.bind_some, List.append_nil, List.nil_append, List.cons_append, cond_true, cond_false, if_true, if_false, ite_true, ite_false, reduceIte, IC, bI_0, bI_1, bF, Bool.not_eq_false, Bool.not_eq_true, Bool.and_true, Bool.true_and, Bool.and_false, Bool.false_and, Bool.true_or, Bool.or_true, Bool.or_false, Bool.false_or, Bool.not_true, Bool.not_false, decide_true, decide_false, not_true_eq_false, not_false_eq_true, eq_self, Bool.true_eq_false, Bool.false_eq_true, B239_104, B239_135]
  | false =>
    cases isDg c with
    | true =>
      simp only [bI_t, bI_f, n10, Option.bind_some, List.append_nil, List.nil_append, List.cons_append, cond_true, cond_false, if_true, if_false, ite_true, ite_false, reduceIte, IC, bI_0, bI_1, bF, Bool.not_eq_false, Bool.not_eq_true, Bool.and_true, Bool.true_and, Bool.and_false, Bool.false_and, Bool.true_or, Bool.or_true, Bool.or_false, Bool.false_or, Bool.not_true, Bool.not_false, decide_true, decide_false, not_true_eq_false, not_false_eq_true, eq_self, Bool.true_eq_false, Bool.false_eq_true, RDm, IC, hj, hb, B239_104, B239_116, R2_dig, hd, B239_119]
      cases isDg (b j) with
      | true => simp only [Option.bind_some, List.append_nil, List.nil_append, List.cons_append, cond_true, cond_false, if_true, if_false, ite_true, ite_false, reduceIte, IC, bI_0, bI_1, bF, Bool.not_eq_false, Bool.not_eq_true, Bool.and_true, Bool.true_and, Bool.and_false, Bool.false_and, Bool.true_or, Bool.or_true, Bool.or_false, Bool.false_or, Bool.not_true, Bool.not_false, decide_true, decide_false, not_true_eq_false, not_false_eq_true, eq_self, Bool.true_eq_false, Bool.false_eq_true, B239_122, RDm, WRm, hj, IX]
      | false => simp only [Option.bind_some, List.append_nil, List.nil_append, List.cons_append, cond_true, cond_false, if_true, if_false, ite_true, ite_false, reduceIte, IC, bI_0, bI_1, bF, Bool.not_eq_false, Bool.not_eq_true, Bool.and_true, Bool.true_and, Bool.and_false, Bool.false_and, Bool.true_or, Bool.or_true, Bool.or_false, Bool.false_or, Bool.not_true, Bool.not_false, decide_true, decide_false, not_true_eq_false, not_false_eq_true, eq_self, Bool.true_eq_false, Bool.false_eq_true, B239_135]
    | false => simp only [bI_t, bI_f, Option.bind_some, List.append_nil, List.nil_append, List.cons_append, cond_true, cond_false, if_true, if_false, ite_true, ite_false, reduceIte, IC, bI_0, bI_1, bF, Bool.not_eq_false, Bool.not_eq_true, Bool.and_true, Bool.true_and, Bool.and_false, Bool.false_and, Bool.true_or, Bool.or_true, Bool.or_false, Bool.false_or, Bool.not_true, Bool.not_false, decide_true, decide_false, not_true_eq_false, not_false_eq_true, eq_self, Bool.true_eq_false, Bool.false_eq_true, B239_104, B239_135]
theorem ruC_end (hx : TxR K b n) (hi : n ≤ i) : ruC c (b i) = false := by
  obtain ⟨h1, h2, -⟩ := hx.end_ hi
  unfold ruC
  rw [h1, h2, Bool.and_false, Bool.and_false]; rfl
theorem TxR.u15 (hx : TxR K b n) : TxR (u2 K 65 15 x) b n := hx.of rfl rfl
theorem TxR.u14 (hx : TxR K b n) : TxR (u2 K 65 14 x) b n := hx.of rfl rfl
theorem R2_tk2 : ∀ k j (K : Nat → Nat → Int32), TxR K b n → K 65 15 = Int32.ofNat j → j + k = n → Rn X (d + 2) 239 86 [.ref 65, .int (bI (isLt c)), .int (bI (isDg c))] [] (Mh D K P N) = some ([], Mh D (u2 K 65 15 (Int32.ofNat (enF b c k j))) P N)
  | 0, j, K, hx, hj, hk => by
    rw [R2_tks hx hj (by omega), ruC_end hx (by omega), show enF b c 0 j = j from rfl, u2_id hj]; rfl
  | k + 1, j, K, hx, hj, hk => by
    rw [R2_tks hx hj (by omega), show enF b c (k + 1) j = bif ruC c (b j) then enF b c k (j + 1) else j from rfl]
    cases ruC c (b j) with
    | false => rw [cond_false, cond_false, u2_id hj]
    | true =>
      rw [cond_true, cond_true, R2_tk2 k (j + 1) (u2 K 65 15 (Int32.ofNat (j + 1))) hx.u15 rfl (by omega), u2_ag]
theorem R2_tk1 : ∀ k i (K : Nat → Nat → Int32), TxR K b n → K 65 14 = Int32.ofNat i → i + k = n → Rn X (d + 2) 239 8 [.ref 65, U_, U_] [] (Mh D K P N) = some ([], Mh D (u2 (u2 K 65 14 (Int32.ofNat (hP n (tk b n i)))) 65 15 (Int32.ofNat (hE b n (tk b n i)))) P N)
  | 0, i, K, hx, hi, hk => by
    have hn := hx.2.1
    have hb := R2_byt (X := X) (d := d + 1) (D := D) (P := P) (N := N) hx (show i ≤ 300 by omega)
    obtain ⟨h1, h2, h3⟩ := hx.end_ (show n ≤ i by omega)
    have e32 := (hx.2.2 i).eq (c := 32) (by decide)
    have hin : i = n := by omega
    subst hin
    rw [tk_n (Nat.le_refl _)]
    show _ = some ([], Mh D (u2 (u2 K 65 14 (Int32.ofNat i)) 65 15 (Int32.ofNat i)) P N)
    have h2l := R2_tk2 (X := X) (d := d) (D := D) (P := P) (N := N) (b := b) (c := b i) 0 i (u2 K 65 15 (Int32.ofNat i)) hx.u15 rfl (by omega)
    rw [u2_ag] at h2l
    simp only [B239_8, RDm, IC, Option.bind_some, List.append_nil, List.nil_append, List.cons_append, cond_true, cond_false, if_true, if_false, ite_true, ite_false, reduceIte, IC, bI_0, bI_1, bF, Bool.not_eq_false, Bool.not_eq_true, Bool.and_true, Bool.true_and, Bool.and_false, Bool.false_and, Bool.true_or, Bool.or_true, Bool.or_false, Bool.false_or, Bool.not_true, Bool.not_false, decide_true, decide_false, not_true_eq_false, not_false_eq_true, eq_self, Bool.true_eq_false, Bool.false_eq_true, hi, hb, B239_16, e32, h3, B239_42, R2_let, (hx.2.2 i).lt, B239_45, B239_54, R2_dig, (hx.2.2 i).dg, B239_57, hx.1, Int32.le_refl, B239_83, WRm]
    rw [u2_id hi]
    exact h2l
  | k + 1, i, K, hx, hi, hk => by
    have hn := hx.2.1
    have hb := R2_byt (X := X) (d := d + 1) (D := D) (P := P) (N := N) hx (show i ≤ 300 by omega)
    have e32 := (hx.2.2 i).eq (c := 32) (by decide)
    by_cases h3 : b i = 32
    · have ih := R2_tk1 k (i + 1) (u2 K 65 14 (Int32.ofNat (i + 1))) hx.u14 rfl (by omega)
      rw [u2_ag] at ih
      rw [tk_b (by omega) h3, B239_8]
      simp only [RDm, IC, Option.bind_some, List.append_nil, List.nil_append, List.cons_append, cond_true, cond_false, if_true, if_false, ite_true, ite_false, reduceIte, IC, bI_0, bI_1, bF, Bool.not_eq_false, Bool.not_eq_true, Bool.and_true, Bool.true_and, Bool.and_false, Bool.false_and, Bool.true_or, Bool.or_true, Bool.or_false, Bool.false_or, Bool.not_true, Bool.not_false, decide_true, decide_false, not_true_eq_false, not_false_eq_true, eq_self, Bool.true_eq_false, Bool.false_eq_true, hi, hb, B239_16, e32, h3, WRm, IX]
      exact ih
    · have hl : ¬ Int32.ofNat n ≤ Int32.ofNat i := by rw [iN_le (by omega) (by omega)]; omega
      have h2l := R2_tk2 (X := X) (d := d) (D := D) (P := P) (N := N) (b := b) (c := b i) (n - (i + 1)) (i + 1) (u2 K 65 15 (Int32.ofNat (i + 1))) hx.u15 rfl (by omega)
      rw [u2_ag] at h2l
      rw [tk_t (by omega) h3]
      show _ = some ([], Mh D (u2 (u2 K 65 14 (Int32.ofNat i)) 65 15 (Int32.ofNat (enP b n i))) P N)
      simp only [B239_8, RDm, IC, Option.bind_some, List.append_nil, List.nil_append, List.cons_append, cond_true, cond_false, if_true, if_false, ite_true, ite_false, reduceIte, IC, bI_0, bI_1, bF, Bool.not_eq_false, Bool.not_eq_true, Bool.and_true, Bool.true_and, Bool.and_false, Bool.false_and, Bool.true_or, Bool.or_true, Bool.or_false, Bool.false_or, Bool.not_true, Bool.not_false, decide_true, decide_false, not_true_eq_false, not_false_eq_true, eq_self, Bool.true_eq_false, Bool.false_eq_true, hi, hb, B239_16, e32, h3, B239_42, R2_let, (hx.2.2 i).lt, B239_45, B239_54, R2_dig, (hx.2.2 i).dg, B239_57, hx.1, hl, B239_83, WRm, IX]
      rw [u2_id hi]
      exact h2l
theorem R2_tok (hx : TxR K b n) (hi : K 65 15 = Int32.ofNat i) (hn : i ≤ n) : Rn X (d + 2) 239 0 [.ref 65, U_, U_] [] (Mh D K P N) = some ([], Mh D (u2 (u2 K 65 14 (Int32.ofNat (hP n (tk b n i)))) 65 15 (Int32.ofNat (hE b n (tk b n i)))) P N) := by
  have h1 := R2_tk1 (X := X) (d := d) (D := D) (P := P) (N := N) (b := b) (n - i) i (u2 K 65 14 (Int32.ofNat i)) hx.u14 rfl (by omega)
  rw [u2_ag] at h1
  simp only [B239_0, RDm, Option.bind_some, List.append_nil, List.nil_append, List.cons_append, cond_true, cond_false, if_true, if_false, ite_true, ite_false, reduceIte, IC, bI_0, bI_1, bF, Bool.not_eq_false, Bool.not_eq_true, Bool.and_true, Bool.true_and, Bool.and_false, Bool.false_and, Bool.true_or, Bool.or_true, Bool.or_false, Bool.false_or, Bool.not_true, Bool.not_false, decide_true, decide_false, not_true_eq_false, not_false_eq_true, eq_self, Bool.true_eq_false, Bool.false_eq_true, hi, WRm]
  exact h1
theorem QF.adv (h : QF J K b n T o) : QF J (u2 (u2 K 65 14 (Int32.ofNat (hP n (T.tail)))) 65 15 (Int32.ofNat (hE b n (T.tail)))) b n T.tail o := by
  obtain ⟨⟨f1, f2, f3⟩, p1, p2, p3⟩ := h
  refine ⟨⟨fun c h1 h2 => ?_, fun k hk => ?_, fun k hk => f3 k hk⟩, rfl, rfl, p3⟩
  · rw [u2_o h1, u2_o h1]; exact f1 c h1 h2
  · rw [u2_s, upd_o (by omega), u2_s, upd_o (by omega)]; exact f2 k hk
theorem QF.o65 (h : QF J K b n T o) (hi : i = 16 ∨ i = 18 ∨ i = 19) : QF J (u2 K 65 i x) b n T o := by
  obtain ⟨⟨f1, f2, f3⟩, p1, p2, p3⟩ := h
  refine ⟨⟨fun c h1 h2 => ?_, fun k hk => ?_, fun k hk => f3 k hk⟩, ?_, ?_, ?_⟩
  · rw [u2_o h1]; exact f1 c h1 h2
  · rw [u2_s, upd_o (by omega)]; exact f2 k hk
  · rw [u2_s, upd_o (by omega)]; exact p1
  · rw [u2_s, upd_o (by omega)]; exact p2
  · rw [u2_s, upd_o (by omega)]; exact p3
theorem QF.op (h : QF J K b n T o) : QF J (u2 K 65 17 (Int32.ofNat m)) b n T m := by
  obtain ⟨⟨f1, f2, f3⟩, p1, p2, p3⟩ := h
  refine ⟨⟨fun c h1 h2 => ?_, fun k hk => ?_, fun k hk => f3 k hk⟩, ?_, ?_, rfl⟩
  · rw [u2_o h1]; exact f1 c h1 h2
  · rw [u2_s, upd_o (by omega)]; exact f2 k hk
  · rw [u2_s, upd_o (by omega)]; exact p1
  · rw [u2_s, upd_o (by omega)]; exact p2
theorem R2_w1 (hq : QR J K b n T o C) (g : Gt b n T) (hx : TxR J b n) : ∃ K', Rn X (d + 3) 240 0 [.ref 65, .int 1] [] (Mh D K P N) = some ([], Mh D K' P N) ∧ QR J K' b n T.tail o C ∧ K' 65 16 = K 65 16 := by
  obtain ⟨hf, ⟨h18, h19⟩, hc⟩ := hq
  have hxk := hf.tx hx
  have ht := R2_tok (X := X) (d := d) (D := D) (P := P) (N := N) (b := b) hxk hf.2.2.1 (gt_hE g).2.1
  rw [← gt_tk g] at ht
  have n10 : ¬ (1 : Int32) = 0 := by decide
  have e19 : u2 K 65 19 0 = K := u2_id h19
  refine ⟨_, ?_, ⟨hf.adv, ⟨h18, h19⟩, hc⟩, rfl⟩
  simp only [B240_0, RDm, Option.bind_some, List.append_nil, List.nil_append, List.cons_append, cond_true, cond_false, if_true, if_false, ite_true, ite_false, reduceIte, IC, bI_0, bI_1, bF, Bool.not_eq_false, Bool.not_eq_true, Bool.and_true, Bool.true_and, Bool.and_false, Bool.false_and, Bool.true_or, Bool.or_true, Bool.or_false, Bool.false_or, Bool.not_true, Bool.not_false, decide_true, decide_false, not_true_eq_false, not_false_eq_true, eq_self, Bool.true_eq_false, Bool.false_eq_true, h19, n10, B240_17, WRm, e19, IC, ht, B240_31]
theorem R2_w0 (hq : QR J K b n T o C) : Rn X (d + 3) 240 0 [.ref 65, .int 0] [] (Mh D K P N) = some ([], Mh D (u2 K 65 19 1) P N) ∧ QW J (u2 K 65 19 1) b n T o := by
  obtain ⟨hf, ⟨h18, h19⟩, hc⟩ := hq
  have n10 : ¬ (1 : Int32) = 0 := by decide
  have e19 : u2 K 65 19 1 65 19 = 1 := rfl
  refine ⟨?_, hf.o65 (by omega), rfl⟩
  simp only [B240_0, RDm, Option.bind_some, List.append_nil, List.nil_append, List.cons_append, cond_true, cond_false, if_true, if_false, ite_true, ite_false, reduceIte, IC, bI_0, bI_1, bF, Bool.not_eq_false, Bool.not_eq_true, Bool.and_true, Bool.true_and, Bool.and_false, Bool.false_and, Bool.true_or, Bool.or_true, Bool.or_false, Bool.false_or, Bool.not_true, Bool.not_false, decide_true, decide_false, not_true_eq_false, not_false_eq_true, eq_self, Bool.true_eq_false, Bool.false_eq_true, h19, B240_12, B240_17, WRm, e19, n10, B240_31]
theorem R2_wW (hq : QW J K b n T o) : Rn X (d + 3) 240 0 [.ref 65, .int x] [] (Mh D K P N) = some ([], Mh D K P N) := by
  obtain ⟨hf, h19⟩ := hq
  have n10 : ¬ (1 : Int32) = 0 := by decide
  have e19 : u2 K 65 19 1 = K := u2_id h19
  simp only [B240_0, RDm, Option.bind_some, List.append_nil, List.nil_append, List.cons_append, cond_true, cond_false, if_true, if_false, ite_true, ite_false, reduceIte, IC, bI_0, bI_1, bF, Bool.not_eq_false, Bool.not_eq_true, Bool.and_true, Bool.true_and, Bool.and_false, Bool.false_and, Bool.true_or, Bool.or_true, Bool.or_false, Bool.false_or, Bool.not_true, Bool.not_false, decide_true, decide_false, not_true_eq_false, not_false_eq_true, eq_self, Bool.true_eq_false, Bool.false_eq_true, h19, n10, B240_12, B240_17, WRm, e19, B240_31]
theorem R2_wd1 (hx : TxR K b n) (he : K 65 15 = Int32.ofNat j) (hj : j ≤ n) : ∀ k i a, i + k = j → Rn X (d + 2) 241 7 [.ref 65, .long a, U_, .int (Int32.ofNat i)] [] (Mh D K P N) = Rn X (d + 2) 241 7 [.ref 65, .long (wvL (K 72) i k a), U_, .int (Int32.ofNat j)] [] (Mh D K P N)
  | 0, i, a, hk => by rw [show i = j by omega]; rfl
  | k + 1, i, a, hk => by
    have hn := hx.2.1
    have hl : ¬ Int32.ofNat j ≤ Int32.ofNat i := by rw [iN_le (by omega) (by omega)]; omega
    have r := rr72 (D := D) (I := K) (P := P) (N := N) (j := i) (by omega)
    have ih := fun a => R2_wd1 hx he hj k (i + 1) a (by omega)
    rw [B241_7]
    simp only [RDm, Option.bind_some, List.append_nil, List.nil_append, List.cons_append, cond_true, cond_false, if_true, if_false, ite_true, ite_false, reduceIte, IC, bI_0, bI_1, bF, Bool.not_eq_false, Bool.not_eq_true, Bool.and_true, Bool.true_and, Bool.and_false, Bool.false_and, Bool.true_or, Bool.or_true, Bool.or_false, Bool.false_or, Bool.not_true, Bool.not_false, decide_true, decide_false, not_true_eq_false, not_false_eq_true, eq_self, Bool.true_eq_false, Bool.false_eq_true, he, hl]
    show _ = Rn X (d + 2) 241 7 [.ref 65, .long (wvL (K 72) (i + 1) k (if a ≤ 36028797018963967 then 32 * a + (K 72 i - 96).toInt64 else a)), U_, .int (Int32.ofNat j)] [] (Mh D K P N)
    by_cases hc : a ≤ 36028797018963967
    · have hc2 : lg_cmp a 36028797018963967 ≤ 0 := (lg_cmp_le _ _).mpr hc
      simp only [hc, hc2, Option.bind_some, List.append_nil, List.nil_append, List.cons_append, cond_true, cond_false, if_true, if_false, ite_true, ite_false, reduceIte, IC, bI_0, bI_1, bF, Bool.not_eq_false, Bool.not_eq_true, Bool.and_true, Bool.true_and, Bool.and_false, Bool.false_and, Bool.true_or, Bool.or_true, Bool.or_false, Bool.false_or, Bool.not_true, Bool.not_false, decide_true, decide_false, not_true_eq_false, not_false_eq_true, eq_self, Bool.true_eq_false, Bool.false_eq_true, r, B241_43, IX]
      exact ih _
    · have hc2 : ¬ lg_cmp a 36028797018963967 ≤ 0 := fun q => hc ((lg_cmp_le _ _).mp q)
      simp only [hc, hc2, Option.bind_some, List.append_nil, List.nil_append, List.cons_append, cond_true, cond_false, if_true, if_false, ite_true, ite_false, reduceIte, IC, bI_0, bI_1, bF, Bool.not_eq_false, Bool.not_eq_true, Bool.and_true, Bool.true_and, Bool.and_false, Bool.false_and, Bool.true_or, Bool.or_true, Bool.or_false, Bool.false_or, Bool.not_true, Bool.not_false, decide_true, decide_false, not_true_eq_false, not_false_eq_true, eq_self, Bool.true_eq_false, Bool.false_eq_true, B241_43, IX]
      exact ih _
theorem rB_p (hx : TxR K b n) : Alk (rB K n (hP n T)) (hB b T) ∨ T = [] := by
  cases T with
  | nil => exact Or.inr rfl
  | cons p T => exact Or.inl (hx.2.2 p)
theorem rB_h (hx : TxR K b n) : Alk (rB K n (hP n T)) (hB b T) := by
  cases T with
  | nil =>
    refine Or.inr ⟨rfl, ?_⟩
    show bt (if n < n then K 72 n else -1) 1 127 = false
    rw [if_neg (Nat.lt_irrefl _)]; decide
  | cons p T => exact hx.2.2 p
theorem R2_wrd (hq : QR J K b n T o C) (g : Gt b n T) (hx : TxR J b n) : ∃ v, Rn X (d + 2) 241 0 [.ref 65, U_, U_, U_] [] (Mh D K P N) = some ([.long v], Mh D K P N) ∧ v.toInt = wcZ b n T := by
  obtain ⟨hf, ⟨h18, h19⟩, hc⟩ := hq
  have hxk := hf.tx hx
  have hn := hx.2.1
  have hEE := gt_hE g
  have hw := R2_wd1 (X := X) (d := d) (D := D) (P := P) (N := N) hxk hf.2.2.1 hEE.2.1 (hE b n T - hP n T) (hP n T) 0 (by omega)
  have hb := R2_byt (X := X) (d := d + 1) (D := D) (P := P) (N := N) hxk (show hP n T ≤ 300 by omega)
  have hl := (rB_h (T := T) hxk).lt
  simp only [B241_0, RDm, Option.bind_some, List.append_nil, List.nil_append, List.cons_append, cond_true, cond_false, if_true, if_false, ite_true, ite_false, reduceIte, IC, bI_0, bI_1, bF, Bool.not_eq_false, Bool.not_eq_true, Bool.and_true, Bool.true_and, Bool.and_false, Bool.false_and, Bool.true_or, Bool.or_true, Bool.or_false, Bool.false_or, Bool.not_true, Bool.not_false, decide_true, decide_false, not_true_eq_false, not_false_eq_true, eq_self, Bool.true_eq_false, Bool.false_eq_true, hf.2.1]
  rw [hw, B241_7]
  simp only [RDm, Option.bind_some, List.append_nil, List.nil_append, List.cons_append, cond_true, cond_false, if_true, if_false, ite_true, ite_false, reduceIte, IC, bI_0, bI_1, bF, Bool.not_eq_false, Bool.not_eq_true, Bool.and_true, Bool.true_and, Bool.and_false, Bool.false_and, Bool.true_or, Bool.or_true, Bool.or_false, Bool.false_or, Bool.not_true, Bool.not_false, decide_true, decide_false, not_true_eq_false, not_false_eq_true, eq_self, Bool.true_eq_false, Bool.false_eq_true, hf.2.2.1, Int32.le_refl, h19, hf.2.1, IC, hb, B241_65, R2_let, hl, B241_68]
  cases T with
  | nil =>
    refine ⟨0, ?_, rfl⟩
    rw [show isLt (hB b []) = false from (by decide : isLt (0 : Int32) = false)]
    simp only [Option.bind_some, List.append_nil, List.nil_append, List.cons_append, cond_true, cond_false, if_true, if_false, ite_true, ite_false, reduceIte, IC, bI_0, bI_1, bF, Bool.not_eq_false, Bool.not_eq_true, Bool.and_true, Bool.true_and, Bool.and_false, Bool.false_and, Bool.true_or, Bool.or_true, Bool.or_false, Bool.false_or, Bool.not_true, Bool.not_false, decide_true, decide_false, not_true_eq_false, not_false_eq_true, eq_self, Bool.true_eq_false, Bool.false_eq_true, B241_71, B241_76]
  | cons p T =>
    have hBp : hB b (p :: T) = b p := rfl
    have hz : wcZ b n (p :: T) = bif isLt (b p) then zF (subL b p (enP b n p - p)) else 0 := rfl
    rw [hBp, hz]
    cases hlp : isLt (b p) with
    | false => exact ⟨0, by simp only [Option.bind_some, List.append_nil, List.nil_append, List.cons_append, cond_true, cond_false, if_true, if_false, ite_true, ite_false, reduceIte, IC, bI_0, bI_1, bF, Bool.not_eq_false, Bool.not_eq_true, Bool.and_true, Bool.true_and, Bool.and_false, Bool.false_and, Bool.true_or, Bool.or_true, Bool.or_false, Bool.false_or, Bool.not_true, Bool.not_false, decide_true, decide_false, not_true_eq_false, not_false_eq_true, eq_self, Bool.true_eq_false, Bool.false_eq_true, B241_71, B241_76], rfl⟩
    | true =>
      refine ⟨wvL (K 72) p (enP b n p - p) 0, ?_, ?_⟩
      · simp only [Option.bind_some, List.append_nil, List.nil_append, List.cons_append, cond_true, cond_false, if_true, if_false, ite_true, ite_false, reduceIte, IC, bI_0, bI_1, bF, Bool.not_eq_false, Bool.not_eq_true, Bool.and_true, Bool.true_and, Bool.and_false, Bool.false_and, Bool.true_or, Bool.or_true, Bool.or_false, Bool.false_or, Bool.not_true, Bool.not_false, decide_true, decide_false, not_true_eq_false, not_false_eq_true, eq_self, Bool.true_eq_false, Bool.false_eq_true, B241_76]; rfl
      · have := wvL_z (t := K 72) (b := b) (enP b n p - p) p 0 [] (fun j h1 h2 => by
          have h3 := tok_lt (n := n) hlp h1 (by omega)
          have h4 := enP_b (b := b) g.1
          have h5 := (hxk.2.2 j).id (Or.inl h3)
          unfold rB at h5
          rw [if_pos (by omega)] at h5
          exact ⟨h5, h3⟩) rfl (by decide) (by decide)
        rw [List.append_nil] at this
        exact this
theorem R2_wrW (hq : QW J K b n T o) (g : Gt b n T) (hx : TxR J b n) : Rn X (d + 2) 241 0 [.ref 65, U_, U_, U_] [] (Mh D K P N) = some ([.long 0], Mh D K P N) := by
  obtain ⟨hf, h19⟩ := hq
  have hxk := hf.tx hx
  have hEE := gt_hE g
  have n10 : ¬ (1 : Int32) = 0 := by decide
  have hw := R2_wd1 (X := X) (d := d) (D := D) (P := P) (N := N) hxk hf.2.2.1 hEE.2.1 (hE b n T - hP n T) (hP n T) 0 (by omega)
  simp only [B241_0, RDm, Option.bind_some, List.append_nil, List.nil_append, List.cons_append, cond_true, cond_false, if_true, if_false, ite_true, ite_false, reduceIte, IC, bI_0, bI_1, bF, Bool.not_eq_false, Bool.not_eq_true, Bool.and_true, Bool.true_and, Bool.and_false, Bool.false_and, Bool.true_or, Bool.or_true, Bool.or_false, Bool.false_or, Bool.not_true, Bool.not_false, decide_true, decide_false, not_true_eq_false, not_false_eq_true, eq_self, Bool.true_eq_false, Bool.false_eq_true, hf.2.1]
  rw [hw, B241_7]
  simp only [RDm, Option.bind_some, List.append_nil, List.nil_append, List.cons_append, cond_true, cond_false, if_true, if_false, ite_true, ite_false, reduceIte, IC, bI_0, bI_1, bF, Bool.not_eq_false, Bool.not_eq_true, Bool.and_true, Bool.true_and, Bool.and_false, Bool.false_and, Bool.true_or, Bool.or_true, Bool.or_false, Bool.false_or, Bool.not_true, Bool.not_false, decide_true, decide_false, not_true_eq_false, not_false_eq_true, eq_self, Bool.true_eq_false, Bool.false_eq_true, hf.2.2.1, Int32.le_refl, h19, n10, B241_71, B241_76]
theorem wc_c {z : Int} {c : Int64} (hv : v.toInt = wcZ b n T) (hi : i < 18) (hz : CL[i]? = some z) (h0 : ¬ z = 0) (hc : c.toInt = z) : (lg_cmp v c = 0) = (hS b n T = Int32.ofNat i) := by
  refine propext ⟨fun e => ?_, fun e => ?_⟩
  · have e1 := (lg_cmp_eq _ _).mp e
    rw [e1, hc] at hv
    exact (wc_iff hi hz h0).mp hv.symm
  · refine (lg_cmp_eq _ _).mpr (Int64.toInt_inj.mp ?_)
    rw [hv, hc]
    exact (wc_iff hi hz h0).mpr e
theorem WCs (hv : v.toInt = wcZ b n T) : (lg_cmp v 48880818 = 0) = (hS b n T = 0) ∧ (lg_cmp v 638446 = 0) = (hS b n T = 1) ∧ (lg_cmp v 230821 = 0) = (hS b n T = 2) ∧ (lg_cmp v 638407 = 0) = (hS b n T = 3) ∧ (lg_cmp v 2469516596 = 0) = (hS b n T = 4) ∧ (lg_cmp v 643568 = 0) = (hS b n T = 5) ∧ (lg_cmp v 441925 = 0) = (hS b n T = 6) ∧ (lg_cmp v 398963 = 0) = (hS b n T = 7) ∧ (lg_cmp v 14636 = 0) = (hS b n T = 8) ∧ (lg_cmp v 294 = 0) = (hS b n T = 9) ∧ (lg_cmp v 498 = 0) = (hS b n T = 10) ∧ (lg_cmp v 1476 = 0) = (hS b n T = 11) ∧ (lg_cmp v 14836 = 0) = (hS b n T = 12) ∧ (lg_cmp v 12455 = 0) = (hS b n T = 13) ∧ (lg_cmp v 441828 = 0) = (hS b n T = 14) ∧ (lg_cmp v 671108 = 0) = (hS b n T = 15) ∧ (lg_cmp v 72754342 = 0) = (hS b n T = 16) ∧ (lg_cmp v 492210354 = 0) = (hS b n T = 17) :=
  ⟨wc_c (i := 0) (z := 48880818) hv (by decide) rfl (by decide) (by decide),
    wc_c (i := 1) (z := 638446) hv (by decide) rfl (by decide) (by decide),
    wc_c (i := 2) (z := 230821) hv (by decide) rfl (by decide) (by decide),
    wc_c (i := 3) (z := 638407) hv (by decide) rfl (by decide) (by decide),
    wc_c (i := 4) (z := 2469516596) hv (by decide) rfl (by decide) (by decide),
    wc_c (i := 5) (z := 643568) hv (by decide) rfl (by decide) (by decide),
    wc_c (i := 6) (z := 441925) hv (by decide) rfl (by decide) (by decide),
    wc_c (i := 7) (z := 398963) hv (by decide) rfl (by decide) (by decide),
    wc_c (i := 8) (z := 14636) hv (by decide) rfl (by decide) (by decide),
    wc_c (i := 9) (z := 294) hv (by decide) rfl (by decide) (by decide),
    wc_c (i := 10) (z := 498) hv (by decide) rfl (by decide) (by decide),
    wc_c (i := 11) (z := 1476) hv (by decide) rfl (by decide) (by decide),
    wc_c (i := 12) (z := 14836) hv (by decide) rfl (by decide) (by decide),
    wc_c (i := 13) (z := 12455) hv (by decide) rfl (by decide) (by decide),
    wc_c (i := 14) (z := 441828) hv (by decide) rfl (by decide) (by decide),
    wc_c (i := 15) (z := 671108) hv (by decide) rfl (by decide) (by decide),
    wc_c (i := 16) (z := 72754342) hv (by decide) rfl (by decide) (by decide),
    wc_c (i := 17) (z := 492210354) hv (by decide) rfl (by decide) (by decide)⟩
theorem R2_knd (hq : QR J K b n T o C) (g : Gt b n T) (hx : TxR J b n) : Rn X (d + 3) 243 0 [.ref 65, U_, U_] [] (Mh D K P N) = some ([.int (if bt (hS b n T) 0 5 = true then hS b n T else -1)], Mh D K P N) := by
  obtain ⟨v, hw, hv⟩ := R2_wrd (X := X) (d := d) (D := D) (P := P) (N := N) hq g hx
  simp only [B243_0, IC, hw, Option.bind_some, List.append_nil, List.nil_append, List.cons_append, cond_true, cond_false, if_true, if_false, ite_true, ite_false, reduceIte, IC, bI_0, bI_1, bF, Bool.not_eq_false, Bool.not_eq_true, Bool.and_true, Bool.true_and, Bool.and_false, Bool.false_and, Bool.true_or, Bool.or_true, Bool.or_false, Bool.false_or, Bool.not_true, Bool.not_false, decide_true, decide_false, not_true_eq_false, not_false_eq_true, eq_self, Bool.true_eq_false, Bool.false_eq_true, B243_4, WCs hv]
  by_cases hb : bt (hS b n T) 0 5 = true
  · rcases bt05c hb with e | e | e | e | e | e <;> rw [e] <;> simp +decide only [Option.bind_some, List.append_nil, List.nil_append, List.cons_append, cond_true, cond_false, if_true, if_false, ite_true, ite_false, reduceIte, IC, bI_0, bI_1, bF, Bool.not_eq_false, Bool.not_eq_true, Bool.and_true, Bool.true_and, Bool.and_false, Bool.false_and, Bool.true_or, Bool.or_true, Bool.or_false, Bool.false_or, Bool.not_true, Bool.not_false, decide_true, decide_false, not_true_eq_false, not_false_eq_true, eq_self, Bool.true_eq_false, Bool.false_eq_true, B243_78]
  · have e0 : ¬ hS b n T = 0 := fun e => hb (by rw [e]; decide)
    have e1 : ¬ hS b n T = 1 := fun e => hb (by rw [e]; decide)
    have e2 : ¬ hS b n T = 2 := fun e => hb (by rw [e]; decide)
    have e3 : ¬ hS b n T = 3 := fun e => hb (by rw [e]; decide)
    have e4 : ¬ hS b n T = 4 := fun e => hb (by rw [e]; decide)
    have e5 : ¬ hS b n T = 5 := fun e => hb (by rw [e]; decide)
    simp only [e0, e1, e2, e3, e4, e5, hb, Option.bind_some, List.append_nil, List.nil_append, List.cons_append, cond_true, cond_false, if_true, if_false, ite_true, ite_false, reduceIte, IC, bI_0, bI_1, bF, Bool.not_eq_false, Bool.not_eq_true, Bool.and_true, Bool.true_and, Bool.and_false, Bool.false_and, Bool.true_or, Bool.or_true, Bool.or_false, Bool.false_or, Bool.not_true, Bool.not_false, decide_true, decide_false, not_true_eq_false, not_false_eq_true, eq_self, Bool.true_eq_false, Bool.false_eq_true, B243_78]
theorem R2_fct (hq : QR J K b n T o C) (g : Gt b n T) (hx : TxR J b n) : Rn X (d + 3) 244 0 [.ref 65, U_, U_] [] (Mh D K P N) = some ([.int (if bt (hS b n T) 13 17 = true then 12 - hS b n T else 0)], Mh D K P N) := by
  obtain ⟨v, hw, hv⟩ := R2_wrd (X := X) (d := d) (D := D) (P := P) (N := N) hq g hx
  simp only [B244_0, IC, hw, Option.bind_some, List.append_nil, List.nil_append, List.cons_append, cond_true, cond_false, if_true, if_false, ite_true, ite_false, reduceIte, IC, bI_0, bI_1, bF, Bool.not_eq_false, Bool.not_eq_true, Bool.and_true, Bool.true_and, Bool.and_false, Bool.false_and, Bool.true_or, Bool.or_true, Bool.or_false, Bool.false_or, Bool.not_true, Bool.not_false, decide_true, decide_false, not_true_eq_false, not_false_eq_true, eq_self, Bool.true_eq_false, Bool.false_eq_true, B244_4, WCs hv]
  by_cases hb : bt (hS b n T) 13 17 = true
  · rcases bt1317c hb with e | e | e | e | e <;> rw [e] <;> simp +decide only [Option.bind_some, List.append_nil, List.nil_append, List.cons_append, cond_true, cond_false, if_true, if_false, ite_true, ite_false, reduceIte, IC, bI_0, bI_1, bF, Bool.not_eq_false, Bool.not_eq_true, Bool.and_true, Bool.true_and, Bool.and_false, Bool.false_and, Bool.true_or, Bool.or_true, Bool.or_false, Bool.false_or, Bool.not_true, Bool.not_false, decide_true, decide_false, not_true_eq_false, not_false_eq_true, eq_self, Bool.true_eq_false, Bool.false_eq_true, B244_70] <;> rfl
  · have e0 : ¬ hS b n T = 13 := fun e => hb (by rw [e]; decide)
    have e1 : ¬ hS b n T = 14 := fun e => hb (by rw [e]; decide)
    have e2 : ¬ hS b n T = 15 := fun e => hb (by rw [e]; decide)
    have e3 : ¬ hS b n T = 16 := fun e => hb (by rw [e]; decide)
    have e4 : ¬ hS b n T = 17 := fun e => hb (by rw [e]; decide)
    simp only [e0, e1, e2, e3, e4, hb, Option.bind_some, List.append_nil, List.nil_append, List.cons_append, cond_true, cond_false, if_true, if_false, ite_true, ite_false, reduceIte, IC, bI_0, bI_1, bF, Bool.not_eq_false, Bool.not_eq_true, Bool.and_true, Bool.true_and, Bool.and_false, Bool.false_and, Bool.true_or, Bool.or_true, Bool.or_false, Bool.false_or, Bool.not_true, Bool.not_false, decide_true, decide_false, not_true_eq_false, not_false_eq_true, eq_self, Bool.true_eq_false, Bool.false_eq_true, B244_70]
theorem R2_wri (hq : QR J K b n T o C) (hl : C.length < 202) : ∃ K', Rn X d 245 0 [.ref 65, .int x] [] (Mh D K P N) = some ([], Mh D K' P N) ∧ QR J K' b n T o (C ++ [x]) := by
  obtain ⟨hf, ⟨h18, h19⟩, hc⟩ := hq
  have w := wS (D := D) (I := K) (P := P) (N := N) (j := 118 + C.length) (x := x) (by omega)
  have e18 : u2 K 66 (118 + C.length) x 65 18 = Int32.ofNat C.length := h18
  refine ⟨u2 (u2 K 66 (118 + C.length) x) 65 18 (Int32.ofNat (C.length + 1)), ?_, ?_, ⟨?_, ?_⟩, ?_⟩
  · simp only [B245_0, RDm, Option.bind_some, List.append_nil, List.nil_append, List.cons_append, cond_true, cond_false, if_true, if_false, ite_true, ite_false, reduceIte, IC, bI_0, bI_1, bF, Bool.not_eq_false, Bool.not_eq_true, Bool.and_true, Bool.true_and, Bool.and_false, Bool.false_and, Bool.true_or, Bool.or_true, Bool.or_false, Bool.false_or, Bool.not_true, Bool.not_false, decide_true, decide_false, not_true_eq_false, not_false_eq_true, eq_self, Bool.true_eq_false, Bool.false_eq_true, h19, h18, IX, w, e18, WRm, B245_30]
  · have hf2 : QF J (u2 K 66 (118 + C.length) x) b n T o := by
      obtain ⟨⟨f1, f2, f3⟩, p1, p2, p3⟩ := hf
      refine ⟨⟨fun c h1 h2 => ?_, fun k hk => f2 k hk, fun k hk => ?_⟩, p1, p2, p3⟩
      · rw [u2_o h2]; exact f1 c h1 h2
      · rw [u2_s, upd_o (by omega)]; exact f3 k hk
    exact hf2.o65 (by omega)
  · rw [List.length_append]; rfl
  · exact h19
  · refine codR_snoc C 0 hc (fun j h1 h2 => ?_) ?_
    · show upd (K 66) (118 + C.length) x (118 + j) = _
      rw [upd_o (by omega)]
    · show upd (K 66) (118 + C.length) x (118 + (0 + C.length)) = _
      rw [Nat.zero_add, upd_s]
theorem R2_wrn (hq : QW J K b n T o) : Rn X d 245 0 [.ref 65, .int x] [] (Mh D K P N) = some ([], Mh D K P N) := by
  have n10 : ¬ (1 : Int32) = 0 := by decide
  simp only [B245_0, RDm, Option.bind_some, List.append_nil, List.nil_append, List.cons_append, cond_true, cond_false, if_true, if_false, ite_true, ite_false, reduceIte, IC, bI_0, bI_1, bF, Bool.not_eq_false, Bool.not_eq_true, Bool.and_true, Bool.true_and, Bool.and_false, Bool.false_and, Bool.true_or, Bool.or_true, Bool.or_false, Bool.false_or, Bool.not_true, Bool.not_false, decide_true, decide_false, not_true_eq_false, not_false_eq_true, eq_self, Bool.true_eq_false, Bool.false_eq_true, hq.2, n10, B245_30]
theorem R2_nm1 : ∀ k i a (K : Nat → Nat → Int32), TxR K b n → K 65 15 = Int32.ofNat j → j ≤ n → K 65 16 = a → i + k = j → Rn X (d + 4) 242 43 [.ref 65, .int x, .int 1, .int (Int32.ofNat i)] [] (Mh D K P N) = Rn X (d + 4) 242 82 [.ref 65, .int x, .int 1, .int (Int32.ofNat j)] [] (Mh D (u2 K 65 16 (nuL (K 72) i k a)) P N)
  | 0, i, a, K, hx, he, hj, ha, hk => by
    have : i = j := by omega
    subst this
    rw [B242_43]
    simp only [RDm, Option.bind_some, List.append_nil, List.nil_append, List.cons_append, cond_true, cond_false, if_true, if_false, ite_true, ite_false, reduceIte, IC, bI_0, bI_1, bF, Bool.not_eq_false, Bool.not_eq_true, Bool.and_true, Bool.true_and, Bool.and_false, Bool.false_and, Bool.true_or, Bool.or_true, Bool.or_false, Bool.false_or, Bool.not_true, Bool.not_false, decide_true, decide_false, not_true_eq_false, not_false_eq_true, eq_self, Bool.true_eq_false, Bool.false_eq_true, he, Int32.le_refl]
    rw [show nuL (K 72) i 0 a = a from rfl, u2_id ha]
  | k + 1, i, a, K, hx, he, hj, ha, hk => by
    have hn := hx.2.1
    have n10 : ¬ (1 : Int32) = 0 := by decide
    have hl : ¬ Int32.ofNat j ≤ Int32.ofNat i := by rw [iN_le (by omega) (by omega)]; omega
    have r := rr72 (D := D) (I := K) (P := P) (N := N) (j := i) (by omega)
    have ih := R2_nm1 k (i + 1) (10 * a + K 72 i - 48) (u2 K 65 16 (10 * a + K 72 i - 48)) (hx.of rfl rfl) he hj rfl (by omega)
    rw [u2_ag] at ih
    rw [B242_43]
    simp only [RDm, Option.bind_some, List.append_nil, List.nil_append, List.cons_append, cond_true, cond_false, if_true, if_false, ite_true, ite_false, reduceIte, IC, bI_0, bI_1, bF, Bool.not_eq_false, Bool.not_eq_true, Bool.and_true, Bool.true_and, Bool.and_false, Bool.false_and, Bool.true_or, Bool.or_true, Bool.or_false, Bool.false_or, Bool.not_true, Bool.not_false, decide_true, decide_false, not_true_eq_false, not_false_eq_true, eq_self, Bool.true_eq_false, Bool.false_eq_true, he, hl, n10, ha, r, WRm, IX]
    exact ih
theorem R2_num (hq : QR J K b n T o C) (g : Gt b n T) (hx : TxR J b n) : ∃ K', Rn X (d + 4) 242 0 [.ref 65, .int x, U_, U_] [] (Mh D K P N) = some ([], Mh D K' P N) ∧ (hS b n T = 18 ∧ hV b n T ≤ x → QR J K' b n T.tail o C ∧ K' 65 16 = hV b n T) ∧ (¬ (hS b n T = 18 ∧ hV b n T ≤ x) → QW J K' b n T o) := by
  have hq0 := hq
  obtain ⟨hf, ⟨h18, h19⟩, hc⟩ := hq
  have hxk := hf.tx hx
  have hn := hx.2.1
  have hEE := gt_hE g
  have n10 : ¬ (1 : Int32) = 0 := by decide
  have hb := R2_byt (X := X) (d := d + 3) (D := D) (P := P) (N := N) hxk (show hP n T ≤ 300 by omega)
  have hd := (rB_h (T := T) hxk).dg
  have h18e := hS_18 (b := b) (n := n) (T := T)
  have hsub : Int32.ofNat (hE b n T) - Int32.ofNat (hP n T) = Int32.ofNat (hE b n T - hP n T) := (Int32.ofNat_sub _ _ hEE.1).symm
  have hle : (5 ≤ Int32.ofNat (hE b n T - hP n T)) = ¬ (hE b n T - hP n T ≤ 4) := by
    rw [show (5 : Int32) = Int32.ofNat 5 from rfl, iN_le (by omega) (by omega)]; exact propext ⟨fun q => by omega, fun q => by omega⟩
  have q16 : ∀ y, QR J (u2 K 65 16 y) b n T o C := fun y => ⟨hf.o65 (by omega), ⟨h18, h19⟩, hc⟩
  have r15 : u2 K 65 16 0 65 15 = Int32.ofNat (hE b n T) := hf.2.2.1
  have r14 : u2 K 65 16 0 65 14 = Int32.ofNat (hP n T) := hf.2.1
  simp only [B242_0, RDm, IC, Option.bind_some, List.append_nil, List.nil_append, List.cons_append, cond_true, cond_false, if_true, if_false, ite_true, ite_false, reduceIte, IC, bI_0, bI_1, bF, Bool.not_eq_false, Bool.not_eq_true, Bool.and_true, Bool.true_and, Bool.and_false, Bool.false_and, Bool.true_or, Bool.or_true, Bool.or_false, Bool.false_or, Bool.not_true, Bool.not_false, decide_true, decide_false, not_true_eq_false, not_false_eq_true, eq_self, Bool.true_eq_false, Bool.false_eq_true, hf.2.1, hb, B242_8, R2_dig, hd, B242_11, hf.2.2.1, hsub, hle]
  by_cases hS18 : hS b n T = 18
  · rw [decide_eq_true hS18, Bool.and_eq_true, decide_eq_true_eq] at h18e
    obtain ⟨k1, k2⟩ := h18e
    have hv : nuL (K 72) (hP n T) (hE b n T - hP n T) 0 = hV b n T := by
      cases T with
      | nil => exact absurd (show isDg (0 : Int32) = true from k1) (by decide)
      | cons p T =>
        show nuL (K 72) p (enP b n p - p) 0 = vaF b n p
        rw [(va_18 (show srF b n p = 18 from hS18)).1]
        refine nuL_e _ _ _ (fun j h1 h2 => ?_)
        have h3 := tok_dg (n := n) (show isDg (b p) = true from k1) h1 (by omega)
        have h4 := enP_b (b := b) g.1
        have h5 := (hxk.2.2 j).id (Or.inr h3)
        unfold rB at h5
        rw [if_pos (by omega)] at h5
        exact h5
    have h1 := R2_nm1 (X := X) (d := d) (D := D) (P := P) (N := N) (b := b) (x := x) (hE b n T - hP n T) (hP n T) 0 (u2 K 65 16 0) (hxk.of rfl rfl) r15 hEE.2.1 rfl (by omega)
    rw [u2_ag, show u2 K 65 16 0 72 = K 72 from rfl, hv] at h1
    have r16 : u2 K 65 16 (hV b n T) 65 16 = hV b n T := rfl
    simp only [k1, k2, Option.bind_some, List.append_nil, List.nil_append, List.cons_append, cond_true, cond_false, if_true, if_false, ite_true, ite_false, reduceIte, IC, bI_0, bI_1, bF, Bool.not_eq_false, Bool.not_eq_true, Bool.and_true, Bool.true_and, Bool.and_false, Bool.false_and, Bool.true_or, Bool.or_true, Bool.or_false, Bool.false_or, Bool.not_true, Bool.not_false, decide_true, decide_false, not_true_eq_false, not_false_eq_true, eq_self, Bool.true_eq_false, Bool.false_eq_true, B242_32, WRm, RDm, r14, h1, B242_82, n10, r16]
    by_cases hm : hV b n T ≤ x
    · have hm2 : ¬ x < hV b n T := by rw [i_nlt]; exact hm
      obtain ⟨K', e1, e2, e3⟩ := R2_w1 (X := X) (d := d) (D := D) (P := P) (N := N) (q16 (hV b n T)) g hx
      refine ⟨K', ?_, fun _ => ⟨e2, e3⟩, fun q => absurd ⟨hS18, hm⟩ q⟩
      simp only [hm2, Option.bind_some, List.append_nil, List.nil_append, List.cons_append, cond_true, cond_false, if_true, if_false, ite_true, ite_false, reduceIte, IC, bI_0, bI_1, bF, Bool.not_eq_false, Bool.not_eq_true, Bool.and_true, Bool.true_and, Bool.and_false, Bool.false_and, Bool.true_or, Bool.or_true, Bool.or_false, Bool.false_or, Bool.not_true, Bool.not_false, decide_true, decide_false, not_true_eq_false, not_false_eq_true, eq_self, Bool.true_eq_false, Bool.false_eq_true, B242_100, IC, e1, B242_103]
    · have hm2 : x < hV b n T := by rw [← i_nle]; exact hm
      have e0 := R2_w0 (X := X) (d := d) (D := D) (P := P) (N := N) (q16 (hV b n T))
      refine ⟨_, ?_, fun q => absurd q.2 hm, fun _ => e0.2⟩
      simp only [hm2, Option.bind_some, List.append_nil, List.nil_append, List.cons_append, cond_true, cond_false, if_true, if_false, ite_true, ite_false, reduceIte, IC, bI_0, bI_1, bF, Bool.not_eq_false, Bool.not_eq_true, Bool.and_true, Bool.true_and, Bool.and_false, Bool.false_and, Bool.true_or, Bool.or_true, Bool.or_false, Bool.false_or, Bool.not_true, Bool.not_false, decide_true, decide_false, not_true_eq_false, not_false_eq_true, eq_self, Bool.true_eq_false, Bool.false_eq_true, B242_99, B242_100, IC, e0.1, B242_103]
  · rw [decide_eq_false hS18] at h18e
    have e0 := R2_w0 (X := X) (d := d) (D := D) (P := P) (N := N) (q16 0)
    have fin : Rn X (d + 4) 242 31 [.ref 65, .int x, U_, U_] [] (Mh D K P N) = some ([], Mh D (u2 (u2 K 65 16 0) 65 19 1) P N) := by
      have h43 : Rn X (d + 4) 242 43 [.ref 65, .int x, .int 0, .int (Int32.ofNat (hP n T))] [] (Mh D (u2 K 65 16 0) P N) = Rn X (d + 4) 242 82 [.ref 65, .int x, .int 0, .int (Int32.ofNat (hP n T))] [] (Mh D (u2 K 65 16 0) P N) := by
        rw [B242_43]
        simp only [RDm, Option.bind_some, r15, eq_self, if_true, ite_self]
      simp only [B242_31, B242_32, WRm, RDm, Option.bind_some, List.append_nil, List.nil_append, List.cons_append, cond_true, cond_false, if_true, if_false, ite_true, ite_false, reduceIte, IC, bI_0, bI_1, bF, Bool.not_eq_false, Bool.not_eq_true, Bool.and_true, Bool.true_and, Bool.and_false, Bool.false_and, Bool.true_or, Bool.or_true, Bool.or_false, Bool.false_or, Bool.not_true, Bool.not_false, decide_true, decide_false, not_true_eq_false, not_false_eq_true, eq_self, Bool.true_eq_false, Bool.false_eq_true, r14, h43]
      rw [B242_82, if_pos rfl, B242_99, B242_100]
      simp only [IC, e0.1, Option.bind_some, List.append_nil, List.nil_append, List.cons_append, cond_true, cond_false, if_true, if_false, ite_true, ite_false, reduceIte, IC, bI_0, bI_1, bF, Bool.not_eq_false, Bool.not_eq_true, Bool.and_true, Bool.true_and, Bool.and_false, Bool.false_and, Bool.true_or, Bool.or_true, Bool.or_false, Bool.false_or, Bool.not_true, Bool.not_false, decide_true, decide_false, not_true_eq_false, not_false_eq_true, eq_self, Bool.true_eq_false, Bool.false_eq_true, B242_103]
    refine ⟨_, ?_, fun q => absurd q.1 hS18, fun _ => e0.2⟩
    cases k1 : isDg (hB b T) with
    | false => simp only [Option.bind_some, List.append_nil, List.nil_append, List.cons_append, cond_true, cond_false, if_true, if_false, ite_true, ite_false, reduceIte, IC, bI_0, bI_1, bF, Bool.not_eq_false, Bool.not_eq_true, Bool.and_true, Bool.true_and, Bool.and_false, Bool.false_and, Bool.true_or, Bool.or_true, Bool.or_false, Bool.false_or, Bool.not_true, Bool.not_false, decide_true, decide_false, not_true_eq_false, not_false_eq_true, eq_self, Bool.true_eq_false, Bool.false_eq_true]; exact fin
    | true =>
      rw [k1, Bool.true_and, decide_eq_false_iff_not] at h18e
      simp only [h18e, Option.bind_some, List.append_nil, List.nil_append, List.cons_append, cond_true, cond_false, if_true, if_false, ite_true, ite_false, reduceIte, IC, bI_0, bI_1, bF, Bool.not_eq_false, Bool.not_eq_true, Bool.and_true, Bool.true_and, Bool.and_false, Bool.false_and, Bool.true_or, Bool.or_true, Bool.or_false, Bool.false_or, Bool.not_true, Bool.not_false, decide_true, decide_false, not_true_eq_false, not_false_eq_true, eq_self, Bool.true_eq_false, Bool.false_eq_true]; exact fin
end RefL
