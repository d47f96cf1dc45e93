/-! keep and again of the reference; feed and many, both -/
section Feed
variable {X : mX} {d : Nat} {D : Nat → Nat × Nat} {I : Nat → Nat → Int32} {P : Nat → Nat → Option Nat} {N : Nat} {h : mH} {s g c S r w f : Nat → Int32} {J J' : Nat → Nat → Int32} {ra : Nat → Nat} {L : List Nat} {m : Int} {i j k n p q t a' b' : Nat} {x y v a b e : Int32} {l : Int64}
theorem M_kep1 : ∀ k i r, i + k = 320 → Rn X d 276 2 [.ref 65, .int (Int32.ofNat i)] [] (Mh D (u2r I 67 r) P N) = some ([.int 1], Mh D (u2 (u2r I 67 (foldA (fun j r => upd r j (I 66 j)) i k r)) 65 3 1) P N)
  | 0, i, r, hk => by
    rw [B276_2, if_pos (le_y (l := 320) (n := 320) rfl (by omega) (by omega) (by omega))]
    simp only [WRm, Option.bind_some, List.append_nil, List.nil_append, List.cons_append, cond_true, cond_false, if_true, if_false, ite_true, ite_false, reduceIte, IC, bI_0, bI_1, bF, Bool.not_eq_false, Bool.not_eq_true, Bool.and_true, Bool.true_and, Bool.and_false, Bool.false_and, Bool.true_or, Bool.or_true, Bool.or_false, Bool.false_or, Bool.not_true, Bool.not_false, decide_true, decide_false, not_true_eq_false, not_false_eq_true, eq_self, Bool.true_eq_false, Bool.false_eq_true]
    rfl
  | k + 1, i, r, hk => by
    rw [B276_2, if_neg (le_n (l := 320) (n := 320) rfl (by omega) (by omega) (by omega))]
    simp (disch := omega) only [RDm, Option.bind_some, List.append_nil, List.nil_append, List.cons_append, cond_true, cond_false, if_true, if_false, ite_true, ite_false, reduceIte, IC, bI_0, bI_1, bF, Bool.not_eq_false, Bool.not_eq_true, Bool.and_true, Bool.true_and, Bool.and_false, Bool.false_and, Bool.true_or, Bool.or_true, Bool.or_false, Bool.false_or, Bool.not_true, Bool.not_false, decide_true, decide_false, not_true_eq_false, not_false_eq_true, eq_self, Bool.true_eq_false, Bool.false_eq_true, rS, ww67, IX, u2_r, u2r_s, u2r_r]
    have := M_kep1 k (i + 1) (upd r i (I 66 i)) (by omega)
    simp only [u2_r] at this
    exact this
theorem F_kep : Rn X d 276 0 [.ref 65, U_] [] (Mh D I P N) = some ([.int 1], Mh D (u2 (u2r I 67 (row320 (I 66) (I 67))) 65 3 1) P N) := by
  rw [B276_0, ← cp320]
  have e := M_kep1 (X := X) (d := d) (D := D) (I := I) (P := P) (N := N) 320 0 (I 67) rfl
  rw [u2r_id] at e
  exact e
theorem M_agn1 : ∀ k i r, i + k = 320 → Rn X d 277 12 [.ref 65, .int (Int32.ofNat i)] [] (Mh D (u2r I 66 r) P N) = some ([.int (foldA (fun j r => upd r j (I 67 j)) i k r 0)], Mh D (u2r I 66 (foldA (fun j r => upd r j (I 67 j)) i k r)) P N)
  | 0, i, r, hk => by
    rw [B277_12, if_pos (le_y (l := 320) (n := 320) rfl (by omega) (by omega) (by omega))]
    simp only [RDm, Option.bind_some, List.append_nil, List.nil_append, List.cons_append, cond_true, cond_false, if_true, if_false, ite_true, ite_false, reduceIte, IC, bI_0, bI_1, bF, Bool.not_eq_false, Bool.not_eq_true, Bool.and_true, Bool.true_and, Bool.and_false, Bool.false_and, Bool.true_or, Bool.or_true, Bool.or_false, Bool.false_or, Bool.not_true, Bool.not_false, decide_true, decide_false, not_true_eq_false, not_false_eq_true, eq_self, Bool.true_eq_false, Bool.false_eq_true]
    rfl
  | k + 1, i, r, hk => by
    rw [B277_12, if_neg (le_n (l := 320) (n := 320) rfl (by omega) (by omega) (by omega))]
    simp (disch := omega) only [RDm, Option.bind_some, List.append_nil, List.nil_append, List.cons_append, cond_true, cond_false, if_true, if_false, ite_true, ite_false, reduceIte, IC, bI_0, bI_1, bF, Bool.not_eq_false, Bool.not_eq_true, Bool.and_true, Bool.true_and, Bool.and_false, Bool.false_and, Bool.true_or, Bool.or_true, Bool.or_false, Bool.false_or, Bool.not_true, Bool.not_false, decide_true, decide_false, not_true_eq_false, not_false_eq_true, eq_self, Bool.true_eq_false, Bool.false_eq_true, rr67, wS, IX, u2_r, u2r_s, u2r_r]
    exact M_agn1 k (i + 1) _ (by omega)
theorem F_agn (hk : ¬ I 65 3 = 0) : Rn X d 277 0 [.ref 65, U_] [] (Mh D I P N) = some ([.int (I 67 0)], Mh D (u2r I 66 (row320 (I 67) (I 66))) P N) := by
  have e := M_agn1 (X := X) (d := d) (D := D) (I := I) (P := P) (N := N) 320 0 (I 66) rfl
  rw [u2r_id, cp320] at e
  simp only [B277_0, RDm, Option.bind_some, List.append_nil, List.nil_append, List.cons_append, cond_true, cond_false, if_true, if_false, ite_true, ite_false, reduceIte, IC, bI_0, bI_1, bF, Bool.not_eq_false, Bool.not_eq_true, Bool.and_true, Bool.true_and, Bool.and_false, Bool.false_and, Bool.true_or, Bool.or_true, Bool.or_false, Bool.false_or, Bool.not_true, Bool.not_false, decide_true, decide_false, not_true_eq_false, not_false_eq_true, eq_self, Bool.true_eq_false, Bool.false_eq_true, hk]
  exact e
theorem F_agn0 (hk : I 65 3 = 0) : Rn X d 277 0 [.ref 65, U_] [] (Mh D I P N) = some ([.int (-3)], Mh D I P N) := by
  simp only [B277_0, RDm, Option.bind_some, List.append_nil, List.nil_append, List.cons_append, cond_true, cond_false, if_true, if_false, ite_true, ite_false, reduceIte, IC, bI_0, bI_1, bF, Bool.not_eq_false, Bool.not_eq_true, Bool.and_true, Bool.true_and, Bool.and_false, Bool.false_and, Bool.true_or, Bool.or_true, Bool.or_false, Bool.false_or, Bool.not_true, Bool.not_false, decide_true, decide_false, not_true_eq_false, not_false_eq_true, eq_self, Bool.true_eq_false, Bool.false_eq_true, hk]
def mn30 (x : Int32) : Int32 := if 30 ≤ x then 30 else x
theorem F_man : Rn X (d + 1) 275 0 [.ref 65, .int x] [] (Mh D I P N) = some ([.int (if x = 0 then I 66 0 else if x = 1 then I 66 1 else if x = 2 then I 66 2 else if x = 3 then I 66 3 else if x = 4 then I 65 11 else if x = 5 then I 65 13 else if x = 6 then mn30 (I 65 27) else -1)], Mh D I P N) := by
  simp only [B275_0, RDm, Option.bind_some, List.append_nil, List.nil_append, List.cons_append, cond_true, cond_false, if_true, if_false, ite_true, ite_false, reduceIte, IC, bI_0, bI_1, bF, Bool.not_eq_false, Bool.not_eq_true, Bool.and_true, Bool.true_and, Bool.and_false, Bool.false_and, Bool.true_or, Bool.or_true, Bool.or_false, Bool.false_or, Bool.not_true, Bool.not_false, decide_true, decide_false, not_true_eq_false, not_false_eq_true, eq_self, Bool.true_eq_false, Bool.false_eq_true, B273_0, B273_18, B275_86]
  unfold mn30
  by_cases h0 : x = 0
  · simp only [h0, Option.bind_some, List.append_nil, List.nil_append, List.cons_append, cond_true, cond_false, if_true, if_false, ite_true, ite_false, reduceIte, IC, bI_0, bI_1, bF, Bool.not_eq_false, Bool.not_eq_true, Bool.and_true, Bool.true_and, Bool.and_false, Bool.false_and, Bool.true_or, Bool.or_true, Bool.or_false, Bool.false_or, Bool.not_true, Bool.not_false, decide_true, decide_false, not_true_eq_false, not_false_eq_true, eq_self, Bool.true_eq_false, Bool.false_eq_true]
  by_cases h1 : x = 1
  · simp +decide only [h1, Option.bind_some, List.append_nil, List.nil_append, List.cons_append, cond_true, cond_false, if_true, if_false, ite_true, ite_false, reduceIte, IC, bI_0, bI_1, bF, Bool.not_eq_false, Bool.not_eq_true, Bool.and_true, Bool.true_and, Bool.and_false, Bool.false_and, Bool.true_or, Bool.or_true, Bool.or_false, Bool.false_or, Bool.not_true, Bool.not_false, decide_true, decide_false, not_true_eq_false, not_false_eq_true, eq_self, Bool.true_eq_false, Bool.false_eq_true]
  by_cases h2 : x = 2
  · simp +decide only [h2, Option.bind_some, List.append_nil, List.nil_append, List.cons_append, cond_true, cond_false, if_true, if_false, ite_true, ite_false, reduceIte, IC, bI_0, bI_1, bF, Bool.not_eq_false, Bool.not_eq_true, Bool.and_true, Bool.true_and, Bool.and_false, Bool.false_and, Bool.true_or, Bool.or_true, Bool.or_false, Bool.false_or, Bool.not_true, Bool.not_false, decide_true, decide_false, not_true_eq_false, not_false_eq_true, eq_self, Bool.true_eq_false, Bool.false_eq_true]
  by_cases h3 : x = 3
  · simp +decide only [h3, Option.bind_some, List.append_nil, List.nil_append, List.cons_append, cond_true, cond_false, if_true, if_false, ite_true, ite_false, reduceIte, IC, bI_0, bI_1, bF, Bool.not_eq_false, Bool.not_eq_true, Bool.and_true, Bool.true_and, Bool.and_false, Bool.false_and, Bool.true_or, Bool.or_true, Bool.or_false, Bool.false_or, Bool.not_true, Bool.not_false, decide_true, decide_false, not_true_eq_false, not_false_eq_true, eq_self, Bool.true_eq_false, Bool.false_eq_true]
  by_cases h4 : x = 4
  · simp +decide only [h4, Option.bind_some, List.append_nil, List.nil_append, List.cons_append, cond_true, cond_false, if_true, if_false, ite_true, ite_false, reduceIte, IC, bI_0, bI_1, bF, Bool.not_eq_false, Bool.not_eq_true, Bool.and_true, Bool.true_and, Bool.and_false, Bool.false_and, Bool.true_or, Bool.or_true, Bool.or_false, Bool.false_or, Bool.not_true, Bool.not_false, decide_true, decide_false, not_true_eq_false, not_false_eq_true, eq_self, Bool.true_eq_false, Bool.false_eq_true]
  by_cases h5 : x = 5
  · simp +decide only [h5, Option.bind_some, List.append_nil, List.nil_append, List.cons_append, cond_true, cond_false, if_true, if_false, ite_true, ite_false, reduceIte, IC, bI_0, bI_1, bF, Bool.not_eq_false, Bool.not_eq_true, Bool.and_true, Bool.true_and, Bool.and_false, Bool.false_and, Bool.true_or, Bool.or_true, Bool.or_false, Bool.false_or, Bool.not_true, Bool.not_false, decide_true, decide_false, not_true_eq_false, not_false_eq_true, eq_self, Bool.true_eq_false, Bool.false_eq_true]
  by_cases h6 : x = 6
  · subst h6
    by_cases h : 30 ≤ I 65 27
    · simp +decide only [h, Option.bind_some, List.append_nil, List.nil_append, List.cons_append, cond_true, cond_false, if_true, if_false, ite_true, ite_false, reduceIte, IC, bI_0, bI_1, bF, Bool.not_eq_false, Bool.not_eq_true, Bool.and_true, Bool.true_and, Bool.and_false, Bool.false_and, Bool.true_or, Bool.or_true, Bool.or_false, Bool.false_or, Bool.not_true, Bool.not_false, decide_true, decide_false, not_true_eq_false, not_false_eq_true, eq_self, Bool.true_eq_false, Bool.false_eq_true, B275_86]
    · simp +decide only [h, Option.bind_some, List.append_nil, List.nil_append, List.cons_append, cond_true, cond_false, if_true, if_false, ite_true, ite_false, reduceIte, IC, bI_0, bI_1, bF, Bool.not_eq_false, Bool.not_eq_true, Bool.and_true, Bool.true_and, Bool.and_false, Bool.false_and, Bool.true_or, Bool.or_true, Bool.or_false, Bool.false_or, Bool.not_true, Bool.not_false, decide_true, decide_false, not_true_eq_false, not_false_eq_true, eq_self, Bool.true_eq_false, Bool.false_eq_true, B275_86]
  · simp only [h0, h1, h2, h3, h4, h5, h6, Option.bind_some, List.append_nil, List.nil_append, List.cons_append, cond_true, cond_false, if_true, if_false, ite_true, ite_false, reduceIte, IC, bI_0, bI_1, bF, Bool.not_eq_false, Bool.not_eq_true, Bool.and_true, Bool.true_and, Bool.and_false, Bool.false_and, Bool.true_or, Bool.or_true, Bool.or_false, Bool.false_or, Bool.not_true, Bool.not_false, decide_true, decide_false, not_true_eq_false, not_false_eq_true, eq_self, Bool.true_eq_false, Bool.false_eq_true]
theorem N_man (hr : RideR s D I P N 1 ra) : Rn X d 153 0 [.ref 0, .int x] [] (Mh D I P N) = some ([.int (if x = 0 then s 0 else if x = 1 then s 1 else if x = 2 then s 2 else if x = 3 then s 3 else if x = 4 then I 0 8 else if x = 5 then I 0 6 else if x = 6 then I 54 6 else -1)], Mh D I P N) := by
  obtain ⟨⟨e1, e4, e5, e6, e7, e8, e13⟩, -, -, -, -, q, hq, hR⟩ := hr
  have hq0 : hFI (Mh D I P N) q 0 [5] = some (s 1) := by
    rw [rdI (by have := hR.1.2.1; omega) hR.1.2.2.1 rfl]; exact congrArg some hR.2.1
  simp only [B153_0, RDc, Option.bind_some, List.append_nil, List.nil_append, List.cons_append, cond_true, cond_false, if_true, if_false, ite_true, ite_false, reduceIte, IC, bI_0, bI_1, bF, Bool.not_eq_false, Bool.not_eq_true, Bool.and_true, Bool.true_and, Bool.and_false, Bool.false_and, Bool.true_or, Bool.or_true, Bool.or_false, Bool.false_or, Bool.not_true, Bool.not_false, decide_true, decide_false, not_true_eq_false, not_false_eq_true, eq_self, Bool.true_eq_false, Bool.false_eq_true, hq, hq0, e1, e4, e13]
  by_cases h0 : x = 0
  · simp only [h0, Option.bind_some, List.append_nil, List.nil_append, List.cons_append, cond_true, cond_false, if_true, if_false, ite_true, ite_false, reduceIte, IC, bI_0, bI_1, bF, Bool.not_eq_false, Bool.not_eq_true, Bool.and_true, Bool.true_and, Bool.and_false, Bool.false_and, Bool.true_or, Bool.or_true, Bool.or_false, Bool.false_or, Bool.not_true, Bool.not_false, decide_true, decide_false, not_true_eq_false, not_false_eq_true, eq_self, Bool.true_eq_false, Bool.false_eq_true]
  by_cases h1 : x = 1
  · simp +decide only [h1, Option.bind_some, List.append_nil, List.nil_append, List.cons_append, cond_true, cond_false, if_true, if_false, ite_true, ite_false, reduceIte, IC, bI_0, bI_1, bF, Bool.not_eq_false, Bool.not_eq_true, Bool.and_true, Bool.true_and, Bool.and_false, Bool.false_and, Bool.true_or, Bool.or_true, Bool.or_false, Bool.false_or, Bool.not_true, Bool.not_false, decide_true, decide_false, not_true_eq_false, not_false_eq_true, eq_self, Bool.true_eq_false, Bool.false_eq_true, hq0]
  by_cases h2 : x = 2
  · simp +decide only [h2, Option.bind_some, List.append_nil, List.nil_append, List.cons_append, cond_true, cond_false, if_true, if_false, ite_true, ite_false, reduceIte, IC, bI_0, bI_1, bF, Bool.not_eq_false, Bool.not_eq_true, Bool.and_true, Bool.true_and, Bool.and_false, Bool.false_and, Bool.true_or, Bool.or_true, Bool.or_false, Bool.false_or, Bool.not_true, Bool.not_false, decide_true, decide_false, not_true_eq_false, not_false_eq_true, eq_self, Bool.true_eq_false, Bool.false_eq_true]
  by_cases h3 : x = 3
  · simp +decide only [h3, Option.bind_some, List.append_nil, List.nil_append, List.cons_append, cond_true, cond_false, if_true, if_false, ite_true, ite_false, reduceIte, IC, bI_0, bI_1, bF, Bool.not_eq_false, Bool.not_eq_true, Bool.and_true, Bool.true_and, Bool.and_false, Bool.false_and, Bool.true_or, Bool.or_true, Bool.or_false, Bool.false_or, Bool.not_true, Bool.not_false, decide_true, decide_false, not_true_eq_false, not_false_eq_true, eq_self, Bool.true_eq_false, Bool.false_eq_true]
  by_cases h4 : x = 4
  · simp +decide only [h4, Option.bind_some, List.append_nil, List.nil_append, List.cons_append, cond_true, cond_false, if_true, if_false, ite_true, ite_false, reduceIte, IC, bI_0, bI_1, bF, Bool.not_eq_false, Bool.not_eq_true, Bool.and_true, Bool.true_and, Bool.and_false, Bool.false_and, Bool.true_or, Bool.or_true, Bool.or_false, Bool.false_or, Bool.not_true, Bool.not_false, decide_true, decide_false, not_true_eq_false, not_false_eq_true, eq_self, Bool.true_eq_false, Bool.false_eq_true]
  by_cases h5 : x = 5
  · simp +decide only [h5, Option.bind_some, List.append_nil, List.nil_append, List.cons_append, cond_true, cond_false, if_true, if_false, ite_true, ite_false, reduceIte, IC, bI_0, bI_1, bF, Bool.not_eq_false, Bool.not_eq_true, Bool.and_true, Bool.true_and, Bool.and_false, Bool.false_and, Bool.true_or, Bool.or_true, Bool.or_false, Bool.false_or, Bool.not_true, Bool.not_false, decide_true, decide_false, not_true_eq_false, not_false_eq_true, eq_self, Bool.true_eq_false, Bool.false_eq_true]
  by_cases h6 : x = 6
  · simp +decide only [h6, Option.bind_some, List.append_nil, List.nil_append, List.cons_append, cond_true, cond_false, if_true, if_false, ite_true, ite_false, reduceIte, IC, bI_0, bI_1, bF, Bool.not_eq_false, Bool.not_eq_true, Bool.and_true, Bool.true_and, Bool.and_false, Bool.false_and, Bool.true_or, Bool.or_true, Bool.or_false, Bool.false_or, Bool.not_true, Bool.not_false, decide_true, decide_false, not_true_eq_false, not_false_eq_true, eq_self, Bool.true_eq_false, Bool.false_eq_true]
  · simp only [h0, h1, h2, h3, h4, h5, h6, Option.bind_some, List.append_nil, List.nil_append, List.cons_append, cond_true, cond_false, if_true, if_false, ite_true, ite_false, reduceIte, IC, bI_0, bI_1, bF, Bool.not_eq_false, Bool.not_eq_true, Bool.and_true, Bool.true_and, Bool.and_false, Bool.false_and, Bool.true_or, Bool.or_true, Bool.or_false, Bool.false_or, Bool.not_true, Bool.not_false, decide_true, decide_false, not_true_eq_false, not_false_eq_true, eq_self, Bool.true_eq_false, Bool.false_eq_true]
def bR (l : Int64) (k : Nat) : Int32 := ((l >>> ((8 * Int32.ofNat k).toInt64 &&& 63)) &&& 255).toInt32
def bC (l : Int64) (k : Nat) : Int32 := ((((l.toUInt64 >>> ((8 * Int32.ofNat k).toInt64.toUInt64 &&& Int64.toUInt64 63)).toInt64).toInt32).toInt8.toInt32).toInt8.toInt32
def fdR (B : Nat → Int32) (t : Nat → Int32) (p : Nat) : Nat → (Nat → Int32)
  | 0 => t
  | k + 1 => upd (fdR B t p k) (p + k) (B k)
theorem M_fd1 (hp : p + n ≤ 200) : ∀ k i, i + k = n → Rn X (d + 1) 235 32 [.ref 65, .long l, U_, .int (Int32.ofNat n), .int (Int32.ofNat i)] [] (Mh D (u2 (u2r I 72 (fdR (bR l) (I 72) p i)) 65 13 (Int32.ofNat (p + i))) P N)
      = some ([.int (Int32.ofNat (p + n))], Mh D (u2 (u2r I 72 (fdR (bR l) (I 72) p n)) 65 13 (Int32.ofNat (p + n))) P N)
  | 0, i, hk => by
    have : i = n := by omega
    subst this
    rw [B235_32, if_pos (by rw [iN_le (by omega) (by omega)]; omega)]
    simp only [RDm, Option.bind_some, List.append_nil, List.nil_append, List.cons_append, cond_true, cond_false, if_true, if_false, ite_true, ite_false, reduceIte, IC, bI_0, bI_1, bF, Bool.not_eq_false, Bool.not_eq_true, Bool.and_true, Bool.true_and, Bool.and_false, Bool.false_and, Bool.true_or, Bool.or_true, Bool.or_false, Bool.false_or, Bool.not_true, Bool.not_false, decide_true, decide_false, not_true_eq_false, not_false_eq_true, eq_self, Bool.true_eq_false, Bool.false_eq_true, u2_s, upd_s]
  | k + 1, i, hk => by
    have w := ww72 (D := D) (P := P) (N := N) (I := u2 (u2r I 72 (fdR (bR l) (I 72) p i)) 65 13 (Int32.ofNat (p + i))) (j := p + i) (x := bR l i) (by omega)
    have hb : ((l >>> ((8 * Int32.ofNat i).toInt64 &&& 63)) &&& 255).toInt32 = bR l i := rfl
    have es : u2 (u2 (u2r I 72 (fdR (bR l) (I 72) p i)) 65 13 (Int32.ofNat (p + i))) 72 (p + i) (bR l i) = u2 (u2r I 72 (fdR (bR l) (I 72) p (i + 1))) 65 13 (Int32.ofNat (p + i)) := by
      funext c
      by_cases h1 : c = 72
      · subst h1; rfl
      · rw [u2_o h1]
        by_cases h2 : c = 65
        · subst h2; rfl
        · rw [u2_o h2, u2_o h2, u2r_o h1, u2r_o h1]
    have es2 : ∀ r : Nat → Int32, u2 (u2 (u2r I 72 r) 65 13 (Int32.ofNat (p + i))) 65 13 (Int32.ofNat (p + (i + 1))) = u2 (u2r I 72 r) 65 13 (Int32.ofNat (p + (i + 1))) := fun r => by
      rw [u2_r, u2_s, upd_upd, u2_r, u2_r, u2r_r]
    rw [B235_32, if_neg (by rw [iN_le (by omega) (by omega)]; omega)]
    simp only [RDm, Option.bind_some, List.append_nil, List.nil_append, List.cons_append, cond_true, cond_false, if_true, if_false, ite_true, ite_false, reduceIte, IC, bI_0, bI_1, bF, Bool.not_eq_false, Bool.not_eq_true, Bool.and_true, Bool.true_and, Bool.and_false, Bool.false_and, Bool.true_or, Bool.or_true, Bool.or_false, Bool.false_or, Bool.not_true, Bool.not_false, decide_true, decide_false, not_true_eq_false, not_false_eq_true, eq_self, Bool.true_eq_false, Bool.false_eq_true, u2_s, upd_s, hb, w, es, WRm, IX, Nat.add_assoc, es2]
    exact M_fd1 hp k (i + 1) (by omega)
theorem N_fd1 (hp : p + n ≤ 200) : ∀ k i, i + k = n → Rn X (d + 1) 118 30 [.ref 0, .long l, U_, .int (Int32.ofNat n), .int (Int32.ofNat i)] [] (Mh D (u2 (u2r I 49 (fdR (bC l) (I 49) p i)) 0 6 (Int32.ofNat (p + i))) P N)
      = some ([.int (Int32.ofNat (p + n))], Mh D (u2 (u2r I 49 (fdR (bC l) (I 49) p n)) 0 6 (Int32.ofNat (p + n))) P N)
  | 0, i, hk => by
    have : i = n := by omega
    subst this
    rw [B118_30, if_pos (by rw [iN_le (by omega) (by omega)]; omega), B118_80]
    simp only [RDc, Option.bind_some, List.append_nil, List.nil_append, List.cons_append, cond_true, cond_false, if_true, if_false, ite_true, ite_false, reduceIte, IC, bI_0, bI_1, bF, Bool.not_eq_false, Bool.not_eq_true, Bool.and_true, Bool.true_and, Bool.and_false, Bool.false_and, Bool.true_or, Bool.or_true, Bool.or_false, Bool.false_or, Bool.not_true, Bool.not_false, decide_true, decide_false, not_true_eq_false, not_false_eq_true, eq_self, Bool.true_eq_false, Bool.false_eq_true, u2_s, upd_s]
  | k + 1, i, hk => by
    have w : ∀ I x, hAS 1 (Mh D I P N) 49 (Int32.ofNat (p + i)) x = some (Mh D (u2 I 49 (p + i) x) P N) := fun I x => by
      rw [wrA hN49 (n := 200) rfl rfl, mib_N (by omega) (by decide), iN_cl (by omega)]; rfl
    have hb : ((((l.toUInt64 >>> ((8 * Int32.ofNat i).toInt64.toUInt64 &&& Int64.toUInt64 63)).toInt64).toInt32).toInt8.toInt32).toInt8.toInt32 = bC l i := rfl
    have n2 : ¬ (200 : Int32) ≤ Int32.ofNat (p + i) := le_n (l := 200) (n := 200) rfl (by omega) (by omega) (by omega)
    have es : u2 (u2 (u2r I 49 (fdR (bC l) (I 49) p i)) 0 6 (Int32.ofNat (p + i))) 49 (p + i) (bC l i) = u2 (u2r I 49 (fdR (bC l) (I 49) p (i + 1))) 0 6 (Int32.ofNat (p + i)) := by
      funext c
      by_cases h1 : c = 49
      · subst h1; rfl
      · rw [u2_o h1]
        by_cases h2 : c = 0
        · subst h2; rfl
        · rw [u2_o h2, u2_o h2, u2r_o h1, u2r_o h1]
    have es2 : ∀ r : Nat → Int32, u2 (u2 (u2r I 49 r) 0 6 (Int32.ofNat (p + i))) 0 6 (Int32.ofNat (p + (i + 1))) = u2 (u2r I 49 r) 0 6 (Int32.ofNat (p + (i + 1))) := fun r => by
      rw [u2_r, u2_s, upd_upd, u2_r, u2_r, u2r_r]
    rw [B118_30, if_neg (by rw [iN_le (by omega) (by omega)]; omega)]
    simp only [RDc, Option.bind_some, List.append_nil, List.nil_append, List.cons_append, cond_true, cond_false, if_true, if_false, ite_true, ite_false, reduceIte, IC, bI_0, bI_1, bF, Bool.not_eq_false, Bool.not_eq_true, Bool.and_true, Bool.true_and, Bool.and_false, Bool.false_and, Bool.true_or, Bool.or_true, Bool.or_false, Bool.false_or, Bool.not_true, Bool.not_false, decide_true, decide_false, not_true_eq_false, not_false_eq_true, eq_self, Bool.true_eq_false, Bool.false_eq_true, u2_s, upd_s, n2, hb, w, es, WRc, IX, Nat.add_assoc, es2]
    exact N_fd1 hp k (i + 1) (by omega)
def feS (l : Int64) (I : Nat → Nat → Int32) (a b c : Nat) (B : Nat → Int32) (p n : Nat) : Nat → Nat → Int32 := u2 (u2r I a (fdR B (I a) p n)) b c (Int32.ofNat (p + n))
theorem fe0 : u2 (u2r I a' (fdR f (I a') p 0)) q b' (Int32.ofNat (p + 0)) = u2 I q b' (Int32.ofNat p) := by
  show u2 (u2r I a' (I a')) q b' (Int32.ofNat p) = _
  rw [u2r_id]
theorem u2_id (h : I q b' = x) : u2 I q b' x = I := by
  rw [u2_r, ← h, upd_id, u2r_id]
theorem F_fed (hl : I 65 13 = Int32.ofNat p) (hp : p ≤ 200) : Rn X (d + 40) 235 0 [.ref 65, .long l, U_, .int x, U_] [] (Mh D I P N) = (if bt x 1 8 = true then (if p + x.toNatClampNeg ≤ 200 then some ([.int (Int32.ofNat (p + x.toNatClampNeg))], Mh D (feS l I 72 65 13 (bR l) p x.toNatClampNeg) P N) else some ([.int (-2)], Mh D I P N)) else some ([.int (-1)], Mh D I P N)) := by
  simp only [B235_0, M_bt, L64, Option.bind_some, List.append_nil, List.nil_append, List.cons_append, cond_true, cond_false, if_true, if_false, ite_true, ite_false, reduceIte, IC, bI_0, bI_1, bF, Bool.not_eq_false, Bool.not_eq_true, Bool.and_true, Bool.true_and, Bool.and_false, Bool.false_and, Bool.true_or, Bool.or_true, Bool.or_false, Bool.false_or, Bool.not_true, Bool.not_false, decide_true, decide_false, not_true_eq_false, not_false_eq_true, eq_self, Bool.true_eq_false, Bool.false_eq_true, B235_9]
  cases hb : bt x 1 8 with
  | false => simp only [Option.bind_some, List.append_nil, List.nil_append, List.cons_append, cond_true, cond_false, if_true, if_false, ite_true, ite_false, reduceIte, IC, bI_0, bI_1, bF, Bool.not_eq_false, Bool.not_eq_true, Bool.and_true, Bool.true_and, Bool.and_false, Bool.false_and, Bool.true_or, Bool.or_true, Bool.or_false, Bool.false_or, Bool.not_true, Bool.not_false, decide_true, decide_false, not_true_eq_false, not_false_eq_true, eq_self, Bool.true_eq_false, Bool.false_eq_true]
  | true =>
    have h1 := bt_iff.mp hb
    have e1 : x = Int32.ofNat x.toNatClampNeg := iN_of (by omega)
    have e2 := cl_ti (x := x) (by omega)
    have hx : Int32.ofNat p + x = Int32.ofNat (p + x.toNatClampNeg) := by rw [Int32.ofNat_add, ← e1]
    have hle : (Int32.ofNat (p + x.toNatClampNeg) ≤ 200) = (p + x.toNatClampNeg ≤ 200) := by rw [show (200 : Int32) = Int32.ofNat 200 from rfl, iN_le (by omega) (by decide)]
    simp only [Option.bind_some, List.append_nil, List.nil_append, List.cons_append, cond_true, cond_false, if_true, if_false, ite_true, ite_false, reduceIte, IC, bI_0, bI_1, bF, Bool.not_eq_false, Bool.not_eq_true, Bool.and_true, Bool.true_and, Bool.and_false, Bool.false_and, Bool.true_or, Bool.or_true, Bool.or_false, Bool.false_or, Bool.not_true, Bool.not_false, decide_true, decide_false, not_true_eq_false, not_false_eq_true, eq_self, Bool.true_eq_false, Bool.false_eq_true, RDm, hl, hx, hle]
    by_cases h2 : p + x.toNatClampNeg ≤ 200
    · have e := M_fd1 (X := X) (d := d + 39) (D := D) (I := I) (P := P) (N := N) (l := l) h2 x.toNatClampNeg 0 (by omega)
      rw [fe0, u2_id hl, ← e1] at e
      simp only [h2, Option.bind_some, List.append_nil, List.nil_append, List.cons_append, cond_true, cond_false, if_true, if_false, ite_true, ite_false, reduceIte, IC, bI_0, bI_1, bF, Bool.not_eq_false, Bool.not_eq_true, Bool.and_true, Bool.true_and, Bool.and_false, Bool.false_and, Bool.true_or, Bool.or_true, Bool.or_false, Bool.false_or, Bool.not_true, Bool.not_false, decide_true, decide_false, not_true_eq_false, not_false_eq_true, eq_self, Bool.true_eq_false, Bool.false_eq_true]
      exact e
    · simp only [h2, Option.bind_some, List.append_nil, List.nil_append, List.cons_append, cond_true, cond_false, if_true, if_false, ite_true, ite_false, reduceIte, IC, bI_0, bI_1, bF, Bool.not_eq_false, Bool.not_eq_true, Bool.and_true, Bool.true_and, Bool.and_false, Bool.false_and, Bool.true_or, Bool.or_true, Bool.or_false, Bool.false_or, Bool.not_true, Bool.not_false, decide_true, decide_false, not_true_eq_false, not_false_eq_true, eq_self, Bool.true_eq_false, Bool.false_eq_true]
theorem N_fed (hl : I 0 6 = Int32.ofNat p) (hp : p ≤ 200) : Rn X (d + 40) 118 0 [.ref 0, .long l, U_, .int x, U_] [] (Mh D I P N) = (if bt x 1 8 = true then (if p + x.toNatClampNeg ≤ 200 then some ([.int (Int32.ofNat (p + x.toNatClampNeg))], Mh D (feS l I 49 0 6 (bC l) p x.toNatClampNeg) P N) else some ([.int (-2)], Mh D I P N)) else some ([.int (-1)], Mh D I P N)) := by
  simp only [B118_0, C_btw, L32, Option.bind_some, List.append_nil, List.nil_append, List.cons_append, cond_true, cond_false, if_true, if_false, ite_true, ite_false, reduceIte, IC, bI_0, bI_1, bF, Bool.not_eq_false, Bool.not_eq_true, Bool.and_true, Bool.true_and, Bool.and_false, Bool.false_and, Bool.true_or, Bool.or_true, Bool.or_false, Bool.false_or, Bool.not_true, Bool.not_false, decide_true, decide_false, not_true_eq_false, not_false_eq_true, eq_self, Bool.true_eq_false, Bool.false_eq_true, B118_7]
  cases hb : bt x 1 8 with
  | false => simp only [Option.bind_some, List.append_nil, List.nil_append, List.cons_append, cond_true, cond_false, if_true, if_false, ite_true, ite_false, reduceIte, IC, bI_0, bI_1, bF, Bool.not_eq_false, Bool.not_eq_true, Bool.and_true, Bool.true_and, Bool.and_false, Bool.false_and, Bool.true_or, Bool.or_true, Bool.or_false, Bool.false_or, Bool.not_true, Bool.not_false, decide_true, decide_false, not_true_eq_false, not_false_eq_true, eq_self, Bool.true_eq_false, Bool.false_eq_true]
  | true =>
    have h1 := bt_iff.mp hb
    have e1 : x = Int32.ofNat x.toNatClampNeg := iN_of (by omega)
    have e2 := cl_ti (x := x) (by omega)
    have hx : Int32.ofNat p + x = Int32.ofNat (p + x.toNatClampNeg) := by rw [Int32.ofNat_add, ← e1]
    have hle : (Int32.ofNat (p + x.toNatClampNeg) ≤ 200) = (p + x.toNatClampNeg ≤ 200) := by rw [show (200 : Int32) = Int32.ofNat 200 from rfl, iN_le (by omega) (by decide)]
    simp only [Option.bind_some, List.append_nil, List.nil_append, List.cons_append, cond_true, cond_false, if_true, if_false, ite_true, ite_false, reduceIte, IC, bI_0, bI_1, bF, Bool.not_eq_false, Bool.not_eq_true, Bool.and_true, Bool.true_and, Bool.and_false, Bool.false_and, Bool.true_or, Bool.or_true, Bool.or_false, Bool.false_or, Bool.not_true, Bool.not_false, decide_true, decide_false, not_true_eq_false, not_false_eq_true, eq_self, Bool.true_eq_false, Bool.false_eq_true, RDc, hl, hx, hle]
    by_cases h2 : p + x.toNatClampNeg ≤ 200
    · have e := N_fd1 (X := X) (d := d + 39) (D := D) (I := I) (P := P) (N := N) (l := l) h2 x.toNatClampNeg 0 (by omega)
      rw [fe0, u2_id hl, ← e1] at e
      simp only [h2, Option.bind_some, List.append_nil, List.nil_append, List.cons_append, cond_true, cond_false, if_true, if_false, ite_true, ite_false, reduceIte, IC, bI_0, bI_1, bF, Bool.not_eq_false, Bool.not_eq_true, Bool.and_true, Bool.true_and, Bool.and_false, Bool.false_and, Bool.true_or, Bool.or_true, Bool.or_false, Bool.false_or, Bool.not_true, Bool.not_false, decide_true, decide_false, not_true_eq_false, not_false_eq_true, eq_self, Bool.true_eq_false, Bool.false_eq_true]
      exact e
    · simp only [h2, Option.bind_some, List.append_nil, List.nil_append, List.cons_append, cond_true, cond_false, if_true, if_false, ite_true, ite_false, reduceIte, IC, bI_0, bI_1, bF, Bool.not_eq_false, Bool.not_eq_true, Bool.and_true, Bool.true_and, Bool.and_false, Bool.false_and, Bool.true_or, Bool.or_true, Bool.or_false, Bool.false_or, Bool.not_true, Bool.not_false, decide_true, decide_false, not_true_eq_false, not_false_eq_true, eq_self, Bool.true_eq_false, Bool.false_eq_true]
theorem b8 (h : k < 8) : bC l k = (bR l k).toInt8.toInt32 := by
  have key : ∀ (x : BitVec 64) (n : Nat), n ≤ 56 → ((x >>> n).setWidth 32).setWidth 8 = (((x.sshiftRight n) &&& 255#64).setWidth 32).setWidth 8 := by
    intro x n hn
    apply BitVec.eq_of_getLsbD_eq
    intro i hi
    have h255 : (255#64).getLsbD i = true := by
      have : i = 0 ∨ i = 1 ∨ i = 2 ∨ i = 3 ∨ i = 4 ∨ i = 5 ∨ i = 6 ∨ i = 7 := by omega
      rcases this with rfl | rfl | rfl | rfl | rfl | rfl | rfl | rfl <;> rfl
    simp only [BitVec.getLsbD_setWidth, BitVec.getLsbD_ushiftRight, BitVec.getLsbD_and, BitVec.getLsbD_sshiftRight, h255, Bool.and_true]
    have h1 : i < 32 := by omega
    have h2 : n + i < 64 := by omega
    have h3 : ¬ 64 ≤ i := by omega
    simp [hi, h1, h2, h3]
  have e : ∀ (n : Nat) (u v : BitVec 64), n ≤ 56 → u.toNat = n → v.toNat = n → ((l.toBitVec >>> u).signExtend 32).signExtend 8 = (((l.toBitVec.sshiftRight' v) &&& 255#64).signExtend 32).signExtend 8 := by
    intro n u v hn hu hv
    rw [BitVec.signExtend_eq_setWidth_of_le _ (by omega), BitVec.signExtend_eq_setWidth_of_le _ (by omega), BitVec.signExtend_eq_setWidth_of_le _ (by omega), BitVec.signExtend_eq_setWidth_of_le _ (by omega)]
    show ((l.toBitVec >>> u.toNat).setWidth 32).setWidth 8 = (((l.toBitVec.sshiftRight v.toNat) &&& 255#64).setWidth 32).setWidth 8
    rw [hu, hv]
    exact key l.toBitVec n hn
  have : k = 0 ∨ k = 1 ∨ k = 2 ∨ k = 3 ∨ k = 4 ∨ k = 5 ∨ k = 6 ∨ k = 7 := by omega
  unfold bC bR
  rw [Int8.toInt8_toInt32]
  refine congrArg Int8.toInt32 ?_
  rcases this with rfl | rfl | rfl | rfl | rfl | rfl | rfl | rfl
  · exact Int8.toBitVec_inj.mp (e 0 _ _ (by omega) rfl rfl)
  · exact Int8.toBitVec_inj.mp (e 8 _ _ (by omega) rfl rfl)
  · exact Int8.toBitVec_inj.mp (e 16 _ _ (by omega) rfl rfl)
  · exact Int8.toBitVec_inj.mp (e 24 _ _ (by omega) rfl rfl)
  · exact Int8.toBitVec_inj.mp (e 32 _ _ (by omega) rfl rfl)
  · exact Int8.toBitVec_inj.mp (e 40 _ _ (by omega) rfl rfl)
  · exact Int8.toBitVec_inj.mp (e 48 _ _ (by omega) rfl rfl)
  · exact Int8.toBitVec_inj.mp (e 56 _ _ (by omega) rfl rfl)
end Feed
