/-! the host: sheets, items -/
def shR (a b x y z : Int32) : Prop := (x = 0 ∧ a = -1) ∨ (x = 1 ∧ a = -2 ∧ b = y) ∨ (x = 2 ∧ 0 ≤ a.toInt ∧ z = a ∧ b = y)
/-- the class's host holds what the reference's holds -/
def HosR (I : Nat → Nat → Int32) : Prop := (∀ r, r < 4 → I 55 r = I 73 r ∧ I 56 r = I 74 r ∧ bt (I 73 r) (-1) 4 = true ∧ bt (I 74 r) 0 40 = true ∧ ∀ j, j < 40 → I (58 + r) j = I 75 (40 * r + j))
  ∧ (∀ k, k < 4 → shR (I 62 k) (I 63 k) (I 76 k) (I 77 k) (I 78 k)) ∧ (I 54 6 = I 65 27 ∧ bt (I 65 27) 0 30 = true ∧ ∀ j, j < (I 65 27).toNatClampNeg → I 64 j = I 79 j)
def zrF (r n : Nat) (t : Nat → Int32) : Nat → Int32 := fun k => if r ≤ k ∧ k < r + n then 0 else t k
def shtO (b c : Int32) : Int32 := if 0 ≤ b then c else 0
def shtV (a b c : Int32) : Int32 := if (bt a 0 3 && bt b (-1) 4) = true then (if b < 0 then 1 else if c ≤ 40 then (if 0 ≤ c then 1 else -14) else -1) else -1
def shtR (I : Nat → Nat → Int32) (r : Nat) (b c : Int32) : Nat → Nat → Int32 := u2r (u2 (u2 I 73 r b) 74 r (shtO b c)) 75 (zrF (40 * r) 40 (I 75))
def shtC (I : Nat → Nat → Int32) (r : Nat) (b c : Int32) : Nat → Nat → Int32 := u2r (u2 (u2 I 55 r b) 56 r (shtO b c)) (58 + r) (zrF 0 40 (I (58 + r)))
theorem rr73 {D : Nat → Nat × Nat} {I : Nat → Nat → Int32} {P : Nat → Nat → Option Nat} {N : Nat} {j : Nat} (h : j < 4) : hAI 0 (Mh D I P N) 73 (Int32.ofNat j) = some (I 73 j) := by rw [rdA hN73 (n := 4) rfl rfl, mib_N h (by decide), iN_cl (by omega)]; rfl
theorem ww73 {D : Nat → Nat × Nat} {I : Nat → Nat → Int32} {P : Nat → Nat → Option Nat} {N : Nat} {j : Nat} {x : Int32} (h : j < 4) : hAS 0 (Mh D I P N) 73 (Int32.ofNat j) x = some (Mh D (u2 I 73 j x) P N) := by rw [wrA hN73 (n := 4) rfl rfl, mib_N h (by decide), iN_cl (by omega)]; rfl
theorem rr74 {D : Nat → Nat × Nat} {I : Nat → Nat → Int32} {P : Nat → Nat → Option Nat} {N : Nat} {j : Nat} (h : j < 4) : hAI 0 (Mh D I P N) 74 (Int32.ofNat j) = some (I 74 j) := by rw [rdA hN74 (n := 4) rfl rfl, mib_N h (by decide), iN_cl (by omega)]; rfl
theorem ww74 {D : Nat → Nat × Nat} {I : Nat → Nat → Int32} {P : Nat → Nat → Option Nat} {N : Nat} {j : Nat} {x : Int32} (h : j < 4) : hAS 0 (Mh D I P N) 74 (Int32.ofNat j) x = some (Mh D (u2 I 74 j x) P N) := by rw [wrA hN74 (n := 4) rfl rfl, mib_N h (by decide), iN_cl (by omega)]; rfl
theorem rr76 {D : Nat → Nat × Nat} {I : Nat → Nat → Int32} {P : Nat → Nat → Option Nat} {N : Nat} {j : Nat} (h : j < 4) : hAI 0 (Mh D I P N) 76 (Int32.ofNat j) = some (I 76 j) := by rw [rdA hN76 (n := 4) rfl rfl, mib_N h (by decide), iN_cl (by omega)]; rfl
theorem ww76 {D : Nat → Nat × Nat} {I : Nat → Nat → Int32} {P : Nat → Nat → Option Nat} {N : Nat} {j : Nat} {x : Int32} (h : j < 4) : hAS 0 (Mh D I P N) 76 (Int32.ofNat j) x = some (Mh D (u2 I 76 j x) P N) := by rw [wrA hN76 (n := 4) rfl rfl, mib_N h (by decide), iN_cl (by omega)]; rfl
theorem rr77 {D : Nat → Nat × Nat} {I : Nat → Nat → Int32} {P : Nat → Nat → Option Nat} {N : Nat} {j : Nat} (h : j < 4) : hAI 0 (Mh D I P N) 77 (Int32.ofNat j) = some (I 77 j) := by rw [rdA hN77 (n := 4) rfl rfl, mib_N h (by decide), iN_cl (by omega)]; rfl
theorem ww77 {D : Nat → Nat × Nat} {I : Nat → Nat → Int32} {P : Nat → Nat → Option Nat} {N : Nat} {j : Nat} {x : Int32} (h : j < 4) : hAS 0 (Mh D I P N) 77 (Int32.ofNat j) x = some (Mh D (u2 I 77 j x) P N) := by rw [wrA hN77 (n := 4) rfl rfl, mib_N h (by decide), iN_cl (by omega)]; rfl
theorem rr78 {D : Nat → Nat × Nat} {I : Nat → Nat → Int32} {P : Nat → Nat → Option Nat} {N : Nat} {j : Nat} (h : j < 4) : hAI 0 (Mh D I P N) 78 (Int32.ofNat j) = some (I 78 j) := by rw [rdA hN78 (n := 4) rfl rfl, mib_N h (by decide), iN_cl (by omega)]; rfl
theorem ww78 {D : Nat → Nat × Nat} {I : Nat → Nat → Int32} {P : Nat → Nat → Option Nat} {N : Nat} {j : Nat} {x : Int32} (h : j < 4) : hAS 0 (Mh D I P N) 78 (Int32.ofNat j) x = some (Mh D (u2 I 78 j x) P N) := by rw [wrA hN78 (n := 4) rfl rfl, mib_N h (by decide), iN_cl (by omega)]; rfl
theorem rr79 {D : Nat → Nat × Nat} {I : Nat → Nat → Int32} {P : Nat → Nat → Option Nat} {N : Nat} {j : Nat} (h : j < 30) : hAI 0 (Mh D I P N) 79 (Int32.ofNat j) = some (I 79 j) := by rw [rdA hN79 (n := 30) rfl rfl, mib_N h (by decide), iN_cl (by omega)]; rfl
theorem ww79 {D : Nat → Nat × Nat} {I : Nat → Nat → Int32} {P : Nat → Nat → Option Nat} {N : Nat} {j : Nat} {x : Int32} (h : j < 30) : hAS 0 (Mh D I P N) 79 (Int32.ofNat j) x = some (Mh D (u2 I 79 j x) P N) := by rw [wrA hN79 (n := 30) rfl rfl, mib_N h (by decide), iN_cl (by omega)]; rfl
theorem rr64 {D : Nat → Nat × Nat} {I : Nat → Nat → Int32} {P : Nat → Nat → Option Nat} {N : Nat} {j : Nat} (h : j < 30) : hAI 0 (Mh D I P N) 64 (Int32.ofNat j) = some (I 64 j) := by rw [rdA hN64 (n := 30) rfl rfl, mib_N h (by decide), iN_cl (by omega)]; rfl
theorem ww64 {D : Nat → Nat × Nat} {I : Nat → Nat → Int32} {P : Nat → Nat → Option Nat} {N : Nat} {j : Nat} {x : Int32} (h : j < 30) : hAS 0 (Mh D I P N) 64 (Int32.ofNat j) x = some (Mh D (u2 I 64 j x) P N) := by rw [wrA hN64 (n := 30) rfl rfl, mib_N h (by decide), iN_cl (by omega)]; rfl
section HostA
variable {X : mX} {d : Nat} {D : Nat → Nat × Nat} {I : Nat → Nat → Int32} {P : Nat → Nat → Option Nat} {N : Nat} {h : mH} {s g S r w f : Nat → Int32} {J J' : Nat → Nat → Int32} {ra : Nat → Nat} {L : List Nat} {m : Int} {i j k n p q t : Nat} {x y v a b c e : Int32}
theorem zr_s {r : Nat} {t : Nat → Int32} : upd (zrF r n t) (r + n) 0 = zrF r (n + 1) t := by
  funext k
  unfold zrF
  by_cases hk : k = r + n
  · subst hk; rw [upd_s, if_pos (by omega)]
  · rw [upd_o hk]
    by_cases h1 : r ≤ k ∧ k < r + n
    · rw [if_pos h1, if_pos (by omega)]
    · rw [if_neg h1, if_neg (by omega)]
theorem zr_0 {r : Nat} {t : Nat → Int32} : zrF r 0 t = t := by
  funext k; unfold zrF; rw [if_neg (by omega)]
theorem M_one : Rn X (d + 1) 253 0 [.int x] [] h = some ([.int (bI (bt x 0 3))], h) := by
  simp only [B253_0, B253_9, Option.bind_some, List.append_nil, List.nil_append, List.cons_append, cond_true, cond_false, if_true, if_false, ite_true, ite_false, reduceIte, IC, bI_0, bI_1, bF, Bool.not_eq_false, Bool.not_eq_true, Bool.and_true, Bool.true_and, Bool.and_false, Bool.false_and, Bool.true_or, Bool.or_true, Bool.or_false, Bool.false_or, Bool.not_true, Bool.not_false, decide_true, decide_false, not_true_eq_false, not_false_eq_true, eq_self, Bool.true_eq_false, Bool.false_eq_true, M_bt, L64]
theorem bt03 (h : bt x 0 3 = true) : ∃ r, r < 4 ∧ x = Int32.ofNat r := by
  have h1 := bt_iff.mp h
  exact ⟨x.toNatClampNeg, by have := cl_ti (x := x) (by omega); omega, iN_of (by omega)⟩
theorem Lm1 : (-1 : Int64).toInt = -1 := rfl
theorem M_sht1 {r : Nat} (hr : r < 4) {v1 v2 v3 : Int32} (h1 : v1 = Int32.ofNat r) : ∀ k i t, i + k = 40 → Rn X (d + 1) 254 69 [.ref 65, .int v1, .int v2, .int v3, .int (Int32.ofNat i)] [] (Mh D (u2r I 75 (zrF (40 * r) i t)) P N) = some ([.int 1], Mh D (u2r I 75 (zrF (40 * r) 40 t)) P N)
  | 0, i, t, hk => by
    have : i = 40 := by omega
    subst this
    rw [B254_69, if_pos (by decide)]
  | k + 1, i, t, hk => by
    have hx : 40 * v1 + Int32.ofNat i = Int32.ofNat (40 * r + i) := by rw [h1, Int32.ofNat_add]; simp only [IX]
    have w := ww75 (D := D) (I := u2r I 75 (zrF (40 * r) i t)) (P := P) (N := N) (j := 40 * r + i) (x := 0) (by omega)
    have e : u2 (u2r I 75 (zrF (40 * r) i t)) 75 (40 * r + i) 0 = u2r I 75 (zrF (40 * r) (i + 1) t) := by
      rw [u2_r, u2r_s, u2r_r, zr_s]
    rw [B254_69, if_neg (le_n (l := 40) (n := 40) rfl (by omega) (by omega) (by omega))]
    simp only [RDm, Option.bind_some, List.append_nil, List.nil_append, List.cons_append, cond_true, cond_false, if_true, if_false, ite_true, ite_false, reduceIte, IC, bI_0, bI_1, bF, Bool.not_eq_false, Bool.not_eq_true, Bool.and_true, Bool.true_and, Bool.and_false, Bool.false_and, Bool.true_or, Bool.or_true, Bool.or_false, Bool.false_or, Bool.not_true, Bool.not_false, decide_true, decide_false, not_true_eq_false, not_false_eq_true, eq_self, Bool.true_eq_false, Bool.false_eq_true, hx, w, e, IX]
    exact M_sht1 hr h1 k (i + 1) t (by omega)
theorem F_sht : Rn X (d + 40) 254 0 [.ref 65, .int a, .int b, .int c, U_] [] (Mh D I P N) = some ([.int (shtV a b c)], Mh D (if shtV a b c = 1 then shtR I a.toNatClampNeg b c else I) P N) := by
  have n1 : ¬ (-1 : Int32) = 1 := by decide
  have n14 : ¬ (-14 : Int32) = 1 := by decide
  simp only [B254_0, M_one, Option.bind_some, List.append_nil, List.nil_append, List.cons_append, cond_true, cond_false, if_true, if_false, ite_true, ite_false, reduceIte, IC, bI_0, bI_1, bF, Bool.not_eq_false, Bool.not_eq_true, Bool.and_true, Bool.true_and, Bool.and_false, Bool.false_and, Bool.true_or, Bool.or_true, Bool.or_false, Bool.false_or, Bool.not_true, Bool.not_false, decide_true, decide_false, not_true_eq_false, not_false_eq_true, eq_self, Bool.true_eq_false, Bool.false_eq_true, B254_4]
  unfold shtV
  cases h1 : bt a 0 3 with
  | false => simp only [Option.bind_some, List.append_nil, List.nil_append, List.cons_append, cond_true, cond_false, if_true, if_false, ite_true, ite_false, reduceIte, IC, bI_0, bI_1, bF, Bool.not_eq_false, Bool.not_eq_true, Bool.and_true, Bool.true_and, Bool.and_false, Bool.false_and, Bool.true_or, Bool.or_true, Bool.or_false, Bool.false_or, Bool.not_true, Bool.not_false, decide_true, decide_false, not_true_eq_false, not_false_eq_true, eq_self, Bool.true_eq_false, Bool.false_eq_true, B254_31, n1]
  | true =>
    simp only [Option.bind_some, List.append_nil, List.nil_append, List.cons_append, cond_true, cond_false, if_true, if_false, ite_true, ite_false, reduceIte, IC, bI_0, bI_1, bF, Bool.not_eq_false, Bool.not_eq_true, Bool.and_true, Bool.true_and, Bool.and_false, Bool.false_and, Bool.true_or, Bool.or_true, Bool.or_false, Bool.false_or, Bool.not_true, Bool.not_false, decide_true, decide_false, not_true_eq_false, not_false_eq_true, eq_self, Bool.true_eq_false, Bool.false_eq_true, M_bt, L64, Lm1, B254_18]
    cases h2 : bt b (-1) 4 with
    | false => simp only [Option.bind_some, List.append_nil, List.nil_append, List.cons_append, cond_true, cond_false, if_true, if_false, ite_true, ite_false, reduceIte, IC, bI_0, bI_1, bF, Bool.not_eq_false, Bool.not_eq_true, Bool.and_true, Bool.true_and, Bool.and_false, Bool.false_and, Bool.true_or, Bool.or_true, Bool.or_false, Bool.false_or, Bool.not_true, Bool.not_false, decide_true, decide_false, not_true_eq_false, not_false_eq_true, eq_self, Bool.true_eq_false, Bool.false_eq_true, B254_31, n1]
    | true =>
      obtain ⟨r, hr, rfl⟩ := bt03 h1
      have w73 := ww73 (D := D) (I := I) (P := P) (N := N) (j := r) (x := b) (by omega)
      have w74 : ∀ x, hAS 0 (Mh D (u2 I 73 r b) P N) 74 (Int32.ofNat r) x = some (Mh D (u2 (u2 I 73 r b) 74 r x) P N) := fun x => ww74 (by omega)
      have fin : Rn X (d + 39 + 1) 254 44 [.ref 65, .int (Int32.ofNat r), .int b, .int c, U_] [] (Mh D I P N) = some ([.int 1], Mh D (shtR I r b c) P N) := by
        have e := M_sht1 (X := X) (d := d + 39) (D := D) (I := u2 (u2 I 73 r b) 74 r (shtO b c)) (P := P) (N := N) (v2 := b) (v3 := c) hr rfl 40 0 (I 75) rfl
        rw [zr_0, show u2r (u2 (u2 I 73 r b) 74 r (shtO b c)) 75 (I 75) = u2 (u2 I 73 r b) 74 r (shtO b c) from u2r_id (J := u2 (u2 I 73 r b) 74 r (shtO b c)) (a := 75)] at e
        have e' : Rn X (d + 39 + 1) 254 69 [.ref 65, .int (Int32.ofNat r), .int b, .int c, .int 0] [] (Mh D (u2 (u2 I 73 r b) 74 r (shtO b c)) P N) = some ([.int 1], Mh D (shtR I r b c) P N) := e
        simp only [B254_44, RDm, Option.bind_some, List.append_nil, List.nil_append, List.cons_append, cond_true, cond_false, if_true, if_false, ite_true, ite_false, reduceIte, IC, bI_0, bI_1, bF, Bool.not_eq_false, Bool.not_eq_true, Bool.and_true, Bool.true_and, Bool.and_false, Bool.false_and, Bool.true_or, Bool.or_true, Bool.or_false, Bool.false_or, Bool.not_true, Bool.not_false, decide_true, decide_false, not_true_eq_false, not_false_eq_true, eq_self, Bool.true_eq_false, Bool.false_eq_true, w73, B254_65, w74]
        by_cases hb : 0 ≤ b
        · have : shtO b c = c := if_pos hb
          rw [this] at e'
          simp only [hb, Option.bind_some, List.append_nil, List.nil_append, List.cons_append, cond_true, cond_false, if_true, if_false, ite_true, ite_false, reduceIte, IC, bI_0, bI_1, bF, Bool.not_eq_false, Bool.not_eq_true, Bool.and_true, Bool.true_and, Bool.and_false, Bool.false_and, Bool.true_or, Bool.or_true, Bool.or_false, Bool.false_or, Bool.not_true, Bool.not_false, decide_true, decide_false, not_true_eq_false, not_false_eq_true, eq_self, Bool.true_eq_false, Bool.false_eq_true]; exact e'
        · have : shtO b c = 0 := if_neg hb
          rw [this] at e'
          simp only [hb, Option.bind_some, List.append_nil, List.nil_append, List.cons_append, cond_true, cond_false, if_true, if_false, ite_true, ite_false, reduceIte, IC, bI_0, bI_1, bF, Bool.not_eq_false, Bool.not_eq_true, Bool.and_true, Bool.true_and, Bool.and_false, Bool.false_and, Bool.true_or, Bool.or_true, Bool.or_false, Bool.false_or, Bool.not_true, Bool.not_false, decide_true, decide_false, not_true_eq_false, not_false_eq_true, eq_self, Bool.true_eq_false, Bool.false_eq_true]; exact e'
      have e0 : (Int32.ofNat r).toNatClampNeg = r := iN_cl (by omega)
      simp only [Option.bind_some, List.append_nil, List.nil_append, List.cons_append, cond_true, cond_false, if_true, if_false, ite_true, ite_false, reduceIte, IC, bI_0, bI_1, bF, Bool.not_eq_false, Bool.not_eq_true, Bool.and_true, Bool.true_and, Bool.and_false, Bool.false_and, Bool.true_or, Bool.or_true, Bool.or_false, Bool.false_or, Bool.not_true, Bool.not_false, decide_true, decide_false, not_true_eq_false, not_false_eq_true, eq_self, Bool.true_eq_false, Bool.false_eq_true, B254_33, B254_31, e0]
      by_cases hb : b < 0
      · simp only [hb, Option.bind_some, List.append_nil, List.nil_append, List.cons_append, cond_true, cond_false, if_true, if_false, ite_true, ite_false, reduceIte, IC, bI_0, bI_1, bF, Bool.not_eq_false, Bool.not_eq_true, Bool.and_true, Bool.true_and, Bool.and_false, Bool.false_and, Bool.true_or, Bool.or_true, Bool.or_false, Bool.false_or, Bool.not_true, Bool.not_false, decide_true, decide_false, not_true_eq_false, not_false_eq_true, eq_self, Bool.true_eq_false, Bool.false_eq_true, fin]
      · by_cases hc : c ≤ 40
        · by_cases hc0 : 0 ≤ c
          · simp only [hb, hc, hc0, Option.bind_some, List.append_nil, List.nil_append, List.cons_append, cond_true, cond_false, if_true, if_false, ite_true, ite_false, reduceIte, IC, bI_0, bI_1, bF, Bool.not_eq_false, Bool.not_eq_true, Bool.and_true, Bool.true_and, Bool.and_false, Bool.false_and, Bool.true_or, Bool.or_true, Bool.or_false, Bool.false_or, Bool.not_true, Bool.not_false, decide_true, decide_false, not_true_eq_false, not_false_eq_true, eq_self, Bool.true_eq_false, Bool.false_eq_true, fin]
          · simp only [hb, hc, hc0, Option.bind_some, List.append_nil, List.nil_append, List.cons_append, cond_true, cond_false, if_true, if_false, ite_true, ite_false, reduceIte, IC, bI_0, bI_1, bF, Bool.not_eq_false, Bool.not_eq_true, Bool.and_true, Bool.true_and, Bool.and_false, Bool.false_and, Bool.true_or, Bool.or_true, Bool.or_false, Bool.false_or, Bool.not_true, Bool.not_false, decide_true, decide_false, not_true_eq_false, not_false_eq_true, eq_self, Bool.true_eq_false, Bool.false_eq_true, n14]
        · simp only [hb, hc, Option.bind_some, List.append_nil, List.nil_append, List.cons_append, cond_true, cond_false, if_true, if_false, ite_true, ite_false, reduceIte, IC, bI_0, bI_1, bF, Bool.not_eq_false, Bool.not_eq_true, Bool.and_true, Bool.true_and, Bool.and_false, Bool.false_and, Bool.true_or, Bool.or_true, Bool.or_false, Bool.false_or, Bool.not_true, Bool.not_false, decide_true, decide_false, not_true_eq_false, not_false_eq_true, eq_self, Bool.true_eq_false, Bool.false_eq_true, n1]
theorem q57 {r : Nat} (hr : r < 4) : hAR (Mh D I P N) 57 (Int32.ofNat r) = some (some (58 + r)) := by
  rw [rdQ3 hN57 (n := 4) rfl, mib_N hr (by decide), iN_cl (by omega), if_pos hr]; rfl
theorem k58 {r : Nat} (hr : r < 4) : 58 + r < 80 + N ∧ bKk D (58 + r) = (0, 40) := by
  have : r = 0 ∨ r = 1 ∨ r = 2 ∨ r = 3 := by omega
  refine ⟨by omega, ?_⟩
  rcases this with rfl | rfl | rfl | rfl <;> rfl
theorem r58 {r : Nat} (hr : r < 4) (hj : j < 40) : hAI 0 (Mh D I P N) (58 + r) (Int32.ofNat j) = some (I (58 + r) j) := by
  rw [rdA (k58 (D := D) (N := N) hr).1 (k58 (D := D) (N := N) hr).2 rfl, mib_N hj (by decide), iN_cl (by omega)]; rfl
theorem w58 {r : Nat} (hr : r < 4) (hj : j < 40) : hAS 0 (Mh D I P N) (58 + r) (Int32.ofNat j) x = some (Mh D (u2 I (58 + r) j x) P N) := by
  rw [wrA (k58 (D := D) (N := N) hr).1 (k58 (D := D) (N := N) hr).2 rfl, mib_N hj (by decide), iN_cl (by omega)]; rfl
theorem rw55 (h : j < 4) : (hAI 0 (Mh D I P N) 55 (Int32.ofNat j) = some (I 55 j) ∧ hAI 0 (Mh D I P N) 56 (Int32.ofNat j) = some (I 56 j) ∧ hAI 0 (Mh D I P N) 62 (Int32.ofNat j) = some (I 62 j) ∧ hAI 0 (Mh D I P N) 63 (Int32.ofNat j) = some (I 63 j)) := by
  refine ⟨?_, ?_, ?_, ?_⟩
  · rw [rdA hN55 (n := 4) rfl rfl, mib_N h (by decide), iN_cl (by omega)]; rfl
  · rw [rdA hN56 (n := 4) rfl rfl, mib_N h (by decide), iN_cl (by omega)]; rfl
  · rw [rdA hN62 (n := 4) rfl rfl, mib_N h (by decide), iN_cl (by omega)]; rfl
  · rw [rdA hN63 (n := 4) rfl rfl, mib_N h (by decide), iN_cl (by omega)]; rfl
theorem ww55 (h : j < 4) : (∀ I x, hAS 0 (Mh D I P N) 55 (Int32.ofNat j) x = some (Mh D (u2 I 55 j x) P N)) ∧ (∀ I x, hAS 0 (Mh D I P N) 56 (Int32.ofNat j) x = some (Mh D (u2 I 56 j x) P N)) ∧ (∀ I x, hAS 0 (Mh D I P N) 62 (Int32.ofNat j) x = some (Mh D (u2 I 62 j x) P N)) ∧ (∀ I x, hAS 0 (Mh D I P N) 63 (Int32.ofNat j) x = some (Mh D (u2 I 63 j x) P N)) := by
  refine ⟨fun I x => ?_, fun I x => ?_, fun I x => ?_, fun I x => ?_⟩
  · rw [wrA hN55 (n := 4) rfl rfl, mib_N h (by decide), iN_cl (by omega)]; rfl
  · rw [wrA hN56 (n := 4) rfl rfl, mib_N h (by decide), iN_cl (by omega)]; rfl
  · rw [wrA hN62 (n := 4) rfl rfl, mib_N h (by decide), iN_cl (by omega)]; rfl
  · rw [wrA hN63 (n := 4) rfl rfl, mib_N h (by decide), iN_cl (by omega)]; rfl
theorem C_ish : Rn X d 7 0 [.ref 54, .int x] [] h = some ([.int (bI (bt x 0 3))], h) := by
  rw [B7_0, B7_13, B7_14, B7_14]
  unfold bt
  by_cases h1 : x < 0
  · have := Int32.lt_iff_toInt_lt.mp h1
    rw [z_ti] at this
    rw [if_pos h1, decide_eq_false (show ¬ (0 : Int) ≤ x.toInt by omega)]; rfl
  · have q : ¬ x.toInt < 0 := fun q => h1 (Int32.lt_iff_toInt_lt.mpr (by rw [z_ti]; exact q))
    rw [if_neg h1, decide_eq_true (show (0 : Int) ≤ x.toInt by omega)]
    by_cases h2 : 4 ≤ x
    · have := Int32.le_iff_toInt_le.mp h2
      rw [show (4 : Int32).toInt = 4 from rfl] at this
      rw [if_pos h2, decide_eq_false (show ¬ x.toInt ≤ 3 by omega)]; rfl
    · have q2 : ¬ 4 ≤ x.toInt := fun q => h2 (Int32.le_iff_toInt_le.mpr q)
      rw [if_neg h2, decide_eq_true (show x.toInt ≤ 3 by omega)]; rfl
theorem C_fil {r : Nat} (hr : r < 4) : ∀ k i t, i + k = 40 → Rn X d 286 5 [.ref (58 + r), .int 0, .int (Int32.ofNat i), .int 40] [] (Mh D (u2r I (58 + r) (zrF 0 i t)) P N) = some ([], Mh D (u2r I (58 + r) (zrF 0 40 t)) P N)
  | 0, i, t, hk => by
    have : i = 40 := by omega
    subst this
    rw [B286_5, if_pos (by decide)]
  | k + 1, i, t, hk => by
    have e : u2 (u2r I (58 + r) (zrF 0 i t)) (58 + r) i 0 = u2r I (58 + r) (zrF 0 (i + 1) t) := by
      have := zr_s (r := 0) (n := i) (t := t)
      rw [Nat.zero_add] at this
      rw [u2_r, u2r_s, u2r_r, this]
    rw [B286_5, if_neg (le_n (l := 40) (n := 40) rfl (by omega) (by omega) (by omega))]
    simp only [Option.bind_some, List.append_nil, List.nil_append, List.cons_append, cond_true, cond_false, if_true, if_false, ite_true, ite_false, reduceIte, IC, bI_0, bI_1, bF, Bool.not_eq_false, Bool.not_eq_true, Bool.and_true, Bool.true_and, Bool.and_false, Bool.false_and, Bool.true_or, Bool.or_true, Bool.or_false, Bool.false_or, Bool.not_true, Bool.not_false, decide_true, decide_false, not_true_eq_false, not_false_eq_true, eq_self, Bool.true_eq_false, Bool.false_eq_true, w58 hr (show i < 40 by omega), e, IX]
    exact C_fil hr k (i + 1) t (by omega)
theorem N_sht : Rn X (d + 40) 144 0 [.ref 0, .int a, .int b, .int c] [] (Mh D I P N) = some ([.int (shtV a b c)], Mh D (if shtV a b c = 1 then shtC I a.toNatClampNeg b c else I) P N) := by
  have n1 : ¬ (-1 : Int32) = 1 := by decide
  have n14 : ¬ (-14 : Int32) = 1 := by decide
  have em : (-1 : Int32).toInt = -1 := rfl
  simp only [B144_0, RDc, C_ish, Option.bind_some, List.append_nil, List.nil_append, List.cons_append, cond_true, cond_false, if_true, if_false, ite_true, ite_false, reduceIte, IC, bI_0, bI_1, bF, Bool.not_eq_false, Bool.not_eq_true, Bool.and_true, Bool.true_and, Bool.and_false, Bool.false_and, Bool.true_or, Bool.or_true, Bool.or_false, Bool.false_or, Bool.not_true, Bool.not_false, decide_true, decide_false, not_true_eq_false, not_false_eq_true, eq_self, Bool.true_eq_false, Bool.false_eq_true, B144_8]
  unfold shtV
  cases h1 : bt a 0 3 with
  | false => simp only [Option.bind_some, List.append_nil, List.nil_append, List.cons_append, cond_true, cond_false, if_true, if_false, ite_true, ite_false, reduceIte, IC, bI_0, bI_1, bF, Bool.not_eq_false, Bool.not_eq_true, Bool.and_true, Bool.true_and, Bool.and_false, Bool.false_and, Bool.true_or, Bool.or_true, Bool.or_false, Bool.false_or, Bool.not_true, Bool.not_false, decide_true, decide_false, not_true_eq_false, not_false_eq_true, eq_self, Bool.true_eq_false, Bool.false_eq_true, B144_30, n1]
  | true =>
    simp only [Option.bind_some, List.append_nil, List.nil_append, List.cons_append, cond_true, cond_false, if_true, if_false, ite_true, ite_false, reduceIte, IC, bI_0, bI_1, bF, Bool.not_eq_false, Bool.not_eq_true, Bool.and_true, Bool.true_and, Bool.and_false, Bool.false_and, Bool.true_or, Bool.or_true, Bool.or_false, Bool.false_or, Bool.not_true, Bool.not_false, decide_true, decide_false, not_true_eq_false, not_false_eq_true, eq_self, Bool.true_eq_false, Bool.false_eq_true, C_btw, L32, em, B144_17]
    cases h2 : bt b (-1) 4 with
    | false => simp only [Option.bind_some, List.append_nil, List.nil_append, List.cons_append, cond_true, cond_false, if_true, if_false, ite_true, ite_false, reduceIte, IC, bI_0, bI_1, bF, Bool.not_eq_false, Bool.not_eq_true, Bool.and_true, Bool.true_and, Bool.and_false, Bool.false_and, Bool.true_or, Bool.or_true, Bool.or_false, Bool.false_or, Bool.not_true, Bool.not_false, decide_true, decide_false, not_true_eq_false, not_false_eq_true, eq_self, Bool.true_eq_false, Bool.false_eq_true, B144_30, n1]
    | true =>
      obtain ⟨r, hr, rfl⟩ := bt03 h1
      have w := ww55 (D := D) (P := P) (N := N) (j := r) hr
      have hb4 := bt_iff.mp h2
      have fin : Rn X (d + 39 + 1) 144 43 [.ref 0, .int (Int32.ofNat r), .int b, .int c] [] (Mh D I P N) = some ([.int 1], Mh D (shtC I r b c) P N) := by
        have e := C_fil (X := X) (d := d + 38) (D := D) (I := u2 (u2 I 55 r b) 56 r (shtO b c)) (P := P) (N := N) hr 40 0 (I (58 + r)) rfl
        have e5 : u2 (u2 I 55 r b) 56 r (shtO b c) (58 + r) = I (58 + r) := by rw [u2_o (by omega), u2_o (by omega)]
        rw [zr_0, ← e5, u2r_id, e5] at e
        have e' : Rn X (d + 38) 286 5 [.ref (58 + r), .int 0, .int 0, .int 40] [] (Mh D (u2 (u2 I 55 r b) 56 r (shtO b c)) P N) = some ([], Mh D (shtC I r b c) P N) := e
        have hl : ∀ I, hAL (Mh D I P N) (58 + r) = some 40 := fun I => rdL (k58 (D := D) (N := N) hr).1 (k58 (D := D) (N := N) hr).2 rfl
        have h40 : Int32.ofNat 40 = 40 := rfl
        simp only [B144_43, RDc, Option.bind_some, List.append_nil, List.nil_append, List.cons_append, cond_true, cond_false, if_true, if_false, ite_true, ite_false, reduceIte, IC, bI_0, bI_1, bF, Bool.not_eq_false, Bool.not_eq_true, Bool.and_true, Bool.true_and, Bool.and_false, Bool.false_and, Bool.true_or, Bool.or_true, Bool.or_false, Bool.false_or, Bool.not_true, Bool.not_false, decide_true, decide_false, not_true_eq_false, not_false_eq_true, eq_self, Bool.true_eq_false, Bool.false_eq_true, B9_0, C_ish, h1, B9_5, w, B9_30, q57 hr, va_rf, B286_0, hl, h40]
        by_cases hb : b = -1
        · have : shtO b c = 0 := if_neg (by rw [hb]; decide)
          rw [this] at e'
          simp only [hb, Option.bind_some, List.append_nil, List.nil_append, List.cons_append, cond_true, cond_false, if_true, if_false, ite_true, ite_false, reduceIte, IC, bI_0, bI_1, bF, Bool.not_eq_false, Bool.not_eq_true, Bool.and_true, Bool.true_and, Bool.and_false, Bool.false_and, Bool.true_or, Bool.or_true, Bool.or_false, Bool.false_or, Bool.not_true, Bool.not_false, decide_true, decide_false, not_true_eq_false, not_false_eq_true, eq_self, Bool.true_eq_false, Bool.false_eq_true] at e' ⊢
          simp only [Option.bind_some, List.append_nil, List.nil_append, List.cons_append, cond_true, cond_false, if_true, if_false, ite_true, ite_false, reduceIte, IC, bI_0, bI_1, bF, Bool.not_eq_false, Bool.not_eq_true, Bool.and_true, Bool.true_and, Bool.and_false, Bool.false_and, Bool.true_or, Bool.or_true, Bool.or_false, Bool.false_or, Bool.not_true, Bool.not_false, decide_true, decide_false, not_true_eq_false, not_false_eq_true, eq_self, Bool.true_eq_false, Bool.false_eq_true, w, q57 hr, va_rf, B286_0, hl, h40, e', B9_41, B144_53]
        · have : shtO b c = c := if_pos (by
            rw [Int32.le_iff_toInt_le, z_ti]
            have : b.toInt ≠ -1 := fun q => hb (Int32.toInt_inj.mp q)
            omega)
          rw [this] at e'
          simp only [hb, Option.bind_some, List.append_nil, List.nil_append, List.cons_append, cond_true, cond_false, if_true, if_false, ite_true, ite_false, reduceIte, IC, bI_0, bI_1, bF, Bool.not_eq_false, Bool.not_eq_true, Bool.and_true, Bool.true_and, Bool.and_false, Bool.false_and, Bool.true_or, Bool.or_true, Bool.or_false, Bool.false_or, Bool.not_true, Bool.not_false, decide_true, decide_false, not_true_eq_false, not_false_eq_true, eq_self, Bool.true_eq_false, Bool.false_eq_true, w, q57 hr, va_rf, B286_0, hl, h40, e', B9_41, B144_53]
      have e0 : (Int32.ofNat r).toNatClampNeg = r := iN_cl (by omega)
      simp only [Option.bind_some, List.append_nil, List.nil_append, List.cons_append, cond_true, cond_false, if_true, if_false, ite_true, ite_false, reduceIte, IC, bI_0, bI_1, bF, Bool.not_eq_false, Bool.not_eq_true, Bool.and_true, Bool.true_and, Bool.and_false, Bool.false_and, Bool.true_or, Bool.or_true, Bool.or_false, Bool.false_or, Bool.not_true, Bool.not_false, decide_true, decide_false, not_true_eq_false, not_false_eq_true, eq_self, Bool.true_eq_false, Bool.false_eq_true, B144_32, B144_30, e0]
      by_cases hb : b < 0
      · simp only [hb, Option.bind_some, List.append_nil, List.nil_append, List.cons_append, cond_true, cond_false, if_true, if_false, ite_true, ite_false, reduceIte, IC, bI_0, bI_1, bF, Bool.not_eq_false, Bool.not_eq_true, Bool.and_true, Bool.true_and, Bool.and_false, Bool.false_and, Bool.true_or, Bool.or_true, Bool.or_false, Bool.false_or, Bool.not_true, Bool.not_false, decide_true, decide_false, not_true_eq_false, not_false_eq_true, eq_self, Bool.true_eq_false, Bool.false_eq_true, fin]
      · by_cases hc : c ≤ 40
        · by_cases hc0 : 0 ≤ c
          · simp only [hb, hc, hc0, Option.bind_some, List.append_nil, List.nil_append, List.cons_append, cond_true, cond_false, if_true, if_false, ite_true, ite_false, reduceIte, IC, bI_0, bI_1, bF, Bool.not_eq_false, Bool.not_eq_true, Bool.and_true, Bool.true_and, Bool.and_false, Bool.false_and, Bool.true_or, Bool.or_true, Bool.or_false, Bool.false_or, Bool.not_true, Bool.not_false, decide_true, decide_false, not_true_eq_false, not_false_eq_true, eq_self, Bool.true_eq_false, Bool.false_eq_true, fin]
          · simp only [hb, hc, hc0, Option.bind_some, List.append_nil, List.nil_append, List.cons_append, cond_true, cond_false, if_true, if_false, ite_true, ite_false, reduceIte, IC, bI_0, bI_1, bF, Bool.not_eq_false, Bool.not_eq_true, Bool.and_true, Bool.true_and, Bool.and_false, Bool.false_and, Bool.true_or, Bool.or_true, Bool.or_false, Bool.false_or, Bool.not_true, Bool.not_false, decide_true, decide_false, not_true_eq_false, not_false_eq_true, eq_self, Bool.true_eq_false, Bool.false_eq_true, n14]
        · simp only [hb, hc, Option.bind_some, List.append_nil, List.nil_append, List.cons_append, cond_true, cond_false, if_true, if_false, ite_true, ite_false, reduceIte, IC, bI_0, bI_1, bF, Bool.not_eq_false, Bool.not_eq_true, Bool.and_true, Bool.true_and, Bool.and_false, Bool.false_and, Bool.true_or, Bool.or_true, Bool.or_false, Bool.false_or, Bool.not_true, Bool.not_false, decide_true, decide_false, not_true_eq_false, not_false_eq_true, eq_self, Bool.true_eq_false, Bool.false_eq_true, n1]
end HostA
