/-! the host: acts, the trace -/
def sayB (k : Int32) : List Int32 := if k = 1 then [20, 10] else if k = 3 then [50, 10] else [10]
def sayV (k a x : Int32) : Int32 := if k = 1 then (x + a) * 2 else if k = 3 then x + a - 1 else x + a
def swaB (k : Int32) : List Int32 := (if k = 2 then [30, 11] else if k = 3 then [30, 11] else if k = 5 then [60, 11] else [11]) ++ sayB k
def swaV (k a n x : Int32) : Int32 := if k = 2 then (sayV k a x - n) ^^^ n else if k = 3 then (sayV k a x - n) ^^^ n else if k = 5 then 0 - (sayV k a x - n) else sayV k a x - n
def shaB (k a n : Int32) : List Int32 := if k = 4 then [40, 12] else if k = 5 then (if a = n then [61, 40, 12] else [61, 40, 12, 10]) else [12]
def shaV (k a n x : Int32) : Int32 := if k = 4 then (x - 3) / (a - n) else if k = 5 then (x - 3) / (a - n) - (n + a) else x / (a - n)
def telB (k : Int32) : List Int32 := (if k = 3 then [51, 13] else [13]) ++ (swaB k ++ (if k = 3 then [12] else []))
def telV (k a n x : Int32) : Int32 := if k = 3 then (swaV k a n x ^^^ a) + a / (a - n) else swaV k a n x ^^^ a
def actL (k a n w : Int32) : List Int32 := if w = 0 then sayB k else if w = 1 then swaB k else if w = 2 then shaB k a n else telB k
def actV (k a n w x : Int32) : Int32 := if w = 0 then sayV k a x else if w = 1 then swaV k a n x else if w = 2 then (if a = n then -15 else shaV k a n x) else (if (decide (k = 3) && decide (a = n)) = true then -15 else telV k a n x)
def trl (t : Nat → Int32) (L : List Int32) : Nat → Int32 := fun k => if k < L.length then L.getD k 0 else t k
def actM (I : Nat → Nat → Int32) (L : List Int32) (b : Bool) : Nat → Nat → Int32 := u2r (u2 (u2 I 65 27 (Int32.ofNat L.length)) 65 31 (bI b)) 79 (trl (I 79) L)
def actC (I : Nat → Nat → Int32) (L : List Int32) (b : Bool) : Nat → Nat → Int32 := u2r (u2 (u2 I 54 6 (Int32.ofNat L.length)) 54 7 (bI b)) 64 (trl (I 64) L)
section Act
variable {X : mX} {d : Nat} {D : Nat → Nat × Nat} {I : Nat → Nat → Int32} {P : Nat → Nat → Option Nat} {N : Nat} {h : mH} {s g S r w f : Nat → Int32} {J J' : Nat → Nat → Int32} {ra : Nat → Nat} {L : List Int32} {m : Int} {i j q t p c0 : Nat} {x y z v k a n e l u b : Int32} {pt : Bool}
theorem trl_s {t : Nat → Int32} : upd (trl t L) L.length x = trl t (L ++ [x]) := by
  funext k
  unfold trl
  by_cases hk : k = L.length
  · subst hk
    rw [upd_s, if_pos (by rw [List.length_append]; simp), List.getD_eq_getElem?_getD, List.getElem?_append_right (Nat.le_refl _)]
    simp
  · rw [upd_o hk]
    by_cases h1 : k < L.length
    · rw [if_pos h1, if_pos (by rw [List.length_append]; simp; omega), List.getD_eq_getElem?_getD, List.getD_eq_getElem?_getD, List.getElem?_append_left h1]
    · rw [if_neg h1, if_neg (by rw [List.length_append]; simp; omega)]
theorem u2_sw {c : Nat} {i j : Nat} (h : i ≠ j) : u2 (u2 I c i x) c j y = u2 (u2 I c j y) c i x := by
  funext b
  by_cases hb : b = c
  · subst hb
    rw [u2_s, u2_s, u2_s, u2_s]
    funext k
    by_cases h1 : k = j
    · subst h1; rw [upd_s, upd_o (fun q => h q.symm), upd_s]
    · rw [upd_o h1]
      by_cases h2 : k = i
      · subst h2; rw [upd_s, upd_s]
      · rw [upd_o h2, upd_o h2, upd_o h1]
  · rw [u2_o hb, u2_o hb, u2_o hb, u2_o hb]
theorem u2_ag {c : Nat} {i : Nat} : u2 (u2 I c i x) c i y = u2 I c i y := by
  funext b
  by_cases hb : b = c
  · subst hb
    rw [u2_s, u2_s, u2_s]
    funext k
    by_cases h1 : k = i
    · subst h1; rw [upd_s, upd_s]
    · rw [upd_o h1, upd_o h1, upd_o h1]
  · rw [u2_o hb, u2_o hb, u2_o hb]
theorem u2_u2r {c e : Nat} {i : Nat} {r : Nat → Int32} (h : c ≠ e) : u2 (u2r I e r) c i x = u2r (u2 I c i x) e r := by
  funext b
  by_cases hb : b = c
  · subst hb
    rw [u2_s, u2r_o h, u2r_o h, u2_s]
  · rw [u2_o hb]
    by_cases h2 : b = e
    · subst h2; rw [u2r_s, u2r_s]
    · rw [u2r_o h2, u2r_o h2, u2_o hb]
theorem actM_w : u2 (u2 (actM I L false) 79 L.length x) 65 27 (Int32.ofNat L.length + 1) = actM I (L ++ [x]) false := by
  have hl : Int32.ofNat L.length + 1 = Int32.ofNat (L ++ [x]).length := by rw [iN_succ, List.length_append]; rfl
  rw [hl]
  funext b
  by_cases h1 : b = 65
  · subst h1
    funext k
    show upd (upd (upd (I 65) 27 (Int32.ofNat L.length)) 31 (bI false)) 27 (Int32.ofNat (L ++ [x]).length) k = upd (upd (I 65) 27 (Int32.ofNat (L ++ [x]).length)) 31 (bI false) k
    by_cases h2 : k = 27
    · subst h2; rw [upd_s, upd_o (by decide), upd_s]
    · rw [upd_o h2]
      by_cases h3 : k = 31
      · subst h3; rw [upd_s, upd_s]
      · rw [upd_o h3, upd_o h3, upd_o h2, upd_o h2]
  · by_cases h2 : b = 79
    · subst h2
      exact trl_s
    · unfold actM
      rw [u2_o h1, u2_o h2, u2r_o h2, u2r_o h2, u2_o h1, u2_o h1, u2_o h1, u2_o h1]
theorem actC_w : u2 (u2 (actC I L false) 64 L.length x) 54 6 (Int32.ofNat L.length + 1) = actC I (L ++ [x]) false := by
  have hl : Int32.ofNat L.length + 1 = Int32.ofNat (L ++ [x]).length := by rw [iN_succ, List.length_append]; rfl
  rw [hl]
  funext b
  by_cases h1 : b = 54
  · subst h1
    funext k
    show upd (upd (upd (I 54) 6 (Int32.ofNat L.length)) 7 (bI false)) 6 (Int32.ofNat (L ++ [x]).length) k = upd (upd (I 54) 6 (Int32.ofNat (L ++ [x]).length)) 7 (bI false) k
    by_cases h2 : k = 6
    · subst h2; rw [upd_s, upd_o (by decide), upd_s]
    · rw [upd_o h2]
      by_cases h3 : k = 7
      · subst h3; rw [upd_s, upd_s]
      · rw [upd_o h3, upd_o h3, upd_o h2, upd_o h2]
  · by_cases h2 : b = 64
    · subst h2
      exact trl_s
    · unfold actC
      rw [u2_o h1, u2_o h2, u2r_o h2, u2r_o h2, u2_o h1, u2_o h1, u2_o h1, u2_o h1]
theorem actM_p : u2 (actM I L false) 65 31 1 = actM I L true := by
  unfold actM
  rw [u2_u2r (by decide), u2_ag]
  rfl
theorem actC_p : u2 (actC I L false) 54 7 1 = actC I L true := by
  unfold actC
  rw [u2_u2r (by decide), u2_ag]
  rfl
theorem actM_65 (h : j ≠ 27) (h2 : j ≠ 31) : actM I L pt 65 j = I 65 j := by
  show upd (upd (I 65) 27 _) 31 _ j = _
  rw [upd_o h2, upd_o h]
theorem M_run0 (hL : L.length < 30) : Rn X d 266 0 [.ref 65, .int b] [] (Mh D (actM I L false) P N) = some ([], Mh D (actM I (L ++ [b]) false) P N) := by
  have e31 : actM I L false 65 31 = 0 := rfl
  have e27 : actM I L false 65 27 = Int32.ofNat L.length := rfl
  have e27' : u2 (actM I L false) 79 L.length b 65 27 = Int32.ofNat L.length := rfl
  have n30 : ¬ (30 : Int32) ≤ Int32.ofNat L.length := le_n (l := 30) (n := 30) rfl (by omega) (by omega) hL
  have w := ww79 (D := D) (I := actM I L false) (P := P) (N := N) (j := L.length) (x := b) hL
  simp only [B266_0, RDm, e31, e27, n30, w, B266_26, e27', WRm, actM_w, B266_36, Option.bind_some, List.append_nil, List.nil_append, List.cons_append, cond_true, cond_false, if_true, if_false, ite_true, ite_false, reduceIte, IC, bI_0, bI_1, bF, Bool.not_eq_false, Bool.not_eq_true, Bool.and_true, Bool.true_and, Bool.and_false, Bool.false_and, Bool.true_or, Bool.or_true, Bool.or_false, Bool.false_or, Bool.not_true, Bool.not_false, decide_true, decide_false, not_true_eq_false, not_false_eq_true, eq_self, Bool.true_eq_false, Bool.false_eq_true]
theorem C_run0 (hL : L.length < 30) : Rn X d 24 0 [.ref 54, .int b] [] (Mh D (actC I L false) P N) = some ([], Mh D (actC I (L ++ [b]) false) P N) := by
  have e31 : actC I L false 54 7 = 0 := rfl
  have e27 : actC I L false 54 6 = Int32.ofNat L.length := rfl
  have e27' : u2 (actC I L false) 64 L.length b 54 6 = Int32.ofNat L.length := rfl
  have n30 : ¬ (30 : Int32) ≤ Int32.ofNat L.length := le_n (l := 30) (n := 30) rfl (by omega) (by omega) hL
  have n0 : ¬ Int32.ofNat L.length < 0 := iN_neg (by omega)
  have w := ww64 (D := D) (I := actC I L false) (P := P) (N := N) (j := L.length) (x := b) hL
  simp only [B24_0, RDc, e31, e27, n30, n0, w, e27', WRc, actC_w, B24_43, Option.bind_some, List.append_nil, List.nil_append, List.cons_append, cond_true, cond_false, if_true, if_false, ite_true, ite_false, reduceIte, IC, bI_0, bI_1, bF, Bool.not_eq_false, Bool.not_eq_true, Bool.and_true, Bool.true_and, Bool.and_false, Bool.false_and, Bool.true_or, Bool.or_true, Bool.or_false, Bool.false_or, Bool.not_true, Bool.not_false, decide_true, decide_false, not_true_eq_false, not_false_eq_true, eq_self, Bool.true_eq_false, Bool.false_eq_true]
theorem C_run1 : Rn X d 24 0 [.ref 54, .int b] [] (Mh D (actC I L true) P N) = some ([], Mh D (actC I L true) P N) := by
  have e31 : actC I L true 54 7 = 1 := rfl
  have n10 : ¬ (1 : Int32) = 0 := by decide
  simp only [B24_0, RDc, e31, n10, B24_43, Option.bind_some, List.append_nil, List.nil_append, List.cons_append, cond_true, cond_false, if_true, if_false, ite_true, ite_false, reduceIte, IC, bI_0, bI_1, bF, Bool.not_eq_false, Bool.not_eq_true, Bool.and_true, Bool.true_and, Bool.and_false, Bool.false_and, Bool.true_or, Bool.or_true, Bool.or_false, Bool.false_or, Bool.not_true, Bool.not_false, decide_true, decide_false, not_true_eq_false, not_false_eq_true, eq_self, Bool.true_eq_false, Bool.false_eq_true]
theorem ln1 {n : Nat} (h : L.length ≤ n) : (L ++ [x]).length ≤ n + 1 := by rw [List.length_append]; simp; omega
/-- what the reference acts with -/
def acR (J : Nat → Nat → Int32) (k a n : Int32) : Prop := J 65 30 = k ∧ J 65 29 = a ∧ J 65 28 = n
theorem M_says (hk : bt k 1 5 = true) (hJ : acR J k a n) (hL : L.length ≤ 20) : Rn X (d + 1) 267 0 [.ref 65, .int x, U_] [] (Mh D (actM J L false) P N) = some ([.int (sayV k a x)], Mh D (actM J (L ++ sayB k) false) P N) := by
  obtain ⟨h1, h2, h3⟩ := hJ
  have r1 : ∀ L, actM J L false 65 30 = k := fun L => h1
  have r2 : ∀ L, actM J L false 65 29 = a := fun L => h2
  have w0 : ∀ b, Rn X d 266 0 [.ref 65, .int b] [] (Mh D (actM J L false) P N) = some ([], Mh D (actM J (L ++ [b]) false) P N) := fun b => M_run0 (by omega)
  have w1 : ∀ b c, Rn X d 266 0 [.ref 65, .int b] [] (Mh D (actM J (L ++ [c]) false) P N) = some ([], Mh D (actM J (L ++ [c] ++ [b]) false) P N) := fun b c => M_run0 (by have := ln1 (x := c) hL; omega)
  unfold sayV sayB
  rcases k5 hk with rfl | rfl | rfl | rfl | rfl <;> simp +decide only [B267_0, B267_14, B267_28, B267_34, B267_70, RDm, IC, r1, r2, w0, w1, Option.bind_some, List.append_nil, List.nil_append, List.cons_append, cond_true, cond_false, if_true, if_false, ite_true, ite_false, reduceIte, IC, bI_0, bI_1, bF, Bool.not_eq_false, Bool.not_eq_true, Bool.and_true, Bool.true_and, Bool.and_false, Bool.false_and, Bool.true_or, Bool.or_true, Bool.or_false, Bool.false_or, Bool.not_true, Bool.not_false, decide_true, decide_false, not_true_eq_false, not_false_eq_true, eq_self, Bool.true_eq_false, Bool.false_eq_true, List.append_assoc]
theorem M_sways (hk : bt k 1 5 = true) (hJ : acR J k a n) (hL : L.length ≤ 15) : Rn X (d + 2) 268 0 [.ref 65, .int x, U_, U_] [] (Mh D (actM J L false) P N) = some ([.int (swaV k a n x)], Mh D (actM J (L ++ swaB k) false) P N) := by
  have hJ' := hJ
  obtain ⟨h1, h2, h3⟩ := hJ
  have r1 : ∀ L, actM J L false 65 30 = k := fun L => h1
  have r2 : ∀ L, actM J L false 65 29 = a := fun L => h2
  have r3 : ∀ L, actM J L false 65 28 = n := fun L => h3
  have w0 : ∀ b, Rn X (d + 1) 266 0 [.ref 65, .int b] [] (Mh D (actM J L false) P N) = some ([], Mh D (actM J (L ++ [b]) false) P N) := fun b => M_run0 (by omega)
  have w1 : ∀ b c, Rn X (d + 1) 266 0 [.ref 65, .int b] [] (Mh D (actM J (L ++ [c]) false) P N) = some ([], Mh D (actM J (L ++ [c] ++ [b]) false) P N) := fun b c => M_run0 (by have := ln1 (x := c) hL; omega)
  have y1 : ∀ b, Rn X (d + 1) 267 0 [.ref 65, .int x, U_] [] (Mh D (actM J (L ++ [b]) false) P N) = some ([.int (sayV k a x)], Mh D (actM J (L ++ [b] ++ sayB k) false) P N) := fun b => M_says hk hJ' (by have := ln1 (x := b) hL; omega)
  have y2 : ∀ b c, Rn X (d + 1) 267 0 [.ref 65, .int x, U_] [] (Mh D (actM J (L ++ [b] ++ [c]) false) P N) = some ([.int (sayV k a x)], Mh D (actM J (L ++ [b] ++ [c] ++ sayB k) false) P N) := fun b c => M_says hk hJ' (by have := ln1 (x := c) (ln1 (x := b) hL); omega)
  unfold swaV swaB
  rcases k5 hk with rfl | rfl | rfl | rfl | rfl <;> simp +decide only [B268_0, B268_16, B268_21, B268_32, B268_46, B268_52, B268_57, B268_91, RDm, IC, r1, r2, r3, w0, w1, y1, y2, Option.bind_some, List.append_nil, List.nil_append, List.cons_append, cond_true, cond_false, if_true, if_false, ite_true, ite_false, reduceIte, IC, bI_0, bI_1, bF, Bool.not_eq_false, Bool.not_eq_true, Bool.and_true, Bool.true_and, Bool.and_false, Bool.false_and, Bool.true_or, Bool.or_true, Bool.or_false, Bool.false_or, Bool.not_true, Bool.not_false, decide_true, decide_false, not_true_eq_false, not_false_eq_true, eq_self, Bool.true_eq_false, Bool.false_eq_true] <;> simp only [List.append_assoc, List.cons_append, List.nil_append]
theorem i_sub0 : (a - n = 0) = (a = n) := propext ⟨fun h => by rw [Int32.sub_eq_iff_eq_add] at h; rw [h, Int32.zero_add], fun h => by rw [h, Int32.sub_self]⟩
theorem M_parts (hJ : acR J k a n) (hL : L.length ≤ 20) : Rn X (d + 1) 269 0 [.ref 65, .int x] [] (Mh D (actM J L false) P N) = some ([.int (if a = n then 0 else x / (a - n))], Mh D (actM J (L ++ [12]) (decide (a = n))) P N) := by
  obtain ⟨h1, h2, h3⟩ := hJ
  have r2 : ∀ L, actM J L false 65 29 = a := fun L => h2
  have r3 : ∀ L, actM J L false 65 28 = n := fun L => h3
  have w0 : ∀ b, Rn X d 266 0 [.ref 65, .int b] [] (Mh D (actM J L false) P N) = some ([], Mh D (actM J (L ++ [b]) false) P N) := fun b => M_run0 (by omega)
  simp only [B269_0, B269_6, RDm, IC, r2, r3, w0, WRm, actM_p, i_sub0, Option.bind_some, List.append_nil, List.nil_append, List.cons_append, cond_true, cond_false, if_true, if_false, ite_true, ite_false, reduceIte, IC, bI_0, bI_1, bF, Bool.not_eq_false, Bool.not_eq_true, Bool.and_true, Bool.true_and, Bool.and_false, Bool.false_and, Bool.true_or, Bool.or_true, Bool.or_false, Bool.false_or, Bool.not_true, Bool.not_false, decide_true, decide_false, not_true_eq_false, not_false_eq_true, eq_self, Bool.true_eq_false, Bool.false_eq_true]
  by_cases h : a = n
  · simp only [h, Option.bind_some, List.append_nil, List.nil_append, List.cons_append, cond_true, cond_false, if_true, if_false, ite_true, ite_false, reduceIte, IC, bI_0, bI_1, bF, Bool.not_eq_false, Bool.not_eq_true, Bool.and_true, Bool.true_and, Bool.and_false, Bool.false_and, Bool.true_or, Bool.or_true, Bool.or_false, Bool.false_or, Bool.not_true, Bool.not_false, decide_true, decide_false, not_true_eq_false, not_false_eq_true, eq_self, Bool.true_eq_false, Bool.false_eq_true]
  · simp only [h, Option.bind_some, List.append_nil, List.nil_append, List.cons_append, cond_true, cond_false, if_true, if_false, ite_true, ite_false, reduceIte, IC, bI_0, bI_1, bF, Bool.not_eq_false, Bool.not_eq_true, Bool.and_true, Bool.true_and, Bool.and_false, Bool.false_and, Bool.true_or, Bool.or_true, Bool.or_false, Bool.false_or, Bool.not_true, Bool.not_false, decide_true, decide_false, not_true_eq_false, not_false_eq_true, eq_self, Bool.true_eq_false, Bool.false_eq_true]
def shaW (k a n x : Int32) : Int32 := if a = n then 0 else shaV k a n x
theorem M_shares (hk : bt k 1 5 = true) (hJ : acR J k a n) (hL : L.length ≤ 10) : Rn X (d + 2) 270 0 [.ref 65, .int x, U_] [] (Mh D (actM J L false) P N) = some ([.int (shaW k a n x)], Mh D (actM J (L ++ shaB k a n) (decide (a = n))) P N) := by
  have hJ' := hJ
  obtain ⟨h1, h2, h3⟩ := hJ
  have r1 : ∀ L, actM J L false 65 30 = k := fun L => h1
  have r3 : ∀ L b, actM J L b 65 28 = n := fun L b => h3
  have r4 : ∀ L b, actM J L b 65 31 = bI b := fun L b => rfl
  have w0 : ∀ b, Rn X (d + 1) 266 0 [.ref 65, .int b] [] (Mh D (actM J L false) P N) = some ([], Mh D (actM J (L ++ [b]) false) P N) := fun b => M_run0 (by omega)
  have w1 : ∀ b c, Rn X (d + 1) 266 0 [.ref 65, .int b] [] (Mh D (actM J (L ++ [c]) false) P N) = some ([], Mh D (actM J (L ++ [c] ++ [b]) false) P N) := fun b c => M_run0 (by have := ln1 (x := c) hL; omega)
  have p0 : ∀ x, Rn X (d + 1) 269 0 [.ref 65, .int x] [] (Mh D (actM J L false) P N) = some ([.int (if a = n then 0 else x / (a - n))], Mh D (actM J (L ++ [12]) (decide (a = n))) P N) := fun x => M_parts hJ' (by omega)
  have p1 : ∀ x b, Rn X (d + 1) 269 0 [.ref 65, .int x] [] (Mh D (actM J (L ++ [b]) false) P N) = some ([.int (if a = n then 0 else x / (a - n))], Mh D (actM J (L ++ [b] ++ [12]) (decide (a = n))) P N) := fun x b => M_parts hJ' (by have := ln1 (x := b) hL; omega)
  have p2 : ∀ x b c, Rn X (d + 1) 269 0 [.ref 65, .int x] [] (Mh D (actM J (L ++ [b] ++ [c]) false) P N) = some ([.int (if a = n then 0 else x / (a - n))], Mh D (actM J (L ++ [b] ++ [c] ++ [12]) (decide (a = n))) P N) := fun x b c => M_parts hJ' (by have := ln1 (x := c) (ln1 (x := b) hL); omega)
  have y3 : ∀ b c e, Rn X (d + 1) 267 0 [.ref 65, .int n, U_] [] (Mh D (actM J (L ++ [b] ++ [c] ++ [e]) false) P N) = some ([.int (sayV k a n)], Mh D (actM J (L ++ [b] ++ [c] ++ [e] ++ sayB k) false) P N) := fun b c e => M_says hk hJ' (by have := ln1 (x := e) (ln1 (x := c) (ln1 (x := b) hL)); omega)
  have sv : sayV 5 a n = n + a := by unfold sayV; simp +decide only [Option.bind_some, List.append_nil, List.nil_append, List.cons_append, cond_true, cond_false, if_true, if_false, ite_true, ite_false, reduceIte, IC, bI_0, bI_1, bF, Bool.not_eq_false, Bool.not_eq_true, Bool.and_true, Bool.true_and, Bool.and_false, Bool.false_and, Bool.true_or, Bool.or_true, Bool.or_false, Bool.false_or, Bool.not_true, Bool.not_false, decide_true, decide_false, not_true_eq_false, not_false_eq_true, eq_self, Bool.true_eq_false, Bool.false_eq_true]
  have sb : sayB 5 = [10] := by unfold sayB; simp +decide only [Option.bind_some, List.append_nil, List.nil_append, List.cons_append, cond_true, cond_false, if_true, if_false, ite_true, ite_false, reduceIte, IC, bI_0, bI_1, bF, Bool.not_eq_false, Bool.not_eq_true, Bool.and_true, Bool.true_and, Bool.and_false, Bool.false_and, Bool.true_or, Bool.or_true, Bool.or_false, Bool.false_or, Bool.not_true, Bool.not_false, decide_true, decide_false, not_true_eq_false, not_false_eq_true, eq_self, Bool.true_eq_false, Bool.false_eq_true]
  have n10 : ¬ (1 : Int32) = 0 := by decide
  unfold shaW shaV shaB
  by_cases h : a = n
  · rcases k5 hk with rfl | rfl | rfl | rfl | rfl <;> simp +decide only [B270_0, B270_14, B270_21, B270_36, B270_42, B270_49, B270_70, B270_71, B270_77, RDm, IC, r1, r3, r4, w0, w1, p0, p1, p2, y3, h, bI_t, n10, Option.bind_some, List.append_nil, List.nil_append, List.cons_append, cond_true, cond_false, if_true, if_false, ite_true, ite_false, reduceIte, IC, bI_0, bI_1, bF, Bool.not_eq_false, Bool.not_eq_true, Bool.and_true, Bool.true_and, Bool.and_false, Bool.false_and, Bool.true_or, Bool.or_true, Bool.or_false, Bool.false_or, Bool.not_true, Bool.not_false, decide_true, decide_false, not_true_eq_false, not_false_eq_true, eq_self, Bool.true_eq_false, Bool.false_eq_true] <;> simp only [List.append_assoc, List.cons_append, List.nil_append]
  · rcases k5 hk with rfl | rfl | rfl | rfl | rfl <;> simp +decide only [B270_0, B270_14, B270_21, B270_36, B270_42, B270_49, B270_70, B270_71, B270_77, RDm, IC, r1, r3, r4, w0, w1, p0, p1, p2, y3, h, sv, sb, bI_f, Option.bind_some, List.append_nil, List.nil_append, List.cons_append, cond_true, cond_false, if_true, if_false, ite_true, ite_false, reduceIte, IC, bI_0, bI_1, bF, Bool.not_eq_false, Bool.not_eq_true, Bool.and_true, Bool.true_and, Bool.and_false, Bool.false_and, Bool.true_or, Bool.or_true, Bool.or_false, Bool.false_or, Bool.not_true, Bool.not_false, decide_true, decide_false, not_true_eq_false, not_false_eq_true, eq_self, Bool.true_eq_false, Bool.false_eq_true] <;> simp only [List.append_assoc, List.cons_append, List.nil_append]
theorem M_tells (hk : bt k 1 5 = true) (hJ : acR J k a n) : Rn X (d + 3) 271 0 [.ref 65, .int x, U_] [] (Mh D (actM J [] false) P N) = some ([.int (if k = 3 then (swaV k a n x ^^^ a) + shaW k a n a else swaV k a n x ^^^ a)], Mh D (actM J (telB k) (decide (k = 3) && decide (a = n))) P N) := by
  have hJ' := hJ
  obtain ⟨h1, h2, h3⟩ := hJ
  have r1 : ∀ L, actM J L false 65 30 = k := fun L => h1
  have r2 : ∀ L, actM J L false 65 29 = a := fun L => h2
  have w0 : ∀ b, Rn X (d + 2) 266 0 [.ref 65, .int b] [] (Mh D (actM J [] false) P N) = some ([], Mh D (actM J [b] false) P N) := fun b => M_run0 (by simp)
  have w1 : ∀ b c, Rn X (d + 2) 266 0 [.ref 65, .int b] [] (Mh D (actM J [c] false) P N) = some ([], Mh D (actM J [c, b] false) P N) := fun b c => M_run0 (by simp)
  have y1 : ∀ b, Rn X (d + 2) 268 0 [.ref 65, .int x, U_, U_] [] (Mh D (actM J [b] false) P N) = some ([.int (swaV k a n x)], Mh D (actM J ([b] ++ swaB k) false) P N) := fun b => M_sways hk hJ' (by simp)
  have y2 : ∀ b c, Rn X (d + 2) 268 0 [.ref 65, .int x, U_, U_] [] (Mh D (actM J [b, c] false) P N) = some ([.int (swaV k a n x)], Mh D (actM J ([b, c] ++ swaB k) false) P N) := fun b c => M_sways hk hJ' (by simp)
  have z : Rn X (d + 2) 270 0 [.ref 65, .int a, U_] [] (Mh D (actM J ([51, 13] ++ swaB 3) false) P N) = some ([.int (shaW k a n a)], Mh D (actM J ([51, 13] ++ swaB 3 ++ shaB k a n) (decide (a = n))) P N) := M_shares hk hJ' (by decide)
  have sb : shaB 3 a n = [12] := by unfold shaB; simp +decide only [Option.bind_some, List.append_nil, List.nil_append, List.cons_append, cond_true, cond_false, if_true, if_false, ite_true, ite_false, reduceIte, IC, bI_0, bI_1, bF, Bool.not_eq_false, Bool.not_eq_true, Bool.and_true, Bool.true_and, Bool.and_false, Bool.false_and, Bool.true_or, Bool.or_true, Bool.or_false, Bool.false_or, Bool.not_true, Bool.not_false, decide_true, decide_false, not_true_eq_false, not_false_eq_true, eq_self, Bool.true_eq_false, Bool.false_eq_true]
  unfold telB
  rcases k5 hk with rfl | rfl | rfl | rfl | rfl
  · simp +decide only [B271_0, B271_14, B271_20, B271_25, B271_48, B271_53, RDm, IC, r1, r2, w0, w1, y1, y2, Option.bind_some, List.append_nil, List.nil_append, List.cons_append, cond_true, cond_false, if_true, if_false, ite_true, ite_false, reduceIte, IC, bI_0, bI_1, bF, Bool.not_eq_false, Bool.not_eq_true, Bool.and_true, Bool.true_and, Bool.and_false, Bool.false_and, Bool.true_or, Bool.or_true, Bool.or_false, Bool.false_or, Bool.not_true, Bool.not_false, decide_true, decide_false, not_true_eq_false, not_false_eq_true, eq_self, Bool.true_eq_false, Bool.false_eq_true]
  · simp +decide only [B271_0, B271_14, B271_20, B271_25, B271_48, B271_53, RDm, IC, r1, r2, w0, w1, y1, y2, Option.bind_some, List.append_nil, List.nil_append, List.cons_append, cond_true, cond_false, if_true, if_false, ite_true, ite_false, reduceIte, IC, bI_0, bI_1, bF, Bool.not_eq_false, Bool.not_eq_true, Bool.and_true, Bool.true_and, Bool.and_false, Bool.false_and, Bool.true_or, Bool.or_true, Bool.or_false, Bool.false_or, Bool.not_true, Bool.not_false, decide_true, decide_false, not_true_eq_false, not_false_eq_true, eq_self, Bool.true_eq_false, Bool.false_eq_true]
  · rw [sb, List.append_assoc] at z
    simp only [Option.bind_some, List.append_nil, List.nil_append, List.cons_append, cond_true, cond_false, if_true, if_false, ite_true, ite_false, reduceIte, IC, bI_0, bI_1, bF, Bool.not_eq_false, Bool.not_eq_true, Bool.and_true, Bool.true_and, Bool.and_false, Bool.false_and, Bool.true_or, Bool.or_true, Bool.or_false, Bool.false_or, Bool.not_true, Bool.not_false, decide_true, decide_false, not_true_eq_false, not_false_eq_true, eq_self, Bool.true_eq_false, Bool.false_eq_true] at z
    simp +decide only [B271_0, B271_14, B271_20, B271_25, B271_48, B271_53, RDm, IC, r1, r2, w0, w1, y1, y2, z, Option.bind_some, List.append_nil, List.nil_append, List.cons_append, cond_true, cond_false, if_true, if_false, ite_true, ite_false, reduceIte, IC, bI_0, bI_1, bF, Bool.not_eq_false, Bool.not_eq_true, Bool.and_true, Bool.true_and, Bool.and_false, Bool.false_and, Bool.true_or, Bool.or_true, Bool.or_false, Bool.false_or, Bool.not_true, Bool.not_false, decide_true, decide_false, not_true_eq_false, not_false_eq_true, eq_self, Bool.true_eq_false, Bool.false_eq_true]
  · simp +decide only [B271_0, B271_14, B271_20, B271_25, B271_48, B271_53, RDm, IC, r1, r2, w0, w1, y1, y2, Option.bind_some, List.append_nil, List.nil_append, List.cons_append, cond_true, cond_false, if_true, if_false, ite_true, ite_false, reduceIte, IC, bI_0, bI_1, bF, Bool.not_eq_false, Bool.not_eq_true, Bool.and_true, Bool.true_and, Bool.and_false, Bool.false_and, Bool.true_or, Bool.or_true, Bool.or_false, Bool.false_or, Bool.not_true, Bool.not_false, decide_true, decide_false, not_true_eq_false, not_false_eq_true, eq_self, Bool.true_eq_false, Bool.false_eq_true]
  · simp +decide only [B271_0, B271_14, B271_20, B271_25, B271_48, B271_53, RDm, IC, r1, r2, w0, w1, y1, y2, Option.bind_some, List.append_nil, List.nil_append, List.cons_append, cond_true, cond_false, if_true, if_false, ite_true, ite_false, reduceIte, IC, bI_0, bI_1, bF, Bool.not_eq_false, Bool.not_eq_true, Bool.and_true, Bool.true_and, Bool.and_false, Bool.false_and, Bool.true_or, Bool.or_true, Bool.or_false, Bool.false_or, Bool.not_true, Bool.not_false, decide_true, decide_false, not_true_eq_false, not_false_eq_true, eq_self, Bool.true_eq_false, Bool.false_eq_true]
def acC (D : Nat → Nat × Nat) (J : Nat → Nat → Int32) (N p : Nat) (k a n : Int32) : Prop := (80 ≤ p ∧ p < 80 + N ∧ D p = (4, kcl k)) ∧ J p 2 = a ∧ J p 1 = n
theorem actC_o {c : Nat} (h : 80 ≤ c) : actC I L pt c = I c := by
  unfold actC
  rw [u2r_o (by omega), u2_o (by omega), u2_o (by omega)]
theorem acC.rd (h : acC D J N p k a n) : (∀ L pt, hFI (Mh D (actC J L pt) P N) p 2 [0, 1, 7, 8, 9] = some a) ∧ (∀ L pt, hFI (Mh D (actC J L pt) P N) p 1 [0, 1, 7, 8, 9] = some n) ∧ (∀ I, hCl (Mh D I P N) p = some (kcl k)) := by
  obtain ⟨⟨h1, h2, h3⟩, h4, h5⟩ := h
  have hA : AnsAt D N p := ⟨h1, h2, _, h3, kcl_ans k⟩
  refine ⟨fun L pt => ?_, fun L pt => ?_, fun I => hCl_Mh h2 ((bKk_dyn h1).trans h3)⟩
  · rw [rdAns hA (by decide), actC_o h1, h4]
  · rw [rdAns hA (by decide), actC_o h1, h5]
theorem acC.rs (h : acC D J N p k a n) {cis : List Nat} {c : Nat} (hk : kcl k = c) (h1 : okG isIB c 1 cis = true) : ∀ L pt, hFI (Mh D (actC J L pt) P N) p 1 cis = some n := fun L pt => by
  obtain ⟨⟨q1, q2, q3⟩, q4, q5⟩ := h
  rw [rdI q2 ((bKk_dyn q1).trans (q3.trans (by rw [hk]))) h1, actC_o q1, q5]
theorem acC.rt (h : acC D J N p k a n) {cis : List Nat} {c : Nat} (hk : kcl k = c) (h1 : okG isIB c 2 cis = true) : ∀ L pt, hFI (Mh D (actC J L pt) P N) p 2 cis = some a := fun L pt => by
  obtain ⟨⟨q1, q2, q3⟩, q4, q5⟩ := h
  rw [rdI q2 ((bKk_dyn q1).trans (q3.trans (by rw [hk]))) h1, actC_o q1, q4]
theorem C_281 (h : acC D J N p k a n) (hL : L.length ≤ 25) : Rn X (d + 1) 281 0 [.ref p, .int x, .ref 54] [] (Mh D (actC J L false) P N) = some ([.int (x + a)], Mh D (actC J (L ++ [10]) false) P N) := by
  obtain ⟨r2, r1, hc⟩ := h.rd (P := P)
  have w0 : ∀ b, Rn X d 24 0 [.ref 54, .int b] [] (Mh D (actC J L false) P N) = some ([], Mh D (actC J (L ++ [b]) false) P N) := fun b => C_run0 (by omega)
  simp only [B281_0, IC, w0, B281_6, r2, Option.bind_some, List.append_nil, List.nil_append, List.cons_append, cond_true, cond_false, if_true, if_false, ite_true, ite_false, reduceIte, IC, bI_0, bI_1, bF, Bool.not_eq_false, Bool.not_eq_true, Bool.and_true, Bool.true_and, Bool.and_false, Bool.false_and, Bool.true_or, Bool.or_true, Bool.or_false, Bool.false_or, Bool.not_true, Bool.not_false, decide_true, decide_false, not_true_eq_false, not_false_eq_true, eq_self, Bool.true_eq_false, Bool.false_eq_true]
theorem C_281t (h : acC D J N p k a n) : Rn X (d + 1) 281 0 [.ref p, .int x, .ref 54] [] (Mh D (actC J L true) P N) = some ([.int (x + a)], Mh D (actC J L true) P N) := by
  obtain ⟨r2, r1, hc⟩ := h.rd (P := P)
  simp only [B281_0, IC, C_run1, B281_6, r2, Option.bind_some, List.append_nil, List.nil_append, List.cons_append, cond_true, cond_false, if_true, if_false, ite_true, ite_false, reduceIte, IC, bI_0, bI_1, bF, Bool.not_eq_false, Bool.not_eq_true, Bool.and_true, Bool.true_and, Bool.and_false, Bool.false_and, Bool.true_or, Bool.or_true, Bool.or_false, Bool.false_or, Bool.not_true, Bool.not_false, decide_true, decide_false, not_true_eq_false, not_false_eq_true, eq_self, Bool.true_eq_false, Bool.false_eq_true]
theorem C_98 (h : acC D J N p 3 a n) (hL : L.length ≤ 20) : Rn X (d + 2) 98 0 [.ref p, .int x, .ref 54] [] (Mh D (actC J L false) P N) = some ([.int (sayV 3 a x)], Mh D (actC J (L ++ sayB 3) false) P N) := by
  have hc : ∀ I, hCl (Mh D I P N) p = some 7 := (h.rd (P := P)).2.2
  have w0 : ∀ b, Rn X (d + 1) 24 0 [.ref 54, .int b] [] (Mh D (actC J L false) P N) = some ([], Mh D (actC J (L ++ [b]) false) P N) := fun b => C_run0 (by omega)
  have b6 := fun I => B98_6 (X := X) (d := d + 1) (l1 := x) (l2 := 54) (hc I)
  have y : ∀ b, Rn X (d + 1) 281 0 [.ref p, .int x, .ref 54] [] (Mh D (actC J (L ++ [b]) false) P N) = some ([.int (x + a)], Mh D (actC J (L ++ [b] ++ [10]) false) P N) := fun b => C_281 h (by have := ln1 (x := b) hL; omega)
  unfold sayV sayB
  simp +decide only [B98_0, IC, w0, b6, y, B98_12, Option.bind_some, List.append_nil, List.nil_append, List.cons_append, cond_true, cond_false, if_true, if_false, ite_true, ite_false, reduceIte, IC, bI_0, bI_1, bF, Bool.not_eq_false, Bool.not_eq_true, Bool.and_true, Bool.true_and, Bool.and_false, Bool.false_and, Bool.true_or, Bool.or_true, Bool.or_false, Bool.false_or, Bool.not_true, Bool.not_false, decide_true, decide_false, not_true_eq_false, not_false_eq_true, eq_self, Bool.true_eq_false, Bool.false_eq_true, List.append_assoc]
theorem C_102 (h : acC D J N p 1 a n) (hL : L.length ≤ 20) : Rn X (d + 2) 102 0 [.ref p, .int x, .ref 54] [] (Mh D (actC J L false) P N) = some ([.int (sayV 1 a x)], Mh D (actC J (L ++ sayB 1) false) P N) := by
  have hc : ∀ I, hCl (Mh D I P N) p = some 8 := (h.rd (P := P)).2.2
  have w0 : ∀ b, Rn X (d + 1) 24 0 [.ref 54, .int b] [] (Mh D (actC J L false) P N) = some ([], Mh D (actC J (L ++ [b]) false) P N) := fun b => C_run0 (by omega)
  have b6 := fun I => B102_6 (X := X) (d := d + 1) (l1 := x) (l2 := 54) (hc I)
  have y : ∀ b, Rn X (d + 1) 281 0 [.ref p, .int x, .ref 54] [] (Mh D (actC J (L ++ [b]) false) P N) = some ([.int (x + a)], Mh D (actC J (L ++ [b] ++ [10]) false) P N) := fun b => C_281 h (by have := ln1 (x := b) hL; omega)
  unfold sayV sayB
  simp +decide only [B102_0, IC, w0, b6, y, B102_12, Option.bind_some, List.append_nil, List.nil_append, List.cons_append, cond_true, cond_false, if_true, if_false, ite_true, ite_false, reduceIte, IC, bI_0, bI_1, bF, Bool.not_eq_false, Bool.not_eq_true, Bool.and_true, Bool.true_and, Bool.and_false, Bool.false_and, Bool.true_or, Bool.or_true, Bool.or_false, Bool.false_or, Bool.not_true, Bool.not_false, decide_true, decide_false, not_true_eq_false, not_false_eq_true, eq_self, Bool.true_eq_false, Bool.false_eq_true, List.append_assoc]
theorem C_282 (hk : bt k 1 5 = true) (h : acC D J N p k a n) (hL : L.length ≤ 18) : Rn X (d + 3) 282 0 [.ref p, .int x, .ref 54] [] (Mh D (actC J L false) P N) = some ([.int (sayV k a x - n)], Mh D (actC J (L ++ [11] ++ sayB k) false) P N) := by
  obtain ⟨r2, r1, hc⟩ := h.rd (P := P)
  have w0 : ∀ b, Rn X (d + 2) 24 0 [.ref 54, .int b] [] (Mh D (actC J L false) P N) = some ([], Mh D (actC J (L ++ [b]) false) P N) := fun b => C_run0 (by omega)
  have hL2 : (L ++ [11]).length ≤ 20 := by have := ln1 (x := 11) hL; omega
  rcases k5 hk with rfl | rfl | rfl | rfl | rfl
  · have b6 := fun I => B282_6_8 (X := X) (d := d + 2) (l1 := x) (l2 := 54) (hc I)
    simp only [B282_0, IC, w0, b6, C_102 h hL2, B282_12, r1, Option.bind_some, List.append_nil, List.nil_append, List.cons_append, cond_true, cond_false, if_true, if_false, ite_true, ite_false, reduceIte, IC, bI_0, bI_1, bF, Bool.not_eq_false, Bool.not_eq_true, Bool.and_true, Bool.true_and, Bool.and_false, Bool.false_and, Bool.true_or, Bool.or_true, Bool.or_false, Bool.false_or, Bool.not_true, Bool.not_false, decide_true, decide_false, not_true_eq_false, not_false_eq_true, eq_self, Bool.true_eq_false, Bool.false_eq_true]
  · have b6 := fun I => B282_6_1 (X := X) (d := d + 2) (l1 := x) (l2 := 54) (hc I)
    have y := C_281 (X := X) (d := d + 1) (P := P) (x := x) h (show (L ++ [11]).length ≤ 25 by omega)
    unfold sayV sayB
    simp +decide only [B282_0, IC, w0, b6, y, B282_12, r1, Option.bind_some, List.append_nil, List.nil_append, List.cons_append, cond_true, cond_false, if_true, if_false, ite_true, ite_false, reduceIte, IC, bI_0, bI_1, bF, Bool.not_eq_false, Bool.not_eq_true, Bool.and_true, Bool.true_and, Bool.and_false, Bool.false_and, Bool.true_or, Bool.or_true, Bool.or_false, Bool.false_or, Bool.not_true, Bool.not_false, decide_true, decide_false, not_true_eq_false, not_false_eq_true, eq_self, Bool.true_eq_false, Bool.false_eq_true]
  · have b6 := fun I => B282_6_7 (X := X) (d := d + 2) (l1 := x) (l2 := 54) (hc I)
    simp only [B282_0, IC, w0, b6, C_98 h hL2, B282_12, r1, Option.bind_some, List.append_nil, List.nil_append, List.cons_append, cond_true, cond_false, if_true, if_false, ite_true, ite_false, reduceIte, IC, bI_0, bI_1, bF, Bool.not_eq_false, Bool.not_eq_true, Bool.and_true, Bool.true_and, Bool.and_false, Bool.false_and, Bool.true_or, Bool.or_true, Bool.or_false, Bool.false_or, Bool.not_true, Bool.not_false, decide_true, decide_false, not_true_eq_false, not_false_eq_true, eq_self, Bool.true_eq_false, Bool.false_eq_true]
  · have b6 := fun I => B282_6_0 (X := X) (d := d + 2) (l1 := x) (l2 := 54) (hc I)
    have y := C_281 (X := X) (d := d + 1) (P := P) (x := x) h (show (L ++ [11]).length ≤ 25 by omega)
    unfold sayV sayB
    simp +decide only [B282_0, IC, w0, b6, y, B282_12, r1, Option.bind_some, List.append_nil, List.nil_append, List.cons_append, cond_true, cond_false, if_true, if_false, ite_true, ite_false, reduceIte, IC, bI_0, bI_1, bF, Bool.not_eq_false, Bool.not_eq_true, Bool.and_true, Bool.true_and, Bool.and_false, Bool.false_and, Bool.true_or, Bool.or_true, Bool.or_false, Bool.false_or, Bool.not_true, Bool.not_false, decide_true, decide_false, not_true_eq_false, not_false_eq_true, eq_self, Bool.true_eq_false, Bool.false_eq_true]
  · have b6 := fun I => B282_6_9 (X := X) (d := d + 2) (l1 := x) (l2 := 54) (hc I)
    have y := C_281 (X := X) (d := d + 1) (P := P) (x := x) h (show (L ++ [11]).length ≤ 25 by omega)
    unfold sayV sayB
    simp +decide only [B282_0, IC, w0, b6, y, B282_12, r1, Option.bind_some, List.append_nil, List.nil_append, List.cons_append, cond_true, cond_false, if_true, if_false, ite_true, ite_false, reduceIte, IC, bI_0, bI_1, bF, Bool.not_eq_false, Bool.not_eq_true, Bool.and_true, Bool.true_and, Bool.and_false, Bool.false_and, Bool.true_or, Bool.or_true, Bool.or_false, Bool.false_or, Bool.not_true, Bool.not_false, decide_true, decide_false, not_true_eq_false, not_false_eq_true, eq_self, Bool.true_eq_false, Bool.false_eq_true]
theorem C_5 (hk : k = 2 ∨ k = 3) (h : acC D J N p k a n) (hL : L.length ≤ 15) : Rn X (d + 4) 5 0 [.ref p, .int x, .ref 54] [] (Mh D (actC J L false) P N) = some ([.int (swaV k a n x)], Mh D (actC J (L ++ swaB k) false) P N) := by
  obtain ⟨r2, r1, hc⟩ := h.rd (P := P)
  have w0 : ∀ b, Rn X (d + 3) 24 0 [.ref 54, .int b] [] (Mh D (actC J L false) P N) = some ([], Mh D (actC J (L ++ [b]) false) P N) := fun b => C_run0 (by omega)
  have b6 := fun I => B5_6 (X := X) (d := d + 3) (l1 := x) (l2 := 54) (hc I)
  have hL2 : (L ++ [30]).length ≤ 18 := by have := ln1 (x := 30) hL; omega
  have hk5 : bt k 1 5 = true := by rcases hk with rfl | rfl <;> rfl
  have y := C_282 (X := X) (d := d) (P := P) (x := x) hk5 h hL2
  unfold swaV swaB
  rcases hk with rfl | rfl
  · have r3 := h.rs (P := P) (cis := [1, 7]) (c := 1) rfl rfl
    simp +decide only [B5_0, IC, w0, b6, y, B5_12, r3, Option.bind_some, List.append_nil, List.nil_append, List.cons_append, cond_true, cond_false, if_true, if_false, ite_true, ite_false, reduceIte, IC, bI_0, bI_1, bF, Bool.not_eq_false, Bool.not_eq_true, Bool.and_true, Bool.true_and, Bool.and_false, Bool.false_and, Bool.true_or, Bool.or_true, Bool.or_false, Bool.false_or, Bool.not_true, Bool.not_false, decide_true, decide_false, not_true_eq_false, not_false_eq_true, eq_self, Bool.true_eq_false, Bool.false_eq_true] <;> simp only [List.append_assoc, List.cons_append, List.nil_append]
  · have r3 := h.rs (P := P) (cis := [1, 7]) (c := 7) rfl rfl
    simp +decide only [B5_0, IC, w0, b6, y, B5_12, r3, Option.bind_some, List.append_nil, List.nil_append, List.cons_append, cond_true, cond_false, if_true, if_false, ite_true, ite_false, reduceIte, IC, bI_0, bI_1, bF, Bool.not_eq_false, Bool.not_eq_true, Bool.and_true, Bool.true_and, Bool.and_false, Bool.false_and, Bool.true_or, Bool.or_true, Bool.or_false, Bool.false_or, Bool.not_true, Bool.not_false, decide_true, decide_false, not_true_eq_false, not_false_eq_true, eq_self, Bool.true_eq_false, Bool.false_eq_true] <;> simp only [List.append_assoc, List.cons_append, List.nil_append]
theorem C_105 (h : acC D J N p 5 a n) (hL : L.length ≤ 15) : Rn X (d + 4) 105 0 [.ref p, .int x, .ref 54] [] (Mh D (actC J L false) P N) = some ([.int (swaV 5 a n x)], Mh D (actC J (L ++ swaB 5) false) P N) := by
  obtain ⟨r2, r1, hc⟩ := h.rd (P := P)
  have w0 : ∀ b, Rn X (d + 3) 24 0 [.ref 54, .int b] [] (Mh D (actC J L false) P N) = some ([], Mh D (actC J (L ++ [b]) false) P N) := fun b => C_run0 (by omega)
  have b6 := fun I => B105_6 (X := X) (d := d + 3) (l1 := x) (l2 := 54) (hc I)
  have hL2 : (L ++ [60]).length ≤ 18 := by have := ln1 (x := 60) hL; omega
  have y := C_282 (X := X) (d := d) (P := P) (x := x) (k := 5) rfl h hL2
  unfold swaV swaB
  simp +decide only [B105_0, IC, w0, b6, y, B105_13, Option.bind_some, List.append_nil, List.nil_append, List.cons_append, cond_true, cond_false, if_true, if_false, ite_true, ite_false, reduceIte, IC, bI_0, bI_1, bF, Bool.not_eq_false, Bool.not_eq_true, Bool.and_true, Bool.true_and, Bool.and_false, Bool.false_and, Bool.true_or, Bool.or_true, Bool.or_false, Bool.false_or, Bool.not_true, Bool.not_false, decide_true, decide_false, not_true_eq_false, not_false_eq_true, eq_self, Bool.true_eq_false, Bool.false_eq_true] <;> simp only [List.append_assoc, List.cons_append, List.nil_append]
theorem C_283 (h : acC D J N p k a n) (hL : L.length ≤ 25) : Rn X (d + 2) 283 0 [.ref p, .int x, .ref 54, U_] [] (Mh D (actC J L false) P N) = some ([.int (if a = n then 0 else x / (a - n))], Mh D (actC J (L ++ [12]) (decide (a = n))) P N) := by
  obtain ⟨r2, r1, hc⟩ := h.rd (P := P)
  have w0 : ∀ b, Rn X (d + 1) 24 0 [.ref 54, .int b] [] (Mh D (actC J L false) P N) = some ([], Mh D (actC J (L ++ [b]) false) P N) := fun b => C_run0 (by omega)
  simp only [B283_0, IC, w0, B283_6, r1, r2, i_sub0, Option.bind_some, List.append_nil, List.nil_append, List.cons_append, cond_true, cond_false, if_true, if_false, ite_true, ite_false, reduceIte, IC, bI_0, bI_1, bF, Bool.not_eq_false, Bool.not_eq_true, Bool.and_true, Bool.true_and, Bool.and_false, Bool.false_and, Bool.true_or, Bool.or_true, Bool.or_false, Bool.false_or, Bool.not_true, Bool.not_false, decide_true, decide_false, not_true_eq_false, not_false_eq_true, eq_self, Bool.true_eq_false, Bool.false_eq_true]
  by_cases e : a = n
  · simp only [e, IC, B25_0, WRc, actC_p, B283_24, Option.bind_some, List.append_nil, List.nil_append, List.cons_append, cond_true, cond_false, if_true, if_false, ite_true, ite_false, reduceIte, IC, bI_0, bI_1, bF, Bool.not_eq_false, Bool.not_eq_true, Bool.and_true, Bool.true_and, Bool.and_false, Bool.false_and, Bool.true_or, Bool.or_true, Bool.or_false, Bool.false_or, Bool.not_true, Bool.not_false, decide_true, decide_false, not_true_eq_false, not_false_eq_true, eq_self, Bool.true_eq_false, Bool.false_eq_true]
  · simp only [e, Option.bind_some, List.append_nil, List.nil_append, List.cons_append, cond_true, cond_false, if_true, if_false, ite_true, ite_false, reduceIte, IC, bI_0, bI_1, bF, Bool.not_eq_false, Bool.not_eq_true, Bool.and_true, Bool.true_and, Bool.and_false, Bool.false_and, Bool.true_or, Bool.or_true, Bool.or_false, Bool.false_or, Bool.not_true, Bool.not_false, decide_true, decide_false, not_true_eq_false, not_false_eq_true, eq_self, Bool.true_eq_false, Bool.false_eq_true]
theorem C_2 (hk : k = 4 ∨ k = 5) (h : acC D J N p k a n) (hL : L.length ≤ 20) : Rn X (d + 3) 2 0 [.ref p, .int x, .ref 54] [] (Mh D (actC J L false) P N) = some ([.int (if a = n then 0 else (x - 3) / (a - n))], Mh D (actC J (L ++ [40, 12]) (decide (a = n))) P N) := by
  obtain ⟨r2, r1, hc⟩ := h.rd (P := P)
  have w0 : ∀ b, Rn X (d + 2) 24 0 [.ref 54, .int b] [] (Mh D (actC J L false) P N) = some ([], Mh D (actC J (L ++ [b]) false) P N) := fun b => C_run0 (by omega)
  have b6 := fun I => B2_6 (X := X) (d := d + 2) (l1 := x) (l2 := 54) (hc I)
  have y := C_283 (X := X) (d := d) (P := P) (x := x - 3) (L := L ++ [40]) h (by have := ln1 (x := 40) hL; omega)
  rw [List.append_assoc] at y
  simp only [Option.bind_some, List.append_nil, List.nil_append, List.cons_append, cond_true, cond_false, if_true, if_false, ite_true, ite_false, reduceIte, IC, bI_0, bI_1, bF, Bool.not_eq_false, Bool.not_eq_true, Bool.and_true, Bool.true_and, Bool.and_false, Bool.false_and, Bool.true_or, Bool.or_true, Bool.or_false, Bool.false_or, Bool.not_true, Bool.not_false, decide_true, decide_false, not_true_eq_false, not_false_eq_true, eq_self, Bool.true_eq_false, Bool.false_eq_true] at y
  simp only [B2_0, IC, w0, b6, y, B2_14, Option.bind_some, List.append_nil, List.nil_append, List.cons_append, cond_true, cond_false, if_true, if_false, ite_true, ite_false, reduceIte, IC, bI_0, bI_1, bF, Bool.not_eq_false, Bool.not_eq_true, Bool.and_true, Bool.true_and, Bool.and_false, Bool.false_and, Bool.true_or, Bool.or_true, Bool.or_false, Bool.false_or, Bool.not_true, Bool.not_false, decide_true, decide_false, not_true_eq_false, not_false_eq_true, eq_self, Bool.true_eq_false, Bool.false_eq_true]
theorem C_106 (h : acC D J N p 5 a n) (hL : L.length ≤ 15) : Rn X (d + 4) 106 0 [.ref p, .int x, .ref 54, U_] [] (Mh D (actC J L false) P N) = some ([.int (if a = n then 0 - (n + a) else shaV 5 a n x)], Mh D (actC J (L ++ shaB 5 a n) (decide (a = n))) P N) := by
  obtain ⟨r2, r1, hc⟩ := h.rd (P := P)
  have w0 : ∀ b, Rn X (d + 3) 24 0 [.ref 54, .int b] [] (Mh D (actC J L false) P N) = some ([], Mh D (actC J (L ++ [b]) false) P N) := fun b => C_run0 (by omega)
  have b6 := fun I => B106_6 (X := X) (d := d + 3) (l1 := x) (l2 := 54) (hc I)
  have b12 := fun I (v : Int32) => B106_12_9 (X := X) (d := d + 3) (l1 := x) (l2 := 54) (s0 := v) (hc I)
  have hL2 : (L ++ [61]).length ≤ 20 := by have := ln1 (x := 61) hL; omega
  have y := C_2 (X := X) (d := d) (P := P) (x := x) (Or.inr rfl) h hL2
  have r3 := h.rs (P := P) (cis := [9]) (c := 9) rfl rfl
  unfold shaV shaB
  rw [List.append_assoc] at y
  simp only [Option.bind_some, List.append_nil, List.nil_append, List.cons_append, cond_true, cond_false, if_true, if_false, ite_true, ite_false, reduceIte, IC, bI_0, bI_1, bF, Bool.not_eq_false, Bool.not_eq_true, Bool.and_true, Bool.true_and, Bool.and_false, Bool.false_and, Bool.true_or, Bool.or_true, Bool.or_false, Bool.false_or, Bool.not_true, Bool.not_false, decide_true, decide_false, not_true_eq_false, not_false_eq_true, eq_self, Bool.true_eq_false, Bool.false_eq_true] at y
  by_cases e : a = n
  · simp only [e, Option.bind_some, List.append_nil, List.nil_append, List.cons_append, cond_true, cond_false, if_true, if_false, ite_true, ite_false, reduceIte, IC, bI_0, bI_1, bF, Bool.not_eq_false, Bool.not_eq_true, Bool.and_true, Bool.true_and, Bool.and_false, Bool.false_and, Bool.true_or, Bool.or_true, Bool.or_false, Bool.false_or, Bool.not_true, Bool.not_false, decide_true, decide_false, not_true_eq_false, not_false_eq_true, eq_self, Bool.true_eq_false, Bool.false_eq_true] at y
    have z := fun (L : List Int32) => C_281t (X := X) (d := d + 2) (P := P) (x := n) (L := L) h
    simp +decide only [B106_0, IC, w0, b6, y, b12, r3, z, e, B106_23, Option.bind_some, List.append_nil, List.nil_append, List.cons_append, cond_true, cond_false, if_true, if_false, ite_true, ite_false, reduceIte, IC, bI_0, bI_1, bF, Bool.not_eq_false, Bool.not_eq_true, Bool.and_true, Bool.true_and, Bool.and_false, Bool.false_and, Bool.true_or, Bool.or_true, Bool.or_false, Bool.false_or, Bool.not_true, Bool.not_false, decide_true, decide_false, not_true_eq_false, not_false_eq_true, eq_self, Bool.true_eq_false, Bool.false_eq_true]
  · simp only [e, Option.bind_some, List.append_nil, List.nil_append, List.cons_append, cond_true, cond_false, if_true, if_false, ite_true, ite_false, reduceIte, IC, bI_0, bI_1, bF, Bool.not_eq_false, Bool.not_eq_true, Bool.and_true, Bool.true_and, Bool.and_false, Bool.false_and, Bool.true_or, Bool.or_true, Bool.or_false, Bool.false_or, Bool.not_true, Bool.not_false, decide_true, decide_false, not_true_eq_false, not_false_eq_true, eq_self, Bool.true_eq_false, Bool.false_eq_true] at y
    have z := C_281 (X := X) (d := d + 2) (P := P) (x := n) (L := L ++ [61, 40, 12]) h (by rw [List.length_append]; simp; omega)
    rw [List.append_assoc] at z
    simp only [Option.bind_some, List.append_nil, List.nil_append, List.cons_append, cond_true, cond_false, if_true, if_false, ite_true, ite_false, reduceIte, IC, bI_0, bI_1, bF, Bool.not_eq_false, Bool.not_eq_true, Bool.and_true, Bool.true_and, Bool.and_false, Bool.false_and, Bool.true_or, Bool.or_true, Bool.or_false, Bool.false_or, Bool.not_true, Bool.not_false, decide_true, decide_false, not_true_eq_false, not_false_eq_true, eq_self, Bool.true_eq_false, Bool.false_eq_true] at z
    simp +decide only [B106_0, IC, w0, b6, y, b12, r3, z, e, B106_23, Option.bind_some, List.append_nil, List.nil_append, List.cons_append, cond_true, cond_false, if_true, if_false, ite_true, ite_false, reduceIte, IC, bI_0, bI_1, bF, Bool.not_eq_false, Bool.not_eq_true, Bool.and_true, Bool.true_and, Bool.and_false, Bool.false_and, Bool.true_or, Bool.or_true, Bool.or_false, Bool.false_or, Bool.not_true, Bool.not_false, decide_true, decide_false, not_true_eq_false, not_false_eq_true, eq_self, Bool.true_eq_false, Bool.false_eq_true]
theorem C_284 (hk : bt k 1 5 = true) (h : acC D J N p k a n) (hL : L.length ≤ 10) : Rn X (d + 5) 284 0 [.ref p, .int x, .ref 54] [] (Mh D (actC J L false) P N) = some ([.int (swaV k a n x ^^^ a)], Mh D (actC J (L ++ [13] ++ swaB k) false) P N) := by
  obtain ⟨r2, r1, hc⟩ := h.rd (P := P)
  have w0 : ∀ b, Rn X (d + 4) 24 0 [.ref 54, .int b] [] (Mh D (actC J L false) P N) = some ([], Mh D (actC J (L ++ [b]) false) P N) := fun b => C_run0 (by omega)
  have hL2 : (L ++ [13]).length ≤ 15 := by have := ln1 (x := 13) hL; omega
  rcases k5 hk with rfl | rfl | rfl | rfl | rfl
  · have b6 := fun I => B284_6_8 (X := X) (d := d + 4) (l1 := x) (l2 := 54) (hc I)
    have y := C_282 (X := X) (d := d + 1) (P := P) (x := x) hk h (show (L ++ [13]).length ≤ 18 by omega)
    have e1 : swaV 1 a n x = sayV 1 a x - n := by unfold swaV; simp +decide only [Option.bind_some, List.append_nil, List.nil_append, List.cons_append, cond_true, cond_false, if_true, if_false, ite_true, ite_false, reduceIte, IC, bI_0, bI_1, bF, Bool.not_eq_false, Bool.not_eq_true, Bool.and_true, Bool.true_and, Bool.and_false, Bool.false_and, Bool.true_or, Bool.or_true, Bool.or_false, Bool.false_or, Bool.not_true, Bool.not_false, decide_true, decide_false, not_true_eq_false, not_false_eq_true, eq_self, Bool.true_eq_false, Bool.false_eq_true]
    have e2 : swaB 1 = [11] ++ sayB 1 := by unfold swaB; simp +decide only [Option.bind_some, List.append_nil, List.nil_append, List.cons_append, cond_true, cond_false, if_true, if_false, ite_true, ite_false, reduceIte, IC, bI_0, bI_1, bF, Bool.not_eq_false, Bool.not_eq_true, Bool.and_true, Bool.true_and, Bool.and_false, Bool.false_and, Bool.true_or, Bool.or_true, Bool.or_false, Bool.false_or, Bool.not_true, Bool.not_false, decide_true, decide_false, not_true_eq_false, not_false_eq_true, eq_self, Bool.true_eq_false, Bool.false_eq_true]
    rw [e1, e2, ← List.append_assoc]
    simp only [B284_0, IC, w0, b6, y, B284_12, r2, Option.bind_some, List.append_nil, List.nil_append, List.cons_append, cond_true, cond_false, if_true, if_false, ite_true, ite_false, reduceIte, IC, bI_0, bI_1, bF, Bool.not_eq_false, Bool.not_eq_true, Bool.and_true, Bool.true_and, Bool.and_false, Bool.false_and, Bool.true_or, Bool.or_true, Bool.or_false, Bool.false_or, Bool.not_true, Bool.not_false, decide_true, decide_false, not_true_eq_false, not_false_eq_true, eq_self, Bool.true_eq_false, Bool.false_eq_true]
  · have b6 := fun I => B284_6_1 (X := X) (d := d + 4) (l1 := x) (l2 := 54) (hc I)
    simp only [B284_0, IC, w0, b6, C_5 (Or.inl rfl) h hL2, B284_12, r2, Option.bind_some, List.append_nil, List.nil_append, List.cons_append, cond_true, cond_false, if_true, if_false, ite_true, ite_false, reduceIte, IC, bI_0, bI_1, bF, Bool.not_eq_false, Bool.not_eq_true, Bool.and_true, Bool.true_and, Bool.and_false, Bool.false_and, Bool.true_or, Bool.or_true, Bool.or_false, Bool.false_or, Bool.not_true, Bool.not_false, decide_true, decide_false, not_true_eq_false, not_false_eq_true, eq_self, Bool.true_eq_false, Bool.false_eq_true]
  · have b6 := fun I => B284_6_7 (X := X) (d := d + 4) (l1 := x) (l2 := 54) (hc I)
    simp only [B284_0, IC, w0, b6, C_5 (Or.inr rfl) h hL2, B284_12, r2, Option.bind_some, List.append_nil, List.nil_append, List.cons_append, cond_true, cond_false, if_true, if_false, ite_true, ite_false, reduceIte, IC, bI_0, bI_1, bF, Bool.not_eq_false, Bool.not_eq_true, Bool.and_true, Bool.true_and, Bool.and_false, Bool.false_and, Bool.true_or, Bool.or_true, Bool.or_false, Bool.false_or, Bool.not_true, Bool.not_false, decide_true, decide_false, not_true_eq_false, not_false_eq_true, eq_self, Bool.true_eq_false, Bool.false_eq_true]
  · have b6 := fun I => B284_6_0 (X := X) (d := d + 4) (l1 := x) (l2 := 54) (hc I)
    have y := C_282 (X := X) (d := d + 1) (P := P) (x := x) hk h (show (L ++ [13]).length ≤ 18 by omega)
    have e1 : swaV 4 a n x = sayV 4 a x - n := by unfold swaV; simp +decide only [Option.bind_some, List.append_nil, List.nil_append, List.cons_append, cond_true, cond_false, if_true, if_false, ite_true, ite_false, reduceIte, IC, bI_0, bI_1, bF, Bool.not_eq_false, Bool.not_eq_true, Bool.and_true, Bool.true_and, Bool.and_false, Bool.false_and, Bool.true_or, Bool.or_true, Bool.or_false, Bool.false_or, Bool.not_true, Bool.not_false, decide_true, decide_false, not_true_eq_false, not_false_eq_true, eq_self, Bool.true_eq_false, Bool.false_eq_true]
    have e2 : swaB 4 = [11] ++ sayB 4 := by unfold swaB; simp +decide only [Option.bind_some, List.append_nil, List.nil_append, List.cons_append, cond_true, cond_false, if_true, if_false, ite_true, ite_false, reduceIte, IC, bI_0, bI_1, bF, Bool.not_eq_false, Bool.not_eq_true, Bool.and_true, Bool.true_and, Bool.and_false, Bool.false_and, Bool.true_or, Bool.or_true, Bool.or_false, Bool.false_or, Bool.not_true, Bool.not_false, decide_true, decide_false, not_true_eq_false, not_false_eq_true, eq_self, Bool.true_eq_false, Bool.false_eq_true]
    rw [e1, e2, ← List.append_assoc]
    simp only [B284_0, IC, w0, b6, y, B284_12, r2, Option.bind_some, List.append_nil, List.nil_append, List.cons_append, cond_true, cond_false, if_true, if_false, ite_true, ite_false, reduceIte, IC, bI_0, bI_1, bF, Bool.not_eq_false, Bool.not_eq_true, Bool.and_true, Bool.true_and, Bool.and_false, Bool.false_and, Bool.true_or, Bool.or_true, Bool.or_false, Bool.false_or, Bool.not_true, Bool.not_false, decide_true, decide_false, not_true_eq_false, not_false_eq_true, eq_self, Bool.true_eq_false, Bool.false_eq_true]
  · have b6 := fun I => B284_6_9 (X := X) (d := d + 4) (l1 := x) (l2 := 54) (hc I)
    simp only [B284_0, IC, w0, b6, C_105 h hL2, B284_12, r2, Option.bind_some, List.append_nil, List.nil_append, List.cons_append, cond_true, cond_false, if_true, if_false, ite_true, ite_false, reduceIte, IC, bI_0, bI_1, bF, Bool.not_eq_false, Bool.not_eq_true, Bool.and_true, Bool.true_and, Bool.and_false, Bool.false_and, Bool.true_or, Bool.or_true, Bool.or_false, Bool.false_or, Bool.not_true, Bool.not_false, decide_true, decide_false, not_true_eq_false, not_false_eq_true, eq_self, Bool.true_eq_false, Bool.false_eq_true]
theorem C_99 (h : acC D J N p 3 a n) : Rn X (d + 6) 99 0 [.ref p, .int x, .ref 54, U_] [] (Mh D (actC J [] false) P N) = some ([.int ((swaV 3 a n x ^^^ a) + (if a = n then 0 else a / (a - n)))], Mh D (actC J (telB 3) (decide (a = n))) P N) := by
  obtain ⟨r2, r1, hc⟩ := h.rd (P := P)
  have w0 : Rn X (d + 5) 24 0 [.ref 54, .int 51] [] (Mh D (actC J [] false) P N) = some ([], Mh D (actC J [51] false) P N) := C_run0 (by simp)
  have b6 := fun I => B99_6 (X := X) (d := d + 5) (l1 := x) (l2 := 54) (hc I)
  have b12 := fun I (v : Int32) => B99_12_7 (X := X) (d := d + 5) (l1 := x) (l2 := 54) (s0 := v) (hc I)
  have y := C_284 (X := X) (d := d) (P := P) (x := x) (k := 3) (L := [51]) rfl h (by simp)
  have r3 := h.rt (P := P) (cis := [7]) (c := 7) rfl rfl
  have z := C_283 (X := X) (d := d + 3) (P := P) (x := a) (L := [51] ++ [13] ++ swaB 3) h (by decide)
  have e : telB 3 = [51] ++ [13] ++ swaB 3 ++ [12] := by unfold telB; simp +decide only [Option.bind_some, List.append_nil, List.nil_append, List.cons_append, cond_true, cond_false, if_true, if_false, ite_true, ite_false, reduceIte, IC, bI_0, bI_1, bF, Bool.not_eq_false, Bool.not_eq_true, Bool.and_true, Bool.true_and, Bool.and_false, Bool.false_and, Bool.true_or, Bool.or_true, Bool.or_false, Bool.false_or, Bool.not_true, Bool.not_false, decide_true, decide_false, not_true_eq_false, not_false_eq_true, eq_self, Bool.true_eq_false, Bool.false_eq_true]
  have z' : Rn X (d + 5) 283 0 [.ref p, .int a, .ref 54, U_] [] (Mh D (actC J (51 :: 13 :: swaB 3) false) P N) = some ([.int (if a = n then 0 else a / (a - n))], Mh D (actC J (51 :: 13 :: (swaB 3 ++ [12])) (decide (a = n))) P N) := z
  rw [e]
  simp only [B99_0, IC, w0, b6, y, b12, r3, z', B99_23, Option.bind_some, List.append_nil, List.nil_append, List.cons_append, cond_true, cond_false, if_true, if_false, ite_true, ite_false, reduceIte, IC, bI_0, bI_1, bF, Bool.not_eq_false, Bool.not_eq_true, Bool.and_true, Bool.true_and, Bool.and_false, Bool.false_and, Bool.true_or, Bool.or_true, Bool.or_false, Bool.false_or, Bool.not_true, Bool.not_false, decide_true, decide_false, not_true_eq_false, not_false_eq_true, eq_self, Bool.true_eq_false, Bool.false_eq_true]
end Act
