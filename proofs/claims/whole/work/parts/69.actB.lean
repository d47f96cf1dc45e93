/-! act and trace of both -/
def atO (s : Nat → Int32) (on : Bool) (y w x : Int32) : Int32 × List Int32 := if (on && bt w 0 3) = true then (actV (s (7 + 5 * y.toNatClampNeg)) (s (7 + 5 * y.toNatClampNeg + 1)) y w x, actL (s (7 + 5 * y.toNatClampNeg)) (s (7 + 5 * y.toNatClampNeg + 1)) y w) else (0, [])
/-- behind an act of the reference: its trace -/
def acE (I I' : Nat → Nat → Int32) (T : List Int32) : Prop := (∀ c, c ≠ 65 → c ≠ 79 → I' c = I c) ∧ (∀ k, k < 27 → I' 65 k = I 65 k) ∧ I' 65 27 = Int32.ofNat T.length ∧ ∀ j, j < T.length → I' 79 j = T.getD j 0
def acF (I I' : Nat → Nat → Int32) (T : List Int32) : Prop := (∀ c, c ≠ 54 → c ≠ 64 → I' c = I c) ∧ I' 54 6 = Int32.ofNat T.length ∧ ∀ j, j < T.length → I' 64 j = T.getD j 0
section ActB
variable {X : mX} {d : Nat} {D : Nat → Nat × Nat} {I : Nat → Nat → Int32} {P : Nat → Nat → Option Nat} {N : Nat} {h : mH} {s g S r f : Nat → Int32} {J J' : Nat → Nat → Int32} {ra : Nat → Nat} {L : List Int32} {m : Int} {i j q t p c0 : Nat} {x y z v k a n e l u b w : Int32} {pt : Bool}
theorem bt03c (h : bt w 0 3 = true) : w = 0 ∨ w = 1 ∨ w = 2 ∨ w = 3 := by
  have h2 := bt_iff.mp h
  rw [← Int32.toInt_inj, ← Int32.toInt_inj, ← Int32.toInt_inj, ← Int32.toInt_inj]
  show w.toInt = 0 ∨ w.toInt = 1 ∨ w.toInt = 2 ∨ w.toInt = 3
  omega
theorem acL_n : (actL k a n w).length ≤ 7 := by
  have s1 : (sayB k).length ≤ 2 := by
    unfold sayB
    split
    · decide
    · split <;> decide
  have s2 : (swaB k).length ≤ 4 := by
    unfold swaB
    rw [List.length_append]
    have : (if k = 2 then ([30, 11] : List Int32) else if k = 3 then [30, 11] else if k = 5 then [60, 11] else [11]).length ≤ 2 := by
      split
      · decide
      · split
        · decide
        · split <;> decide
    omega
  unfold actL
  split
  · omega
  · split
    · omega
    · split
      · unfold shaB
        split
        · decide
        · split
          · split <;> decide
          · decide
      · unfold telB
        rw [List.length_append, List.length_append]
        have h1 : (if k = 3 then ([51, 13] : List Int32) else [13]).length ≤ 2 := by split <;> decide
        have h2 : (if k = 3 then ([12] : List Int32) else []).length ≤ 1 := by split <;> decide
        omega
theorem atO_n {on : Bool} : (atO s on y w x).2.length ≤ 7 := by
  unfold atO
  split
  · exact acL_n
  · decide
theorem actM_E (hI : ∀ c, c ≠ 65 → J c = I c) (hk : ∀ k, k < 27 → J 65 k = I 65 k) : acE I (actM J L pt) L := by
  refine ⟨fun c h1 h2 => ?_, fun k h => ?_, rfl, fun j hj => ?_⟩
  · unfold actM
    rw [u2r_o h2, u2_o h1, u2_o h1, hI c h1]
  · rw [actM_65 (by omega) (by omega), hk k h]
  · show trl (J 79) L j = _
    unfold trl
    rw [if_pos hj]
theorem actC_F (hI : ∀ c, c ≠ 54 → J c = I c) : acF I (actC J L pt) L := by
  refine ⟨fun c h1 h2 => ?_, rfl, fun j hj => ?_⟩
  · unfold actC
    rw [u2r_o h2, u2_o h1, u2_o h1, hI c h1]
  · show trl (J 64) L j = _
    unfold trl
    rw [if_pos hj]
theorem trl_0 {t : Nat → Int32} : trl t [] = t := by
  funext k
  unfold trl
  rw [if_neg (by simp)]
theorem actM_0 (h1 : J 65 27 = 0) (h2 : J 65 31 = 0) : actM J [] false = J := by
  unfold actM
  rw [trl_0]
  have e : u2 (u2 J 65 27 (Int32.ofNat ([] : List Int32).length)) 65 31 (bI false) = J := by
    rw [show Int32.ofNat ([] : List Int32).length = 0 from rfl, show bI false = 0 from rfl, u2_id h1, u2_id h2]
  rw [e, u2r_id]
theorem actC_0 (h1 : J 54 6 = 0) (h2 : J 54 7 = 0) : actC J [] false = J := by
  unfold actC
  rw [trl_0]
  have e : u2 (u2 J 54 6 (Int32.ofNat ([] : List Int32).length)) 54 7 (bI false) = J := by
    rw [show Int32.ofNat ([] : List Int32).length = 0 from rfl, show bI false = 0 from rfl, u2_id h1, u2_id h2]
  rw [e, u2r_id]
theorem M_ac (hk : bt k 1 5 = true) (hw : bt w 0 3 = true) (hJ : acR J k a n) : ∃ b v, (if w = 0 then Rn X (d + 4) 267 0 [.ref 65, .int x, U_] [] (Mh D (actM J [] false) P N) else if w = 1 then Rn X (d + 4) 268 0 [.ref 65, .int x, U_, U_] [] (Mh D (actM J [] false) P N) else if w = 2 then Rn X (d + 4) 270 0 [.ref 65, .int x, U_] [] (Mh D (actM J [] false) P N) else Rn X (d + 4) 271 0 [.ref 65, .int x, U_] [] (Mh D (actM J [] false) P N)) = some ([.int v], Mh D (actM J (actL k a n w) b) P N) ∧ (if b = true then -15 else v) = actV k a n w x := by
  rcases bt03c hw with rfl | rfl | rfl | rfl
  · refine ⟨false, sayV k a x, ?_, ?_⟩
    · rw [if_pos rfl, M_says hk hJ (by simp)]; rfl
    · unfold actV; simp +decide only [Option.bind_some, List.append_nil, List.nil_append, List.cons_append, cond_true, cond_false, if_true, if_false, ite_true, ite_false, reduceIte, IC, bI_0, bI_1, bF, Bool.not_eq_false, Bool.not_eq_true, Bool.and_true, Bool.true_and, Bool.and_false, Bool.false_and, Bool.true_or, Bool.or_true, Bool.or_false, Bool.false_or, Bool.not_true, Bool.not_false, decide_true, decide_false, not_true_eq_false, not_false_eq_true, eq_self, Bool.true_eq_false, Bool.false_eq_true]
  · refine ⟨false, swaV k a n x, ?_, ?_⟩
    · rw [if_neg (by decide), if_pos rfl, M_sways hk hJ (by simp)]; rfl
    · unfold actV; simp +decide only [Option.bind_some, List.append_nil, List.nil_append, List.cons_append, cond_true, cond_false, if_true, if_false, ite_true, ite_false, reduceIte, IC, bI_0, bI_1, bF, Bool.not_eq_false, Bool.not_eq_true, Bool.and_true, Bool.true_and, Bool.and_false, Bool.false_and, Bool.true_or, Bool.or_true, Bool.or_false, Bool.false_or, Bool.not_true, Bool.not_false, decide_true, decide_false, not_true_eq_false, not_false_eq_true, eq_self, Bool.true_eq_false, Bool.false_eq_true]
  · refine ⟨decide (a = n), shaW k a n x, ?_, ?_⟩
    · rw [if_neg (by decide), if_neg (by decide), if_pos rfl, M_shares hk hJ (by simp)]; rfl
    · unfold actV shaW
      by_cases e : a = n
      · simp +decide only [e, Option.bind_some, List.append_nil, List.nil_append, List.cons_append, cond_true, cond_false, if_true, if_false, ite_true, ite_false, reduceIte, IC, bI_0, bI_1, bF, Bool.not_eq_false, Bool.not_eq_true, Bool.and_true, Bool.true_and, Bool.and_false, Bool.false_and, Bool.true_or, Bool.or_true, Bool.or_false, Bool.false_or, Bool.not_true, Bool.not_false, decide_true, decide_false, not_true_eq_false, not_false_eq_true, eq_self, Bool.true_eq_false, Bool.false_eq_true]
      · simp +decide only [e, Option.bind_some, List.append_nil, List.nil_append, List.cons_append, cond_true, cond_false, if_true, if_false, ite_true, ite_false, reduceIte, IC, bI_0, bI_1, bF, Bool.not_eq_false, Bool.not_eq_true, Bool.and_true, Bool.true_and, Bool.and_false, Bool.false_and, Bool.true_or, Bool.or_true, Bool.or_false, Bool.false_or, Bool.not_true, Bool.not_false, decide_true, decide_false, not_true_eq_false, not_false_eq_true, eq_self, Bool.true_eq_false, Bool.false_eq_true]
  · refine ⟨decide (k = 3) && decide (a = n), if k = 3 then (swaV k a n x ^^^ a) + shaW k a n a else swaV k a n x ^^^ a, ?_, ?_⟩
    · rw [if_neg (by decide), if_neg (by decide), if_neg (by decide), M_tells hk hJ]; rfl
    · unfold actV shaW telV shaV
      by_cases e3 : k = 3
      · by_cases e : a = n
        · simp +decide only [e, e3, Option.bind_some, List.append_nil, List.nil_append, List.cons_append, cond_true, cond_false, if_true, if_false, ite_true, ite_false, reduceIte, IC, bI_0, bI_1, bF, Bool.not_eq_false, Bool.not_eq_true, Bool.and_true, Bool.true_and, Bool.and_false, Bool.false_and, Bool.true_or, Bool.or_true, Bool.or_false, Bool.false_or, Bool.not_true, Bool.not_false, decide_true, decide_false, not_true_eq_false, not_false_eq_true, eq_self, Bool.true_eq_false, Bool.false_eq_true]
        · simp +decide only [e, e3, Option.bind_some, List.append_nil, List.nil_append, List.cons_append, cond_true, cond_false, if_true, if_false, ite_true, ite_false, reduceIte, IC, bI_0, bI_1, bF, Bool.not_eq_false, Bool.not_eq_true, Bool.and_true, Bool.true_and, Bool.and_false, Bool.false_and, Bool.true_or, Bool.or_true, Bool.or_false, Bool.false_or, Bool.not_true, Bool.not_false, decide_true, decide_false, not_true_eq_false, not_false_eq_true, eq_self, Bool.true_eq_false, Bool.false_eq_true]
      · simp +decide only [e3, Option.bind_some, List.append_nil, List.nil_append, List.cons_append, cond_true, cond_false, if_true, if_false, ite_true, ite_false, reduceIte, IC, bI_0, bI_1, bF, Bool.not_eq_false, Bool.not_eq_true, Bool.and_true, Bool.true_and, Bool.and_false, Bool.false_and, Bool.true_or, Bool.or_true, Bool.or_false, Bool.false_or, Bool.not_true, Bool.not_false, decide_true, decide_false, not_true_eq_false, not_false_eq_true, eq_self, Bool.true_eq_false, Bool.false_eq_true]
theorem F_act (gd : Gd (I 66) m) : ∃ I', Rn X (d + 40) 272 0 [.ref 65, .int v, .int w, .int x, U_] [] (Mh D I P N) = some ([.int (atO (I 66) (bt v 0 3 && onS (I 66) (I 76 v.toNatClampNeg) (I 77 v.toNatClampNeg)) (I 77 v.toNatClampNeg) w x).1], Mh D I' P N)
    ∧ acE I I' (atO (I 66) (bt v 0 3 && onS (I 66) (I 76 v.toNatClampNeg) (I 77 v.toNatClampNeg)) (I 77 v.toNatClampNeg) w x).2 := by
  have n1 : (-1 : Int32) < 0 := by decide
  generalize hJ : u2 (u2 I 65 27 0) 65 31 0 = J1
  have j66 : J1 66 = I 66 := by rw [← hJ]; rfl
  have j76 : J1 76 = I 76 := by rw [← hJ]; rfl
  have j77 : J1 77 = I 77 := by rw [← hJ]; rfl
  have ho := M_ons (X := X) (d := d + 37) (D := D) (I := J1) (P := P) (N := N) (a := v) (m := m) (by rw [j66]; exact gd)
  rw [j66, j76, j77] at ho
  have jo : ∀ c, c ≠ 65 → J1 c = I c := fun c hc => by rw [← hJ, u2_o hc, u2_o hc]
  have jk : ∀ k, k < 27 → J1 65 k = I 65 k := fun k hk => by
    rw [← hJ]
    show upd (upd (I 65) 27 0) 31 0 k = _
    rw [upd_o (by omega), upd_o (by omega)]
  have j27 : J1 65 27 = 0 := by rw [← hJ]; rfl
  have j31 : J1 65 31 = 0 := by rw [← hJ]; rfl
  simp only [B272_0, WRm, IC, hJ, Option.bind_some, List.append_nil, List.nil_append, List.cons_append, cond_true, cond_false, if_true, if_false, ite_true, ite_false, reduceIte, IC, bI_0, bI_1, bF, Bool.not_eq_false, Bool.not_eq_true, Bool.and_true, Bool.true_and, Bool.and_false, Bool.false_and, Bool.true_or, Bool.or_true, Bool.or_false, Bool.false_or, Bool.not_true, Bool.not_false, decide_true, decide_false, not_true_eq_false, not_false_eq_true, eq_self, Bool.true_eq_false, Bool.false_eq_true, ho, B272_16]
  have s28 : ∀ y, u2 J1 65 28 y 65 28 = y := fun y => rfl
  simp only [RDm, s28]
  unfold atO
  cases hO : (bt v 0 3 && onS (I 66) (I 76 v.toNatClampNeg) (I 77 v.toNatClampNeg)) with
  | false =>
    refine ⟨u2 J1 65 28 (-1), by simp only [n1, Option.bind_some, List.append_nil, List.nil_append, List.cons_append, cond_true, cond_false, if_true, if_false, ite_true, ite_false, reduceIte, IC, bI_0, bI_1, bF, Bool.not_eq_false, Bool.not_eq_true, Bool.and_true, Bool.true_and, Bool.and_false, Bool.false_and, Bool.true_or, Bool.or_true, Bool.or_false, Bool.false_or, Bool.not_true, Bool.not_false, decide_true, decide_false, not_true_eq_false, not_false_eq_true, eq_self, Bool.true_eq_false, Bool.false_eq_true, B272_38], ?_⟩
    refine ⟨fun c h1 _ => by rw [u2_o h1]; exact jo c h1, fun k hk => ?_, ?_, fun j hj => by cases hj⟩
    · rw [u2_s, upd_o (by omega)]; exact jk k hk
    · rw [u2_s, upd_o (by decide)]; exact j27
  | true =>
    have hO2 := hO
    unfold onS at hO2
    simp only [Bool.and_eq_true, decide_eq_true_eq] at hO2
    obtain ⟨i, hi, hx⟩ := isA_nat gd hO2.2.2
    have h9 := gd.a hi
    have e0 : (I 77 v.toNatClampNeg).toNatClampNeg = i := by rw [hx, iN_cl (by omega)]
    have nn : ¬ Int32.ofNat i < 0 := iN_neg (by omega)
    rw [e0]
    simp only [Option.bind_some, List.append_nil, List.nil_append, List.cons_append, cond_true, cond_false, if_true, if_false, ite_true, ite_false, reduceIte, IC, bI_0, bI_1, bF, Bool.not_eq_false, Bool.not_eq_true, Bool.and_true, Bool.true_and, Bool.and_false, Bool.false_and, Bool.true_or, Bool.or_true, Bool.or_false, Bool.false_or, Bool.not_true, Bool.not_false, decide_true, decide_false, not_true_eq_false, not_false_eq_true, eq_self, Bool.true_eq_false, Bool.false_eq_true, hx, nn, M_bt, L64, B272_35]
    cases hw : bt w 0 3 with
    | false =>
      refine ⟨u2 J1 65 28 (Int32.ofNat i), by simp only [Option.bind_some, List.append_nil, List.nil_append, List.cons_append, cond_true, cond_false, if_true, if_false, ite_true, ite_false, reduceIte, IC, bI_0, bI_1, bF, Bool.not_eq_false, Bool.not_eq_true, Bool.and_true, Bool.true_and, Bool.and_false, Bool.false_and, Bool.true_or, Bool.or_true, Bool.or_false, Bool.false_or, Bool.not_true, Bool.not_false, decide_true, decide_false, not_true_eq_false, not_false_eq_true, eq_self, Bool.true_eq_false, Bool.false_eq_true, B272_38], ?_⟩
      refine ⟨fun c h1 _ => by rw [u2_o h1]; exact jo c h1, fun k hk => ?_, ?_, fun j hj => by cases hj⟩
      · rw [u2_s, upd_o (by omega)]; exact jk k hk
      · rw [u2_s, upd_o (by decide)]; exact j27
    | true =>
      have hk := (gd.2.1 i hi).1
      generalize hJ2 : u2 J1 65 28 (Int32.ofNat i) = J2
      have j266 : J2 66 = I 66 := by rw [← hJ2]; exact j66
      have i2 := M_its (X := X) (d := d + 38) (D := D) (I := J2) (P := P) (N := N) (i := i) (by omega)
      rw [j266] at i2
      have j228 : J2 65 28 = Int32.ofNat i := by rw [← hJ2]; rfl
      generalize hJ3 : u2 J2 65 29 (I 66 (7 + 5 * i + 1)) = J3
      have i3 := M_its (X := X) (d := d + 38) (D := D) (I := J3) (P := P) (N := N) (i := i) (by omega)
      have j366 : J3 66 = I 66 := by rw [← hJ3]; exact j266
      have j328 : J3 65 28 = Int32.ofNat i := by rw [← hJ3]; exact j228
      rw [j366] at i3
      generalize hJ4 : u2 J3 65 30 (I 66 (7 + 5 * i)) = J4
      have jR : acR J4 (I 66 (7 + 5 * i)) (I 66 (7 + 5 * i + 1)) (Int32.ofNat i) := ⟨by rw [← hJ4]; rfl, by rw [← hJ4, ← hJ3]; rfl, by rw [← hJ4]; exact j328⟩
      have j40 : actM J4 [] false = J4 := actM_0 (by rw [← hJ4, ← hJ3, ← hJ2]; exact j27) (by rw [← hJ4, ← hJ3, ← hJ2]; exact j31)
      have j4o : ∀ c, c ≠ 65 → J4 c = I c := fun c hc => by rw [← hJ4, ← hJ3, ← hJ2, u2_o hc, u2_o hc, u2_o hc]; exact jo c hc
      have j4k : ∀ k, k < 27 → J4 65 k = I 65 k := fun k hk => by
        rw [← hJ4, ← hJ3, ← hJ2, u2_s, upd_o (by omega), u2_s, upd_o (by omega), u2_s, upd_o (by omega)]; exact jk k hk
      obtain ⟨b, va, e1, e2⟩ := M_ac (X := X) (d := d + 35) (D := D) (P := P) (N := N) (x := x) hk hw jR
      rw [j40] at e1
      have r31 : actM J4 (actL (I 66 (7 + 5 * i)) (I 66 (7 + 5 * i + 1)) (Int32.ofNat i) w) b 65 31 = bI b := rfl
      refine ⟨_, ?_, actM_E (pt := b) j4o j4k⟩
      simp only [Option.bind_some, List.append_nil, List.nil_append, List.cons_append, cond_true, cond_false, if_true, if_false, ite_true, ite_false, reduceIte, IC, bI_0, bI_1, bF, Bool.not_eq_false, Bool.not_eq_true, Bool.and_true, Bool.true_and, Bool.and_false, Bool.false_and, Bool.true_or, Bool.or_true, Bool.or_false, Bool.false_or, Bool.not_true, Bool.not_false, decide_true, decide_false, not_true_eq_false, not_false_eq_true, eq_self, Bool.true_eq_false, Bool.false_eq_true, RDm, IC, j228, i2, B272_50, WRm, hJ3, j328, i3, B272_63, hJ4]
      rcases bt03c hw with rfl | rfl | rfl | rfl
      · simp +decide only [Option.bind_some, List.append_nil, List.nil_append, List.cons_append, cond_true, cond_false, if_true, if_false, ite_true, ite_false, reduceIte, IC, bI_0, bI_1, bF, Bool.not_eq_false, Bool.not_eq_true, Bool.and_true, Bool.true_and, Bool.and_false, Bool.false_and, Bool.true_or, Bool.or_true, Bool.or_false, Bool.false_or, Bool.not_true, Bool.not_false, decide_true, decide_false, not_true_eq_false, not_false_eq_true, eq_self, Bool.true_eq_false, Bool.false_eq_true] at e1 ⊢
        simp +decide only [e1, B272_75, B272_109, RDm, r31, B272_125, ← e2, Option.bind_some, List.append_nil, List.nil_append, List.cons_append, cond_true, cond_false, if_true, if_false, ite_true, ite_false, reduceIte, IC, bI_0, bI_1, bF, Bool.not_eq_false, Bool.not_eq_true, Bool.and_true, Bool.true_and, Bool.and_false, Bool.false_and, Bool.true_or, Bool.or_true, Bool.or_false, Bool.false_or, Bool.not_true, Bool.not_false, decide_true, decide_false, not_true_eq_false, not_false_eq_true, eq_self, Bool.true_eq_false, Bool.false_eq_true]
        cases b <;> simp +decide only [bI_t, bI_f, Option.bind_some, List.append_nil, List.nil_append, List.cons_append, cond_true, cond_false, if_true, if_false, ite_true, ite_false, reduceIte, IC, bI_0, bI_1, bF, Bool.not_eq_false, Bool.not_eq_true, Bool.and_true, Bool.true_and, Bool.and_false, Bool.false_and, Bool.true_or, Bool.or_true, Bool.or_false, Bool.false_or, Bool.not_true, Bool.not_false, decide_true, decide_false, not_true_eq_false, not_false_eq_true, eq_self, Bool.true_eq_false, Bool.false_eq_true]
      · simp +decide only [Option.bind_some, List.append_nil, List.nil_append, List.cons_append, cond_true, cond_false, if_true, if_false, ite_true, ite_false, reduceIte, IC, bI_0, bI_1, bF, Bool.not_eq_false, Bool.not_eq_true, Bool.and_true, Bool.true_and, Bool.and_false, Bool.false_and, Bool.true_or, Bool.or_true, Bool.or_false, Bool.false_or, Bool.not_true, Bool.not_false, decide_true, decide_false, not_true_eq_false, not_false_eq_true, eq_self, Bool.true_eq_false, Bool.false_eq_true] at e1 ⊢
        simp +decide only [e1, B272_88, B272_109, RDm, r31, B272_125, ← e2, Option.bind_some, List.append_nil, List.nil_append, List.cons_append, cond_true, cond_false, if_true, if_false, ite_true, ite_false, reduceIte, IC, bI_0, bI_1, bF, Bool.not_eq_false, Bool.not_eq_true, Bool.and_true, Bool.true_and, Bool.and_false, Bool.false_and, Bool.true_or, Bool.or_true, Bool.or_false, Bool.false_or, Bool.not_true, Bool.not_false, decide_true, decide_false, not_true_eq_false, not_false_eq_true, eq_self, Bool.true_eq_false, Bool.false_eq_true]
        cases b <;> simp +decide only [bI_t, bI_f, Option.bind_some, List.append_nil, List.nil_append, List.cons_append, cond_true, cond_false, if_true, if_false, ite_true, ite_false, reduceIte, IC, bI_0, bI_1, bF, Bool.not_eq_false, Bool.not_eq_true, Bool.and_true, Bool.true_and, Bool.and_false, Bool.false_and, Bool.true_or, Bool.or_true, Bool.or_false, Bool.false_or, Bool.not_true, Bool.not_false, decide_true, decide_false, not_true_eq_false, not_false_eq_true, eq_self, Bool.true_eq_false, Bool.false_eq_true]
      · simp +decide only [Option.bind_some, List.append_nil, List.nil_append, List.cons_append, cond_true, cond_false, if_true, if_false, ite_true, ite_false, reduceIte, IC, bI_0, bI_1, bF, Bool.not_eq_false, Bool.not_eq_true, Bool.and_true, Bool.true_and, Bool.and_false, Bool.false_and, Bool.true_or, Bool.or_true, Bool.or_false, Bool.false_or, Bool.not_true, Bool.not_false, decide_true, decide_false, not_true_eq_false, not_false_eq_true, eq_self, Bool.true_eq_false, Bool.false_eq_true] at e1 ⊢
        simp +decide only [e1, B272_101, B272_109, RDm, r31, B272_125, ← e2, Option.bind_some, List.append_nil, List.nil_append, List.cons_append, cond_true, cond_false, if_true, if_false, ite_true, ite_false, reduceIte, IC, bI_0, bI_1, bF, Bool.not_eq_false, Bool.not_eq_true, Bool.and_true, Bool.true_and, Bool.and_false, Bool.false_and, Bool.true_or, Bool.or_true, Bool.or_false, Bool.false_or, Bool.not_true, Bool.not_false, decide_true, decide_false, not_true_eq_false, not_false_eq_true, eq_self, Bool.true_eq_false, Bool.false_eq_true]
        cases b <;> simp +decide only [bI_t, bI_f, Option.bind_some, List.append_nil, List.nil_append, List.cons_append, cond_true, cond_false, if_true, if_false, ite_true, ite_false, reduceIte, IC, bI_0, bI_1, bF, Bool.not_eq_false, Bool.not_eq_true, Bool.and_true, Bool.true_and, Bool.and_false, Bool.false_and, Bool.true_or, Bool.or_true, Bool.or_false, Bool.false_or, Bool.not_true, Bool.not_false, decide_true, decide_false, not_true_eq_false, not_false_eq_true, eq_self, Bool.true_eq_false, Bool.false_eq_true]
      · simp +decide only [Option.bind_some, List.append_nil, List.nil_append, List.cons_append, cond_true, cond_false, if_true, if_false, ite_true, ite_false, reduceIte, IC, bI_0, bI_1, bF, Bool.not_eq_false, Bool.not_eq_true, Bool.and_true, Bool.true_and, Bool.and_false, Bool.false_and, Bool.true_or, Bool.or_true, Bool.or_false, Bool.false_or, Bool.not_true, Bool.not_false, decide_true, decide_false, not_true_eq_false, not_false_eq_true, eq_self, Bool.true_eq_false, Bool.false_eq_true] at e1 ⊢
        simp +decide only [e1, B272_109, RDm, r31, B272_125, ← e2, Option.bind_some, List.append_nil, List.nil_append, List.cons_append, cond_true, cond_false, if_true, if_false, ite_true, ite_false, reduceIte, IC, bI_0, bI_1, bF, Bool.not_eq_false, Bool.not_eq_true, Bool.and_true, Bool.true_and, Bool.and_false, Bool.false_and, Bool.true_or, Bool.or_true, Bool.or_false, Bool.false_or, Bool.not_true, Bool.not_false, decide_true, decide_false, not_true_eq_false, not_false_eq_true, eq_self, Bool.true_eq_false, Bool.false_eq_true]
        cases b <;> simp +decide only [bI_t, bI_f, Option.bind_some, List.append_nil, List.nil_append, List.cons_append, cond_true, cond_false, if_true, if_false, ite_true, ite_false, reduceIte, IC, bI_0, bI_1, bF, Bool.not_eq_false, Bool.not_eq_true, Bool.and_true, Bool.true_and, Bool.and_false, Bool.false_and, Bool.true_or, Bool.or_true, Bool.or_false, Bool.false_or, Bool.not_true, Bool.not_false, decide_true, decide_false, not_true_eq_false, not_false_eq_true, eq_self, Bool.true_eq_false, Bool.false_eq_true]
theorem C_ac (hk : bt k 1 5 = true) (hw : bt w 0 3 = true) (h : acC D J N p k a n) : ∃ b, Rn X (d + 12) 151 25 [.ref 0, .int v, .int w, .int x, .ref p, U_] [.int 1] (Mh D (actC J [] false) P N) = some ([.int (actV k a n w x)], Mh D (actC J (actL k a n w) b) P N) := by
  obtain ⟨r2, r1, hc⟩ := h.rd (P := P)
  have n10 : ¬ (1 : Int32) = 0 := by decide
  have r4 : ∀ L b, actC J L b 54 7 = bI b := fun L b => rfl
  rcases k5 hk with rfl | rfl | rfl | rfl | rfl
  · have b25 := fun I (u : Int32) => B151_25_8 (X := X) (d := d + 11) (l0 := 0) (l1 := v) (l2 := u) (l3 := x) (s0 := 1) (hc I)
    rcases bt03c hw with rfl | rfl | rfl | rfl
    · have y := C_102 (X := X) (d := d + 9) (P := P) (x := x) (L := []) h (by simp)
      refine ⟨false, ?_⟩
      unfold actV actL
      simp +decide only [b25, n10, RDc, y, B151_66, B151_113, r4, bI_f, B151_130, Option.bind_some, List.append_nil, List.nil_append, List.cons_append, cond_true, cond_false, if_true, if_false, ite_true, ite_false, reduceIte, IC, bI_0, bI_1, bF, Bool.not_eq_false, Bool.not_eq_true, Bool.and_true, Bool.true_and, Bool.and_false, Bool.false_and, Bool.true_or, Bool.or_true, Bool.or_false, Bool.false_or, Bool.not_true, Bool.not_false, decide_true, decide_false, not_true_eq_false, not_false_eq_true, eq_self, Bool.true_eq_false, Bool.false_eq_true]
    · have y := C_282 (X := X) (d := d + 8) (P := P) (x := x) (L := []) hk h (by simp)
      refine ⟨false, ?_⟩
      unfold actV actL
      unfold swaV swaB
      simp +decide only [b25, n10, RDc, y, B151_81, B151_113, r4, bI_f, B151_130, Option.bind_some, List.append_nil, List.nil_append, List.cons_append, cond_true, cond_false, if_true, if_false, ite_true, ite_false, reduceIte, IC, bI_0, bI_1, bF, Bool.not_eq_false, Bool.not_eq_true, Bool.and_true, Bool.true_and, Bool.and_false, Bool.false_and, Bool.true_or, Bool.or_true, Bool.or_false, Bool.false_or, Bool.not_true, Bool.not_false, decide_true, decide_false, not_true_eq_false, not_false_eq_true, eq_self, Bool.true_eq_false, Bool.false_eq_true]
    · have y := C_283 (X := X) (d := d + 9) (P := P) (x := x) (L := []) h (by simp)
      refine ⟨decide (a = n), ?_⟩
      unfold actV actL
      by_cases e : a = n
      · simp only [e, Option.bind_some, List.append_nil, List.nil_append, List.cons_append, cond_true, cond_false, if_true, if_false, ite_true, ite_false, reduceIte, IC, bI_0, bI_1, bF, Bool.not_eq_false, Bool.not_eq_true, Bool.and_true, Bool.true_and, Bool.and_false, Bool.false_and, Bool.true_or, Bool.or_true, Bool.or_false, Bool.false_or, Bool.not_true, Bool.not_false, decide_true, decide_false, not_true_eq_false, not_false_eq_true, eq_self, Bool.true_eq_false, Bool.false_eq_true] at y
        unfold shaV shaB
        simp +decide only [b25, n10, RDc, y, B151_96, B151_113, r4, bI_t, B151_130, e, Option.bind_some, List.append_nil, List.nil_append, List.cons_append, cond_true, cond_false, if_true, if_false, ite_true, ite_false, reduceIte, IC, bI_0, bI_1, bF, Bool.not_eq_false, Bool.not_eq_true, Bool.and_true, Bool.true_and, Bool.and_false, Bool.false_and, Bool.true_or, Bool.or_true, Bool.or_false, Bool.false_or, Bool.not_true, Bool.not_false, decide_true, decide_false, not_true_eq_false, not_false_eq_true, eq_self, Bool.true_eq_false, Bool.false_eq_true]
      · simp only [e, Option.bind_some, List.append_nil, List.nil_append, List.cons_append, cond_true, cond_false, if_true, if_false, ite_true, ite_false, reduceIte, IC, bI_0, bI_1, bF, Bool.not_eq_false, Bool.not_eq_true, Bool.and_true, Bool.true_and, Bool.and_false, Bool.false_and, Bool.true_or, Bool.or_true, Bool.or_false, Bool.false_or, Bool.not_true, Bool.not_false, decide_true, decide_false, not_true_eq_false, not_false_eq_true, eq_self, Bool.true_eq_false, Bool.false_eq_true] at y
        unfold shaV shaB
        simp +decide only [b25, n10, RDc, y, B151_96, B151_113, r4, bI_f, B151_130, e, Option.bind_some, List.append_nil, List.nil_append, List.cons_append, cond_true, cond_false, if_true, if_false, ite_true, ite_false, reduceIte, IC, bI_0, bI_1, bF, Bool.not_eq_false, Bool.not_eq_true, Bool.and_true, Bool.true_and, Bool.and_false, Bool.false_and, Bool.true_or, Bool.or_true, Bool.or_false, Bool.false_or, Bool.not_true, Bool.not_false, decide_true, decide_false, not_true_eq_false, not_false_eq_true, eq_self, Bool.true_eq_false, Bool.false_eq_true]
    · have y := C_284 (X := X) (d := d + 6) (P := P) (x := x) (L := []) hk h (by simp)
      refine ⟨false, ?_⟩
      unfold actV actL telV telB
      simp +decide only [b25, n10, RDc, y, B151_111, B151_113, r4, bI_f, B151_130, Option.bind_some, List.append_nil, List.nil_append, List.cons_append, cond_true, cond_false, if_true, if_false, ite_true, ite_false, reduceIte, IC, bI_0, bI_1, bF, Bool.not_eq_false, Bool.not_eq_true, Bool.and_true, Bool.true_and, Bool.and_false, Bool.false_and, Bool.true_or, Bool.or_true, Bool.or_false, Bool.false_or, Bool.not_true, Bool.not_false, decide_true, decide_false, not_true_eq_false, not_false_eq_true, eq_self, Bool.true_eq_false, Bool.false_eq_true]
  · have b25 := fun I (u : Int32) => B151_25_1 (X := X) (d := d + 11) (l0 := 0) (l1 := v) (l2 := u) (l3 := x) (s0 := 1) (hc I)
    rcases bt03c hw with rfl | rfl | rfl | rfl
    · have y := C_281 (X := X) (d := d + 10) (P := P) (x := x) (L := []) h (by simp)
      refine ⟨false, ?_⟩
      unfold actV actL
      unfold sayV sayB
      simp +decide only [b25, n10, RDc, y, B151_66, B151_113, r4, bI_f, B151_130, Option.bind_some, List.append_nil, List.nil_append, List.cons_append, cond_true, cond_false, if_true, if_false, ite_true, ite_false, reduceIte, IC, bI_0, bI_1, bF, Bool.not_eq_false, Bool.not_eq_true, Bool.and_true, Bool.true_and, Bool.and_false, Bool.false_and, Bool.true_or, Bool.or_true, Bool.or_false, Bool.false_or, Bool.not_true, Bool.not_false, decide_true, decide_false, not_true_eq_false, not_false_eq_true, eq_self, Bool.true_eq_false, Bool.false_eq_true]
    · have y := C_5 (X := X) (d := d + 7) (P := P) (x := x) (L := []) (Or.inl rfl) h (by simp)
      refine ⟨false, ?_⟩
      unfold actV actL
      simp +decide only [b25, n10, RDc, y, B151_81, B151_113, r4, bI_f, B151_130, Option.bind_some, List.append_nil, List.nil_append, List.cons_append, cond_true, cond_false, if_true, if_false, ite_true, ite_false, reduceIte, IC, bI_0, bI_1, bF, Bool.not_eq_false, Bool.not_eq_true, Bool.and_true, Bool.true_and, Bool.and_false, Bool.false_and, Bool.true_or, Bool.or_true, Bool.or_false, Bool.false_or, Bool.not_true, Bool.not_false, decide_true, decide_false, not_true_eq_false, not_false_eq_true, eq_self, Bool.true_eq_false, Bool.false_eq_true]
    · have y := C_283 (X := X) (d := d + 9) (P := P) (x := x) (L := []) h (by simp)
      refine ⟨decide (a = n), ?_⟩
      unfold actV actL
      by_cases e : a = n
      · simp only [e, Option.bind_some, List.append_nil, List.nil_append, List.cons_append, cond_true, cond_false, if_true, if_false, ite_true, ite_false, reduceIte, IC, bI_0, bI_1, bF, Bool.not_eq_false, Bool.not_eq_true, Bool.and_true, Bool.true_and, Bool.and_false, Bool.false_and, Bool.true_or, Bool.or_true, Bool.or_false, Bool.false_or, Bool.not_true, Bool.not_false, decide_true, decide_false, not_true_eq_false, not_false_eq_true, eq_self, Bool.true_eq_false, Bool.false_eq_true] at y
        unfold shaV shaB
        simp +decide only [b25, n10, RDc, y, B151_96, B151_113, r4, bI_t, B151_130, e, Option.bind_some, List.append_nil, List.nil_append, List.cons_append, cond_true, cond_false, if_true, if_false, ite_true, ite_false, reduceIte, IC, bI_0, bI_1, bF, Bool.not_eq_false, Bool.not_eq_true, Bool.and_true, Bool.true_and, Bool.and_false, Bool.false_and, Bool.true_or, Bool.or_true, Bool.or_false, Bool.false_or, Bool.not_true, Bool.not_false, decide_true, decide_false, not_true_eq_false, not_false_eq_true, eq_self, Bool.true_eq_false, Bool.false_eq_true]
      · simp only [e, Option.bind_some, List.append_nil, List.nil_append, List.cons_append, cond_true, cond_false, if_true, if_false, ite_true, ite_false, reduceIte, IC, bI_0, bI_1, bF, Bool.not_eq_false, Bool.not_eq_true, Bool.and_true, Bool.true_and, Bool.and_false, Bool.false_and, Bool.true_or, Bool.or_true, Bool.or_false, Bool.false_or, Bool.not_true, Bool.not_false, decide_true, decide_false, not_true_eq_false, not_false_eq_true, eq_self, Bool.true_eq_false, Bool.false_eq_true] at y
        unfold shaV shaB
        simp +decide only [b25, n10, RDc, y, B151_96, B151_113, r4, bI_f, B151_130, e, Option.bind_some, List.append_nil, List.nil_append, List.cons_append, cond_true, cond_false, if_true, if_false, ite_true, ite_false, reduceIte, IC, bI_0, bI_1, bF, Bool.not_eq_false, Bool.not_eq_true, Bool.and_true, Bool.true_and, Bool.and_false, Bool.false_and, Bool.true_or, Bool.or_true, Bool.or_false, Bool.false_or, Bool.not_true, Bool.not_false, decide_true, decide_false, not_true_eq_false, not_false_eq_true, eq_self, Bool.true_eq_false, Bool.false_eq_true]
    · have y := C_284 (X := X) (d := d + 6) (P := P) (x := x) (L := []) hk h (by simp)
      refine ⟨false, ?_⟩
      unfold actV actL telV telB
      simp +decide only [b25, n10, RDc, y, B151_111, B151_113, r4, bI_f, B151_130, Option.bind_some, List.append_nil, List.nil_append, List.cons_append, cond_true, cond_false, if_true, if_false, ite_true, ite_false, reduceIte, IC, bI_0, bI_1, bF, Bool.not_eq_false, Bool.not_eq_true, Bool.and_true, Bool.true_and, Bool.and_false, Bool.false_and, Bool.true_or, Bool.or_true, Bool.or_false, Bool.false_or, Bool.not_true, Bool.not_false, decide_true, decide_false, not_true_eq_false, not_false_eq_true, eq_self, Bool.true_eq_false, Bool.false_eq_true]
  · have b25 := fun I (u : Int32) => B151_25_7 (X := X) (d := d + 11) (l0 := 0) (l1 := v) (l2 := u) (l3 := x) (s0 := 1) (hc I)
    rcases bt03c hw with rfl | rfl | rfl | rfl
    · have y := C_98 (X := X) (d := d + 9) (P := P) (x := x) (L := []) h (by simp)
      refine ⟨false, ?_⟩
      unfold actV actL
      simp +decide only [b25, n10, RDc, y, B151_66, B151_113, r4, bI_f, B151_130, Option.bind_some, List.append_nil, List.nil_append, List.cons_append, cond_true, cond_false, if_true, if_false, ite_true, ite_false, reduceIte, IC, bI_0, bI_1, bF, Bool.not_eq_false, Bool.not_eq_true, Bool.and_true, Bool.true_and, Bool.and_false, Bool.false_and, Bool.true_or, Bool.or_true, Bool.or_false, Bool.false_or, Bool.not_true, Bool.not_false, decide_true, decide_false, not_true_eq_false, not_false_eq_true, eq_self, Bool.true_eq_false, Bool.false_eq_true]
    · have y := C_5 (X := X) (d := d + 7) (P := P) (x := x) (L := []) (Or.inr rfl) h (by simp)
      refine ⟨false, ?_⟩
      unfold actV actL
      simp +decide only [b25, n10, RDc, y, B151_81, B151_113, r4, bI_f, B151_130, Option.bind_some, List.append_nil, List.nil_append, List.cons_append, cond_true, cond_false, if_true, if_false, ite_true, ite_false, reduceIte, IC, bI_0, bI_1, bF, Bool.not_eq_false, Bool.not_eq_true, Bool.and_true, Bool.true_and, Bool.and_false, Bool.false_and, Bool.true_or, Bool.or_true, Bool.or_false, Bool.false_or, Bool.not_true, Bool.not_false, decide_true, decide_false, not_true_eq_false, not_false_eq_true, eq_self, Bool.true_eq_false, Bool.false_eq_true]
    · have y := C_283 (X := X) (d := d + 9) (P := P) (x := x) (L := []) h (by simp)
      refine ⟨decide (a = n), ?_⟩
      unfold actV actL
      by_cases e : a = n
      · simp only [e, Option.bind_some, List.append_nil, List.nil_append, List.cons_append, cond_true, cond_false, if_true, if_false, ite_true, ite_false, reduceIte, IC, bI_0, bI_1, bF, Bool.not_eq_false, Bool.not_eq_true, Bool.and_true, Bool.true_and, Bool.and_false, Bool.false_and, Bool.true_or, Bool.or_true, Bool.or_false, Bool.false_or, Bool.not_true, Bool.not_false, decide_true, decide_false, not_true_eq_false, not_false_eq_true, eq_self, Bool.true_eq_false, Bool.false_eq_true] at y
        unfold shaV shaB
        simp +decide only [b25, n10, RDc, y, B151_96, B151_113, r4, bI_t, B151_130, e, Option.bind_some, List.append_nil, List.nil_append, List.cons_append, cond_true, cond_false, if_true, if_false, ite_true, ite_false, reduceIte, IC, bI_0, bI_1, bF, Bool.not_eq_false, Bool.not_eq_true, Bool.and_true, Bool.true_and, Bool.and_false, Bool.false_and, Bool.true_or, Bool.or_true, Bool.or_false, Bool.false_or, Bool.not_true, Bool.not_false, decide_true, decide_false, not_true_eq_false, not_false_eq_true, eq_self, Bool.true_eq_false, Bool.false_eq_true]
      · simp only [e, Option.bind_some, List.append_nil, List.nil_append, List.cons_append, cond_true, cond_false, if_true, if_false, ite_true, ite_false, reduceIte, IC, bI_0, bI_1, bF, Bool.not_eq_false, Bool.not_eq_true, Bool.and_true, Bool.true_and, Bool.and_false, Bool.false_and, Bool.true_or, Bool.or_true, Bool.or_false, Bool.false_or, Bool.not_true, Bool.not_false, decide_true, decide_false, not_true_eq_false, not_false_eq_true, eq_self, Bool.true_eq_false, Bool.false_eq_true] at y
        unfold shaV shaB
        simp +decide only [b25, n10, RDc, y, B151_96, B151_113, r4, bI_f, B151_130, e, Option.bind_some, List.append_nil, List.nil_append, List.cons_append, cond_true, cond_false, if_true, if_false, ite_true, ite_false, reduceIte, IC, bI_0, bI_1, bF, Bool.not_eq_false, Bool.not_eq_true, Bool.and_true, Bool.true_and, Bool.and_false, Bool.false_and, Bool.true_or, Bool.or_true, Bool.or_false, Bool.false_or, Bool.not_true, Bool.not_false, decide_true, decide_false, not_true_eq_false, not_false_eq_true, eq_self, Bool.true_eq_false, Bool.false_eq_true]
    · have y := C_99 (X := X) (d := d + 5) (P := P) (x := x) h
      refine ⟨decide (a = n), ?_⟩
      unfold actV actL
      by_cases e : a = n
      · simp only [e, Option.bind_some, List.append_nil, List.nil_append, List.cons_append, cond_true, cond_false, if_true, if_false, ite_true, ite_false, reduceIte, IC, bI_0, bI_1, bF, Bool.not_eq_false, Bool.not_eq_true, Bool.and_true, Bool.true_and, Bool.and_false, Bool.false_and, Bool.true_or, Bool.or_true, Bool.or_false, Bool.false_or, Bool.not_true, Bool.not_false, decide_true, decide_false, not_true_eq_false, not_false_eq_true, eq_self, Bool.true_eq_false, Bool.false_eq_true] at y
        simp +decide only [b25, n10, RDc, y, B151_111, B151_113, r4, bI_t, B151_130, e, Option.bind_some, List.append_nil, List.nil_append, List.cons_append, cond_true, cond_false, if_true, if_false, ite_true, ite_false, reduceIte, IC, bI_0, bI_1, bF, Bool.not_eq_false, Bool.not_eq_true, Bool.and_true, Bool.true_and, Bool.and_false, Bool.false_and, Bool.true_or, Bool.or_true, Bool.or_false, Bool.false_or, Bool.not_true, Bool.not_false, decide_true, decide_false, not_true_eq_false, not_false_eq_true, eq_self, Bool.true_eq_false, Bool.false_eq_true]
      · simp only [e, Option.bind_some, List.append_nil, List.nil_append, List.cons_append, cond_true, cond_false, if_true, if_false, ite_true, ite_false, reduceIte, IC, bI_0, bI_1, bF, Bool.not_eq_false, Bool.not_eq_true, Bool.and_true, Bool.true_and, Bool.and_false, Bool.false_and, Bool.true_or, Bool.or_true, Bool.or_false, Bool.false_or, Bool.not_true, Bool.not_false, decide_true, decide_false, not_true_eq_false, not_false_eq_true, eq_self, Bool.true_eq_false, Bool.false_eq_true] at y
        unfold telV
        simp +decide only [b25, n10, RDc, y, B151_111, B151_113, r4, bI_f, B151_130, e, Option.bind_some, List.append_nil, List.nil_append, List.cons_append, cond_true, cond_false, if_true, if_false, ite_true, ite_false, reduceIte, IC, bI_0, bI_1, bF, Bool.not_eq_false, Bool.not_eq_true, Bool.and_true, Bool.true_and, Bool.and_false, Bool.false_and, Bool.true_or, Bool.or_true, Bool.or_false, Bool.false_or, Bool.not_true, Bool.not_false, decide_true, decide_false, not_true_eq_false, not_false_eq_true, eq_self, Bool.true_eq_false, Bool.false_eq_true]
  · have b25 := fun I (u : Int32) => B151_25_0 (X := X) (d := d + 11) (l0 := 0) (l1 := v) (l2 := u) (l3 := x) (s0 := 1) (hc I)
    rcases bt03c hw with rfl | rfl | rfl | rfl
    · have y := C_281 (X := X) (d := d + 10) (P := P) (x := x) (L := []) h (by simp)
      refine ⟨false, ?_⟩
      unfold actV actL
      unfold sayV sayB
      simp +decide only [b25, n10, RDc, y, B151_66, B151_113, r4, bI_f, B151_130, Option.bind_some, List.append_nil, List.nil_append, List.cons_append, cond_true, cond_false, if_true, if_false, ite_true, ite_false, reduceIte, IC, bI_0, bI_1, bF, Bool.not_eq_false, Bool.not_eq_true, Bool.and_true, Bool.true_and, Bool.and_false, Bool.false_and, Bool.true_or, Bool.or_true, Bool.or_false, Bool.false_or, Bool.not_true, Bool.not_false, decide_true, decide_false, not_true_eq_false, not_false_eq_true, eq_self, Bool.true_eq_false, Bool.false_eq_true]
    · have y := C_282 (X := X) (d := d + 8) (P := P) (x := x) (L := []) hk h (by simp)
      refine ⟨false, ?_⟩
      unfold actV actL
      unfold swaV swaB
      simp +decide only [b25, n10, RDc, y, B151_81, B151_113, r4, bI_f, B151_130, Option.bind_some, List.append_nil, List.nil_append, List.cons_append, cond_true, cond_false, if_true, if_false, ite_true, ite_false, reduceIte, IC, bI_0, bI_1, bF, Bool.not_eq_false, Bool.not_eq_true, Bool.and_true, Bool.true_and, Bool.and_false, Bool.false_and, Bool.true_or, Bool.or_true, Bool.or_false, Bool.false_or, Bool.not_true, Bool.not_false, decide_true, decide_false, not_true_eq_false, not_false_eq_true, eq_self, Bool.true_eq_false, Bool.false_eq_true]
    · have y := C_2 (X := X) (d := d + 8) (P := P) (x := x) (L := []) (Or.inl rfl) h (by simp)
      refine ⟨decide (a = n), ?_⟩
      unfold actV actL
      by_cases e : a = n
      · simp only [e, Option.bind_some, List.append_nil, List.nil_append, List.cons_append, cond_true, cond_false, if_true, if_false, ite_true, ite_false, reduceIte, IC, bI_0, bI_1, bF, Bool.not_eq_false, Bool.not_eq_true, Bool.and_true, Bool.true_and, Bool.and_false, Bool.false_and, Bool.true_or, Bool.or_true, Bool.or_false, Bool.false_or, Bool.not_true, Bool.not_false, decide_true, decide_false, not_true_eq_false, not_false_eq_true, eq_self, Bool.true_eq_false, Bool.false_eq_true] at y
        unfold shaV shaB
        simp +decide only [b25, n10, RDc, y, B151_96, B151_113, r4, bI_t, B151_130, e, Option.bind_some, List.append_nil, List.nil_append, List.cons_append, cond_true, cond_false, if_true, if_false, ite_true, ite_false, reduceIte, IC, bI_0, bI_1, bF, Bool.not_eq_false, Bool.not_eq_true, Bool.and_true, Bool.true_and, Bool.and_false, Bool.false_and, Bool.true_or, Bool.or_true, Bool.or_false, Bool.false_or, Bool.not_true, Bool.not_false, decide_true, decide_false, not_true_eq_false, not_false_eq_true, eq_self, Bool.true_eq_false, Bool.false_eq_true]
      · simp only [e, Option.bind_some, List.append_nil, List.nil_append, List.cons_append, cond_true, cond_false, if_true, if_false, ite_true, ite_false, reduceIte, IC, bI_0, bI_1, bF, Bool.not_eq_false, Bool.not_eq_true, Bool.and_true, Bool.true_and, Bool.and_false, Bool.false_and, Bool.true_or, Bool.or_true, Bool.or_false, Bool.false_or, Bool.not_true, Bool.not_false, decide_true, decide_false, not_true_eq_false, not_false_eq_true, eq_self, Bool.true_eq_false, Bool.false_eq_true] at y
        unfold shaV shaB
        simp +decide only [b25, n10, RDc, y, B151_96, B151_113, r4, bI_f, B151_130, e, Option.bind_some, List.append_nil, List.nil_append, List.cons_append, cond_true, cond_false, if_true, if_false, ite_true, ite_false, reduceIte, IC, bI_0, bI_1, bF, Bool.not_eq_false, Bool.not_eq_true, Bool.and_true, Bool.true_and, Bool.and_false, Bool.false_and, Bool.true_or, Bool.or_true, Bool.or_false, Bool.false_or, Bool.not_true, Bool.not_false, decide_true, decide_false, not_true_eq_false, not_false_eq_true, eq_self, Bool.true_eq_false, Bool.false_eq_true]
    · have y := C_284 (X := X) (d := d + 6) (P := P) (x := x) (L := []) hk h (by simp)
      refine ⟨false, ?_⟩
      unfold actV actL telV telB
      simp +decide only [b25, n10, RDc, y, B151_111, B151_113, r4, bI_f, B151_130, Option.bind_some, List.append_nil, List.nil_append, List.cons_append, cond_true, cond_false, if_true, if_false, ite_true, ite_false, reduceIte, IC, bI_0, bI_1, bF, Bool.not_eq_false, Bool.not_eq_true, Bool.and_true, Bool.true_and, Bool.and_false, Bool.false_and, Bool.true_or, Bool.or_true, Bool.or_false, Bool.false_or, Bool.not_true, Bool.not_false, decide_true, decide_false, not_true_eq_false, not_false_eq_true, eq_self, Bool.true_eq_false, Bool.false_eq_true]
  · have b25 := fun I (u : Int32) => B151_25_9 (X := X) (d := d + 11) (l0 := 0) (l1 := v) (l2 := u) (l3 := x) (s0 := 1) (hc I)
    rcases bt03c hw with rfl | rfl | rfl | rfl
    · have y := C_281 (X := X) (d := d + 10) (P := P) (x := x) (L := []) h (by simp)
      refine ⟨false, ?_⟩
      unfold actV actL
      unfold sayV sayB
      simp +decide only [b25, n10, RDc, y, B151_66, B151_113, r4, bI_f, B151_130, Option.bind_some, List.append_nil, List.nil_append, List.cons_append, cond_true, cond_false, if_true, if_false, ite_true, ite_false, reduceIte, IC, bI_0, bI_1, bF, Bool.not_eq_false, Bool.not_eq_true, Bool.and_true, Bool.true_and, Bool.and_false, Bool.false_and, Bool.true_or, Bool.or_true, Bool.or_false, Bool.false_or, Bool.not_true, Bool.not_false, decide_true, decide_false, not_true_eq_false, not_false_eq_true, eq_self, Bool.true_eq_false, Bool.false_eq_true]
    · have y := C_105 (X := X) (d := d + 7) (P := P) (x := x) (L := []) h (by simp)
      refine ⟨false, ?_⟩
      unfold actV actL
      simp +decide only [b25, n10, RDc, y, B151_81, B151_113, r4, bI_f, B151_130, Option.bind_some, List.append_nil, List.nil_append, List.cons_append, cond_true, cond_false, if_true, if_false, ite_true, ite_false, reduceIte, IC, bI_0, bI_1, bF, Bool.not_eq_false, Bool.not_eq_true, Bool.and_true, Bool.true_and, Bool.and_false, Bool.false_and, Bool.true_or, Bool.or_true, Bool.or_false, Bool.false_or, Bool.not_true, Bool.not_false, decide_true, decide_false, not_true_eq_false, not_false_eq_true, eq_self, Bool.true_eq_false, Bool.false_eq_true]
    · have y := C_106 (X := X) (d := d + 7) (P := P) (x := x) (L := []) h (by simp)
      refine ⟨decide (a = n), ?_⟩
      unfold actV actL
      by_cases e : a = n
      · simp only [e, Option.bind_some, List.append_nil, List.nil_append, List.cons_append, cond_true, cond_false, if_true, if_false, ite_true, ite_false, reduceIte, IC, bI_0, bI_1, bF, Bool.not_eq_false, Bool.not_eq_true, Bool.and_true, Bool.true_and, Bool.and_false, Bool.false_and, Bool.true_or, Bool.or_true, Bool.or_false, Bool.false_or, Bool.not_true, Bool.not_false, decide_true, decide_false, not_true_eq_false, not_false_eq_true, eq_self, Bool.true_eq_false, Bool.false_eq_true] at y
        simp +decide only [b25, n10, RDc, y, B151_96, B151_113, r4, bI_t, B151_130, e, Option.bind_some, List.append_nil, List.nil_append, List.cons_append, cond_true, cond_false, if_true, if_false, ite_true, ite_false, reduceIte, IC, bI_0, bI_1, bF, Bool.not_eq_false, Bool.not_eq_true, Bool.and_true, Bool.true_and, Bool.and_false, Bool.false_and, Bool.true_or, Bool.or_true, Bool.or_false, Bool.false_or, Bool.not_true, Bool.not_false, decide_true, decide_false, not_true_eq_false, not_false_eq_true, eq_self, Bool.true_eq_false, Bool.false_eq_true]
      · simp only [e, Option.bind_some, List.append_nil, List.nil_append, List.cons_append, cond_true, cond_false, if_true, if_false, ite_true, ite_false, reduceIte, IC, bI_0, bI_1, bF, Bool.not_eq_false, Bool.not_eq_true, Bool.and_true, Bool.true_and, Bool.and_false, Bool.false_and, Bool.true_or, Bool.or_true, Bool.or_false, Bool.false_or, Bool.not_true, Bool.not_false, decide_true, decide_false, not_true_eq_false, not_false_eq_true, eq_self, Bool.true_eq_false, Bool.false_eq_true] at y
        simp +decide only [b25, n10, RDc, y, B151_96, B151_113, r4, bI_f, B151_130, e, Option.bind_some, List.append_nil, List.nil_append, List.cons_append, cond_true, cond_false, if_true, if_false, ite_true, ite_false, reduceIte, IC, bI_0, bI_1, bF, Bool.not_eq_false, Bool.not_eq_true, Bool.and_true, Bool.true_and, Bool.and_false, Bool.false_and, Bool.true_or, Bool.or_true, Bool.or_false, Bool.false_or, Bool.not_true, Bool.not_false, decide_true, decide_false, not_true_eq_false, not_false_eq_true, eq_self, Bool.true_eq_false, Bool.false_eq_true]
    · have y := C_284 (X := X) (d := d + 6) (P := P) (x := x) (L := []) hk h (by simp)
      refine ⟨false, ?_⟩
      unfold actV actL telV telB
      simp +decide only [b25, n10, RDc, y, B151_111, B151_113, r4, bI_f, B151_130, Option.bind_some, List.append_nil, List.nil_append, List.cons_append, cond_true, cond_false, if_true, if_false, ite_true, ite_false, reduceIte, IC, bI_0, bI_1, bF, Bool.not_eq_false, Bool.not_eq_true, Bool.and_true, Bool.true_and, Bool.and_false, Bool.false_and, Bool.true_or, Bool.or_true, Bool.or_false, Bool.false_or, Bool.not_true, Bool.not_false, decide_true, decide_false, not_true_eq_false, not_false_eq_true, eq_self, Bool.true_eq_false, Bool.false_eq_true]
theorem N_act (gd : Gd s m) (hr : RideR s D I P N 1 ra) : ∃ I', Rn X (d + 40) 151 0 [.ref 0, .int v, .int w, .int x, U_, U_] [] (Mh D I P N) = some ([.int (atO s (bt v 0 3 && (decide (I 62 v.toNatClampNeg = -2) && isA s (I 63 v.toNatClampNeg))) (I 63 v.toNatClampNeg) w x).1], Mh D I' P N)
    ∧ acF I I' (atO s (bt v 0 3 && (decide (I 62 v.toNatClampNeg = -2) && isA s (I 63 v.toNatClampNeg))) (I 63 v.toNatClampNeg) w x).2 := by
  generalize hJ : u2 (u2 I 54 6 0) 54 7 0 = J1
  have j62 : J1 62 = I 62 := by rw [← hJ]; rfl
  have j63 : J1 63 = I 63 := by rw [← hJ]; rfl
  have jo : ∀ c, c ≠ 54 → J1 c = I c := fun c hc => by rw [← hJ, u2_o hc, u2_o hc]
  have j0 : actC J1 [] false = J1 := actC_0 (by rw [← hJ]; rfl) (by rw [← hJ]; rfl)
  have hr1 : RideR s D J1 P N 1 ra := hr.of (jo _ (by decide)) (jo _ (by decide)) (jo _ (by decide)) (jo _ (by decide)) (jo _ (by decide)) (fun j hj => jo _ (by have := (hr.2.2.2.1 j hj).2.1.1; omega)) (fun q hq _ j hj => jo _ (by have := hq.1; omega))
  have ht := C_thg (X := X) (d := d + 37) (a := v) gd hr1
  have b0 : Rn X (d + 39) 23 0 [.ref 54] [] (Mh D I P N) = some ([], Mh D J1 P N) := by rw [← hJ]; simp only [B23_0, WRc, Option.bind_some, List.append_nil, List.nil_append, List.cons_append, cond_true, cond_false, if_true, if_false, ite_true, ite_false, reduceIte, IC, bI_0, bI_1, bF, Bool.not_eq_false, Bool.not_eq_true, Bool.and_true, Bool.true_and, Bool.and_false, Bool.false_and, Bool.true_or, Bool.or_true, Bool.or_false, Bool.false_or, Bool.not_true, Bool.not_false, decide_true, decide_false, not_true_eq_false, not_false_eq_true, eq_self, Bool.true_eq_false, Bool.false_eq_true]
  simp only [B151_0, RDc, IC, b0, Option.bind_some, List.append_nil, List.nil_append, List.cons_append, cond_true, cond_false, if_true, if_false, ite_true, ite_false, reduceIte, IC, bI_0, bI_1, bF, Bool.not_eq_false, Bool.not_eq_true, Bool.and_true, Bool.true_and, Bool.and_false, Bool.false_and, Bool.true_or, Bool.or_true, Bool.or_false, Bool.false_or, Bool.not_true, Bool.not_false, decide_true, decide_false, not_true_eq_false, not_false_eq_true, eq_self, Bool.true_eq_false, Bool.false_eq_true, B151_7, ht, B151_12]
  unfold thgO ansO
  rw [j62, j63]
  have z0 : acF I J1 [] := by
    have := actC_F (L := []) (pt := false) jo
    rw [j0] at this; exact this
  unfold atO
  cases h1 : bt v 0 3 && (decide (I 62 v.toNatClampNeg = -2) && isA s (I 63 v.toNatClampNeg)) with
  | false =>
    refine ⟨J1, ?_, z0⟩
    cases q1 : bt v 0 3 with
    | false => simp only [Option.bind_some, List.append_nil, List.nil_append, List.cons_append, cond_true, cond_false, if_true, if_false, ite_true, ite_false, reduceIte, IC, bI_0, bI_1, bF, Bool.not_eq_false, Bool.not_eq_true, Bool.and_true, Bool.true_and, Bool.and_false, Bool.false_and, Bool.true_or, Bool.or_true, Bool.or_false, Bool.false_or, Bool.not_true, Bool.not_false, decide_true, decide_false, not_true_eq_false, not_false_eq_true, eq_self, Bool.true_eq_false, Bool.false_eq_true, oc_none, B151_28]
    | true =>
      cases q2 : decide (I 62 v.toNatClampNeg = -2) with
      | false => simp only [Option.bind_some, List.append_nil, List.nil_append, List.cons_append, cond_true, cond_false, if_true, if_false, ite_true, ite_false, reduceIte, IC, bI_0, bI_1, bF, Bool.not_eq_false, Bool.not_eq_true, Bool.and_true, Bool.true_and, Bool.and_false, Bool.false_and, Bool.true_or, Bool.or_true, Bool.or_false, Bool.false_or, Bool.not_true, Bool.not_false, decide_true, decide_false, not_true_eq_false, not_false_eq_true, eq_self, Bool.true_eq_false, Bool.false_eq_true, oc_none, B151_28]
      | true =>
        cases q3 : isA s (I 63 v.toNatClampNeg) with
        | false => simp only [Option.bind_some, List.append_nil, List.nil_append, List.cons_append, cond_true, cond_false, if_true, if_false, ite_true, ite_false, reduceIte, IC, bI_0, bI_1, bF, Bool.not_eq_false, Bool.not_eq_true, Bool.and_true, Bool.true_and, Bool.and_false, Bool.false_and, Bool.true_or, Bool.or_true, Bool.or_false, Bool.false_or, Bool.not_true, Bool.not_false, decide_true, decide_false, not_true_eq_false, not_false_eq_true, eq_self, Bool.true_eq_false, Bool.false_eq_true, oc_none, B151_28]
        | true => rw [q1, q2, q3] at h1; cases h1
  | true =>
    simp only [Bool.and_eq_true] at h1
    obtain ⟨q1, q2, q3⟩ := h1
    obtain ⟨i, hi, hx⟩ := isA_nat gd q3
    have h9 := gd.a hi
    have e0 : (I 63 v.toNatClampNeg).toNatClampNeg = i := by rw [hx, iN_cl (by omega)]
    have hO := (hr1.2.2.2.1 i hi).2
    have hC : acC D J1 N (ra i) (s (7 + 5 * i)) (s (7 + 5 * i + 1)) (Int32.ofNat i) := ⟨hO.1, hO.2.2.2.1, hO.2.2.1⟩
    have hk := (gd.2.1 i hi).1
    simp only [q1, q2, q3, Option.bind_some, List.append_nil, List.nil_append, List.cons_append, cond_true, cond_false, if_true, if_false, ite_true, ite_false, reduceIte, IC, bI_0, bI_1, bF, Bool.not_eq_false, Bool.not_eq_true, Bool.and_true, Bool.true_and, Bool.and_false, Bool.false_and, Bool.true_or, Bool.or_true, Bool.or_false, Bool.false_or, Bool.not_true, Bool.not_false, decide_true, decide_false, not_true_eq_false, not_false_eq_true, eq_self, Bool.true_eq_false, Bool.false_eq_true, e0, oc_some, C_btw, L32]
    cases hw : bt w 0 3 with
    | false =>
      refine ⟨J1, ?_, z0⟩
      have hc := (hC.rd (P := P)).2.2 J1
      rcases k5 hk with e | e | e | e | e
      · rw [e] at hc
        have b25 := B151_25_8 (X := X) (d := d + 39) (l0 := 0) (l1 := v) (l2 := w) (l3 := x) (s0 := 0) hc
        simp only [Option.bind_some, List.append_nil, List.nil_append, List.cons_append, cond_true, cond_false, if_true, if_false, ite_true, ite_false, reduceIte, IC, bI_0, bI_1, bF, Bool.not_eq_false, Bool.not_eq_true, Bool.and_true, Bool.true_and, Bool.and_false, Bool.false_and, Bool.true_or, Bool.or_true, Bool.or_false, Bool.false_or, Bool.not_true, Bool.not_false, decide_true, decide_false, not_true_eq_false, not_false_eq_true, eq_self, Bool.true_eq_false, Bool.false_eq_true] at b25 ⊢
        exact b25.trans B151_28
      · rw [e] at hc
        have b25 := B151_25_1 (X := X) (d := d + 39) (l0 := 0) (l1 := v) (l2 := w) (l3 := x) (s0 := 0) hc
        simp only [Option.bind_some, List.append_nil, List.nil_append, List.cons_append, cond_true, cond_false, if_true, if_false, ite_true, ite_false, reduceIte, IC, bI_0, bI_1, bF, Bool.not_eq_false, Bool.not_eq_true, Bool.and_true, Bool.true_and, Bool.and_false, Bool.false_and, Bool.true_or, Bool.or_true, Bool.or_false, Bool.false_or, Bool.not_true, Bool.not_false, decide_true, decide_false, not_true_eq_false, not_false_eq_true, eq_self, Bool.true_eq_false, Bool.false_eq_true] at b25 ⊢
        exact b25.trans B151_28
      · rw [e] at hc
        have b25 := B151_25_7 (X := X) (d := d + 39) (l0 := 0) (l1 := v) (l2 := w) (l3 := x) (s0 := 0) hc
        simp only [Option.bind_some, List.append_nil, List.nil_append, List.cons_append, cond_true, cond_false, if_true, if_false, ite_true, ite_false, reduceIte, IC, bI_0, bI_1, bF, Bool.not_eq_false, Bool.not_eq_true, Bool.and_true, Bool.true_and, Bool.and_false, Bool.false_and, Bool.true_or, Bool.or_true, Bool.or_false, Bool.false_or, Bool.not_true, Bool.not_false, decide_true, decide_false, not_true_eq_false, not_false_eq_true, eq_self, Bool.true_eq_false, Bool.false_eq_true] at b25 ⊢
        exact b25.trans B151_28
      · rw [e] at hc
        have b25 := B151_25_0 (X := X) (d := d + 39) (l0 := 0) (l1 := v) (l2 := w) (l3 := x) (s0 := 0) hc
        simp only [Option.bind_some, List.append_nil, List.nil_append, List.cons_append, cond_true, cond_false, if_true, if_false, ite_true, ite_false, reduceIte, IC, bI_0, bI_1, bF, Bool.not_eq_false, Bool.not_eq_true, Bool.and_true, Bool.true_and, Bool.and_false, Bool.false_and, Bool.true_or, Bool.or_true, Bool.or_false, Bool.false_or, Bool.not_true, Bool.not_false, decide_true, decide_false, not_true_eq_false, not_false_eq_true, eq_self, Bool.true_eq_false, Bool.false_eq_true] at b25 ⊢
        exact b25.trans B151_28
      · rw [e] at hc
        have b25 := B151_25_9 (X := X) (d := d + 39) (l0 := 0) (l1 := v) (l2 := w) (l3 := x) (s0 := 0) hc
        simp only [Option.bind_some, List.append_nil, List.nil_append, List.cons_append, cond_true, cond_false, if_true, if_false, ite_true, ite_false, reduceIte, IC, bI_0, bI_1, bF, Bool.not_eq_false, Bool.not_eq_true, Bool.and_true, Bool.true_and, Bool.and_false, Bool.false_and, Bool.true_or, Bool.or_true, Bool.or_false, Bool.false_or, Bool.not_true, Bool.not_false, decide_true, decide_false, not_true_eq_false, not_false_eq_true, eq_self, Bool.true_eq_false, Bool.false_eq_true] at b25 ⊢
        exact b25.trans B151_28
    | true =>
      obtain ⟨b, e⟩ := C_ac (X := X) (d := d + 28) (P := P) (v := v) (x := x) hk hw hC
      rw [j0] at e
      refine ⟨_, ?_, actC_F (pt := b) jo⟩
      simp only [Option.bind_some, List.append_nil, List.nil_append, List.cons_append, cond_true, cond_false, if_true, if_false, ite_true, ite_false, reduceIte, IC, bI_0, bI_1, bF, Bool.not_eq_false, Bool.not_eq_true, Bool.and_true, Bool.true_and, Bool.and_false, Bool.false_and, Bool.true_or, Bool.or_true, Bool.or_false, Bool.false_or, Bool.not_true, Bool.not_false, decide_true, decide_false, not_true_eq_false, not_false_eq_true, eq_self, Bool.true_eq_false, Bool.false_eq_true, hx]
      exact e
theorem F_trc {n : Nat} (h : I 65 27 = Int32.ofNat n) (hn : n ≤ 30) : Rn X (d + 40) 274 0 [.ref 65, .int x] [] (Mh D I P N) = some ([.int (if bt x 0 ((n : Int) - 1) = true then I 79 x.toNatClampNeg else -3)], Mh D I P N) := by
  have e0 : 0 ≤ (Int32.ofNat n).toInt := by rw [iN_ti (by omega)]; omega
  have e := t_m1 e0
  rw [iN_ti (by omega)] at e
  have e30 : (30 : Int32) ≤ Int32.ofNat n → Int32.ofNat n = 30 := fun q => by
    rw [show (30 : Int32) = Int32.ofNat 30 from rfl, iN_le (by decide) (by omega)] at q
    rw [show n = 30 by omega]; rfl
  have b : Rn X (d + 39) 273 0 [.ref 65] [] (Mh D I P N) = some ([.int (Int32.ofNat n)], Mh D I P N) := by
    simp only [B273_0, B273_18, RDm, Option.bind_some, List.append_nil, List.nil_append, List.cons_append, cond_true, cond_false, if_true, if_false, ite_true, ite_false, reduceIte, IC, bI_0, bI_1, bF, Bool.not_eq_false, Bool.not_eq_true, Bool.and_true, Bool.true_and, Bool.and_false, Bool.false_and, Bool.true_or, Bool.or_true, Bool.or_false, Bool.false_or, Bool.not_true, Bool.not_false, decide_true, decide_false, not_true_eq_false, not_false_eq_true, eq_self, Bool.true_eq_false, Bool.false_eq_true, h]
    by_cases q : (30 : Int32) ≤ Int32.ofNat n
    · rw [if_pos q, e30 q]
    · rw [if_neg q]
  simp only [B274_0, IC, b, Option.bind_some, List.append_nil, List.nil_append, List.cons_append, cond_true, cond_false, if_true, if_false, ite_true, ite_false, reduceIte, IC, bI_0, bI_1, bF, Bool.not_eq_false, Bool.not_eq_true, Bool.and_true, Bool.true_and, Bool.and_false, Bool.false_and, Bool.true_or, Bool.or_true, Bool.or_false, Bool.false_or, Bool.not_true, Bool.not_false, decide_true, decide_false, not_true_eq_false, not_false_eq_true, eq_self, Bool.true_eq_false, Bool.false_eq_true, B274_7, M_bt, L64, Int32.toInt_toInt64, e, B274_13]
  cases hb : bt x 0 ((n : Int) - 1) with
  | false => simp only [Option.bind_some, List.append_nil, List.nil_append, List.cons_append, cond_true, cond_false, if_true, if_false, ite_true, ite_false, reduceIte, IC, bI_0, bI_1, bF, Bool.not_eq_false, Bool.not_eq_true, Bool.and_true, Bool.true_and, Bool.and_false, Bool.false_and, Bool.true_or, Bool.or_true, Bool.or_false, Bool.false_or, Bool.not_true, Bool.not_false, decide_true, decide_false, not_true_eq_false, not_false_eq_true, eq_self, Bool.true_eq_false, Bool.false_eq_true, B274_27]
  | true =>
    have hb2 := bt_iff.mp hb
    have c1 : x = Int32.ofNat x.toNatClampNeg := iN_of (by omega)
    have c2 := cl_ti (x := x) (by omega)
    have r := rr79 (D := D) (I := I) (P := P) (N := N) (j := x.toNatClampNeg) (by omega)
    rw [← c1] at r
    simp only [Option.bind_some, List.append_nil, List.nil_append, List.cons_append, cond_true, cond_false, if_true, if_false, ite_true, ite_false, reduceIte, IC, bI_0, bI_1, bF, Bool.not_eq_false, Bool.not_eq_true, Bool.and_true, Bool.true_and, Bool.and_false, Bool.false_and, Bool.true_or, Bool.or_true, Bool.or_false, Bool.false_or, Bool.not_true, Bool.not_false, decide_true, decide_false, not_true_eq_false, not_false_eq_true, eq_self, Bool.true_eq_false, Bool.false_eq_true, RDm, r, B274_27]
theorem N_trc {n : Nat} (h : I 54 6 = Int32.ofNat n) (hn : n ≤ 30) : Rn X (d + 40) 152 0 [.ref 0, .int x] [] (Mh D I P N) = some ([.int (if bt x 0 ((n : Int) - 1) = true then I 64 x.toNatClampNeg else -3)], Mh D I P N) := by
  simp only [B152_0, RDc, IC, Option.bind_some, List.append_nil, List.nil_append, List.cons_append, cond_true, cond_false, if_true, if_false, ite_true, ite_false, reduceIte, IC, bI_0, bI_1, bF, Bool.not_eq_false, Bool.not_eq_true, Bool.and_true, Bool.true_and, Bool.and_false, Bool.false_and, Bool.true_or, Bool.or_true, Bool.or_false, Bool.false_or, Bool.not_true, Bool.not_false, decide_true, decide_false, not_true_eq_false, not_false_eq_true, eq_self, Bool.true_eq_false, Bool.false_eq_true, B26_0, h]
  cases hb : bt x 0 ((n : Int) - 1) with
  | false =>
    have hb2 := bt_no.mp hb
    by_cases h0 : x < 0
    · simp only [h0, Option.bind_some, List.append_nil, List.nil_append, List.cons_append, cond_true, cond_false, if_true, if_false, ite_true, ite_false, reduceIte, IC, bI_0, bI_1, bF, Bool.not_eq_false, Bool.not_eq_true, Bool.and_true, Bool.true_and, Bool.and_false, Bool.false_and, Bool.true_or, Bool.or_true, Bool.or_false, Bool.false_or, Bool.not_true, Bool.not_false, decide_true, decide_false, not_true_eq_false, not_false_eq_true, eq_self, Bool.true_eq_false, Bool.false_eq_true, B26_27, B26_29, B152_8]
    · have q : Int32.ofNat n ≤ x := by
        rw [Int32.lt_iff_toInt_lt, z_ti] at h0
        rw [Int32.le_iff_toInt_le, iN_ti (by omega)]; omega
      simp only [h0, q, Option.bind_some, List.append_nil, List.nil_append, List.cons_append, cond_true, cond_false, if_true, if_false, ite_true, ite_false, reduceIte, IC, bI_0, bI_1, bF, Bool.not_eq_false, Bool.not_eq_true, Bool.and_true, Bool.true_and, Bool.and_false, Bool.false_and, Bool.true_or, Bool.or_true, Bool.or_false, Bool.false_or, Bool.not_true, Bool.not_false, decide_true, decide_false, not_true_eq_false, not_false_eq_true, eq_self, Bool.true_eq_false, Bool.false_eq_true, B26_27, B26_29, B152_8]
  | true =>
    have hb2 := bt_iff.mp hb
    have c1 : x = Int32.ofNat x.toNatClampNeg := iN_of (by omega)
    have c2 := cl_ti (x := x) (by omega)
    have h0 : ¬ x < 0 := by rw [Int32.lt_iff_toInt_lt, z_ti]; omega
    have h1 : ¬ Int32.ofNat n ≤ x := by rw [Int32.le_iff_toInt_le, iN_ti (by omega)]; omega
    have h2 : ¬ (30 : Int32) ≤ x := by rw [Int32.le_iff_toInt_le, show (30 : Int32).toInt = 30 from rfl]; omega
    have hm : mib x 30 = true := mib_x (by omega) (by omega)
    simp only [h0, h1, h2, Option.bind_some, List.append_nil, List.nil_append, List.cons_append, cond_true, cond_false, if_true, if_false, ite_true, ite_false, reduceIte, IC, bI_0, bI_1, bF, Bool.not_eq_false, Bool.not_eq_true, Bool.and_true, Bool.true_and, Bool.and_false, Bool.false_and, Bool.true_or, Bool.or_true, Bool.or_false, Bool.false_or, Bool.not_true, Bool.not_false, decide_true, decide_false, not_true_eq_false, not_false_eq_true, eq_self, Bool.true_eq_false, Bool.false_eq_true, RDc, hm, B26_29, B152_8]
end ActB
