/-! the class: what one holds, telling, taking back -/
section ClsD
variable {X : mX} {d : Nat} {D : Nat → Nat × Nat} {I : Nat → Nat → Int32} {P : Nat → Nat → Option Nat} {N : Nat} {h : mH} {s g S r f F c : Nat → Int32} {J : Nat → Nat → Int32} {ra : Nat → Nat} {m : Int} {i j k n p q : Nat} {x v w a b l : Int32}
theorem RulR.of {I' : Nat → Nat → Int32} (h : RulR s D I N q) (hI : ∀ j, j ≤ 7 → I' (q + j) = I (q + j)) : RulR s D I' N q := by
  obtain ⟨h1, h2, h3⟩ := h
  refine ⟨h1, ?_, fun k hk => ?_⟩
  · have := hI 0 (by decide); rw [Nat.add_zero] at this; rw [this]; exact h2
  · rw [hI 1 (by decide), hI 2 (by decide), hI 3 (by decide), hI 4 (by decide), hI 5 (by decide), hI 6 (by decide), hI 7 (by decide)]
    exact h3 k hk
theorem AnsR.of {I' : Nat → Nat → Int32} (h : AnsR s D I N i p) (hI : I' p = I p) : AnsR s D I' N i p := by
  unfold AnsR at *; rw [hI]; exact h
theorem RAt.ne (h : RAt D N q) (hj : j ≤ 7) : q + j ≠ 1 ∧ q + j ≠ 2 ∧ q + j ≠ 3 ∧ q + j ≠ 4 ∧ q + j ≠ 13 ∧ q + j ≠ 14 ∧ q + j ≠ 15 ∧ q + j ≠ 16 ∧ q + j ≠ 17 ∧ q + j ≠ 18 ∧ q + j ≠ 19 ∧ q + j ≠ 28 ∧ q + j ≠ 29 ∧ q + j ≠ 30 := by
  have := h.1; omega
/-- an answer is no rules -/
theorem RAt.nA (h : RAt D N q) (hp : AnsAt D N p) (hj : j ≤ 7) : q + j ≠ p := by
  intro e
  obtain ⟨h1, h2, c, h3, h4⟩ := hp
  have hK : bKk D p = (4, c) := (bKk_dyn h1).trans h3
  obtain ⟨-, -, r1, r2, r3⟩ := h
  by_cases h0 : j = 0
  · subst h0
    rw [Nat.add_zero] at e
    rw [e, hK] at r1
    cases r1
    cases h4
  · by_cases h5 : j ≤ 4
    · have := r2 j (by omega) h5; rw [e, hK] at this; cases this
    · have := r3 j (by omega) hj; rw [e, hK] at this; cases this
theorem RideR.of {I' : Nat → Nat → Int32} (hr : RideR s D I P N 1 ra) (h1 : I' 1 = I 1) (h3 : I' 3 = I 3) (h4 : I' 4 = I 4) (h14 : I' 14 = I 14) (h15 : I' 15 = I 15) (ha : ∀ i, i < ctA s → I' (ra i) = I (ra i)) (hq : ∀ q, RAt D N q → P 1 9 = some q → ∀ j, j ≤ 7 → I' (q + j) = I (q + j)) : RideR s D I' P N 1 ra := by
  obtain ⟨r1, r2, r3, r4, r5, q, r6, r7⟩ := hr
  refine ⟨by rw [h1]; exact r1, fun k hk => ?_, fun r hr => ?_, fun i hi => ⟨(r4 i hi).1, (r4 i hi).2.of (ha i hi)⟩, r5, q, r6, r7.of (hq q r7.1 r6)⟩
  · rw [show I' (1 + 2) = I (1 + 2) from h3, show I' (1 + 3) = I (1 + 3) from h4]; exact r2 k hk
  · rw [show I' (1 + 13) = I (1 + 13) from h14, show I' (1 + 14) = I (1 + 14) from h15]; exact r3 r hr
theorem RideR.u13 (hr : RideR s D I P N 1 ra) : RideR s D (u2r I 13 f) P N 1 ra :=
  hr.of (u2r_o (by decide)) (u2r_o (by decide)) (u2r_o (by decide)) (u2r_o (by decide)) (u2r_o (by decide)) (fun i hi => by have := (hr.2.2.2.1 i hi).2.1.1; exact u2r_o (by omega)) (fun q h _ j hj => u2r_o (h.ne hj).2.2.2.2.1)
theorem dn_hR (ok : Ok s m) (hi : i < ctA s) (o : Option Nat) (ho : ∀ k, o = some k → k < ctR s) : dnV s (s (7 + 5 * i + 1)) o = hRl s i o := by
  have hH := bt_iff.mp (ok.1.2.1 i hi).2.1
  unfold hRl
  match o, ho with
  | none, _ =>
    show s (7 + 5 * i + 1) = if 0 ≤ s (7 + 5 * i + 1) then s (7 + 5 * i + 1) else 0
    rw [if_pos (by rw [Int32.le_iff_toInt_le, z_ti]; omega)]
  | some k, ho =>
    obtain ⟨-, b1, b2, -⟩ := ok.2 k (ho k rfl)
    have b1' := bt_iff.mp b1
    have b2' := bt_iff.mp b2
    have hd : s (86 + 4 * k + 1) = 0 ∨ s (86 + 4 * k + 1) = 1 ∨ s (86 + 4 * k + 1) = 2 := by
      rw [← Int32.toInt_inj, ← Int32.toInt_inj, ← Int32.toInt_inj]
      show (s (86 + 4 * k + 1)).toInt = 0 ∨ (s (86 + 4 * k + 1)).toInt = 1 ∨ (s (86 + 4 * k + 1)).toInt = 2
      omega
    unfold dnV hR0
    rcases hd with hd | hd | hd
    · simp +decide only [hd, if_true, if_false, reduceIte]
      rw [if_pos (by rw [Int32.le_iff_toInt_le, z_ti, t_add (by omega) (by omega)]; omega)]
    · simp +decide only [hd, if_true, if_false, reduceIte]
      unfold mmax
      by_cases hl : s (7 + 5 * i + 1) - s (86 + 4 * k + 2) < 0
      · rw [if_pos hl, if_neg (by rw [i_nle]; exact hl)]
      · rw [if_neg hl, if_pos (by rw [← i_nlt]; exact hl)]
    · simp +decide only [hd, if_true, if_false, reduceIte]
theorem mx1 : mmax x 1 = if 1 ≤ x then x else 1 := by
  unfold mmax
  by_cases h : x < 1
  · rw [if_pos h, if_neg (by rw [i_nle]; exact h)]
  · rw [if_neg h, if_pos (by rw [← i_nlt]; exact h)]
theorem mx01 : mmax (mmax x 0) 1 = if 1 ≤ x then x else 1 := by
  have e1 : (1 : Int32).toInt = 1 := rfl
  rw [mx1]
  unfold mmax
  by_cases h : x < 0
  · rw [if_pos h, if_neg (by decide)]
    rw [Int32.lt_iff_toInt_lt, z_ti] at h
    rw [if_neg (by rw [Int32.le_iff_toInt_le, e1]; omega)]
  · rw [if_neg h]
theorem kind5 (g : Gd s m) (hi : i < ctA s) : s (7 + 5 * i) = 1 ∨ s (7 + 5 * i) = 2 ∨ s (7 + 5 * i) = 3 ∨ s (7 + 5 * i) = 4 ∨ s (7 + 5 * i) = 5 := by
  have := bt_iff.mp (g.2.1 i hi).1
  rw [← Int32.toInt_inj, ← Int32.toInt_inj, ← Int32.toInt_inj, ← Int32.toInt_inj, ← Int32.toInt_inj]
  show (s (7 + 5 * i)).toInt = 1 ∨ (s (7 + 5 * i)).toInt = 2 ∨ (s (7 + 5 * i)).toInt = 3 ∨ (s (7 + 5 * i)).toInt = 4 ∨ (s (7 + 5 * i)).toInt = 5
  omega
theorem C_90 {l2 hh : Int32} (g : Gd s m) (hi : i < ctA s) (ha : AnsR s D I N i p) : Rn X (d + 3) 39 90 [.ref 1, .ref p, .int l2, .int (moodV s), .int hh] [] (Mh D I P N)
    = some ([.int (if 1 ≤ lstV (s (7 + 5 * i)) hh (moodV s) (s (7 + 5 * i + 4)) then lstV (s (7 + 5 * i)) hh (moodV s) (s (7 + 5 * i + 4)) else 1)], Mh D I P N) := by
  obtain ⟨⟨p1, p2, p3⟩, -, -, -, -, -, a5⟩ := ha
  have hK : bKk D p = (4, kcl (s (7 + 5 * i))) := (bKk_dyn p1).trans p3
  have hci : hCl (Mh D I P N) p = some (kcl (s (7 + 5 * i))) := hCl_Mh p2 hK
  have hB : ∀ v, Rn X (d + 2) 1 0 [.ref p, .int v, .int (moodV s)] [] (Mh D I P N) = some ([.int (if moodV s = 1 then v / 2 else v)], Mh D I P N) := by
    intro v
    rw [B1_0]
    by_cases h1 : moodV s = 1
    · rw [if_neg (by simp [h1]), if_neg (by decide), B1_12, if_pos h1]
    · rw [if_pos h1, B1_12, if_neg h1]
  have hG : ∀ v, Rn X (d + 2) 4 0 [.ref p, .int v, .int (moodV s)] [] (Mh D I P N) = some ([.int (if moodV s = 2 then v + 5 else v)], Mh D I P N) := by
    intro v
    rw [B4_0]
    by_cases h1 : moodV s = 2
    · rw [if_neg (by simp [h1]), B4_12, if_pos h1]
    · rw [if_pos h1, B4_12, if_neg h1]
  have hB' : ∀ v, Rn X (d + 1) 1 0 [.ref p, .int v, .int (moodV s)] [] (Mh D I P N) = some ([.int (if moodV s = 1 then v / 2 else v)], Mh D I P N) := by
    intro v
    rw [B1_0]
    by_cases h1 : moodV s = 1
    · rw [if_neg (by simp [h1]), if_neg (by decide), B1_12, if_pos h1]
    · rw [if_pos h1, B1_12, if_neg h1]
  have hG' : ∀ v, Rn X (d + 1) 4 0 [.ref p, .int v, .int (moodV s)] [] (Mh D I P N) = some ([.int (if moodV s = 2 then v + 5 else v)], Mh D I P N) := by
    intro v
    rw [B4_0]
    by_cases h1 : moodV s = 2
    · rw [if_neg (by simp [h1]), B4_12, if_pos h1]
    · rw [if_pos h1, B4_12, if_neg h1]
  unfold lstV
  rcases kind5 g hi with hk | hk | hk | hk | hk
  · have hk8 : kcl (s (7 + 5 * i)) = 8 := by rw [hk]; rfl
    rw [hk8] at hK hci
    have ht := bt_iff.mp (g.2.1 i hi).2.2.2.2
    have e1 : (1 : Int32).toInt = 1 := rfl
    have e0 : (1 + s (7 + 5 * i + 4)).toInt = 1 + (s (7 + 5 * i + 4)).toInt := t_add (by omega) (by omega)
    have n1 : ¬ 1 + s (7 + 5 * i + 4) ≤ 0 := by rw [Int32.le_iff_toInt_le, z_ti]; omega
    have n2 : ¬ 1 + s (7 + 5 * i + 4) = 0 := by intro e; rw [← Int32.toInt_inj, z_ti] at e; omega
    rw [B39_90_8 hci]
    simp only [B101_0, rdI p2 hK (cis := [8]) (k := 5) rfl, a5, Option.bind_some, List.append_nil, List.nil_append, List.cons_append, cond_true, cond_false, if_true, if_false, ite_true, ite_false, reduceIte, IC, bI_0, bI_1, bF, Bool.not_eq_false, Bool.not_eq_true, Bool.and_true, Bool.true_and, Bool.and_false, Bool.false_and, Bool.true_or, Bool.or_true, Bool.or_false, Bool.false_or, Bool.not_true, Bool.not_false, decide_true, decide_false, not_true_eq_false, not_false_eq_true, eq_self, Bool.true_eq_false, Bool.false_eq_true, n1, n2, B101_18, B39_97, mx1, hk]
  · have hk8 : kcl (s (7 + 5 * i)) = 1 := by rw [hk]; rfl
    rw [hk8] at hci
    have c1 : ¬ (2 : Int32) = 1 := by decide
    rw [B39_90_1 hci]
    simp only [hG, Option.bind_some, List.append_nil, List.nil_append, List.cons_append, cond_true, cond_false, if_true, if_false, ite_true, ite_false, reduceIte, IC, bI_0, bI_1, bF, Bool.not_eq_false, Bool.not_eq_true, Bool.and_true, Bool.true_and, Bool.and_false, Bool.false_and, Bool.true_or, Bool.or_true, Bool.or_false, Bool.false_or, Bool.not_true, Bool.not_false, decide_true, decide_false, not_true_eq_false, not_false_eq_true, eq_self, Bool.true_eq_false, Bool.false_eq_true, B39_97, mx1, hk, c1]
  · have hk8 : kcl (s (7 + 5 * i)) = 7 := by rw [hk]; rfl
    rw [hk8] at hK hci
    have c1 : ¬ (3 : Int32) = 1 := by decide
    have c2 : ¬ (3 : Int32) = 2 := by decide
    rw [B39_90_7 hci, B97_0 hci]
    simp only [hG', Option.bind_some, List.append_nil, List.nil_append, List.cons_append, cond_true, cond_false, if_true, if_false, ite_true, ite_false, reduceIte, IC, bI_0, bI_1, bF, Bool.not_eq_false, Bool.not_eq_true, Bool.and_true, Bool.true_and, Bool.and_false, Bool.false_and, Bool.true_or, Bool.or_true, Bool.or_false, Bool.false_or, Bool.not_true, Bool.not_false, decide_true, decide_false, not_true_eq_false, not_false_eq_true, eq_self, Bool.true_eq_false, Bool.false_eq_true, B97_6, rdI p2 hK (cis := [7]) (k := 5) rfl, a5, B39_97, mx01, hk, c1, c2]
  · have hk8 : kcl (s (7 + 5 * i)) = 0 := by rw [hk]; rfl
    rw [hk8] at hci
    have c1 : ¬ (4 : Int32) = 1 := by decide
    have c2 : ¬ (4 : Int32) = 2 := by decide
    have c3 : ¬ (4 : Int32) = 3 := by decide
    rw [B39_90_0 hci]
    simp only [hB, Option.bind_some, List.append_nil, List.nil_append, List.cons_append, cond_true, cond_false, if_true, if_false, ite_true, ite_false, reduceIte, IC, bI_0, bI_1, bF, Bool.not_eq_false, Bool.not_eq_true, Bool.and_true, Bool.true_and, Bool.and_false, Bool.false_and, Bool.true_or, Bool.or_true, Bool.or_false, Bool.false_or, Bool.not_true, Bool.not_false, decide_true, decide_false, not_true_eq_false, not_false_eq_true, eq_self, Bool.true_eq_false, Bool.false_eq_true, B39_97, mx1, hk, c1, c2, c3]
  · have hk8 : kcl (s (7 + 5 * i)) = 9 := by rw [hk]; rfl
    rw [hk8] at hci
    have c1 : ¬ (5 : Int32) = 1 := by decide
    have c2 : ¬ (5 : Int32) = 2 := by decide
    have c3 : ¬ (5 : Int32) = 3 := by decide
    have c4 : ¬ (5 : Int32) = 4 := by decide
    rw [B39_90_9 hci, B104_0 hci]
    simp only [hB', Option.bind_some, List.append_nil, List.nil_append, List.cons_append, cond_true, cond_false, if_true, if_false, ite_true, ite_false, reduceIte, IC, bI_0, bI_1, bF, Bool.not_eq_false, Bool.not_eq_true, Bool.and_true, Bool.true_and, Bool.and_false, Bool.false_and, Bool.true_or, Bool.or_true, Bool.or_false, Bool.false_or, Bool.not_true, Bool.not_false, decide_true, decide_false, not_true_eq_false, not_false_eq_true, eq_self, Bool.true_eq_false, Bool.false_eq_true, B104_7, B39_97, mx1, hk, c1, c2, c3, c4]
theorem M5 : (mib 0 5 = true ∧ mib 1 5 = true ∧ mib 2 5 = true ∧ mib 3 5 = true ∧ mib 4 5 = true) ∧ (0 : Int32).toNatClampNeg = 0 ∧ (1 : Int32).toNatClampNeg = 1 ∧ (2 : Int32).toNatClampNeg = 2 ∧ (3 : Int32).toNatClampNeg = 3 ∧ (4 : Int32).toNatClampNeg = 4 := by decide
theorem C_hold (ok : Ok s m) (hr : RideR s D I P N 1 ra) (hi : i < ctA s) : ∃ f, Rn X (d + 4) 39 0 [.ref 1, .ref (ra i), U_, U_, U_] [] (Mh D I P N) = some ([.int (hldV s i)], Mh D (u2r I 13 f) P N) := by
  have hr' := hr
  obtain ⟨⟨-, -, -, -, e7, -⟩, -, -, hal, -, q, hq, hR⟩ := hr
  have hA := (hal i hi).2
  obtain ⟨⟨h80, hp2, hpD⟩, a0, a1, a2, -, -, a5⟩ := id hA
  have hn := ok.1.n1
  rw [B39_0]
  simp only [Option.bind_some, List.append_nil, List.nil_append, List.cons_append, cond_true, cond_false, if_true, if_false, ite_true, ite_false, reduceIte, IC, bI_0, bI_1, bF, Bool.not_eq_false, Bool.not_eq_true, Bool.and_true, Bool.true_and, Bool.and_false, Bool.false_and, Bool.true_or, Bool.or_true, Bool.or_false, Bool.false_or, Bool.not_true, Bool.not_false, decide_true, decide_false, not_true_eq_false, not_false_eq_true, eq_self, Bool.true_eq_false, Bool.false_eq_true, C_legN ok.1 hr', B39_4, C_mood ok.1 hr', B39_10, RDa hA.at, RDc, hq, (rdR5 hR.1).1, hR.2.1, a2]
  by_cases hc : s 1 ≤ 0
  · refine ⟨I 13, ?_⟩
    rw [u2r_id, if_pos hc, C_90 ok.1 hi hA]
    have h0 : ctR s = 0 := by
      have hb := bt_iff.mp ok.1.1.2.1
      rw [Int32.le_iff_toInt_le, z_ti] at hc
      have := cl_ti hb.1
      unfold ctR; omega
    have hd := dn_hR ok hi none (fun k h => by cases h)
    unfold hldV hl2 hl1
    rw [h0]
    show some ([Value.int (if 1 ≤ lstV (s (7 + 5 * i)) (s (7 + 5 * i + 1)) (moodV s) (s (7 + 5 * i + 4)) then _ else 1)], _) = some ([Value.int (if 1 ≤ lstV (s (7 + 5 * i)) (hRl s i none) (moodV s) (s (7 + 5 * i + 4)) then lstV (s (7 + 5 * i)) (hRl s i none) (moodV s) (s (7 + 5 * i + 4)) else 1)], _)
    rw [← hd]
    rfl
  · rw [if_neg hc]
    have hne : ra i ≠ 13 := by omega
    have hne1 : (1 : Nat) ≠ 13 := by decide
    simp only [RDc, WRc, M5, Option.bind_some, List.append_nil, List.nil_append, List.cons_append, cond_true, cond_false, if_true, if_false, ite_true, ite_false, reduceIte, IC, bI_0, bI_1, bF, Bool.not_eq_false, Bool.not_eq_true, Bool.and_true, Bool.true_and, Bool.and_false, Bool.false_and, Bool.true_or, Bool.or_true, Bool.or_false, Bool.false_or, Bool.not_true, Bool.not_false, decide_true, decide_false, not_true_eq_false, not_false_eq_true, eq_self, Bool.true_eq_false, Bool.false_eq_true, u2_r, u2r_s, u2r_r, RDa hA.at, u2r_o hne, u2r_o hne1, a0, a1, a5, e7, hq]
    refine ⟨upd (upd (upd (upd (upd (I 13) 0 (Int32.ofNat (legN s))) 1 (moodV s)) 2 (s (7 + 5 * i + 4))) 3 (s 5)) 4 (Int32.ofNat i), ?_⟩
    generalize hF : upd (upd (upd (upd (upd (I 13) 0 (Int32.ofNat (legN s))) 1 (moodV s)) 2 (s (7 + 5 * i + 4))) 3 (s 5)) 4 (Int32.ofNat i) = F
    have hFc : FcR F s i := by
      rw [← hF]
      refine ⟨?_, ?_, ?_, ?_, ?_⟩ <;> simp [upd]
    have hR2 : RulR s D (u2r I 13 F) N q := hR.of (fun j hj => u2r_o (hR.1.ne hj).2.2.2.2.1)
    have e73 : Rn X (d + 3) 73 0 [.ref q, .int (s (7 + 5 * i)), .int (s (7 + 5 * i + 1)), .ref 13, U_, U_] [] (Mh D (u2r I 13 F) P N) = some ([.int (hRl s i (rulF s i 0 (ctR s) 0))], Mh D (u2r I 13 F) P N) := by
      rw [B73_0]
      have e := C_chg1 (X := X) (d := d + 1) (P := P) (hh := s (7 + 5 * i + 1)) (kd := s (7 + 5 * i)) ok hR2 (a := i) (by rw [u2r_s]; exact hFc) rfl (ctR s) 0 (by omega) 0 rfl 0 rfl
      rw [dn_hR ok hi _ (fun k hk => by have := rulF_lt _ _ _ _ hk; omega)] at e
      exact e
    simp only [(rdR5 hR.1).2.2.2.2.2.2.2.2.2, Option.bind_some, List.append_nil, List.nil_append, List.cons_append, cond_true, cond_false, if_true, if_false, ite_true, ite_false, reduceIte, IC, bI_0, bI_1, bF, Bool.not_eq_false, Bool.not_eq_true, Bool.and_true, Bool.true_and, Bool.and_false, Bool.false_and, Bool.true_or, Bool.or_true, Bool.or_false, Bool.false_or, Bool.not_true, Bool.not_false, decide_true, decide_false, not_true_eq_false, not_false_eq_true, eq_self, Bool.true_eq_false, Bool.false_eq_true, e73, B39_88]
    rw [C_90 ok.1 hi (hA.of (u2r_o hne))]
    rfl
theorem mn_pas {y : Int32} : mmin x y = if y ≤ x then y else x := by
  unfold mmin
  by_cases h : y < x
  · rw [if_pos h, if_pos (by rw [Int32.le_iff_toInt_le]; rw [Int32.lt_iff_toInt_lt] at h; omega)]
  · rw [if_neg h]
    by_cases h2 : y ≤ x
    · rw [if_pos h2, ← Int32.toInt_inj]
      rw [Int32.le_iff_toInt_le] at h2; rw [Int32.lt_iff_toInt_lt] at h; omega
    · rw [if_neg h2]
def tlI (I : Nat → Nat → Int32) (s : Nat → Int32) (ra : Nat → Nat) (i : Nat) (f : Nat → Int32) : Nat → Nat → Int32 :=
  u2 (u2 (u2 (u2r I 13 f) 1 6 (s 4 + pasV s i)) 1 7 (s 5 - s (7 + 5 * i + 2))) (ra i) 5 (s (7 + 5 * i + 4) + 1)
theorem ans_i (g : Gd s m) (hi : i < ctA s) : ansO s ra (Int32.ofNat i) = some (ra i) := by
  have h0 := g.n0
  unfold ansO
  rw [isA_i g hi, iN_cl (by omega)]; rfl
theorem C_tel (ok : Ok s m) (hr : RideR s D I P N 1 ra) (hi : i < ctA s) (hc : canV s i = true) : ∃ f, Rn X (d + 6) 42 0 [.ref 1, .int (Int32.ofNat i), U_, U_] [] (Mh D I P N) = some ([.int (pasV s i)], Mh D (tlI I s ra i f) P N) := by
  obtain ⟨f, e⟩ := C_hold (X := X) (d := d + 1) ok hr hi
  have hr' := hr
  obtain ⟨⟨-, -, e5, e6, e7, -⟩, -, -, hal, -⟩ := hr
  have hA := (hal i hi).2
  obtain ⟨⟨h80, hp2, hpD⟩, a0, a1, a2, a3, -, a5⟩ := id hA
  have hne : ra i ≠ 13 := by omega
  have hne2 : ra i ≠ 1 := by omega
  refine ⟨f, ?_⟩
  have hcan := C_can (X := X) (d := d + 4) hr' hi
  rw [B42_0]
  simp only [Option.bind_some, List.append_nil, List.nil_append, List.cons_append, cond_true, cond_false, if_true, if_false, ite_true, ite_false, reduceIte, IC, bI_0, bI_1, bF, Bool.not_eq_false, Bool.not_eq_true, Bool.and_true, Bool.true_and, Bool.and_false, Bool.false_and, Bool.true_or, Bool.or_true, Bool.or_false, Bool.false_or, Bool.not_true, Bool.not_false, decide_true, decide_false, not_true_eq_false, not_false_eq_true, eq_self, Bool.true_eq_false, Bool.false_eq_true, C_at ok.1 hr', ans_i ok.1 hi, B42_5, oc_some, hcan, B42_17, hc, e, B42_28]
  have k1 : (u2r I 13 f) 1 = I 1 := u2r_o (by decide)
  have k2 : (u2r I 13 f) (ra i) = I (ra i) := u2r_o hne
  simp only [RDc, WRc, RDa hA.at, WRa hA.at, Option.bind_some, List.append_nil, List.nil_append, List.cons_append, cond_true, cond_false, if_true, if_false, ite_true, ite_false, reduceIte, IC, bI_0, bI_1, bF, Bool.not_eq_false, Bool.not_eq_true, Bool.and_true, Bool.true_and, Bool.and_false, Bool.false_and, Bool.true_or, Bool.or_true, Bool.or_false, Bool.false_or, Bool.not_true, Bool.not_false, decide_true, decide_false, not_true_eq_false, not_false_eq_true, eq_self, Bool.true_eq_false, Bool.false_eq_true, u2_s, u2_o hne2, k1, k2, upd_o (show 7 ≠ 6 by decide), upd_s, e5, e6, e7, a3, a5, mn_pas]
  rfl
theorem C_telN (ok : Ok s m) (hr : RideR s D I P N 1 ra) (hi : i < ctA s) (hc : canV s i = false) : Rn X (d + 6) 42 0 [.ref 1, .int (Int32.ofNat i), U_, U_] [] (Mh D I P N) = some ([.int (-4)], Mh D I P N) := by
  have hcan := C_can (X := X) (d := d + 4) hr hi
  rw [B42_0]
  simp only [Option.bind_some, List.append_nil, List.nil_append, List.cons_append, cond_true, cond_false, if_true, if_false, ite_true, ite_false, reduceIte, IC, bI_0, bI_1, bF, Bool.not_eq_false, Bool.not_eq_true, Bool.and_true, Bool.true_and, Bool.and_false, Bool.false_and, Bool.true_or, Bool.or_true, Bool.or_false, Bool.false_or, Bool.not_true, Bool.not_false, decide_true, decide_false, not_true_eq_false, not_false_eq_true, eq_self, Bool.true_eq_false, Bool.false_eq_true, C_at ok.1 hr, ans_i ok.1 hi, B42_5, oc_some, hcan, B42_17, hc]
theorem C_telB (ok : Ok s m) (hr : RideR s D I P N 1 ra) (hi : isA s a = false) : Rn X (d + 6) 42 0 [.ref 1, .int a, U_, U_] [] (Mh D I P N) = some ([.int (-1)], Mh D I P N) := by
  rw [B42_0]
  have e : ansO s ra a = none := by unfold ansO; rw [hi]; rfl
  simp only [Option.bind_some, List.append_nil, List.nil_append, List.cons_append, cond_true, cond_false, if_true, if_false, ite_true, ite_false, reduceIte, IC, bI_0, bI_1, bF, Bool.not_eq_false, Bool.not_eq_true, Bool.and_true, Bool.true_and, Bool.and_false, Bool.false_and, Bool.true_or, Bool.or_true, Bool.or_false, Bool.false_or, Bool.not_true, Bool.not_false, decide_true, decide_false, not_true_eq_false, not_false_eq_true, eq_self, Bool.true_eq_false, Bool.false_eq_true, C_at ok.1 hr, e, B42_5, oc_none]
end ClsD
