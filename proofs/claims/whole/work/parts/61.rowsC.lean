/-! the class: the rows of a proof -/
section RowsC
variable {X : mX} {d : Nat} {D : Nat → Nat × Nat} {I : Nat → Nat → Int32} {P : Nat → Nat → Option Nat} {N : Nat} {h : mH} {s g c S r w : Nat → Int32} {J J' : Nat → Nat → Int32} {ra : Nat → Nat} {L : List Nat} {W : Nat → Nat → Int32} {m : Int} {i j k n p q t b' : Nat} {x v a b e f : Int32}
/-- what the rows hold after a proof -/
def RowP (l : List Nat) (s : Nat → Int32) (k : Nat) (W : Nat → Nat → Int32) : Prop := ∀ j, j < k → W 0 j = Int32.ofNat (l.getD j 0) ∧ W 1 j = tls (l.take (j + 1)) s 4 ∧ W 2 j = tls (l.take (j + 1)) s 5
theorem prvR_o : ∀ l p s w k, k < 3 * p → prvR l p s w k = w k
  | [], _, _, _, _, _ => rfl
  | a :: l, p, s, w, k, h => by
    unfold prvR
    rw [prvR_o l (p + 1) _ _ k (by omega), upd_o (by omega), upd_o (by omega), upd_o (by omega)]
theorem prvR_at : ∀ l p s w j, j < l.length → prvR l p s w (3 * (p + j)) = Int32.ofNat (l.getD j 0) ∧ prvR l p s w (3 * (p + j) + 1) = tls (l.take (j + 1)) s 4 ∧ prvR l p s w (3 * (p + j) + 2) = tls (l.take (j + 1)) s 5
  | [], _, _, _, _, h => by cases h
  | a :: l, p, s, w, 0, _ => by
    unfold prvR
    rw [show 3 * (p + 0) = 3 * p from rfl]
    refine ⟨?_, ?_, ?_⟩
    · rw [prvR_o _ _ _ _ _ (by omega), upd_o (by omega), upd_o (by omega), upd_s]; rfl
    · rw [prvR_o _ _ _ _ _ (by omega), upd_o (by omega), upd_s]; rfl
    · rw [prvR_o _ _ _ _ _ (by omega), upd_s]; rfl
  | a :: l, p, s, w, j + 1, h => by
    unfold prvR
    have := prvR_at l (p + 1) (telS s a) (upd (upd (upd w (3 * p) (Int32.ofNat a)) (3 * p + 1) (telS s a 4)) (3 * p + 2) (telS s a 5)) j (by simp at h; omega)
    rw [show p + 1 + j = p + (j + 1) by omega] at this
    exact this
theorem F_rowP : RowP (fstR n s) s (fstR n s).length (fun w i => prvR (fstR n s) 0 s r (3 * i + w)) := by
  intro j hj
  have := prvR_at (fstR n s) 0 s r j hj
  rw [Nat.zero_add] at this
  exact this
theorem pth_tls : ∀ l s, pth l.reverse s = tls l s
  | [], _ => rfl
  | a :: l, s => by
    have key : ∀ (K L : List Nat) (s : Nat → Int32), pth (K ++ L) s = pth K (pth L s) := by
      intro K
      induction K with
      | nil => intro L s; rfl
      | cons a K ih => intro L s; show telS (pth (K ++ L) s) a = telS (pth K (pth L s)) a; rw [ih]
    rw [List.reverse_cons, key]
    exact pth_tls l (telS s a)
theorem srR_l {l : List Nat} (hs : srR J s l.reverse) (hk : k < l.length) : J 32 k = Int32.ofNat (l.getD k 0) ∧ J 34 k = tls (l.take (k + 1)) s 4 ∧ J 35 k = tls (l.take (k + 1)) s 5 := by
  obtain ⟨T, a, U, e1, e2, e3, e4, e5⟩ := srR_at l.reverse hs k (by rw [List.length_reverse]; exact hk)
  have hl : l = U.reverse ++ (a :: T.reverse) := by
    have := congrArg List.reverse e1
    rw [List.reverse_reverse, List.reverse_append, List.reverse_cons, List.append_assoc] at this
    exact this
  have ht : (a :: U) = (l.take (k + 1)).reverse := by
    rw [hl, List.take_append, List.length_reverse, e2, List.take_of_length_le (by rw [List.length_reverse]; omega), show k + 1 - k = 1 by omega]
    simp
  have hg : l.getD k 0 = a := by
    rw [hl, List.getD_eq_getElem?_getD, List.getElem?_append_right (by rw [List.length_reverse]; omega), List.length_reverse, e2]
    simp
  refine ⟨by rw [hg]; exact e3, ?_, ?_⟩
  · rw [e4, ht, pth_tls]
  · rw [e5, ht, pth_tls]
theorem C_mbh (hS : Srch D P N ra s I L J) (hn : L.length ≤ 30) (hk : k < L.length) : Rn X (d + 1) 94 0 [.ref 31, .int (Int32.ofNat k)] [] (Mh D J P N) = some ([.int (J 34 k)], Mh D J P N) := by
  rw [B94_0]
  simp only [Option.bind_some, List.append_nil, List.nil_append, List.cons_append, cond_true, cond_false, if_true, if_false, ite_true, ite_false, reduceIte, IC, bI_0, bI_1, bF, Bool.not_eq_false, Bool.not_eq_true, Bool.and_true, Bool.true_and, Bool.and_false, Bool.false_and, Bool.true_or, Bool.or_true, Bool.or_false, Bool.false_or, Bool.not_true, Bool.not_false, decide_true, decide_false, not_true_eq_false, not_false_eq_true, eq_self, Bool.true_eq_false, Bool.false_eq_true, C_isS hS.2.1 hn (show k < 2147483648 by omega), B94_5, hk, RDc, mib_N (show k < 30 by omega) (show 30 ≤ 2147483648 by decide), iN_cl (show k < 2147483648 by omega), B94_19]
theorem C_bbh (hS : Srch D P N ra s I L J) (hn : L.length ≤ 30) (hk : k < L.length) : Rn X (d + 1) 95 0 [.ref 31, .int (Int32.ofNat k)] [] (Mh D J P N) = some ([.int (J 35 k)], Mh D J P N) := by
  rw [B95_0]
  simp only [Option.bind_some, List.append_nil, List.nil_append, List.cons_append, cond_true, cond_false, if_true, if_false, ite_true, ite_false, reduceIte, IC, bI_0, bI_1, bF, Bool.not_eq_false, Bool.not_eq_true, Bool.and_true, Bool.true_and, Bool.and_false, Bool.false_and, Bool.true_or, Bool.or_true, Bool.or_false, Bool.false_or, Bool.not_true, Bool.not_false, decide_true, decide_false, not_true_eq_false, not_false_eq_true, eq_self, Bool.true_eq_false, Bool.false_eq_true, C_isS hS.2.1 hn (show k < 2147483648 by omega), B95_5, hk, RDc, mib_N (show k < 30 by omega) (show 30 ≤ 2147483648 by decide), iN_cl (show k < 2147483648 by omega), B95_19]
theorem Srch.wr (ok : Ok s 10) (hS : Srch D P N ra s I L J) (hb : 49 ≤ b' ∧ b' < 80) : Srch D P N ra s (u2 I b' k x) L (u2 J b' k x) := by
  obtain ⟨hr, hl, hs, hf, hc⟩ := hS
  obtain ⟨-, ec⟩ := pth_ok L ok hc
  refine ⟨?_, by rw [u2_o (by omega)]; exact hl, ?_, ?_, hc⟩
  · exact hr.of (u2_o (by omega)) (u2_o (by omega)) (u2_o (by omega)) (u2_o (by omega)) (u2_o (by omega)) (fun j hj => u2_o (by have := (hr.2.2.2.1 j hj).2.1.1; omega)) (fun q hq _ j hj => u2_o (by have := hq.1; omega))
  · exact srR_of L (fun j _ => ⟨by rw [u2_o (by omega)], by rw [u2_o (by omega)], by rw [u2_o (by omega)], by rw [u2_o (by omega)]⟩) hs
  · intro a h1 h13 h31 ha
    by_cases hab : a = b'
    · subst hab; rw [u2_s, u2_s, hf a h1 h13 h31 ha]
    · rw [u2_o hab, u2_o hab]; exact hf a h1 h13 h31 ha
theorem N_prv1 (ok : Ok s 10) {l : List Nat} (hl4 : l.length ≤ 4) : ∀ k i I J, Srch D P N ra s I l.reverse J → RowP l s i (fun w => I (51 + w)) → i + k = l.length → ∃ I' J', Rn X (d + 8) 140 28 [.ref 0, .int (Int32.ofNat l.length), .int (Int32.ofNat i)] [] (Mh D J P N)
      = Rn X (d + 8) 140 92 [.ref 0, .int (Int32.ofNat l.length), .int (Int32.ofNat l.length)] [] (Mh D J' P N) ∧ Srch D P N ra s I' l.reverse J' ∧ RowP l s l.length (fun w => I' (51 + w)) ∧ (∀ a, a ≠ 51 → a ≠ 52 → a ≠ 53 → I' a = I a)
  | 0, i, I, J, hS, hP, hk => by
    have : i = l.length := by omega
    subst this
    refine ⟨I, J, ?_, hS, hP, fun _ _ _ _ => rfl⟩
    rw [B140_28, if_pos (by rw [iN_le (by omega) (by omega)]; omega)]
  | k + 1, i, I, J, hS, hP, hk => by
    have hi : i < l.length := by omega
    have n4 : ¬ (4 : Int32) ≤ Int32.ofNat i := le_n (l := 4) (n := 4) rfl (by omega) (by omega) (by omega)
    have hlr : l.reverse.length = l.length := List.length_reverse
    have t1 := C_tat (X := X) (d := d + 6) (k := i) hS (by omega) (by omega)
    rw [hlr, if_pos hi, List.reverse_reverse] at t1
    have hS1 := hS.wr (k := i) (x := Int32.ofNat (l.getD i 0)) ok (b' := 51) (by omega)
    have t2 := C_mbh (X := X) (d := d + 6) (k := i) hS1 (by omega) (by omega)
    have hS2 := hS1.wr (k := i) (x := u2 J 51 i (Int32.ofNat (l.getD i 0)) 34 i) ok (b' := 52) (by omega)
    have t3 := C_bbh (X := X) (d := d + 6) (k := i) hS2 (by omega) (by omega)
    have hS3 := hS2.wr (k := i) (x := u2 (u2 J 51 i (Int32.ofNat (l.getD i 0))) 52 i (u2 J 51 i (Int32.ofNat (l.getD i 0)) 34 i) 35 i) ok (b' := 53) (by omega)
    obtain ⟨g1, g2, g3⟩ := srR_l hS.2.2.1 hi
    have v34 : u2 J 51 i (Int32.ofNat (l.getD i 0)) 34 i = tls (l.take (i + 1)) s 4 := by rw [u2_o (by decide)]; exact g2
    have v35 : u2 (u2 J 51 i (Int32.ofNat (l.getD i 0))) 52 i (u2 J 51 i (Int32.ofNat (l.getD i 0)) 34 i) 35 i = tls (l.take (i + 1)) s 5 := by rw [u2_o (by decide), u2_o (by decide)]; exact g3
    have w5 := ww5 (D := D) (P := P) (N := N) (j := i) (by omega)
    rw [v35, v34] at hS3
    obtain ⟨I', J', q1, q2, q3, q4⟩ := N_prv1 ok hl4 k (i + 1) _ _ hS3 (fun j hj => by
      show u2 (u2 (u2 I 51 i _) 52 i _) 53 i _ 51 j = _ ∧ u2 (u2 (u2 I 51 i _) 52 i _) 53 i _ 52 j = _ ∧ u2 (u2 (u2 I 51 i _) 52 i _) 53 i _ 53 j = _
      rw [u2_o (show 51 ≠ 53 by decide), u2_o (show 51 ≠ 52 by decide), u2_s, u2_o (show 52 ≠ 53 by decide), u2_s, u2_s, u2_o (show 52 ≠ 51 by decide), u2_o (show 53 ≠ 52 by decide), u2_o (show 53 ≠ 51 by decide)]
      by_cases hji : j = i
      · subst hji; rw [upd_s, upd_s, upd_s]; exact ⟨rfl, rfl, rfl⟩
      · rw [upd_o hji, upd_o hji, upd_o hji]; exact hP j (by omega)) (by omega)
    refine ⟨I', J', ?_, q2, q3, fun a h1 h2 h3 => (q4 a h1 h2 h3).trans (by rw [u2_o h3, u2_o h2, u2_o h1])⟩
    rw [B140_28, if_neg (by rw [iN_le (by omega) (by omega)]; omega), if_neg n4]
    simp only [RDc, Option.bind_some, List.append_nil, List.nil_append, List.cons_append, cond_true, cond_false, if_true, if_false, ite_true, ite_false, reduceIte, IC, bI_0, bI_1, bF, Bool.not_eq_false, Bool.not_eq_true, Bool.and_true, Bool.true_and, Bool.and_false, Bool.false_and, Bool.true_or, Bool.or_true, Bool.or_false, Bool.false_or, Bool.not_true, Bool.not_false, decide_true, decide_false, not_true_eq_false, not_false_eq_true, eq_self, Bool.true_eq_false, Bool.false_eq_true, rq50, t1, B140_53, oc_some, w5, t2, B140_69, t3, B140_85, IX]
    rw [v35, v34]
    exact q1
theorem N_prv0 (ok : Ok s 10) (hr : RideR s D I P N 1 ra) (hl : I 31 5 = 0) (hs : shoF s = none) : ∃ I', Rn X (d + 40) 140 0 [.ref 0, U_, U_] [] (Mh D I P N) = some ([.int (-3)], Mh D I' P N) ∧ RideR s D I' P N 1 ra ∧ I' 31 5 = 0 ∧ FrC (ctA s) ra I I' := by
  obtain ⟨f, e⟩ := C_sho (X := X) (d := d + 27) ok hr
  rw [hs] at e
  refine ⟨u2r I 13 f, ?_, hr.u13, by rw [u2r_o (by decide)]; exact hl, frc_13⟩
  have n3 : oV none = -3 := rfl
  simp only [B140_0, RDc, Option.bind_some, List.append_nil, List.nil_append, List.cons_append, cond_true, cond_false, if_true, if_false, ite_true, ite_false, reduceIte, IC, bI_0, bI_1, bF, Bool.not_eq_false, Bool.not_eq_true, Bool.and_true, Bool.true_and, Bool.and_false, Bool.false_and, Bool.true_or, Bool.or_true, Bool.or_false, Bool.false_or, Bool.not_true, Bool.not_false, decide_true, decide_false, not_true_eq_false, not_false_eq_true, eq_self, Bool.true_eq_false, Bool.false_eq_true, e, B140_7, n3]
theorem N_prv (ok : Ok s 10) (hr : RideR s D I P N 1 ra) (hl : I 31 5 = 0) (hs : shoF s = some n) : ∃ I', Rn X (d + 40) 140 0 [.ref 0, U_, U_] [] (Mh D I P N) = some ([.int (Int32.ofNat n)], Mh D I' P N) ∧ RideR s D I' P N 1 ra ∧ I' 31 5 = 0
    ∧ I' 0 = upd (I 0) 8 (Int32.ofNat n) ∧ RowP (fstR n s) s n (fun w => I' (51 + w)) ∧ ∀ a, a ≠ 0 → a ≠ 51 → a ≠ 52 → a ≠ 53 → a ≠ 1 → a ≠ 13 → (a < 31 ∨ 35 < a) → (∀ i, i < ctA s → a ≠ ra i) → I' a = I a := by
  obtain ⟨hn1, hn2, hn3⟩ := sho_lt hs
  obtain ⟨f, e⟩ := C_sho (X := X) (d := d + 27) ok hr
  rw [hs] at e
  have hS0 : Srch D P N ra s (u2r I 13 f) [] (u2r I 13 f) := srch0 hr.u13 (by rw [u2r_o (by decide)]; exact hl)
  obtain ⟨J1, hS1, e3⟩ := C_walk (X := X) (d := d + 27) (b := 0) (n := n) (n0 := Int32.ofNat n) ok rfl (by omega) hS0 (by rw [ar_arr (m := 10) (by decide) n s ok]; exact hn2)
  rw [wk_fst n s ok] at hS1
  have hlen := fst_len n s hn2 hn3
  obtain ⟨I2, J2, q1, q2, q3, q4⟩ := N_prv1 (X := X) (d := d + 32) ok (l := fstR n s) (by omega) n 0 _ J1 hS1 (fun j hj => absurd hj (by omega)) (by omega)
  obtain ⟨J3, hS3, e4⟩ := C_bak (X := X) (d := d + 36) ok q2 (by rw [List.length_reverse]; omega)
  obtain ⟨r1, r2, r3⟩ := srch_end hS3
  rw [hlen] at q1 q3
  have hrn : ∀ b, b < 80 → ∀ j, j < ctA s → b ≠ ra j := fun b hb j hj => by have := (hr.2.2.2.1 j hj).2.1.1; omega
  have hn3' : ¬ Int32.ofNat n = -3 := by
    rw [← Int32.toInt_inj, iN_ti (by omega)]; have : (-3 : Int32).toInt = -3 := rfl; omega
  have fI : ∀ a, a ≠ 51 → a ≠ 52 → a ≠ 53 → a ≠ 1 → a ≠ 13 → (a < 31 ∨ 35 < a) → (∀ i, i < ctA s → a ≠ ra i) → J3 a = I a := fun a h1 h2 h3 h4 h5 h6 h7 =>
    (hS3.2.2.2.1 a h4 h5 h6 h7).trans ((q4 a h1 h2 h3).trans (u2r_o h5))
  have t0 : ∀ c, c ≠ 0 → u2 J3 0 8 (Int32.ofNat n) c = J3 c := fun c hc => u2_o hc
  refine ⟨u2 J3 0 8 (Int32.ofNat n), ?_, ?_, by rw [t0 31 (by decide)]; exact r2, ?_, ?_, fun a h0 h1 h2 h3 h4 h5 h6 h7 => (t0 a h0).trans (fI a h1 h2 h3 h4 h5 h6 h7)⟩
  · have e' : Rn X (d + 39) 86 0 [.ref 31, U_] [] (Mh D I P N) = some ([.int (Int32.ofNat n)], Mh D (u2r I 13 f) P N) := e
    have q1' : Rn X (d + 39 + 1) 140 28 [.ref 0, .int (Int32.ofNat n), .int 0] [] (Mh D J1 P N) = Rn X (d + 39 + 1) 140 92 [.ref 0, .int (Int32.ofNat n), .int (Int32.ofNat n)] [] (Mh D J2 P N) := q1
    have e3' : Rn X (d + 39) 87 0 [.ref 31, .int (Int32.ofNat n), .int 0, U_, U_, U_] [] (Mh D (u2r I 13 f) P N) = some ([], Mh D J1 P N) := e3
    simp only [B140_0, RDc, Option.bind_some, List.append_nil, List.nil_append, List.cons_append, cond_true, cond_false, if_true, if_false, ite_true, ite_false, reduceIte, IC, bI_0, bI_1, bF, Bool.not_eq_false, Bool.not_eq_true, Bool.and_true, Bool.true_and, Bool.and_false, Bool.false_and, Bool.true_or, Bool.or_true, Bool.or_false, Bool.false_or, Bool.not_true, Bool.not_false, decide_true, decide_false, not_true_eq_false, not_false_eq_true, eq_self, Bool.true_eq_false, Bool.false_eq_true, e', B140_7, hn3', e3', B140_26, q1', B140_92, e4, B140_99, WRc]
  · exact r1.of (t0 _ (by decide)) (t0 _ (by decide)) (t0 _ (by decide)) (t0 _ (by decide)) (t0 _ (by decide)) (fun j hj => t0 _ (by have := (r1.2.2.2.1 j hj).2.1.1; omega)) (fun q hq _ j hj => t0 _ (by have := hq.1; omega))
  · rw [u2_s, fI 0 (by decide) (by decide) (by decide) (by decide) (by decide) (by omega) (hrn 0 (by decide))]
  · intro j hj
    have hf : ∀ w, w < 3 → J3 (51 + w) = I2 (51 + w) := fun w hw => hS3.2.2.2.1 _ (by omega) (by omega) (by omega) (hrn _ (by omega))
    have := q3 j hj
    show u2 J3 0 8 _ (51 + 0) j = _ ∧ u2 J3 0 8 _ (51 + 1) j = _ ∧ u2 J3 0 8 _ (51 + 2) j = _
    rw [t0 _ (by decide), t0 _ (by decide), t0 _ (by decide), hf 0 (by decide), hf 1 (by decide), hf 2 (by decide)]
    exact this
theorem C_isr (h8 : I 0 8 = Int32.ofNat n) (hn : n ≤ 4) : Rn X (d + 1) 161 0 [.ref 0, .int a, .int b] [] (Mh D I P N) = some ([.int (bI (bt a 0 ((n : Int) - 1) && bt b 0 2))], Mh D I P N) := by
  have e0 : 0 ≤ (Int32.ofNat n).toInt := by rw [iN_ti (by omega)]; omega
  have e := t_m1 e0
  rw [iN_ti (by omega)] at e
  simp only [B161_0, RDc, Option.bind_some, List.append_nil, List.nil_append, List.cons_append, cond_true, cond_false, if_true, if_false, ite_true, ite_false, reduceIte, IC, bI_0, bI_1, bF, Bool.not_eq_false, Bool.not_eq_true, Bool.and_true, Bool.true_and, Bool.and_false, Bool.false_and, Bool.true_or, Bool.or_true, Bool.or_false, Bool.false_or, Bool.not_true, Bool.not_false, decide_true, decide_false, not_true_eq_false, not_false_eq_true, eq_self, Bool.true_eq_false, Bool.false_eq_true, h8, C_btw, L32, e, B161_11]
  cases hb : bt a 0 ((n : Int) - 1) with
  | false => simp +decide only [Option.bind_some, List.append_nil, List.nil_append, List.cons_append, cond_true, cond_false, if_true, if_false, ite_true, ite_false, reduceIte, IC, bI_0, bI_1, bF, Bool.not_eq_false, Bool.not_eq_true, Bool.and_true, Bool.true_and, Bool.and_false, Bool.false_and, Bool.true_or, Bool.or_true, Bool.or_false, Bool.false_or, Bool.not_true, Bool.not_false, decide_true, decide_false, not_true_eq_false, not_false_eq_true, eq_self, Bool.true_eq_false, Bool.false_eq_true, B161_32, B161_33]; rfl
  | true =>
    have h1 := bt_iff.mp hb
    have n4 : ¬ (4 : Int32) ≤ a := by rw [Int32.le_iff_toInt_le, show (4 : Int32).toInt = 4 from rfl]; omega
    simp only [Option.bind_some, List.append_nil, List.nil_append, List.cons_append, cond_true, cond_false, if_true, if_false, ite_true, ite_false, reduceIte, IC, bI_0, bI_1, bF, Bool.not_eq_false, Bool.not_eq_true, Bool.and_true, Bool.true_and, Bool.and_false, Bool.false_and, Bool.true_or, Bool.or_true, Bool.or_false, Bool.false_or, Bool.not_true, Bool.not_false, decide_true, decide_false, not_true_eq_false, not_false_eq_true, eq_self, Bool.true_eq_false, Bool.false_eq_true, n4, C_btw, L32, B161_25]
    cases bt b 0 2 <;> simp +decide only [Option.bind_some, List.append_nil, List.nil_append, List.cons_append, cond_true, cond_false, if_true, if_false, ite_true, ite_false, reduceIte, IC, bI_0, bI_1, bF, Bool.not_eq_false, Bool.not_eq_true, Bool.and_true, Bool.true_and, Bool.and_false, Bool.false_and, Bool.true_or, Bool.or_true, Bool.or_false, Bool.false_or, Bool.not_true, Bool.not_false, decide_true, decide_false, not_true_eq_false, not_false_eq_true, eq_self, Bool.true_eq_false, Bool.false_eq_true, B161_32, B161_33] <;> rfl
theorem N_row (h8 : I 0 8 = Int32.ofNat n) (hn : n ≤ 4) : Rn X (d + 40) 141 0 [.ref 0, .int a, .int b] [] (Mh D I P N) = some ([.int (if (bt a 0 ((n : Int) - 1) && bt b 0 2) = true then I (51 + b.toNatClampNeg) a.toNatClampNeg else -9)], Mh D I P N) := by
  simp only [B141_0, IC, Option.bind_some, List.append_nil, List.nil_append, List.cons_append, cond_true, cond_false, if_true, if_false, ite_true, ite_false, reduceIte, IC, bI_0, bI_1, bF, Bool.not_eq_false, Bool.not_eq_true, Bool.and_true, Bool.true_and, Bool.and_false, Bool.false_and, Bool.true_or, Bool.or_true, Bool.or_false, Bool.false_or, Bool.not_true, Bool.not_false, decide_true, decide_false, not_true_eq_false, not_false_eq_true, eq_self, Bool.true_eq_false, Bool.false_eq_true, C_isr h8 hn, B141_6]
  cases hb : (bt a 0 ((n : Int) - 1) && bt b 0 2) with
  | false => simp only [Option.bind_some, List.append_nil, List.nil_append, List.cons_append, cond_true, cond_false, if_true, if_false, ite_true, ite_false, reduceIte, IC, bI_0, bI_1, bF, Bool.not_eq_false, Bool.not_eq_true, Bool.and_true, Bool.true_and, Bool.and_false, Bool.false_and, Bool.true_or, Bool.or_true, Bool.or_false, Bool.false_or, Bool.not_true, Bool.not_false, decide_true, decide_false, not_true_eq_false, not_false_eq_true, eq_self, Bool.true_eq_false, Bool.false_eq_true, B141_22]
  | true =>
    obtain ⟨i, j, e1, e2, hi, hj, c1, c2, -⟩ := row_ix hb hn
    have r := rw5 (D := D) (I := I) (P := P) (N := N) (j := i) (by omega)
    have hj3 : j = 0 ∨ j = 1 ∨ j = 2 := by omega
    rcases hj3 with rfl | rfl | rfl
    · have e2' : b = 0 := e2
      subst e2'
      simp only [Option.bind_some, List.append_nil, List.nil_append, List.cons_append, cond_true, cond_false, if_true, if_false, ite_true, ite_false, reduceIte, IC, bI_0, bI_1, bF, Bool.not_eq_false, Bool.not_eq_true, Bool.and_true, Bool.true_and, Bool.and_false, Bool.false_and, Bool.true_or, Bool.or_true, Bool.or_false, Bool.false_or, Bool.not_true, Bool.not_false, decide_true, decide_false, not_true_eq_false, not_false_eq_true, eq_self, Bool.true_eq_false, Bool.false_eq_true, RDc, rq50, oc_some, e1, r, B141_22, iN_cl (show i < 2147483648 by omega)]
      rfl
    · have e2' : b = 1 := e2
      subst e2'
      simp only [Option.bind_some, List.append_nil, List.nil_append, List.cons_append, cond_true, cond_false, if_true, if_false, ite_true, ite_false, reduceIte, IC, bI_0, bI_1, bF, Bool.not_eq_false, Bool.not_eq_true, Bool.and_true, Bool.true_and, Bool.and_false, Bool.false_and, Bool.true_or, Bool.or_true, Bool.or_false, Bool.false_or, Bool.not_true, Bool.not_false, decide_true, decide_false, not_true_eq_false, not_false_eq_true, eq_self, Bool.true_eq_false, Bool.false_eq_true, RDc, rq50, oc_some, e1, r, B141_22, iN_cl (show i < 2147483648 by omega)]
      rfl
    · have e2' : b = 2 := e2
      subst e2'
      simp only [Option.bind_some, List.append_nil, List.nil_append, List.cons_append, cond_true, cond_false, if_true, if_false, ite_true, ite_false, reduceIte, IC, bI_0, bI_1, bF, Bool.not_eq_false, Bool.not_eq_true, Bool.and_true, Bool.true_and, Bool.and_false, Bool.false_and, Bool.true_or, Bool.or_true, Bool.or_false, Bool.false_or, Bool.not_true, Bool.not_false, decide_true, decide_false, not_true_eq_false, not_false_eq_true, eq_self, Bool.true_eq_false, Bool.false_eq_true, RDc, rq50, oc_some, e1, r, B141_22, iN_cl (show i < 2147483648 by omega)]
      rfl
theorem N_alt (h8 : I 0 8 = Int32.ofNat n) (hn : n ≤ 4) : Rn X (d + 40) 142 0 [.ref 0, .int a, .int b, .int v, U_] [] (Mh D I P N) = (if (bt a 0 ((n : Int) - 1) && bt b 0 2) = true then some ([.int (I (51 + b.toNatClampNeg) a.toNatClampNeg)], Mh D (u2 I (51 + b.toNatClampNeg) a.toNatClampNeg v) P N) else some ([.int (-9)], Mh D I P N)) := by
  simp only [B142_0, IC, Option.bind_some, List.append_nil, List.nil_append, List.cons_append, cond_true, cond_false, if_true, if_false, ite_true, ite_false, reduceIte, IC, bI_0, bI_1, bF, Bool.not_eq_false, Bool.not_eq_true, Bool.and_true, Bool.true_and, Bool.and_false, Bool.false_and, Bool.true_or, Bool.or_true, Bool.or_false, Bool.false_or, Bool.not_true, Bool.not_false, decide_true, decide_false, not_true_eq_false, not_false_eq_true, eq_self, Bool.true_eq_false, Bool.false_eq_true, C_isr h8 hn, B142_6]
  cases hb : (bt a 0 ((n : Int) - 1) && bt b 0 2) with
  | false => simp only [Option.bind_some, List.append_nil, List.nil_append, List.cons_append, cond_true, cond_false, if_true, if_false, ite_true, ite_false, reduceIte, IC, bI_0, bI_1, bF, Bool.not_eq_false, Bool.not_eq_true, Bool.and_true, Bool.true_and, Bool.and_false, Bool.false_and, Bool.true_or, Bool.or_true, Bool.or_false, Bool.false_or, Bool.not_true, Bool.not_false, decide_true, decide_false, not_true_eq_false, not_false_eq_true, eq_self, Bool.true_eq_false, Bool.false_eq_true]
  | true =>
    obtain ⟨i, j, e1, e2, hi, hj, c1, c2, -⟩ := row_ix hb hn
    have r := rw5 (D := D) (I := I) (P := P) (N := N) (j := i) (by omega)
    have w := ww5 (D := D) (P := P) (N := N) (j := i) (by omega)
    have hj3 : j = 0 ∨ j = 1 ∨ j = 2 := by omega
    rcases hj3 with rfl | rfl | rfl
    · have e2' : b = 0 := e2
      subst e2'
      simp only [Option.bind_some, List.append_nil, List.nil_append, List.cons_append, cond_true, cond_false, if_true, if_false, ite_true, ite_false, reduceIte, IC, bI_0, bI_1, bF, Bool.not_eq_false, Bool.not_eq_true, Bool.and_true, Bool.true_and, Bool.and_false, Bool.false_and, Bool.true_or, Bool.or_true, Bool.or_false, Bool.false_or, Bool.not_true, Bool.not_false, decide_true, decide_false, not_true_eq_false, not_false_eq_true, eq_self, Bool.true_eq_false, Bool.false_eq_true, RDc, rq50, oc_some, e1, r, w, iN_cl (show i < 2147483648 by omega)]
      rfl
    · have e2' : b = 1 := e2
      subst e2'
      simp only [Option.bind_some, List.append_nil, List.nil_append, List.cons_append, cond_true, cond_false, if_true, if_false, ite_true, ite_false, reduceIte, IC, bI_0, bI_1, bF, Bool.not_eq_false, Bool.not_eq_true, Bool.and_true, Bool.true_and, Bool.and_false, Bool.false_and, Bool.true_or, Bool.or_true, Bool.or_false, Bool.false_or, Bool.not_true, Bool.not_false, decide_true, decide_false, not_true_eq_false, not_false_eq_true, eq_self, Bool.true_eq_false, Bool.false_eq_true, RDc, rq50, oc_some, e1, r, w, iN_cl (show i < 2147483648 by omega)]
      rfl
    · have e2' : b = 2 := e2
      subst e2'
      simp only [Option.bind_some, List.append_nil, List.nil_append, List.cons_append, cond_true, cond_false, if_true, if_false, ite_true, ite_false, reduceIte, IC, bI_0, bI_1, bF, Bool.not_eq_false, Bool.not_eq_true, Bool.and_true, Bool.true_and, Bool.and_false, Bool.false_and, Bool.true_or, Bool.or_true, Bool.or_false, Bool.false_or, Bool.not_true, Bool.not_false, decide_true, decide_false, not_true_eq_false, not_false_eq_true, eq_self, Bool.true_eq_false, Bool.false_eq_true, RDc, rq50, oc_some, e1, r, w, iN_cl (show i < 2147483648 by omega)]
      rfl
end RowsC
