/-! the reference reads the rules: rule, rules -/
def hdW (K : Nat → Nat → Int32) (c : Nat) (kd ds fg : Int32) (m : Nat) : Nat → Nat → Int32 := u2 (u2 (u2 (u2 (u2 K 66 (86 + 4 * c) kd) 66 (86 + 4 * c + 1) ds) 66 (86 + 4 * c + 2) fg) 66 (86 + 4 * c + 3) (Int32.ofNat m)) 66 1 (Int32.ofNat (c + 1))
def QU (J K' : Nat → Nat → Int32) (b : Nat → Int32) (n : Nat) (C : List Int32) (c : Nat) (q : Option pRu × List Nat) : Prop := match q.1 with
  | none => QW J K' b n q.2 0
  | some u => ∃ K1, QR J K1 b n q.2 0 (C ++ exL u.2.2.2) ∧ K' = hdW K1 c u.1 (u.2.1 - 6) u.2.2.1 (C ++ exL u.2.2.2).length
def HdR (s : Nat → Int32) (R : List pRu) : Prop := ∀ k u, R[k]? = some u → s (86 + 4 * k) = u.1 ∧ s (86 + 4 * k + 1) = u.2.1 - 6 ∧ s (86 + 4 * k + 2) = u.2.2.1 ∧ s (86 + 4 * k + 3) = Int32.ofNat (exL (sgA (R.take (k + 1)))).length
section RefN
variable {X : mX} {d : Nat} {D : Nat → Nat × Nat} {I : Nat → Nat → Int32} {P : Nat → Nat → Option Nat} {N : Nat} {h : mH} {b : Nat → Int32} {J K K' : Nat → Nat → Int32} {n i j k p o m c : Nat} {kd ds fg x a y : Int32} {v : Int64} {T : List Nat} {B C : List Int32} {A : List pSt} {R : List pRu} {l6 : Value}
theorem R2_171 (hq : QR J K b n T 0 C) (hc : K 66 1 = Int32.ofNat c) (h8 : c < 8) : Rn X (d + 1) 251 171 [.ref 65, .int kd, .long v, U_, .int ds, .int fg, U_] [] (Mh D K P N) = some ([], Mh D (hdW K c kd ds fg C.length) P N) := by
  have h18 := hq.2.1.1
  have h19 := hq.2.1.2
  have w : ∀ (I : Nat → Nat → Int32) j x, j < 320 → hAS 0 (Mh D I P N) 66 (Int32.ofNat j) x = some (Mh D (u2 I 66 j x) P N) := fun I j x hj => wS hj
  have w0 := w K (86 + 4 * c) kd (by omega)
  have w1 := w (u2 K 66 (86 + 4 * c) kd) (86 + 4 * c + 1) ds (by omega)
  have w2 := w (u2 (u2 K 66 (86 + 4 * c) kd) 66 (86 + 4 * c + 1) ds) (86 + 4 * c + 2) fg (by omega)
  have w3 := w (u2 (u2 (u2 K 66 (86 + 4 * c) kd) 66 (86 + 4 * c + 1) ds) 66 (86 + 4 * c + 2) fg) (86 + 4 * c + 3) (Int32.ofNat C.length) (by omega)
  have r18 : u2 (u2 (u2 K 66 (86 + 4 * c) kd) 66 (86 + 4 * c + 1) ds) 66 (86 + 4 * c + 2) fg 65 18 = Int32.ofNat C.length := h18
  have r1 : u2 (u2 (u2 (u2 K 66 (86 + 4 * c) kd) 66 (86 + 4 * c + 1) ds) 66 (86 + 4 * c + 2) fg) 66 (86 + 4 * c + 3) (Int32.ofNat C.length) 66 1 = Int32.ofNat c := by
    rw [u2_s, upd_o (by omega), u2_s, upd_o (by omega), u2_s, upd_o (by omega), u2_s, upd_o (by omega)]; exact hc
  simp only [B251_171, RDm, Option.bind_some, List.append_nil, List.nil_append, List.cons_append, cond_true, cond_false, if_true, if_false, ite_true, ite_false, reduceIte, IC, bI_0, bI_1, bF, Bool.not_eq_false, Bool.not_eq_true, Bool.and_true, Bool.true_and, Bool.and_false, Bool.false_and, Bool.true_or, Bool.or_true, Bool.or_false, Bool.false_or, Bool.not_true, Bool.not_false, decide_true, decide_false, not_true_eq_false, not_false_eq_true, eq_self, Bool.true_eq_false, Bool.false_eq_true, h19, hc, IX, w0, w1, w2, w3, r18, r1, WRm, B251_246]
  rfl
theorem R2_13W (hq : QW J K b n T 0) : Rn X (d + 4) 251 136 [.ref 65, .int kd, .long v, U_, .int ds, U_, U_] [] (Mh D K P N) = some ([], Mh D K P N) := by
  have n10 : ¬ (1 : Int32) = 0 := by decide
  simp only [B251_136, RDm, Option.bind_some, List.append_nil, List.nil_append, List.cons_append, cond_true, cond_false, if_true, if_false, ite_true, ite_false, reduceIte, IC, bI_0, bI_1, bF, Bool.not_eq_false, Bool.not_eq_true, Bool.and_true, Bool.true_and, Bool.and_false, Bool.false_and, Bool.true_or, Bool.or_true, Bool.or_false, Bool.false_or, Bool.not_true, Bool.not_false, decide_true, decide_false, not_true_eq_false, not_false_eq_true, eq_self, Bool.true_eq_false, Bool.false_eq_true, hq.2, n10, B251_167, B251_168, IC, R2_wW (d := d) hq, B251_171, B251_246]
theorem R2_136 (hq : QR J K b n T 0 C) (g : Gt b n T) (hx : TxR J b n) (hc : J 66 1 = Int32.ofNat c) (h8 : c < 8) (hf : K 65 16 = fg) :
    (hS b n T = 59 → ∃ K1, Rn X (d + 4) 251 136 [.ref 65, .int kd, .long v, U_, .int ds, U_, U_] [] (Mh D K P N) = some ([], Mh D (hdW K1 c kd ds fg C.length) P N) ∧ QR J K1 b n T.tail 0 C)
    ∧ (¬ hS b n T = 59 → ∃ K1, Rn X (d + 4) 251 136 [.ref 65, .int kd, .long v, U_, .int ds, U_, U_] [] (Mh D K P N) = some ([], Mh D K1 P N) ∧ QW J K1 b n T 0) := by
  have hn := hx.2.1
  have hp := gt_P g
  have h19 := hq.2.1.2
  have n10 : ¬ (1 : Int32) = 0 := by decide
  have hb := R2_byt (X := X) (d := d + 3) (D := D) (P := P) (N := N) (hq.1.tx hx) (show hP n T ≤ 300 by omega)
  have e59 := hB_g (T := T) (c := 59) (hq.1.tx hx) (by decide)
  have step : Rn X (d + 4) 251 136 [.ref 65, .int kd, .long v, U_, .int ds, U_, U_] [] (Mh D K P N) = Rn X (d + 4) 251 158 [.ref 65, .int kd, .long v, U_, .int ds, .int fg, U_] [.int (rB K n (hP n T)), .ref 65] (Mh D K P N) := by
    simp only [B251_136, RDm, Option.bind_some, List.append_nil, List.nil_append, List.cons_append, cond_true, cond_false, if_true, if_false, ite_true, ite_false, reduceIte, IC, bI_0, bI_1, bF, Bool.not_eq_false, Bool.not_eq_true, Bool.and_true, Bool.true_and, Bool.and_false, Bool.false_and, Bool.true_or, Bool.or_true, Bool.or_false, Bool.false_or, Bool.not_true, Bool.not_false, decide_true, decide_false, not_true_eq_false, not_false_eq_true, eq_self, Bool.true_eq_false, Bool.false_eq_true, h19, hf, hq.1.2.1, IC, hb]
  rw [step]
  generalize rB K n (hP n T) = bb at e59
  refine ⟨fun h59 => ?_, fun h59 => ?_⟩
  · rw [h59] at e59
    have eb : bb = 59 := by rw [e59]
    obtain ⟨K1, e1, q1, -⟩ := R2_w1 (X := X) (d := d) (D := D) (P := P) (N := N) hq g hx
    have hk : K1 66 1 = Int32.ofNat c := (q1.1.1.2.2 1 (Or.inl (by decide))).trans hc
    refine ⟨K1, ?_, q1⟩
    simp only [B251_158, eb, Option.bind_some, List.append_nil, List.nil_append, List.cons_append, cond_true, cond_false, if_true, if_false, ite_true, ite_false, reduceIte, IC, bI_0, bI_1, bF, Bool.not_eq_false, Bool.not_eq_true, Bool.and_true, Bool.true_and, Bool.and_false, Bool.false_and, Bool.true_or, Bool.or_true, Bool.or_false, Bool.false_or, Bool.not_true, Bool.not_false, decide_true, decide_false, not_true_eq_false, not_false_eq_true, eq_self, Bool.true_eq_false, Bool.false_eq_true, B251_168, IC, e1, R2_171 (d := d + 3) q1 hk h8]
  · have eb : ¬ bb = 59 := by rw [e59]; exact h59
    obtain ⟨e1, q1⟩ := R2_w0 (X := X) (d := d) (D := D) (P := P) (N := N) hq
    refine ⟨u2 K 65 19 1, ?_, q1⟩
    simp only [B251_158, eb, Option.bind_some, List.append_nil, List.nil_append, List.cons_append, cond_true, cond_false, if_true, if_false, ite_true, ite_false, reduceIte, IC, bI_0, bI_1, bF, Bool.not_eq_false, Bool.not_eq_true, Bool.and_true, Bool.true_and, Bool.and_false, Bool.false_and, Bool.true_or, Bool.or_true, Bool.or_false, Bool.false_or, Bool.not_true, Bool.not_false, decide_true, decide_false, not_true_eq_false, not_false_eq_true, eq_self, Bool.true_eq_false, Bool.false_eq_true, B251_167, B251_168, IC, e1, B251_171, RDm, q1.2, n10, B251_246]
theorem QF.u16 (hq : QR J K b n T o C) : QR J (u2 K 65 16 x) b n T o C := ⟨hq.1.o65 (by omega), hq.2⟩
theorem QW.u16 (hq : QW J K b n T o) : QW J (u2 K 65 16 x) b n T o := ⟨hq.1.o65 (by omega), hq.2⟩
theorem R2_49W (hq : QW J K b n T 0) (g : Gt b n T) (hx : TxR J b n) : ∃ K', Rn X (d + 4) 251 49 [.ref 65, .int kd, U_, U_, U_, U_, U_] [] (Mh D K P N) = some ([], Mh D K' P N) ∧ QW J K' b n T 0 := by
  have hw := R2_wrW (X := X) (d := d + 1) (D := D) (P := P) (N := N) hq g hx
  have z1 : ¬ lg_cmp 0 441925 = 0 := fun q => absurd ((lg_cmp_eq _ _).mp q) (by decide)
  have z2 : ¬ lg_cmp 0 398963 = 0 := fun q => absurd ((lg_cmp_eq _ _).mp q) (by decide)
  have z3 : ¬ lg_cmp 0 14636 = 0 := fun q => absurd ((lg_cmp_eq _ _).mp q) (by decide)
  have m1 : (-1 : Int32) < 0 := by decide
  have q2 : QW J (u2 K 65 16 0) b n T 0 := hq.u16
  exact ⟨u2 K 65 16 0, by simp only [B251_49, IC, hw, Option.bind_some, List.append_nil, List.nil_append, List.cons_append, cond_true, cond_false, if_true, if_false, ite_true, ite_false, reduceIte, IC, bI_0, bI_1, bF, Bool.not_eq_false, Bool.not_eq_true, Bool.and_true, Bool.true_and, Bool.and_false, Bool.false_and, Bool.true_or, Bool.or_true, Bool.or_false, Bool.false_or, Bool.not_true, Bool.not_false, decide_true, decide_false, not_true_eq_false, not_false_eq_true, eq_self, Bool.true_eq_false, Bool.false_eq_true, B251_53, z1, z2, z3, B251_91, m1, B251_104, R2_wW (d := d) hq, B251_107, WRm, R2_13W (d := d) q2], q2⟩
theorem R2_dee (hq : QR J K b n T 0 (C ++ exL A)) (g : Gt b n T) (hx : TxR J b n) (hc : J 66 1 = Int32.ofNat c) (h8 : c < 8) : ∃ K', Rn X (d + 5) 251 49 [.ref 65, .int kd, U_, U_, U_, U_, U_] [] (Mh D K P N) = some ([], Mh D K' P N) ∧ QU J K' b n C c (deeP (hS b n) (hV b n) kd T A) := by
  have g1 := gt_tl g
  have g2 := gt_tl g1
  obtain ⟨v, hw, hv⟩ := R2_wrd (X := X) (d := d + 2) (D := D) (P := P) (N := N) hq g hx
  have n10 : ¬ (1 : Int32) = 0 := by decide
  unfold deeP
  -- the end, from 136 on
  have fin : ∀ (ds fg dd : Int32) (v : Int64) (T : List Nat) (K : Nat → Nat → Int32), QR J K b n T 0 (C ++ exL A) → Gt b n T → K 65 16 = fg → dd - 6 = ds → ∃ K', Rn X (d + 5) 251 136 [.ref 65, .int kd, .long v, U_, .int ds, U_, U_] [] (Mh D K P N) = some ([], Mh D K' P N) ∧ QU J K' b n C c (semP (hS b n) (kd, dd, fg, A) T) := by
    intro ds fg dd v T K hq g hf hd
    have h := R2_136 (X := X) (d := d + 1) (D := D) (P := P) (N := N) (kd := kd) (v := v) (ds := ds) hq g hx hc h8 hf
    unfold semP
    by_cases h59 : hS b n T = 59
    · obtain ⟨K1, e1, q1⟩ := h.1 h59
      rw [if_pos h59]
      exact ⟨_, e1, K1, q1, by rw [hd]⟩
    · obtain ⟨K1, e1, q1⟩ := h.2 h59
      rw [if_neg h59]
      exact ⟨K1, e1, q1⟩
  by_cases e8 : hS b n T = 8
  · rw [if_pos e8]
    obtain ⟨K1, e1, q1, -⟩ := R2_w1 (X := X) (d := d + 1) (D := D) (P := P) (N := N) hq g hx
    obtain ⟨K2, e2, q2⟩ := fin 2 0 8 v T.tail (u2 K1 65 16 0) (QF.u16 q1) g1 rfl (by decide)
    refine ⟨K2, ?_, q2⟩
    rw [← e2]
    simp +decide only [B251_49, IC, hw, Option.bind_some, List.append_nil, List.nil_append, List.cons_append, cond_true, cond_false, if_true, if_false, ite_true, ite_false, reduceIte, IC, bI_0, bI_1, bF, Bool.not_eq_false, Bool.not_eq_true, Bool.and_true, Bool.true_and, Bool.and_false, Bool.false_and, Bool.true_or, Bool.or_true, Bool.or_false, Bool.false_or, Bool.not_true, Bool.not_false, decide_true, decide_false, not_true_eq_false, not_false_eq_true, eq_self, Bool.true_eq_false, Bool.false_eq_true, B251_53, WCs hv, e8, B251_91, B251_104, e1, B251_107, WRm]
  · rw [if_neg e8]
    by_cases e67 : hS b n T = 6 ∨ hS b n T = 7
    · rw [if_pos e67]
      obtain ⟨K1, e1, q1, -⟩ := R2_w1 (X := X) (d := d + 1) (D := D) (P := P) (N := N) hq g hx
      obtain ⟨K2, e2, q2, q3⟩ := R2_num (X := X) (d := d) (D := D) (P := P) (N := N) (x := 99) (K := u2 K1 65 16 0) (QF.u16 q1) g1 hx
      have r19 : u2 K1 65 16 0 65 19 = 0 := q1.2.1.2
      have step : Rn X (d + 5) 251 49 [.ref 65, .int kd, U_, U_, U_, U_, U_] [] (Mh D K P N) = Rn X (d + 5) 251 136 [.ref 65, .int kd, .long v, U_, .int (hS b n T - 6), U_, U_] [] (Mh D K2 P N) := by
        rcases e67 with e | e <;> rw [e] <;> simp +decide only [B251_49, IC, hw, Option.bind_some, List.append_nil, List.nil_append, List.cons_append, cond_true, cond_false, if_true, if_false, ite_true, ite_false, reduceIte, IC, bI_0, bI_1, bF, Bool.not_eq_false, Bool.not_eq_true, Bool.and_true, Bool.true_and, Bool.and_false, Bool.false_and, Bool.true_or, Bool.or_true, Bool.or_false, Bool.false_or, Bool.not_true, Bool.not_false, decide_true, decide_false, not_true_eq_false, not_false_eq_true, eq_self, Bool.true_eq_false, Bool.false_eq_true, B251_53, WCs hv, e, B251_91, B251_104, e1, B251_107, WRm, RDm, r19, e2] <;> rfl
      rw [step]
      by_cases h18 : hS b n T.tail = 18 ∧ hV b n T.tail ≤ 99
      · rw [if_pos h18]
        obtain ⟨q4, q5⟩ := q2 h18
        exact fin _ _ (hS b n T) v T.tail.tail K2 q4 g2 q5 rfl
      · rw [if_neg h18]
        have q4 := q3 h18
        exact ⟨K2, R2_13W (d := d + 1) q4, q4⟩
    · rw [if_neg e67]
      have e6 : ¬ hS b n T = 6 := fun e => e67 (Or.inl e)
      have e7 : ¬ hS b n T = 7 := fun e => e67 (Or.inr e)
      obtain ⟨e1, q1⟩ := R2_w0 (X := X) (d := d + 1) (D := D) (P := P) (N := N) hq
      have m1 : (-1 : Int32) < 0 := by decide
      have q2 : QW J (u2 (u2 K 65 19 1) 65 16 0) b n T 0 := q1.u16
      refine ⟨u2 (u2 K 65 19 1) 65 16 0, ?_, q2⟩
      simp only [B251_49, IC, hw, Option.bind_some, List.append_nil, List.nil_append, List.cons_append, cond_true, cond_false, if_true, if_false, ite_true, ite_false, reduceIte, IC, bI_0, bI_1, bF, Bool.not_eq_false, Bool.not_eq_true, Bool.and_true, Bool.true_and, Bool.and_false, Bool.false_and, Bool.true_or, Bool.or_true, Bool.or_false, Bool.false_or, Bool.not_true, Bool.not_false, decide_true, decide_false, not_true_eq_false, not_false_eq_true, eq_self, Bool.true_eq_false, Bool.false_eq_true, B251_53, WCs hv, e6, e7, e8, B251_91, m1, B251_104, e1, B251_107, WRm, R2_13W (d := d + 1) q2]
theorem R2_rul (hq : QR J K b n T 0 C) (g : Gt b n T) (hx : TxR J b n) (hc : J 66 1 = Int32.ofNat c) (h9 : c ≤ 8) (hl : C.length ≤ hP n T) : ∃ K', Rn X (d + 19) 251 0 [.ref 65, U_, U_, U_, U_, U_, U_] [] (Mh D K P N) = some ([], Mh D K' P N) ∧ QU J K' b n C c (rulP (hS b n) (hV b n) c T) := by
  have hn := hx.2.1
  have g1 := gt_tl g
  have g2 := gt_tl g1
  have p1 := gt_P g
  have p2 := gt_P g1
  have hlen := gt_len g
  have hk := R2_knd (X := X) (d := d + 15) (D := D) (P := P) (N := N) hq g hx
  have hkc : K 66 1 = Int32.ofNat c := (hq.1.1.2.2 1 (Or.inl (by decide))).trans hc
  have bad : ∀ kd : Int32, ∃ K', Rn X (d + 19) 251 26 [.ref 65, .int kd, U_, U_, U_, U_, U_] [.int 0, .ref 65] (Mh D K P N) = some ([], Mh D K' P N) ∧ QW J K' b n T 0 := by
    intro kd
    obtain ⟨e1, q1⟩ := R2_w0 (X := X) (d := d + 15) (D := D) (P := P) (N := N) hq
    have hw := R2_wrW (X := X) (d := d + 16) (D := D) (P := P) (N := N) q1 g hx
    have z1 : ¬ lg_cmp 0 294 = 0 := fun q => absurd ((lg_cmp_eq _ _).mp q) (by decide)
    obtain ⟨K2, e2, q2⟩ := R2_49W (X := X) (d := d + 15) (D := D) (P := P) (N := N) (kd := kd) q1 g hx
    exact ⟨K2, by simp only [B251_26, IC, e1, Option.bind_some, List.append_nil, List.nil_append, List.cons_append, cond_true, cond_false, if_true, if_false, ite_true, ite_false, reduceIte, IC, bI_0, bI_1, bF, Bool.not_eq_false, Bool.not_eq_true, Bool.and_true, Bool.true_and, Bool.and_false, Bool.false_and, Bool.true_or, Bool.or_true, Bool.or_false, Bool.false_or, Bool.not_true, Bool.not_false, decide_true, decide_false, not_true_eq_false, not_false_eq_true, eq_self, Bool.true_eq_false, Bool.false_eq_true, B251_29, hw, B251_33, z1, e2], q2⟩
  unfold rulP
  by_cases h0 : c < 8 ∧ bt (hS b n T) 0 5 = true
  · rw [if_pos h0]
    have hb := bt_iff.mp h0.2
    have kd0 : ¬ hS b n T < 0 := by rw [Int32.lt_iff_toInt_lt, z_ti]; omega
    have k8 : ¬ (8 : Int32) ≤ Int32.ofNat c := le_n (l := 8) (n := 8) rfl (by omega) (by omega) h0.1
    have hne : T ≠ [] := gt_ne (b := b) (n := n) (fun e => by rw [e] at hb; exact absurd hb.2 (by decide))
    have htl : T.tail.length + 1 = T.length := by cases T with | nil => exact absurd rfl hne | cons p T => rfl
    obtain ⟨K1, e1, q1, -⟩ := R2_w1 (X := X) (d := d + 15) (D := D) (P := P) (N := N) hq g hx
    obtain ⟨v, hw, hv⟩ := R2_wrd (X := X) (d := d + 16) (D := D) (P := P) (N := N) q1 g1 hx
    have s1 : Rn X (d + 19) 251 0 [.ref 65, U_, U_, U_, U_, U_, U_] [] (Mh D K P N) = Rn X (d + 19) 251 33 [.ref 65, .int (hS b n T), U_, U_, U_, U_, U_] [.long v] (Mh D K1 P N) := by
      simp only [B251_0, IC, hk, h0.2, Option.bind_some, List.append_nil, List.nil_append, List.cons_append, cond_true, cond_false, if_true, if_false, ite_true, ite_false, reduceIte, IC, bI_0, bI_1, bF, Bool.not_eq_false, Bool.not_eq_true, Bool.and_true, Bool.true_and, Bool.and_false, Bool.false_and, Bool.true_or, Bool.or_true, Bool.or_false, Bool.false_or, Bool.not_true, Bool.not_false, decide_true, decide_false, not_true_eq_false, not_false_eq_true, eq_self, Bool.true_eq_false, Bool.false_eq_true, B251_4, kd0, RDm, hkc, k8, B251_26, e1, B251_29, hw]
    rw [s1]
    by_cases hif : hS b n T.tail = 9
    · rw [if_pos hif]
      obtain ⟨K2, e2, q2, -⟩ := R2_w1 (X := X) (d := d + 15) (D := D) (P := P) (N := N) q1 g1 hx
      have tl2 := tl_l (T := T.tail)
      obtain ⟨K3, e3, q3⟩ := R2_cnd (X := X) (d := d) (D := D) (P := P) (N := N) hx q2 g2 (by omega) (by omega)
      have s2 : Rn X (d + 19) 251 33 [.ref 65, .int (hS b n T), U_, U_, U_, U_, U_] [.long v] (Mh D K1 P N) = Rn X (d + 19) 251 49 [.ref 65, .int (hS b n T), U_, U_, U_, U_, U_] [] (Mh D K3 P N) := by
        simp only [B251_33, WCs hv, hif, Option.bind_some, List.append_nil, List.nil_append, List.cons_append, cond_true, cond_false, if_true, if_false, ite_true, ite_false, reduceIte, IC, bI_0, bI_1, bF, Bool.not_eq_false, Bool.not_eq_true, Bool.and_true, Bool.true_and, Bool.and_false, Bool.false_and, Bool.true_or, Bool.or_true, Bool.or_false, Bool.false_or, Bool.not_true, Bool.not_false, decide_true, decide_false, not_true_eq_false, not_false_eq_true, eq_self, Bool.true_eq_false, Bool.false_eq_true, IC, e2, B251_45, e3]
      rw [s2]
      have gc := GB_cnd (GB_grp (b := b) (n := n) 3) 200 false false T.tail.tail [] 0 0 g2 (by unfold o2; simp) (by unfold o2; simp [exL])
      generalize cndP (hS b n) (hV b n) (grpP (hS b n) (hV b n) 3) 200 false false T.tail.tail [] = cc at q3 gc ⊢
      obtain ⟨c1, T3, A3⟩ := cc
      obtain ⟨⟨gg, -, -⟩, -, -⟩ := gc
      obtain ⟨qa, qb⟩ := q3
      dsimp only at gg qa qb ⊢
      cases c1 with
      | false =>
        obtain ⟨K4, e4, q4⟩ := R2_49W (X := X) (d := d + 15) (D := D) (P := P) (N := N) (kd := hS b n T) (qb rfl) gg hx
        exact ⟨K4, e4, q4⟩
      | true => exact R2_dee (X := X) (d := d + 14) (D := D) (P := P) (N := N) (kd := hS b n T) (qa rfl) gg hx hc h0.1
    · rw [if_neg hif]
      have s2 : Rn X (d + 19) 251 33 [.ref 65, .int (hS b n T), U_, U_, U_, U_, U_] [.long v] (Mh D K1 P N) = Rn X (d + 19) 251 49 [.ref 65, .int (hS b n T), U_, U_, U_, U_, U_] [] (Mh D K1 P N) := by
        simp only [B251_33, WCs hv, hif, Option.bind_some, List.append_nil, List.nil_append, List.cons_append, cond_true, cond_false, if_true, if_false, ite_true, ite_false, reduceIte, IC, bI_0, bI_1, bF, Bool.not_eq_false, Bool.not_eq_true, Bool.and_true, Bool.true_and, Bool.and_false, Bool.false_and, Bool.true_or, Bool.or_true, Bool.or_false, Bool.false_or, Bool.not_true, Bool.not_false, decide_true, decide_false, not_true_eq_false, not_false_eq_true, eq_self, Bool.true_eq_false, Bool.false_eq_true]
      rw [s2]
      exact R2_dee (X := X) (d := d + 14) (D := D) (P := P) (N := N) (kd := hS b n T) (A := []) (by rw [show exL [] = [] from rfl, List.append_nil]; exact q1) g1 hx hc h0.1
  · rw [if_neg h0]
    by_cases hb : bt (hS b n T) 0 5 = true
    · have hc8 : c = 8 := by
        have : ¬ c < 8 := fun q => h0 ⟨q, hb⟩
        omega
      have hb2 := bt_iff.mp hb
      have kd0 : ¬ hS b n T < 0 := by rw [Int32.lt_iff_toInt_lt, z_ti]; omega
      have k8 : (8 : Int32) ≤ Int32.ofNat c := by rw [hc8]; decide
      obtain ⟨K', e, q⟩ := bad (hS b n T)
      refine ⟨K', ?_, q⟩
      simp only [B251_0, IC, hk, hb, Option.bind_some, List.append_nil, List.nil_append, List.cons_append, cond_true, cond_false, if_true, if_false, ite_true, ite_false, reduceIte, IC, bI_0, bI_1, bF, Bool.not_eq_false, Bool.not_eq_true, Bool.and_true, Bool.true_and, Bool.and_false, Bool.false_and, Bool.true_or, Bool.or_true, Bool.or_false, Bool.false_or, Bool.not_true, Bool.not_false, decide_true, decide_false, not_true_eq_false, not_false_eq_true, eq_self, Bool.true_eq_false, Bool.false_eq_true, B251_4, kd0, RDm, hkc, k8, B251_25, e]
    · have m1 : (-1 : Int32) < 0 := by decide
      obtain ⟨K', e, q⟩ := bad (-1)
      refine ⟨K', ?_, q⟩
      simp only [B251_0, IC, hk, hb, Option.bind_some, List.append_nil, List.nil_append, List.cons_append, cond_true, cond_false, if_true, if_false, ite_true, ite_false, reduceIte, IC, bI_0, bI_1, bF, Bool.not_eq_false, Bool.not_eq_true, Bool.and_true, Bool.true_and, Bool.and_false, Bool.false_and, Bool.true_or, Bool.or_true, Bool.or_false, Bool.false_or, Bool.not_true, Bool.not_false, decide_true, decide_false, not_true_eq_false, not_false_eq_true, eq_self, Bool.true_eq_false, Bool.false_eq_true, B251_4, m1, B251_25, e]
def RI (J K : Nat → Nat → Int32) (b : Nat → Int32) (n : Nat) (T : List Nat) (R : List pRu) : Prop :=
  ((∀ c, c ≠ 65 → c ≠ 66 → K c = J c) ∧ (∀ k, k < 14 ∨ 19 < k → K 65 k = J 65 k) ∧ (∀ k, (k < 86 ∧ k ≠ 1) ∨ 320 ≤ k → K 66 k = J 66 k)) ∧ K 66 1 = Int32.ofNat R.length ∧ HdR (K 66) R ∧ QR K K b n T 0 (exL (sgA R))
def RWr (J K : Nat → Nat → Int32) (n : Nat) (T : List Nat) : Prop :=
  ((∀ c, c ≠ 65 → c ≠ 66 → K c = J c) ∧ (∀ k, k < 14 ∨ 19 < k → K 65 k = J 65 k) ∧ (∀ k, 320 ≤ k → K 66 k = J 66 k)) ∧ K 65 14 = Int32.ofNat (hP n T) ∧ K 65 19 = 1
theorem rls_g : ∀ k T (R : List pRu), R.length + k = 9 → R.length ≤ 8 → Gt b n T → 2 * (sgA R).length ≤ hP n T → (exL (sgA R)).length ≤ hP n T → (∀ u, u ∈ R → UOK u) →
    (∀ u, u ∈ (rlsP (hS b n) (hV b n) k T R).2.2 → UOK u) ∧ 2 * (sgA (rlsP (hS b n) (hV b n) k T R).2.2).length ≤ n ∧ (exL (sgA (rlsP (hS b n) (hV b n) k T R).2.2)).length ≤ n ∧ (rlsP (hS b n) (hV b n) k T R).2.2.length ≤ 8 ∧ hP n (rlsP (hS b n) (hV b n) k T R).2.1 ≤ n
  | 0, T, R, hk, h8, g, h1, h2, hu => by omega
  | k + 1, [], R, hk, h8, g, h1, h2, hu => ⟨hu, h1, h2, h8, Nat.le_refl _⟩
  | k + 1, p :: T, R, hk, h8, g, h1, h2, hu => by
    have hr := rul_g (q := R.length) (2 * (sgA R).length) (exL (sgA R)).length g h1 h2
    have hp := gt_P g
    unfold rlsP
    generalize rulP (hS b n) (hV b n) R.length (p :: T) = q at hr ⊢
    obtain ⟨q1, T1⟩ := q
    obtain ⟨⟨g1, g2, g3⟩, h3⟩ := hr
    dsimp only at g1 g2 g3 h3 ⊢
    have hp1 := gt_P g1
    cases q1 with
    | none => exact ⟨hu, by show 2 * (sgA R).length ≤ n; omega, by show (exL (sgA R)).length ≤ n; omega, h8, hp1.1⟩
    | some u =>
      obtain ⟨u1, u2', u3, u4⟩ := h3 u rfl
      have e : sgA (R ++ [u]) = sgA R ++ u.2.2.2 := by
        rw [sgA_app]; show sgA R ++ (u.2.2.2 ++ []) = _; rw [List.append_nil]
      refine rls_g k T1 (R ++ [u]) (by simp; omega) (by simp; omega) g1 (by rw [e, List.length_append]; omega) (by rw [e, exL_app, List.length_append]; omega) (fun w hw => ?_)
      rcases List.mem_append.mp hw with q | q
      · exact hu w q
      · rw [List.mem_singleton.mp q]; exact u1
theorem hdW_o {s : Nat} {K : Nat → Nat → Int32} (h1 : s ≠ 1) (h2 : s < 86 + 4 * c ∨ 86 + 4 * c + 3 < s) : hdW K c kd ds fg m 66 s = K 66 s := by
  unfold hdW
  rw [u2_s, upd_o h1, u2_s, upd_o (by omega), u2_s, upd_o (by omega), u2_s, upd_o (by omega), u2_s, upd_o (by omega)]
theorem hdW_i {K : Nat → Nat → Int32} : hdW K c kd ds fg m 66 (86 + 4 * c) = kd ∧ hdW K c kd ds fg m 66 (86 + 4 * c + 1) = ds ∧ hdW K c kd ds fg m 66 (86 + 4 * c + 2) = fg ∧ hdW K c kd ds fg m 66 (86 + 4 * c + 3) = Int32.ofNat m ∧ hdW K c kd ds fg m 66 1 = Int32.ofNat (c + 1) := by
  unfold hdW
  refine ⟨?_, ?_, ?_, ?_, ?_⟩
  · rw [u2_s, upd_o (by omega), u2_s, upd_o (by omega), u2_s, upd_o (by omega), u2_s, upd_o (by omega), u2_s, upd_s]
  · rw [u2_s, upd_o (by omega), u2_s, upd_o (by omega), u2_s, upd_o (by omega), u2_s, upd_s]
  · rw [u2_s, upd_o (by omega), u2_s, upd_o (by omega), u2_s, upd_s]
  · rw [u2_s, upd_o (by omega), u2_s, upd_s]
  · rw [u2_s, upd_s]
theorem hdW_c {K : Nat → Nat → Int32} (h : i ≠ 66) : hdW K c kd ds fg m i = K i := by
  unfold hdW
  rw [u2_o h, u2_o h, u2_o h, u2_o h, u2_o h]
theorem codR_of {c c' : Nat → Int32} : ∀ (C : List Int32) (i : Nat), codR c i C → (∀ j, i ≤ j → j < i + C.length → c' j = c j) → codR c' i C
  | [], _, _, _ => trivial
  | y :: C, i, h, he => ⟨(he i (Nat.le_refl _) (by simp)).trans h.1, codR_of C (i + 1) h.2 (fun j h1 h2 => he j (by omega) (by simp; omega))⟩
theorem R2_rls (hx : TxR J b n) : ∀ k T R K, R.length + k = 9 → R.length ≤ 8 → RI J K b n T R → Gt b n T → 2 * (sgA R).length ≤ hP n T → (exL (sgA R)).length ≤ hP n T →
    ∃ K', Rn X (d + 20) 252 35 [.ref 65] [] (Mh D K P N) = Rn X (d + 20) 252 60 [.ref 65] [] (Mh D K' P N) ∧ ((rlsP (hS b n) (hV b n) k T R).1 = true → RI J K' b n (rlsP (hS b n) (hV b n) k T R).2.1 (rlsP (hS b n) (hV b n) k T R).2.2) ∧ ((rlsP (hS b n) (hV b n) k T R).1 = false → RWr J K' n (rlsP (hS b n) (hV b n) k T R).2.1)
  | 0, T, R, K, hk, h8, _, _, _, _ => by omega
  | k + 1, [], R, K, hk, h8, hR, g, h1, h2 => by
    have hq := hR.2.2.2
    have h13 : K 65 13 = Int32.ofNat n := (hR.1.2.1 13 (Or.inl (by decide))).trans hx.1
    have h14 : K 65 14 = Int32.ofNat n := hq.1.2.1
    refine ⟨K, ?_, fun _ => hR, fun q => (by cases q)⟩
    simp only [B252_35, RDm, Option.bind_some, List.append_nil, List.nil_append, List.cons_append, cond_true, cond_false, if_true, if_false, ite_true, ite_false, reduceIte, IC, bI_0, bI_1, bF, Bool.not_eq_false, Bool.not_eq_true, Bool.and_true, Bool.true_and, Bool.and_false, Bool.false_and, Bool.true_or, Bool.or_true, Bool.or_false, Bool.false_or, Bool.not_true, Bool.not_false, decide_true, decide_false, not_true_eq_false, not_false_eq_true, eq_self, Bool.true_eq_false, Bool.false_eq_true, hq.2.1.2, h13, h14, Int32.le_refl]
  | k + 1, p :: T, R, K, hk, h8, hR, g, h1, h2 => by
    have hn := hx.2.1
    obtain ⟨⟨f1, f2, f3⟩, hc, hd, hq⟩ := hR
    have hxk : TxR K b n := hx.of (f2 13 (Or.inl (by decide))) (f1 72 (by decide) (by decide))
    have h14 : K 65 14 = Int32.ofNat p := hq.1.2.1
    have hpn : p < n := g.1
    have hl : ¬ Int32.ofNat n ≤ Int32.ofNat p := by rw [iN_le (by omega) (by omega)]; omega
    obtain ⟨K1, e1, q1⟩ := R2_rul (X := X) (d := d) (D := D) (P := P) (N := N) hq g hxk hc h8 h2
    have hr := rul_g (q := R.length) (2 * (sgA R).length) (exL (sgA R)).length g h1 h2
    have s1 : Rn X (d + 20) 252 35 [.ref 65] [] (Mh D K P N) = Rn X (d + 20) 252 35 [.ref 65] [] (Mh D K1 P N) := by
      rw [B252_35]
      simp only [RDm, Option.bind_some, List.append_nil, List.nil_append, List.cons_append, cond_true, cond_false, if_true, if_false, ite_true, ite_false, reduceIte, IC, bI_0, bI_1, bF, Bool.not_eq_false, Bool.not_eq_true, Bool.and_true, Bool.true_and, Bool.and_false, Bool.false_and, Bool.true_or, Bool.or_true, Bool.or_false, Bool.false_or, Bool.not_true, Bool.not_false, decide_true, decide_false, not_true_eq_false, not_false_eq_true, eq_self, Bool.true_eq_false, Bool.false_eq_true, hq.2.1.2, hxk.1, h14, hl, IC, e1, B252_57]
    rw [s1]
    unfold rlsP
    generalize rulP (hS b n) (hV b n) R.length (p :: T) = q at q1 hr ⊢
    obtain ⟨qo, T1⟩ := q
    obtain ⟨⟨g1, g2, g3⟩, h3⟩ := hr
    dsimp only at g1 g2 g3 h3 ⊢
    cases qo with
    | none =>
      have qw : QW K K1 b n T1 0 := q1
      have n10 : ¬ (1 : Int32) = 0 := by decide
      refine ⟨K1, by simp only [B252_35, RDm, Option.bind_some, List.append_nil, List.nil_append, List.cons_append, cond_true, cond_false, if_true, if_false, ite_true, ite_false, reduceIte, IC, bI_0, bI_1, bF, Bool.not_eq_false, Bool.not_eq_true, Bool.and_true, Bool.true_and, Bool.and_false, Bool.false_and, Bool.true_or, Bool.or_true, Bool.or_false, Bool.false_or, Bool.not_true, Bool.not_false, decide_true, decide_false, not_true_eq_false, not_false_eq_true, eq_self, Bool.true_eq_false, Bool.false_eq_true, qw.2, n10], fun q => (by cases q), fun _ => ⟨⟨fun c h1 h2 => (qw.1.1.1 c h1 h2).trans (f1 c h1 h2), fun k hk => (qw.1.1.2.1 k hk).trans (f2 k hk), fun k hk => (qw.1.1.2.2 k (Or.inr hk)).trans (f3 k (Or.inr hk))⟩, qw.1.2.1, qw.2⟩⟩
    | some u =>
      obtain ⟨u1, u2', u3, u4⟩ := h3 u rfl
      obtain ⟨K2, q2, e2⟩ : ∃ K2, QR K K2 b n T1 0 (exL (sgA R) ++ exL u.2.2.2) ∧ K1 = hdW K2 R.length u.1 (u.2.1 - 6) u.2.2.1 (exL (sgA R) ++ exL u.2.2.2).length := q1
      have hp1 := gt_P g1
      have e : sgA (R ++ [u]) = sgA R ++ u.2.2.2 := by
        rw [sgA_app]; show sgA R ++ (u.2.2.2 ++ []) = _; rw [List.append_nil]
      have ee : exL (sgA (R ++ [u])) = exL (sgA R) ++ exL u.2.2.2 := by rw [e, exL_app]
      obtain ⟨⟨v1, v2, v3⟩, v4, v5, v6⟩ := q2.1
      have hi := hdW_i (K := K2) (c := R.length) (kd := u.1) (ds := u.2.1 - 6) (fg := u.2.2.1) (m := (exL (sgA R) ++ exL u.2.2.2).length)
      rw [← e2] at hi
      have ho : ∀ s, s ≠ 1 → (s < 86 + 4 * R.length ∨ 86 + 4 * R.length + 3 < s) → K1 66 s = K2 66 s := fun s q1 q2 => by rw [e2]; exact hdW_o q1 q2
      have hcc : ∀ i, i ≠ 66 → K1 i = K2 i := fun i hi => by rw [e2]; exact hdW_c hi
      refine R2_rls hx k T1 (R ++ [u]) K1 (by simp; omega) (by simp; omega) ⟨⟨fun c q1 q2 => ?_, fun k hk => ?_, fun k hk => ?_⟩, ?_, ?_, ?_⟩ g1 (by rw [e, List.length_append]; omega) (by rw [ee, List.length_append]; omega)
      · rw [hcc c q2, v1 c q1 q2]; exact f1 c q1 q2
      · rw [hcc 65 (by decide), v2 k hk]; exact f2 k hk
      · rw [ho k (by omega) (by omega), v3 k (by omega)]; exact f3 k hk
      · rw [hi.2.2.2.2, List.length_append]; rfl
      · intro j w hj
        by_cases hjl : j < R.length
        · rw [List.getElem?_append_left hjl] at hj
          have := hd j w hj
          have et : (R ++ [u]).take (j + 1) = R.take (j + 1) := by rw [List.take_append_of_le_length (by omega)]
          rw [et]
          refine ⟨?_, ?_, ?_, ?_⟩
          · rw [ho _ (by omega) (by omega), v3 _ (by omega)]; exact this.1
          · rw [ho _ (by omega) (by omega), v3 _ (by omega)]; exact this.2.1
          · rw [ho _ (by omega) (by omega), v3 _ (by omega)]; exact this.2.2.1
          · rw [ho _ (by omega) (by omega), v3 _ (by omega)]; exact this.2.2.2
        · have hj0 : j = R.length := by
            have := (List.getElem?_eq_some_iff.mp hj).1
            simp at this; omega
          subst hj0
          rw [List.getElem?_append_right (Nat.le_refl _), Nat.sub_self] at hj
          cases hj
          have et : (R ++ [u]).take (R.length + 1) = R ++ [u] := List.take_of_length_le (by simp)
          rw [et, ee]
          exact ⟨hi.1, hi.2.1, hi.2.2.1, hi.2.2.2.1⟩
      · have h65 := hcc 65 (by decide)
        refine ⟨⟨⟨fun _ _ _ => rfl, fun _ _ => rfl, fun _ _ => rfl⟩, by rw [h65]; exact v4, by rw [h65]; exact v5, by rw [h65]; exact v6⟩, ⟨by rw [h65, ee]; exact q2.2.1.1, by rw [h65]; exact q2.2.1.2⟩, ?_⟩
        rw [ee]
        refine codR_of _ 0 q2.2.2 (fun j h1 h2 => ?_)
        exact ho _ (by omega) (by omega)
def rlRes (b : Nat → Int32) (n : Nat) : Bool × List Nat × List pRu := rlsP (hS b n) (hV b n) 9 (tk b n 0) []
/-- rows behind rules(): s before, t behind -/
def RowN (s t : Nat → Int32) (R : List pRu) : Prop := (∀ k, (k < 86 ∧ k ≠ 1) ∨ 320 ≤ k → t k = s k) ∧ t 1 = Int32.ofNat R.length ∧ HdR t R ∧ codR (fun j => t (118 + j)) 0 (exL (sgA R))
theorem F_rul (hx : TxR I b n) : ∃ I', Rn X (d + 40) 252 0 [.ref 65] [] (Mh D I P N) = some ([.int (if (rlRes b n).1 = true then Int32.ofNat (rlRes b n).2.2.length else (-100) - Int32.ofNat (hP n (rlRes b n).2.1))], Mh D I' P N)
    ∧ ((∀ c, c ≠ 65 → c ≠ 66 → c ≠ 68 → I' c = I c) ∧ (∀ k, k < 13 ∨ 19 < k → I' 65 k = I 65 k) ∧ I' 65 13 = 0) ∧ ((rlRes b n).1 = true → RowN (I 66) (I' 66) (rlRes b n).2.2) ∧ ((rlRes b n).1 = false → I' 66 = I 66) := by
  have hn := hx.2.1
  have ep := M_pt (X := X) (d := d + 39) (D := D) (J := I) (P := P) (N := N) (g := I 69) (s := I 66)
  rw [R6_id] at ep
  generalize hJ : R6 (u2r I 68 (row320 (I 66) (I 68))) (I 69) (I 66) = J at ep
  have jo : ∀ c, c ≠ 68 → J c = I c := by
    intro c hc
    rw [← hJ]
    by_cases h1 : c = 66
    · subst h1; exact R6_66
    · by_cases h2 : c = 69
      · subst h2; rfl
      · rw [R6_o h1 h2, u2r_o hc]
  have j68 : J 68 = row320 (I 66) (I 68) := by rw [← hJ, R6_o (by decide) (by decide), u2r_s]
  generalize hK : u2 (u2 (u2 (u2 (u2 J 66 1 0) 65 18 0) 65 17 0) 65 15 0) 65 19 0 = K0
  have k0o : ∀ c, c ≠ 65 → c ≠ 66 → K0 c = J c := fun c h1 h2 => by rw [← hK, u2_o h1, u2_o h1, u2_o h1, u2_o h1, u2_o h2]
  have k065 : ∀ k, k < 14 ∨ 19 < k → K0 65 k = J 65 k := fun k hk => by
    rw [← hK, u2_s, upd_o (by omega), u2_s, upd_o (by omega), u2_s, upd_o (by omega), u2_s, upd_o (by omega)]; rfl
  have k066 : ∀ k, k ≠ 1 → K0 66 k = J 66 k := fun k hk => by
    rw [← hK]
    show upd (J 66) 1 0 k = _
    rw [upd_o hk]
  have hxJ : TxR J b n := hx.of (by rw [jo 65 (by decide)]) (jo 72 (by decide))
  have hxK : TxR K0 b n := hxJ.of (k065 13 (Or.inl (by decide))) (k0o 72 (by decide) (by decide))
  have et := R2_tok (X := X) (d := d + 37) (D := D) (P := P) (N := N) (b := b) (i := 0) hxK (by rw [← hK]; rfl) (Nat.zero_le _)
  generalize hK1 : u2 (u2 K0 65 14 (Int32.ofNat (hP n (tk b n 0)))) 65 15 (Int32.ofNat (hE b n (tk b n 0))) = K1 at et
  have k1o : ∀ c, c ≠ 65 → K1 c = K0 c := fun c h1 => by rw [← hK1, u2_o h1, u2_o h1]
  have k165 : ∀ k, k < 14 ∨ 15 < k → K1 65 k = K0 65 k := fun k hk => by
    rw [← hK1, u2_s, upd_o (by omega), u2_s, upd_o (by omega)]
  have hR : RI J K1 b n (tk b n 0) [] := by
    refine ⟨⟨fun c h1 h2 => by rw [k1o c h1]; exact k0o c h1 h2, fun k hk => by rw [k165 k (by omega)]; exact k065 k hk, fun k hk => by rw [k1o 66 (by decide)]; exact k066 k (by omega)⟩, ?_, fun k u hu => by simp at hu, ⟨⟨fun _ _ _ => rfl, fun _ _ => rfl, fun _ _ => rfl⟩, ?_, ?_, ?_⟩, ⟨?_, ?_⟩, trivial⟩
    · rw [k1o 66 (by decide), ← hK]; rfl
    · rw [← hK1]; rfl
    · rw [← hK1]; rfl
    · rw [k165 17 (by decide), ← hK]; rfl
    · rw [k165 18 (by decide), ← hK]; rfl
    · rw [k165 19 (by decide), ← hK]; rfl
  obtain ⟨K2, e2, q2, q3⟩ := R2_rls (X := X) (d := d + 20) (D := D) (P := P) (N := N) hxJ 9 (tk b n 0) [] K1 rfl (by simp) hR (tk_G (Nat.zero_le _)) (by simp [sgA]) (by simp [sgA, exL])
  have s1 : Rn X (d + 40) 252 0 [.ref 65] [] (Mh D I P N) = Rn X (d + 40) 252 60 [.ref 65] [] (Mh D K2 P N) := by
    rw [← e2]
    simp only [B252_0, IC, ep, Option.bind_some, List.append_nil, List.nil_append, List.cons_append, cond_true, cond_false, if_true, if_false, ite_true, ite_false, reduceIte, IC, bI_0, bI_1, bF, Bool.not_eq_false, Bool.not_eq_true, Bool.and_true, Bool.true_and, Bool.and_false, Bool.false_and, Bool.true_or, Bool.or_true, Bool.or_false, Bool.false_or, Bool.not_true, Bool.not_false, decide_true, decide_false, not_true_eq_false, not_false_eq_true, eq_self, Bool.true_eq_false, Bool.false_eq_true, B252_4, RDm, WRm, hK, et]
  rw [s1]
  change (rlRes b n).1 = true → RI J K2 b n (rlRes b n).2.1 (rlRes b n).2.2 at q2
  change (rlRes b n).1 = false → RWr J K2 n (rlRes b n).2.1 at q3
  have t13 : u2 K2 65 13 0 65 13 = 0 := rfl
  cases hr : (rlRes b n).1 with
  | true =>
    obtain ⟨⟨f1, f2, f3⟩, hc, hd, hq⟩ := q2 hr
    have h19 : u2 K2 65 13 0 65 19 = 0 := hq.2.1.2
    have h1 : u2 K2 65 13 0 66 1 = Int32.ofNat (rlRes b n).2.2.length := hc
    refine ⟨u2 K2 65 13 0, ?_, ⟨fun c q1 q2 q3 => ?_, fun k hk => ?_, t13⟩, fun _ => ⟨fun k hk => ?_, hc, hd, hq.2.2⟩, fun q => (by cases q)⟩
    · simp only [B252_60, WRm, RDm, Option.bind_some, List.append_nil, List.nil_append, List.cons_append, cond_true, cond_false, if_true, if_false, ite_true, ite_false, reduceIte, IC, bI_0, bI_1, bF, Bool.not_eq_false, Bool.not_eq_true, Bool.and_true, Bool.true_and, Bool.and_false, Bool.false_and, Bool.true_or, Bool.or_true, Bool.or_false, Bool.false_or, Bool.not_true, Bool.not_false, decide_true, decide_false, not_true_eq_false, not_false_eq_true, eq_self, Bool.true_eq_false, Bool.false_eq_true, h19, h1]
    · rw [u2_o q1, f1 c q1 q2]; exact jo c q3
    · rw [u2_s, upd_o (by omega), f2 k (by omega), jo 65 (by decide)]
    · show K2 66 k = _
      rw [f3 k hk, jo 66 (by decide)]
  | false =>
    obtain ⟨⟨f1, f2, f3⟩, h14, h19⟩ := q3 hr
    have n10 : ¬ (1 : Int32) = 0 := by decide
    have h19' : u2 K2 65 13 0 65 19 = 1 := h19
    generalize hK3 : u2 K2 65 13 0 = K3
    rw [hK3] at h19' t13
    have k3o : ∀ c, c ≠ 65 → K3 c = K2 c := fun c hc => by rw [← hK3, u2_o hc]
    have k365 : ∀ k, k ≠ 13 → K3 65 k = K2 65 k := fun k hk => by rw [← hK3, u2_s, upd_o hk]
    have k368 : K3 68 = row320 (I 66) (I 68) := by rw [k3o 68 (by decide), f1 68 (by decide) (by decide), j68]
    have eb := M_pb (X := X) (d := d + 39) (D := D) (J := K3) (P := P) (N := N) (c := I 68) (g := K3 69) (s := K3 66) (r := I 66) (fun k hk => by rw [k3o 66 (by decide), f3 k hk, jo 66 (by decide)])
    rw [← k368, u2r_id, R6_id] at eb
    generalize hK4 : R6 K3 (K3 69) (I 66) = K4 at eb
    have k4o : ∀ c, c ≠ 66 → K4 c = K3 c := by
      intro c hc
      rw [← hK4]
      by_cases h2 : c = 69
      · subst h2; rfl
      · rw [R6_o hc h2]
    have h14' : K4 65 14 = Int32.ofNat (hP n (rlRes b n).2.1) := by rw [k4o 65 (by decide), k365 14 (by decide)]; exact h14
    refine ⟨K4, ?_, ⟨fun c q1 q2 q3 => ?_, fun k hk => ?_, ?_⟩, fun q => (by cases q), fun _ => by rw [← hK4]; exact R6_66⟩
    · simp only [B252_60, WRm, hK3, RDm, Option.bind_some, List.append_nil, List.nil_append, List.cons_append, cond_true, cond_false, if_true, if_false, ite_true, ite_false, reduceIte, IC, bI_0, bI_1, bF, Bool.not_eq_false, Bool.not_eq_true, Bool.and_true, Bool.true_and, Bool.and_false, Bool.false_and, Bool.true_or, Bool.or_true, Bool.or_false, Bool.false_or, Bool.not_true, Bool.not_false, decide_true, decide_false, not_true_eq_false, not_false_eq_true, eq_self, Bool.true_eq_false, Bool.false_eq_true, h19', n10, IC, eb, B252_76, h14']
    · rw [k4o c q2, k3o c q1, f1 c q1 q2]; exact jo c q3
    · rw [k4o 65 (by decide), k365 k (by omega), f2 k (by omega), jo 65 (by decide)]
    · rw [k4o 65 (by decide)]; exact t13
end RefN
