/-! the class reads rules -/
def HdC (K : Nat → Nat → Int32) (q : Nat) (R : List pRu) : Prop := ∀ k u, R[k]? = some u → K (q + 1) k = u.1 ∧ K (q + 2) k = u.2.1 ∧ K (q + 3) k = u.2.2.1 ∧ K (q + 4) k = Int32.ofNat (sgA (R.take (k + 1))).length
def edW (K : Nat → Nat → Int32) (q c : Nat) (u : pRu) (m : Nat) : Nat → Nat → Int32 := u2 (u2 (u2 (u2 (u2 K (q + 1) c u.1) (q + 2) c u.2.1) (q + 3) c u.2.2.1) (q + 4) c (Int32.ofNat m)) q 0 (Int32.ofNat (c + 1))
def CU (J K' : Nat → Nat → Int32) (T0 : List Nat) (q : Nat) (B : List pSt) (c : Nat) (w : Option pRu × List Nat) : Prop := match w.1 with
  | none => CF J K' T0 q w.2
  | some u => ∃ K1, CQ J K1 T0 q w.2 (B ++ u.2.2.2) ∧ K' = edW K1 q c u (B ++ u.2.2.2).length
def oB (w : Option pRu) : Bool := w.isSome
section ClsS
variable {X : mX} {d : Nat} {D : Nat → Nat × Nat} {I : Nat → Nat → Int32} {P : Nat → Nat → Option Nat} {N : Nat} {h : mH} {b : Nat → Int32} {J J0 K K' : Nat → Nat → Int32} {n i j k p o m l s q c : Nat} {kd ds fg x a y z : Int32} {T T0 : List Nat} {A B : List pSt} {R : List pRu} {u : pRu}
theorem K2_end (he : CE D P N J b n T0 q) (h : CQ J K T0 q T A) (hc : J q 0 = Int32.ofNat c) (h8 : c < 8) : Rn X d 72 0 [.ref q, .int u.1, .int u.2.1, .int u.2.2.1] [] (Mh D K P N) = some ([], Mh D (edW K q c u A.length) P N) := by
  have hR := he.2.1
  have h80 := he.2.2.1
  have q0 : K q 0 = Int32.ofNat c := h.2.2.1.trans hc
  have q8 := h.2.1.1
  have n8 : ¬ (8 : Int32) ≤ Int32.ofNat c := le_n (l := 8) (n := 8) rfl (by omega) (by omega) h8
  have o : ∀ (I : Nat → Nat → Int32) j i x k, 1 ≤ j → u2 I (q + j) i x q k = I q k := fun I j i x k hj => by rw [u2_o (by omega)]
  have r1 : u2 K (q + 1) c u.1 q 0 = Int32.ofNat c := by rw [o _ _ _ _ _ (by omega)]; exact q0
  have r2 : u2 (u2 K (q + 1) c u.1) (q + 2) c u.2.1 q 0 = Int32.ofNat c := by rw [o _ _ _ _ _ (by omega)]; exact r1
  have r3 : u2 (u2 (u2 K (q + 1) c u.1) (q + 2) c u.2.1) (q + 3) c u.2.2.1 q 0 = Int32.ofNat c := by rw [o _ _ _ _ _ (by omega)]; exact r2
  have r8 : u2 (u2 (u2 K (q + 1) c u.1) (q + 2) c u.2.1) (q + 3) c u.2.2.1 q 8 = Int32.ofNat A.length := by rw [o _ _ _ _ _ (by omega), o _ _ _ _ _ (by omega), o _ _ _ _ _ (by omega)]; exact q8
  have r4 : u2 (u2 (u2 (u2 K (q + 1) c u.1) (q + 2) c u.2.1) (q + 3) c u.2.2.1) (q + 4) c (Int32.ofNat A.length) q 0 = Int32.ofNat c := by rw [o _ _ _ _ _ (by omega)]; exact r3
  simp only [B72_0, rdR5 hR, q0, n8, Option.bind_some, List.append_nil, List.nil_append, List.cons_append, cond_true, cond_false, if_true, if_false, ite_true, ite_false, reduceIte, IC, bI_0, bI_1, bF, Bool.not_eq_false, Bool.not_eq_true, Bool.and_true, Bool.true_and, Bool.and_false, Bool.false_and, Bool.true_or, Bool.or_true, Bool.or_false, Bool.false_or, Bool.not_true, Bool.not_false, decide_true, decide_false, not_true_eq_false, not_false_eq_true, eq_self, Bool.true_eq_false, Bool.false_eq_true, wR8 hR (show 1 ≤ 1 by omega) (show 1 ≤ 4 by omega) h8, r1, wR8 hR (show 1 ≤ 2 by omega) (show 2 ≤ 4 by omega) h8, r2, wR8 hR (show 1 ≤ 3 by omega) (show 3 ≤ 4 by omega) h8, r3, r8, wR8 hR (show 1 ≤ 4 by omega) (show 4 ≤ 4 by omega) h8, r4, wR5 hR, IX, B72_62]
  rfl
theorem K2_75 (he : CE D P N J b n T0 q) (h : CQ J K T0 q T (B ++ A)) (hc : J q 0 = Int32.ofNat c) (h8 : c < 8) : ∃ K', Rn X (d + 1) 53 75 [.ref 36, .int kd, .int ds, .int fg] [] (Mh D K P N) = some ([.int (bI (oB (semP (hS b n) (kd, ds, fg, A) T).1))], Mh D K' P N) ∧ CU J K' T0 q B c (semP (hS b n) (kd, ds, fg, A) T) := by
  have hR := he.2.1
  unfold semP
  by_cases h59 : hS b n T = 59
  · obtain ⟨x3, e3, h3⟩ := h.adv he (gt_ne (b := b) (n := n) (by rw [h59]; decide))
    have ee := K2_end (X := X) (d := d) (u := (kd, ds, fg, A)) he h3 hc h8
    rw [if_pos h59]
    refine ⟨_, ?_, _, h3, rfl⟩
    simp only [B53_75, IC, K2_tok he h.1, Option.bind_some, List.append_nil, List.nil_append, List.cons_append, cond_true, cond_false, if_true, if_false, ite_true, ite_false, reduceIte, IC, bI_0, bI_1, bF, Bool.not_eq_false, Bool.not_eq_true, Bool.and_true, Bool.true_and, Bool.and_false, Bool.false_and, Bool.true_or, Bool.or_true, Bool.or_false, Bool.false_or, Bool.not_true, Bool.not_false, decide_true, decide_false, not_true_eq_false, not_false_eq_true, eq_self, Bool.true_eq_false, Bool.false_eq_true, B53_79, h59, RDc, e3, WRc, he.1, rdR5 hR, ee, B53_106]
    rfl
  · rw [if_neg h59]
    refine ⟨K, ?_, h.1⟩
    simp only [B53_75, IC, K2_tok he h.1, Option.bind_some, List.append_nil, List.nil_append, List.cons_append, cond_true, cond_false, if_true, if_false, ite_true, ite_false, reduceIte, IC, bI_0, bI_1, bF, Bool.not_eq_false, Bool.not_eq_true, Bool.and_true, Bool.true_and, Bool.and_false, Bool.false_and, Bool.true_or, Bool.or_true, Bool.or_false, Bool.false_or, Bool.not_true, Bool.not_false, decide_true, decide_false, not_true_eq_false, not_false_eq_true, eq_self, Bool.true_eq_false, Bool.false_eq_true, B53_79, h59]
    rfl
theorem K2_dee (he : CE D P N J b n T0 q) (h : CQ J K T0 q T (B ++ A)) (hc : J q 0 = Int32.ofNat c) (h8 : c < 8) : ∃ K', Rn X (d + 1) 53 0 [.ref 36, .int kd, U_, U_] [] (Mh D K P N) = some ([.int (bI (oB (deeP (hS b n) (hV b n) kd T A).1))], Mh D K' P N) ∧ CU J K' T0 q B c (deeP (hS b n) (hV b n) kd T A) := by
  unfold deeP
  have s0 : Rn X (d + 1) 53 0 [.ref 36, .int kd, U_, U_] [] (Mh D K P N) = (if hS b n T = 6 then Rn X (d + 1) 53 27 [.ref 36, .int kd, .int (hS b n T), .int 0] [] (Mh D K P N) else if hS b n T = 7 then Rn X (d + 1) 53 27 [.ref 36, .int kd, .int (hS b n T), .int 0] [] (Mh D K P N) else if hS b n T = 8 then Rn X (d + 1) 53 27 [.ref 36, .int kd, .int (hS b n T), .int 0] [] (Mh D K P N) else some ([.int 0], Mh D K P N)) := by
    rw [B53_0]
    simp only [IC, K2_tok he h.1, Option.bind_some, List.append_nil, List.nil_append, List.cons_append, cond_true, cond_false, if_true, if_false, ite_true, ite_false, reduceIte, IC, bI_0, bI_1, bF, Bool.not_eq_false, Bool.not_eq_true, Bool.and_true, Bool.true_and, Bool.and_false, Bool.false_and, Bool.true_or, Bool.or_true, Bool.or_false, Bool.false_or, Bool.not_true, Bool.not_false, decide_true, decide_false, not_true_eq_false, not_false_eq_true, eq_self, Bool.true_eq_false, Bool.false_eq_true, B53_4]
  by_cases e8 : hS b n T = 8
  · obtain ⟨x1, e1, h1⟩ := h.adv he (gt_ne (b := b) (n := n) (by rw [e8]; decide))
    obtain ⟨K2, e2, q2⟩ := K2_75 (X := X) (d := d) (kd := kd) (ds := 8) (fg := 0) he h1 hc h8
    rw [if_pos e8]
    refine ⟨K2, ?_, q2⟩
    rw [← e2, s0]
    simp +decide only [e8, Option.bind_some, List.append_nil, List.nil_append, List.cons_append, cond_true, cond_false, if_true, if_false, ite_true, ite_false, reduceIte, IC, bI_0, bI_1, bF, Bool.not_eq_false, Bool.not_eq_true, Bool.and_true, Bool.true_and, Bool.and_false, Bool.false_and, Bool.true_or, Bool.or_true, Bool.or_false, Bool.false_or, Bool.not_true, Bool.not_false, decide_true, decide_false, not_true_eq_false, not_false_eq_true, eq_self, Bool.true_eq_false, Bool.false_eq_true, B53_27, RDc, e1, WRc]
  · rw [if_neg e8]
    by_cases e67 : hS b n T = 6 ∨ hS b n T = 7
    · rw [if_pos e67]
      obtain ⟨x1, e1, h1⟩ := h.adv he (gt_ne (b := b) (n := n) (by rcases e67 with e | e <;> rw [e] <;> decide))
      have s27 : ∀ h, (if hS b n T = 6 then Rn X (d + 1) 53 27 [.ref 36, .int kd, .int (hS b n T), .int 0] [] h else if hS b n T = 7 then Rn X (d + 1) 53 27 [.ref 36, .int kd, .int (hS b n T), .int 0] [] h else if hS b n T = 8 then Rn X (d + 1) 53 27 [.ref 36, .int kd, .int (hS b n T), .int 0] [] h else some ([.int 0], h)) = Rn X (d + 1) 53 27 [.ref 36, .int kd, .int (hS b n T), .int 0] [] h := by
        intro h
        rcases e67 with e | e
        · rw [if_pos e]
        · rw [if_neg (by rw [e]; decide), if_pos e]
      have s52 : Rn X (d + 1) 53 27 [.ref 36, .int kd, .int (hS b n T), .int 0] [] (Mh D K P N) = Rn X (d + 1) 53 52 [.ref 36, .int kd, .int (hS b n T), .int (hV b n T.tail)] [.int (hS b n T.tail)] (Mh D (u2 K 36 6 (x1 + 1)) P N) := by
        simp only [B53_27, RDc, e1, WRc, Option.bind_some, List.append_nil, List.nil_append, List.cons_append, cond_true, cond_false, if_true, if_false, ite_true, ite_false, reduceIte, IC, bI_0, bI_1, bF, Bool.not_eq_false, Bool.not_eq_true, Bool.and_true, Bool.true_and, Bool.and_false, Bool.false_and, Bool.true_or, Bool.or_true, Bool.or_false, Bool.false_or, Bool.not_true, Bool.not_false, decide_true, decide_false, not_true_eq_false, not_false_eq_true, eq_self, Bool.true_eq_false, Bool.false_eq_true, e8, IC, K2_vlu he h1.1, B53_47, K2_tok he h1.1]
      have s53 := s0.trans ((s27 _).trans s52)
      generalize u2 K 36 6 (x1 + 1) = K1 at h1 s53
      by_cases h18 : hS b n T.tail = 18
      · by_cases h99 : hV b n T.tail ≤ 99
        · obtain ⟨x2, e2, h2⟩ := h1.adv he (gt_ne (b := b) (n := n) (by rw [h18]; decide))
          obtain ⟨K2, e3, q3⟩ := K2_75 (X := X) (d := d) (kd := kd) (ds := hS b n T) (fg := hV b n T.tail) he h2 hc h8
          rw [if_pos ⟨h18, h99⟩]
          refine ⟨K2, ?_, q3⟩
          rw [← e3, s53, B53_52]
          simp only [h18, h99, Option.bind_some, List.append_nil, List.nil_append, List.cons_append, cond_true, cond_false, if_true, if_false, ite_true, ite_false, reduceIte, IC, bI_0, bI_1, bF, Bool.not_eq_false, Bool.not_eq_true, Bool.and_true, Bool.true_and, Bool.and_false, Bool.false_and, Bool.true_or, Bool.or_true, Bool.or_false, Bool.false_or, Bool.not_true, Bool.not_false, decide_true, decide_false, not_true_eq_false, not_false_eq_true, eq_self, Bool.true_eq_false, Bool.false_eq_true, RDc, e2, WRc]
        · rw [if_neg (fun q => h99 q.2)]
          exact ⟨K1, by rw [s53, B53_52]; simp only [h18, h99, Option.bind_some, List.append_nil, List.nil_append, List.cons_append, cond_true, cond_false, if_true, if_false, ite_true, ite_false, reduceIte, IC, bI_0, bI_1, bF, Bool.not_eq_false, Bool.not_eq_true, Bool.and_true, Bool.true_and, Bool.and_false, Bool.false_and, Bool.true_or, Bool.or_true, Bool.or_false, Bool.false_or, Bool.not_true, Bool.not_false, decide_true, decide_false, not_true_eq_false, not_false_eq_true, eq_self, Bool.true_eq_false, Bool.false_eq_true, B53_63]; rfl, h1.1⟩
      · rw [if_neg (fun q => h18 q.1)]
        exact ⟨K1, by rw [s53, B53_52]; simp only [h18, Option.bind_some, List.append_nil, List.nil_append, List.cons_append, cond_true, cond_false, if_true, if_false, ite_true, ite_false, reduceIte, IC, bI_0, bI_1, bF, Bool.not_eq_false, Bool.not_eq_true, Bool.and_true, Bool.true_and, Bool.and_false, Bool.false_and, Bool.true_or, Bool.or_true, Bool.or_false, Bool.false_or, Bool.not_true, Bool.not_false, decide_true, decide_false, not_true_eq_false, not_false_eq_true, eq_self, Bool.true_eq_false, Bool.false_eq_true, B53_63]; rfl, h1.1⟩
    · rw [if_neg e67]
      have e6 : ¬ hS b n T = 6 := fun e => e67 (Or.inl e)
      have e7 : ¬ hS b n T = 7 := fun e => e67 (Or.inr e)
      exact ⟨K, by rw [s0]; simp only [e6, e7, e8, Option.bind_some, List.append_nil, List.nil_append, List.cons_append, cond_true, cond_false, if_true, if_false, ite_true, ite_false, reduceIte, IC, bI_0, bI_1, bF, Bool.not_eq_false, Bool.not_eq_true, Bool.and_true, Bool.true_and, Bool.and_false, Bool.false_and, Bool.true_or, Bool.or_true, Bool.or_false, Bool.false_or, Bool.not_true, Bool.not_false, decide_true, decide_false, not_true_eq_false, not_false_eq_true, eq_self, Bool.true_eq_false, Bool.false_eq_true]; rfl, h.1⟩
theorem CE.of (he : CE D P N J b n T0 q) (hf : CF J K T0 q T) : CE D P N K b n T0 q := by
  obtain ⟨t5, t38, t39, t40⟩ := hf.tk he
  refine ⟨he.1, he.2.1, he.2.2.1, ⟨t5, fun j p hj => ?_⟩, he.2.2.2.2.1, he.2.2.2.2.2⟩
  rw [t38, t39, t40]
  exact he.2.2.2.1.2 j p hj
theorem K2_rul (he : CE D P N J b n T0 q) (h : CQ J K T0 q T B) (g : Gt b n T) (hc : J q 0 = Int32.ofNat c) (h9 : c ≤ 8) (hl : 2 * B.length ≤ hP n T) : ∃ K', Rn X (d + 13) 52 0 [.ref 36, U_] [] (Mh D K P N) = some ([.int (bI (oB (rulP (hS b n) (hV b n) c T).1))], Mh D K' P N) ∧ CU J K' T0 q B c (rulP (hS b n) (hV b n) c T) := by
  have hn := he.2.2.2.2.2
  have hR := he.2.1
  have g1 := gt_tl g
  have p1 := gt_P g
  have p2 := gt_P g1
  have hlen := gt_len g
  have q0 : K q 0 = Int32.ofNat c := h.2.2.1.trans hc
  unfold rulP
  simp only [B52_0, IC, K2_tok he h.1, Option.bind_some, List.append_nil, List.nil_append, List.cons_append, cond_true, cond_false, if_true, if_false, ite_true, ite_false, reduceIte, IC, bI_0, bI_1, bF, Bool.not_eq_false, Bool.not_eq_true, Bool.and_true, Bool.true_and, Bool.and_false, Bool.false_and, Bool.true_or, Bool.or_true, Bool.or_false, Bool.false_or, Bool.not_true, Bool.not_false, decide_true, decide_false, not_true_eq_false, not_false_eq_true, eq_self, Bool.true_eq_false, Bool.false_eq_true, B52_4, RDc, he.1, rdR5 hR, q0]
  by_cases h0 : c < 8 ∧ bt (hS b n T) 0 5 = true
  · rw [if_pos h0]
    have hb := bt_iff.mp h0.2
    have n8 : ¬ (8 : Int32) ≤ Int32.ofNat c := le_n (l := 8) (n := 8) rfl (by omega) (by omega) h0.1
    have kd0 : ¬ hS b n T < 0 := by rw [Int32.lt_iff_toInt_lt, z_ti]; omega
    have kd5 : hS b n T ≤ 5 := by rw [Int32.le_iff_toInt_le]; exact hb.2
    have hne : T ≠ [] := gt_ne (b := b) (n := n) (fun e => by rw [e] at hb; exact absurd hb.2 (by decide))
    have htl : T.tail.length + 1 = T.length := by cases T with | nil => exact absurd rfl hne | cons p T => rfl
    obtain ⟨x1, e1, h1⟩ := h.adv he hne
    simp only [n8, kd0, kd5, Option.bind_some, List.append_nil, List.nil_append, List.cons_append, cond_true, cond_false, if_true, if_false, ite_true, ite_false, reduceIte, IC, bI_0, bI_1, bF, Bool.not_eq_false, Bool.not_eq_true, Bool.and_true, Bool.true_and, Bool.and_false, Bool.false_and, Bool.true_or, Bool.or_true, Bool.or_false, Bool.false_or, Bool.not_true, Bool.not_false, decide_true, decide_false, not_true_eq_false, not_false_eq_true, eq_self, Bool.true_eq_false, Bool.false_eq_true, RDc, e1, WRc, IC, K2_tok he h1.1, B52_42]
    generalize u2 K 36 6 (x1 + 1) = K1 at h1
    by_cases hif : hS b n T.tail = 9
    · rw [if_pos hif]
      obtain ⟨x2, e2, h2⟩ := h1.adv he (gt_ne (b := b) (n := n) (by rw [hif]; decide))
      have tl2 := tl_l (T := T.tail)
      obtain ⟨K3, e3, q3⟩ := K2_cnd (X := X) (d := d) he h2 (gt_tl g1) (by omega) (by omega)
      simp only [hif, Option.bind_some, List.append_nil, List.nil_append, List.cons_append, cond_true, cond_false, if_true, if_false, ite_true, ite_false, reduceIte, IC, bI_0, bI_1, bF, Bool.not_eq_false, Bool.not_eq_true, Bool.and_true, Bool.true_and, Bool.and_false, Bool.false_and, Bool.true_or, Bool.or_true, Bool.or_false, Bool.false_or, Bool.not_true, Bool.not_false, decide_true, decide_false, not_true_eq_false, not_false_eq_true, eq_self, Bool.true_eq_false, Bool.false_eq_true, RDc, e2, WRc, IC, e3]
      generalize cndP (hS b n) (hV b n) (grpP (hS b n) (hV b n) 3) 200 false false T.tail.tail [] = cc at q3 ⊢
      obtain ⟨c1, T3, A3⟩ := cc
      obtain ⟨qa, qb⟩ := q3
      dsimp only at qa qb ⊢
      cases c1 with
      | false => exact ⟨K3, by simp only [B52_62, bI_f, Option.bind_some, List.append_nil, List.nil_append, List.cons_append, cond_true, cond_false, if_true, if_false, ite_true, ite_false, reduceIte, IC, bI_0, bI_1, bF, Bool.not_eq_false, Bool.not_eq_true, Bool.and_true, Bool.true_and, Bool.and_false, Bool.false_and, Bool.true_or, Bool.or_true, Bool.or_false, Bool.false_or, Bool.not_true, Bool.not_false, decide_true, decide_false, not_true_eq_false, not_false_eq_true, eq_self, Bool.true_eq_false, Bool.false_eq_true]; rfl, qb rfl⟩
      | true =>
        have n10 : ¬ (1 : Int32) = 0 := by decide
        obtain ⟨K4, e4, q4⟩ := K2_dee (X := X) (d := d + 11) (kd := hS b n T) he (qa rfl) hc h0.1
        refine ⟨K4, ?_, q4⟩
        simp only [B52_62, bI_t, n10, Option.bind_some, List.append_nil, List.nil_append, List.cons_append, cond_true, cond_false, if_true, if_false, ite_true, ite_false, reduceIte, IC, bI_0, bI_1, bF, Bool.not_eq_false, Bool.not_eq_true, Bool.and_true, Bool.true_and, Bool.and_false, Bool.false_and, Bool.true_or, Bool.or_true, Bool.or_false, Bool.false_or, Bool.not_true, Bool.not_false, decide_true, decide_false, not_true_eq_false, not_false_eq_true, eq_self, Bool.true_eq_false, Bool.false_eq_true, B52_67, IC, e4, B52_72]
    · rw [if_neg hif]
      obtain ⟨K4, e4, q4⟩ := K2_dee (X := X) (d := d + 11) (kd := hS b n T) (A := []) he (by rw [List.append_nil]; exact h1) hc h0.1
      refine ⟨K4, ?_, q4⟩
      simp only [hif, Option.bind_some, List.append_nil, List.nil_append, List.cons_append, cond_true, cond_false, if_true, if_false, ite_true, ite_false, reduceIte, IC, bI_0, bI_1, bF, Bool.not_eq_false, Bool.not_eq_true, Bool.and_true, Bool.true_and, Bool.and_false, Bool.false_and, Bool.true_or, Bool.or_true, Bool.or_false, Bool.false_or, Bool.not_true, Bool.not_false, decide_true, decide_false, not_true_eq_false, not_false_eq_true, eq_self, Bool.true_eq_false, Bool.false_eq_true, B52_67, IC, e4, B52_72]
  · rw [if_neg h0]
    refine ⟨K, ?_, h.1⟩
    by_cases n8 : (8 : Int32) ≤ Int32.ofNat c
    · simp only [n8, Option.bind_some, List.append_nil, List.nil_append, List.cons_append, cond_true, cond_false, if_true, if_false, ite_true, ite_false, reduceIte, IC, bI_0, bI_1, bF, Bool.not_eq_false, Bool.not_eq_true, Bool.and_true, Bool.true_and, Bool.and_false, Bool.false_and, Bool.true_or, Bool.or_true, Bool.or_false, Bool.false_or, Bool.not_true, Bool.not_false, decide_true, decide_false, not_true_eq_false, not_false_eq_true, eq_self, Bool.true_eq_false, Bool.false_eq_true, B52_26]; rfl
    · have h8 : c < 8 := by
        rw [show (8 : Int32) = Int32.ofNat 8 from rfl, iN_le (by omega) (by omega)] at n8; omega
      have hb : bt (hS b n T) 0 5 = false := by
        cases q : bt (hS b n T) 0 5 with
        | false => rfl
        | true => exact absurd ⟨h8, q⟩ h0
      have hb2 := bt_no.mp hb
      by_cases kd0 : hS b n T < 0
      · simp only [n8, kd0, Option.bind_some, List.append_nil, List.nil_append, List.cons_append, cond_true, cond_false, if_true, if_false, ite_true, ite_false, reduceIte, IC, bI_0, bI_1, bF, Bool.not_eq_false, Bool.not_eq_true, Bool.and_true, Bool.true_and, Bool.and_false, Bool.false_and, Bool.true_or, Bool.or_true, Bool.or_false, Bool.false_or, Bool.not_true, Bool.not_false, decide_true, decide_false, not_true_eq_false, not_false_eq_true, eq_self, Bool.true_eq_false, Bool.false_eq_true, B52_26]; rfl
      · have kd5 : ¬ hS b n T ≤ 5 := by
          rw [Int32.lt_iff_toInt_lt, z_ti] at kd0
          rw [Int32.le_iff_toInt_le, show (5 : Int32).toInt = 5 from rfl]; omega
        simp only [n8, kd0, kd5, Option.bind_some, List.append_nil, List.nil_append, List.cons_append, cond_true, cond_false, if_true, if_false, ite_true, ite_false, reduceIte, IC, bI_0, bI_1, bF, Bool.not_eq_false, Bool.not_eq_true, Bool.and_true, Bool.true_and, Bool.and_false, Bool.false_and, Bool.true_or, Bool.or_true, Bool.or_false, Bool.false_or, Bool.not_true, Bool.not_false, decide_true, decide_false, not_true_eq_false, not_false_eq_true, eq_self, Bool.true_eq_false, Bool.false_eq_true, B52_26]; rfl
def RIc (J0 K : Nat → Nat → Int32) (T0 : List Nat) (q : Nat) (T : List Nat) (R : List pRu) : Prop :=
  ((∀ c, c ≠ 36 → (c < q ∨ q + 7 < c) → K c = J0 c) ∧ (∀ k, k ≠ 6 → K 36 k = J0 36 k)) ∧ K q 0 = Int32.ofNat R.length ∧ HdC K q R ∧ CQ K K T0 q T (sgA R)
theorem edW_f (h80 : 80 ≤ q) : (∀ i, i ≠ q → i ≠ q + 1 → i ≠ q + 2 → i ≠ q + 3 → i ≠ q + 4 → edW K q c u m i = K i) ∧ (∀ k, k ≠ 0 → edW K q c u m q k = K q k) ∧ edW K q c u m q 0 = Int32.ofNat (c + 1)
    ∧ edW K q c u m (q + 1) = upd (K (q + 1)) c u.1 ∧ edW K q c u m (q + 2) = upd (K (q + 2)) c u.2.1 ∧ edW K q c u m (q + 3) = upd (K (q + 3)) c u.2.2.1 ∧ edW K q c u m (q + 4) = upd (K (q + 4)) c (Int32.ofNat m) := by
  unfold edW
  refine ⟨fun i h0 h1 h2 h3 h4 => ?_, fun k hk => ?_, ?_, ?_, ?_, ?_, ?_⟩
  · rw [u2_o h0, u2_o h4, u2_o h3, u2_o h2, u2_o h1]
  · rw [u2_s, upd_o hk, u2_o (by omega), u2_o (by omega), u2_o (by omega), u2_o (by omega)]
  · rw [u2_s, upd_s]
  · rw [u2_o (by omega), u2_o (by omega), u2_o (by omega), u2_o (by omega), u2_s]
  · rw [u2_o (by omega), u2_o (by omega), u2_o (by omega), u2_s, u2_o (by omega)]
  · rw [u2_o (by omega), u2_o (by omega), u2_s, u2_o (by omega), u2_o (by omega)]
  · rw [u2_o (by omega), u2_s, u2_o (by omega), u2_o (by omega), u2_o (by omega)]
theorem K2_rls (he : CE D P N J0 b n T0 q) : ∀ k T R K, R.length + k = 9 → R.length ≤ 8 → RIc J0 K T0 q T R → Gt b n T → 2 * (sgA R).length ≤ hP n T → (exL (sgA R)).length ≤ hP n T →
    ∃ K', Rn X (d + 14) 50 43 [.ref 36, .ref 49, .int x, .int (Int32.ofNat R.length)] [] (Mh D K P N) = some ([va_rf (if (rlsP (hS b n) (hV b n) k T R).1 = true then some q else none)], Mh D K' P N) ∧ ((rlsP (hS b n) (hV b n) k T R).1 = true → RIc J0 K' T0 q (rlsP (hS b n) (hV b n) k T R).2.1 (rlsP (hS b n) (hV b n) k T R).2.2) ∧ ((rlsP (hS b n) (hV b n) k T R).1 = false → CF J0 K' T0 q (rlsP (hS b n) (hV b n) k T R).2.1)
  | 0, T, R, K, hk, h8, _, _, _, _ => by omega
  | k + 1, [], R, K, hk, h8, hR, g, h1, h2 => by
    obtain ⟨⟨f1, f2⟩, hc, hd, hq⟩ := hR
    have heK : CE D P N K b n T0 q := he.of (K := K) (T := []) ⟨⟨f1, f2⟩, hq.1.2⟩
    have h8' : ¬ (8 : Int32) < Int32.ofNat R.length := by rw [show (8 : Int32) = Int32.ofNat 8 from rfl, iN_lt (by omega) (by omega)]; omega
    refine ⟨K, ?_, fun _ => ⟨⟨f1, f2⟩, hc, hd, hq⟩, fun q => (by cases q)⟩
    rw [B50_43, if_neg h8']
    simp only [IC, K2_tok heK hq.1, Option.bind_some, List.append_nil, List.nil_append, List.cons_append, cond_true, cond_false, if_true, if_false, ite_true, ite_false, reduceIte, IC, bI_0, bI_1, bF, Bool.not_eq_false, Bool.not_eq_true, Bool.and_true, Bool.true_and, Bool.and_false, Bool.false_and, Bool.true_or, Bool.or_true, Bool.or_false, Bool.false_or, Bool.not_true, Bool.not_false, decide_true, decide_false, not_true_eq_false, not_false_eq_true, eq_self, Bool.true_eq_false, Bool.false_eq_true, B50_53, show hS b n [] = 19 from rfl, B50_73, RDc, he.1]
    rfl
  | k + 1, p :: T, R, K, hk, h8, hR, g, h1, h2 => by
    obtain ⟨⟨f1, f2⟩, hc, hd, hq⟩ := hR
    have h80 := he.2.2.1
    have heK : CE D P N K b n T0 q := he.of (K := K) (T := p :: T) ⟨⟨f1, f2⟩, hq.1.2⟩
    have h8' : ¬ (8 : Int32) < Int32.ofNat R.length := by rw [show (8 : Int32) = Int32.ofNat 8 from rfl, iN_lt (by omega) (by omega)]; omega
    have h19 : ¬ hS b n (p :: T) = 19 := fun e => by have := hS_19.mp e; cases this
    obtain ⟨K1, e1, q1⟩ := K2_rul (X := X) (d := d) heK hq g hc h8 h1
    have hr := rul_g (q := R.length) (2 * (sgA R).length) (exL (sgA R)).length g h1 h2
    rw [B50_43, if_neg h8']
    simp only [IC, K2_tok heK hq.1, Option.bind_some, List.append_nil, List.nil_append, List.cons_append, cond_true, cond_false, if_true, if_false, ite_true, ite_false, reduceIte, IC, bI_0, bI_1, bF, Bool.not_eq_false, Bool.not_eq_true, Bool.and_true, Bool.true_and, Bool.and_false, Bool.false_and, Bool.true_or, Bool.or_true, Bool.or_false, Bool.false_or, Bool.not_true, Bool.not_false, decide_true, decide_false, not_true_eq_false, not_false_eq_true, eq_self, Bool.true_eq_false, Bool.false_eq_true, B50_53, h19, e1]
    unfold rlsP
    generalize rulP (hS b n) (hV b n) R.length (p :: T) = w at q1 hr ⊢
    obtain ⟨qo, T1⟩ := w
    obtain ⟨⟨g1, g2, g3⟩, h3⟩ := hr
    dsimp only at g1 g2 g3 h3 ⊢
    cases qo with
    | none =>
      have qw : CF K K1 T0 q T1 := q1
      refine ⟨K1, ?_, fun q => (by cases q), fun _ => ⟨⟨fun c h1 h2 => (qw.1.1 c h1 h2).trans (f1 c h1 h2), fun k hk => (qw.1.2 k hk).trans (f2 k hk)⟩, qw.2⟩⟩
      show Rn X (d + 13 + 1) 50 62 _ [.int 0] _ = _
      rw [B50_62]
      rfl
    | some u =>
      obtain ⟨u1, u2', u3, u4⟩ := h3 u rfl
      obtain ⟨K2, q2, e2⟩ : ∃ K2, CQ K K2 T0 q T1 (sgA R ++ u.2.2.2) ∧ K1 = edW K2 q R.length u (sgA R ++ u.2.2.2).length := q1
      have n10 : ¬ (1 : Int32) = 0 := by decide
      have e : sgA (R ++ [u]) = sgA R ++ u.2.2.2 := by
        rw [sgA_app]; show sgA R ++ (u.2.2.2 ++ []) = _; rw [List.append_nil]
      have ee : exL (sgA (R ++ [u])) = exL (sgA R) ++ exL u.2.2.2 := by rw [e, exL_app]
      obtain ⟨⟨⟨v1, v2⟩, v3⟩, ⟨v4, v5⟩, v6, v7⟩ := q2
      have hi := edW_f (K := K2) (c := R.length) (u := u) (m := (sgA R ++ u.2.2.2).length) h80
      rw [← e2] at hi
      obtain ⟨i1, i2, i3, i4, i5, i6, i7⟩ := hi
      have hlen : (R ++ [u]).length = R.length + 1 := by rw [List.length_append]; rfl
      have f1' : ∀ c, c ≠ 36 → (c < q ∨ q + 7 < c) → K1 c = J0 c := fun c q1 q2 => by
        rw [i1 c (by omega) (by omega) (by omega) (by omega) (by omega), v1 c q1 q2]; exact f1 c q1 q2
      have i36 : K1 36 = K2 36 := i1 36 (by omega) (by omega) (by omega) (by omega) (by omega)
      obtain ⟨K3, e3, q3, q4⟩ := K2_rls he k T1 (R ++ [u]) K1 (by rw [hlen]; omega) (by rw [hlen]; omega) ⟨⟨f1', fun k hk => by rw [i36, v2 k hk]; exact f2 k hk⟩, by rw [i3, hlen], fun j w hj => by
          have v4' : ∀ j, 1 ≤ j → j ≤ 4 → K2 (q + j) = K (q + j) := v7
          by_cases hjl : j < R.length
          · rw [List.getElem?_append_left hjl] at hj
            have := hd j w hj
            have et : (R ++ [u]).take (j + 1) = R.take (j + 1) := by rw [List.take_append_of_le_length (by omega)]
            rw [et, i4, i5, i6, i7, upd_o (by omega), upd_o (by omega), upd_o (by omega), upd_o (by omega), v7 1 (by omega) (by omega), v7 2 (by omega) (by omega), v7 3 (by omega) (by omega), v7 4 (by omega) (by omega)]
            exact this
          · have hj0 : j = R.length := by
              have := (List.getElem?_eq_some_iff.mp hj).1
              rw [hlen] at this; omega
            subst hj0
            rw [List.getElem?_append_right (Nat.le_refl _), Nat.sub_self] at hj
            cases hj
            have et : (R ++ [u]).take (R.length + 1) = R ++ [u] := List.take_of_length_le (by rw [hlen]; exact Nat.le_refl _)
            rw [et, e, i4, i5, i6, i7, upd_s, upd_s, upd_s, upd_s]
            exact ⟨rfl, rfl, rfl, rfl⟩,
          ⟨⟨⟨fun _ _ _ => rfl, fun _ _ => rfl⟩, by rw [i36]; exact v3⟩, ⟨by rw [i2 8 (by decide), e]; exact v4, by
            rw [e, i1 (q + 5) (by omega) (by omega) (by omega) (by omega) (by omega), i1 (q + 6) (by omega) (by omega) (by omega) (by omega) (by omega), i1 (q + 7) (by omega) (by omega) (by omega) (by omega) (by omega)]; exact v5⟩, rfl, fun _ _ _ => rfl⟩⟩ g1 (by rw [e, List.length_append]; omega) (by rw [ee, List.length_append]; omega)
      refine ⟨K3, ?_, q3, q4⟩
      rw [← e3, hlen]
      show Rn X (d + 13 + 1) 50 62 _ [.int 1] _ = _
      rw [B50_62, if_pos n10]
      simp only [IX]
end ClsS
