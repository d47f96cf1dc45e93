/-! the class: ith, kindly, needs, more, beliefFor -/
section ClsK
variable {X : mX} {d : Nat} {D : Nat → Nat × Nat} {I : Nat → Nat → Int32} {P : Nat → Nat → Option Nat} {N : Nat} {h : mH} {s s' g S r f f' F c : Nat → Int32} {J J' I' : Nat → Nat → Int32} {ra : Nat → Nat} {L : List Nat} {m : Int} {i j k n p q : Nat} {x v w a b e z fl : Int32}
theorem srch_end (hS : Srch D P N ra s I [] J) : RideR s D J P N 1 ra ∧ J 31 5 = 0 ∧ FrC (ctA s) ra I J := ⟨hS.1, hS.2.1, frS_C hS.2.2.2.1⟩
theorem N_ith (ok : Ok s 10) : Cf X 123 [.ref 0, .int x, U_] s (pIth s x, s) := by
  intro d D I P N ra hr hl
  simp only [B123_0, C_plc, Option.bind_some, List.append_nil, List.nil_append, List.cons_append, cond_true, cond_false, if_true, if_false, ite_true, ite_false, reduceIte, IC, bI_0, bI_1, bF, Bool.not_eq_false, Bool.not_eq_true, Bool.and_true, Bool.true_and, Bool.and_false, Bool.false_and, Bool.true_or, Bool.or_true, Bool.or_false, Bool.false_or, Bool.not_true, Bool.not_false, decide_true, decide_false, not_true_eq_false, not_false_eq_true, eq_self, Bool.true_eq_false, Bool.false_eq_true, B123_4]
  unfold pIth
  cases hb : bt x 0 3 with
  | false => exact ⟨I, by simp only [Option.bind_some, List.append_nil, List.nil_append, List.cons_append, cond_true, cond_false, if_true, if_false, ite_true, ite_false, reduceIte, IC, bI_0, bI_1, bF, Bool.not_eq_false, Bool.not_eq_true, Bool.and_true, Bool.true_and, Bool.and_false, Bool.false_and, Bool.true_or, Bool.or_true, Bool.or_false, Bool.false_or, Bool.not_true, Bool.not_false, decide_true, decide_false, not_true_eq_false, not_false_eq_true, eq_self, Bool.true_eq_false, Bool.false_eq_true], hr, hl, frc_rf⟩
  | true =>
    obtain ⟨e1, e2⟩ := bt_nat hb
    obtain ⟨f, e⟩ := C_sho (X := X) (d := d + 27) ok hr
    have hS0 : Srch D P N ra s (u2r I 13 f) [] (u2r I 13 f) := srch0 hr.u13 (by rw [u2r_o (by decide)]; exact hl)
    simp only [Option.bind_some, List.append_nil, List.nil_append, List.cons_append, cond_true, cond_false, if_true, if_false, ite_true, ite_false, reduceIte, IC, bI_0, bI_1, bF, Bool.not_eq_false, Bool.not_eq_true, Bool.and_true, Bool.true_and, Bool.and_false, Bool.false_and, Bool.true_or, Bool.or_true, Bool.or_false, Bool.false_or, Bool.not_true, Bool.not_false, decide_true, decide_false, not_true_eq_false, not_false_eq_true, eq_self, Bool.true_eq_false, Bool.false_eq_true, RDc, e, B123_20]
    cases hs : shoF s with
    | none =>
      have hw : Rn X (d + 39) 87 0 [.ref 31, .int (oV none), .int 0, U_, U_, U_] [] (Mh D (u2r I 13 f) P N) = some ([], Mh D (u2r I 13 f) P N) := by
        rw [B87_0, B87_4, if_pos (by decide), B87_82]
      obtain ⟨J2, hS2, e4⟩ := C_bak (X := X) (d := d + 36) ok hS0 (by simp)
      have ht := C_tat (X := X) (d := d + 38) (k := x.toNatClampNeg) hS0 (by simp) (by omega)
      rw [← e1] at ht
      obtain ⟨q1, q2, q3⟩ := srch_end hS2
      refine ⟨J2, ?_, q1, q2, fun a h1 h2 h3 h4 h5 h6 h7 h8 => (q3 a h1 h2 h3 h4 h5 h6 h7 h8).trans (u2r_o h4)⟩
      simp only [hw, Option.bind_some, List.append_nil, List.nil_append, List.cons_append, cond_true, cond_false, if_true, if_false, ite_true, ite_false, reduceIte, IC, bI_0, bI_1, bF, Bool.not_eq_false, Bool.not_eq_true, Bool.and_true, Bool.true_and, Bool.and_false, Bool.false_and, Bool.true_or, Bool.or_true, Bool.or_false, Bool.false_or, Bool.not_true, Bool.not_false, decide_true, decide_false, not_true_eq_false, not_false_eq_true, eq_self, Bool.true_eq_false, Bool.false_eq_true, B123_24, RDc, ht, B123_32, e4, B123_40]
      rfl
    | some n =>
      obtain ⟨hn1, hn2, hn3⟩ := sho_lt hs
      obtain ⟨J1, hS1, e3⟩ := C_walk (X := X) (d := d + 27) (b := 0) (n := n) (n0 := Int32.ofNat n) ok rfl (by omega) hS0 (by rw [ar_arr (m := 10) (by decide) n s ok]; exact hn2)
      have hlen : (wkF 0 n s).reverse.length = n := by rw [List.length_reverse, wk_fst n s ok]; exact fst_len n s hn2 hn3
      obtain ⟨J2, hS2, e4⟩ := C_bak (X := X) (d := d + 36) ok hS1 (by omega)
      have ht := C_tat (X := X) (d := d + 38) (k := x.toNatClampNeg) hS1 (by omega) (by omega)
      rw [← e1, hlen, List.reverse_reverse, wk_fst n s ok] at ht
      obtain ⟨q1, q2, q3⟩ := srch_end hS2
      refine ⟨J2, ?_, q1, q2, fun a h1 h2 h3 h4 h5 h6 h7 h8 => (q3 a h1 h2 h3 h4 h5 h6 h7 h8).trans (u2r_o h4)⟩
      have e3' : Rn X (d + 39) 87 0 [.ref 31, .int (oV (some n)), .int 0, U_, U_, U_] [] (Mh D (u2r I 13 f) P N) = _ := e3
      simp only [e3', Option.bind_some, List.append_nil, List.nil_append, List.cons_append, cond_true, cond_false, if_true, if_false, ite_true, ite_false, reduceIte, IC, bI_0, bI_1, bF, Bool.not_eq_false, Bool.not_eq_true, Bool.and_true, Bool.true_and, Bool.and_false, Bool.false_and, Bool.true_or, Bool.or_true, Bool.or_false, Bool.false_or, Bool.not_true, Bool.not_false, decide_true, decide_false, not_true_eq_false, not_false_eq_true, eq_self, Bool.true_eq_false, Bool.false_eq_true, B123_24, RDc, ht, B123_32, e4, B123_40]
theorem N_kly (ok : Ok s 10) : Cf X 127 [.ref 0, .int a, .int x, U_, U_] s (pKly s a x, s) := by
  intro d D I P N ra hr hl
  simp only [B127_0, C_len, Option.bind_some, List.append_nil, List.nil_append, List.cons_append, cond_true, cond_false, if_true, if_false, ite_true, ite_false, reduceIte, IC, bI_0, bI_1, bF, Bool.not_eq_false, Bool.not_eq_true, Bool.and_true, Bool.true_and, Bool.and_false, Bool.false_and, Bool.true_or, Bool.or_true, Bool.or_false, Bool.false_or, Bool.not_true, Bool.not_false, decide_true, decide_false, not_true_eq_false, not_false_eq_true, eq_self, Bool.true_eq_false, Bool.false_eq_true, B127_4, C_plc, B127_11, B127_14]
  unfold pKly
  cases hb : bt a 0 4 with
  | false => exact ⟨I, by simp only [Option.bind_some, List.append_nil, List.nil_append, List.cons_append, cond_true, cond_false, if_true, if_false, ite_true, ite_false, reduceIte, IC, bI_0, bI_1, bF, Bool.not_eq_false, Bool.not_eq_true, Bool.and_true, Bool.true_and, Bool.and_false, Bool.false_and, Bool.true_or, Bool.or_true, Bool.or_false, Bool.false_or, Bool.not_true, Bool.not_false, decide_true, decide_false, not_true_eq_false, not_false_eq_true, eq_self, Bool.true_eq_false, Bool.false_eq_true], hr, hl, frc_rf⟩
  | true =>
    cases hb2 : bt x 0 3 with
    | false => exact ⟨I, by simp only [Option.bind_some, List.append_nil, List.nil_append, List.cons_append, cond_true, cond_false, if_true, if_false, ite_true, ite_false, reduceIte, IC, bI_0, bI_1, bF, Bool.not_eq_false, Bool.not_eq_true, Bool.and_true, Bool.true_and, Bool.and_false, Bool.false_and, Bool.true_or, Bool.or_true, Bool.or_false, Bool.false_or, Bool.not_true, Bool.not_false, decide_true, decide_false, not_true_eq_false, not_false_eq_true, eq_self, Bool.true_eq_false, Bool.false_eq_true], hr, hl, frc_rf⟩
    | true =>
      obtain ⟨e1, e2⟩ := bt_nat hb
      obtain ⟨e3, e4⟩ := bt_nat hb2
      obtain ⟨f, e⟩ := C_kin (X := X) (d := d) (m := 10) (by decide) a.toNatClampNeg (by omega) s I (-3) ok hr
      have hkb := kin_b (m := 10) (by decide) a.toNatClampNeg s ok
      have e' := Rn_up e (show d + a.toNatClampNeg + 7 ≤ d + 39 by omega)
      rw [← e1, kf_non hkb.1] at e'
      have hS0 : Srch D P N ra s (u2r I 13 f) [] (u2r I 13 f) := srch0 hr.u13 (by rw [u2r_o (by decide)]; exact hl)
      simp only [Option.bind_some, List.append_nil, List.nil_append, List.cons_append, cond_true, cond_false, if_true, if_false, ite_true, ite_false, reduceIte, IC, bI_0, bI_1, bF, Bool.not_eq_false, Bool.not_eq_true, Bool.and_true, Bool.true_and, Bool.and_false, Bool.false_and, Bool.true_or, Bool.or_true, Bool.or_false, Bool.false_or, Bool.not_true, Bool.not_false, decide_true, decide_false, not_true_eq_false, not_false_eq_true, eq_self, Bool.true_eq_false, Bool.false_eq_true, RDc, e', B127_26]
      by_cases h0 : kinF a.toNatClampNeg s < 0
      · have h1 : ¬ 0 ≤ kinF a.toNatClampNeg s := by rw [i_nle]; exact h0
        refine ⟨u2r I 13 f, ?_, hr.u13, by rw [u2r_o (by decide)]; exact hl, frc_13⟩
        simp only [nonV, h0, h1, Option.bind_some, List.append_nil, List.nil_append, List.cons_append, cond_true, cond_false, if_true, if_false, ite_true, ite_false, reduceIte, IC, bI_0, bI_1, bF, Bool.not_eq_false, Bool.not_eq_true, Bool.and_true, Bool.true_and, Bool.and_false, Bool.false_and, Bool.true_or, Bool.or_true, Bool.or_false, Bool.false_or, Bool.not_true, Bool.not_false, decide_true, decide_false, not_true_eq_false, not_false_eq_true, eq_self, Bool.true_eq_false, Bool.false_eq_true]
      · have h1 : 0 ≤ kinF a.toNatClampNeg s := by rw [← i_nlt]; exact h0
        have h1' : 0 ≤ (kinF a.toNatClampNeg s).toInt := by rw [Int32.le_iff_toInt_le, z_ti] at h1; exact h1
        have h3 : ¬ kinF a.toNatClampNeg s = -3 := fun q => by rw [q] at h1; exact absurd h1 (by decide)
        obtain ⟨J1, hS1, e5⟩ := C_walk (X := X) (d := d + 27) (b := kinF a.toNatClampNeg s) (n := a.toNatClampNeg) (n0 := a) ok e1 (by omega) hS0 ((ar_kin (m := 10) (by decide) _ h1' a.toNatClampNeg s ok).mpr (Int.le_refl _))
        have hlen := wk_len (b := kinF a.toNatClampNeg s) a.toNatClampNeg s
        obtain ⟨J2, hS2, e6⟩ := C_bak (X := X) (d := d + 36) ok hS1 (by rw [List.length_reverse]; omega)
        have ht := C_tat (X := X) (d := d + 38) (k := x.toNatClampNeg) hS1 (by rw [List.length_reverse]; omega) (by omega)
        rw [← e3, List.length_reverse, List.reverse_reverse] at ht
        obtain ⟨q1, q2, q3⟩ := srch_end hS2
        refine ⟨J2, ?_, q1, q2, fun a h1 h2 h3 h4 h5 h6 h7 h8 => (q3 a h1 h2 h3 h4 h5 h6 h7 h8).trans (u2r_o h4)⟩
        simp only [nonV, h0, h1, h3, Option.bind_some, List.append_nil, List.nil_append, List.cons_append, cond_true, cond_false, if_true, if_false, ite_true, ite_false, reduceIte, IC, bI_0, bI_1, bF, Bool.not_eq_false, Bool.not_eq_true, Bool.and_true, Bool.true_and, Bool.and_false, Bool.false_and, Bool.true_or, Bool.or_true, Bool.or_false, Bool.false_or, Bool.not_true, Bool.not_false, decide_true, decide_false, not_true_eq_false, not_false_eq_true, eq_self, Bool.true_eq_false, Bool.false_eq_true, RDc, e5, B127_45, ht, B127_53, e6, B127_62]
        rw [kwk_wk a.toNatClampNeg s ok h1' rfl x.toNatClampNeg]
        by_cases hx : x.toNatClampNeg < (wkF (kinF a.toNatClampNeg s) a.toNatClampNeg s).length
        · rw [if_pos hx, List.getElem?_eq_getElem hx, List.getD_eq_getElem?_getD, List.getElem?_eq_getElem hx]
          rfl
        · rw [if_neg hx, List.getElem?_eq_none (by omega)]
          rfl
theorem RideR.ans (hr : RideR s D I P N 1 ra) (g : Gd s m) (hi : i < ctA s) (hk : k = 2 ∨ k = 3 ∨ k = 4) : RideR (upd s (7 + 5 * i + (k - 1)) v) D (u2 I (ra i) k v) P N 1 ra := by
  have h9 := g.a hi
  have h8 := g.n2.2
  obtain ⟨⟨e1, e4, e5, e6, e7, e8, e13⟩, r2, r3, r4, r5, q, hq, hR⟩ := hr
  have h80 := (r4 i hi).2.1.1
  have hA := (r4 i hi).2.at
  have ht : ∀ j, j < 7 ∨ 52 ≤ j → upd s (7 + 5 * i + (k - 1)) v j = s j := fun j hj => upd_o (by omega)
  have el : ctL (upd s (7 + 5 * i + (k - 1)) v) = ctL s := by unfold ctL; rw [ht _ (by omega)]
  have ee : ctE (upd s (7 + 5 * i + (k - 1)) v) = ctE s := by unfold ctE; rw [ht _ (by omega)]
  have ea : ctA (upd s (7 + 5 * i + (k - 1)) v) = ctA s := by unfold ctA; rw [ht _ (by omega)]
  have en : endV (upd s (7 + 5 * i + (k - 1)) v) = endV s := by unfold endV; rw [el]; exact endF_of (fun j _ => ht _ (by omega)) _ _ _ (by omega)
  refine ⟨?_, fun k hk => ?_, fun k hk => ?_, fun j hj => ?_, fun a b ha hb => ?_, q, hq, ?_⟩
  · rw [u2_o (show 1 ≠ ra i by omega), ht _ (by omega), ht _ (by omega), ht _ (by omega), ht _ (by omega), ht _ (by omega), ht _ (by omega), en]
    exact ⟨e1, e4, e5, e6, e7, e8, e13⟩
  · rw [el] at hk
    rw [u2_o (by omega), u2_o (by omega), ht _ (by omega), ht _ (by omega)]; exact r2 k hk
  · rw [ee] at hk
    rw [u2_o (by omega), u2_o (by omega), ht _ (by omega), ht _ (by omega), ht _ (by omega)]; exact r3 k hk
  · rw [ea] at hj
    have hj9 := g.a hj
    obtain ⟨q1, q2, q3, q4, q5, q6, q7, q8⟩ := r4 j hj
    refine ⟨q1, ?_⟩
    unfold AnsR
    by_cases hji : j = i
    · subst hji
      rw [u2_s, upd_o (show 7 + 5 * j ≠ 7 + 5 * j + (k - 1) by omega), upd_o (show 7 + 5 * j + 4 ≠ 7 + 5 * j + (k - 1) by omega), upd_o (show 0 ≠ k by omega), upd_o (show 1 ≠ k by omega), upd_o (show 5 ≠ k by omega)]
      rcases hk with rfl | rfl | rfl
      · exact ⟨q2, q3, q4, by rw [upd_s, upd_s], by rw [upd_o (by decide), upd_o (by omega)]; exact q6, by rw [upd_o (by decide), upd_o (by omega)]; exact q7, q8⟩
      · exact ⟨q2, q3, q4, by rw [upd_o (by decide), upd_o (by omega)]; exact q5, by rw [upd_s, upd_s], by rw [upd_o (by decide), upd_o (by omega)]; exact q7, q8⟩
      · exact ⟨q2, q3, q4, by rw [upd_o (by decide), upd_o (by omega)]; exact q5, by rw [upd_o (by decide), upd_o (by omega)]; exact q6, by rw [upd_s, upd_s], q8⟩
    · rw [u2_o (fun e => hji (r5 j i hj hi e)), upd_o (by omega), upd_o (by omega), upd_o (by omega), upd_o (by omega), upd_o (by omega)]
      exact ⟨q2, q3, q4, q5, q6, q7, q8⟩
  · rw [ea] at ha hb; exact r5 a b ha hb
  · exact (hR.ofs (ht _ (by omega)) (fun j hj => ht _ (by omega))).of (fun j hj => u2_o (hR.1.nA hA hj))
theorem lf_bk (h80 : p ≠ 13) (hv : I p 4 = w) : u2 (u2r (u2 I p 4 v) 13 f) p 4 w = u2r I 13 f := by
  funext b k
  by_cases hb : b = p
  · subst hb
    rw [u2_s, u2r_o h80, u2_s, u2r_o h80]
    by_cases hk : k = 4
    · subst hk; rw [upd_s, hv]
    · rw [upd_o hk, upd_o hk]
  · rw [u2_o hb]
    by_cases h13 : b = 13
    · subst h13; rw [u2r_s, u2r_s]
    · rw [u2r_o h13, u2r_o h13, u2_o hb]
theorem N_nds1 (ok : Ok s 10) : ∀ k i acc I (l3 l4 : Value), RideR s D I P N 1 ra → i + k = ctA s → ∃ f, Rn X (d + 12) 128 18 [.ref 0, .int acc, .int (Int32.ofNat i), l3, l4] [] (Mh D I P N)
      = some ([.int (foldA (fun a acc => acc ||| (bif arrF 4 (ndsS s a) then (0 : Int32) else (1 : Int32) <<< (Int32.ofNat a &&& 31))) i k acc)], Mh D (u2r I 13 f) P N)
  | 0, i, acc, I, l3, l4, hr, hk => by
    have h0 := ok.1.n0
    refine ⟨I 13, ?_⟩
    rw [u2r_id, B128_18]
    simp only [RDc, Option.bind_some, List.append_nil, List.nil_append, List.cons_append, cond_true, cond_false, if_true, if_false, ite_true, ite_false, reduceIte, IC, bI_0, bI_1, bF, Bool.not_eq_false, Bool.not_eq_true, Bool.and_true, Bool.true_and, Bool.and_false, Bool.false_and, Bool.true_or, Bool.or_true, Bool.or_false, Bool.false_or, Bool.not_true, Bool.not_false, decide_true, decide_false, not_true_eq_false, not_false_eq_true, eq_self, Bool.true_eq_false, Bool.false_eq_true, hr.1.1, h0.1]
    rw [if_pos (by rw [iN_le (by omega) (by omega)]; omega)]; rfl
  | k + 1, i, acc, I, l3, l4, hr, hk => by
    have h0 := ok.1.n0
    have hi : i < ctA s := by omega
    have hA := (hr.2.2.2.1 i hi).2
    obtain ⟨⟨h80, -⟩, -, -, -, -, a4, a5⟩ := id hA
    have hne : ra i ≠ 13 := by omega
    have hr2 : RideR (ndsS s i) D (u2 I (ra i) 4 (s (7 + 5 * i + 4))) P N 1 ra := hr.ans ok.1 hi (k := 4) (Or.inr (Or.inr rfl))
    have ok2 := ok_nds ok hi
    obtain ⟨f, e1⟩ := C_arr (X := X) (d := d) (b := 0) (m := 10) (by decide) 4 (by decide) (ndsS s i) _ ok2 hr2
    rw [ar_arr (m := 10) (by decide) 4 _ ok2] at e1
    have e1' : Rn X (d + 11) 78 0 [.ref 1, .int 4, .int 0, U_, U_, U_] [] (Mh D (u2 I (ra i) 4 (s (7 + 5 * i + 4))) P N) = _ := e1
    have hbk := lf_bk (f := f) (v := s (7 + 5 * i + 4)) hne a4
    rw [B128_18]
    simp only [RDc, Option.bind_some, List.append_nil, List.nil_append, List.cons_append, cond_true, cond_false, if_true, if_false, ite_true, ite_false, reduceIte, IC, bI_0, bI_1, bF, Bool.not_eq_false, Bool.not_eq_true, Bool.and_true, Bool.true_and, Bool.and_false, Bool.false_and, Bool.true_or, Bool.or_true, Bool.or_false, Bool.false_or, Bool.not_true, Bool.not_false, decide_true, decide_false, not_true_eq_false, not_false_eq_true, eq_self, Bool.true_eq_false, Bool.false_eq_true, hr.1.1, h0.1]
    rw [if_neg (by rw [iN_le (by omega) (by omega)]; omega)]
    simp only [C_at ok.1 hr, ans_i ok.1 hi, Option.bind_some, List.append_nil, List.nil_append, List.cons_append, cond_true, cond_false, if_true, if_false, ite_true, ite_false, reduceIte, IC, bI_0, bI_1, bF, Bool.not_eq_false, Bool.not_eq_true, Bool.and_true, Bool.true_and, Bool.and_false, Bool.false_and, Bool.true_or, Bool.or_true, Bool.or_false, Bool.false_or, Bool.not_true, Bool.not_false, decide_true, decide_false, not_true_eq_false, not_false_eq_true, eq_self, Bool.true_eq_false, Bool.false_eq_true, B128_37, oc_some, RDa hA.at, WRa hA.at, a4, a5, RDc, e1', B128_65]
    unfold foldA
    cases ha : arrF 4 (ndsS s i) with
    | true =>
      simp only [Option.bind_some, List.append_nil, List.nil_append, List.cons_append, cond_true, cond_false, if_true, if_false, ite_true, ite_false, reduceIte, IC, bI_0, bI_1, bF, Bool.not_eq_false, Bool.not_eq_true, Bool.and_true, Bool.true_and, Bool.and_false, Bool.false_and, Bool.true_or, Bool.or_true, Bool.or_false, Bool.false_or, Bool.not_true, Bool.not_false, decide_true, decide_false, not_true_eq_false, not_false_eq_true, eq_self, Bool.true_eq_false, Bool.false_eq_true, B128_74, WRa hA.at, hbk, B128_80, IX]
      obtain ⟨f2, e2⟩ := N_nds1 ok k (i + 1) acc (u2r I 13 f) (va_rf (some (ra i))) (.int (s (7 + 5 * i + 3))) hr.u13 (by omega)
      rw [u2r_r] at e2
      rw [Int32.or_zero]
      exact ⟨f2, e2⟩
    | false =>
      simp only [Option.bind_some, List.append_nil, List.nil_append, List.cons_append, cond_true, cond_false, if_true, if_false, ite_true, ite_false, reduceIte, IC, bI_0, bI_1, bF, Bool.not_eq_false, Bool.not_eq_true, Bool.and_true, Bool.true_and, Bool.and_false, Bool.false_and, Bool.true_or, Bool.or_true, Bool.or_false, Bool.false_or, Bool.not_true, Bool.not_false, decide_true, decide_false, not_true_eq_false, not_false_eq_true, eq_self, Bool.true_eq_false, Bool.false_eq_true, B128_74, WRa hA.at, hbk, B128_80, IX]
      obtain ⟨f2, e2⟩ := N_nds1 ok k (i + 1) _ (u2r I 13 f) (va_rf (some (ra i))) (.int (s (7 + 5 * i + 3))) hr.u13 (by omega)
      rw [u2r_r] at e2
      exact ⟨f2, e2⟩
theorem N_nds (ok : Ok s 10) : Cf X 128 [.ref 0, U_, U_, U_, U_] s (pNds s, s) := by
  intro d D I P N ra hr hl
  obtain ⟨f, e1⟩ := C_arr (X := X) (d := d + 28) (b := 0) (m := 10) (by decide) 4 (by decide) s _ ok hr
  rw [ar_arr (m := 10) (by decide) 4 _ ok] at e1
  have e1' : Rn X (d + 39) 78 0 [.ref 1, .int 4, .int 0, U_, U_, U_] [] (Mh D I P N) = _ := e1
  simp only [B128_0, RDc, Option.bind_some, List.append_nil, List.nil_append, List.cons_append, cond_true, cond_false, if_true, if_false, ite_true, ite_false, reduceIte, IC, bI_0, bI_1, bF, Bool.not_eq_false, Bool.not_eq_true, Bool.and_true, Bool.true_and, Bool.and_false, Bool.false_and, Bool.true_or, Bool.or_true, Bool.or_false, Bool.false_or, Bool.not_true, Bool.not_false, decide_true, decide_false, not_true_eq_false, not_false_eq_true, eq_self, Bool.true_eq_false, Bool.false_eq_true, e1', B128_9]
  unfold pNds
  cases ha : arrF 4 s with
  | false => exact ⟨u2r I 13 f, by simp only [Option.bind_some, List.append_nil, List.nil_append, List.cons_append, cond_true, cond_false, if_true, if_false, ite_true, ite_false, reduceIte, IC, bI_0, bI_1, bF, Bool.not_eq_false, Bool.not_eq_true, Bool.and_true, Bool.true_and, Bool.and_false, Bool.false_and, Bool.true_or, Bool.or_true, Bool.or_false, Bool.false_or, Bool.not_true, Bool.not_false, decide_true, decide_false, not_true_eq_false, not_false_eq_true, eq_self, Bool.true_eq_false, Bool.false_eq_true], hr.u13, by rw [u2r_o (by decide)]; exact hl, frc_13⟩
  | true =>
    obtain ⟨f2, e2⟩ := N_nds1 (X := X) (d := d + 28) ok (ctA s) 0 0 (u2r I 13 f) U_ U_ hr.u13 (by omega)
    rw [u2r_r] at e2
    refine ⟨u2r I 13 f2, ?_, hr.u13, by rw [u2r_o (by decide)]; exact hl, frc_13⟩
    simp only [Option.bind_some, List.append_nil, List.nil_append, List.cons_append, cond_true, cond_false, if_true, if_false, ite_true, ite_false, reduceIte, IC, bI_0, bI_1, bF, Bool.not_eq_false, Bool.not_eq_true, Bool.and_true, Bool.true_and, Bool.and_false, Bool.false_and, Bool.true_or, Bool.or_true, Bool.or_false, Bool.false_or, Bool.not_true, Bool.not_false, decide_true, decide_false, not_true_eq_false, not_false_eq_true, eq_self, Bool.true_eq_false, Bool.false_eq_true]
    exact e2
theorem bel_bk (hv : I 1 7 = w) : u2 (u2r (u2 I 1 7 v) 13 f) 1 7 w = u2r I 13 f := by
  funext b k
  by_cases hb : b = 1
  · subst hb
    rw [u2_s, u2r_o (by decide), u2_s, u2r_o (by decide)]
    by_cases hk : k = 7
    · subst hk; rw [upd_s, hv]
    · rw [upd_o hk, upd_o hk]
  · rw [u2_o hb]
    by_cases h13 : b = 13
    · subst h13; rw [u2r_s, u2r_s]
    · rw [u2r_o h13, u2r_o h13, u2_o hb]
theorem RideR.bel (hr : RideR s D I P N 1 ra) (g : Gd s m) : RideR (upd s 5 v) D (u2 I 1 7 v) P N 1 ra := by
  obtain ⟨⟨e1, e4, e5, e6, e7, e8, e13⟩, -⟩ := id hr
  refine hr.chg g.n2.2 (upd_o (by decide)) (upd_o (by decide)) (upd_o (by decide)) (fun k hk => upd_o (by omega)) (fun a ha => u2_o ha) ?_ ?_ ?_ ?_ ?_ ?_ ?_ ?_
  · rw [u2_s, upd_o (by decide)]
  · rw [u2_s, upd_o (by decide)]
  · rw [u2_s, upd_o (by decide)]
  · rw [u2_s, upd_o (by decide), upd_o (by decide)]; exact e6
  · rw [u2_s, upd_s, upd_s]
  · rw [u2_s, upd_o (by decide), upd_o (by decide)]; exact e8
  · rw [u2_s, upd_o (by decide), upd_o (by decide)]; exact e13
  · unfold ctE; rw [upd_o (by decide)]; exact Nat.le_refl _
theorem N_bfo1 (ok : Ok s 10) (hn : n ≤ 4) : ∀ k i I0 b, (∃ f0, RideR s D I P N 1 ra ∧ I0 = u2r (u2 I 1 7 b) 13 f0) → i + k = 101 → ∃ f, Rn X (d + n + 8) 130 25 [.ref 0, .int (Int32.ofNat n), .int (s 5), .int (-3), .int (Int32.ofNat i)] [] (Mh D I0 P N)
      = some ([.int (oV (findF (fun v => arrF n (upd s 5 (Int32.ofNat v))) i k))], Mh D (u2r I 13 f) P N)
  | 0, i, I0, b, ⟨f0, hr, hI⟩, hk => by
    have h1 : (100 : Int32) < Int32.ofNat i := by rw [show i = 101 by omega]; decide
    have e7 := hr.1.2.2.2.2.1
    refine ⟨f0, ?_⟩
    rw [B130_25, if_pos h1, B130_68, hI]
    simp only [RDc, WRc, Option.bind_some, List.append_nil, List.nil_append, List.cons_append, cond_true, cond_false, if_true, if_false, ite_true, ite_false, reduceIte, IC, bI_0, bI_1, bF, Bool.not_eq_false, Bool.not_eq_true, Bool.and_true, Bool.true_and, Bool.and_false, Bool.false_and, Bool.true_or, Bool.or_true, Bool.or_false, Bool.false_or, Bool.not_true, Bool.not_false, decide_true, decide_false, not_true_eq_false, not_false_eq_true, eq_self, Bool.true_eq_false, Bool.false_eq_true, bel_bk e7]
    rfl
  | k + 1, i, I0, b, ⟨f0, hr, hI⟩, hk => by
    have h1 : ¬ (100 : Int32) < Int32.ofNat i := by rw [Int32.lt_iff_toInt_lt, iN_ti (by omega)]; have : (100 : Int32).toInt = 100 := rfl; omega
    have ok2 := ok_bel ok (v := Int32.ofNat i) (by rw [bt_iff, iN_ti (by omega)]; omega)
    have e7 := hr.1.2.2.2.2.1
    have hw : u2 (u2r (u2 I 1 7 b) 13 f0) 1 7 (Int32.ofNat i) = u2r (u2 I 1 7 (Int32.ofNat i)) 13 f0 := by
      funext c k
      by_cases hb : c = 1
      · subst hb; rw [u2_s, u2r_o (by decide), u2_s, u2r_o (by decide), u2_s, upd_upd]
      · rw [u2_o hb]
        by_cases h13 : c = 13
        · subst h13; rw [u2r_s, u2r_s]
        · rw [u2r_o h13, u2r_o h13, u2_o hb, u2_o hb]
    obtain ⟨f1, e1⟩ := C_arr (X := X) (d := d) (b := 0) (m := 10) (by decide) n hn (upd s 5 (Int32.ofNat i)) _ ok2 ((hr.bel ok.1 (v := Int32.ofNat i)).u13 (f := f0))
    rw [ar_arr (m := 10) (by decide) n _ ok2, u2r_r] at e1
    rw [B130_25, if_neg h1, if_neg (by decide), hI]
    simp only [RDc, WRc, Option.bind_some, List.append_nil, List.nil_append, List.cons_append, cond_true, cond_false, if_true, if_false, ite_true, ite_false, reduceIte, IC, bI_0, bI_1, bF, Bool.not_eq_false, Bool.not_eq_true, Bool.and_true, Bool.true_and, Bool.and_false, Bool.false_and, Bool.true_or, Bool.or_true, Bool.or_false, Bool.false_or, Bool.not_true, Bool.not_false, decide_true, decide_false, not_true_eq_false, not_false_eq_true, eq_self, Bool.true_eq_false, Bool.false_eq_true, hw, e1, B130_56]
    unfold findF
    cases ha : arrF n (upd s 5 (Int32.ofNat i)) with
    | false =>
      simp only [Option.bind_some, List.append_nil, List.nil_append, List.cons_append, cond_true, cond_false, if_true, if_false, ite_true, ite_false, reduceIte, IC, bI_0, bI_1, bF, Bool.not_eq_false, Bool.not_eq_true, Bool.and_true, Bool.true_and, Bool.and_false, Bool.false_and, Bool.true_or, Bool.or_true, Bool.or_false, Bool.false_or, Bool.not_true, Bool.not_false, decide_true, decide_false, not_true_eq_false, not_false_eq_true, eq_self, Bool.true_eq_false, Bool.false_eq_true, B130_62, IX]
      exact N_bfo1 ok hn k (i + 1) _ (Int32.ofNat i) ⟨f1, hr, rfl⟩ (by omega)
    | true =>
      have hne : ¬ Int32.ofNat i = -3 := by rw [← Int32.toInt_inj, iN_ti (by omega)]; have : (-3 : Int32).toInt = -3 := rfl; omega
      refine ⟨f1, ?_⟩
      simp only [Option.bind_some, List.append_nil, List.nil_append, List.cons_append, cond_true, cond_false, if_true, if_false, ite_true, ite_false, reduceIte, IC, bI_0, bI_1, bF, Bool.not_eq_false, Bool.not_eq_true, Bool.and_true, Bool.true_and, Bool.and_false, Bool.false_and, Bool.true_or, Bool.or_true, Bool.or_false, Bool.false_or, Bool.not_true, Bool.not_false, decide_true, decide_false, not_true_eq_false, not_false_eq_true, eq_self, Bool.true_eq_false, Bool.false_eq_true, B130_62, IX]
      rw [B130_25]
      simp only [hne, Option.bind_some, List.append_nil, List.nil_append, List.cons_append, cond_true, cond_false, if_true, if_false, ite_true, ite_false, reduceIte, IC, bI_0, bI_1, bF, Bool.not_eq_false, Bool.not_eq_true, Bool.and_true, Bool.true_and, Bool.and_false, Bool.false_and, Bool.true_or, Bool.or_true, Bool.or_false, Bool.false_or, Bool.not_true, Bool.not_false, decide_true, decide_false, not_true_eq_false, not_false_eq_true, eq_self, Bool.true_eq_false, Bool.false_eq_true, ite_self, B130_68, RDc, WRc, bel_bk e7]
      rfl
theorem N_bfo (ok : Ok s 10) : Cf X 130 [.ref 0, .int x, U_, U_, U_] s (pBfo s x, s) := by
  intro d D I P N ra hr hl
  simp only [B130_0, C_btw, L32, Option.bind_some, List.append_nil, List.nil_append, List.cons_append, cond_true, cond_false, if_true, if_false, ite_true, ite_false, reduceIte, IC, bI_0, bI_1, bF, Bool.not_eq_false, Bool.not_eq_true, Bool.and_true, Bool.true_and, Bool.and_false, Bool.false_and, Bool.true_or, Bool.or_true, Bool.or_false, Bool.false_or, Bool.not_true, Bool.not_false, decide_true, decide_false, not_true_eq_false, not_false_eq_true, eq_self, Bool.true_eq_false, Bool.false_eq_true, B130_6]
  unfold pBfo
  cases hb : bt x 1 3 with
  | false => exact ⟨I, by simp only [Option.bind_some, List.append_nil, List.nil_append, List.cons_append, cond_true, cond_false, if_true, if_false, ite_true, ite_false, reduceIte, IC, bI_0, bI_1, bF, Bool.not_eq_false, Bool.not_eq_true, Bool.and_true, Bool.true_and, Bool.and_false, Bool.false_and, Bool.true_or, Bool.or_true, Bool.or_false, Bool.false_or, Bool.not_true, Bool.not_false, decide_true, decide_false, not_true_eq_false, not_false_eq_true, eq_self, Bool.true_eq_false, Bool.false_eq_true], hr, hl, frc_rf⟩
  | true =>
    have hb2 := bt_iff.mp hb
    have e1 : x = Int32.ofNat x.toNatClampNeg := iN_of (by omega)
    have e2 := cl_ti (x := x) (by omega)
    have e7 := hr.1.2.2.2.2.1
    have hI : I = u2r (u2 I 1 7 (s 5)) 13 (I 13) := by
      funext b k
      by_cases h13 : b = 13
      · subst h13; rw [u2r_s]
      · rw [u2r_o h13]
        by_cases hb : b = 1
        · subst hb; rw [u2_s]
          by_cases hk : k = 7
          · subst hk; rw [upd_s, e7]
          · rw [upd_o hk]
        · rw [u2_o hb]
    obtain ⟨f, e3⟩ := N_bfo1 (X := X) (d := d + 32 - x.toNatClampNeg) (I := I) (n := x.toNatClampNeg) ok (by omega) 101 0 I (s 5) ⟨I 13, hr, hI⟩ rfl
    rw [← e1, show d + 32 - x.toNatClampNeg + x.toNatClampNeg + 8 = d + 40 by omega] at e3
    refine ⟨u2r I 13 f, ?_, hr.u13, by rw [u2r_o (by decide)]; exact hl, frc_13⟩
    simp only [Option.bind_some, List.append_nil, List.nil_append, List.cons_append, cond_true, cond_false, if_true, if_false, ite_true, ite_false, reduceIte, IC, bI_0, bI_1, bF, Bool.not_eq_false, Bool.not_eq_true, Bool.and_true, Bool.true_and, Bool.and_false, Bool.false_and, Bool.true_or, Bool.or_true, Bool.or_false, Bool.false_or, Bool.not_true, Bool.not_false, decide_true, decide_false, not_true_eq_false, not_false_eq_true, eq_self, Bool.true_eq_false, Bool.false_eq_true, RDc, e7]
    exact e3
end ClsK
