/-! the class: lots -/
section ClsP
variable {X : mX} {d : Nat} {D : Nat → Nat × Nat} {I : Nat → Nat → Int32} {P : Nat → Nat → Option Nat} {N : Nat} {h : mH} {s s' g S r f f' F c : Nat → Int32} {J J' I' : Nat → Nat → Int32} {ra : Nat → Nat} {L : List Nat} {m : Int} {i j k n p q t : Nat} {x y v w a b e z z' fl : Int32}
theorem hld_6 (h : ∀ k, k ≠ 6 → s' k = s k) : hldV s' t = hldV s t ∧ endV s' = endV s := by
  have el : ctL s' = ctL s := by unfold ctL; rw [h _ (by omega)]
  have er : ctR s' = ctR s := by unfold ctR; rw [h _ (by omega)]
  have en : endV s' = endV s := by
    unfold endV; rw [el]
    have : ∀ k i e, endF s' i k e = endF s i k e := by
      intro k
      induction k with
      | zero => intro i e; rfl
      | succ k ih => intro i e; unfold endF; rw [h _ (by omega), ih]
    exact this _ _ _
  have hl : legN s' = legN s := by
    unfold legN; rw [el]
    have : ∀ k i e, legF s' i k e = legF s i k e := by
      intro k
      induction k with
      | zero => intro i e; rfl
      | succ k ih =>
        intro i e
        unfold legF
        rw [h (52 + 2 * i) (by omega), h 4 (by omega)]
        split
        · exact ih _ _
        · rfl
    exact this _ _ _
  have hm : moodV s' = moodV s := by unfold moodV; rw [el, hl, h (52 + 2 * legN s + 1) (by omega)]
  have hf : fctV s' t = fctV s t := by
    funext c; unfold fctV; rw [hl, hm, h _ (by omega), h 5 (by omega)]
  have hso : ∀ f e, soV s' f e t = soV s f e t := by
    intro f e; unfold soV
    rw [hf, show (fun k => s' (118 + k)) = fun k => s (118 + k) from funext fun k => h _ (by omega)]
  have hr : ∀ k j f, rulF s' t j k f = rulF s t j k f := by
    intro k
    induction k with
    | zero => intro j f; rfl
    | succ k ih =>
      intro j f
      unfold rulF
      rw [h _ (by omega), h (86 + 4 * j) (by omega), h (86 + 4 * j + 3) (by omega), hso, ih]
  have hR0 : ∀ o, hRl s' t o = hRl s t o := by
    intro o
    have e0 : s' (7 + 5 * t + 1) = s (7 + 5 * t + 1) := h _ (by omega)
    have eo : hR0 s' t o = hR0 s t o := by
      cases o with
      | none => exact e0
      | some k =>
        have e1 : s' (86 + 4 * k + 1) = s (86 + 4 * k + 1) := h _ (by omega)
        have e2 : s' (86 + 4 * k + 2) = s (86 + 4 * k + 2) := h _ (by omega)
        simp only [hR0, e0, e1, e2]
    unfold hRl
    rw [eo]
  refine ⟨?_, en⟩
  unfold hldV hl2 hl1
  rw [hr, er, hR0, hm, h _ (by omega), h (7 + 5 * t + 4) (by omega)]
theorem pas_6 : pasV (upd s 6 z) i = pasV s i := by
  have h := hld_6 (t := i) (s := s) (s' := upd s 6 z) (fun k hk => upd_o hk)
  unfold pasV; rw [h.1, h.2, upd_o (by decide)]
theorem upd_c (h : j ≠ k) : upd (upd s j x) k y = upd (upd s k y) j x := by
  funext a
  by_cases ha : a = k
  · subst ha; rw [upd_s, upd_o (Ne.symm h), upd_s]
  · rw [upd_o ha]
    by_cases hb : a = j
    · subst hb; rw [upd_s, upd_s]
    · rw [upd_o hb, upd_o hb, upd_o ha]
theorem tel_6 : telS (upd s 6 z) i = upd (telS s i) 6 z := by
  unfold telS
  rw [pas_6, upd_o (show 4 ≠ 6 by decide), upd_o (show 5 ≠ 6 by decide), upd_o (show 7 + 5 * i + 2 ≠ 6 by omega), upd_o (show 7 + 5 * i + 4 ≠ 6 by omega)]
  rw [upd_c (show 6 ≠ 4 by decide), upd_c (show 6 ≠ 5 by decide), upd_c (show 6 ≠ 7 + 5 * i + 4 by omega)]
theorem pth_6 : ∀ L, pth L (upd s 6 z) = upd (pth L s) 6 z
  | [] => rfl
  | a :: L => by
    show telS (pth L (upd s 6 z)) a = upd (telS (pth L s) a) 6 z
    rw [pth_6 L, tel_6]
theorem pth_66 : ∀ L, pth L s 6 = s 6
  | [] => rfl
  | a :: L => by
    show telS (pth L s) a 6 = _
    unfold telS
    rw [upd_o (by omega), upd_o (by omega), upd_o (by omega), pth_66 L]
theorem chn_6 : ∀ L, chn L (upd s 6 z) ↔ chn L s
  | [] => Iff.rfl
  | a :: L => by
    show chn L (upd s 6 z) ∧ a < ctA (upd s 6 z) ∧ canV (pth L (upd s 6 z)) a = true ↔ chn L s ∧ a < ctA s ∧ canV (pth L s) a = true
    rw [chn_6 L, ctA_6, pth_6, canV_6]
theorem srR_6 : ∀ L, srR J (upd s 6 z) L ↔ srR J s L
  | [] => Iff.rfl
  | a :: T => by
    show (_ ∧ J 33 T.length = pasV (pth T (upd s 6 z)) a ∧ J 34 T.length = pth (a :: T) (upd s 6 z) 4 ∧ J 35 T.length = pth (a :: T) (upd s 6 z) 5) ∧ srR J (upd s 6 z) T ↔ (_ ∧ J 33 T.length = pasV (pth T s) a ∧ J 34 T.length = pth (a :: T) s 4 ∧ J 35 T.length = pth (a :: T) s 5) ∧ srR J s T
    rw [srR_6 T, pth_6, pth_6, pas_6, upd_o (show 4 ≠ 6 by decide), upd_o (show 5 ≠ 6 by decide)]
theorem RideR.seed (hr : RideR s D I P N 1 ra) (g : Gd s m) : RideR (upd s 6 z) D (u2 I 1 8 z) P N 1 ra := by
  obtain ⟨⟨e1, e4, e5, e6, e7, e8, e13⟩, -⟩ := id hr
  refine hr.chg g.n2.2 (upd_o (by decide)) (upd_o (by decide)) (upd_o (by decide)) (fun k hk => upd_o (by omega)) (fun a ha => u2_o ha) ?_ ?_ ?_ ?_ ?_ ?_ ?_ ?_
  · rw [u2_s, upd_o (by decide)]
  · rw [u2_s, upd_o (by decide)]
  · rw [u2_s, upd_o (by decide)]
  · rw [u2_s, upd_o (by decide), upd_o (by decide)]; exact e6
  · rw [u2_s, upd_o (by decide), upd_o (by decide)]; exact e7
  · rw [u2_s, upd_s, upd_s]
  · rw [u2_s, upd_o (by decide), upd_o (by decide)]; exact e13
  · unfold ctE; rw [upd_o (by decide)]; exact Nat.le_refl _
theorem Srch.seed (ok : Ok s 10) (hS : Srch D P N ra (upd s 6 z) I L J) : Srch D P N ra (upd s 6 z') I L (u2 J 1 8 z') := by
  obtain ⟨hr, hl, hs, hf, hc⟩ := hS
  have hc' := (chn_6 L).mp hc
  obtain ⟨ok2, -⟩ := pth_ok L ok hc'
  refine ⟨?_, by rw [u2_o (by decide)]; exact hl, ?_, ?_, (chn_6 L).mpr hc'⟩
  · have h2 := hr.seed (z := z') (by rw [pth_6]; exact (ok_6 ok2).1)
    rw [pth_6, upd_upd] at h2
    rw [pth_6]; exact h2
  · exact srR_of L (fun j _ => ⟨by rw [u2_o (by decide)], by rw [u2_o (by decide)], by rw [u2_o (by decide)], by rw [u2_o (by decide)]⟩) ((srR_6 L).mpr ((srR_6 L).mp hs))
  · rw [ctA_6] at hf ⊢
    intro a h1 h13 h31 ha
    rw [u2_o h1]; exact hf a h1 h13 h31 ha
theorem C_drw1 (g : Gd s m) (hw : w = canS s) (h1 : I 1 1 = s 0) : ∀ k i n, i + k = ctA s → n < cntF s i k → ∃ a, nthF s i k n = some a ∧ Rn X (d + 1) 44 45 [.ref 1, .int w, .int x, .int (Int32.ofNat n), .int (Int32.ofNat i)] [] (Mh D I P N)
      = some ([.int (Int32.ofNat a)], Mh D I P N)
  | 0, _, _, _, h => by cases h
  | k + 1, i, n, hk, h => by
    have h0 := g.n0
    have hb := (bits h0.2 (canV s)).1 i (by omega)
    have hb' : (w >>> (Int32.ofNat i &&& 31)) &&& 1 = bI (canV s i) := by rw [hw]; exact hb
    rw [cnt_s] at h
    unfold nthF
    rw [B44_45]
    simp only [RDc, Option.bind_some, List.append_nil, List.nil_append, List.cons_append, cond_true, cond_false, if_true, if_false, ite_true, ite_false, reduceIte, IC, bI_0, bI_1, bF, Bool.not_eq_false, Bool.not_eq_true, Bool.and_true, Bool.true_and, Bool.and_false, Bool.false_and, Bool.true_or, Bool.or_true, Bool.or_false, Bool.false_or, Bool.not_true, Bool.not_false, decide_true, decide_false, not_true_eq_false, not_false_eq_true, eq_self, Bool.true_eq_false, Bool.false_eq_true, h1, h0.1]
    rw [if_neg (by rw [iN_le (by omega) (by omega)]; omega), hb']
    cases hc : canV s i with
    | false =>
      rw [hc] at h
      simp only [Option.bind_some, List.append_nil, List.nil_append, List.cons_append, cond_true, cond_false, if_true, if_false, ite_true, ite_false, reduceIte, IC, bI_0, bI_1, bF, Bool.not_eq_false, Bool.not_eq_true, Bool.and_true, Bool.true_and, Bool.and_false, Bool.false_and, Bool.true_or, Bool.or_true, Bool.or_false, Bool.false_or, Bool.not_true, Bool.not_false, decide_true, decide_false, not_true_eq_false, not_false_eq_true, eq_self, Bool.true_eq_false, Bool.false_eq_true, bI_f]
      simp +decide only [Option.bind_some, List.append_nil, List.nil_append, List.cons_append, cond_true, cond_false, if_true, if_false, ite_true, ite_false, reduceIte, IC, bI_0, bI_1, bF, Bool.not_eq_false, Bool.not_eq_true, Bool.and_true, Bool.true_and, Bool.and_false, Bool.false_and, Bool.true_or, Bool.or_true, Bool.or_false, Bool.false_or, Bool.not_true, Bool.not_false, decide_true, decide_false, not_true_eq_false, not_false_eq_true, eq_self, Bool.true_eq_false, Bool.false_eq_true, B44_74, IX]
      exact C_drw1 g hw h1 k (i + 1) n (by omega) (by simpa using h)
    | true =>
      rw [hc] at h
      match n, h with
      | 0, _ =>
        have hz : Int32.ofNat 0 = 0 := rfl
        refine ⟨i, rfl, ?_⟩
        simp only [Option.bind_some, List.append_nil, List.nil_append, List.cons_append, cond_true, cond_false, if_true, if_false, ite_true, ite_false, reduceIte, IC, bI_0, bI_1, bF, Bool.not_eq_false, Bool.not_eq_true, Bool.and_true, Bool.true_and, Bool.and_false, Bool.false_and, Bool.true_or, Bool.or_true, Bool.or_false, Bool.false_or, Bool.not_true, Bool.not_false, decide_true, decide_false, not_true_eq_false, not_false_eq_true, eq_self, Bool.true_eq_false, Bool.false_eq_true, bI_t, hz]
      | n + 1, h =>
        have h' : n + 1 < 1 + cntF s (i + 1) k := h
        have hl := (bits h0.2 (canV s)).2.2.2.2
        have hcl : cntF s (i + 1) k ≤ 0 + k := foldA_bnd (fun a acc => by cases canV s a <;> simp) k (i + 1) 0
        have hz : ¬ Int32.ofNat (n + 1) = 0 := by rw [iN_z (by omega)]; omega
        simp only [Option.bind_some, List.append_nil, List.nil_append, List.cons_append, cond_true, cond_false, if_true, if_false, ite_true, ite_false, reduceIte, IC, bI_0, bI_1, bF, Bool.not_eq_false, Bool.not_eq_true, Bool.and_true, Bool.true_and, Bool.and_false, Bool.false_and, Bool.true_or, Bool.or_true, Bool.or_false, Bool.false_or, Bool.not_true, Bool.not_false, decide_true, decide_false, not_true_eq_false, not_false_eq_true, eq_self, Bool.true_eq_false, Bool.false_eq_true, bI_t, hz, B44_74, x_m1, iN_p1, IX]
        exact C_drw1 g hw h1 k (i + 1) n (by omega) (by omega)
theorem C_drw (ok : Ok s 10) (hr : RideR s D I P N 1 ra) : (drwF s = none ∧ Rn X (d + 5) 44 0 [.ref 1, U_, U_, U_, U_] [] (Mh D I P N) = some ([.int (-3)], Mh D I P N))
    ∨ (∃ a, drwF s = some a ∧ a < ctA s ∧ canV s a = true ∧ Rn X (d + 5) 44 0 [.ref 1, U_, U_, U_, U_] [] (Mh D I P N) = some ([.int (Int32.ofNat a)], Mh D (u2 I 1 8 (lotV (s 6))) P N)) := by
  have h0 := ok.1.n0
  obtain ⟨⟨e1, e4, e5, e6, e7, e8, e13⟩, -⟩ := id hr
  have hbt := bits h0.2 (canV s)
  have hbc : bcV (canS s) = Int32.ofNat (onesN s) := hbt.2.2.2.1
  have h9 := ones_b ok.1
  simp only [B44_0, Option.bind_some, List.append_nil, List.nil_append, List.cons_append, cond_true, cond_false, if_true, if_false, ite_true, ite_false, reduceIte, IC, bI_0, bI_1, bF, Bool.not_eq_false, Bool.not_eq_true, Bool.and_true, Bool.true_and, Bool.and_false, Bool.false_and, Bool.true_or, Bool.or_true, Bool.or_false, Bool.false_or, Bool.not_true, Bool.not_false, decide_true, decide_false, not_true_eq_false, not_false_eq_true, eq_self, Bool.true_eq_false, Bool.false_eq_true, C_canS ok.1 hr, B44_4, M_bc, hbc, B44_9]
  by_cases h1 : onesN s = 0
  · left
    refine ⟨by unfold drwF; rw [if_pos h1], ?_⟩
    rw [h1]
    have hz : Int32.ofNat 0 = 0 := rfl
    simp only [hz, Option.bind_some, List.append_nil, List.nil_append, List.cons_append, cond_true, cond_false, if_true, if_false, ite_true, ite_false, reduceIte, IC, bI_0, bI_1, bF, Bool.not_eq_false, Bool.not_eq_true, Bool.and_true, Bool.true_and, Bool.and_false, Bool.false_and, Bool.true_or, Bool.or_true, Bool.or_false, Bool.false_or, Bool.not_true, Bool.not_false, decide_true, decide_false, not_true_eq_false, not_false_eq_true, eq_self, Bool.true_eq_false, Bool.false_eq_true]
  · right
    have h2 := lotI_b (s := s) (by omega) (by omega)
    have h3 : ¬ Int32.ofNat (onesN s) = 0 := by rw [iN_z (by omega)]; exact h1
    obtain ⟨a, q1, q2⟩ := C_drw1 (X := X) (d := d + 4) (D := D) (I := u2 I 1 8 (lotV (s 6))) (P := P) (N := N) (x := Int32.ofNat (onesN s)) ok.1 rfl (by rw [u2_s, upd_o (by decide)]; exact e1) (ctA s) 0 (lotI s).toNatClampNeg (by omega) h2.2
    obtain ⟨a', r1, r2, r3⟩ := drw_some ok.1 h1
    have hdr : drwF s = some a := by unfold drwF; rw [if_neg h1, q1]
    have haa : a' = a := by rw [hdr] at r1; cases r1; rfl
    subst haa
    refine ⟨a', hdr, r2, r3, ?_⟩
    rw [← iN_of h2.1] at q2
    have q2' : Rn X (d + 4 + 1) 44 45 [.ref 1, .int (canS s), .int (Int32.ofNat (onesN s)), .int (lotI s), .int 0] [] (Mh D (u2 I 1 8 (lotV (s 6))) P N) = _ := q2
    have hw : s 6 * 1103515245 + 12345 = lotV (s 6) := rfl
    simp only [h3, Option.bind_some, List.append_nil, List.nil_append, List.cons_append, cond_true, cond_false, if_true, if_false, ite_true, ite_false, reduceIte, IC, bI_0, bI_1, bF, Bool.not_eq_false, Bool.not_eq_true, Bool.and_true, Bool.true_and, Bool.and_false, Bool.false_and, Bool.true_or, Bool.or_true, Bool.or_false, Bool.false_or, Bool.not_true, Bool.not_false, decide_true, decide_false, not_true_eq_false, not_false_eq_true, eq_self, Bool.true_eq_false, Bool.false_eq_true, RDc, e8, hw, WRc, u2_s, upd_s]
    exact q2'
theorem frc_t {n : Nat} (h1 : FrC n ra I J) (h2 : FrC n ra J J') : FrC n ra I J' := fun a a1 a2 a3 a4 a5 a6 a7 a8 => (h2 a a1 a2 a3 a4 a5 a6 a7 a8).trans (h1 a a1 a2 a3 a4 a5 a6 a7 a8)
theorem N_drw (ok : Ok s 10) : Cf X 138 [.ref 0, U_] s (oV (drwF s), drwS s) := by
  intro d D I P N ra hr hl
  rcases C_drw (X := X) (d := d + 34) ok hr with ⟨q1, q2⟩ | ⟨a, q1, q2, q3, q4⟩
  · have hs : drwS s = s := by unfold drwS; rw [q1]
    refine ⟨I, ?_, by rw [hs]; exact hr, hl, frc_rf⟩
    simp only [B138_0, RDc, Option.bind_some, List.append_nil, List.nil_append, List.cons_append, cond_true, cond_false, if_true, if_false, ite_true, ite_false, reduceIte, IC, bI_0, bI_1, bF, Bool.not_eq_false, Bool.not_eq_true, Bool.and_true, Bool.true_and, Bool.and_false, Bool.false_and, Bool.true_or, Bool.or_true, Bool.or_false, Bool.false_or, Bool.not_true, Bool.not_false, decide_true, decide_false, not_true_eq_false, not_false_eq_true, eq_self, Bool.true_eq_false, Bool.false_eq_true, q2, B138_7, B138_23, q1]
    rfl
  · have hs : drwS s = telS (upd s 6 (lotV (s 6))) a := by unfold drwS; rw [q1]
    have hr2 := hr.seed (z := lotV (s 6)) ok.1
    have ok2 := ok_6 (z := lotV (s 6)) ok
    have ha : a < ctA (upd s 6 (lotV (s 6))) := by rw [ctA_6]; exact q2
    obtain ⟨f, e⟩ := C_tel (X := X) (d := d + 33) ok2 hr2 ha (by rw [canV_6]; exact q3)
    have h80 := (hr.2.2.2.1 a q2).2.1.1
    have h9 := ok.1.a q2
    have hn : ¬ Int32.ofNat a = -3 := by
      rw [← Int32.toInt_inj, iN_ti (by omega)]; have : (-3 : Int32).toInt = -3 := rfl; omega
    refine ⟨tlI (u2 I 1 8 (lotV (s 6))) (upd s 6 (lotV (s 6))) ra a f, ?_, by rw [hs]; exact hr2.tel ok2 ha, by rw [tl_o (by decide) (by decide) (by omega), u2_o (by decide)]; exact hl, fun c h1 _ _ h13 _ _ _ hc => (tl_o h1 h13 (hc a q2)).trans (u2_o h1)⟩
    simp only [B138_0, RDc, Option.bind_some, List.append_nil, List.nil_append, List.cons_append, cond_true, cond_false, if_true, if_false, ite_true, ite_false, reduceIte, IC, bI_0, bI_1, bF, Bool.not_eq_false, Bool.not_eq_true, Bool.and_true, Bool.true_and, Bool.and_false, Bool.false_and, Bool.true_or, Bool.or_true, Bool.or_false, Bool.false_or, Bool.not_true, Bool.not_false, decide_true, decide_false, not_true_eq_false, not_false_eq_true, eq_self, Bool.true_eq_false, Bool.false_eq_true, q4, B138_7, hn, e, B138_22, B138_23, q1]
    rfl
theorem C_wlt1 (ok : Ok s 10) : ∀ k i L z J (l3 : Value), Srch D P N ra (upd s 6 z) I L J → L.length = i → i + k = 30 → ∃ L' z' J', Srch D P N ra (upd s 6 z') I L' J' ∧ L'.length ≤ 30 ∧ pth L' (upd s 6 z') = walkS k (pth L (upd s 6 z))
      ∧ Rn X (d + 8) 88 4 [.ref 31, .int 1, .int (Int32.ofNat i), l3] [] (Mh D J P N) = some ([], Mh D J' P N)
  | 0, i, L, z, J, l3, hS, hL, hk => by
    refine ⟨L, z, J, hS, by omega, rfl, ?_⟩
    rw [B88_4, if_pos (le_y (l := 30) (n := 30) rfl (by omega) (by omega) (by omega)), B88_48]
  | k + 1, i, L, z, J, l3, hS, hL, hk => by
    have hc' := (chn_6 L).mp hS.2.2.2.2
    have hn : ¬ (30 : Int32) ≤ Int32.ofNat i := le_n (l := 30) (n := 30) rfl (by omega) (by omega) (by omega)
    obtain ⟨ok2, hct⟩ := pth_ok L (ok_6 (z := z) ok) hS.2.2.2.2
    unfold walkS
    rcases C_drw (X := X) (d := d + 2) ok2 hS.1 with ⟨q1, q2⟩ | ⟨a, q1, q2, q3, q4⟩
    · refine ⟨L, z, J, hS, by omega, by rw [q1], ?_⟩
      have n1 : ¬ (1 : Int32) = 0 := by decide
      rw [B88_4, if_neg hn, if_neg n1]
      simp only [Option.bind_some, List.append_nil, List.nil_append, List.cons_append, cond_true, cond_false, if_true, if_false, ite_true, ite_false, reduceIte, IC, bI_0, bI_1, bF, Bool.not_eq_false, Bool.not_eq_true, Bool.and_true, Bool.true_and, Bool.and_false, Bool.false_and, Bool.true_or, Bool.or_true, Bool.or_false, Bool.false_or, Bool.not_true, Bool.not_false, decide_true, decide_false, not_true_eq_false, not_false_eq_true, eq_self, Bool.true_eq_false, Bool.false_eq_true, RDc, q2, B88_21, B88_40, B88_41, IX]
      rw [B88_4, if_pos rfl]
      simp only [B88_48, ite_self]
    · have hd : drwS (pth L (upd s 6 z)) = pth (a :: L) (upd s 6 (lotV (pth L (upd s 6 z) 6))) := by
        show _ = telS (pth L _) a
        unfold drwS; rw [q1, pth_6, pth_6, upd_upd]
      have hS2 := Srch.seed (z' := lotV (pth L (upd s 6 z) 6)) ok hS
      have ha : a < ctA (upd s 6 (lotV (pth L (upd s 6 z) 6))) := by rw [ctA_6]; rw [hct, ctA_6] at q2; exact q2
      have hca : canV (pth L (upd s 6 (lotV (pth L (upd s 6 z) 6)))) a = true := by
        rw [pth_6, canV_6]; rw [pth_6, canV_6] at q3; exact q3
      have h9 := ok2.1.a q2
      obtain ⟨J2, hS3, e3⟩ := C_step (X := X) (d := d) (ok_6 ok) hS2 (by omega) ha hca
      obtain ⟨L', z', J', w1, w2, w3, w4⟩ := C_wlt1 ok k (i + 1) (a :: L) _ J2 (.int (Int32.ofNat a)) hS3 (by simp; omega) (by omega)
      have hn3 : ¬ Int32.ofNat a = -3 := by
        rw [← Int32.toInt_inj, iN_ti (by omega)]; have : (-3 : Int32).toInt = -3 := rfl; omega
      refine ⟨L', z', J', w1, w2, by rw [q1, hd]; exact w3, ?_⟩
      have n1 : ¬ (1 : Int32) = 0 := by decide
      rw [B88_4, if_neg hn, if_neg n1]
      simp only [Option.bind_some, List.append_nil, List.nil_append, List.cons_append, cond_true, cond_false, if_true, if_false, ite_true, ite_false, reduceIte, IC, bI_0, bI_1, bF, Bool.not_eq_false, Bool.not_eq_true, Bool.and_true, Bool.true_and, Bool.and_false, Bool.false_and, Bool.true_or, Bool.or_true, Bool.or_false, Bool.false_or, Bool.not_true, Bool.not_false, decide_true, decide_false, not_true_eq_false, not_false_eq_true, eq_self, Bool.true_eq_false, Bool.false_eq_true, RDc, q4, B88_21, hn3, e3, B88_33, n1, B88_41, IX]
      exact w4
theorem C_wlt (ok : Ok s 10) (hS : Srch D P N ra (upd s 6 z) I [] J) : ∃ L' z' J', Srch D P N ra (upd s 6 z') I L' J' ∧ L'.length ≤ 30 ∧ pth L' (upd s 6 z') = walkS 30 (upd s 6 z)
      ∧ Rn X (d + 8) 88 0 [.ref 31, U_, U_, U_] [] (Mh D J P N) = some ([], Mh D J' P N) := by
  rw [B88_0]; exact C_wlt1 ok 30 0 [] z J U_ hS rfl rfl
theorem N_oft1 (ok : Ok s 10) (hx : x = Int32.ofNat n) (hn : n ≤ 60) : ∀ k i acc z I, RideR (upd s 6 z) D I P N 1 ra → I 31 5 = 0 → i + k = n → acc ≤ i → ∃ I', Rn X (d + 12) 139 25 [.ref 0, .int x, .int (s 6), .int (Int32.ofNat acc), .int (Int32.ofNat i)] [] (Mh D I P N)
      = some ([.int (Int32.ofNat (oftF s k z acc))], Mh D I' P N) ∧ RideR s D I' P N 1 ra ∧ I' 31 5 = 0 ∧ FrC (ctA s) ra I I'
  | 0, i, acc, z, I, hr, hl, hk, ha => by
    have h2 := hr.seed (z := s 6) (ok_6 ok).1
    rw [upd_upd, upd_id] at h2
    refine ⟨u2 I 1 8 (s 6), ?_, h2, by rw [u2_o (by decide)]; exact hl, frc_1⟩
    rw [B139_25, hx]
    simp (disch := omega) only [iN_le]
    rw [if_pos (by omega)]
    simp only [Option.bind_some, List.append_nil, List.nil_append, List.cons_append, cond_true, cond_false, if_true, if_false, ite_true, ite_false, reduceIte, IC, bI_0, bI_1, bF, Bool.not_eq_false, Bool.not_eq_true, Bool.and_true, Bool.true_and, Bool.and_false, Bool.false_and, Bool.true_or, Bool.or_true, Bool.or_false, Bool.false_or, Bool.not_true, Bool.not_false, decide_true, decide_false, not_true_eq_false, not_false_eq_true, eq_self, Bool.true_eq_false, Bool.false_eq_true, RDc, WRc]
    rfl
  | k + 1, i, acc, z, I, hr, hl, hk, ha => by
    have hS0 : Srch D P N ra (upd s 6 z) I [] I := srch0 hr hl
    obtain ⟨L1, z1, J1, w1, w2, w3, w4⟩ := C_wlt (X := X) (d := d + 3) ok hS0
    obtain ⟨J2, hS2, e2⟩ := C_bak (X := X) (d := d + 8) (ok_6 ok) w1 w2
    obtain ⟨r1, r2, r3⟩ := srch_end hS2
    rw [ctA_6] at r3
    have ez : z1 = walkS 30 (upd s 6 z) 6 := by rw [← w3, pth_66, upd_s]
    rw [ez] at r1
    have eo := C_over (X := X) (d := d + 11) w1.1
    rw [w3] at eo
    have hle : ¬ x ≤ Int32.ofNat i := by rw [hx, iN_le (by omega) (by omega)]; omega
    rw [B139_25, if_neg hle]
    simp only [Option.bind_some, List.append_nil, List.nil_append, List.cons_append, cond_true, cond_false, if_true, if_false, ite_true, ite_false, reduceIte, IC, bI_0, bI_1, bF, Bool.not_eq_false, Bool.not_eq_true, Bool.and_true, Bool.true_and, Bool.and_false, Bool.false_and, Bool.true_or, Bool.or_true, Bool.or_false, Bool.false_or, Bool.not_true, Bool.not_false, decide_true, decide_false, not_true_eq_false, not_false_eq_true, eq_self, Bool.true_eq_false, Bool.false_eq_true, RDc, w4, B139_38, eo]
    unfold oftF
    cases ho : ovV (walkS 30 (upd s 6 z)) with
    | false =>
      obtain ⟨I', p1, p2, p3, p4⟩ := N_oft1 ok hx hn k (i + 1) acc _ J2 r1 r2 (by omega) (by omega)
      refine ⟨I', ?_, p2, p3, frc_t r3 p4⟩
      simp only [Option.bind_some, List.append_nil, List.nil_append, List.cons_append, cond_true, cond_false, if_true, if_false, ite_true, ite_false, reduceIte, IC, bI_0, bI_1, bF, Bool.not_eq_false, Bool.not_eq_true, Bool.and_true, Bool.true_and, Bool.and_false, Bool.false_and, Bool.true_or, Bool.or_true, Bool.or_false, Bool.false_or, Bool.not_true, Bool.not_false, decide_true, decide_false, not_true_eq_false, not_false_eq_true, eq_self, Bool.true_eq_false, Bool.false_eq_true, B139_46, B139_54, Int32.add_zero, RDc, e2, B139_63, IX]
      exact p1
    | true =>
      obtain ⟨I', p1, p2, p3, p4⟩ := N_oft1 ok hx hn k (i + 1) (acc + 1) _ J2 r1 r2 (by omega) (by omega)
      refine ⟨I', ?_, p2, p3, frc_t r3 p4⟩
      simp +decide only [Option.bind_some, List.append_nil, List.nil_append, List.cons_append, cond_true, cond_false, if_true, if_false, ite_true, ite_false, reduceIte, IC, bI_0, bI_1, bF, Bool.not_eq_false, Bool.not_eq_true, Bool.and_true, Bool.true_and, Bool.and_false, Bool.false_and, Bool.true_or, Bool.or_true, Bool.or_false, Bool.false_or, Bool.not_true, Bool.not_false, decide_true, decide_false, not_true_eq_false, not_false_eq_true, eq_self, Bool.true_eq_false, Bool.false_eq_true, B139_46, B139_54, RDc, e2, B139_63, IX]
      exact p1
theorem N_oft (ok : Ok s 10) : Cf X 139 [.ref 0, .int x, U_, U_, U_] s (pOft s x, s) := by
  intro d D I P N ra hr hl
  obtain ⟨⟨e1, e4, e5, e6, e7, e8, e13⟩, -⟩ := id hr
  simp only [B139_0, C_btw, L32, Option.bind_some, List.append_nil, List.nil_append, List.cons_append, cond_true, cond_false, if_true, if_false, ite_true, ite_false, reduceIte, IC, bI_0, bI_1, bF, Bool.not_eq_false, Bool.not_eq_true, Bool.and_true, Bool.true_and, Bool.and_false, Bool.false_and, Bool.true_or, Bool.or_true, Bool.or_false, Bool.false_or, Bool.not_true, Bool.not_false, decide_true, decide_false, not_true_eq_false, not_false_eq_true, eq_self, Bool.true_eq_false, Bool.false_eq_true, B139_7]
  unfold pOft
  cases hb : bt x 1 60 with
  | false => exact ⟨I, by simp only [Option.bind_some, List.append_nil, List.nil_append, List.cons_append, cond_true, cond_false, if_true, if_false, ite_true, ite_false, reduceIte, IC, bI_0, bI_1, bF, Bool.not_eq_false, Bool.not_eq_true, Bool.and_true, Bool.true_and, Bool.and_false, Bool.false_and, Bool.true_or, Bool.or_true, Bool.or_false, Bool.false_or, Bool.not_true, Bool.not_false, decide_true, decide_false, not_true_eq_false, not_false_eq_true, eq_self, Bool.true_eq_false, Bool.false_eq_true], hr, hl, frc_rf⟩
  | true =>
    have hb2 := bt_iff.mp hb
    have e1 : x = Int32.ofNat x.toNatClampNeg := iN_of (by omega)
    have e2 := cl_ti (x := x) (by omega)
    obtain ⟨I', q1, q2, q3, q4⟩ := N_oft1 (X := X) (d := d + 28) ok e1 (by omega) x.toNatClampNeg 0 0 (s 6) I (by rw [upd_id]; exact hr) hl (by omega) (by omega)
    refine ⟨I', ?_, q2, q3, q4⟩
    simp only [Option.bind_some, List.append_nil, List.nil_append, List.cons_append, cond_true, cond_false, if_true, if_false, ite_true, ite_false, reduceIte, IC, bI_0, bI_1, bF, Bool.not_eq_false, Bool.not_eq_true, Bool.and_true, Bool.true_and, Bool.and_false, Bool.false_and, Bool.true_or, Bool.or_true, Bool.or_false, Bool.false_or, Bool.not_true, Bool.not_false, decide_true, decide_false, not_true_eq_false, not_false_eq_true, eq_self, Bool.true_eq_false, Bool.false_eq_true, RDc, e8]
    exact q1
end ClsP
