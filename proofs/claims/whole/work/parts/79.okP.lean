/-! what each call leaves is a ride's row again -/
section OkP
variable {s t : Nat → Int32} {m : Int} {i j k n : Nat} {v a b c e w x : Int32}
theorem ub {lo hi : Int} (h1 : i = j → bt v lo hi = true) (h2 : bt (s i) lo hi = true) : bt (upd s j v i) lo hi = true := by
  by_cases h : i = j
  · rw [h, upd_s]; exact h1 h
  · rw [upd_o h]; exact h2
theorem gd_u (g : Gd s m) (hj : 4 ≤ j) (h4 : j = 4 → bt v 0 800 = true) (h5 : j = 5 → bt v 0 100 = true)
    (hA : ∀ i, i < ctA s → (7 + 5 * i = j → bt v 1 5 = true) ∧ (7 + 5 * i + 1 = j → bt v 1 60 = true) ∧ (7 + 5 * i + 2 = j → bt v 0 100 = true) ∧ (7 + 5 * i + 3 = j → bt v 0 m = true) ∧ (7 + 5 * i + 4 = j → bt v 0 10 = true))
    (hL : ∀ k, k < ctL s → (52 + 2 * k = j → bt v 1 99 = true) ∧ (52 + 2 * k + 1 = j → bt v 0 2 = true)) : Gd (upd s j v) m := by
  obtain ⟨⟨g0, g1, g2, g3, g4, g5⟩, ga, gl⟩ := g
  refine ⟨⟨ub (by omega) g0, ub (by omega) g1, ub (by omega) g2, ub (by omega) g3, ub (fun h => h4 h.symm) g4, ub (fun h => h5 h.symm) g5⟩, fun i hi => ?_, fun k hk => ?_⟩
  · have e : ctA (upd s j v) = ctA s := by unfold ctA; rw [upd_o (by omega)]
    rw [e] at hi
    obtain ⟨b1, b2, b3, b4, b5⟩ := ga i hi
    obtain ⟨c1, c2, c3, c4, c5⟩ := hA i hi
    exact ⟨ub c1 b1, ub c2 b2, ub c3 b3, ub c4 b4, ub c5 b5⟩
  · have e : ctL (upd s j v) = ctL s := by unfold ctL; rw [upd_o (by omega)]
    rw [e] at hk
    obtain ⟨b1, b2⟩ := gl k hk
    obtain ⟨c1, c2⟩ := hL k hk
    exact ⟨ub c1 b1, ub c2 b2⟩
theorem ok_u (ok : Ok s m) (hj : j < 86) (h1 : j ≠ 1) (g : Gd (upd s j v) m) : Ok (upd s j v) m := ⟨g, RuOK_of (upd_o (by omega)) (fun i hi => upd_o (by omega)) ok.2⟩
theorem ct_u (hj : j ≠ 0) : ctA (upd s j v) = ctA s := by unfold ctA; rw [upd_o (by omega)]
theorem ok_up (ok : Ok s 9) : Ok s 10 := by
  obtain ⟨⟨g0, ga, gl⟩, r⟩ := ok
  refine ⟨⟨g0, fun i hi => ?_, gl⟩, r⟩
  obtain ⟨b1, b2, b3, b4, b5⟩ := ga i hi
  have := bt_iff.mp b4
  exact ⟨b1, b2, b3, bt_iff.mpr (by omega), b5⟩
/-- LEFT is as it was -/
def LfR (s t : Nat → Int32) : Prop := ctA t = ctA s ∧ ∀ i, t (7 + 5 * i + 3) = s (7 + 5 * i + 3)
theorem LfR.tr {r : Nat → Int32} (h1 : LfR s t) (h2 : LfR t r) : LfR s r := ⟨h2.1.trans h1.1, fun i => (h2.2 i).trans (h1.2 i)⟩
theorem ok_dn (ok : Ok s 9) (h : Ok t 10) (hl : LfR s t) : Ok t 9 := by
  obtain ⟨⟨g0, ga, gl⟩, r⟩ := h
  refine ⟨⟨g0, fun i hi => ?_, gl⟩, r⟩
  obtain ⟨b1, b2, b3, b4, b5⟩ := ga i hi
  rw [hl.1] at hi
  exact ⟨b1, b2, b3, by rw [hl.2]; exact (ok.1.2.1 i hi).2.2.2.1, b5⟩
theorem lf_tel (hi : i < 9) : LfR s (telS s i) := ⟨cN_tel hi, fun j => tel_o (by omega) (by omega) (by omega)⟩
theorem lf_say (g : Gd s m) : LfR s (pSay s a).2 := by
  unfold pSay
  cases hb : isA s a with
  | false => exact ⟨rfl, fun _ => rfl⟩
  | true =>
    obtain ⟨i, hi, rfl⟩ := isA_nat g hb
    have h9 := g.a hi
    rw [if_pos rfl, iN_cl (by omega)]
    cases hc : canV s i with
    | false => exact ⟨rfl, fun _ => rfl⟩
    | true => exact lf_tel h9
theorem ok9_say (ok : Ok s 9) : Ok (pSay s a).2 9 ∧ ctA (pSay s a).2 = ctA s :=
  ⟨ok_dn ok (ok_say (ok_up ok)).1 (lf_say ok.1), (lf_say ok.1).1⟩
theorem lf_drw (g : Gd s m) : LfR s (drwS s) := by
  unfold drwS
  cases hd : drwF s with
  | none => exact ⟨rfl, fun _ => rfl⟩
  | some i =>
    have h9 : i < 9 := by
      have := (drw_can g hd).1
      have := g.n0.2
      omega
    refine (show LfR s (upd s 6 (lotV (s 6))) from ⟨ct_u (by decide), fun j => upd_o (by omega)⟩).tr (lf_tel h9)
theorem ok9_drw (ok : Ok s 9) : Ok (drwS s) 9 ∧ ctA (drwS s) = ctA s :=
  ⟨ok_dn ok (ok_drw (ok_up ok)) (lf_drw ok.1), (lf_drw ok.1).1⟩
theorem ok9_tlF {it : Nat → Int32} {l : Int32} : ∀ k c acc s, Ok s 9 → Ok (tlaF it l k c acc s).2 9 ∧ ctA (tlaF it l k c acc s).2 = ctA s
  | 0, c, acc, s, ok => ⟨ok, rfl⟩
  | k + 1, c, acc, s, ok => by
    simp only [tlaF]
    cases itI l c with
    | false => simp only [Bool.false_eq_true, if_false]; exact ⟨ok, trivial⟩
    | true =>
      simp only [if_true]
      obtain ⟨h1, h2⟩ := ok9_say (a := it c.toNatClampNeg) ok
      obtain ⟨h3, h4⟩ := ok9_tlF k (c + 1) (acc + mx0 (pSay s (it c.toNatClampNeg)).1) _ h1
      exact ⟨h3, h4.trans h2⟩
theorem ok9_tla {T U : Nat → Int32} {it : Nat → Nat → Int32} (ok : Ok s 9) : Ok (tlaV T U it a b c s).2 9 ∧ ctA (tlaV T U it a b c s).2 = ctA s := by
  unfold tlaV
  by_cases h : itwV T a c = 0
  · rw [if_pos h]; exact ok9_tlF _ _ _ _ ok
  · rw [if_neg h]; exact ⟨ok, rfl⟩
theorem ok_leg (ok : Ok s m) : Ok (pLeg s a b).2 m ∧ ctA (pLeg s a b).2 = ctA s := by
  unfold pLeg
  cases hb : (bt a 1 99 && bt b 0 2) with
  | false => exact ⟨ok, rfl⟩
  | true =>
    simp only [if_true]
    by_cases h8 : s 2 = 8
    · rw [if_pos h8]; exact ⟨ok, rfl⟩
    · rw [if_neg h8]
      simp only [Bool.and_eq_true] at hb
      obtain ⟨q1, q2⟩ := ok.1.n2
      have hlt : ctL s < 8 := by
        rcases Nat.lt_or_ge (ctL s) 8 with q | q
        · exact q
        · exact absurd (show s 2 = 8 by rw [q1, show ctL s = 8 by omega]; rfl) h8
      have h2 : s 2 + 1 = Int32.ofNat (ctL s + 1) := by
        have := iN_succ (j := ctL s)
        rw [← this, ← q1]
      dsimp only
      generalize hn : ctL s = n at *
      rw [h2]
      obtain ⟨⟨⟨g0, g1, g2, g3, g4, g5⟩, ga, gl⟩, gr⟩ := ok
      generalize ht : upd (upd (upd s (52 + 2 * n) a) (52 + 2 * n + 1) b) 2 (Int32.ofNat (n + 1)) = t
      have e1 : ∀ j, j ≠ 2 → j ≠ 52 + 2 * n → j ≠ 52 + 2 * n + 1 → t j = s j := fun j x1 x2 x3 => by rw [← ht, upd_o x1, upd_o x3, upd_o x2]
      have t2 : t 2 = Int32.ofNat (n + 1) := by rw [← ht, upd_s]
      have ta : t (52 + 2 * n) = a := by rw [← ht, upd_o (by omega), upd_o (by omega), upd_s]
      have tb : t (52 + 2 * n + 1) = b := by rw [← ht, upd_o (by omega), upd_s]
      have eA : ctA t = ctA s := by unfold ctA; rw [e1 0 (by omega) (by omega) (by omega)]
      have eL : ctL t = n + 1 := by unfold ctL; rw [t2, iN_cl (by omega)]
      refine ⟨⟨⟨⟨?_, ?_, ?_, ?_, ?_, ?_⟩, fun i hi => ?_, fun k hk => ?_⟩, RuOK_of (e1 1 (by omega) (by omega) (by omega)) (fun j hj => e1 j (by omega) (by omega) (by omega)) gr⟩, eA⟩
      · rw [e1 0 (by omega) (by omega) (by omega)]; exact g0
      · rw [e1 1 (by omega) (by omega) (by omega)]; exact g1
      · rw [t2]; exact bt_iff.mpr (by rw [iN_ti (by omega)]; omega)
      · rw [e1 3 (by omega) (by omega) (by omega)]; exact g3
      · rw [e1 4 (by omega) (by omega) (by omega)]; exact g4
      · rw [e1 5 (by omega) (by omega) (by omega)]; exact g5
      · rw [eA] at hi
        have h9 : ctA s ≤ 9 := by
          have := bt_iff.mp g0
          unfold ctA
          have := cl_ti (x := s 0) (by omega)
          omega
        rw [e1 _ (by omega) (by omega) (by omega), e1 _ (by omega) (by omega) (by omega), e1 _ (by omega) (by omega) (by omega), e1 _ (by omega) (by omega) (by omega), e1 _ (by omega) (by omega) (by omega)]
        exact ga i hi
      · rw [eL] at hk
        by_cases hkn : k = n
        · rw [hkn, ta, tb]; exact hb
        · rw [e1 _ (by omega) (by omega) (by omega), e1 _ (by omega) (by omega) (by omega)]
          exact gl k (by rw [hn]; omega)
theorem gd_drv (g : Gd s m) (hb : (bt a 1 99 && bt b 0 2) = true) (hk : isL s w = true) : Gd (upd (upd s (52 + 2 * w.toNatClampNeg) a) (52 + 2 * w.toNatClampNeg + 1) b) m := by
  obtain ⟨i, hi, rfl⟩ := isL_nat g hk
  have h8 := g.n2.2
  have h9 := g.n0.2
  rw [iN_cl (by omega)]
  simp only [Bool.and_eq_true] at hb
  have g1 : Gd (upd s (52 + 2 * i) a) m := gd_u g (by omega) (by omega) (by omega) (fun j hj => by refine ⟨?_, ?_, ?_, ?_, ?_⟩ <;> intro h <;> omega) (fun k hk => ⟨fun _ => hb.1, fun h => by omega⟩)
  have e : ctA (upd s (52 + 2 * i) a) = ctA s := ct_u (by omega)
  refine gd_u g1 (by omega) (by omega) (by omega) (fun j hj => by rw [e] at hj; refine ⟨?_, ?_, ?_, ?_, ?_⟩ <;> intro h <;> omega) (fun k hk => ⟨fun h => by omega, fun _ => hb.2⟩)
theorem ok_drv (ok : Ok s m) : Ok (pDrv s w a b).2 m ∧ ctA (pDrv s w a b).2 = ctA s := by
  unfold pDrv
  cases hb : (isL s w && (bt a 1 99 && bt b 0 2)) with
  | false => exact ⟨ok, rfl⟩
  | true =>
    simp only [if_true]
    rw [Bool.and_eq_true] at hb
    by_cases hq : w < Int32.ofNat (legN s) ∨ (w = Int32.ofNat (legN s) ∧ 0 < s 4)
    · rw [if_pos hq]; exact ⟨ok, rfl⟩
    · rw [if_neg hq]
      have h8 := ok.1.n2.2
      obtain ⟨i, hi, hw⟩ := isL_nat ok.1 hb.1
      have e0 : w.toNatClampNeg = i := by rw [hw, iN_cl (by omega)]
      dsimp only
      refine ⟨⟨gd_drv ok.1 hb.2 hb.1, RuOK_of (by rw [upd_o (by omega), upd_o (by omega)]) (fun j hj => by rw [upd_o (by omega), upd_o (by omega)]) ok.2⟩, by rw [ct_u (by omega), ct_u (by omega)]⟩
theorem ok_chg (ok : Ok s 9) : Ok (pChg s a w v).2 9 ∧ ctA (pChg s a w v).2 = ctA s := by
  unfold pChg
  cases hb : (isA s a && pPrt w v) with
  | false => exact ⟨ok, rfl⟩
  | true =>
    simp only [if_true]
    rw [Bool.and_eq_true] at hb
    obtain ⟨i, hi, hai⟩ := isA_nat ok.1 hb.1
    have h9 := ok.1.n0.2
    have e0 : a.toNatClampNeg = i := by rw [hai, iN_cl (by omega)]
    have hp := hb.2
    unfold pPrt at hp
    simp only [Bool.or_eq_true, Bool.and_eq_true, decide_eq_true_eq] at hp
    rw [e0]
    have h8 := ok.1.n2.2
    have key : ∀ wn, 1 ≤ wn → wn ≤ 3 → (wn = 1 → bt v 1 60 = true) → (wn = 2 → bt v 0 100 = true) → (wn = 3 → bt v 0 9 = true) → Ok (upd s (7 + 5 * i + wn) v) 9 ∧ ctA (upd s (7 + 5 * i + wn) v) = ctA s := fun wn q1 q2 q3 q4 q5 =>
      ⟨ok_u ok (by omega) (by omega) (gd_u ok.1 (by omega) (by omega) (by omega) (fun j hj => ⟨fun h => by omega, fun h => q3 (by omega), fun h => q4 (by omega), fun h => q5 (by omega), fun h => by omega⟩) (fun k hk => ⟨fun h => by omega, fun h => by omega⟩)), ct_u (by omega)⟩
    rcases hp with (⟨hw, hv⟩ | ⟨hw, hv⟩) | ⟨hw, hv⟩
    · rw [hw]; exact key 1 (by omega) (by omega) (fun _ => hv) (fun h => by omega) (fun h => by omega)
    · rw [hw]; exact key 2 (by omega) (by omega) (fun h => by omega) (fun _ => hv) (fun h => by omega)
    · rw [hw]; exact key 3 (by omega) (by omega) (fun h => by omega) (fun h => by omega) (fun _ => hv)
theorem ok_rem (ok : Ok s m) : Ok (pRem s a x).2 m ∧ ctA (pRem s a x).2 = ctA s := by
  unfold pRem
  cases hb : (isA s a && bt x 1 5) with
  | false => exact ⟨ok, rfl⟩
  | true =>
    simp only [if_true]
    rw [Bool.and_eq_true] at hb
    obtain ⟨i, hi, hai⟩ := isA_nat ok.1 hb.1
    have h9 := ok.1.n0.2
    have h8 := ok.1.n2.2
    have e0 : a.toNatClampNeg = i := by rw [hai, iN_cl (by omega)]
    rw [e0]
    exact ⟨ok_u ok (by omega) (by omega) (gd_u ok.1 (by omega) (by omega) (by omega) (fun j hj => ⟨fun h => hb.2, fun h => by omega, fun h => by omega, fun h => by omega, fun h => by omega⟩) (fun k hk => ⟨fun h => by omega, fun h => by omega⟩)), ct_u (by omega)⟩
theorem ok_belP (ok : Ok s m) : Ok (pBel s v).2 m ∧ ctA (pBel s v).2 = ctA s := by
  unfold pBel
  have h9 := ok.1.n0.2
  have h8 := ok.1.n2.2
  cases hb : bt v 0 100 with
  | false => exact ⟨ok, rfl⟩
  | true =>
    simp only [if_true]
    exact ⟨ok_u ok (by omega) (by omega) (gd_u ok.1 (by omega) (by omega) (fun _ => hb) (fun j hj => by refine ⟨?_, ?_, ?_, ?_, ?_⟩ <;> intro h <;> omega) (fun k hk => ⟨fun h => by omega, fun h => by omega⟩)), ct_u (by omega)⟩
theorem ok_anw1 : ∀ k i (r : Nat → Int32), Ok r m → i + k = ctA r → Ok (foldA (fun a r => upd r (7 + 5 * a + 4) 0) i k r) m ∧ ctA (foldA (fun a r => upd r (7 + 5 * a + 4) 0) i k r) = ctA r
  | 0, _, _, ok, _ => ⟨ok, rfl⟩
  | k + 1, i, r, ok, hk => by
    have h9 := ok.1.n0.2
    have h8 := ok.1.n2.2
    have ok1 : Ok (upd r (7 + 5 * i + 4) 0) m := ok_u ok (by omega) (by omega) (gd_u ok.1 (by omega) (by omega) (by omega) (fun j hj => ⟨fun h => by omega, fun h => by omega, fun h => by omega, fun h => by omega, fun h => by decide⟩) (fun k hk => ⟨fun h => by omega, fun h => by omega⟩))
    have c1 : ctA (upd r (7 + 5 * i + 4) 0) = ctA r := ct_u (by omega)
    obtain ⟨h1, h2⟩ := ok_anw1 k (i + 1) _ ok1 (by rw [c1]; omega)
    exact ⟨h1, h2.trans c1⟩
theorem ok_anw (ok : Ok s m) : Ok (anwS s) m ∧ ctA (anwS s) = ctA s := by
  have h9 := ok.1.n0.2
  have h8 := ok.1.n2.2
  have ok4 : Ok (upd s 4 0) m := ok_u ok (by omega) (by omega) (gd_u ok.1 (by omega) (fun _ => by decide) (by omega) (fun j hj => by refine ⟨?_, ?_, ?_, ?_, ?_⟩ <;> intro h <;> omega) (fun k hk => ⟨fun h => by omega, fun h => by omega⟩))
  have c4 : ctA (upd s 4 0) = ctA s := ct_u (by omega)
  have l4 : ctL (upd s 4 0) = ctL s := by unfold ctL; rw [upd_o (by omega)]
  have ok5 : Ok (upd (upd s 4 0) 5 100) m := ok_u ok4 (by omega) (by omega) (gd_u ok4.1 (by omega) (by omega) (fun _ => by decide) (fun j hj => by rw [c4] at hj; refine ⟨?_, ?_, ?_, ?_, ?_⟩ <;> intro h <;> omega) (fun k hk => by rw [l4] at hk; exact ⟨fun h => by omega, fun h => by omega⟩))
  have c5 : ctA (upd (upd s 4 0) 5 100) = ctA s := (ct_u (by omega)).trans c4
  obtain ⟨h1, h2⟩ := ok_anw1 (ctA s) 0 _ ok5 (by rw [c5]; omega)
  exact ⟨h1, h2.trans c5⟩
theorem gd_3 (g : Gd s m) (hv : bt v 0 6 = true) : Gd (upd s 3 v) m := by
  obtain ⟨⟨g0, g1, g2, g3, g4, g5⟩, ga, gl⟩ := g
  have h9 : ctA s ≤ 9 := Gd.n0 ⟨⟨g0, g1, g2, g3, g4, g5⟩, ga, gl⟩ |>.2
  have h8 : ctL s ≤ 8 := Gd.n2 ⟨⟨g0, g1, g2, g3, g4, g5⟩, ga, gl⟩ |>.2
  refine ⟨⟨ub (by omega) g0, ub (by omega) g1, ub (by omega) g2, ub (fun _ => hv) g3, ub (by omega) g4, ub (by omega) g5⟩, fun i hi => ?_, fun k hk => ?_⟩
  · rw [ct_u (by omega)] at hi
    obtain ⟨b1, b2, b3, b4, b5⟩ := ga i hi
    exact ⟨ub (by omega) b1, ub (by omega) b2, ub (by omega) b3, ub (by omega) b4, ub (by omega) b5⟩
  · have e : ctL (upd s 3 v) = ctL s := by unfold ctL; rw [upd_o (by omega)]
    rw [e] at hk
    obtain ⟨b1, b2⟩ := gl k hk
    exact ⟨ub (by omega) b1, ub (by omega) b2⟩
theorem ok_for (ok : Ok s m) : Ok (upd s 3 0) m ∧ ctA (upd s 3 0) = ctA s := ⟨ok_u ok (by omega) (by omega) (gd_3 ok.1 (by decide)), ct_u (by omega)⟩
theorem ok_hi (ok : Ok s m) (hj : 68 ≤ j) (hj2 : j < 86) : Ok (upd s j v) m ∧ ctA (upd s j v) = ctA s := by
  have h9 := ok.1.n0.2
  have h8 := ok.1.n2.2
  exact ⟨ok_u ok hj2 (by omega) (gd_u ok.1 (by omega) (by omega) (by omega) (fun j hj => by refine ⟨?_, ?_, ?_, ?_, ?_⟩ <;> intro h <;> omega) (fun k hk => ⟨fun h => by omega, fun h => by omega⟩)), ct_u (by omega)⟩
theorem ok_rep (ok : Ok s m) : Ok (pRep s a b c).2 m ∧ ctA (pRep s a b c).2 = ctA s := by
  unfold pRep
  cases hb : (bt a 0 999 && bt b a.toInt 999 && bt c 0 1) with
  | false => exact ⟨ok, rfl⟩
  | true =>
    simp only [if_true]
    by_cases h6 : s 3 = 6
    · rw [if_pos h6]; exact ⟨ok, rfl⟩
    · rw [if_neg h6]
      obtain ⟨q1, q2⟩ := ok.1.n3
      have hlt : ctE s < 6 := by
        rcases Nat.lt_or_ge (ctE s) 6 with q | q
        · exact q
        · exact absurd (show s 3 = 6 by rw [q1, show ctE s = 6 by omega]; rfl) h6
      obtain ⟨k1, c1⟩ := ok_hi (j := 68 + 3 * ctE s) (v := a) ok (by omega) (by omega)
      obtain ⟨k2, c2⟩ := ok_hi (j := 68 + 3 * ctE s + 1) (v := b) k1 (by omega) (by omega)
      obtain ⟨k3, c3⟩ := ok_hi (j := 68 + 3 * ctE s + 2) (v := c) k2 (by omega) (by omega)
      have hv : bt (s 3 + 1) 0 6 = true := by
        rw [q1, iN_succ]; exact bt_iff.mpr (by rw [iN_ti (by omega)]; omega)
      exact ⟨ok_u k3 (by omega) (by omega) (gd_3 k3.1 hv), by rw [ct_u (by omega), c3, c2, c1]⟩
theorem ok_ans (ok : Ok s 9) : Ok (pAns s a b c e).2 9 := by
  unfold pAns
  cases hb : (bt a 1 5 && bt b 1 60 && bt c 0 100 && bt e 0 9) with
  | false => exact ok
  | true =>
    simp only [if_true]
    by_cases h9 : s 0 = 9
    · rw [if_pos h9]; exact ok
    · rw [if_neg h9]
      simp only [Bool.and_eq_true] at hb
      obtain ⟨⟨⟨b1, b2⟩, b3⟩, b4⟩ := hb
      obtain ⟨q1, q2⟩ := ok.1.n0
      have h8 := ok.1.n2.2
      have hlt : ctA s < 9 := by
        rcases Nat.lt_or_ge (ctA s) 9 with q | q
        · exact q
        · exact absurd (show s 0 = 9 by rw [q1, show ctA s = 9 by omega]; rfl) h9
      have hs0 : s 0 + 1 = Int32.ofNat (ctA s + 1) := by
        have := iN_succ (j := ctA s)
        rw [← this, ← q1]
      show Ok (ansS s a b c e) 9
      unfold ansS
      rw [hs0]
      generalize hn : ctA s = n at *
      obtain ⟨⟨⟨g0, g1, g2, g3, g4, g5⟩, ga, gl⟩, gr⟩ := ok
      generalize ht : upd (upd (upd (upd (upd (upd s (7 + 5 * n) a) (7 + 5 * n + 1) b) (7 + 5 * n + 2) c) (7 + 5 * n + 3) e) (7 + 5 * n + 4) 0) 0 (Int32.ofNat (n + 1)) = t
      have o : ∀ j, j ≠ 0 → (j < 7 + 5 * n ∨ 7 + 5 * n + 4 < j) → t j = s j := fun j q1 q2 => by
        rw [← ht, upd_o q1, upd_o (by omega), upd_o (by omega), upd_o (by omega), upd_o (by omega), upd_o (by omega)]
      have t0 : t 0 = Int32.ofNat (n + 1) := by rw [← ht, upd_s]
      have y0 : t (7 + 5 * n) = a := by rw [← ht, upd_o (by omega), upd_o (by omega), upd_o (by omega), upd_o (by omega), upd_o (by omega), upd_s]
      have y1 : t (7 + 5 * n + 1) = b := by rw [← ht, upd_o (by omega), upd_o (by omega), upd_o (by omega), upd_o (by omega), upd_s]
      have y2 : t (7 + 5 * n + 2) = c := by rw [← ht, upd_o (by omega), upd_o (by omega), upd_o (by omega), upd_s]
      have y3 : t (7 + 5 * n + 3) = e := by rw [← ht, upd_o (by omega), upd_o (by omega), upd_s]
      have y4 : t (7 + 5 * n + 4) = 0 := by rw [← ht, upd_o (by omega), upd_s]
      have eA : ctA t = n + 1 := by unfold ctA; rw [t0, iN_cl (by omega)]
      have eL : ctL t = ctL s := by unfold ctL; rw [o 2 (by omega) (by omega)]
      refine ⟨⟨⟨?_, ?_, ?_, ?_, ?_, ?_⟩, fun i hi => ?_, fun k hk => ?_⟩, RuOK_of (o 1 (by omega) (by omega)) (fun j hj => o j (by omega) (by omega)) gr⟩
      · rw [t0]; exact bt_iff.mpr (by rw [iN_ti (by omega)]; omega)
      · rw [o 1 (by omega) (by omega)]; exact g1
      · rw [o 2 (by omega) (by omega)]; exact g2
      · rw [o 3 (by omega) (by omega)]; exact g3
      · rw [o 4 (by omega) (by omega)]; exact g4
      · rw [o 5 (by omega) (by omega)]; exact g5
      · rw [eA] at hi
        by_cases hin : i = n
        · rw [hin, y0, y1, y2, y3, y4]
          exact ⟨b1, b2, b3, b4, by decide⟩
        · rw [o _ (by omega) (by omega), o _ (by omega) (by omega), o _ (by omega) (by omega), o _ (by omega) (by omega), o _ (by omega) (by omega)]
          exact ga i (by rw [hn]; omega)
      · rw [eL] at hk
        rw [o _ (by omega) (by omega), o _ (by omega) (by omega)]
        exact gl k hk
end OkP
