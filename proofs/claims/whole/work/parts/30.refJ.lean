/-! the reference: lots, what fits -/
section RefJ
variable {X : mX} {d : Nat} {D : Nat → Nat × Nat} {I : Nat → Nat → Int32} {P : Nat → Nat → Option Nat} {N : Nat} {h : mH} {s g c S r : Nat → Int32} {J : Nat → Nat → Int32} {m : Int} {i j k n p q : Nat} {x y z v w a b e f : Int32}
theorem ov_6 : ovV (upd s 6 z) = ovV s := by
  unfold ovV endV
  have el : ctL (upd s 6 z) = ctL s := by unfold ctL; rw [upd_o (by omega)]
  have ef : ∀ k i e, endF (upd s 6 z) i k e = endF s i k e := by
    intro k
    induction k with
    | zero => intro i e; rfl
    | succ k ih =>
      intro i e
      unfold endF
      rw [upd_o (by omega), ih]
  rw [el, ef, upd_o (by omega)]
theorem canV_6 : canV (upd s 6 z) i = canV s i := by
  unfold canV
  rw [ov_6, upd_o (by omega), upd_o (by omega), upd_o (by omega), upd_o (by omega)]
theorem ctA_6 : ctA (upd s 6 z) = ctA s := by unfold ctA; rw [upd_o (by omega)]
theorem ok_6 (ok : Ok s m) : Ok (upd s 6 z) m := by
  have h8 := ok.1.n2.2
  obtain ⟨⟨⟨g0, g1, g2, g3, g4, g5⟩, ga, gl⟩, gr⟩ := ok
  have el : ctL (upd s 6 z) = ctL s := by unfold ctL; rw [upd_o (by omega)]
  refine ⟨⟨⟨?_, ?_, ?_, ?_, ?_, ?_⟩, fun j hj => ?_, fun k hk => ?_⟩, RuOK_of (upd_o (by omega)) (fun j hj => upd_o (by omega)) gr⟩
  · rw [upd_o (by omega)]; exact g0
  · rw [upd_o (by omega)]; exact g1
  · rw [upd_o (by omega)]; exact g2
  · rw [upd_o (by omega)]; exact g3
  · rw [upd_o (by omega)]; exact g4
  · rw [upd_o (by omega)]; exact g5
  · rw [ctA_6] at hj
    rw [upd_o (by omega), upd_o (by omega), upd_o (by omega), upd_o (by omega), upd_o (by omega)]; exact ga j hj
  · rw [el] at hk
    rw [upd_o (by omega), upd_o (by omega)]; exact gl k hk
theorem lotA_b : 0 ≤ (lotA s).toInt := by
  unfold lotA
  generalize (lotV (s 6)).toUInt32 = u
  have h1 : (u >>> ((16 : Int32).toUInt32 &&& Int32.toUInt32 31)).toNat < 2 ^ 31 := by
    have e : ((16 : Int32).toUInt32 &&& Int32.toUInt32 31) = 16 := by decide
    rw [e, UInt32.toNat_shiftRight]
    have h2 := u.toNat_lt
    have e3 : (16 : UInt32).toNat % 32 = 16 := by decide
    rw [e3, Nat.shiftRight_eq_div_pow]
    omega
  generalize u >>> ((16 : Int32).toUInt32 &&& Int32.toUInt32 31) = w at h1
  show 0 ≤ (BitVec.toInt w.toBitVec)
  rw [BitVec.toInt_eq_toNat_of_lt (by show 2 * w.toNat < 2 ^ 32; omega)]
  omega
theorem lotI_b (h0 : 0 < onesN s) (h9 : onesN s < 100) : 0 ≤ (lotI s).toInt ∧ (lotI s).toNatClampNeg < onesN s := by
  have hb := lotA_b (s := s)
  have hn : (Int32.ofNat (onesN s)).toInt = (onesN s : Int) := iN_ti (by omega)
  have hlt := Int32.toInt_lt (lotA s)
  have hq : (lotA s / Int32.ofNat (onesN s)).toInt = (lotA s).toInt / (onesN s : Int) := by
    rw [Int32.toInt_div_of_ne_right _ _ (by intro q; rw [← Int32.toInt_inj, hn] at q; have : (-1 : Int32).toInt = -1 := rfl; omega), hn, Int.tdiv_eq_ediv_of_nonneg hb]
  have hd := Int.emod_add_mul_ediv (lotA s).toInt (onesN s : Int)
  have hm0 := Int.emod_nonneg (lotA s).toInt (b := (onesN s : Int)) (by omega)
  have hm1 := Int.emod_lt_of_pos (lotA s).toInt (b := (onesN s : Int)) (by omega)
  have hp : (onesN s : Int) * ((lotA s).toInt / (onesN s : Int)) ≤ (lotA s).toInt := by omega
  have hp0 : 0 ≤ (onesN s : Int) * ((lotA s).toInt / (onesN s : Int)) := Int.mul_nonneg (by omega) (Int.ediv_nonneg hb (by omega))
  have hmul : (lotA s / Int32.ofNat (onesN s) * Int32.ofNat (onesN s)).toInt = (onesN s : Int) * ((lotA s).toInt / (onesN s : Int)) := by
    rw [t_mul (by rw [hq, hn, Int.mul_comm]; omega) (by rw [hq, hn, Int.mul_comm]; omega), hq, hn, Int.mul_comm]
  have hr : (lotI s).toInt = (lotA s).toInt % (onesN s : Int) := by
    unfold lotI
    rw [t_sub (by rw [hmul]; omega) (by rw [hmul]; omega), hmul]; omega
  have e := cl_ti (x := lotI s) (by omega)
  omega
def cntF (s : Nat → Int32) (i k : Nat) : Nat := foldA (fun a acc => bif canV s a then acc + 1 else acc) i k 0
theorem fold_acc : ∀ k i acc, foldA (fun a acc => bif canV s a then acc + 1 else acc) i k acc = acc + cntF s i k
  | 0, _, _ => rfl
  | k + 1, i, acc => by
    unfold cntF foldA
    rw [fold_acc k (i + 1), fold_acc k (i + 1)]
    cases canV s i
    · show acc + _ = acc + (0 + _); omega
    · show acc + 1 + _ = acc + (0 + 1 + _); omega
theorem cnt_s : cntF s i (k + 1) = (bif canV s i then 1 else 0) + cntF s (i + 1) k := by
  show foldA (fun a acc => bif canV s a then acc + 1 else acc) (i + 1) k (bif canV s i then 0 + 1 else 0) = _
  rw [fold_acc]
theorem ones_b (ok : Gd s m) : onesN s < 10 := (bits ok.n0.2 (canV s)).2.2.2.2
theorem nth_some : ∀ k i n, n < cntF s i k → ∃ a, nthF s i k n = some a ∧ i ≤ a ∧ a < i + k ∧ canV s a = true
  | 0, _, _, h => by cases h
  | k + 1, i, n, h => by
    rw [cnt_s] at h
    unfold nthF
    cases hc : canV s i with
    | false =>
      rw [hc] at h
      obtain ⟨a, h1, h2, h3, h4⟩ := nth_some k (i + 1) n (by simpa using h)
      exact ⟨a, h1, by omega, by omega, h4⟩
    | true =>
      rw [hc] at h
      match n, h with
      | 0, _ => exact ⟨i, rfl, Nat.le_refl _, by omega, hc⟩
      | n + 1, h =>
        have h' : n + 1 < 1 + cntF s (i + 1) k := h
        obtain ⟨a, h1, h2, h3, h4⟩ := nth_some k (i + 1) n (by omega)
        exact ⟨a, h1, by omega, by omega, h4⟩
theorem drw_some (ok : Gd s m) (h : ¬ onesN s = 0) : ∃ a, drwF s = some a ∧ a < ctA s ∧ canV s a = true := by
  have h1 := lotI_b (s := s) (by omega) (by have := ones_b ok; omega)
  obtain ⟨a, e1, e2, e3, e4⟩ := nth_some (s := s) (ctA s) 0 (lotI s).toNatClampNeg h1.2
  refine ⟨a, ?_, by omega, e4⟩
  unfold drwF
  rw [if_neg h, e1]
theorem drw_can (ok : Gd s m) (h : drwF s = some k) : k < ctA s ∧ canV s k = true := by
  by_cases h0 : onesN s = 0
  · unfold drwF at h; rw [if_pos h0] at h; cases h
  · obtain ⟨a, e1, e2, e3⟩ := drw_some ok h0
    rw [h] at e1; cases e1; exact ⟨e2, e3⟩
theorem ok_drw (ok : Ok s 10) : Ok (drwS s) 10 := by
  unfold drwS
  cases hd : drwF s with
  | none => exact ok
  | some a =>
    obtain ⟨h1, h2⟩ := drw_can ok.1 hd
    exact (ok_6 ok).tel (by decide) (by rw [ctA_6]; exact h1) (by rw [canV_6]; exact h2)
theorem M_drw1 (ok : Ok s 10) (hw : w = canS s) : ∀ k i n g, i + k = ctA s → n < cntF s i k → ∃ g' a, nthF s i k n = some a ∧ Rn X (d + 12) 228 51 [.ref 65, .int w, .int (Int32.ofNat n), .int (Int32.ofNat i), U_] [] (Mh D (R6 I g (upd s 6 z)) P N)
      = some ([.int (Int32.ofNat a)], Mh D (R6 I g' (telS (upd s 6 z) a)) P N)
  | 0, _, _, _, _, h => by cases h
  | k + 1, i, n, g, hk, h => by
    have h0 := ok.1.n0
    have hb := (bits h0.2 (canV s)).1 i (by omega)
    have hb' : (w >>> (Int32.ofNat i &&& 31)) &&& 1 = bI (canV s i) := by rw [hw]; exact hb
    rw [cnt_s] at h
    unfold nthF
    rw [B228_51, hb']
    cases hc : canV s i with
    | false =>
      rw [hc] at h
      simp only [Option.bind_some, List.append_nil, List.nil_append, List.cons_append, cond_true, cond_false, if_true, if_false, ite_true, ite_false, reduceIte, IC, bI_0, bI_1, bF, Bool.not_eq_false, Bool.not_eq_true, Bool.and_true, Bool.true_and, Bool.and_false, Bool.false_and, Bool.true_or, Bool.or_true, Bool.or_false, Bool.false_or, Bool.not_true, Bool.not_false, decide_true, decide_false, not_true_eq_false, not_false_eq_true, eq_self, Bool.true_eq_false, Bool.false_eq_true, B228_63, hb', hc, bI_f, Int32.sub_zero, IX]
      exact M_drw1 ok hw k (i + 1) n g (by omega) (by simpa using h)
    | true =>
      rw [hc] at h
      match n, h with
      | 0, _ =>
        obtain ⟨g1, e1⟩ := M_tel (X := X) (d := d + 5) (D := D) (I := I) (P := P) (N := N) (ok_6 (z := z) ok) (show i < ctA (upd s 6 z) by rw [ctA_6]; omega) g
        have hz : Int32.ofNat 0 ≤ 0 := by decide
        refine ⟨g1, i, rfl, ?_⟩
        simp only [Option.bind_some, List.append_nil, List.nil_append, List.cons_append, cond_true, cond_false, if_true, if_false, ite_true, ite_false, reduceIte, IC, bI_0, bI_1, bF, Bool.not_eq_false, Bool.not_eq_true, Bool.and_true, Bool.true_and, Bool.and_false, Bool.false_and, Bool.true_or, Bool.or_true, Bool.or_false, Bool.false_or, Bool.not_true, Bool.not_false, decide_true, decide_false, not_true_eq_false, not_false_eq_true, eq_self, Bool.true_eq_false, Bool.false_eq_true, hz, e1, B228_82]
      | n + 1, h =>
        have h' : n + 1 < 1 + cntF s (i + 1) k := h
        have hz : ¬ Int32.ofNat (n + 1) ≤ 0 := by
          have hl := (bits h0.2 (canV s)).2.2.2.2
          have hcl : cntF s (i + 1) k ≤ 0 + k := foldA_bnd (fun a acc => by cases canV s a <;> simp) k (i + 1) 0
          rw [Int32.le_iff_toInt_le, iN_ti (by omega), z_ti]; omega
        simp only [Option.bind_some, List.append_nil, List.nil_append, List.cons_append, cond_true, cond_false, if_true, if_false, ite_true, ite_false, reduceIte, IC, bI_0, bI_1, bF, Bool.not_eq_false, Bool.not_eq_true, Bool.and_true, Bool.true_and, Bool.and_false, Bool.false_and, Bool.true_or, Bool.or_true, Bool.or_false, Bool.false_or, Bool.not_true, Bool.not_false, decide_true, decide_false, not_true_eq_false, not_false_eq_true, eq_self, Bool.true_eq_false, Bool.false_eq_true, hz, B228_63, hb', hc, bI_t, iN_p1, IX]
        exact M_drw1 ok hw k (i + 1) n g (by omega) (by omega)
theorem M_drw (ok : Ok s 10) (g : Nat → Int32) : ∃ g', Rn X (d + 13) 228 0 [.ref 65, U_, U_, U_, U_] [] (Mh D (R6 I g s) P N) = some ([.int (oV (drwF s))], Mh D (R6 I g' (drwS s)) P N) := by
  have h0 := ok.1.n0
  have hcan := M_canS (X := X) (d := d + 8) (D := D) (I := R6 I g s) (P := P) (N := N) (m := 10) ok.1
  rw [R6_66] at hcan
  have hcan' : Rn X (d + 12) 199 0 [.ref 65, U_, U_] [] (Mh D (R6 I g s) P N) = _ := hcan
  have hbt := bits h0.2 (canV s)
  simp only [B228_0, Option.bind_some, List.append_nil, List.nil_append, List.cons_append, cond_true, cond_false, if_true, if_false, ite_true, ite_false, reduceIte, IC, bI_0, bI_1, bF, Bool.not_eq_false, Bool.not_eq_true, Bool.and_true, Bool.true_and, Bool.and_false, Bool.false_and, Bool.true_or, Bool.or_true, Bool.or_false, Bool.false_or, Bool.not_true, Bool.not_false, decide_true, decide_false, not_true_eq_false, not_false_eq_true, eq_self, Bool.true_eq_false, Bool.false_eq_true, hcan', B228_4]
  by_cases hz : canS s = 0
  · have h1 : onesN s = 0 := hbt.2.1.mp hz
    refine ⟨g, ?_⟩
    unfold drwS drwF
    simp only [hz, h1, Option.bind_some, List.append_nil, List.nil_append, List.cons_append, cond_true, cond_false, if_true, if_false, ite_true, ite_false, reduceIte, IC, bI_0, bI_1, bF, Bool.not_eq_false, Bool.not_eq_true, Bool.and_true, Bool.true_and, Bool.and_false, Bool.false_and, Bool.true_or, Bool.or_true, Bool.or_false, Bool.false_or, Bool.not_true, Bool.not_false, decide_true, decide_false, not_true_eq_false, not_false_eq_true, eq_self, Bool.true_eq_false, Bool.false_eq_true]
    rfl
  · have h1 : ¬ onesN s = 0 := fun q => hz (hbt.2.1.mpr q)
    have hones := M_ones (X := X) (d := d + 12) (x := canS s) (h := Mh D (R6 I g (upd s 6 (lotV (s 6)))) P N) 12 0 (canS s) _ hbt.2.2.1
    have h9 := ones_b ok.1
    have h2 := lotI_b (s := s) (by omega) (by omega)
    have h3 : ¬ Int32.ofNat (onesN s) = 0 := by rw [iN_z (by omega)]; exact h1
    have h3' : ¬ Int32.ofNat (cO (ctA s) (canV s)) = 0 := h3
    obtain ⟨g1, a, e1, e2⟩ := M_drw1 (X := X) (d := d + 1) (D := D) (I := I) (P := P) (N := N) (z := lotV (s 6)) ok rfl (ctA s) 0 (lotI s).toNatClampNeg g (by omega) h2.2
    have hdr : drwF s = some a := by unfold drwF; rw [if_neg h1, e1]
    refine ⟨g1, ?_⟩
    have hs : drwS s = telS (upd s 6 (lotV (s 6))) a := by unfold drwS; rw [hdr]
    rw [hs, hdr]
    rw [← iN_of h2.1] at e2
    have e2' : Rn X (d + 12 + 1) 228 51 [.ref 65, .int (canS s), .int (lotI s), .int 0, U_] [] (Mh D (R6 I g (upd s 6 (lotV (s 6)))) P N) = _ := e2
    have hw : upd s 6 (s 6 * 1103515245 + 12345) = upd s 6 (lotV (s 6)) := rfl
    simp only [hz, Option.bind_some, List.append_nil, List.nil_append, List.cons_append, cond_true, cond_false, if_true, if_false, ite_true, ite_false, reduceIte, IC, bI_0, bI_1, bF, Bool.not_eq_false, Bool.not_eq_true, Bool.and_true, Bool.true_and, Bool.and_false, Bool.false_and, Bool.true_or, Bool.or_true, Bool.or_false, Bool.false_or, Bool.not_true, Bool.not_false, decide_true, decide_false, not_true_eq_false, not_false_eq_true, eq_self, Bool.true_eq_false, Bool.false_eq_true, RDm, WRm, R6_66, R6_w, hw, upd_s, B227_0, hones, B228_47, h3']
    exact e2'
theorem F_drw (ok : Ok (I 66) 10) : Rf X I 228 [.ref 65, U_, U_, U_, U_] (oV (drwF (I 66)), drwS (I 66)) := by
  intro d D P N
  obtain ⟨g1, e⟩ := M_drw (X := X) (d := d + 27) (D := D) (I := I) (P := P) (N := N) ok (I 69)
  rw [R6_id] at e
  exact fin6 (g := g1) e
theorem E320.up {v : Int32} (hk : k < 320) (he : E320 s r) : E320 (upd s k v) r := fun j hj => by rw [upd_o (by omega)]; exact he j hj
theorem E320.drw (ok : Ok s 10) (he : E320 s r) : E320 (drwS s) r := by
  unfold drwS
  cases hd : drwF s with
  | none => exact he
  | some a =>
    have h1 := drw_can ok.1 hd
    have := ok.1.n0
    exact (he.up (by omega)).tel (by omega)
theorem walk_ok : ∀ k s, Ok s 10 → Ok (walkS k s) 10 ∧ ∀ r, E320 s r → E320 (walkS k s) r
  | 0, s, ok => ⟨ok, fun _ h => h⟩
  | k + 1, s, ok => by
    unfold walkS
    cases hd : drwF s with
    | none => exact ⟨ok, fun _ h => h⟩
    | some a =>
      have q := walk_ok k (drwS s) (ok_drw ok)
      exact ⟨q.1, fun r h => q.2 r (h.drw ok)⟩
theorem M_walk : ∀ k i s g, Ok s 10 → i + k = 30 → ∃ g' l5, Rn X (d + 14) 229 66 [.ref 65, .int a, .int b, .int e, .int f, .int (Int32.ofNat i)] [] (Mh D (R6 I g s) P N)
      = Rn X (d + 14) 229 86 [.ref 65, .int a, .int b, .int e, .int f, .int l5] [] (Mh D (R6 I g' (walkS k s)) P N)
  | 0, i, s, g, ok, hk => by
    refine ⟨g, Int32.ofNat i, ?_⟩
    rw [B229_66, if_pos (le_y (l := 30) (n := 30) rfl (by omega) (by omega) (by omega))]
    rfl
  | k + 1, i, s, g, ok, hk => by
    rw [B229_66, if_neg (le_n (l := 30) (n := 30) rfl (by omega) (by omega) (by omega))]
    obtain ⟨g1, e1⟩ := M_drw (X := X) (d := d) (D := D) (I := I) (P := P) (N := N) ok g
    simp only [Option.bind_some, List.append_nil, List.nil_append, List.cons_append, cond_true, cond_false, if_true, if_false, ite_true, ite_false, reduceIte, IC, bI_0, bI_1, bF, Bool.not_eq_false, Bool.not_eq_true, Bool.and_true, Bool.true_and, Bool.and_false, Bool.false_and, Bool.true_or, Bool.or_true, Bool.or_false, Bool.false_or, Bool.not_true, Bool.not_false, decide_true, decide_false, not_true_eq_false, not_false_eq_true, eq_self, Bool.true_eq_false, Bool.false_eq_true, e1, B229_77]
    unfold walkS
    cases hd : drwF s with
    | none =>
      have hs : drwS s = s := by unfold drwS; rw [hd]
      refine ⟨g1, Int32.ofNat i, ?_⟩
      rw [hs, if_pos (show oV none < 0 by decide)]
    | some n =>
      have h1 := drw_can ok.1 hd
      have := ok.1.n0
      rw [if_neg (show ¬ oV (some n) < 0 from iN_neg (by omega))]
      simp only [IX]
      exact M_walk k (i + 1) (drwS s) g1 (ok_drw ok) (by omega)
theorem M_oft (okS : Ok S 10) (hx : x = Int32.ofNat n) (hn : n ≤ 60) : ∀ k i acc z s g l4 l5, i + k = n → acc ≤ i → E320 s S → s 6 = z → (i = 0 → z = S 6) →
    ∃ g' l4' l5', Rn X (d + 15) 229 22 [.ref 65, .int x, .int (Int32.ofNat acc), .int (Int32.ofNat i), l4, l5] [] (Mh D (R6 (u2r I 68 (row320 S c)) g s) P N)
      = some ([.int (Int32.ofNat (oftF S k z acc))], Mh D (R6 (u2r I 68 (row320 S c)) g' S) P N) ∧ l4' = l4 ∧ l5' = l5
  | 0, i, acc, z, s, g, l4, l5, hk, ha, he, hz, h0 => by
    refine ⟨g, l4, l5, ?_, rfl, rfl⟩
    rw [B229_22, hx]
    simp (disch := omega) only [iN_le]
    rw [if_pos (by omega)]
    simp only [Option.bind_some, List.append_nil, List.nil_append, List.cons_append, cond_true, cond_false, if_true, if_false, ite_true, ite_false, reduceIte, IC, bI_0, bI_1, bF, Bool.not_eq_false, Bool.not_eq_true, Bool.and_true, Bool.true_and, Bool.and_false, Bool.false_and, Bool.true_or, Bool.or_true, Bool.or_false, Bool.false_or, Bool.not_true, Bool.not_false, decide_true, decide_false, not_true_eq_false, not_false_eq_true, eq_self, Bool.true_eq_false, Bool.false_eq_true, M_pb he, B229_111]
    rfl
  | k + 1, i, acc, z, s, g, l4, l5, hk, ha, he, hz, h0 => by
    have hst : ∃ g' l4' l5', Rn X (d + 15) 229 66 [.ref 65, .int x, .int (Int32.ofNat acc), .int (Int32.ofNat i), .int z, .int 0] [] (Mh D (R6 (u2r I 68 (row320 S c)) g (upd S 6 z)) P N)
      = some ([.int (Int32.ofNat (oftF S (k + 1) z acc))], Mh D (R6 (u2r I 68 (row320 S c)) g' S) P N) ∧ l4' = l4 ∧ l5' = l5 := by
      obtain ⟨g1, v5, e1⟩ := M_walk (X := X) (d := d + 1) (D := D) (I := u2r I 68 (row320 S c)) (P := P) (N := N) (a := x) (b := Int32.ofNat acc) (e := Int32.ofNat i) (f := z) 30 0 (upd S 6 z) g (ok_6 okS) rfl
      have hw := walk_ok 30 (upd S 6 z) (ok_6 okS)
      have eo := M_over (X := X) (d := d + 12) (D := D) (I := R6 (u2r I 68 (row320 S c)) g1 (walkS 30 (upd S 6 z))) (P := P) (N := N) (m := 10) hw.1.1
      rw [R6_66] at eo
      have eo' : Rn X (d + 14) 174 0 [.ref 65] [] (Mh D (R6 (u2r I 68 (row320 S c)) g1 (walkS 30 (upd S 6 z))) P N) = _ := eo
      have e1' : Rn X (d + 15) 229 66 [.ref 65, .int x, .int (Int32.ofNat acc), .int (Int32.ofNat i), .int z, .int 0] [] (Mh D (R6 (u2r I 68 (row320 S c)) g (upd S 6 z)) P N) = Rn X (d + 14 + 1) 229 86 [.ref 65, .int x, .int (Int32.ofNat acc), .int (Int32.ofNat i), .int z, .int v5] [] (Mh D (R6 (u2r I 68 (row320 S c)) g1 (walkS 30 (upd S 6 z))) P N) := e1
      rw [e1', B229_86]
      simp only [Option.bind_some, List.append_nil, List.nil_append, List.cons_append, cond_true, cond_false, if_true, if_false, ite_true, ite_false, reduceIte, IC, bI_0, bI_1, bF, Bool.not_eq_false, Bool.not_eq_true, Bool.and_true, Bool.true_and, Bool.and_false, Bool.false_and, Bool.true_or, Bool.or_true, Bool.or_false, Bool.false_or, Bool.not_true, Bool.not_false, decide_true, decide_false, not_true_eq_false, not_false_eq_true, eq_self, Bool.true_eq_false, Bool.false_eq_true, eo', B229_91]
      unfold oftF
      cases ho : ovV (walkS 30 (upd S 6 z)) with
      | false =>
        simp only [Option.bind_some, List.append_nil, List.nil_append, List.cons_append, cond_true, cond_false, if_true, if_false, ite_true, ite_false, reduceIte, IC, bI_0, bI_1, bF, Bool.not_eq_false, Bool.not_eq_true, Bool.and_true, Bool.true_and, Bool.and_false, Bool.false_and, Bool.true_or, Bool.or_true, Bool.or_false, Bool.false_or, Bool.not_true, Bool.not_false, decide_true, decide_false, not_true_eq_false, not_false_eq_true, eq_self, Bool.true_eq_false, Bool.false_eq_true, B229_99, Int32.add_zero, IX]
        obtain ⟨g2, q4, q5, e2, -, -⟩ := M_oft okS hx hn k (i + 1) acc _ (walkS 30 (upd S 6 z)) g1 (.int z) (.int v5) (by omega) (by omega) (hw.2 S (E320_rf.up (by omega))) rfl (fun q => by omega)
        exact ⟨g2, l4, l5, e2, rfl, rfl⟩
      | true =>
        simp only [Option.bind_some, List.append_nil, List.nil_append, List.cons_append, cond_true, cond_false, if_true, if_false, ite_true, ite_false, reduceIte, IC, bI_0, bI_1, bF, Bool.not_eq_false, Bool.not_eq_true, Bool.and_true, Bool.true_and, Bool.and_false, Bool.false_and, Bool.true_or, Bool.or_true, Bool.or_false, Bool.false_or, Bool.not_true, Bool.not_false, decide_true, decide_false, not_true_eq_false, not_false_eq_true, eq_self, Bool.true_eq_false, Bool.false_eq_true, B229_99, IX]
        obtain ⟨g2, q4, q5, e2, -, -⟩ := M_oft okS hx hn k (i + 1) (acc + 1) _ (walkS 30 (upd S 6 z)) g1 (.int z) (.int v5) (by omega) (by omega) (hw.2 S (E320_rf.up (by omega))) rfl (fun q => by omega)
        exact ⟨g2, l4, l5, e2, rfl, rfl⟩
    rw [B229_22, hx]
    simp (disch := omega) only [iN_le]
    rw [if_neg (by omega)]
    simp only [Option.bind_some, List.append_nil, List.nil_append, List.cons_append, cond_true, cond_false, if_true, if_false, ite_true, ite_false, reduceIte, IC, bI_0, bI_1, bF, Bool.not_eq_false, Bool.not_eq_true, Bool.and_true, Bool.true_and, Bool.and_false, Bool.false_and, Bool.true_or, Bool.or_true, Bool.or_false, Bool.false_or, Bool.not_true, Bool.not_false, decide_true, decide_false, not_true_eq_false, not_false_eq_true, eq_self, Bool.true_eq_false, Bool.false_eq_true, RDm, R6_66, hz, M_pb he, B229_40, B229_62, WRm, R6_w]
    rw [← hx]
    by_cases hi0 : i = 0
    · subst hi0
      rw [h0 rfl, upd_id] at hst
      rw [h0 rfl, if_neg (by decide)]
      rw [upd_id]
      exact hst
    · have hi : ¬ Int32.ofNat i = 0 := by rw [iN_z (by omega)]; exact hi0
      simp only [hi, Option.bind_some, List.append_nil, List.nil_append, List.cons_append, cond_true, cond_false, if_true, if_false, ite_true, ite_false, reduceIte, IC, bI_0, bI_1, bF, Bool.not_eq_false, Bool.not_eq_true, Bool.and_true, Bool.true_and, Bool.and_false, Bool.false_and, Bool.true_or, Bool.or_true, Bool.or_false, Bool.false_or, Bool.not_true, Bool.not_false, decide_true, decide_false, not_true_eq_false, not_false_eq_true, eq_self, Bool.true_eq_false, Bool.false_eq_true]
      exact hst
theorem F_oft (ok : Ok (I 66) 10) : Rf X I 229 [.ref 65, .int x, U_, U_, U_, U_] (pOft (I 66) x, I 66) := by
  intro d D P N
  simp only [B229_0, Option.bind_some, List.append_nil, List.nil_append, List.cons_append, cond_true, cond_false, if_true, if_false, ite_true, ite_false, reduceIte, IC, bI_0, bI_1, bF, Bool.not_eq_false, Bool.not_eq_true, Bool.and_true, Bool.true_and, Bool.and_false, Bool.false_and, Bool.true_or, Bool.or_true, Bool.or_false, Bool.false_or, Bool.not_true, Bool.not_false, decide_true, decide_false, not_true_eq_false, not_false_eq_true, eq_self, Bool.true_eq_false, Bool.false_eq_true, M_bt, L64, B229_9]
  unfold pOft
  cases hb : bt x 1 60 with
  | false => exact ⟨I, by simp only [Option.bind_some, List.append_nil, List.nil_append, List.cons_append, cond_true, cond_false, if_true, if_false, ite_true, ite_false, reduceIte, IC, bI_0, bI_1, bF, Bool.not_eq_false, Bool.not_eq_true, Bool.and_true, Bool.true_and, Bool.and_false, Bool.false_and, Bool.true_or, Bool.or_true, Bool.or_false, Bool.false_or, Bool.not_true, Bool.not_false, decide_true, decide_false, not_true_eq_false, not_false_eq_true, eq_self, Bool.true_eq_false, Bool.false_eq_true], Sc_id⟩
  | true =>
    have hb2 := bt_iff.mp hb
    have e1 : x = Int32.ofNat x.toNatClampNeg := iN_of (by omega)
    have e2 := cl_ti (x := x) (by omega)
    have ep := M_pt (X := X) (d := d + 39) (D := D) (J := I) (P := P) (N := N) (g := I 69) (s := I 66)
    rw [R6_id] at ep
    obtain ⟨g1, -, -, e3, -, -⟩ := M_oft (X := X) (d := d + 25) (D := D) (I := I) (P := P) (N := N) (c := I 68) ok e1 (by omega) x.toNatClampNeg 0 0 (I 66 6) (I 66) (I 69) U_ U_ (by omega) (by omega) E320_rf rfl (fun _ => rfl)
    refine ⟨R6 (u2r I 68 (row320 (I 66) (I 68))) g1 (I 66), ?_, (Sc_rf.r68).r6⟩
    simp only [Option.bind_some, List.append_nil, List.nil_append, List.cons_append, cond_true, cond_false, if_true, if_false, ite_true, ite_false, reduceIte, IC, bI_0, bI_1, bF, Bool.not_eq_false, Bool.not_eq_true, Bool.and_true, Bool.true_and, Bool.and_false, Bool.false_and, Bool.true_or, Bool.or_true, Bool.or_false, Bool.false_or, Bool.not_true, Bool.not_false, decide_true, decide_false, not_true_eq_false, not_false_eq_true, eq_self, Bool.true_eq_false, Bool.false_eq_true, ep, B229_18]
    exact e3
end RefJ
