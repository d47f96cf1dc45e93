/-! the class: a new Rules, read, rules -/
def A8 : mE := .inl (0, 8, .inl (fun _ => 0))
def A100 : mE := .inl (0, 100, .inl (fun _ => 0))
def dR (D : Nat → Nat × Nat) (N : Nat) : Nat → Nat × Nat := fun a => if a = 80 + N then (4, 5) else if 80 + N < a ∧ a ≤ 84 + N then (0, 8) else if 84 + N < a ∧ a ≤ 87 + N then (0, 100) else D a
def iR (I : Nat → Nat → Int32) (N : Nat) : Nat → Nat → Int32 := fun a => if 80 + N ≤ a ∧ a ≤ 87 + N then (fun _ => 0) else I a
theorem fsL {hh t : mH} {fs : List Value} {v : Value} {k : Nat} (hk : Nat.blt k fs.length = true) (hv : okV (pY 5 k) v = true) : hFS (hh ++ (Sum.inr (5, fs) : mE) :: t) hh.length k [5] v = some (hh ++ (Sum.inr (5, fs.set k v) : mE) :: t) := by
  unfold hFS
  have e : (hh ++ (Sum.inr (5, fs) : mE) :: t)[hh.length]? = some (Sum.inr (5, fs)) := by simp
  rw [e]
  show (bif ([5] : List Nat).contains 5 && Nat.blt k fs.length && okV (pY 5 k) v then some ((hh ++ (Sum.inr (5, fs) : mE) :: t).set hh.length (Sum.inr (5, fs.set k v))) else none) = _
  rw [hk, hv, show ([5] : List Nat).contains 5 = true from rfl]
  simp
section ClsT
variable {X : mX} {d : Nat} {D : Nat → Nat × Nat} {I : Nat → Nat → Int32} {P : Nat → Nat → Option Nat} {N : Nat} {h : mH} {b : Nat → Int32} {J J0 K K' I' : Nat → Nat → Int32} {D' : Nat → Nat × Nat} {P' : Nat → Nat → Option Nat} {N' : Nat} {ra : Nat → Nat} {n i j k p o l q c : Nat} {m : Int} {s t r5 r6 r7 : Nat → Int32} {x a y z : Int32} {T T0 : List Nat} {A B : List pSt} {R : List pRu} {u : pRu}
theorem K2_new : Rn X d 70 0 [.ref (80 + N)] [] (Mh D I P N ++ [Sum.inr (5, pD 5)]) = some ([], Mh (dR D N) (iR I N) P (N + 8)) := by
  have raw : ∀ hh : mH, Rn X d 70 0 [.ref hh.length] [] (hh ++ [Sum.inr (5, pD 5)]) = some ([], hh ++ (Sum.inr (5, [.int 0, .ref (hh.length + 1), .ref (hh.length + 2), .ref (hh.length + 3), .ref (hh.length + 4), .ref (hh.length + 5), .ref (hh.length + 6), .ref (hh.length + 7), .int 0]) : mE) :: [A8, A8, A8, A8, A100, A100, A100]) := by
    intro hh
    have ap : ∀ (x : mE) (t : mH) (y : mE), (hh ++ x :: t) ++ [y] = hh ++ x :: (t ++ [y]) := by intros; simp
    have ln : ∀ (x : mE) (t : mH), (hh ++ x :: t).length = hh.length + (t.length + 1) := by intros; simp
    rw [B70_0]
    rw [ap, ln, fsL rfl rfl, Option.bind_some, ap, ln, fsL rfl rfl, Option.bind_some, ap, ln, fsL rfl rfl, Option.bind_some, ap, ln, fsL rfl rfl, Option.bind_some, ap, ln, fsL rfl rfl, Option.bind_some, ap, ln, fsL rfl rfl, Option.bind_some, ap, ln, fsL rfl rfl, Option.bind_some]
    rfl
  have h1 := raw (Mh D I P N)
  rw [Mh_len] at h1
  rw [h1]
  refine congrArg (fun z => some ([], z)) ?_
  have c0 : Mh D I P N ++ [(Sum.inr (5, [.int 0, .ref (80 + N + 1), .ref (80 + N + 2), .ref (80 + N + 3), .ref (80 + N + 4), .ref (80 + N + 5), .ref (80 + N + 6), .ref (80 + N + 7), .int 0]) : mE)] = Mh (dU D (80 + N) (4, 5)) (u2r I (80 + N) (fun _ => 0)) P (N + 1) := Mh_app rfl
  have c1 : ∀ D I M, Mh D I P M ++ [A8] = Mh (dU D (80 + M) (0, 8)) (u2r I (80 + M) (fun _ => 0)) P (M + 1) := fun D I M => Mh_app rfl
  have c2 : ∀ D I M, Mh D I P M ++ [A100] = Mh (dU D (80 + M) (0, 100)) (u2r I (80 + M) (fun _ => 0)) P (M + 1) := fun D I M => Mh_app rfl
  have sp : ∀ (hh : mH) (x : mE), hh ++ x :: [A8, A8, A8, A8, A100, A100, A100] = (((((((hh ++ [x]) ++ [A8]) ++ [A8]) ++ [A8]) ++ [A8]) ++ [A100]) ++ [A100]) ++ [A100] := by intros; simp
  rw [sp, c0, c1, c1, c1, c1, c2, c2, c2]
  refine Mh_of (fun a h1 h2 => ?_) (fun a h1 => ?_) (fun _ _ => rfl)
  · unfold dR dU
    have : a < 80 + N ∨ a = 80 + N ∨ a = 80 + N + 1 ∨ a = 80 + N + 2 ∨ a = 80 + N + 3 ∨ a = 80 + N + 4 ∨ a = 80 + N + 5 ∨ a = 80 + N + 6 ∨ a = 80 + N + 7 := by omega
    rcases this with h | h | h | h | h | h | h | h | h <;> repeat (first | rw [if_pos (by omega)] | rw [if_neg (by omega)])
  · unfold iR u2r
    have : a < 80 + N ∨ a = 80 + N ∨ a = 80 + N + 1 ∨ a = 80 + N + 2 ∨ a = 80 + N + 3 ∨ a = 80 + N + 4 ∨ a = 80 + N + 5 ∨ a = 80 + N + 6 ∨ a = 80 + N + 7 := by omega
    rcases this with h | h | h | h | h | h | h | h | h <;> repeat (first | rw [if_pos (by omega)] | rw [if_neg (by omega)])
theorem dR_o {a' : Nat} (h : a' < 80 + N) : dR D N a' = D a' := by
  unfold dR
  rw [if_neg (by omega), if_neg (by omega), if_neg (by omega)]
theorem iR_o {a' : Nat} (h : a' < 80 + N) : iR I N a' = I a' := by unfold iR; rw [if_neg (by omega)]
theorem iR_n {j : Nat} (h : j ≤ 7) : iR I N (80 + N + j) = fun _ => 0 := by unfold iR; rw [if_pos (by omega)]
theorem dR_at : RAt (dR D N) (N + 8) (80 + N) := by
  refine ⟨by omega, by omega, ?_, fun j h1 h2 => ?_, fun j h1 h2 => ?_⟩
  · rw [bKk_dyn (by omega)]; unfold dR; rw [if_pos rfl]
  · rw [bKk_dyn (by omega)]; unfold dR; rw [if_neg (by omega), if_pos (by omega)]
  · rw [bKk_dyn (by omega)]; unfold dR; rw [if_neg (by omega), if_neg (by omega), if_pos (by omega)]
theorem mmn (h : n ≤ 200) : mmin (mmin (Int32.ofNat n) (Int32.ofNat 200)) 200 = Int32.ofNat n := by
  have e : mmin (Int32.ofNat n) (Int32.ofNat 200) = Int32.ofNat n := if_neg (by rw [iN_lt (by omega) (by omega)]; omega)
  show mmin (mmin (Int32.ofNat n) (Int32.ofNat 200)) (Int32.ofNat 200) = _
  rw [e, e]
theorem K2_red (hn : n ≤ 200) (hb : ∀ i, Alk (cBy I n i) (b i)) : ∃ K', Rn X (d + 14) 50 0 [.ref 36, .ref 49, .int (Int32.ofNat n), U_] [] (Mh D I P N) = some ([va_rf (if (rlRes b n).1 = true then some (80 + N) else none)], Mh (dR D N) K' (p2 (p2 P 36 0 (some 49)) 36 7 (some (80 + N))) (N + 8))
    ∧ (∀ c, c < 80 + N → c ≠ 36 → c ≠ 38 → c ≠ 39 → c ≠ 40 → K' c = I c) ∧ (K' 36 1 = Int32.ofNat n ∧ TkR K' b n (tk b n 0))
    ∧ ((rlRes b n).1 = true → K' (80 + N) 0 = Int32.ofNat (rlRes b n).2.2.length ∧ HdC K' (80 + N) (rlRes b n).2.2 ∧ stpR (K' (80 + N + 5)) (K' (80 + N + 6)) (K' (80 + N + 7)) 0 (sgA (rlRes b n).2.2))
    ∧ ((rlRes b n).1 = false → ∃ pre, tk b n 0 = pre ++ (rlRes b n).2.1 ∧ K' 36 6 = Int32.ofNat pre.length) := by
  have hx : TxC (u2 I 36 1 (Int32.ofNat n)) (p2 P 36 0 (some 49)) b n := ⟨rfl, rfl, hn, fun i => hb i⟩
  obtain ⟨K1, e1, t1, f1, f2⟩ := K2_scn (X := X) (d := d + 9) (D := D) (N := N) hx
  have hg := tk_g (b := b) (n := n) n 0 (by omega)
  generalize hJ : iR (u2 K1 36 6 0) N = J
  have jo : ∀ c, c < 80 + N → c ≠ 36 → J c = K1 c := fun c h1 h2 => by rw [← hJ, iR_o h1, u2_o h2]
  have j36 : ∀ k, k ≠ 6 → J 36 k = K1 36 k := fun k hk => by rw [← hJ, iR_o (by omega), u2_s, upd_o hk]
  have jn : ∀ j, j ≤ 7 → J (80 + N + j) = fun _ => 0 := fun j hj => by rw [← hJ]; exact iR_n hj
  have he : CE (dR D N) (p2 (p2 P 36 0 (some 49)) 36 7 (some (80 + N))) (N + 8) J b n (tk b n 0) (80 + N) := by
    refine ⟨rfl, dR_at, by omega, ⟨by rw [j36 5 (by decide)]; exact t1.1, fun j p hj => ?_⟩, by have := hg.2.1; omega, hn⟩
    rw [jo 38 (by omega) (by decide), jo 39 (by omega) (by decide), jo 40 (by omega) (by decide)]
    exact t1.2 j p hj
  have j0 : J (80 + N) = fun _ => 0 := jn 0 (by omega)
  have hR : RIc J J (tk b n 0) (80 + N) (tk b n 0) [] := by
    refine ⟨⟨fun _ _ _ => rfl, fun _ _ => rfl⟩, by rw [j0]; rfl, fun k u hu => by simp at hu, ⟨⟨⟨fun _ _ _ => rfl, fun _ _ => rfl⟩, [], rfl, ?_⟩, ⟨by rw [j0]; rfl, trivial⟩, rfl, fun _ _ _ => rfl⟩⟩
    rw [← hJ, iR_o (by omega)]; rfl
  obtain ⟨K2, e2, q2, q3⟩ := K2_rls (X := X) (d := d) (x := Int32.ofNat n) he 9 (tk b n 0) [] J rfl (by simp) hR (tk_G (Nat.zero_le _)) (by simp [sgA]) (by simp [sgA, exL])
  change (rlRes b n).1 = true → RIc J K2 (tk b n 0) (80 + N) (rlRes b n).2.1 (rlRes b n).2.2 at q2
  change (rlRes b n).1 = false → CF J K2 (tk b n 0) (80 + N) (rlRes b n).2.1 at q3
  have fr : (∀ c, c ≠ 36 → (c < 80 + N ∨ 80 + N + 7 < c) → K2 c = J c) ∧ (∀ k, k ≠ 6 → K2 36 k = J 36 k) := by
    cases hr : (rlRes b n).1 with
    | true => exact (q2 hr).1
    | false => exact (q3 hr).1
  refine ⟨K2, ?_, fun c h1 h2 h3 h4 h5 => ?_, ⟨?_, ?_, fun j p hj => ?_⟩, fun hr => ⟨(q2 hr).2.1, (q2 hr).2.2.1, (q2 hr).2.2.2.2.1.2⟩, fun hr => (q3 hr).2⟩
  · have e2' : Rn X (d + 14) 50 43 [.ref 36, .ref 49, .int (Int32.ofNat n), .int 0] [] (Mh (dR D N) J (p2 (p2 P 36 0 (some 49)) 36 7 (some (80 + N))) (N + 8)) = some ([va_rf (if (rlRes b n).1 = true then some (80 + N) else none)], Mh (dR D N) K2 (p2 (p2 P 36 0 (some 49)) 36 7 (some (80 + N))) (N + 8)) := e2
    rw [← e2', B50_0, WRr36]
    simp only [Option.bind_some, List.append_nil, List.nil_append, List.cons_append, cond_true, cond_false, if_true, if_false, ite_true, ite_false, reduceIte, IC, bI_0, bI_1, bF, Bool.not_eq_false, Bool.not_eq_true, Bool.and_true, Bool.true_and, Bool.and_false, Bool.false_and, Bool.true_or, Bool.or_true, Bool.or_false, Bool.false_or, Bool.not_true, Bool.not_false, decide_true, decide_false, not_true_eq_false, not_false_eq_true, eq_self, Bool.true_eq_false, Bool.false_eq_true, RDc, mmn hn, WRc, IC, e1, B50_25, Mh_len, K2_new, hJ, B50_38, WRr367]
  · rw [fr.1 c h2 (Or.inl h1), jo c h1 h2, f1 c h2 h3 h4 h5, u2_o h2]
  · rw [fr.2 1 (by decide), j36 1 (by decide), f2 1 (by decide)]; rfl
  · rw [fr.2 5 (by decide), j36 5 (by decide)]; exact t1.1
  · rw [fr.1 38 (by decide) (by omega), fr.1 39 (by decide) (by omega), fr.1 40 (by decide) (by omega), jo 38 (by omega) (by decide), jo 39 (by omega) (by decide), jo 40 (by omega) (by decide)]
    exact t1.2 j p hj
theorem K2_flt (hT : TkR K b n T0) (hn : n ≤ 200) (hl : T0.length ≤ 200) (h1 : K 36 1 = Int32.ofNat n) {pre : List Nat} (hp : T0 = pre ++ T) (h6 : K 36 6 = Int32.ofNat pre.length) : Rn X d 51 0 [.ref 36] [] (Mh D K P N) = some ([.int (Int32.ofNat (hP n T))], Mh D K P N) := by
  have hpl : pre.length + T.length = T0.length := by rw [hp, List.length_append]
  have n0 : ¬ Int32.ofNat pre.length < 0 := iN_neg (by omega)
  simp only [B51_0, RDc, h6, hT.1, n0, Option.bind_some, List.append_nil, List.nil_append, List.cons_append, cond_true, cond_false, if_true, if_false, ite_true, ite_false, reduceIte, IC, bI_0, bI_1, bF, Bool.not_eq_false, Bool.not_eq_true, Bool.and_true, Bool.true_and, Bool.and_false, Bool.false_and, Bool.true_or, Bool.or_true, Bool.or_false, Bool.false_or, Bool.not_true, Bool.not_false, decide_true, decide_false, not_true_eq_false, not_false_eq_true, eq_self, Bool.true_eq_false, Bool.false_eq_true]
  cases T with
  | nil =>
    have h0 : ([] : List Nat).length = 0 := rfl
    have hle : Int32.ofNat T0.length ≤ Int32.ofNat pre.length := by rw [iN_le (by omega) (by omega)]; omega
    simp only [hle, Option.bind_some, List.append_nil, List.nil_append, List.cons_append, cond_true, cond_false, if_true, if_false, ite_true, ite_false, reduceIte, IC, bI_0, bI_1, bF, Bool.not_eq_false, Bool.not_eq_true, Bool.and_true, Bool.true_and, Bool.and_false, Bool.false_and, Bool.true_or, Bool.or_true, Bool.or_false, Bool.false_or, Bool.not_true, Bool.not_false, decide_true, decide_false, not_true_eq_false, not_false_eq_true, eq_self, Bool.true_eq_false, Bool.false_eq_true, B51_40, RDc, h1, B51_44]
    rfl
  | cons p T =>
    have hlen : (p :: T).length = T.length + 1 := rfl
    have hle : ¬ Int32.ofNat T0.length ≤ Int32.ofNat pre.length := by rw [iN_le (by omega) (by omega)]; omega
    have h200 : ¬ (200 : Int32) ≤ Int32.ofNat pre.length := le_n (l := 200) (n := 200) rfl (by omega) (by omega) (by omega)
    have hm := mib_N (j := pre.length) (n := 200) (by omega) (by decide)
    have e0 : (Int32.ofNat pre.length).toNatClampNeg = pre.length := iN_cl (by omega)
    have hat : T0[pre.length]? = some p := by rw [hp, List.getElem?_append_right (Nat.le_refl _), Nat.sub_self]; rfl
    have hv := (hT.2 _ _ hat).2.2
    simp only [hle, h200, hm, e0, hv, Option.bind_some, List.append_nil, List.nil_append, List.cons_append, cond_true, cond_false, if_true, if_false, ite_true, ite_false, reduceIte, IC, bI_0, bI_1, bF, Bool.not_eq_false, Bool.not_eq_true, Bool.and_true, Bool.true_and, Bool.and_false, Bool.false_and, Bool.true_or, Bool.or_true, Bool.or_false, Bool.false_or, Bool.not_true, Bool.not_false, decide_true, decide_false, not_true_eq_false, not_false_eq_true, eq_self, Bool.true_eq_false, Bool.false_eq_true, RDc, h6, B51_44]
    rfl
/-- the places that rules() writes -/
def rulP36 (P : Nat → Nat → Option Nat) (N : Nat) : Nat → Nat → Option Nat := p2 (p2 P 36 0 (some 49)) 36 7 (some (80 + N))
theorem N_rul (h6 : I 0 6 = Int32.ofNat n) (hn : n ≤ 200) (hb : ∀ i, Alk (cBy I n i) (b i)) : ∃ K', Rn X (d + 40) 119 0 [.ref 0, U_] [] (Mh D I P N) = some ([.int (if (rlRes b n).1 = true then Int32.ofNat (rlRes b n).2.2.length else (-100) - Int32.ofNat (hP n (rlRes b n).2.1))], Mh (dR D N) K' (if (rlRes b n).1 = true then p2 (rulP36 P N) 1 9 (some (80 + N)) else rulP36 P N) (N + 8))
    ∧ (∀ c, c < 80 + N → c ≠ 0 → c ≠ 36 → c ≠ 38 → c ≠ 39 → c ≠ 40 → K' c = I c) ∧ (∀ k, k ≠ 6 → K' 0 k = I 0 k) ∧ K' 0 6 = 0
    ∧ ((rlRes b n).1 = true → K' (80 + N) 0 = Int32.ofNat (rlRes b n).2.2.length ∧ HdC K' (80 + N) (rlRes b n).2.2 ∧ stpR (K' (80 + N + 5)) (K' (80 + N + 6)) (K' (80 + N + 7)) 0 (sgA (rlRes b n).2.2)) := by
  obtain ⟨K1, e1, f1, ⟨f2, f3⟩, q1, q2⟩ := K2_red (X := X) (d := d + 25) (D := D) (P := P) (N := N) hn hb
  have hg := tk_g (b := b) (n := n) n 0 (by omega)
  have ko : ∀ c, c ≠ 0 → u2 K1 0 6 0 c = K1 c := fun c hc => u2_o hc
  refine ⟨u2 K1 0 6 0, ?_, fun c h1 h2 h3 h4 h5 h6 => by rw [ko c h2]; exact f1 c h1 h3 h4 h5 h6, fun k hk => by rw [u2_s, upd_o hk, f1 0 (by omega) (by decide) (by decide) (by decide) (by decide)], rfl, fun hr => ?_⟩
  · simp only [B119_0, RDc, Option.bind_some, List.append_nil, List.nil_append, List.cons_append, cond_true, cond_false, if_true, if_false, ite_true, ite_false, reduceIte, IC, bI_0, bI_1, bF, Bool.not_eq_false, Bool.not_eq_true, Bool.and_true, Bool.true_and, Bool.and_false, Bool.false_and, Bool.true_or, Bool.or_true, Bool.or_false, Bool.false_or, Bool.not_true, Bool.not_false, decide_true, decide_false, not_true_eq_false, not_false_eq_true, eq_self, Bool.true_eq_false, Bool.false_eq_true, h6, IC, e1, B119_15, WRc]
    cases hr : (rlRes b n).1 with
    | true =>
      obtain ⟨r0, -, -⟩ := q1 hr
      have hR := dR_at (D := D) (N := N)
      have r0' : u2 K1 0 6 0 (80 + N) 0 = Int32.ofNat (rlRes b n).2.2.length := by rw [ko _ (by omega)]; exact r0
      simp only [Option.bind_some, List.append_nil, List.nil_append, List.cons_append, cond_true, cond_false, if_true, if_false, ite_true, ite_false, reduceIte, IC, bI_0, bI_1, bF, Bool.not_eq_false, Bool.not_eq_true, Bool.and_true, Bool.true_and, Bool.and_false, Bool.false_and, Bool.true_or, Bool.or_true, Bool.or_false, Bool.false_or, Bool.not_true, Bool.not_false, decide_true, decide_false, not_true_eq_false, not_false_eq_true, eq_self, Bool.true_eq_false, Bool.false_eq_true, oc_some, RDc, WRr1, rdR5 hR, r0']
      rfl
    | false =>
      obtain ⟨pre, hp, hp6⟩ := q2 hr
      have t3 : TkR (u2 K1 0 6 0) b n (tk b n 0) := f3
      have ef := K2_flt (X := X) (d := d + 39) (D := dR D N) (P := p2 (p2 P 36 0 (some 49)) 36 7 (some (80 + N))) (N := N + 8) (K := u2 K1 0 6 0) t3 hn (by have := hg.2.1; omega) f2 hp hp6
      simp only [Option.bind_some, List.append_nil, List.nil_append, List.cons_append, cond_true, cond_false, if_true, if_false, ite_true, ite_false, reduceIte, IC, bI_0, bI_1, bF, Bool.not_eq_false, Bool.not_eq_true, Bool.and_true, Bool.true_and, Bool.and_false, Bool.false_and, Bool.true_or, Bool.or_true, Bool.or_false, Bool.false_or, Bool.not_true, Bool.not_false, decide_true, decide_false, not_true_eq_false, not_false_eq_true, eq_self, Bool.true_eq_false, Bool.false_eq_true, oc_none, RDc, IC, ef, B119_34]
      rfl
  · obtain ⟨r0, r1, r2⟩ := q1 hr
    refine ⟨by rw [ko _ (by omega)]; exact r0, fun k u hu => ?_, ?_⟩
    · rw [ko _ (by omega), ko _ (by omega), ko _ (by omega), ko _ (by omega)]; exact r1 k u hu
    · rw [ko _ (by omega), ko _ (by omega), ko _ (by omega)]; exact r2
/-! what the rules are then -/
theorem stpR_dr : ∀ (A : List pSt) (i : Nat), stpR r5 r6 r7 i (A ++ B) → stpR r5 r6 r7 (i + A.length) B
  | [], _, h => h
  | u :: A, i, h => by
    have := stpR_dr A (i + 1) h.2.2
    rw [show i + 1 + A.length = i + (u :: A).length by simp; omega] at this
    exact this
theorem stpR_tk : ∀ (A : List pSt) (i : Nat), stpR r5 r6 r7 i (A ++ B) → stpR r5 r6 r7 i A
  | [], _, _ => trivial
  | _ :: A, i, h => ⟨h.1, h.2.1, stpR_tk A (i + 1) h.2.2⟩
theorem codR_dr {f : Nat → Int32} {B : List Int32} : ∀ (A : List Int32) (i : Nat), codR f i (A ++ B) → codR f (i + A.length) B
  | [], _, h => h
  | u :: A, i, h => by
    have := codR_dr A (i + 1) h.2
    rw [show i + 1 + A.length = i + (u :: A).length by simp; omega] at this
    exact this
theorem codR_tk {f : Nat → Int32} {B : List Int32} : ∀ (A : List Int32) (i : Nat), codR f i (A ++ B) → codR f i A
  | [], _, _ => trivial
  | _ :: A, i, h => ⟨h.1, codR_tk A (i + 1) h.2⟩
theorem runC_L {f : Int32 → Int32} {c : Nat → Int32} : ∀ (L : List Int32) (i : Nat) (st : List Int32), codR c i L → runC f c i L.length st = runL f L st
  | [], _, _, _ => rfl
  | x :: L, i, st, h => by
    show (stpC f (c i) st).bind (runC f c (i + 1) L.length) = (stpC f x st).bind (runL f L)
    rw [h.1]
    congr 1
    funext q
    exact runC_L L (i + 1) q h.2
theorem tk_s {k : Nat} {u : pRu} (h : R[k]? = some u) : R.take (k + 1) = R.take k ++ [u] := by
  rw [List.take_add_one, h]; rfl
theorem sg_s {k : Nat} {u : pRu} (h : R[k]? = some u) : sgA (R.take (k + 1)) = sgA (R.take k) ++ u.2.2.2 := by
  rw [tk_s h, sgA_app]
  show _ ++ (u.2.2.2 ++ []) = _
  rw [List.append_nil]
theorem sg_d {k : Nat} : sgA R = sgA (R.take k) ++ sgA (R.drop k) := by rw [← sgA_app, List.take_append_drop]
theorem ends_t (hd : HdR t R) (hl : (exL (sgA R)).length ≤ 200) : ∀ k, k ≤ R.length → frm t k = (exL (sgA (R.take k))).length
  | 0, _ => rfl
  | k + 1, hk => by
    obtain ⟨u, hu⟩ : ∃ u, R[k]? = some u := ⟨R[k], List.getElem?_eq_getElem (by omega)⟩
    have := (hd k u hu).2.2.2
    show (t (86 + 4 * k + 3)).toNatClampNeg = _
    have hle : (exL (sgA (R.take (k + 1)))).length ≤ 200 := by
      have e := sg_d (R := R) (k := k + 1)
      rw [e, exL_app, List.length_append] at hl
      omega
    rw [this, iN_cl (by omega)]
theorem ends_c (hd : HdC K q R) (hl : 2 * (sgA R).length ≤ 200) : ∀ k, k ≤ R.length → cFr (K (q + 4)) k = (sgA (R.take k)).length
  | 0, _ => rfl
  | k + 1, hk => by
    obtain ⟨u, hu⟩ : ∃ u, R[k]? = some u := ⟨R[k], List.getElem?_eq_getElem (by omega)⟩
    have := (hd k u hu).2.2.2
    show (K (q + 4) k).toNatClampNeg = _
    have hle : 2 * (sgA (R.take (k + 1))).length ≤ 200 := by
      have e := sg_d (R := R) (k := k + 1)
      rw [e, List.length_append] at hl
      omega
    rw [this, iN_cl (by omega)]
theorem ctR_n (h1 : t 1 = Int32.ofNat R.length) (h8 : R.length ≤ 8) : ctR t = R.length := by unfold ctR; rw [h1, iN_cl (by omega)]
theorem rul_ok (hr : RowN s t R) (h8 : R.length ≤ 8) (hu : ∀ u, u ∈ R → UOK u) (hl : (exL (sgA R)).length ≤ 200) : RuOK t := by
  obtain ⟨-, h1, hd, hc⟩ := hr
  intro k hk
  rw [ctR_n h1 h8] at hk
  obtain ⟨u, hku⟩ : ∃ u, R[k]? = some u := ⟨R[k], List.getElem?_eq_getElem (by omega)⟩
  obtain ⟨u1, u2', u3, u4⟩ := hu u (List.mem_of_getElem? hku)
  obtain ⟨d1, d2, d3, d4⟩ := hd k u hku
  have e1 := ends_t hd hl k (by omega)
  have e2 := ends_t hd hl (k + 1) (by omega)
  have es := sg_s hku
  have en : enN t k = (exL (sgA (R.take (k + 1)))).length := e2
  rw [es, exL_app, List.length_append] at en
  have hle : (exL (sgA (R.take (k + 1)))).length ≤ 200 := by
    have e := sg_d (R := R) (k := k + 1)
    rw [e, exL_app, List.length_append] at hl
    omega
  refine ⟨by rw [d1]; exact u1, ?_, by rw [d3]; exact u3, ?_, by omega, fun f => ?_⟩
  · rw [d2]; rcases u2' with e | e | e <;> rw [e] <;> decide
  · rw [d4]; exact bt_iff.mpr (by rw [iN_ti (by omega)]; omega)
  · rw [e1, en, show (exL (sgA (R.take k))).length + (exL u.2.2.2).length - (exL (sgA (R.take k))).length = (exL u.2.2.2).length by omega]
    have hc2 : codR (fun j => t (118 + j)) (exL (sgA (R.take k))).length (exL u.2.2.2) := by
      have e := sg_d (R := R) (k := k + 1)
      rw [es] at e
      rw [e, exL_app, exL_app] at hc
      have := codR_dr _ 0 (codR_tk _ 0 hc)
      rw [Nat.zero_add] at this
      exact this
    rw [runC_L _ _ _ hc2]
    exact u4 f
theorem rul_RR (hr : RowN s t R) (h8 : R.length ≤ 8) (hu : ∀ u, u ∈ R → UOK u) (hl : (exL (sgA R)).length ≤ 200) (hl2 : 2 * (sgA R).length ≤ 200) (hA : RAt D N q) (h0 : K q 0 = Int32.ofNat R.length) (hC : HdC K q R) (hS : stpR (K (q + 5)) (K (q + 6)) (K (q + 7)) 0 (sgA R)) : RulR t D K N q := by
  obtain ⟨-, h1, hd, hc⟩ := hr
  refine ⟨hA, by rw [h0, h1], fun k hk => ?_⟩
  rw [ctR_n h1 h8] at hk
  obtain ⟨u, hku⟩ : ∃ u, R[k]? = some u := ⟨R[k], List.getElem?_eq_getElem (by omega)⟩
  obtain ⟨u1, u2', u3, u4⟩ := hu u (List.mem_of_getElem? hku)
  obtain ⟨d1, d2, d3, d4⟩ := hd k u hku
  obtain ⟨c1, c2, c3, c4⟩ := hC k u hku
  have e1 := ends_t hd hl k (by omega)
  have e2 : enN t k = _ := ends_t hd hl (k + 1) (by omega)
  have f1 := ends_c hC hl2 k (by omega)
  have f2 : cEn (K (q + 4)) k = _ := ends_c hC hl2 (k + 1) (by omega)
  have es := sg_s hku
  have e := sg_d (R := R) (k := k + 1)
  have hle : 2 * (sgA (R.take (k + 1))).length ≤ 200 := by
    have hl3 := hl2
    rw [e, List.length_append] at hl3
    omega
  rw [es] at e
  refine ⟨by rw [c1, d1], ?_, by rw [c3, d3], ?_, u.2.2.2, ?_, ?_, ?_, ?_⟩
  · rw [c2, d2, Int32.sub_add_cancel]
  · rw [c4]; exact bt_iff.mpr (by rw [iN_ti (by omega)]; omega)
  · rw [f2, f1, es, List.length_append]
  · rw [e2, e1, es, exL_app, List.length_append]
  · rw [f1]
    rw [e] at hS
    have := stpR_dr _ 0 (stpR_tk _ 0 hS)
    rw [Nat.zero_add] at this
    exact this
  · rw [e1]
    rw [e, exL_app, exL_app] at hc
    have := codR_dr _ 0 (codR_tk _ 0 hc)
    rw [Nat.zero_add] at this
    exact this
theorem gd_rul (g : Gd s m) (hr : RowN s t R) (h8 : R.length ≤ 8) : Gd t m ∧ endV t = endV s := by
  obtain ⟨ho, h1, -, -⟩ := hr
  have o : ∀ k, k < 86 → k ≠ 1 → t k = s k := fun k h1 h2 => ho k (Or.inl ⟨h1, h2⟩)
  have hA : ctA t = ctA s := by unfold ctA; rw [o 0 (by omega) (by omega)]
  have hL : ctL t = ctL s := by unfold ctL; rw [o 2 (by omega) (by omega)]
  have g0 := g.n0.2
  have g2 := g.n2.2
  refine ⟨⟨⟨by rw [o 0 (by omega) (by omega)]; exact g.1.1, by rw [h1]; exact bt_iff.mpr (by rw [iN_ti (by omega)]; omega), by rw [o 2 (by omega) (by omega)]; exact g.1.2.2.1, by rw [o 3 (by omega) (by omega)]; exact g.1.2.2.2.1, by rw [o 4 (by omega) (by omega)]; exact g.1.2.2.2.2.1, by rw [o 5 (by omega) (by omega)]; exact g.1.2.2.2.2.2⟩, fun i hi => ?_, fun k hk => ?_⟩, ?_⟩
  · rw [hA] at hi
    rw [o _ (by omega) (by omega), o _ (by omega) (by omega), o _ (by omega) (by omega), o _ (by omega) (by omega), o _ (by omega) (by omega)]
    exact g.2.1 i hi
  · rw [hL] at hk
    rw [o _ (by omega) (by omega), o _ (by omega) (by omega)]
    exact g.2.2 k hk
  · unfold endV
    rw [hL]
    exact endF_of (fun j hj => o _ (by omega) (by omega)) _ _ _ (by omega)
theorem RideR.gen (hr : RideR s D I P N 1 ra) (hD : ∀ a, 80 ≤ a → a < 80 + N → D' a = D a) (hI : ∀ a, a < 80 + N → a ≠ 0 → a ≠ 36 → a ≠ 38 → a ≠ 39 → a ≠ 40 → I' a = I a) (hP1 : P' 1 9 = P 1 9) (hP2 : P' 2 = P 2) (hN : N ≤ N') : RideR s D' I' P' N' 1 ra := by
  obtain ⟨r1, r2, r3, r4, r5, q, hq, hR⟩ := hr
  refine ⟨by rw [hI 1 (by omega) (by omega) (by omega) (by omega) (by omega) (by omega)]; exact r1, fun k hk => by rw [hI (1 + 2) (by omega) (by omega) (by omega) (by omega) (by omega) (by omega), hI (1 + 3) (by omega) (by omega) (by omega) (by omega) (by omega) (by omega)]; exact r2 k hk, fun k hk => by rw [hI (1 + 13) (by omega) (by omega) (by omega) (by omega) (by omega) (by omega), hI (1 + 14) (by omega) (by omega) (by omega) (by omega) (by omega) (by omega)]; exact r3 k hk, fun j hj => ?_, r5, q, by rw [hP1]; exact hq, ?_⟩
  · obtain ⟨q1, ⟨h80, hN2, hd⟩, q3⟩ := r4 j hj
    exact ⟨by rw [show P' (1 + 1) = P (1 + 1) from hP2]; exact q1, ⟨h80, by omega, by rw [hD _ h80 hN2]; exact hd⟩, by rw [hI _ hN2 (by omega) (by omega) (by omega) (by omega) (by omega)]; exact q3⟩
  · obtain ⟨⟨a1, a2, a3, a4, a5⟩, b1, b2⟩ := hR
    have hb : ∀ j, j ≤ 7 → bKk D' (q + j) = bKk D (q + j) := fun j hj => bKk_of (fun h8 => hD _ h8 (by omega))
    have hI' : ∀ j, j ≤ 7 → I' (q + j) = I (q + j) := fun j hj => hI _ (by omega) (by omega) (by omega) (by omega) (by omega) (by omega)
    refine ⟨⟨a1, by omega, by rw [show q = q + 0 from rfl, hb 0 (by omega)]; exact a3, fun j h1 h2 => by rw [hb j (by omega)]; exact a4 j h1 h2, fun j h1 h2 => by rw [hb j (by omega)]; exact a5 j h1 h2⟩, by rw [show q = q + 0 from rfl, hI' 0 (by omega)]; exact b1, fun k hk => ?_⟩
    rw [hI' 1 (by omega), hI' 2 (by omega), hI' 3 (by omega), hI' 4 (by omega), hI' 5 (by omega), hI' 6 (by omega), hI' 7 (by omega)]
    exact b2 k hk
/-- the ride with the new rules -/
theorem RideR.rul (hr : RideR s D I P N 1 ra) (g : Gd s m) (hrow : RowN s t R) (h8 : R.length ≤ 8) (hD : ∀ a, 80 ≤ a → a < 80 + N → D' a = D a) (hI : ∀ a, a < 80 + N → a ≠ 0 → a ≠ 36 → a ≠ 38 → a ≠ 39 → a ≠ 40 → I' a = I a) (hP1 : P' 1 9 = some q) (hP2 : P' 2 = P 2) (hN : N ≤ N') (hR : RulR t D' I' N' q) : RideR t D' I' P' N' 1 ra := by
  obtain ⟨⟨x1, x4, x5, x6, x7, x8, x13⟩, r2, r3, r4, r5, -⟩ := hr
  obtain ⟨-, en⟩ := gd_rul g hrow h8
  have ho := hrow.1
  have o : ∀ k, k < 86 → k ≠ 1 → t k = s k := fun k h1 h2 => ho k (Or.inl ⟨h1, h2⟩)
  have g0 := g.n0.2
  have g2 := g.n2.2
  have g3 := g.n3.2
  have hA : ctA t = ctA s := by unfold ctA; rw [o 0 (by omega) (by omega)]
  have hL : ctL t = ctL s := by unfold ctL; rw [o 2 (by omega) (by omega)]
  have hE : ctE t = ctE s := by unfold ctE; rw [o 3 (by omega) (by omega)]
  have i1 := hI 1 (by omega) (by omega) (by omega) (by omega) (by omega) (by omega)
  refine ⟨by rw [i1, o 0 (by omega) (by omega), o 2 (by omega) (by omega), en, o 4 (by omega) (by omega), o 5 (by omega) (by omega), o 6 (by omega) (by omega), o 3 (by omega) (by omega)]; exact ⟨x1, x4, x5, x6, x7, x8, x13⟩, fun k hk => ?_, fun k hk => ?_, fun j hj => ?_, fun i j hi hj => by rw [hA] at hi hj; exact r5 i j hi hj, q, hP1, hR⟩
  · rw [hL] at hk
    rw [hI (1 + 2) (by omega) (by omega) (by omega) (by omega) (by omega) (by omega), hI (1 + 3) (by omega) (by omega) (by omega) (by omega) (by omega) (by omega), o _ (by omega) (by omega), o _ (by omega) (by omega)]; exact r2 k hk
  · rw [hE] at hk
    rw [hI (1 + 13) (by omega) (by omega) (by omega) (by omega) (by omega) (by omega), hI (1 + 14) (by omega) (by omega) (by omega) (by omega) (by omega) (by omega), o _ (by omega) (by omega), o _ (by omega) (by omega), o _ (by omega) (by omega)]; exact r3 k hk
  · rw [hA] at hj
    obtain ⟨q1, ⟨h80, hN2, hd⟩, q3⟩ := r4 j hj
    refine ⟨by rw [show P' (1 + 1) = P (1 + 1) from hP2]; exact q1, ⟨h80, by omega, by rw [hD _ h80 hN2, o _ (by omega) (by omega)]; exact hd⟩, ?_⟩
    rw [hI _ hN2 (by omega) (by omega) (by omega) (by omega) (by omega), o _ (by omega) (by omega), o _ (by omega) (by omega), o _ (by omega) (by omega), o _ (by omega) (by omega), o _ (by omega) (by omega)]; exact q3
end ClsT
