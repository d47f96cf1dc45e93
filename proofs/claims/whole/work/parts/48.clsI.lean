/-! the class: steps taken back, the first row walked, a row by lot -/
/-- the row as it is walked -/
def wkF (b : Int32) : Nat → (Nat → Int32) → List Nat
  | 0, _ => []
  | n + 1, s => bif ovV s then [] else (match findF (fun a => canV s a && arB n b (telS s a)) 0 (ctA s) with | none => [] | some a => a :: wkF b n (telS s a))
section ClsI
variable {X : mX} {d : Nat} {D : Nat → Nat × Nat} {I : Nat → Nat → Int32} {P : Nat → Nat → Option Nat} {N : Nat} {h : mH} {s s' g S r f f' F c : Nat → Int32} {J J' : Nat → Nat → Int32} {ra : Nat → Nat} {L : List Nat} {m : Int} {i j k n p q : Nat} {x v w a b z fl : Int32}
theorem fr_rf {n : Nat} : FrS n ra I I := fun _ _ _ _ _ => rfl
theorem FrS.u13 {n : Nat} (h : FrS n ra I J) : FrS n ra I (u2r J 13 f) := fun a h1 h13 h31 ha => by rw [u2r_o h13]; exact h a h1 h13 h31 ha
theorem Srch.u13 (hS : Srch D P N ra s I L J) : Srch D P N ra s I L (u2r J 13 f) := by
  obtain ⟨h1, h2, h3, h4, h5⟩ := hS
  exact ⟨h1.u13, by rw [u2r_o (by decide)]; exact h2, srR_of L (fun j _ => by rw [u2r_o (by decide), u2r_o (by decide), u2r_o (by decide), u2r_o (by decide)]; exact ⟨rfl, rfl, rfl, rfl⟩) h3, h4.u13, h5⟩
theorem C_sbk (ok : Ok s 10) (hS : Srch D P N ra s I (i :: L) J) (hL : L.length < 30) : ∃ J', Srch D P N ra s I L J' ∧ Rn X (d + 2) 90 0 [.ref 31] [] (Mh D J P N) = some ([], Mh D J' P N) := by
  obtain ⟨hr, hl, hs, hf, hch⟩ := hS
  obtain ⟨hch1, hi, hc⟩ := hch
  obtain ⟨ok2, hct⟩ := pth_ok L ok hch1
  have hi2 : i < ctA (pth L s) := by rw [hct]; exact hi
  have h9 := ok2.1.a hi2
  obtain ⟨s1, s2, s3, s4⟩ := hs.1
  have hrp : RideR (telS (pth L s) i) D J P N 1 ra := hr
  obtain ⟨⟨e1, e4, e5, e6, e7, e8, e13⟩, r2, r3, r4, r5, q, hq, hR⟩ := id hrp
  have hi3 : i < ctA (telS (pth L s) i) := by rw [cN_tel h9]; exact hi2
  obtain ⟨hP, hA⟩ := r4 i hi3
  obtain ⟨⟨h80, hp2, hpD⟩, a0, a1, a2, a3, a4, a5⟩ := id hA
  have hne1 : ra i ≠ 1 := by omega
  have hne31 : ra i ≠ 31 := by omega
  have ok3 := ok2.tel (by decide) hi2 hc
  let J1 := u2 J 31 5 (Int32.ofNat L.length)
  let J2 := u2 (u2 (u2 J1 1 6 (pth L s 4)) 1 7 (pth L s 5)) (ra i) 5 (pth L s (7 + 5 * i + 4))
  have hr1 : RideR (telS (pth L s) i) D J1 P N 1 ra := hrp.of (u2_o (by decide)) (u2_o (by decide)) (u2_o (by decide)) (u2_o (by decide)) (u2_o (by decide)) (fun j hj => by
    have := (r4 j hj).2.1.1
    exact u2_o (by omega)) (fun q hq _ j hj => by
    have := hq.1
    exact u2_o (by omega))
  have o_of : ∀ b, b ≠ 1 → b ≠ 31 → b ≠ ra i → J2 b = J b := fun b h1 h2 h3 => by
    show u2 (u2 (u2 (u2 J 31 5 _) 1 6 _) 1 7 _) (ra i) 5 _ b = J b
    rw [u2_o h3, u2_o h1, u2_o h1, u2_o h2]
  have o_1 : J2 1 = upd (upd (J 1) 6 (pth L s 4)) 7 (pth L s 5) := by
    show u2 (u2 (u2 (u2 J 31 5 _) 1 6 _) 1 7 _) (ra i) 5 _ 1 = _
    rw [u2_o hne1.symm, u2_s, u2_s, u2_o (by decide)]
  have o_a : J2 (ra i) = upd (J (ra i)) 5 (pth L s (7 + 5 * i + 4)) := by
    show u2 (u2 (u2 (u2 J 31 5 _) 1 6 _) 1 7 _) (ra i) 5 _ (ra i) = _
    rw [u2_s, u2_o hne1, u2_o hne1, u2_o hne31]
  have el : ctL (telS (pth L s) i) = ctL (pth L s) := by unfold ctL; rw [tel_o (by omega) (by omega) (by omega)]
  have ee : ctE (telS (pth L s) i) = ctE (pth L s) := by unfold ctE; rw [tel_o (by omega) (by omega) (by omega)]
  refine ⟨J2, ⟨⟨⟨?_, ?_, ?_, ?_, ?_, ?_, ?_⟩, ?_, ?_, ?_, ?_, q, hq, ?_⟩, ?_, ?_, ?_, hch1⟩, ?_⟩
  · rw [o_1, upd_o (by decide), upd_o (by decide), e1, tel_o (by omega) (by omega) (by omega)]
  · rw [o_1, upd_o (by decide), upd_o (by decide), e4, tel_o (by omega) (by omega) (by omega)]
  · rw [o_1, upd_o (by decide), upd_o (by decide), e5, end_tel h9 ok2.1.n2.2]
  · rw [o_1, upd_o (by decide), upd_s]
  · rw [o_1, upd_s]
  · rw [o_1, upd_o (by decide), upd_o (by decide), e8, tel_o (by omega) (by omega) (by omega)]
  · rw [o_1, upd_o (by decide), upd_o (by decide), e13, tel_o (by omega) (by omega) (by omega)]
  · intro k hk
    have h8 := ok2.1.n2.2
    have hh := r2 k (by rw [el]; exact hk)
    rw [o_of (1 + 2) (by decide) (by decide) (by omega), o_of (1 + 3) (by decide) (by decide) (by omega)]
    rw [tel_o (by omega) (by omega) (by omega), tel_o (by omega) (by omega) (by omega)] at hh
    exact hh
  · intro k hk
    have h6 := ok2.1.n3.2
    have hh := r3 k (by rw [ee]; exact hk)
    rw [o_of (1 + 13) (by decide) (by decide) (by omega), o_of (1 + 14) (by decide) (by decide) (by omega)]
    rw [tel_o (by omega) (by omega) (by omega), tel_o (by omega) (by omega) (by omega), tel_o (by omega) (by omega) (by omega)] at hh
    exact hh
  · intro j hj
    have hj9 := ok2.1.a hj
    have hj3 : j < ctA (telS (pth L s) i) := by rw [cN_tel h9]; exact hj
    obtain ⟨q1, q2, q3, q4, q5, q6, q7, q8⟩ := r4 j hj3
    refine ⟨q1, ?_⟩
    rw [tel_o (by omega) (by omega) (by omega)] at q2 q3 q5 q6 q7
    by_cases hji : j = i
    · subst hji
      unfold AnsR
      rw [o_a, upd_s, upd_o (by decide), upd_o (by decide), upd_o (by decide), upd_o (by decide), upd_o (by decide)]
      exact ⟨q2, q3, q4, q5, q6, q7, rfl⟩
    · rw [tel_o (by omega) (by omega) (by omega)] at q8
      unfold AnsR
      rw [o_of (ra j) (by omega) (by omega) (fun e => hji (r5 j i hj3 hi3 e))]
      exact ⟨q2, q3, q4, q5, q6, q7, q8⟩
  · intro a b ha hb
    exact r5 a b (by rw [cN_tel h9]; exact ha) (by rw [cN_tel h9]; exact hb)
  · refine (hR.ofs (tel_o (by omega) (by omega) (by omega)).symm (fun j hj => (tel_o (by omega) (by omega) (by omega)).symm)).of (fun j hj => ?_)
    have h1 := hR.1.ne hj
    have h2 := hR.1.1
    exact o_of _ (by omega) (by omega) (hR.1.nA hA.at hj)
  · show u2 (u2 (u2 (u2 J 31 5 _) 1 6 _) 1 7 _) (ra i) 5 _ 31 5 = _
    rw [u2_o hne31.symm, u2_o (by decide), u2_o (by decide), u2_s, upd_s]
  · exact srR_of L (fun j _ => by rw [o_of 32 (by decide) (by decide) (by omega), o_of 33 (by decide) (by decide) (by omega), o_of 34 (by decide) (by decide) (by omega), o_of 35 (by decide) (by decide) (by omega)]; exact ⟨rfl, rfl, rfl, rfl⟩) hs.2
  · intro b h1 h13 h31 hb
    rw [o_of b h1 (by omega) (hb i hi)]
    exact hf b h1 h13 h31 hb
  · have n1 : ¬ Int32.ofNat (L.length + 1) ≤ 0 := by rw [Int32.le_iff_toInt_le, iN_ti (by omega), z_ti]; omega
    have n2 : ¬ (30 : Int32) < Int32.ofNat (L.length + 1) := by rw [show (30 : Int32) = Int32.ofNat 30 from rfl, iN_lt (by omega) (by omega)]; omega
    have hl' : J 31 5 = Int32.ofNat (L.length + 1) := hl
    have hrS := rS32 (D := D) (P := P) (N := N) (I := J1) hL
    have j32 : J1 32 = J 32 := u2_o (by decide)
    have j33 : J1 33 = J 33 := u2_o (by decide)
    have hutl : Rn X (d + 1) 43 0 [.ref 1, .int (Int32.ofNat i), .int (pasV (pth L s) i), U_] [] (Mh D J1 P N) = some ([], Mh D J2 P N) := by
      obtain ⟨⟨-, -, -, e6, e7, -⟩, -, -, r4', -⟩ := id hr1
      have hA1 := (r4' i hi3).2
      obtain ⟨-, -, -, -, a3, -, a5⟩ := id hA1
      rw [B43_0]
      simp only [Option.bind_some, List.append_nil, List.nil_append, List.cons_append, cond_true, cond_false, if_true, if_false, ite_true, ite_false, reduceIte, IC, bI_0, bI_1, bF, Bool.not_eq_false, Bool.not_eq_true, Bool.and_true, Bool.true_and, Bool.and_false, Bool.false_and, Bool.true_or, Bool.or_true, Bool.or_false, Bool.false_or, Bool.not_true, Bool.not_false, decide_true, decide_false, not_true_eq_false, not_false_eq_true, eq_self, Bool.true_eq_false, Bool.false_eq_true, C_at ok3.1 hr1, ans_i ok3.1 hi3, B43_5, oc_some, RDc, WRc, RDa hA1.at, WRa hA1.at, u2_s, u2_o hne1, u2_o hne1.symm, upd_o (show 7 ≠ 6 by decide), upd_s, e6, e7, a3, a5, B43_43]
      rw [tel_4, tel_5, tel_t, tel_o (by omega) (by omega) (by omega), Int32.add_sub_cancel, Int32.sub_add_cancel, Int32.add_sub_cancel]
    have hutl' : Rn X (d + 1) 43 0 [.ref 1, .int (Int32.ofNat i), .int (pasV (pth L s) i), U_] [] (Mh D (u2 J 31 5 (Int32.ofNat L.length)) P N) = some ([], Mh D J2 P N) := hutl
    have k32 : u2 J 31 5 (Int32.ofNat L.length) 32 L.length = Int32.ofNat i := by rw [u2_o (by decide)]; exact s1
    have k33 : u2 J 31 5 (Int32.ofNat L.length) 33 L.length = pasV (pth L s) i := by rw [u2_o (by decide)]; exact s2
    rw [B90_0]
    simp only [RDc, Option.bind_some, List.append_nil, List.nil_append, List.cons_append, cond_true, cond_false, if_true, if_false, ite_true, ite_false, reduceIte, IC, bI_0, bI_1, bF, Bool.not_eq_false, Bool.not_eq_true, Bool.and_true, Bool.true_and, Bool.and_false, Bool.false_and, Bool.true_or, Bool.or_true, Bool.or_false, Bool.false_or, Bool.not_true, Bool.not_false, decide_true, decide_false, not_true_eq_false, not_false_eq_true, eq_self, Bool.true_eq_false, Bool.false_eq_true, hl', n1, n2, WRc, iN_p1, u2_s, upd_s, mib_N hL (show 30 ≤ 2147483648 by decide), iN_cl (show L.length < 2147483648 by omega), k32, k33, hutl', B90_51]
theorem C_bak1 (ok : Ok s 10) : ∀ L k J, Srch D P N ra s I L J → L.length + k ≤ 30 → ∃ J', Srch D P N ra s I [] J' ∧ Rn X (d + 3) 91 2 [.ref 31, .int (Int32.ofNat k)] [] (Mh D J P N) = some ([], Mh D J' P N)
  | [], k, J, hS, hk => by
    have hl := hS.2.1
    have hz : Int32.ofNat ([] : List Nat).length ≤ 0 := by decide
    refine ⟨J, hS, ?_⟩
    rw [B91_2]
    simp only [RDc, Option.bind_some, List.append_nil, List.nil_append, List.cons_append, cond_true, cond_false, if_true, if_false, ite_true, ite_false, reduceIte, IC, bI_0, bI_1, bF, Bool.not_eq_false, Bool.not_eq_true, Bool.and_true, Bool.true_and, Bool.and_false, Bool.false_and, Bool.true_or, Bool.or_true, Bool.or_false, Bool.false_or, Bool.not_true, Bool.not_false, decide_true, decide_false, not_true_eq_false, not_false_eq_true, eq_self, Bool.true_eq_false, Bool.false_eq_true, hl, hz, B91_25, ite_self]
  | a :: L, k, J, hS, hk => by
    rw [List.length_cons] at hk
    obtain ⟨J1, hS1, e1⟩ := C_sbk (X := X) (d := d) ok hS (by omega)
    obtain ⟨J2, hS2, e2⟩ := C_bak1 ok L (k + 1) J1 hS1 (by omega)
    have hl : J 31 5 = Int32.ofNat (L.length + 1) := hS.2.1
    have n1 : ¬ Int32.ofNat (L.length + 1) ≤ 0 := by rw [Int32.le_iff_toInt_le, iN_ti (by omega), z_ti]; omega
    refine ⟨J2, hS2, ?_⟩
    rw [B91_2, if_neg (le_n (l := 30) (n := 30) rfl (by omega) (by omega) (by omega))]
    simp only [RDc, Option.bind_some, List.append_nil, List.nil_append, List.cons_append, cond_true, cond_false, if_true, if_false, ite_true, ite_false, reduceIte, IC, bI_0, bI_1, bF, Bool.not_eq_false, Bool.not_eq_true, Bool.and_true, Bool.true_and, Bool.and_false, Bool.false_and, Bool.true_or, Bool.or_true, Bool.or_false, Bool.false_or, Bool.not_true, Bool.not_false, decide_true, decide_false, not_true_eq_false, not_false_eq_true, eq_self, Bool.true_eq_false, Bool.false_eq_true, hl, n1, e1, B91_19, IX]
    exact e2
theorem C_bak (ok : Ok s 10) (hS : Srch D P N ra s I L J) (hL : L.length ≤ 30) : ∃ J', Srch D P N ra s I [] J' ∧ Rn X (d + 3) 91 0 [.ref 31, U_] [] (Mh D J P N) = some ([], Mh D J' P N) := by
  rw [B91_0]
  exact C_bak1 ok L 0 J hS (by omega)
theorem C_isS (hl : J 31 5 = Int32.ofNat n) (hn : n ≤ 30) (hk : k < 2147483648) : Rn X d 92 0 [.ref 31, .int (Int32.ofNat k)] [] (Mh D J P N) = some ([.int (bI (decide (k < n)))], Mh D J P N) := by
  rw [B92_0, if_neg (iN_neg hk)]
  simp only [RDc, Option.bind_some, List.append_nil, List.nil_append, List.cons_append, cond_true, cond_false, if_true, if_false, ite_true, ite_false, reduceIte, IC, bI_0, bI_1, bF, Bool.not_eq_false, Bool.not_eq_true, Bool.and_true, Bool.true_and, Bool.and_false, Bool.false_and, Bool.true_or, Bool.or_true, Bool.or_false, Bool.false_or, Bool.not_true, Bool.not_false, decide_true, decide_false, not_true_eq_false, not_false_eq_true, eq_self, Bool.true_eq_false, Bool.false_eq_true, hl, B92_22, B92_23]
  by_cases h1 : k < n
  · rw [if_neg (by rw [iN_le (by omega) hk]; omega), if_neg (le_n (l := 30) (n := 30) rfl (by omega) hk (by omega)), decide_eq_true h1]
    rfl
  · rw [if_pos (by rw [iN_le (by omega) hk]; omega), decide_eq_false h1]
    rfl
theorem C_tat (hS : Srch D P N ra s I L J) (hn : L.length ≤ 30) (hk : k < 2147483648) : Rn X (d + 1) 93 0 [.ref 31, .int (Int32.ofNat k)] [] (Mh D J P N) = some ([.int (if k < L.length then Int32.ofNat (L.reverse.getD k 0) else -3)], Mh D J P N) := by
  have hl := hS.2.1
  rw [B93_0]
  simp only [Option.bind_some, List.append_nil, List.nil_append, List.cons_append, cond_true, cond_false, if_true, if_false, ite_true, ite_false, reduceIte, IC, bI_0, bI_1, bF, Bool.not_eq_false, Bool.not_eq_true, Bool.and_true, Bool.true_and, Bool.and_false, Bool.false_and, Bool.true_or, Bool.or_true, Bool.or_false, Bool.false_or, Bool.not_true, Bool.not_false, decide_true, decide_false, not_true_eq_false, not_false_eq_true, eq_self, Bool.true_eq_false, Bool.false_eq_true, C_isS hl hn hk, B93_5, B93_19]
  by_cases h1 : k < L.length
  · obtain ⟨T, a, U, e1, e2, e3, -⟩ := srR_at L hS.2.2.1 k h1
    have hg : L.reverse.getD k 0 = a := by
      rw [e1, List.reverse_append, List.reverse_cons, List.append_assoc, List.getD_eq_getElem?_getD, List.getElem?_append_right (by simp [e2])]
      simp [e2]
    simp only [h1, Option.bind_some, List.append_nil, List.nil_append, List.cons_append, cond_true, cond_false, if_true, if_false, ite_true, ite_false, reduceIte, IC, bI_0, bI_1, bF, Bool.not_eq_false, Bool.not_eq_true, Bool.and_true, Bool.true_and, Bool.and_false, Bool.false_and, Bool.true_or, Bool.or_true, Bool.or_false, Bool.false_or, Bool.not_true, Bool.not_false, decide_true, decide_false, not_true_eq_false, not_false_eq_true, eq_self, Bool.true_eq_false, Bool.false_eq_true, RDc, mib_N (show k < 30 by omega) (show 30 ≤ 2147483648 by decide), iN_cl hk, e3]
    rw [hg]
  · simp only [h1, Option.bind_some, List.append_nil, List.nil_append, List.cons_append, cond_true, cond_false, if_true, if_false, ite_true, ite_false, reduceIte, IC, bI_0, bI_1, bF, Bool.not_eq_false, Bool.not_eq_true, Bool.and_true, Bool.true_and, Bool.and_false, Bool.false_and, Bool.true_or, Bool.or_true, Bool.or_false, Bool.false_or, Bool.not_true, Bool.not_false, decide_true, decide_false, not_true_eq_false, not_false_eq_true, eq_self, Bool.true_eq_false, Bool.false_eq_true]
theorem rev_pth : ∀ (M : List Nat) (L : List Nat) (s : Nat → Int32), pth (M.reverse ++ L) s = pth M.reverse (pth L s) := by
  intro M
  have key : ∀ (K L : List Nat) (s : Nat → Int32), pth (K ++ L) s = pth K (pth L s) := by
    intro K
    induction K with
    | nil => intro L s; rfl
    | cons a K ih => intro L s; show telS (pth (K ++ L) s) a = telS (pth K (pth L s)) a; rw [ih]
  intro L s; exact key _ _ _
theorem C_wlk1 {rest fl0 : Int32} (n : Nat) (hn : n ≤ 4) (hb : rest = Int32.ofNat n) (ok : Ok s 10) (hL : L.length < 30) : ∀ k i J, Srch D P N ra s I L J → i + k = ctA s →
    ∃ J' v, Srch D P N ra s I (match findF (fun a => canV (pth L s) a && arB n b (telS (pth L s) a)) i k with | none => L | some a => a :: L) J' ∧
      Rn X (d + n + 8) 87 24 [.ref 31, .int fl0, .int b, .int rest, .int 0, .int (Int32.ofNat i)] [] (Mh D J P N)
      = Rn X (d + n + 8) 87 76 [.ref 31, .int fl0, .int b, .int rest, .int (bI (findF (fun a => canV (pth L s) a && arB n b (telS (pth L s) a)) i k).isSome), .int v] [] (Mh D J' P N)
  | 0, i, J, hS, hk => by
    have h0 := ok.1.n0
    obtain ⟨ok2, hct⟩ := pth_ok L ok hS.2.2.2.2
    have h0' := ok2.1.n0
    refine ⟨J, Int32.ofNat i, hS, ?_⟩
    rw [B87_24]
    simp only [RDc, Option.bind_some, List.append_nil, List.nil_append, List.cons_append, cond_true, cond_false, if_true, if_false, ite_true, ite_false, reduceIte, IC, bI_0, bI_1, bF, Bool.not_eq_false, Bool.not_eq_true, Bool.and_true, Bool.true_and, Bool.and_false, Bool.false_and, Bool.true_or, Bool.or_true, Bool.or_false, Bool.false_or, Bool.not_true, Bool.not_false, decide_true, decide_false, not_true_eq_false, not_false_eq_true, eq_self, Bool.true_eq_false, Bool.false_eq_true, hS.1.1.1, h0'.1, hct]
    rw [if_pos (by rw [iN_le (by omega) (by omega)]; omega)]
    rfl
  | k + 1, i, J, hS, hk => by
    have h0 := ok.1.n0
    obtain ⟨ok2, hct⟩ := pth_ok L ok hS.2.2.2.2
    have h0' := ok2.1.n0
    have hi : i < ctA s := by omega
    rw [B87_24]
    simp only [RDc, Option.bind_some, List.append_nil, List.nil_append, List.cons_append, cond_true, cond_false, if_true, if_false, ite_true, ite_false, reduceIte, IC, bI_0, bI_1, bF, Bool.not_eq_false, Bool.not_eq_true, Bool.and_true, Bool.true_and, Bool.and_false, Bool.false_and, Bool.true_or, Bool.or_true, Bool.or_false, Bool.false_or, Bool.not_true, Bool.not_false, decide_true, decide_false, not_true_eq_false, not_false_eq_true, eq_self, Bool.true_eq_false, Bool.false_eq_true, hS.1.1.1, h0'.1, hct]
    rw [if_neg (by rw [iN_le (by omega) (by omega)]; omega)]
    unfold findF
    cases hc : canV (pth L s) i with
    | false =>
      have e := C_stpN (X := X) (d := d + n) (a := Int32.ofNat i) ok hS hL (Or.inr ⟨i, hi, rfl, hc⟩)
      simp only [e, Option.bind_some, List.append_nil, List.nil_append, List.cons_append, cond_true, cond_false, if_true, if_false, ite_true, ite_false, reduceIte, IC, bI_0, bI_1, bF, Bool.not_eq_false, Bool.not_eq_true, Bool.and_true, Bool.true_and, Bool.and_false, Bool.false_and, Bool.true_or, Bool.or_true, Bool.or_false, Bool.false_or, Bool.not_true, Bool.not_false, decide_true, decide_false, not_true_eq_false, not_false_eq_true, eq_self, Bool.true_eq_false, Bool.false_eq_true, B87_47, B87_70, IX]
      exact C_wlk1 n hn hb ok hL k (i + 1) J hS (by omega)
    | true =>
      obtain ⟨J1, hS1, e1⟩ := C_step (X := X) (d := d + n) ok hS hL hi hc
      have ok3 := ok2.tel (by decide) (by rw [hct]; exact hi) hc
      obtain ⟨f, e2⟩ := C_arr (X := X) (d := d) (b := b) (m := 10) (by decide) n hn (telS (pth L s) i) J1 ok3 hS1.1
      have h10 : ¬ (1 : Int32) = 0 := by decide
      rw [hb]
      simp only [e1, Option.bind_some, List.append_nil, List.nil_append, List.cons_append, cond_true, cond_false, if_true, if_false, ite_true, ite_false, reduceIte, IC, bI_0, bI_1, bF, Bool.not_eq_false, Bool.not_eq_true, Bool.and_true, Bool.true_and, Bool.and_false, Bool.false_and, Bool.true_or, Bool.or_true, Bool.or_false, Bool.false_or, Bool.not_true, Bool.not_false, decide_true, decide_false, not_true_eq_false, not_false_eq_true, eq_self, Bool.true_eq_false, Bool.false_eq_true, B87_47, h10, RDc, e2, B87_59]
      cases ha : arB n b (telS (pth L s) i) with
      | true =>
        refine ⟨u2r J1 13 f, Int32.ofNat (i + 1), hS1.u13, ?_⟩
        simp only [Option.bind_some, List.append_nil, List.nil_append, List.cons_append, cond_true, cond_false, if_true, if_false, ite_true, ite_false, reduceIte, IC, bI_0, bI_1, bF, Bool.not_eq_false, Bool.not_eq_true, Bool.and_true, Bool.true_and, Bool.and_false, Bool.false_and, Bool.true_or, Bool.or_true, Bool.or_false, Bool.false_or, Bool.not_true, Bool.not_false, decide_true, decide_false, not_true_eq_false, not_false_eq_true, eq_self, Bool.true_eq_false, Bool.false_eq_true, B87_70, IX]
        rw [B87_24]
        simp only [RDc, Option.bind_some, List.append_nil, List.nil_append, List.cons_append, cond_true, cond_false, if_true, if_false, ite_true, ite_false, reduceIte, IC, bI_0, bI_1, bF, Bool.not_eq_false, Bool.not_eq_true, Bool.and_true, Bool.true_and, Bool.and_false, Bool.false_and, Bool.true_or, Bool.or_true, Bool.or_false, Bool.false_or, Bool.not_true, Bool.not_false, decide_true, decide_false, not_true_eq_false, not_false_eq_true, eq_self, Bool.true_eq_false, Bool.false_eq_true, ite_self]
        rfl
      | false =>
        obtain ⟨J2, hS2, e3⟩ := C_sbk (X := X) (d := d + n + 5) ok (hS1.u13 (f := f)) hL
        simp only [Option.bind_some, List.append_nil, List.nil_append, List.cons_append, cond_true, cond_false, if_true, if_false, ite_true, ite_false, reduceIte, IC, bI_0, bI_1, bF, Bool.not_eq_false, Bool.not_eq_true, Bool.and_true, Bool.true_and, Bool.and_false, Bool.false_and, Bool.true_or, Bool.or_true, Bool.or_false, Bool.false_or, Bool.not_true, Bool.not_false, decide_true, decide_false, not_true_eq_false, not_false_eq_true, eq_self, Bool.true_eq_false, Bool.false_eq_true, e3, B87_70, IX, bI_f]
        rw [← hb]
        exact C_wlk1 n hn hb ok hL k (i + 1) J2 hS2 (by omega)
theorem x_m1 : x + (-1) = x - 1 := by rw [Int32.sub_eq_add_neg]
theorem C_wlk (ok : Ok s 10) {fl0 : Int32} : ∀ n, n ≤ 4 → ∀ L J l4 l5, Srch D P N ra s I L J → L.length + n ≤ 30 → arB n b (pth L s) = true → ∃ J', Srch D P N ra s I ((wkF b n (pth L s)).reverse ++ L) J' ∧
    Rn X (d + 12) 87 4 [.ref 31, .int fl0, .int b, .int (Int32.ofNat n - 1), l4, l5] [] (Mh D J P N) = some ([], Mh D J' P N)
  | 0, _, L, J, l4, l5, hS, hL, _ => by
    have h1 : Int32.ofNat 0 - 1 < 0 := by decide
    refine ⟨J, hS, ?_⟩
    rw [B87_4, if_pos h1, B87_82]
  | n + 1, hn, L, J, l4, l5, hS, hL, ha => by
    have h1 : ¬ Int32.ofNat n < 0 := iN_neg (by omega)
    have eo := C_over (X := X) (d := d + 11) hS.1
    have hw : wkF b (n + 1) (pth L s) = (bif ovV (pth L s) then [] else (match findF (fun a => canV (pth L s) a && arB n b (telS (pth L s) a)) 0 (ctA (pth L s)) with | none => [] | some a => a :: wkF b n (telS (pth L s) a))) := rfl
    rw [B87_4, iN_p1, if_neg h1]
    simp only [RDc, Option.bind_some, List.append_nil, List.nil_append, List.cons_append, cond_true, cond_false, if_true, if_false, ite_true, ite_false, reduceIte, IC, bI_0, bI_1, bF, Bool.not_eq_false, Bool.not_eq_true, Bool.and_true, Bool.true_and, Bool.and_false, Bool.false_and, Bool.true_or, Bool.or_true, Bool.or_false, Bool.false_or, Bool.not_true, Bool.not_false, decide_true, decide_false, not_true_eq_false, not_false_eq_true, eq_self, Bool.true_eq_false, Bool.false_eq_true, eo, B87_15]
    cases hov : ovV (pth L s) with
    | true =>
      rw [hov] at hw
      refine ⟨J, by rw [hw]; exact hS, ?_⟩
      simp only [Option.bind_some, List.append_nil, List.nil_append, List.cons_append, cond_true, cond_false, if_true, if_false, ite_true, ite_false, reduceIte, IC, bI_0, bI_1, bF, Bool.not_eq_false, Bool.not_eq_true, Bool.and_true, Bool.true_and, Bool.and_false, Bool.false_and, Bool.true_or, Bool.or_true, Bool.or_false, Bool.false_or, Bool.not_true, Bool.not_false, decide_true, decide_false, not_true_eq_false, not_false_eq_true, eq_self, Bool.true_eq_false, Bool.false_eq_true, B87_82]
    | false =>
      obtain ⟨ok2, hct⟩ := pth_ok L ok hS.2.2.2.2
      obtain ⟨J1, v, hS1, e1⟩ := C_wlk1 (X := X) (d := d + 4 - n) (fl0 := fl0) (b := b) (rest := Int32.ofNat n) n (by omega) rfl ok (by omega) (ctA s) 0 J hS (by omega)
      rw [show d + 4 - n + n + 8 = d + 12 by omega] at e1
      have ha2 := ha
      unfold arB at ha2
      rw [hov, Bool.false_or, Bool.and_eq_true, hct] at ha2
      rw [hov, hct] at hw
      cases hf : findF (fun a => canV (pth L s) a && arB n b (telS (pth L s) a)) 0 (ctA s) with
      | none => rw [hf] at ha2; cases ha2.2
      | some a =>
        rw [hf] at hS1 e1 hw
        have hfa := (findF_lt _ _ _ hf).2.2
        simp only [Bool.and_eq_true] at hfa
        obtain ⟨J2, hS2, e2⟩ := C_wlk ok (fl0 := fl0) n (by omega) (a :: L) J1 (.int (bI true)) (.int v) hS1 (by rw [List.length_cons]; omega) hfa.2
        refine ⟨J2, ?_, ?_⟩
        · rw [hw]
          show Srch D P N ra s I ((a :: wkF b n (telS (pth L s) a)).reverse ++ L) J2
          rw [List.reverse_cons, List.append_assoc]
          exact hS2
        · have e1' : Rn X (d + 12) 87 24 [.ref 31, .int fl0, .int b, .int (Int32.ofNat n), .int 0, .int 0] [] (Mh D J P N) = Rn X (d + 12) 87 76 [.ref 31, .int fl0, .int b, .int (Int32.ofNat n), .int (bI true), .int v] [] (Mh D J1 P N) := e1
          simp only [Option.bind_some, List.append_nil, List.nil_append, List.cons_append, cond_true, cond_false, if_true, if_false, ite_true, ite_false, reduceIte, IC, bI_0, bI_1, bF, Bool.not_eq_false, Bool.not_eq_true, Bool.and_true, Bool.true_and, Bool.and_false, Bool.false_and, Bool.true_or, Bool.or_true, Bool.or_false, Bool.false_or, Bool.not_true, Bool.not_false, decide_true, decide_false, not_true_eq_false, not_false_eq_true, eq_self, Bool.true_eq_false, Bool.false_eq_true]
          rw [show d + 11 + 1 = d + 12 by omega, e1', B87_76, x_m1]
          exact e2
theorem C_walk (ok : Ok s 10) {n0 : Int32} (hn0 : n0 = Int32.ofNat n) (hn : n ≤ 4) (hS : Srch D P N ra s I [] J) (ha : arB n b s = true) : ∃ J', Srch D P N ra s I (wkF b n s).reverse J' ∧
    Rn X (d + 12) 87 0 [.ref 31, .int n0, .int b, U_, U_, U_] [] (Mh D J P N) = some ([], Mh D J' P N) := by
  obtain ⟨J', h1, h2⟩ := C_wlk (X := X) (d := d) (b := b) ok (fl0 := n0) n hn [] J U_ U_ hS (by simp; omega) ha
  rw [List.append_nil] at h1
  refine ⟨J', h1, ?_⟩
  rw [B87_0]
  rw [hn0] at h2 ⊢
  exact h2
theorem wk_len : ∀ n s, (wkF b n s).length ≤ n
  | 0, _ => Nat.le_refl _
  | n + 1, s => by
    unfold wkF
    cases ovV s with
    | true => exact Nat.zero_le _
    | false =>
      show (match findF (fun a => canV s a && arB n b (telS s a)) 0 (ctA s) with | none => [] | some a => a :: wkF b n (telS s a)).length ≤ n + 1
      cases findF (fun a => canV s a && arB n b (telS s a)) 0 (ctA s) with
      | none => exact Nat.zero_le _
      | some a => exact Nat.succ_le_succ (wk_len n _)
theorem wk_fst : ∀ n s, Ok s 10 → wkF 0 n s = fstR n s
  | 0, _, _ => rfl
  | n + 1, s, ok => by
    unfold wkF fstR
    cases ovV s with
    | true => rfl
    | false =>
      show (match findF (fun a => canV s a && arB n 0 (telS s a)) 0 (ctA s) with | none => [] | some a => a :: wkF 0 n (telS s a)) = (match findF (fun a => canV s a && arrF n (telS s a)) 0 (ctA s) with | none => [] | some a => a :: fstR n (telS s a))
      rw [find_of (ctA s) 0 (G := fun a => canV s a && arrF n (telS s a)) (fun a _ h2 => by
        show (canV s a && arB n 0 (telS s a)) = (canV s a && arrF n (telS s a))
        cases hc : canV s a with
        | false => rfl
        | true => rw [ar_arr (m := 10) (by decide) n _ (ok.tel (by decide) (by omega) hc)])]
      cases hf : findF (fun a => canV s a && arrF n (telS s a)) 0 (ctA s) with
      | none => rfl
      | some a =>
        have h1 := findF_lt _ _ _ hf
        have h2 := h1.2.2
        simp only [Bool.and_eq_true] at h2
        show a :: wkF 0 n (telS s a) = a :: fstR n (telS s a)
        rw [wk_fst n _ (ok.tel (by decide) (by omega) h2.1)]
theorem srch0 (hr : RideR s D I P N 1 ra) (hl : I 31 5 = 0) : Srch D P N ra s I [] I := ⟨hr, hl, trivial, fr_rf, trivial⟩
/-- at most so much is left on any way -/
theorem kin_step (ok : Ok s 10) (hov : ovV s = false) (ha : i < ctA s) (hc : canV s i = true) : (kinF n (telS s i)).toInt ≤ (kinF (n + 1) s).toInt := by
  have hk : kinF (n + 1) s = foldA (fun a acc => bif canV s a then imx acc (kinF n (telS s a)) else acc) 0 (ctA s) (-1) := by
    show (bif ovV s then s 5 else _) = _
    rw [hov]; rfl
  have hkb := kin_b (m := 10) (by decide) n (telS s i) (ok.tel (by decide) ha hc)
  by_cases h0 : 0 ≤ (kinF n (telS s i)).toInt
  · rw [hk]
    exact (fold_le _ h0 (ctA s) 0 (-1)).mpr (Or.inr ⟨i, by omega, by omega, hc, Int.le_refl _⟩)
  · have h1 := (kin_b (m := 10) (by decide) (n + 1) s ok).1
    omega
theorem kst_wk (ok : Ok s 10) (hb : 0 ≤ b.toInt) (hov : ovV s = false) (hk : kinF (n + 1) s = b) : kstF n b s = findF (fun a => canV s a && arB n b (telS s a)) 0 (ctA s) := by
  unfold kstF
  rw [hov]
  refine find_of (ctA s) 0 (fun a _ h2 => ?_)
  show (canV s a && decide (kinF n (telS s a) = b)) = (canV s a && arB n b (telS s a))
  cases hc : canV s a with
  | false => rfl
  | true =>
    have ha : a < ctA s := by omega
    have h1 := kin_step (n := n) ok hov ha hc
    rw [hk] at h1
    have h3 := ar_kin (m := 10) (by decide) b hb n (telS s a) (ok.tel (by decide) ha hc)
    rw [Bool.true_and, Bool.true_and]
    by_cases he : kinF n (telS s a) = b
    · rw [decide_eq_true he, h3.mpr (by rw [he]; exact Int.le_refl _)]
    · rw [decide_eq_false he]
      cases hr : arB n b (telS s a) with
      | false => rfl
      | true =>
        exfalso
        have := h3.mp hr
        exact he (Int32.toInt_inj.mp (by omega))
theorem kwk_wk : ∀ n s, Ok s 10 → 0 ≤ b.toInt → kinF n s = b → ∀ i, kwkF b i n s = (wkF b n s)[i]?
  | 0, s, _, _, _, i => by
    show kwkF b i 0 s = ([] : List Nat)[i]?
    cases i <;> rfl
  | n + 1, s, ok, hb, hk, i => by
    have hw : wkF b (n + 1) s = (bif ovV s then [] else (match findF (fun a => canV s a && arB n b (telS s a)) 0 (ctA s) with | none => [] | some a => a :: wkF b n (telS s a))) := rfl
    cases hov : ovV s with
    | true =>
      rw [hov] at hw
      rw [hw]
      have hn : kstF n b s = none := by unfold kstF; rw [hov]; rfl
      cases i with
      | zero => exact hn
      | succ i => show (kstF n b s).bind _ = _; rw [hn]; rfl
    | false =>
      have hks := kst_wk (n := n) ok hb hov hk
      rw [hov, ← hks] at hw
      rw [hw]
      show kwkF b i (n + 1) s = (match kstF n b s with | none => [] | some a => a :: wkF b n (telS s a))[i]?
      cases hf : kstF n b s with
      | none =>
        cases i with
        | zero => exact hf
        | succ i => show (kstF n b s).bind _ = _; rw [hf]; rfl
      | some a =>
        obtain ⟨h1, h2, h3, h4⟩ := kst_can hf
        cases i with
        | zero => exact hf
        | succ i =>
          show (kstF n b s).bind _ = _
          rw [hf]
          exact kwk_wk n (telS s a) (ok.tel (by decide) h2 h3) hb h4 i
end ClsI
