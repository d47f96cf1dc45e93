/-! the class: steps taken back, the first row walked, a row by lot -/
/-- the row as it is walked -/
def wkF (b : Int32) : Nat → (Nat → Int32) → List Nat
  | 0, _ => []
  | n + 1, s => bif ovV s then [] else (match findF (fun a => canV s a && arB n b (telS s a)) 0 (ctA s) with | none => [] | some a => a :: wkF b n (telS s a))
section ClsI
variable {X : mX} {d : Nat} {D : Nat → Nat × Nat} {I : Nat → Nat → Int32} {P : Nat → Nat → Option Nat} {N : Nat} {h : mH} {s s' g S r f f' F c : Nat → Int32} {J J' : Nat → Nat → Int32} {ra : Nat → Nat} {L : List Nat} {m : Int} {i j k n p q : Nat} {x v w a b z fl : Int32}
theorem fr_rf {n : Nat} : FrS n ra I I := fun _ _ _ _ _ => rfl
theorem FrS.u13 {n : Nat} (h : FrS n ra I J) : FrS n ra I (u2r J 13 f) := fun a h1 h13 h31 ha => by rw [u2r_o h13]; exact h a h1 h13 h31 ha
theorem Srch.u13 (hS : Srch D P N ra s I L J) : Srch D P N ra s I L (u2r J 13 f) := by
  obtain ⟨h1, h2, h3, h4, h5⟩ := hS
  exact ⟨h1.u13, by rw [u2r_o (by decide)]; exact h2, srR_of L (fun j _ => by rw [u2r_o (by decide), u2r_o (by decide), u2r_o (by decide), u2r_o (by decide)]; exact ⟨rfl, rfl, rfl, rfl⟩) h3, h4.u13, h5⟩
theorem C_sbk (ok : Ok s 10) (hS : Srch D P N ra s I (i :: L) J) (hL : L.length < 30) : ∃ J', Srch D P N ra s I L J' ∧ Rn X (d + 2) 90 0 [.ref 31] [] (Mh D J P N) = some ([], Mh D J' P N) := by
  obtain ⟨hr, hl, hs, hf, hch⟩ := hS
  obtain ⟨hch1, hi, hc⟩ := hch
  obtain ⟨ok2, hct⟩ := pth_ok L ok hch1
  have hi2 : i < ctA (pth L s) := by rw [hct]; exact hi
  have h9 := ok2.1.a hi2
  obtain ⟨s1, s2, s3, s4⟩ := hs.1
  have hrp : RideR (telS (pth L s) i) D J P N 1 ra := hr
  obtain ⟨⟨e1, e4, e5, e6, e7, e8, e13⟩, r2, r3, r4, r5, q, hq, hR⟩ := id hrp
  have hi3 : i < ctA (telS (pth L s) i) := by rw [cN_tel h9]; exact hi2
  obtain ⟨hP, hA⟩ := r4 i hi3
  obtain ⟨⟨h80, hp2, hpD⟩, a0, a1, a2, a3, a4, a5⟩ := id hA
  have hne1 : ra i ≠ 1 := by omega
  have hne31 : ra i ≠ 31 := by omega
  have ok3 := ok2.tel (by decide) hi2 hc
  let J1 := u2 J 31 5 (Int32.ofNat L.length)
  let J2 := u2 (u2 (u2 J1 1 6 (pth L s 4)) 1 7 (pth L s 5)) (ra i) 5 (pth L s (7 + 5 * i + 4))
  have hr1 : RideR (telS (pth L s) i) D J1 P N 1 ra := hrp.of (u2_o (by decide)) (u2_o (by decide)) (u2_o (by decide)) (u2_o (by decide)) (u2_o (by decide)) (fun j hj => by
    have := (r4 j hj).2.1.1
    exact u2_o (by omega)) (fun q hq _ j hj => by
    have := hq.1
    exact u2_o (by omega))
  have o_of : ∀ b, b ≠ 1 → b ≠ 31 → b ≠ ra i → J2 b = J b := fun b h1 h2 h3 => by
    show u2 (u2 (u2 (u2 J 31 5 _) 1 6 _) 1 7 _) (ra i) 5 _ b = J b
    rw [u2_o h3, u2_o h1, u2_o h1, u2_o h2]
  have o_1 : J2 1 = upd (upd (J 1) 6 (pth L s 4)) 7 (pth L s 5) := by
    show u2 (u2 (u2 (u2 J 31 5 _) 1 6 _) 1 7 _) (ra i) 5 _ 1 = _
    rw [u2_o hne1.symm, u2_s, u2_s, u2_o (by decide)]
  have o_a : J2 (ra i) = upd (J (ra i)) 5 (pth L s (7 + 5 * i + 4)) := by
    show u2 (u2 (u2 (u2 J 31 5 _) 1 6 _) 1 7 _) (ra i) 5 _ (ra i) = _
    rw [u2_s, u2_o hne1, u2_o hne1, u2_o hne31]
  have el : ctL (telS (pth L s) i) = ctL (pth L s) := by unfold ctL; rw [tel_o (by omega) (by omega) (by omega)]
  have ee : ctE (telS (pth L s) i) = ctE (pth L s) := by unfold ctE; rw [tel_o (by omega) (by omega) (by omega)]
  refine ⟨J2, ⟨⟨⟨?_, ?_, ?_, ?_, ?_, ?_, ?_⟩, ?_, ?_, ?_, ?_, q, hq, ?_⟩, ?_, ?_, ?_, hch1⟩, ?_⟩
  · rw [o_1, upd_o (by decide), upd_o (by decide), e1, tel_o (by omega) (by omega) (by omega)]
  · rw [o_1, upd_o (by decide), upd_o (by decide), e4, tel_o (by omega) (by omega) (by omega)]
  · rw [o_1, upd_o (by decide), upd_o (by decide), e5, end_tel h9 ok2.1.n2.2]
  · rw [o_1, upd_o (by decide), upd_s]
  · rw [o_1, upd_s]
  · rw [o_1, upd_o (by decide), upd_o (by decide), e8, tel_o (by omega) (by omega) (by omega)]
  · rw [o_1, upd_o (by decide), upd_o (by decide), e13, tel_o (by omega) (by omega) (by omega)]
  · intro k hk
    have h8 := ok2.1.n2.2
    have hh := r2 k (by rw [el]; exact hk)
    rw [o_of (1 + 2) (by decide) (by decide) (by omega), o_of (1 + 3) (by decide) (by decide) (by omega)]
    rw [tel_o (by omega) (by omega) (by omega), tel_o (by omega) (by omega) (by omega)] at hh
    exact hh
  · intro k hk
    have h6 := ok2.1.n3.2
    have hh := r3 k (by rw [ee]; exact hk)
    rw [o_of (1 + 13) (by decide) (by decide) (by omega), o_of (1 + 14) (by decide) (by decide) (by omega)]
    rw [tel_o (by omega) (by omega) (by omega), tel_o (by omega) (by omega) (by omega), tel_o (by omega) (by omega) (by omega)] at hh
    exact hh
  · intro j hj
    have hj9 := ok2.1.a hj
    have hj3 : j < ctA (telS (pth L s) i) := by rw [cN_tel h9]; exact hj
    obtain ⟨q1, q2, q3, q4, q5, q6, q7, q8⟩ := r4 j hj3
    refine ⟨q1, ?_⟩
    rw [tel_o (by omega) (by omega) (by omega)] at q2 q3 q5 q6 q7
    by_cases hji : j = i
    · subst hji
      unfold AnsR
      rw [o_a, upd_s, upd_o (by decide), upd_o (by decide), upd_o (by decide), upd_o (by decide), upd_o (by decide)]
      exact ⟨q2, q3, q4, q5, q6, q7, rfl⟩
    · rw [tel_o (by omega) (by omega) (by omega)] at q8
      unfold AnsR
      rw [o_of (ra j) (by omega) (by omega) (fun e => hji (r5 j i hj3 hi3 e))]
      exact ⟨q2, q3, q4, q5, q6, q7, q8⟩
  · intro a b ha hb
    exact r5 a b (by rw [cN_tel h9]; exact ha) (by rw [cN_tel h9]; exact hb)
  · refine (hR.ofs (tel_o (by omega) (by omega) (by omega)).symm (fun j hj => (tel_o (by omega) (by omega) (by omega)).symm)).of (fun j hj => ?_)
    have h1 := hR.1.ne hj
    have h2 := hR.1.1
    exact o_of _ (by omega) (by omega) (hR.1.nA hA.at hj)
  · show u2 (u2 (u2 (u2 J 31 5 _) 1 6 _) 1 7 _) (ra i) 5 _ 31 5 = _
    rw [u2_o hne31.symm, u2_o (by decide), u2_o (by decide), u2_s, upd_s]
  · exact srR_of L (fun j _ => by rw [o_of 32 (by decide) (by decide) (by omega), o_of 33 (by decide) (by decide) (by omega), o_of 34 (by decide) (by decide) (by omega), o_of 35 (by decide) (by decide) (by omega)]; exact ⟨rfl, rfl, rfl, rfl⟩) hs.2
  · intro b h1 h13 h31 hb
    rw [o_of b h1 (by omega) (hb i hi)]
    exact hf b h1 h13 h31 hb
  · have n1 : ¬ Int32.ofNat (L.length + 1) ≤ 0 := by rw [Int32.le_iff_toInt_le, iN_ti (by omega), z_ti]; omega
    have n2 : ¬ (30 : Int32) < Int32.ofNat (L.length + 1) := by rw [show (30 : Int32) = Int32.ofNat 30 from rfl, iN_lt (by omega) (by omega)]; omega
    have hl' : J 31 5 = Int32.ofNat (L.length + 1) := hl
    have hrS := rS32 (D := D) (P := P) (N := N) (I := J1) hL
    have j32 : J1 32 = J 32 := u2_o (by decide)
    have j33 : J1 33 = J 33 := u2_o (by decide)
    have hutl : Rn X (d + 1) 43 0 [.ref 1, .int (Int32.ofNat i), .int (pasV (pth L s) i), U_] [] (Mh D J1 P N) = some ([], Mh D J2 P N) := by
      obtain ⟨⟨-, -, -, e6, e7, -⟩, -, -, r4', -⟩ := id hr1
      have hA1 := (r4' i hi3).2
      obtain ⟨-, -, -, -, a3, -, a5⟩ := id hA1
      rw [B43_0]
      simp only [Option.bind_some, List.append_nil, List.nil_append, List.cons_append, cond_true, cond_false, if_true, if_false, ite_true, ite_false, reduceIte, IC, bI_0, bI_1, bF, Bool.not_eq_false, Bool.not_eq_true, Bool.and_true, Bool.true_and, Bool.and_false, Bool.false_and, Bool.true_or, Bool.or_true, Bool.or_false, Bool.false_or, Bool.not_true, Bool.not_false, decide_true, decide_false, not_true_eq_false, not_false_eq_true, eq_self, Bool.true_eq_false, Bool.false_eq_true, C_at ok3.1 hr1, ans_i ok3.1 hi3, B43_5, oc_some, RDc, WRc, RDa hA1.at, WRa hA1.at, u2_s, u2_o hne1, u2_o hne1.symm, upd_o (show 7 ≠ 6 by decide), upd_s, e6, e7, a3, a5, B43_43]
      rw [tel_4, tel_5, tel_t, tel_o (by omega) (by omega) (by omega), Int32.add_sub_cancel, Int32.sub_add_cancel, Int32.add_sub_cancel]
    rw [B90_0]
    simp only [RDc, Option.bind_some, List.append_nil, List.nil_append, List.cons_append, cond_true, cond_false, if_true, if_false, ite_true, ite_false, reduceIte, IC, bI_0, bI_1, bF, Bool.not_eq_false, Bool.not_eq_true, Bool.and_true, Bool.true_and, Bool.and_false, Bool.false_and, Bool.true_or, Bool.or_true, Bool.or_false, Bool.false_or, Bool.not_true, Bool.not_false, decide_true, decide_false, not_true_eq_false, not_false_eq_true, eq_self, Bool.true_eq_false, Bool.false_eq_true, hl', n1, n2, WRc, iN_p1]
    have j315 : J1 31 5 = Int32.ofNat L.length := by show u2 J 31 5 _ 31 5 = _; rw [u2_s, upd_s]
    show ((some (u2 J 31 5 (Int32.ofNat L.length) 31 5)).bind fun x7 => _) = _
    sorry
end ClsI
