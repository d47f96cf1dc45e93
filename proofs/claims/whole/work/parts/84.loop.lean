/-! the law's loop (by gen84.py) -/
def Gl (N w : Nat) (x : Option mR) : Prop := ∃ D' I' P' N', x = some ([.int 1], Mh D' I' P' N') ∧ KzR D' N' ∧ N ≤ N' ∧ 5 * N' ≤ 5 * N + 9 * w
section Loop
variable {X : mX} {d : Nat} {D : Nat → Nat × Nat} {I : Nat → Nat → Int32} {P : Nat → Nat → Option Nat} {N : Nat} {ra rk : Nat → Nat} {n k w M p1 p2 y1 yr : Nat} {Lc Lr LL L2 : List Value} {x : Option mR}
theorem Gl.up (h : Gl M (w - 5) x) (h1 : N ≤ M) (h2 : M ≤ N + 9) (hw : 5 ≤ w) : Gl N w x := by
  obtain ⟨D', I', P', N', e, z, a1, a2⟩ := h
  exact ⟨D', I', P', N', e, z, by omega, by omega⟩
theorem case_ok (hS : StepC X y1 Lc yr Lr) (h : LI D I P N ra rk) (hw : 5 ≤ w)
    (h1 : ∀ v D I P N, Rn X (d + 40 + 1) 287 p1 LL [.int v] (Mh D I P N) = (Rn X (d + 40) yr 0 Lr [] (Mh D I P N)).bind fun z => Rn X (d + 40 + 1) 287 p2 LL (z.1 ++ [.int v]) z.2)
    (h2 : ∀ v D I P N, Rn X (d + 40 + 1) 287 p2 LL [.int v, .int v] (Mh D I P N) = Rn X (d + 40 + 1) 287 18 L2 [] (Mh D I P N))
    (ih : ∀ D I P N ra rk, LI D I P N ra rk → Gl N (w - 5) (Rn X (d + 40 + 1) 287 18 L2 [] (Mh D I P N))) :
    Gl N w ((Rn X (d + 40) y1 0 Lc [] (Mh D I P N)).bind fun z => Rn X (d + 40 + 1) 287 p1 LL (z.1 ++ []) z.2) := by
  obtain ⟨v, D', I1, I2, P', N', ra', rk', e1, e2, hl, n1, n2⟩ := hS d D I P N ra rk h
  rw [e1]
  show Gl N w (Rn X (d + 40 + 1) 287 p1 LL [.int v] (Mh D' I1 P' N'))
  rw [h1, e2]
  show Gl N w (Rn X (d + 40 + 1) 287 p2 LL [.int v, .int v] (Mh D' I2 P' N'))
  rw [h2]
  exact (ih _ _ _ _ _ _ hl).up n1 n2 hw
theorem iC10 : isC (Mh D I P N) 0 10 = true := IC.1
theorem iC11 : isC (Mh D I P N) 65 11 = true := by simp only [IC]
theorem m_k {i : Nat} (hn : n + 5 ≤ X.1) (hX : X.1 ≤ 100000) (hi : i < 5) : mib (Int32.ofNat (n + i)) X.1 = true := mib_N (by omega) (by omega)
theorem i_more (hX : X.1 ≤ 100000) (hn : n ≤ X.1) (h : ¬ (Int32.ofNat X.1) - 5 < Int32.ofNat n) : n + 5 ≤ X.1 := by
  rw [Int32.lt_iff_toInt_lt, Int32.toInt_sub, iN_ti (by omega), iN_ti (by omega)] at h
  rw [show (5 : Int32).toInt = 5 from rfl, Int.bmod_eq_of_le (by omega) (by omega)] at h
  omega
theorem law_step (hX : X.1 ≤ 100000) (hn : n + 5 ≤ X.1) (hg : ¬ (Int32.ofNat X.1) - 5 < Int32.ofNat n) (h : LI D I P N ra rk)
    (ih : ∀ D I P N ra rk, LI D I P N ra rk → Gl N (X.1 - n - 5) (Rn X (d + 40 + 1) 287 18 [.retAddr 0, .ref 0, .ref 65, .int (Int32.ofNat n + 5)] [] (Mh D I P N))) :
    Gl N (X.1 - n) (Rn X (d + 40 + 1) 287 18 [.retAddr 0, .ref 0, .ref 65, .int (Int32.ofNat n)] [] (Mh D I P N)) := by
  have m0 : mib (Int32.ofNat n) X.1 = true := m_k (i := 0) hn hX (by omega)
  have m1 : mib (Int32.ofNat n + 1) X.1 = true := by rw [show Int32.ofNat n + 1 = Int32.ofNat (n + 1) by rw [Int32.ofNat_add]; rfl]; exact m_k hn hX (by omega)
  have m2 : mib (Int32.ofNat n + 2) X.1 = true := by rw [show Int32.ofNat n + 2 = Int32.ofNat (n + 2) by rw [Int32.ofNat_add]; rfl]; exact m_k hn hX (by omega)
  have m3 : mib (Int32.ofNat n + 3) X.1 = true := by rw [show Int32.ofNat n + 3 = Int32.ofNat (n + 3) by rw [Int32.ofNat_add]; rfl]; exact m_k hn hX (by omega)
  have m4 : mib (Int32.ofNat n + 4) X.1 = true := by rw [show Int32.ofNat n + 4 = Int32.ofNat (n + 4) by rw [Int32.ofNat_add]; rfl]; exact m_k hn hX (by omega)
  rw [B287_18, if_neg hg, m0, cond_true]
  by_cases c0 : (X.2 (Int32.ofNat n).toNatClampNeg) &&& 63 = 0
  · rw [if_pos c0, m1, cond_true, m2, cond_true, m3, cond_true, m4, cond_true, iC10, cond_true]
    exact case_ok S_0 h (by omega) (fun v D I P N => by rw [B287_264, m1, cond_true, m2, cond_true, m3, cond_true, m4, cond_true, iC11, cond_true]) (fun v D I P N => by rw [B287_288, if_pos rfl, B287_1574]) ih
  rw [if_neg c0]
  by_cases c1 : (X.2 (Int32.ofNat n).toNatClampNeg) &&& 63 = 1
  · rw [if_pos c1, m1, cond_true, m2, cond_true, iC10, cond_true]
    exact case_ok S_1 h (by omega) (fun v D I P N => by rw [B287_307, m1, cond_true, m2, cond_true, iC11, cond_true]) (fun v D I P N => by rw [B287_321, if_pos rfl, B287_1574]) ih
  rw [if_neg c1]
  by_cases c2 : (X.2 (Int32.ofNat n).toNatClampNeg) &&& 63 = 2
  · rw [if_pos c2, m1, cond_true, m2, cond_true, m3, cond_true, iC10, cond_true]
    exact case_ok S_2 h (by omega) (fun v D I P N => by rw [B287_345, m1, cond_true, m2, cond_true, m3, cond_true, iC11, cond_true]) (fun v D I P N => by rw [B287_364, if_pos rfl, B287_1574]) ih
  rw [if_neg c2]
  by_cases c3 : (X.2 (Int32.ofNat n).toNatClampNeg) &&& 63 = 3
  · rw [if_pos c3, m1, cond_true, m2, cond_true, iC10, cond_true]
    exact case_ok S_3 h (by omega) (fun v D I P N => by rw [B287_383, m1, cond_true, m2, cond_true, iC11, cond_true]) (fun v D I P N => by rw [B287_397, if_pos rfl, B287_1574]) ih
  rw [if_neg c3]
  by_cases c4 : (X.2 (Int32.ofNat n).toNatClampNeg) &&& 63 = 4
  · rw [if_pos c4, m1, cond_true, m2, cond_true, iC10, cond_true]
    exact case_ok S_4 h (by omega) (fun v D I P N => by rw [B287_416, m1, cond_true, m2, cond_true, iC11, cond_true]) (fun v D I P N => by rw [B287_430, if_pos rfl, B287_1574]) ih
  rw [if_neg c4]
  by_cases c5 : (X.2 (Int32.ofNat n).toNatClampNeg) &&& 63 = 5
  · rw [if_pos c5, m1, cond_true, m2, cond_true, iC10, cond_true]
    exact case_ok S_5 h (by omega) (fun v D I P N => by rw [B287_449, m1, cond_true, m2, cond_true, iC11, cond_true]) (fun v D I P N => by rw [B287_463, if_pos rfl, B287_1574]) ih
  rw [if_neg c5]
  by_cases c6 : (X.2 (Int32.ofNat n).toNatClampNeg) &&& 63 = 6
  · rw [if_pos c6, m1, cond_true, m2, cond_true, m3, cond_true, iC10, cond_true]
    exact case_ok S_6 h (by omega) (fun v D I P N => by rw [B287_487, m1, cond_true, m2, cond_true, m3, cond_true, iC11, cond_true]) (fun v D I P N => by rw [B287_506, if_pos rfl, B287_1574]) ih
  rw [if_neg c6]
  by_cases c7 : (X.2 (Int32.ofNat n).toNatClampNeg) &&& 63 = 7
  · rw [if_pos c7, m1, cond_true, iC10, cond_true]
    exact case_ok S_7 h (by omega) (fun v D I P N => by rw [B287_520, m1, cond_true, iC11, cond_true]) (fun v D I P N => by rw [B287_529, if_pos rfl, B287_1574]) ih
  rw [if_neg c7]
  by_cases c8 : (X.2 (Int32.ofNat n).toNatClampNeg) &&& 63 = 8
  · rw [if_pos c8, m1, cond_true, iC10, cond_true]
    exact case_ok S_8 h (by omega) (fun v D I P N => by rw [B287_543, m1, cond_true, iC11, cond_true]) (fun v D I P N => by rw [B287_552, if_pos rfl, B287_1574]) ih
  rw [if_neg c8]
  by_cases c9 : (X.2 (Int32.ofNat n).toNatClampNeg) &&& 63 = 9
  · rw [if_pos c9, iC10, cond_true]
    exact case_ok S_9 h (by omega) (fun v D I P N => by rw [B287_561, iC11, cond_true]) (fun v D I P N => by rw [B287_565, if_pos rfl, B287_1574]) ih
  rw [if_neg c9]
  by_cases c10 : (X.2 (Int32.ofNat n).toNatClampNeg) &&& 63 = 10
  · rw [if_pos c10, m1, cond_true, m2, cond_true, m3, cond_true, iC10, cond_true]
    exact case_ok S_10 h (by omega) (fun v D I P N => by rw [B287_599, m1, cond_true, m2, cond_true, m3, cond_true, iC11, cond_true]) (fun v D I P N => by rw [B287_628, if_pos rfl, B287_1574]) ih
  rw [if_neg c10]
  by_cases c11 : (X.2 (Int32.ofNat n).toNatClampNeg) &&& 63 = 11
  · rw [if_pos c11, iC10, cond_true]
    exact case_ok S_11 h (by omega) (fun v D I P N => by rw [B287_637, iC11, cond_true]) (fun v D I P N => by rw [B287_641, if_pos rfl, B287_1574]) ih
  rw [if_neg c11]
  by_cases c12 : (X.2 (Int32.ofNat n).toNatClampNeg) &&& 63 = 12
  · rw [if_pos c12, m1, cond_true, iC10, cond_true]
    exact case_ok S_12 h (by omega) (fun v D I P N => by rw [B287_655, m1, cond_true, iC11, cond_true]) (fun v D I P N => by rw [B287_664, if_pos rfl, B287_1574]) ih
  rw [if_neg c12]
  by_cases c13 : (X.2 (Int32.ofNat n).toNatClampNeg) &&& 63 = 13
  · rw [if_pos c13, iC10, cond_true]
    exact case_ok S_13 h (by omega) (fun v D I P N => by rw [B287_673, iC11, cond_true]) (fun v D I P N => by rw [B287_677, if_pos rfl, B287_1574]) ih
  rw [if_neg c13]
  by_cases c14 : (X.2 (Int32.ofNat n).toNatClampNeg) &&& 63 = 14
  · rw [if_pos c14, iC10, cond_true]
    exact case_ok S_14 h (by omega) (fun v D I P N => by rw [B287_686, iC11, cond_true]) (fun v D I P N => by rw [B287_690, if_pos rfl, B287_1574]) ih
  rw [if_neg c14]
  by_cases c15 : (X.2 (Int32.ofNat n).toNatClampNeg) &&& 63 = 15
  · rw [if_pos c15, m1, cond_true, iC10, cond_true]
    exact case_ok S_15 h (by omega) (fun v D I P N => by rw [B287_704, m1, cond_true, iC11, cond_true]) (fun v D I P N => by rw [B287_713, if_pos rfl, B287_1574]) ih
  rw [if_neg c15]
  by_cases c16 : (X.2 (Int32.ofNat n).toNatClampNeg) &&& 63 = 16
  · rw [if_pos c16, m1, cond_true, iC10, cond_true]
    exact case_ok S_16 h (by omega) (fun v D I P N => by rw [B287_727, m1, cond_true, iC11, cond_true]) (fun v D I P N => by rw [B287_736, if_pos rfl, B287_1574]) ih
  rw [if_neg c16]
  by_cases c17 : (X.2 (Int32.ofNat n).toNatClampNeg) &&& 63 = 17
  · rw [if_pos c17, m1, cond_true, iC10, cond_true]
    exact case_ok S_17 h (by omega) (fun v D I P N => by rw [B287_750, m1, cond_true, iC11, cond_true]) (fun v D I P N => by rw [B287_759, if_pos rfl, B287_1574]) ih
  rw [if_neg c17]
  by_cases c18 : (X.2 (Int32.ofNat n).toNatClampNeg) &&& 63 = 18
  · rw [if_pos c18, m1, cond_true, iC10, cond_true]
    exact case_ok S_18 h (by omega) (fun v D I P N => by rw [B287_773, m1, cond_true, iC11, cond_true]) (fun v D I P N => by rw [B287_782, if_pos rfl, B287_1574]) ih
  rw [if_neg c18]
  by_cases c19 : (X.2 (Int32.ofNat n).toNatClampNeg) &&& 63 = 19
  · rw [if_pos c19, m1, cond_true, m2, cond_true, iC10, cond_true]
    exact case_ok S_19 h (by omega) (fun v D I P N => by rw [B287_801, m1, cond_true, m2, cond_true, iC11, cond_true]) (fun v D I P N => by rw [B287_815, if_pos rfl, B287_1574]) ih
  rw [if_neg c19]
  by_cases c20 : (X.2 (Int32.ofNat n).toNatClampNeg) &&& 63 = 20
  · rw [if_pos c20, iC10, cond_true]
    exact case_ok S_20 h (by omega) (fun v D I P N => by rw [B287_824, iC11, cond_true]) (fun v D I P N => by rw [B287_828, if_pos rfl, B287_1574]) ih
  rw [if_neg c20]
  by_cases c21 : (X.2 (Int32.ofNat n).toNatClampNeg) &&& 63 = 21
  · rw [if_pos c21, iC10, cond_true]
    exact case_ok S_21 h (by omega) (fun v D I P N => by rw [B287_837, iC11, cond_true]) (fun v D I P N => by rw [B287_841, if_pos rfl, B287_1574]) ih
  rw [if_neg c21]
  by_cases c22 : (X.2 (Int32.ofNat n).toNatClampNeg) &&& 63 = 22
  · rw [if_pos c22, m1, cond_true, iC10, cond_true]
    exact case_ok S_22 h (by omega) (fun v D I P N => by rw [B287_855, m1, cond_true, iC11, cond_true]) (fun v D I P N => by rw [B287_864, if_pos rfl, B287_1574]) ih
  rw [if_neg c22]
  by_cases c23 : (X.2 (Int32.ofNat n).toNatClampNeg) &&& 63 = 23
  · rw [if_pos c23, m1, cond_true, iC10, cond_true]
    exact case_ok S_23 h (by omega) (fun v D I P N => by rw [B287_878, m1, cond_true, iC11, cond_true]) (fun v D I P N => by rw [B287_887, if_pos rfl, B287_1574]) ih
  rw [if_neg c23]
  by_cases c24 : (X.2 (Int32.ofNat n).toNatClampNeg) &&& 63 = 24
  · rw [if_pos c24, m1, cond_true, iC10, cond_true]
    exact case_ok S_24 h (by omega) (fun v D I P N => by rw [B287_901, m1, cond_true, iC11, cond_true]) (fun v D I P N => by rw [B287_910, if_pos rfl, B287_1574]) ih
  rw [if_neg c24]
  by_cases c25 : (X.2 (Int32.ofNat n).toNatClampNeg) &&& 63 = 25
  · rw [if_pos c25, m1, cond_true, m2, cond_true, m3, cond_true, iC10, cond_true]
    exact case_ok S_25 h (by omega) (fun v D I P N => by rw [B287_934, m1, cond_true, m2, cond_true, m3, cond_true, iC11, cond_true]) (fun v D I P N => by rw [B287_953, if_pos rfl, B287_1574]) ih
  rw [if_neg c25]
  by_cases c26 : (X.2 (Int32.ofNat n).toNatClampNeg) &&& 63 = 26
  · rw [if_pos c26, iC10, cond_true]
    exact case_ok S_26 h (by omega) (fun v D I P N => by rw [B287_962, iC11, cond_true]) (fun v D I P N => by rw [B287_966, if_pos rfl, B287_1574]) ih
  rw [if_neg c26]
  by_cases c27 : (X.2 (Int32.ofNat n).toNatClampNeg) &&& 63 = 27
  · rw [if_pos c27, m1, cond_true, iC10, cond_true]
    exact case_ok S_27 h (by omega) (fun v D I P N => by rw [B287_980, m1, cond_true, iC11, cond_true]) (fun v D I P N => by rw [B287_989, if_pos rfl, B287_1574]) ih
  rw [if_neg c27]
  by_cases c28 : (X.2 (Int32.ofNat n).toNatClampNeg) &&& 63 = 28
  · rw [if_pos c28, iC10, cond_true]
    exact case_ok S_28 h (by omega) (fun v D I P N => by rw [B287_998, iC11, cond_true]) (fun v D I P N => by rw [B287_1002, if_pos rfl, B287_1574]) ih
  rw [if_neg c28]
  by_cases c29 : (X.2 (Int32.ofNat n).toNatClampNeg) &&& 63 = 29
  · rw [if_pos c29, m1, cond_true, iC10, cond_true]
    exact case_ok S_29 h (by omega) (fun v D I P N => by rw [B287_1016, m1, cond_true, iC11, cond_true]) (fun v D I P N => by rw [B287_1025, if_pos rfl, B287_1574]) ih
  rw [if_neg c29]
  by_cases c30 : (X.2 (Int32.ofNat n).toNatClampNeg) &&& 63 = 30
  · rw [if_pos c30, iC10, cond_true]
    exact case_ok S_30 h (by omega) (fun v D I P N => by rw [B287_1034, iC11, cond_true]) (fun v D I P N => by rw [B287_1038, if_pos rfl, B287_1574]) ih
  rw [if_neg c30]
  by_cases c31 : (X.2 (Int32.ofNat n).toNatClampNeg) &&& 63 = 31
  · rw [if_pos c31, m1, cond_true, iC10, cond_true]
    exact case_ok S_31 h (by omega) (fun v D I P N => by rw [B287_1052, m1, cond_true, iC11, cond_true]) (fun v D I P N => by rw [B287_1061, if_pos rfl, B287_1574]) ih
  rw [if_neg c31]
  by_cases c32 : (X.2 (Int32.ofNat n).toNatClampNeg) &&& 63 = 32
  · rw [if_pos c32, iC10, cond_true]
    exact case_ok S_32 h (by omega) (fun v D I P N => by rw [B287_1070, iC11, cond_true]) (fun v D I P N => by rw [B287_1074, if_pos rfl, B287_1574]) ih
  rw [if_neg c32]
  by_cases c33 : (X.2 (Int32.ofNat n).toNatClampNeg) &&& 63 = 33
  · rw [if_pos c33, m1, cond_true, m2, cond_true, iC10, cond_true]
    exact case_ok S_33 h (by omega) (fun v D I P N => by rw [B287_1093, m1, cond_true, m2, cond_true, iC11, cond_true]) (fun v D I P N => by rw [B287_1107, if_pos rfl, B287_1574]) ih
  rw [if_neg c33]
  by_cases c34 : (X.2 (Int32.ofNat n).toNatClampNeg) &&& 63 = 34
  · rw [if_pos c34, m1, cond_true, m2, cond_true, m3, cond_true, iC10, cond_true]
    exact case_ok S_34 h (by omega) (fun v D I P N => by rw [B287_1131, m1, cond_true, m2, cond_true, m3, cond_true, iC11, cond_true]) (fun v D I P N => by rw [B287_1150, if_pos rfl, B287_1574]) ih
  rw [if_neg c34]
  by_cases c35 : (X.2 (Int32.ofNat n).toNatClampNeg) &&& 63 = 35
  · rw [if_pos c35, iC10, cond_true]
    exact case_ok S_35 h (by omega) (fun v D I P N => by rw [B287_1159, iC11, cond_true]) (fun v D I P N => by rw [B287_1163, if_pos rfl, B287_1574]) ih
  rw [if_neg c35]
  by_cases c36 : (X.2 (Int32.ofNat n).toNatClampNeg) &&& 63 = 36
  · rw [if_pos c36, m1, cond_true, m2, cond_true, m3, cond_true, iC10, cond_true]
    exact case_ok S_36 h (by omega) (fun v D I P N => by rw [B287_1187, m1, cond_true, m2, cond_true, m3, cond_true, iC11, cond_true]) (fun v D I P N => by rw [B287_1206, if_pos rfl, B287_1574]) ih
  rw [if_neg c36]
  by_cases c37 : (X.2 (Int32.ofNat n).toNatClampNeg) &&& 63 = 37
  · rw [if_pos c37, m1, cond_true, m2, cond_true, m3, cond_true, iC10, cond_true]
    exact case_ok S_37 h (by omega) (fun v D I P N => by rw [B287_1230, m1, cond_true, m2, cond_true, m3, cond_true, iC11, cond_true]) (fun v D I P N => by rw [B287_1249, if_pos rfl, B287_1574]) ih
  rw [if_neg c37]
  by_cases c38 : (X.2 (Int32.ofNat n).toNatClampNeg) &&& 63 = 38
  · rw [if_pos c38, m1, cond_true, m2, cond_true, m3, cond_true, iC10, cond_true]
    exact case_ok S_38 h (by omega) (fun v D I P N => by rw [B287_1273, m1, cond_true, m2, cond_true, m3, cond_true, iC11, cond_true]) (fun v D I P N => by rw [B287_1292, if_pos rfl, B287_1574]) ih
  rw [if_neg c38]
  by_cases c39 : (X.2 (Int32.ofNat n).toNatClampNeg) &&& 63 = 39
  · rw [if_pos c39, m1, cond_true, m2, cond_true, m3, cond_true, iC10, cond_true]
    exact case_ok S_39 h (by omega) (fun v D I P N => by rw [B287_1316, m1, cond_true, m2, cond_true, m3, cond_true, iC11, cond_true]) (fun v D I P N => by rw [B287_1335, if_pos rfl, B287_1574]) ih
  rw [if_neg c39]
  by_cases c40 : (X.2 (Int32.ofNat n).toNatClampNeg) &&& 63 = 40
  · rw [if_pos c40, m1, cond_true, m2, cond_true, m3, cond_true, iC10, cond_true]
    exact case_ok S_40 h (by omega) (fun v D I P N => by rw [B287_1359, m1, cond_true, m2, cond_true, m3, cond_true, iC11, cond_true]) (fun v D I P N => by rw [B287_1378, if_pos rfl, B287_1574]) ih
  rw [if_neg c40]
  by_cases c41 : (X.2 (Int32.ofNat n).toNatClampNeg) &&& 63 = 41
  · rw [if_pos c41, m1, cond_true, m2, cond_true, m3, cond_true, iC10, cond_true]
    exact case_ok S_41 h (by omega) (fun v D I P N => by rw [B287_1402, m1, cond_true, m2, cond_true, m3, cond_true, iC11, cond_true]) (fun v D I P N => by rw [B287_1421, if_pos rfl, B287_1574]) ih
  rw [if_neg c41]
  by_cases c42 : (X.2 (Int32.ofNat n).toNatClampNeg) &&& 63 = 42
  · rw [if_pos c42, m1, cond_true, m2, cond_true, iC10, cond_true]
    exact case_ok S_42 h (by omega) (fun v D I P N => by rw [B287_1440, m1, cond_true, m2, cond_true, iC11, cond_true]) (fun v D I P N => by rw [B287_1454, if_pos rfl, B287_1574]) ih
  rw [if_neg c42]
  by_cases c43 : (X.2 (Int32.ofNat n).toNatClampNeg) &&& 63 = 43
  · rw [if_pos c43, m1, cond_true, m2, cond_true, m3, cond_true, iC10, cond_true]
    exact case_ok S_43 h (by omega) (fun v D I P N => by rw [B287_1478, m1, cond_true, m2, cond_true, m3, cond_true, iC11, cond_true]) (fun v D I P N => by rw [B287_1497, if_pos rfl, B287_1574]) ih
  rw [if_neg c43]
  by_cases c44 : (X.2 (Int32.ofNat n).toNatClampNeg) &&& 63 = 44
  · rw [if_pos c44, m1, cond_true, iC10, cond_true]
    exact case_ok S_44 h (by omega) (fun v D I P N => by rw [B287_1511, m1, cond_true, iC11, cond_true]) (fun v D I P N => by rw [B287_1520, if_pos rfl, B287_1574]) ih
  rw [if_neg c44]
  by_cases c45 : (X.2 (Int32.ofNat n).toNatClampNeg) &&& 63 = 45
  · rw [if_pos c45, m1, cond_true, iC10, cond_true]
    exact case_ok S_45 h (by omega) (fun v D I P N => by rw [B287_1534, m1, cond_true, iC11, cond_true]) (fun v D I P N => by rw [B287_1543, if_pos rfl, B287_1574]) ih
  rw [if_neg c45]
  by_cases c46 : (X.2 (Int32.ofNat n).toNatClampNeg) &&& 63 = 46
  · rw [if_pos c46, iC10, cond_true]
    exact case_ok S_46 h (by omega) (fun v D I P N => by rw [B287_1552, iC11, cond_true]) (fun v D I P N => by rw [B287_1556, if_pos rfl, B287_1574]) ih
  rw [if_neg c46]
  by_cases c47 : (X.2 (Int32.ofNat n).toNatClampNeg) &&& 63 = 47
  · rw [if_pos c47, iC10, cond_true]
    exact case_ok S_47 h (by omega) (fun v D I P N => by rw [B287_1565, iC11, cond_true]) (fun v D I P N => by rw [B287_1569, if_pos rfl, B287_1574]) ih
  rw [if_neg c47]
  rw [B287_1574]
  exact (ih _ _ _ _ _ _ h).up (Nat.le_refl _) (by omega) (by omega)
theorem law_loop (hX : X.1 ≤ 100000) : ∀ k n D I P N ra rk, X.1 - n ≤ k → n ≤ X.1 → LI D I P N ra rk → Gl N (X.1 - n) (Rn X (d + 40 + 1) 287 18 [.retAddr 0, .ref 0, .ref 65, .int (Int32.ofNat n)] [] (Mh D I P N)) := by
  intro k
  induction k with
  | zero =>
    intro n D I P N ra rk hk hn h
    by_cases hg : (Int32.ofNat X.1) - 5 < Int32.ofNat n
    · rw [B287_18, if_pos hg]
      exact ⟨D, I, P, N, rfl, h.2.2.2.2.2, Nat.le_refl _, by omega⟩
    · have := i_more hX hn hg
      omega
  | succ k ih =>
    intro n D I P N ra rk hk hn h
    by_cases hg : (Int32.ofNat X.1) - 5 < Int32.ofNat n
    · rw [B287_18, if_pos hg]
      exact ⟨D, I, P, N, rfl, h.2.2.2.2.2, Nat.le_refl _, by omega⟩
    · have h5 := i_more hX hn hg
      refine law_step hX h5 hg h (fun D I P N ra rk h => ?_)
      have e := ih (n + 5) D I P N ra rk (by omega) h5 h
      rw [show Int32.ofNat n + 5 = Int32.ofNat (n + 5) by rw [Int32.ofNat_add]; rfl, show X.1 - n - 5 = X.1 - (n + 5) by omega]
      exact e
end Loop
