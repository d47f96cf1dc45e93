/-! the law's calls: feed, rules, prove, judge -/
section LawI
variable {X : mX} {d : Nat} {D : Nat → Nat × Nat} {I : Nat → Nat → Int32} {P : Nat → Nat → Option Nat} {N : Nat} {h : mH} {s t u : Nat → Int32} {J J' I' I1 I2 W W' : Nat → Nat → Int32} {D' : Nat → Nat × Nat} {P' : Nat → Nat → Option Nat} {N' : Nat} {ra rk ra' rk' : Nat → Nat} {m : Int} {i j k n p q yc yr : Nat} {Lc Lr : List Value} {x v w a b c e a1 a2 a3 a4 : Int32} {l : Int64}
theorem fdR_at {B f : Nat → Int32} : ∀ n, j < p + n → fdR B f p n j = if j < p then f j else B (j - p)
  | 0, h => by rw [if_pos (by omega)]; rfl
  | n + 1, h => by
    show upd (fdR B f p n) (p + n) (B n) j = _
    by_cases c : j = p + n
    · rw [c, upd_s, if_neg (by omega), show p + n - p = n by omega]
    · rw [upd_o c, fdR_at n (by omega)]
theorem bR_bt {k : Nat} : bt (bR l k) 0 255 = true := by
  have key : ∀ z : BitVec 64, 0 ≤ ((z &&& 255#64).signExtend 32).toInt ∧ ((z &&& 255#64).signExtend 32).toInt ≤ 255 := by
    intro z
    rw [BitVec.signExtend_eq_setWidth_of_le _ (by omega)]
    have h1 : (z &&& 255#64).toNat ≤ 255 := by
      rw [BitVec.toNat_and]
      exact Nat.and_le_right
    have h2 : ((z &&& 255#64).setWidth 32).toNat = (z &&& 255#64).toNat := by
      rw [BitVec.toNat_setWidth, Nat.mod_eq_of_lt (by omega)]
    have h3 : ((z &&& 255#64).setWidth 32).toInt = (((z &&& 255#64).setWidth 32).toNat : Int) := BitVec.toInt_eq_toNat_of_lt (by omega)
    rw [h3, h2]
    exact ⟨by omega, by omega⟩
  have key2 : ∀ z : Int64, 0 ≤ ((z &&& 255).toInt32).toInt ∧ ((z &&& 255).toInt32).toInt ≤ 255 := fun z => key z.toBitVec
  exact bt_iff.mpr (key2 _)
theorem S_10 : StepC X 118 [.ref 0, .long l, U_, .int a3, U_] 235 [.ref 65, .long l, U_, .int a3, U_] := by
  intro d D I P N ra rk h
  obtain ⟨⟨p, t1, t2, t3, t4⟩, rw', ho, -⟩ := id h.2.2
  have e1 := N_fed (X := X) (d := d) (D := D) (P := P) (N := N) (l := l) (x := a3) t2 t3
  by_cases hb : bt a3 1 8 = true
  · by_cases h2 : p + a3.toNatClampNeg ≤ 200
    · have h3 := bt_iff.mp hb
      have h4 := cl_ti (x := a3) (by omega)
      rw [if_pos hb, if_pos h2] at e1
      have e2 := F_fed (X := X) (d := d) (D := D) (P := P) (N := N) (l := l) (x := a3) (I := feS l I 49 0 6 (bC l) p a3.toNatClampNeg) (p := p) t1 t3
      rw [if_pos hb, if_pos h2] at e2
      obtain ⟨n, hn⟩ : ∃ n, a3.toNatClampNeg = n := ⟨_, rfl⟩
      rw [hn] at e1 e2 h2 h4
      have o1 : ∀ c, c ≠ 0 → c ≠ 49 → feS l I 49 0 6 (bC l) p n c = I c := fun c h1 h2 => by unfold feS; rw [u2_o h1, u2r_o h2]
      have s0 : feS l I 49 0 6 (bC l) p n 0 = upd (I 0) 6 (Int32.ofNat (p + n)) := rfl
      have s49 : feS l I 49 0 6 (bC l) p n 49 = fdR (bC l) (I 49) p n := rfl
      generalize feS l I 49 0 6 (bC l) p n = J at e1 e2 o1 s0 s49
      have o2 : ∀ c, c ≠ 65 → c ≠ 72 → feS l J 72 65 13 (bR l) p n c = J c := fun c h1 h2 => by unfold feS; rw [u2_o h1, u2r_o h2]
      have s65 : feS l J 72 65 13 (bR l) p n 65 = upd (J 65) 13 (Int32.ofNat (p + n)) := rfl
      have s72 : feS l J 72 65 13 (bR l) p n 72 = fdR (bR l) (J 72) p n := rfl
      generalize feS l J 72 65 13 (bR l) p n = K at e2 o2 s65 s72
      rw [o1 65 (by omega) (by omega)] at s65
      rw [o1 72 (by omega) (by omega)] at s72
      have o : ∀ c, c ≠ 0 → c ≠ 49 → c ≠ 65 → c ≠ 72 → K c = I c := fun c q1 q2 q3 q4 => (o2 c q3 q4).trans (o1 c q1 q2)
      have e0 : K 0 = upd (I 0) 6 (Int32.ofNat (p + n)) := (o2 0 (by omega) (by omega)).trans s0
      have e49 : K 49 = fdR (bC l) (I 49) p n := (o2 49 (by omega) (by omega)).trans s49
      refine ⟨_, D, J, K, P, N, ra, rk, e1, e2, h.hst (fun c h1 h2 => o c (by omega) (by omega) (by omega) (by omega)) (by rw [e0, upd_o (by omega)]) (by rw [s65, upd_o (by omega)]) ⟨p + n, by rw [s65, upd_s], by rw [e0, upd_s], h2, fun j hj => ?_⟩ (rw'.cg (by rw [s65, upd_o (by omega)]) (by rw [e0, upd_o (by omega)]) (o 71 (by omega) (by omega) (by omega) (by omega)) (fun w hw => o _ (by omega) (by omega) (by omega) (by omega))) ⟨HsA.cg ho.1 (fun c hc => o c (by omega) (by omega) (by omega) (by omega)), HsB.cg ho.2.1 (fun c hc => o c (by omega) (by omega) (by omega) (by omega)), HsC.cg ho.2.2 (o 54 (by omega) (by omega) (by omega) (by omega)) (o 64 (by omega) (by omega) (by omega) (by omega)) (o 79 (by omega) (by omega) (by omega) (by omega)) (by rw [s65, upd_o (by omega)])⟩, Nat.le_refl _, by omega⟩
      rw [s72, e49, fdR_at n hj, fdR_at n hj]
      by_cases c : j < p
      · rw [if_pos c, if_pos c]; exact t4 j c
      · rw [if_neg c, if_neg c]; exact ⟨bR_bt, b8 (by omega)⟩
    · rw [if_pos hb, if_neg h2] at e1
      have e2 := F_fed (X := X) (d := d) (D := D) (P := P) (N := N) (l := l) (x := a3) t1 t3
      rw [if_pos hb, if_neg h2] at e2
      exact ⟨_, D, I, I, P, N, ra, rk, e1, e2, h, Nat.le_refl _, by omega⟩
  · rw [if_neg hb] at e1
    have e2 := F_fed (X := X) (d := d) (D := D) (P := P) (N := N) (l := l) (x := a3) t1 t3
    rw [if_neg hb] at e2
    exact ⟨_, D, I, I, P, N, ra, rk, e1, e2, h, Nat.le_refl _, by omega⟩
theorem jdgF_of {n : Nat} (hW : ∀ w i, w < 3 → i < n → W w i = W' w i) : ∀ k i s, i + k ≤ n → jdgF W n k i s = jdgF W' n k i s
  | 0, _, _, _ => rfl
  | k + 1, i, s, h => by
    have e : jdg1 W n i s = jdg1 W' n i s := by
      unfold jdg1
      rw [hW 0 i (by omega) (by omega), hW 1 i (by omega) (by omega), hW 2 i (by omega) (by omega)]
    simp only [jdgF]
    rw [e, hW 0 i (by omega) (by omega), jdgF_of hW k (i + 1) _ (by omega)]
theorem S_35 : StepC X 143 [.ref 0, U_, U_, U_] 234 [.ref 65, U_, U_, U_, U_, U_] := by
  intro d D I P N ra rk h
  obtain ⟨tp, ⟨n, w1, w2, w3, w4⟩, ho, -⟩ := id h.2.2
  obtain ⟨ok, o2, o3⟩ := id h.1
  obtain ⟨I1, e1, c2, c3, c4⟩ := N_jdg (X := X) (d := d) (n := n) (W := fun w i => I (51 + w) i) (ok_up ok) o2 o3 w2 w3 (fun i _ => ⟨rfl, rfl, rfl⟩)
  have f := frc_lo (n := 0) o2 c4
  obtain ⟨I2, r1, r2⟩ := F_jdg (X := X) (I := I1) (n := n) (W := fun w i => I 71 (3 * i + w)) (by rw [f 66 (by omega)]; exact ok_up ok) (by rw [f 65 (by omega)]; exact w1) w3 (fun w i _ _ => by rw [f 71 (by omega)]) d D P N
  rw [f 66 (by omega), jdgF_of (W' := fun w i => I (51 + w) i) (fun w i hw hi => (w4 w i hw hi).symm) n 0 _ (by omega)] at r1
  rw [f 66 (by omega)] at r2
  exact ⟨_, D, I1, I2, P, N, ra, rk, e1, r1, fin_A h c4 r2 c2 c3 ok rfl, Nat.le_refl _, by omega⟩
theorem prvI_n (h : shoF (J 66) = none) : prvI J = J := by unfold prvI; rw [h]
theorem prvI_s {n : Nat} (h : shoF (J 66) = some n) : prvI J = u2 (u2r J 71 (prvR (fstR n (J 66)) 0 (J 66) (J 71))) 65 11 (Int32.ofNat n) := by unfold prvI; rw [h]
theorem S_32 : StepC X 140 [.ref 0, U_, U_] 230 [.ref 65, U_, U_, U_] := by
  intro d D I P N ra rk h
  obtain ⟨tp, rw', ho, kz'⟩ := id h.2.2
  obtain ⟨ok, o2, o3⟩ := id h.1
  cases hs : shoF (I 66) with
  | none =>
    obtain ⟨I1, e1, c2, c3, c4⟩ := N_prv0 (X := X) (d := d) (ok_up ok) o2 o3 hs
    have f := frc_lo (n := 0) o2 c4
    have e66 := f 66 (by omega)
    obtain ⟨I2, r1, r2⟩ := F_prv (X := X) (I := I1) (by rw [e66]; exact ok_up ok) d D P N
    rw [prvI_n (by rw [e66]; exact hs)] at r2
    have ep : pFew (I1 66) = -3 := by unfold pFew; rw [e66, hs]
    rw [ep] at r1
    exact ⟨_, D, I1, I2, P, N, ra, rk, e1, r1, fin_A (t := I 66) h c4 (by rw [← e66, u2r_id]; exact r2) c2 c3 ok rfl, Nat.le_refl _, by omega⟩
  | some n =>
    obtain ⟨hn1, hn2, hn3⟩ := sho_lt hs
    obtain ⟨I1, e1, c2, c3, c4, c5, c6⟩ := N_prv (X := X) (d := d) (ok_up ok) o2 o3 hs
    have r80 : ∀ i, i < ctA (I 66) → 80 ≤ ra i := fun i hi => (o2.2.2.2.1 i hi).2.1.1
    have f : ∀ c, 36 ≤ c → c < 80 → c ≠ 51 → c ≠ 52 → c ≠ 53 → I1 c = I c := fun c q1 q2 q3 q4 q5 => c6 c (by omega) q3 q4 q5 (by omega) (by omega) (by omega) (fun i hi => by have := r80 i hi; omega)
    have e66 : I1 66 = I 66 := f 66 (by omega) (by omega) (by omega) (by omega) (by omega)
    obtain ⟨I2, r1, r2⟩ := F_prv (X := X) (I := I1) (by rw [e66]; exact ok_up ok) d D P N
    rw [prvI_s (n := n) (by rw [e66]; exact hs), e66] at r2
    have ep : pFew (I1 66) = Int32.ofNat n := by unfold pFew; rw [e66, hs]
    rw [ep] at r1
    -- the ride's part alone
    have hb : ∃ B : Nat → Nat → Int32, (∀ c, c = 0 ∨ c = 51 ∨ c = 52 ∨ c = 53 → B c = I c) ∧ (∀ c, c ≠ 0 → c ≠ 51 → c ≠ 52 → c ≠ 53 → B c = I1 c) :=
      ⟨fun c => if c = 0 ∨ c = 51 ∨ c = 52 ∨ c = 53 then I c else I1 c, fun c hc => if_pos hc, fun c q1 q2 q3 q4 => if_neg (by omega)⟩
    obtain ⟨B, b1, b2⟩ := hb
    have B66 : B 66 = I 66 := (b2 66 (by omega) (by omega) (by omega) (by omega)).trans e66
    have hB : LI D B P N ra rk := by
      refine fin_A (t := I 66) (I1 := B) h (fun c q1 q2 q3 q4 q5 q6 q7 q8 => ?_) (by rw [← B66, u2r_id]; exact Sc_rf) (c2.mono (fun _ _ _ => rfl) (Nat.le_refl _) (b2 _ (by omega) (by omega) (by omega) (by omega)) (b2 _ (by omega) (by omega) (by omega) (by omega)) (b2 _ (by omega) (by omega) (by omega) (by omega)) (b2 _ (by omega) (by omega) (by omega) (by omega)) (b2 _ (by omega) (by omega) (by omega) (by omega)) (fun j hj => by have := (c2.2.2.2.1 j hj).2.1.1; exact b2 _ (by omega) (by omega) (by omega) (by omega)) (fun q hq _ j hj => by have := hq.1; exact b2 _ (by omega) (by omega) (by omega) (by omega)) (fun _ _ => rfl) rfl) (by rw [b2 31 (by omega) (by omega) (by omega) (by omega)]; exact c3) ok rfl
      by_cases hc : c = 0 ∨ c = 51 ∨ c = 52 ∨ c = 53
      · exact b1 c hc
      · rw [b2 c (by omega) (by omega) (by omega) (by omega)]
        exact c6 c (by omega) (by omega) (by omega) (by omega) q1 q4 q7 q8
    obtain ⟨z0, ⟨z66, z67, z71, z72, z73, z74, z75, z76, z77, z78, z79⟩, z3, z11, z13, z27⟩ := r2
    have pI : ∀ c, c ≠ 65 → c ≠ 71 → u2 (u2r I1 71 (prvR (fstR n (I 66)) 0 (I 66) (I1 71))) 65 11 (Int32.ofNat n) c = I1 c := fun c q1 q2 => by rw [u2_o q1, u2r_o q2]
    have p65 : u2 (u2r I1 71 (prvR (fstR n (I 66)) 0 (I 66) (I1 71))) 65 11 (Int32.ofNat n) 65 = upd (I1 65) 11 (Int32.ofNat n) := rfl
    have p71 : u2 (u2r I1 71 (prvR (fstR n (I 66)) 0 (I 66) (I1 71))) 65 11 (Int32.ofNat n) 71 = prvR (fstR n (I 66)) 0 (I 66) (I1 71) := rfl
    rw [p65] at z3 z11 z13 z27
    rw [p71] at z71
    rw [upd_o (by omega)] at z3 z13 z27
    rw [upd_s] at z11
    have i65 : I1 65 = I 65 := f 65 (by omega) (by omega) (by omega) (by omega) (by omega)
    rw [i65] at z3 z13 z27
    have lo : ∀ c, c < 65 ∨ 79 < c → I2 c = I1 c := fun c hc => (z0 c hc).trans (pI c (by omega) (by omega))
    have e0 : I2 0 = upd (I 0) 8 (Int32.ofNat n) := (lo 0 (by omega)).trans c4
    have w0 : ∀ c, 36 ≤ c → c < 65 → c ≠ 51 → c ≠ 52 → c ≠ 53 → I2 c = I c := fun c q1 q2 q3 q4 q5 => (lo c (by omega)).trans (f c q1 (by omega) q3 q4 q5)
    have e67 : I2 67 = I 67 := z67.trans ((pI 67 (by omega) (by omega)).trans (f 67 (by omega) (by omega) (by omega) (by omega) (by omega)))
    have g : ∀ c, 72 ≤ c → c ≤ 79 → I2 c = I c := fun c q1 q2 => by
      have : c = 72 ∨ c = 73 ∨ c = 74 ∨ c = 75 ∨ c = 76 ∨ c = 77 ∨ c = 78 ∨ c = 79 := by omega
      refine Eq.trans ?_ ((pI c (by omega) (by omega)).trans (f c (by omega) (by omega) (by omega) (by omega) (by omega)))
      rcases this with rfl | rfl | rfl | rfl | rfl | rfl | rfl | rfl
      · exact z72
      · exact z73
      · exact z74
      · exact z75
      · exact z76
      · exact z77
      · exact z78
      · exact z79
    refine ⟨_, D, I1, I2, P, N, ra, rk, e1, r1, hB.hst (fun c h1 h2 => ?_) (by rw [e0, b1 0 (by omega), upd_o (by omega)]) (by rw [z3, b2 65 (by omega) (by omega) (by omega) (by omega), i65]) (tp.cg z13 (by rw [e0, upd_o (by omega)]) (g 72 (by omega) (by omega)) (w0 49 (by omega) (by omega) (by omega) (by omega) (by omega))) ⟨n, z11, by rw [e0, upd_s], by omega, fun w i hw hi => ?_⟩ ⟨HsA.cg ho.1 (fun c hc => ?_), HsB.cg ho.2.1 (fun c hc => ?_), HsC.cg ho.2.2 (w0 54 (by omega) (by omega) (by omega) (by omega) (by omega)) (w0 64 (by omega) (by omega) (by omega) (by omega) (by omega)) (g 79 (by omega) (by omega)) z27⟩, Nat.le_refl _, by omega⟩
    · rcases h2 with h2 | rfl | rfl | h2
      · rw [lo c (by omega), b2 c h1 (by omega) (by omega) (by omega)]
      · rw [z66, pI 66 (by omega) (by omega), B66, e66]
      · rw [e67, b2 67 (by omega) (by omega) (by omega) (by omega), f 67 (by omega) (by omega) (by omega) (by omega) (by omega)]
      · rw [lo c (by omega), b2 c h1 (by omega) (by omega) (by omega)]
    · have hl : (fstR n (I 66)).length = n := fst_len n _ hn2 hn3
      obtain ⟨x0, x1, x2⟩ := c5 i hi
      obtain ⟨y0, y1, y2⟩ := F_rowP (n := n) (s := I 66) (r := I1 71) i (by rw [hl]; exact hi)
      rw [lo _ (by omega), z71]
      have : w = 0 ∨ w = 1 ∨ w = 2 := by omega
      rcases this with rfl | rfl | rfl
      · exact x0.trans y0.symm
      · exact x1.trans y1.symm
      · exact x2.trans y2.symm
    · rcases hc with hc | hc
      · exact w0 c (by omega) (by omega) (by omega) (by omega) (by omega)
      · exact g c (by omega) (by omega)
    · rcases hc with hc | hc | hc
      · exact w0 c (by omega) (by omega) (by omega) (by omega) (by omega)
      · exact w0 c (by omega) (by omega) (by omega) (by omega) (by omega)
      · exact g c (by omega) (by omega)
end LawI
