/-! the law's calls on the host -/
def HsA (I : Nat → Nat → Int32) : Prop := ∀ r, r < 4 → I 55 r = I 73 r ∧ I 56 r = I 74 r ∧ bt (I 73 r) (-1) 4 = true ∧ bt (I 74 r) 0 40 = true ∧ ∀ j, j < 40 → I (58 + r) j = I 75 (40 * r + j)
def HsB (I : Nat → Nat → Int32) : Prop := ∀ k, k < 4 → shR (I 62 k) (I 63 k) (I 76 k) (I 77 k) (I 78 k)
def HsC (I : Nat → Nat → Int32) : Prop := I 54 6 = I 65 27 ∧ bt (I 65 27) 0 30 = true ∧ ∀ j, j < (I 65 27).toNatClampNeg → I 64 j = I 79 j
section LawH
variable {X : mX} {d : Nat} {D : Nat → Nat × Nat} {I : Nat → Nat → Int32} {P : Nat → Nat → Option Nat} {N : Nat} {h : mH} {s t u : Nat → Int32} {J J' I' I1 I2 : Nat → Nat → Int32} {D' : Nat → Nat × Nat} {P' : Nat → Nat → Option Nat} {N' : Nat} {ra rk ra' rk' : Nat → Nat} {m : Int} {i j k n p q yc yr : Nat} {Lc Lr : List Value} {x v w a b c e a1 a2 a3 a4 : Int32}
theorem LI.hst (h : LI D I P N ra rk) (f : ∀ c, c ≠ 0 → (c < 49 ∨ c = 66 ∨ c = 67 ∨ 79 < c) → I2 c = I c) (e0 : I2 0 2 = I 0 2) (e3 : I2 65 3 = I 65 3) (tp : TapR I2) (rw' : RwsR I2) (ho : HosR I2) : LI D I2 P N ra rk := by
  obtain ⟨⟨o1, o2, o3⟩, k, -, -, -, kz'⟩ := h
  have e66 : I2 66 = I 66 := f 66 (by omega) (by omega)
  have e67 : I2 67 = I 67 := f 67 (by omega) (by omega)
  refine ⟨⟨by rw [e66]; exact o1, ?_, by rw [f 31 (by omega) (by omega)]; exact o3⟩, ?_, tp, rw', ho, kz'⟩
  · rw [e66]
    exact o2.mono (fun _ _ _ => rfl) (Nat.le_refl _) (f _ (by omega) (by omega)) (f _ (by omega) (by omega)) (f _ (by omega) (by omega)) (f _ (by omega) (by omega)) (f _ (by omega) (by omega)) (fun j hj => by have := (o2.2.2.2.1 j hj).2.1.1; exact f _ (by omega) (by omega)) (fun q hq _ j hj => by have := hq.1; exact f _ (by omega) (by omega)) (fun _ _ => rfl) rfl
  · rcases k with ⟨k1, k2⟩ | ⟨k1, k2, k3, k4, k5⟩
    · exact Or.inl ⟨e3.trans k1, e0.trans k2⟩
    · refine Or.inr ⟨e3.trans k1, e0.trans k2, by rw [e67]; exact k3, ?_, by rw [e66, e67]; exact k5⟩
      rw [e67]
      exact k4.mono (fun _ _ _ => rfl) (Nat.le_refl _) (f _ (by omega) (by omega)) (f _ (by omega) (by omega)) (f _ (by omega) (by omega)) (f _ (by omega) (by omega)) (f _ (by omega) (by omega)) (fun j hj => by have := (k4.2.2.2.1 j hj).2.1.1; exact f _ (by omega) (by omega)) (fun q hq _ j hj => by have := hq.1; exact f _ (by omega) (by omega)) (fun _ _ => rfl) rfl
theorem TapR.cg (h : TapR I) (e1 : J 65 13 = I 65 13) (e2 : J 0 6 = I 0 6) (e3 : J 72 = I 72) (e4 : J 49 = I 49) : TapR J := by
  obtain ⟨p, h1, h2, h3, h4⟩ := h
  exact ⟨p, e1.trans h1, e2.trans h2, h3, by rw [e3, e4]; exact h4⟩
theorem RwsR.cg (h : RwsR I) (e1 : J 65 11 = I 65 11) (e2 : J 0 8 = I 0 8) (e3 : J 71 = I 71) (e4 : ∀ w, w < 3 → J (51 + w) = I (51 + w)) : RwsR J := by
  obtain ⟨n, h1, h2, h3, h4⟩ := h
  exact ⟨n, e1.trans h1, e2.trans h2, h3, fun w i hw hi => by rw [e4 w hw, e3]; exact h4 w i hw hi⟩
theorem HsA.cg (h : HsA I) (f : ∀ c, (55 ≤ c ∧ c ≤ 61) ∨ (73 ≤ c ∧ c ≤ 75) → J c = I c) : HsA J := by
  intro r hr
  rw [f 55 (by omega), f 56 (by omega), f (58 + r) (by omega), f 73 (by omega), f 74 (by omega), f 75 (by omega)]; exact h r hr
theorem HsB.cg (h : HsB I) (f : ∀ c, c = 62 ∨ c = 63 ∨ (76 ≤ c ∧ c ≤ 78) → J c = I c) : HsB J := by
  intro r hr
  rw [f 62 (by omega), f 63 (by omega), f 76 (by omega), f 77 (by omega), f 78 (by omega)]; exact h r hr
theorem HsC.cg (h : HsC I) (e1 : J 54 = I 54) (e2 : J 64 = I 64) (e3 : J 79 = I 79) (e4 : J 65 27 = I 65 27) : HsC J := by
  unfold HsC at h ⊢
  rw [e1, e2, e3, e4]; exact h
theorem b0n {x : Int32} {l : Nat} (h : bt x 0 ((l : Int) - 1) = true) : x.toNatClampNeg < l ∧ x = Int32.ofNat x.toNatClampNeg := by
  have h1 := bt_iff.mp h
  have h2 := cl_ti (x := x) h1.1
  exact ⟨by omega, iN_of h1.1⟩
theorem b0k {x : Int32} {l : Int} (h : bt x 0 l = true) : (x.toNatClampNeg : Int) ≤ l ∧ x = Int32.ofNat x.toNatClampNeg := by
  have h1 := bt_iff.mp h
  have h2 := cl_ti (x := x) h1.1
  exact ⟨by omega, iN_of h1.1⟩
theorem HsA.bb (h : HsA I) : ∀ r, r < 4 → bt (I 55 r) (-1) 4 = true ∧ bt (I 56 r) 0 40 = true := fun r hr => by
  obtain ⟨h1, h2, h3, h4, -⟩ := h r hr
  exact ⟨by rw [h1]; exact h3, by rw [h2]; exact h4⟩
theorem S_33 : StepC X 141 [.ref 0, .int a1, .int a2] 232 [.ref 65, .int a1, .int a2] := by
  intro d D I P N ra rk h
  obtain ⟨n, w1, w2, w3, w4⟩ := id h.2.2.2.1
  have e1 := N_row (X := X) (d := d) (D := D) (P := P) (N := N) (a := a1) (b := a2) w2 w3
  have e2 := F_row (X := X) (d := d) (D := D) (P := P) (N := N) (a := a1) (b := a2) w1 w3
  have ev : (if (bt a1 0 ((n : Int) - 1) && bt a2 0 2) = true then I 71 (3 * a1.toNatClampNeg + a2.toNatClampNeg) else (-9 : Int32)) = (if (bt a1 0 ((n : Int) - 1) && bt a2 0 2) = true then I (51 + a2.toNatClampNeg) a1.toNatClampNeg else -9) := by
    by_cases hb : (bt a1 0 ((n : Int) - 1) && bt a2 0 2) = true
    · rw [if_pos hb, if_pos hb]
      rw [Bool.and_eq_true] at hb
      rw [w4 _ _ (by have := (b0k hb.2).1; omega) (b0n hb.1).1]
    · rw [if_neg hb, if_neg hb]
  rw [ev] at e2
  exact ⟨_, D, I, I, P, N, ra, rk, e1, e2, h, Nat.le_refl _, by omega⟩
theorem S_34 : StepC X 142 [.ref 0, .int a1, .int a2, .int a3, U_] 233 [.ref 65, .int a1, .int a2, .int a3, U_] := by
  intro d D I P N ra rk h
  obtain ⟨tp, ⟨n, w1, w2, w3, w4⟩, ho, -⟩ := id h.2.2
  have e1 := N_alt (X := X) (d := d) (D := D) (P := P) (N := N) (a := a1) (b := a2) (v := a3) w2 w3
  by_cases hb : (bt a1 0 ((n : Int) - 1) && bt a2 0 2) = true
  · have hb' := hb
    rw [Bool.and_eq_true] at hb'
    have q1 := (b0n hb'.1).1
    have q2 := (b0k hb'.2).1
    obtain ⟨i0, hi0⟩ : ∃ i0, a1.toNatClampNeg = i0 := ⟨_, rfl⟩
    obtain ⟨w0, hw0⟩ : ∃ w0, a2.toNatClampNeg = w0 := ⟨_, rfl⟩
    rw [if_pos hb, hi0, hw0] at e1
    rw [hi0] at q1
    rw [hw0] at q2
    have o1 : ∀ c, c ≠ 51 + w0 → u2 I (51 + w0) i0 a3 c = I c := fun c hc => u2_o hc
    have s1 : u2 I (51 + w0) i0 a3 (51 + w0) = upd (I (51 + w0)) i0 a3 := u2_s
    generalize u2 I (51 + w0) i0 a3 = J at e1 o1 s1
    have e2 := F_alt (X := X) (d := d) (D := D) (P := P) (N := N) (a := a1) (b := a2) (v := a3) (I := J) (n := n) (by rw [o1 65 (by omega)]; exact w1) w3
    rw [if_pos hb, hi0, hw0, o1 71 (by omega), ← w4 w0 i0 (by omega) q1] at e2
    have o2 : ∀ c, c ≠ 71 → u2 J 71 (3 * i0 + w0) a3 c = J c := fun c hc => u2_o hc
    have s2 : u2 J 71 (3 * i0 + w0) a3 71 = upd (J 71) (3 * i0 + w0) a3 := u2_s
    generalize u2 J 71 (3 * i0 + w0) a3 = K at e2 o2 s2
    have o : ∀ c, c ≠ 71 → c ≠ 51 + w0 → K c = I c := fun c h1 h2 => (o2 c h1).trans (o1 c h2)
    refine ⟨_, D, J, K, P, N, ra, rk, e1, e2, h.hst (fun c h1 h2 => o c (by omega) (by omega)) (by rw [o 0 (by omega) (by omega)]) (by rw [o 65 (by omega) (by omega)]) (tp.cg (by rw [o 65 (by omega) (by omega)]) (by rw [o 0 (by omega) (by omega)]) (o 72 (by omega) (by omega)) (o 49 (by omega) (by omega))) ?_ ⟨HsA.cg ho.1 (fun c hc => o c (by omega) (by omega)), HsB.cg ho.2.1 (fun c hc => o c (by omega) (by omega)), HsC.cg ho.2.2 (o 54 (by omega) (by omega)) (o 64 (by omega) (by omega)) (o 79 (by omega) (by omega)) (by rw [o 65 (by omega) (by omega)])⟩, Nat.le_refl _, by omega⟩
    refine ⟨n, by rw [o 65 (by omega) (by omega)]; exact w1, by rw [o 0 (by omega) (by omega)]; exact w2, w3, fun w i hw hi => ?_⟩
    rw [s2, o2 _ (by omega), o1 71 (by omega)]
    by_cases c1 : w = w0
    · rw [c1, s1]
      by_cases c2 : i = i0
      · rw [c2, upd_s, upd_s]
      · rw [upd_o c2, upd_o (by omega)]; exact w4 w0 i (by omega) hi
    · rw [o1 _ (by omega), upd_o (by omega)]; exact w4 w i hw hi
  · rw [if_neg hb] at e1
    have e2 := F_alt (X := X) (d := d) (D := D) (P := P) (N := N) (a := a1) (b := a2) (v := a3) w1 w3
    rw [if_neg hb] at e2
    exact ⟨_, D, I, I, P, N, ra, rk, e1, e2, h, Nat.le_refl _, by omega⟩
theorem sht_1 (h : shtV a b c = 1) : a.toNatClampNeg < 4 ∧ bt b (-1) 4 = true ∧ bt (shtO b c) 0 40 = true := by
  unfold shtV at h
  by_cases h1 : (bt a 0 3 && bt b (-1) 4) = true
  · rw [if_pos h1] at h
    have h1' := h1
    rw [Bool.and_eq_true] at h1'
    have q1 := (b0k h1'.1).1
    refine ⟨by omega, h1'.2, ?_⟩
    unfold shtO
    by_cases h2 : 0 ≤ b
    · rw [if_pos h2]
      have h3 : ¬ b < 0 := fun q => absurd (Int32.lt_iff_toInt_lt.mp q) (by have := Int32.le_iff_toInt_le.mp h2; omega)
      rw [if_neg h3] at h
      by_cases h4 : c ≤ 40
      · rw [if_pos h4] at h
        by_cases h5 : 0 ≤ c
        · exact bt_iff.mpr ⟨Int32.le_iff_toInt_le.mp h5, Int32.le_iff_toInt_le.mp h4⟩
        · rw [if_neg h5] at h; exact absurd h (by decide)
      · rw [if_neg h4] at h; exact absurd h (by decide)
    · rw [if_neg h2]; decide
  · rw [if_neg h1] at h; exact absurd h (by decide)
theorem S_36 : StepC X 144 [.ref 0, .int a1, .int a2, .int a3] 254 [.ref 65, .int a1, .int a2, .int a3, U_] := by
  intro d D I P N ra rk h
  obtain ⟨tp, rw', ho, -⟩ := id h.2.2
  have e1 := N_sht (X := X) (d := d) (D := D) (P := P) (N := N) (I := I) (a := a1) (b := a2) (c := a3)
  by_cases hv : shtV a1 a2 a3 = 1
  · obtain ⟨q1, q2, q3⟩ := sht_1 hv
    rw [if_pos hv] at e1
    have e2 := F_sht (X := X) (d := d) (D := D) (P := P) (N := N) (I := shtC I a1.toNatClampNeg a2 a3) (a := a1) (b := a2) (c := a3)
    rw [if_pos hv] at e2
    obtain ⟨r0, hr0⟩ : ∃ r0, a1.toNatClampNeg = r0 := ⟨_, rfl⟩
    rw [hr0] at e1 e2 q1
    have o1 : ∀ c, c ≠ 55 → c ≠ 56 → c ≠ 58 + r0 → shtC I r0 a2 a3 c = I c := fun c h1 h2 h3 => by unfold shtC; rw [u2r_o h3, u2_o h2, u2_o h1]
    have s55 : shtC I r0 a2 a3 55 = upd (I 55) r0 a2 := by unfold shtC; rw [u2r_o (by omega)]; rfl
    have s56 : shtC I r0 a2 a3 56 = upd (I 56) r0 (shtO a2 a3) := by unfold shtC; rw [u2r_o (by omega)]; rfl
    have s58 : shtC I r0 a2 a3 (58 + r0) = zrF 0 40 (I (58 + r0)) := by unfold shtC; rw [u2r_s]
    generalize shtC I r0 a2 a3 = J at e1 e2 o1 s55 s56 s58
    have o2 : ∀ c, c ≠ 73 → c ≠ 74 → c ≠ 75 → shtR J r0 a2 a3 c = J c := fun c h1 h2 h3 => by unfold shtR; rw [u2r_o h3, u2_o h2, u2_o h1]
    have s73 : shtR J r0 a2 a3 73 = upd (J 73) r0 a2 := rfl
    have s74 : shtR J r0 a2 a3 74 = upd (J 74) r0 (shtO a2 a3) := rfl
    have s75 : shtR J r0 a2 a3 75 = zrF (40 * r0) 40 (J 75) := rfl
    generalize shtR J r0 a2 a3 = K at e2 o2 s73 s74 s75
    have o : ∀ c, c ≠ 55 → c ≠ 56 → c ≠ 58 + r0 → c ≠ 73 → c ≠ 74 → c ≠ 75 → K c = I c := fun c h1 h2 h3 h4 h5 h6 => (o2 c h4 h5 h6).trans (o1 c h1 h2 h3)
    have oo : ∀ c, c < 55 ∨ 61 < c → c < 73 ∨ 75 < c → K c = I c := fun c h1 h2 => o c (by omega) (by omega) (by omega) (by omega) (by omega) (by omega)
    refine ⟨_, D, J, K, P, N, ra, rk, e1, e2, h.hst (fun c h1 h2 => oo c (by omega) (by omega)) (by rw [oo 0 (by omega) (by omega)]) (by rw [oo 65 (by omega) (by omega)]) (tp.cg (by rw [oo 65 (by omega) (by omega)]) (by rw [oo 0 (by omega) (by omega)]) (oo 72 (by omega) (by omega)) (oo 49 (by omega) (by omega))) (rw'.cg (by rw [oo 65 (by omega) (by omega)]) (by rw [oo 0 (by omega) (by omega)]) (oo 71 (by omega) (by omega)) (fun w hw => oo _ (by omega) (by omega))) ⟨?_, HsB.cg ho.2.1 (fun c hc => oo c (by omega) (by omega)), HsC.cg ho.2.2 (oo 54 (by omega) (by omega)) (oo 64 (by omega) (by omega)) (oo 79 (by omega) (by omega)) (by rw [oo 65 (by omega) (by omega)])⟩, Nat.le_refl _, by omega⟩
    intro r hr
    obtain ⟨g1, g2, g3, g4, g5⟩ := ho.1 r hr
    rw [o2 55 (by omega) (by omega) (by omega), o2 56 (by omega) (by omega) (by omega), o2 (58 + r) (by omega) (by omega) (by omega), s55, s56, s73, s74, s75, o1 73 (by omega) (by omega) (by omega), o1 74 (by omega) (by omega) (by omega), o1 75 (by omega) (by omega) (by omega)]
    by_cases c1 : r = r0
    · rw [c1, upd_s, upd_s, upd_s, upd_s, s58]
      refine ⟨rfl, rfl, q2, q3, fun j hj => ?_⟩
      unfold zrF
      rw [if_pos (by omega), if_pos (by omega)]
    · rw [upd_o c1, upd_o c1, upd_o c1, upd_o c1, o1 _ (by omega) (by omega) (by omega)]
      refine ⟨g1, g2, g3, g4, fun j hj => ?_⟩
      unfold zrF
      rw [if_neg (by omega)]; exact g5 j hj
  · rw [if_neg hv] at e1
    have e2 := F_sht (X := X) (d := d) (D := D) (P := P) (N := N) (I := I) (a := a1) (b := a2) (c := a3)
    rw [if_neg hv] at e2
    exact ⟨_, D, I, I, P, N, ra, rk, e1, e2, h, Nat.le_refl _, by omega⟩
theorem wrt_eq (h : HsA I) : wrtV (I 55) (I 56) a b = wrtV (I 73) (I 74) a b := by
  unfold wrtV
  by_cases h1 : bt a 0 3 = true
  · have q := (b0k h1).1
    obtain ⟨g1, g2, -⟩ := h a.toNatClampNeg (by omega)
    rw [g1, g2]
  · rw [if_neg h1, if_neg h1]
theorem itI_lt {l : Int32} (h : itI l c = true) (hl : bt l 0 40 = true) : c.toNatClampNeg < 40 := by
  have h1 := bt_iff.mp h
  have h2 := bt_iff.mp hl
  have h3 := cl_ti (x := c) h1.1
  omega
theorem wrt_1 (h : wrtV (I 73) (I 74) a b = 1) (hA : HsA I) : a.toNatClampNeg < 4 ∧ b.toNatClampNeg < 40 := by
  unfold wrtV at h
  by_cases h1 : bt a 0 3 = true
  · rw [if_pos h1] at h
    have q := (b0k h1).1
    obtain ⟨g1, g2, g3, g4, -⟩ := hA a.toNatClampNeg (by omega)
    refine ⟨by omega, ?_⟩
    by_cases h2 : I 73 a.toNatClampNeg < 0
    · rw [if_pos h2] at h; exact absurd h (by decide)
    · rw [if_neg h2] at h
      by_cases h3 : itI (I 74 a.toNatClampNeg) b = true
      · exact itI_lt h3 g4
      · rw [if_neg h3] at h; exact absurd h (by decide)
  · rw [if_neg h1] at h; exact absurd h (by decide)
theorem S_37 : StepC X 145 [.ref 0, .int a1, .int a2, .int a3] 256 [.ref 65, .int a1, .int a2, .int a3] := by
  intro d D I P N ra rk h
  obtain ⟨tp, rw', ho, -⟩ := id h.2.2
  have e1 := N_wrt (X := X) (d := d) (D := D) (P := P) (N := N) (I := I) (a := a1) (b := a2) (v := a3) (HsA.bb ho.1)
  rw [wrt_eq ho.1] at e1
  by_cases hv : wrtV (I 73) (I 74) a1 a2 = 1
  · obtain ⟨q1, q2⟩ := wrt_1 hv ho.1
    rw [if_pos hv] at e1
    obtain ⟨r0, hr0⟩ : ∃ r0, a1.toNatClampNeg = r0 := ⟨_, rfl⟩
    obtain ⟨i0, hi0⟩ : ∃ i0, a2.toNatClampNeg = i0 := ⟨_, rfl⟩
    rw [hr0, hi0, (ho.1 r0 (by omega)).1] at e1
    rw [hr0] at q1
    rw [hi0] at q2
    obtain ⟨v0, hv0⟩ : ∃ v0, narV (I 73 r0) a3 = v0 := ⟨_, rfl⟩
    rw [hv0] at e1
    have o1 : ∀ c, c ≠ 58 + r0 → u2 I (58 + r0) i0 v0 c = I c := fun c hc => u2_o hc
    have s1 : u2 I (58 + r0) i0 v0 (58 + r0) = upd (I (58 + r0)) i0 v0 := u2_s
    generalize u2 I (58 + r0) i0 v0 = J at e1 o1 s1
    have e2 := F_wrt (X := X) (d := d) (D := D) (P := P) (N := N) (I := J) (a := a1) (b := a2) (v := a3) (fun r hr => by rw [o1 74 (by omega)]; exact (ho.1 r hr).2.2.2.1)
    rw [o1 73 (by omega), o1 74 (by omega), if_pos hv, hr0, hi0, hv0] at e2
    have o2 : ∀ c, c ≠ 75 → u2 J 75 (40 * r0 + i0) v0 c = J c := fun c hc => u2_o hc
    have s2 : u2 J 75 (40 * r0 + i0) v0 75 = upd (J 75) (40 * r0 + i0) v0 := u2_s
    generalize u2 J 75 (40 * r0 + i0) v0 = K at e2 o2 s2
    have o : ∀ c, c ≠ 75 → c ≠ 58 + r0 → K c = I c := fun c h1 h2 => (o2 c h1).trans (o1 c h2)
    refine ⟨_, D, J, K, P, N, ra, rk, e1, e2, h.hst (fun c h1 h2 => o c (by omega) (by omega)) (by rw [o 0 (by omega) (by omega)]) (by rw [o 65 (by omega) (by omega)]) (tp.cg (by rw [o 65 (by omega) (by omega)]) (by rw [o 0 (by omega) (by omega)]) (o 72 (by omega) (by omega)) (o 49 (by omega) (by omega))) (rw'.cg (by rw [o 65 (by omega) (by omega)]) (by rw [o 0 (by omega) (by omega)]) (o 71 (by omega) (by omega)) (fun w hw => o _ (by omega) (by omega))) ⟨?_, HsB.cg ho.2.1 (fun c hc => o c (by omega) (by omega)), HsC.cg ho.2.2 (o 54 (by omega) (by omega)) (o 64 (by omega) (by omega)) (o 79 (by omega) (by omega)) (by rw [o 65 (by omega) (by omega)])⟩, Nat.le_refl _, by omega⟩
    intro r hr
    obtain ⟨g1, g2, g3, g4, g5⟩ := ho.1 r hr
    rw [o 55 (by omega) (by omega), o 56 (by omega) (by omega), o 73 (by omega) (by omega), o 74 (by omega) (by omega), s2, o2 _ (by omega), o1 75 (by omega)]
    refine ⟨g1, g2, g3, g4, fun j hj => ?_⟩
    by_cases c1 : r = r0
    · rw [c1, s1]
      by_cases c2 : j = i0
      · rw [c2, upd_s, upd_s]
      · rw [upd_o c2, upd_o (by omega), ← c1]; exact g5 j hj
    · rw [o1 _ (by omega), upd_o (by omega)]; exact g5 j hj
  · rw [if_neg hv] at e1
    have e2 := F_wrt (X := X) (d := d) (D := D) (P := P) (N := N) (I := I) (a := a1) (b := a2) (v := a3) (fun r hr => (ho.1 r hr).2.2.2.1)
    rw [if_neg hv] at e2
    exact ⟨_, D, I, I, P, N, ra, rk, e1, e2, h, Nat.le_refl _, by omega⟩
theorem itm_eq (h : HsA I) : itmV (I 55) (I 56) a b c (I (58 + a.toNatClampNeg) c.toNatClampNeg) = itmV (I 73) (I 74) a b c (I 75 (40 * a.toNatClampNeg + c.toNatClampNeg)) := by
  unfold itmV
  by_cases h1 : (bt a 0 3 && bt b 0 4) = true
  · have h1' := h1
    rw [Bool.and_eq_true] at h1'
    have q := (b0k h1'.1).1
    obtain ⟨g1, g2, g3, g4, g5⟩ := h a.toNatClampNeg (by omega)
    rw [g1, g2, if_pos h1, if_pos h1]
    by_cases h2 : rfuV (I 73 a.toNatClampNeg) b = 0
    · rw [if_pos h2, if_pos h2]
      by_cases h3 : itI (I 74 a.toNatClampNeg) c = true
      · rw [if_pos h3, if_pos h3]; exact g5 _ (itI_lt h3 g4)
      · rw [if_neg h3, if_neg h3]
    · rw [if_neg h2, if_neg h2]
  · rw [if_neg h1, if_neg h1]
theorem S_38 : StepC X 146 [.ref 0, .int a1, .int a2, .int a3, U_] 258 [.ref 65, .int a1, .int a2, .int a3, U_] := by
  intro d D I P N ra rk h
  obtain ⟨tp, rw', ho, -⟩ := id h.2.2
  have e1 := N_itm (X := X) (d := d) (D := D) (P := P) (N := N) (I := I) (a := a1) (b := a2) (c := a3) (HsA.bb ho.1)
  have e2 := F_itm (X := X) (d := d) (D := D) (P := P) (N := N) (I := I) (a := a1) (b := a2) (c := a3) (fun r hr => (ho.1 r hr).2.2.2.1)
  rw [itm_eq ho.1] at e1
  exact ⟨_, D, I, I, P, N, ra, rk, e1, e2, h, Nat.le_refl _, by omega⟩
theorem itw_eq (h : HsA I) : itwV (I 55) a c = itwV (I 73) a c := by
  unfold itwV
  by_cases h1 : (bt a 0 3 && bt c 0 20) = true
  · have h1' := h1
    rw [Bool.and_eq_true] at h1'
    have q := (b0k h1'.1).1
    rw [if_pos h1, if_pos h1, (h a.toNatClampNeg (by omega)).1]
  · rw [if_neg h1, if_neg h1]
theorem itw_a {T : Nat → Int32} (h : itwV T a c = 0) : a.toNatClampNeg < 4 := by
  unfold itwV at h
  by_cases h1 : (bt a 0 3 && bt c 0 20) = true
  · rw [Bool.and_eq_true] at h1
    have q := (b0k h1.1).1
    omega
  · rw [if_neg h1] at h; exact absurd h (by decide)
theorem tla_eq (h : HsA I) : tlaV (I 55) (I 56) (fun r j => I (58 + r) j) a b c s = tlaV (I 73) (I 74) (fun r j => I 75 (40 * r + j)) a b c s := by
  unfold tlaV
  rw [itw_eq h]
  by_cases h1 : itwV (I 73) a c = 0
  · rw [if_pos h1, if_pos h1]
    obtain ⟨g1, g2, g3, g4, g5⟩ := h a.toNatClampNeg (itw_a h1)
    rw [g2]; exact tla_of g4 g5 _ _ _ _
  · rw [if_neg h1, if_neg h1]
theorem wco_eq (h : HsA I) : wcoV (I 55) (I 56) (fun r j => I (58 + r) j) a b c s = wcoV (I 73) (I 74) (fun r j => I 75 (40 * r + j)) a b c s := by
  unfold wcoV
  rw [itw_eq h]
  by_cases h1 : itwV (I 73) a c = 0
  · rw [if_pos h1, if_pos h1]
    obtain ⟨g1, g2, g3, g4, g5⟩ := h a.toNatClampNeg (itw_a h1)
    have e : wcoF (fun j => I (58 + a.toNatClampNeg) j) (I 74 a.toNatClampNeg) c.toNatClampNeg b s = wcoF (fun j => I 75 (40 * a.toNatClampNeg + j)) (I 74 a.toNatClampNeg) c.toNatClampNeg b s := wco_of g4 g5 _ _ _
    rw [g2]
    simp only [e]
  · rw [if_neg h1, if_neg h1]
theorem S_39 : StepC X 147 [.ref 0, .int a1, .int a2, .int a3, U_, U_, U_] 261 [.ref 65, .int a1, .int a2, .int a3, U_, U_, U_, U_] := by
  intro d D I P N ra rk h
  obtain ⟨tp, rw', ho, -⟩ := id h.2.2
  obtain ⟨ok, o2, o3⟩ := id h.1
  obtain ⟨I1, e1, c2, c3, c4⟩ := N_tla (X := X) (d := d) (a := a1) (b := a2) (c := a3) (ok_up ok) o2 o3 (HsA.bb ho.1)
  rw [tla_eq ho.1] at e1 c2
  have f := frc_lo (n := 0) o2 c4
  have h74 : ∀ r, r < 4 → bt (I1 74 r) 0 40 = true := fun r hr => by rw [f 74 (by omega)]; exact (ho.1 r hr).2.2.2.1
  obtain ⟨I2, r1, r2⟩ := F_tla (X := X) (I := I1) (a := a1) (b := a2) (c := a3) (by rw [f 66 (by omega)]; exact ok_up ok) h74 d D P N
  rw [f 66 (by omega), f 73 (by omega), f 74 (by omega), f 75 (by omega)] at r1 r2
  exact ⟨_, D, I1, I2, P, N, ra, rk, e1, r1, fin_A h c4 r2 c2 c3 (ok9_tla ok).1 (ok9_tla ok).2, Nat.le_refl _, by omega⟩
theorem S_40 : StepC X 148 [.ref 0, .int a1, .int a2, .int a3, U_, U_, U_] 262 [.ref 65, .int a1, .int a2, .int a3, U_, U_] := by
  intro d D I P N ra rk h
  obtain ⟨tp, rw', ho, -⟩ := id h.2.2
  obtain ⟨ok, o2, o3⟩ := id h.1
  obtain ⟨I1, e1, c2, c3, c4⟩ := N_wco (X := X) (d := d) (a := a1) (b := a2) (c := a3) (ok_up ok) o2 o3 (HsA.bb ho.1)
  rw [wco_eq ho.1] at e1
  have f := frc_lo (n := 0) o2 c4
  have h74 : ∀ r, r < 4 → bt (I1 74 r) 0 40 = true := fun r hr => by rw [f 74 (by omega)]; exact (ho.1 r hr).2.2.2.1
  obtain ⟨I2, r1, r2⟩ := F_wco (X := X) (I := I1) (a := a1) (b := a2) (c := a3) (by rw [f 66 (by omega)]; exact ok_up ok) h74 d D P N
  rw [f 66 (by omega), f 73 (by omega), f 74 (by omega), f 75 (by omega)] at r1 r2
  exact ⟨_, D, I1, I2, P, N, ra, rk, e1, r1, fin_A h c4 r2 c2 c3 ok rfl, Nat.le_refl _, by omega⟩
theorem S_41 : StepC X 149 [.ref 0, .int a1, .int a2, .int a3] 263 [.ref 65, .int a1, .int a2, .int a3] := by
  intro d D I P N ra rk h
  obtain ⟨tp, rw', ho, -⟩ := id h.2.2
  obtain ⟨ok, o2, o3⟩ := id h.1
  have e1 := N_shf (X := X) (d := d) (a := a1) (b := a2) (c := a3) ok.1 o2 (HsA.bb ho.1)
  by_cases hv : okS (I 66) a1 a2 a3 = true
  · rw [if_pos hv, if_pos hv] at e1
    have e2 := F_shf (X := X) (d := d) (D := D) (P := P) (N := N) (m := 9) (I := shfC I a1.toNatClampNeg a2 a3) (a := a1) (b := a2) (c := a3) (show Gd (shfC I a1.toNatClampNeg a2 a3 66) 9 from ok.1)
    rw [show shfC I a1.toNatClampNeg a2 a3 66 = I 66 from rfl, if_pos hv, if_pos hv] at e2
    have q1 : a1.toNatClampNeg < 4 ∧ ((a2 = 0) ∨ (a2 = 1 ∧ a3.toNatClampNeg < 4) ∨ a2 = 2) := by
      unfold okS at hv
      simp only [Bool.and_eq_true, Bool.or_eq_true, decide_eq_true_eq] at hv
      have := (b0k hv.1).1
      refine ⟨by omega, ?_⟩
      rcases hv.2 with (⟨w, -⟩ | ⟨w, w'⟩) | w
      · exact Or.inl w
      · exact Or.inr (Or.inl ⟨w, by have := (b0k w').1; omega⟩)
      · exact Or.inr (Or.inr w)
    obtain ⟨r0, hr0⟩ : ∃ r0, a1.toNatClampNeg = r0 := ⟨_, rfl⟩
    rw [hr0] at e1 e2 q1
    have o1 : ∀ c, c ≠ 62 → c ≠ 63 → shfC I r0 a2 a3 c = I c := fun c h1 h2 => by unfold shfC; rw [u2_o h2, u2_o h1]
    have s62 : shfC I r0 a2 a3 62 = upd (I 62) r0 (sh62 I a2 a3) := rfl
    have s63 : shfC I r0 a2 a3 63 = upd (I 63) r0 (sh63 I a2 a3) := rfl
    generalize shfC I r0 a2 a3 = J at e1 e2 o1 s62 s63
    have o2' : ∀ c, c ≠ 76 → c ≠ 77 → c ≠ 78 → shfM J r0 a2 a3 c = J c := fun c h1 h2 h3 => by unfold shfM; rw [u2_o h3, u2_o h2, u2_o h1]
    have s76 : shfM J r0 a2 a3 76 = upd (J 76) r0 (sh76 J a2 a3) := rfl
    have s77 : shfM J r0 a2 a3 77 = upd (J 77) r0 (sh77 J a2 a3) := rfl
    have s78 : shfM J r0 a2 a3 78 = upd (J 78) r0 (sh78 J a2 a3) := rfl
    generalize shfM J r0 a2 a3 = K at e2 o2' s76 s77 s78
    have o : ∀ c, c ≠ 62 → c ≠ 63 → c ≠ 76 → c ≠ 77 → c ≠ 78 → K c = I c := fun c h1 h2 h3 h4 h5 => (o2' c h3 h4 h5).trans (o1 c h1 h2)
    have oo : ∀ c, c < 62 ∨ 63 < c → c < 76 ∨ 78 < c → K c = I c := fun c h1 h2 => o c (by omega) (by omega) (by omega) (by omega) (by omega)
    refine ⟨_, D, J, K, P, N, ra, rk, e1, e2, h.hst (fun c h1 h2 => oo c (by omega) (by omega)) (by rw [oo 0 (by omega) (by omega)]) (by rw [oo 65 (by omega) (by omega)]) (tp.cg (by rw [oo 65 (by omega) (by omega)]) (by rw [oo 0 (by omega) (by omega)]) (oo 72 (by omega) (by omega)) (oo 49 (by omega) (by omega))) (rw'.cg (by rw [oo 65 (by omega) (by omega)]) (by rw [oo 0 (by omega) (by omega)]) (oo 71 (by omega) (by omega)) (fun w hw => oo _ (by omega) (by omega))) ⟨HsA.cg ho.1 (fun c hc => oo c (by omega) (by omega)), ?_, HsC.cg ho.2.2 (oo 54 (by omega) (by omega)) (oo 64 (by omega) (by omega)) (oo 79 (by omega) (by omega)) (by rw [oo 65 (by omega) (by omega)])⟩, Nat.le_refl _, by omega⟩
    intro r hr
    rw [o2' 62 (by omega) (by omega) (by omega), o2' 63 (by omega) (by omega) (by omega), s62, s63, s76, s77, s78, o1 76 (by omega) (by omega), o1 77 (by omega) (by omega), o1 78 (by omega) (by omega)]
    by_cases c1 : r = r0
    · rw [c1, upd_s, upd_s, upd_s, upd_s, upd_s]
      unfold sh62 sh63 sh76 sh77 sh78
      rw [o1 73 (by omega) (by omega), o1 74 (by omega) (by omega)]
      rcases q1.2 with rfl | ⟨rfl, q⟩ | rfl
      · exact Or.inr (Or.inl ⟨rfl, rfl, rfl⟩)
      · obtain ⟨g1, g2, g3, g4, -⟩ := ho.1 _ q
        rw [g1, g2]
        generalize I 73 a3.toNatClampNeg = x at g3 ⊢
        generalize I 74 a3.toNatClampNeg = y at g4 ⊢
        have h3 := bt_iff.mp g3
        show shR x (if x = -1 then 0 else y) (if x < 0 then 0 else 2) y x
        by_cases c2 : x < 0
        · rw [if_pos c2]
          have c3 : x.toInt < 0 := Int32.lt_iff_toInt_lt.mp c2
          exact Or.inl ⟨rfl, Int32.toInt_inj.mp (show x.toInt = -1 by omega)⟩
        · rw [if_neg c2]
          have c3 : ¬ x.toInt < 0 := fun q => c2 (Int32.lt_iff_toInt_lt.mpr q)
          exact Or.inr (Or.inr ⟨rfl, by omega, rfl, if_neg (fun q => c2 (by rw [q]; decide))⟩)
      · exact Or.inl ⟨rfl, rfl⟩
    · rw [upd_o c1, upd_o c1, upd_o c1, upd_o c1, upd_o c1]; exact ho.2.1 r hr
  · rw [if_neg hv, if_neg hv] at e1
    have e2 := F_shf (X := X) (d := d) (D := D) (P := P) (N := N) (m := 9) (I := I) (a := a1) (b := a2) (c := a3) ok.1
    rw [if_neg hv, if_neg hv] at e2
    exact ⟨_, D, I, I, P, N, ra, rk, e1, e2, h, Nat.le_refl _, by omega⟩
theorem S_42 : StepC X 150 [.ref 0, .int a1, .int a2, U_, U_] 265 [.ref 65, .int a1, .int a2, U_, U_] := by
  intro d D I P N ra rk h
  obtain ⟨tp, rw', ho, -⟩ := id h.2.2
  obtain ⟨ok, o2, o3⟩ := id h.1
  have e1 := N_tkn (X := X) (d := d) (a := a1) (b := a2) ok.1 o2
  have e2 := F_tkn (X := X) (d := d) (D := D) (P := P) (N := N) (m := 9) (I := I) (a := a1) (b := a2) ok.1
    (fun r hr => by
      rcases ho.2.1 r hr with ⟨q, -⟩ | ⟨q, -⟩ | ⟨q, -⟩
      · exact Or.inl q
      · exact Or.inr (Or.inl q)
      · exact Or.inr (Or.inr q))
    (fun r hr _ hA => by
      have h1 := bt_iff.mp hA
      have h2 := bt_iff.mp ok.1.1.1
      exact bt_iff.mpr ⟨h1.1, by omega⟩)
  have ev : takC (I 66) a1 a2 (I 62 a1.toNatClampNeg) (I 63 a1.toNatClampNeg) = takV (I 66) a1 a2 (I 76 a1.toNatClampNeg) (I 77 a1.toNatClampNeg) (I 78 a1.toNatClampNeg) := by
    by_cases hb : bt a1 0 3 = true
    · have q := (b0k hb).1
      exact tak_eq ok.1 (ho.2.1 _ (by omega))
    · unfold takC takV
      rw [Bool.not_eq_true] at hb
      simp only [hb, Bool.false_and]
      rfl
  rw [ev] at e1
  exact ⟨_, D, I, I, P, N, ra, rk, e1, e2, h, Nat.le_refl _, by omega⟩
theorem atO_f : atO s false x w a = (0, []) := by
  unfold atO
  rw [Bool.false_and, if_neg (by decide)]
theorem S_43 : StepC X 151 [.ref 0, .int a1, .int a2, .int a3, U_, U_] 272 [.ref 65, .int a1, .int a2, .int a3, U_] := by
  intro d D I P N ra rk h
  obtain ⟨tp, rw', ho, -⟩ := id h.2.2
  obtain ⟨ok, o2, o3⟩ := id h.1
  obtain ⟨I1, e1, c1, c2, c3⟩ := N_act (X := X) (d := d) (v := a1) (w := a2) (x := a3) ok.1 o2
  have f1 : ∀ c, c < 54 ∨ 64 < c → I1 c = I c := fun c hc => c1 c (by omega) (by omega)
  obtain ⟨I2, e2, d1, d2, d3, d4⟩ := F_act (X := X) (d := d) (D := D) (P := P) (N := N) (m := 9) (I := I1) (v := a1) (w := a2) (x := a3) (by rw [f1 66 (by omega)]; exact ok.1)
  rw [f1 66 (by omega), f1 76 (by omega), f1 77 (by omega)] at e2 d3 d4
  have ev : atO (I 66) (bt a1 0 3 && (decide (I 62 a1.toNatClampNeg = -2) && isA (I 66) (I 63 a1.toNatClampNeg))) (I 63 a1.toNatClampNeg) a2 a3 = atO (I 66) (bt a1 0 3 && onS (I 66) (I 76 a1.toNatClampNeg) (I 77 a1.toNatClampNeg)) (I 77 a1.toNatClampNeg) a2 a3 := by
    unfold onS
    cases hb : bt a1 0 3 with
    | false => rw [Bool.false_and, Bool.false_and, atO_f, atO_f]
    | true =>
      have q := (b0k hb).1
      rcases ho.2.1 a1.toNatClampNeg (by omega) with ⟨q1, q2⟩ | ⟨q1, q2, q3⟩ | ⟨q1, q2, q3, q4⟩
      · have z1 : decide (I 62 a1.toNatClampNeg = -2) = false := decide_eq_false (by rw [q2]; decide)
        have z2 : decide (I 76 a1.toNatClampNeg = 1) = false := decide_eq_false (by rw [q1]; decide)
        rw [z1, z2, Bool.false_and, Bool.false_and, Bool.and_false, atO_f, atO_f]
      · have z1 : decide (I 62 a1.toNatClampNeg = -2) = true := decide_eq_true q2
        have z2 : decide (I 76 a1.toNatClampNeg = 1) = true := decide_eq_true q1
        rw [z1, z2, q3]
      · have z1 : decide (I 62 a1.toNatClampNeg = -2) = false := decide_eq_false (fun q => by rw [q] at q2; exact absurd q2 (by decide))
        have z2 : decide (I 76 a1.toNatClampNeg = 1) = false := decide_eq_false (by rw [q1]; decide)
        rw [z1, z2, Bool.false_and, Bool.false_and, Bool.and_false, atO_f, atO_f]
  rw [ev] at e1 c2 c3
  have hn := atO_n (s := I 66) (on := bt a1 0 3 && onS (I 66) (I 76 a1.toNatClampNeg) (I 77 a1.toNatClampNeg)) (y := I 77 a1.toNatClampNeg) (w := a2) (x := a3)
  generalize (atO (I 66) (bt a1 0 3 && onS (I 66) (I 76 a1.toNatClampNeg) (I 77 a1.toNatClampNeg)) (I 77 a1.toNatClampNeg) a2 a3).2 = T at c2 c3 d3 d4 hn
  have o : ∀ c, c < 54 ∨ 64 < c → c ≠ 65 → c ≠ 79 → I2 c = I c := fun c h1 h2 h3 => (d1 c h2 h3).trans (f1 c h1)
  have o' : ∀ c, c ≠ 54 → c ≠ 64 → c ≠ 65 → c ≠ 79 → I2 c = I c := fun c h0 h1 h2 h3 => (d1 c h2 h3).trans (c1 c h0 h1)
  have o65 : ∀ k, k < 27 → I2 65 k = I 65 k := fun k hk => by rw [d2 k hk, f1 65 (by omega)]
  refine ⟨_, D, I1, I2, P, N, ra, rk, e1, e2, h.hst (fun c h1 h2 => o c (by omega) (by omega) (by omega)) (by rw [o 0 (by omega) (by omega) (by omega)]) (o65 3 (by omega)) (tp.cg (o65 13 (by omega)) (by rw [o 0 (by omega) (by omega) (by omega)]) (o 72 (by omega) (by omega) (by omega)) (o 49 (by omega) (by omega) (by omega))) (rw'.cg (o65 11 (by omega)) (by rw [o 0 (by omega) (by omega) (by omega)]) (o 71 (by omega) (by omega) (by omega)) (fun w hw => o _ (by omega) (by omega) (by omega))) ⟨HsA.cg ho.1 (fun c hc => o' c (by omega) (by omega) (by omega) (by omega)), HsB.cg ho.2.1 (fun c hc => o' c (by omega) (by omega) (by omega) (by omega)), ?_⟩, Nat.le_refl _, by omega⟩
  have e54 : I2 54 = I1 54 := d1 54 (by omega) (by omega)
  have e64 : I2 64 = I1 64 := d1 64 (by omega) (by omega)
  rw [e54, e64, c2, d3]
  refine ⟨rfl, bt_iff.mpr ?_, fun j hj => ?_⟩
  · rw [iN_ti (by omega)]; exact ⟨by omega, by omega⟩
  · rw [iN_cl (by omega)] at hj
    rw [c3 j hj, d4 j hj]
theorem S_44 : StepC X 152 [.ref 0, .int a1] 274 [.ref 65, .int a1] := by
  intro d D I P N ra rk h
  obtain ⟨tp, rw', ho, -⟩ := id h.2.2
  obtain ⟨g1, g2, g3⟩ := ho.2.2
  obtain ⟨q1, q2⟩ := b0k g2
  have e1 := N_trc (X := X) (d := d) (D := D) (P := P) (N := N) (I := I) (x := a1) (n := (I 65 27).toNatClampNeg) (by rw [g1]; exact q2) (by omega)
  have e2 := F_trc (X := X) (d := d) (D := D) (P := P) (N := N) (I := I) (x := a1) (n := (I 65 27).toNatClampNeg) q2 (by omega)
  have ev : (if bt a1 0 (((I 65 27).toNatClampNeg : Int) - 1) = true then I 64 a1.toNatClampNeg else (-3 : Int32)) = (if bt a1 0 (((I 65 27).toNatClampNeg : Int) - 1) = true then I 79 a1.toNatClampNeg else -3) := by
    by_cases hb : bt a1 0 (((I 65 27).toNatClampNeg : Int) - 1) = true
    · rw [if_pos hb, if_pos hb]; exact g3 _ (b0n hb).1
    · rw [if_neg hb, if_neg hb]
  rw [ev] at e1
  exact ⟨_, D, I, I, P, N, ra, rk, e1, e2, h, Nat.le_refl _, by omega⟩
theorem S_45 : StepC X 153 [.ref 0, .int a1] 275 [.ref 65, .int a1] := by
  intro d D I P N ra rk h
  obtain ⟨⟨p, t1, t2, t3, t4⟩, ⟨n, w1, w2, w3, w4⟩, ho, -⟩ := id h.2.2
  obtain ⟨g1, g2, g3⟩ := ho.2.2
  have e1 := N_man (X := X) (d := d + 40) (x := a1) h.1.2.1
  have e2 := F_man (X := X) (d := d + 39) (D := D) (P := P) (N := N) (I := I) (x := a1)
  have m30 : mn30 (I 65 27) = I 65 27 := by
    have h1 := bt_iff.mp g2
    unfold mn30
    by_cases c : 30 ≤ I 65 27
    · rw [if_pos c]
      have h2 : (30 : Int) ≤ (I 65 27).toInt := Int32.le_iff_toInt_le.mp c
      exact Int32.toInt_inj.mp (show (30 : Int) = (I 65 27).toInt by omega)
    · rw [if_neg c]
  rw [t1, w1, m30] at e2
  rw [t2, w2, g1] at e1
  exact ⟨_, D, I, I, P, N, ra, rk, e1, e2, h, Nat.le_refl _, by omega⟩
end LawH
