/-! the law's invariant; the calls on the ride -/
def TapR (I : Nat → Nat → Int32) : Prop := ∃ p, I 65 13 = Int32.ofNat p ∧ I 0 6 = Int32.ofNat p ∧ p ≤ 200 ∧ ∀ j, j < p → bt (I 72 j) 0 255 = true ∧ I 49 j = (I 72 j).toInt8.toInt32
def RwsR (I : Nat → Nat → Int32) : Prop := ∃ n, I 65 11 = Int32.ofNat n ∧ I 0 8 = Int32.ofNat n ∧ n ≤ 4 ∧ ∀ w i, w < 3 → i < n → I (51 + w) i = I 71 (3 * i + w)
def KepR (D : Nat → Nat × Nat) (I : Nat → Nat → Int32) (P : Nat → Nat → Option Nat) (N : Nat) (ra rk : Nat → Nat) : Prop := (I 65 3 = 0 ∧ I 0 2 = 0) ∨ (I 65 3 = 1 ∧ I 0 2 = 1 ∧ Ok (I 67) 9 ∧ RideR (I 67) D I P N 16 rk ∧ ∀ i j, i < ctA (I 66) → j < ctA (I 67) → ra i ≠ rk j)
def KzR (D : Nat → Nat × Nat) (N : Nat) : Prop := ∀ a, 80 ≤ a → a < 80 + N → kz (D a) ≤ 100
def LI (D : Nat → Nat × Nat) (I : Nat → Nat → Int32) (P : Nat → Nat → Option Nat) (N : Nat) (ra rk : Nat → Nat) : Prop := (Ok (I 66) 9 ∧ RideR (I 66) D I P N 1 ra ∧ I 31 5 = 0) ∧ KepR D I P N ra rk ∧ TapR I ∧ RwsR I ∧ HosR I ∧ KzR D N
def StepC (X : mX) (yc : Nat) (Lc : List Value) (yr : Nat) (Lr : List Value) : Prop := ∀ d D I P N ra rk, LI D I P N ra rk → ∃ v D' I1 I2 P' N' ra' rk', Rn X (d + 40) yc 0 Lc [] (Mh D I P N) = some ([.int v], Mh D' I1 P' N') ∧ Rn X (d + 40) yr 0 Lr [] (Mh D' I1 P' N') = some ([.int v], Mh D' I2 P' N') ∧ LI D' I2 P' N' ra' rk' ∧ N ≤ N' ∧ N' ≤ N + 9
def HldA (I J : Nat → Nat → Int32) : Prop := (J 0 = I 0 ∧ J 65 3 = I 65 3 ∧ J 65 11 = I 65 11 ∧ J 65 13 = I 65 13 ∧ J 65 27 = I 65 27) ∧ (∀ c, 49 ≤ c → c ≤ 64 → J c = I c) ∧ (∀ c, 71 ≤ c → c ≤ 79 → J c = I c)
section Law
variable {X : mX} {d : Nat} {D : Nat → Nat × Nat} {I : Nat → Nat → Int32} {P : Nat → Nat → Option Nat} {N : Nat} {h : mH} {s t u : Nat → Int32} {J J' I' I1 I2 : Nat → Nat → Int32} {D' : Nat → Nat × Nat} {P' : Nat → Nat → Option Nat} {N' : Nat} {ra rk ra' rk' : Nat → Nat} {m : Int} {i j k n p q yc yr : Nat} {Lc Lr : List Value} {x v w a b c e a1 a2 a3 a4 : Int32}
theorem TapR.of (h : TapR I) (hh : HldA I J) : TapR J := by
  obtain ⟨p, h1, h2, h3, h4⟩ := h
  obtain ⟨⟨e0, e3, e11, e13, e27⟩, el, eh⟩ := hh
  exact ⟨p, e13.trans h1, by rw [e0]; exact h2, h3, by rw [eh 72 (by decide) (by decide), el 49 (by decide) (by decide)]; exact h4⟩
theorem RwsR.of (h : RwsR I) (hh : HldA I J) : RwsR J := by
  obtain ⟨n, h1, h2, h3, h4⟩ := h
  obtain ⟨⟨e0, e3, e11, e13, e27⟩, el, eh⟩ := hh
  refine ⟨n, e11.trans h1, by rw [e0]; exact h2, h3, fun w i hw hi => ?_⟩
  rw [el _ (by omega) (by omega), eh 71 (by decide) (by decide)]; exact h4 w i hw hi
theorem HosR.of (h : HosR I) (hh : HldA I J) : HosR J := by
  obtain ⟨h1, h2, h3, h4, h5⟩ := h
  obtain ⟨⟨e0, e3, e11, e13, e27⟩, el, eh⟩ := hh
  refine ⟨fun r hr => ?_, fun k hk => ?_, ?_, ?_, ?_⟩
  · rw [el 55 (by decide) (by decide), el 56 (by decide) (by decide), el (58 + r) (by omega) (by omega), eh 73 (by decide) (by decide), eh 74 (by decide) (by decide), eh 75 (by decide) (by decide)]; exact h1 r hr
  · rw [el 62 (by decide) (by decide), el 63 (by decide) (by decide), eh 76 (by decide) (by decide), eh 77 (by decide) (by decide), eh 78 (by decide) (by decide)]; exact h2 k hk
  · rw [el 54 (by decide) (by decide), e27]; exact h3
  · rw [e27]; exact h4
  · rw [el 64 (by decide) (by decide), eh 79 (by decide) (by decide), e27]; exact h5
/-- the kept ride under a change of the other one's cells -/
theorem kep_f (hk : RideR u D I P N 16 rk) (ho : RideR s D I P N 1 ra) (hd : ∀ i j, i < ctA s → j < ctA u → ra i ≠ rk j) (hf : FrC (ctA s) ra I I1) (hs : ∀ c, c < 65 ∨ 79 < c → I2 c = I1 c) : RideR u D I2 P N 16 rk := by
  have r80 : ∀ i, i < ctA s → 80 ≤ ra i := fun i hi => (ho.2.2.2.1 i hi).2.1.1
  have f : ∀ c, 16 ≤ c → c ≤ 30 → I2 c = I c := fun c q1 q2 => (hs c (by omega)).trans (hf c (by omega) (by omega) (by omega) (by omega) (by omega) (by omega) (by omega) (fun i hi => by have := r80 i hi; omega))
  refine hk.mono (fun _ _ _ => rfl) (Nat.le_refl _) (f _ (by omega) (by omega)) (f _ (by omega) (by omega)) (f _ (by omega) (by omega)) (f _ (by omega) (by omega)) (f _ (by omega) (by omega)) (fun j hj => ?_) (fun q hq _ j hj => ?_) (fun _ _ => rfl) rfl
  · have k80 := (hk.2.2.2.1 j hj).2.1.1
    exact (hs _ (by omega)).trans (hf _ (by omega) (by omega) (by omega) (by omega) (by omega) (by omega) (by omega) (fun i hi => fun e => hd i j hi hj e.symm))
  · have h1 := hq.1
    have h2 := hq.ne hj
    have hA : ∀ i, i < ctA s → q + j ≠ ra i := fun i hi => hq.nA (ho.2.2.2.1 i hi).2.at hj
    exact (hs _ (by omega)).trans (hf _ (by omega) (by omega) (by omega) (by omega) (by omega) (by omega) (by omega) hA)
theorem ride_s (hr : RideR t D I1 P N 1 ra) (hs : ∀ c, c < 65 ∨ 79 < c → I2 c = I1 c) : RideR t D I2 P N 1 ra :=
  hr.mono (fun _ _ _ => rfl) (Nat.le_refl _) (hs _ (by omega)) (hs _ (by omega)) (hs _ (by omega)) (hs _ (by omega)) (hs _ (by omega)) (fun j hj => hs _ (by have := (hr.2.2.2.1 j hj).2.1.1; omega)) (fun q hq _ j hj => hs _ (by have := hq.1; omega)) (fun _ _ => rfl) rfl
theorem frc_lo {n : Nat} (hr : RideR s D I P N 1 ra) (hf : FrC (ctA s) ra I I1) : ∀ c, (c = 0 ∨ (36 ≤ c ∧ c < 80)) → I1 c = I c := fun c hc => hf c (by omega) (by omega) (by omega) (by omega) (by omega) (by omega) (by omega) (fun i hi => by have := (hr.2.2.2.1 i hi).2.1.1; omega)
theorem fin_A (h : LI D I P N ra rk) (hf : FrC (ctA (I 66)) ra I I1) (hs : Sc (u2r I1 66 t) I2) (hr : RideR t D I1 P N 1 ra) (h31 : I1 31 5 = 0) (ok : Ok t 9) (hc : ctA t = ctA (I 66)) : LI D I2 P N ra rk := by
  obtain ⟨⟨o1, o2, o3⟩, k, tp, rw', ho, kz⟩ := h
  have f := frc_lo (n := 0) o2 hf
  have s2 : ∀ c, c < 65 ∨ 79 < c → I2 c = I1 c := fun c hc => by rw [hs.1 c hc, u2r_o (by omega)]
  have e66 : I2 66 = t := hs.2.1.1.trans u2r_s
  have sh : ∀ c, c ≠ 66 → u2r I1 66 t c = I1 c := fun c hc => u2r_o hc
  obtain ⟨z0, ⟨z66, z67, z71, z72, z73, z74, z75, z76, z77, z78, z79⟩, z3, z11, z13, z27⟩ := hs
  have e67 : I2 67 = I 67 := by rw [z67, sh 67 (by decide), f 67 (by omega)]
  have e65 : ∀ k, I2 65 k = u2r I1 66 t 65 k → I2 65 k = I 65 k := fun k e => by rw [e, sh 65 (by decide), f 65 (by omega)]
  have hl : HldA I I2 := by
    refine ⟨⟨by rw [s2 0 (by omega), f 0 (by omega)], e65 3 z3, e65 11 z11, e65 13 z13, e65 27 z27⟩, fun c q1 q2 => by rw [s2 c (by omega), f c (by omega)], fun c q1 q2 => ?_⟩
    have : c = 71 ∨ c = 72 ∨ c = 73 ∨ c = 74 ∨ c = 75 ∨ c = 76 ∨ c = 77 ∨ c = 78 ∨ c = 79 := by omega
    rcases this with rfl | rfl | rfl | rfl | rfl | rfl | rfl | rfl | rfl
    · rw [z71, sh _ (by decide), f _ (by omega)]
    · rw [z72, sh _ (by decide), f _ (by omega)]
    · rw [z73, sh _ (by decide), f _ (by omega)]
    · rw [z74, sh _ (by decide), f _ (by omega)]
    · rw [z75, sh _ (by decide), f _ (by omega)]
    · rw [z76, sh _ (by decide), f _ (by omega)]
    · rw [z77, sh _ (by decide), f _ (by omega)]
    · rw [z78, sh _ (by decide), f _ (by omega)]
    · rw [z79, sh _ (by decide), f _ (by omega)]
  refine ⟨⟨by rw [e66]; exact ok, by rw [e66]; exact ride_s hr s2, by rw [s2 31 (by omega)]; exact h31⟩, ?_, tp.of hl, rw'.of hl, ho.of hl, kz⟩
  rcases k with ⟨k1, k2⟩ | ⟨k1, k2, k3, k4, k5⟩
  · exact Or.inl ⟨hl.1.2.1.trans k1, by rw [hl.1.1]; exact k2⟩
  · refine Or.inr ⟨hl.1.2.1.trans k1, by rw [hl.1.1]; exact k2, by rw [e67]; exact k3, ?_, ?_⟩
    · rw [e67]; exact kep_f k4 o2 k5 hf s2
    · rw [e66, e67, hc]; exact k5
theorem stepA (q : (Nat → Int32) → Int32 × (Nat → Int32)) (hC : ∀ s, Ok s 9 → Cf X yc Lc s (q s)) (hR : ∀ I, Ok (I 66) 9 → Rf X I yr Lr (q (I 66))) (hO : ∀ s, Ok s 9 → Ok (q s).2 9 ∧ ctA (q s).2 = ctA s) : StepC X yc Lc yr Lr := by
  intro d D I P N ra rk h
  obtain ⟨o1, o2, o3⟩ := id h.1
  obtain ⟨I1, c1, c2, c3, c4⟩ := hC _ o1 d D I P N ra o2 o3
  have e66 : I1 66 = I 66 := frc_lo (n := 0) o2 c4 66 (by omega)
  obtain ⟨I2, r1, r2⟩ := hR I1 (by rw [e66]; exact o1) d D P N
  rw [e66] at r1 r2
  exact ⟨_, D, I1, I2, P, N, ra, rk, c1, r1, fin_A h c4 r2 c2 c3 (hO _ o1).1 (hO _ o1).2, Nat.le_refl _, by omega⟩
theorem S_1 : StepC X 109 [.ref 0, .int a1, .int a2, U_] 190 [.ref 65, .int a1, .int a2] := stepA (fun s => (pAof s a1 a2, s)) (fun _ ok => N_aof ok) (fun _ ok => F_aof ok) (fun _ ok => ⟨ok, rfl⟩)
theorem S_2 : StepC X 110 [.ref 0, .int a1, .int a2, .int a3, U_, U_] 191 [.ref 65, .int a1, .int a2, .int a3, U_] := stepA (fun s => pChg s a1 a2 a3) (fun _ ok => N_chg ok.1) (fun _ ok => F_chg ok.1) (fun _ ok => ok_chg ok)
theorem S_4 : StepC X 112 [.ref 0, .int a1, .int a2] 178 [.ref 65, .int a1, .int a2, U_] := stepA (fun s => pLeg s a1 a2) (fun _ ok => N_leg ok.1) (fun _ ok => F_leg ok.1) (fun _ ok => ok_leg ok)
theorem S_5 : StepC X 113 [.ref 0, .int a1, .int a2] 179 [.ref 65, .int a1, .int a2] := stepA (fun s => (pLegOf s a1 a2, s)) (fun _ ok => N_legOf ok.1) (fun _ ok => F_legOf ok.1) (fun _ ok => ⟨ok, rfl⟩)
theorem S_6 : StepC X 114 [.ref 0, .int a1, .int a2, .int a3, U_] 180 [.ref 65, .int a1, .int a2, .int a3, U_] := stepA (fun s => pDrv s a1 a2 a3) (fun _ ok => N_drv ok.1) (fun _ ok => F_drv ok.1 (fun h1 h2 => gd_drv ok.1 h1 h2)) (fun _ ok => ok_drv ok)
theorem S_7 : StepC X 115 [.ref 0, .int a1, U_] 193 [.ref 65, .int a1, U_] := stepA (fun s => pBel s a1) (fun _ ok => N_bel ok.1) (fun _ ok => F_bel) (fun _ ok => ok_belP ok)
theorem S_8 : StepC X 116 [.ref 0, .int a1] 194 [.ref 65, .int a1] := stepA (fun s => (pSta s a1, s)) (fun _ ok => N_sta ok.1) (fun _ ok => F_sta ok.1) (fun _ ok => ⟨ok, rfl⟩)
theorem S_9 : StepC X 117 [.ref 0, U_] 195 [.ref 65, U_, U_] := stepA (fun s => (s 4, anwS s)) (fun _ ok => N_anw ok.1) (fun _ ok => F_anw ok.1) (fun _ ok => ok_anw ok)
theorem S_12 : StepC X 120 [.ref 0, .int a1] 198 [.ref 65, .int a1] := stepA (fun s => pSay s a1) (fun _ ok => N_say (ok_up ok)) (fun _ ok => F_say (ok_up ok)) (fun _ ok => ok9_say ok)
theorem S_13 : StepC X 121 [.ref 0] 199 [.ref 65, U_, U_] := stepA (fun s => (canS s, s)) (fun _ ok => N_can ok.1) (fun _ ok => F_can ok.1) (fun _ ok => ⟨ok, rfl⟩)
theorem S_14 : StepC X 122 [.ref 0] 202 [.ref 65, U_] := stepA (fun s => (pFew s, s)) (fun _ ok => N_few (ok_up ok)) (fun _ ok => F_few (ok_up ok)) (fun _ ok => ⟨ok, rfl⟩)
theorem S_15 : StepC X 123 [.ref 0, .int a1, U_] 203 [.ref 65, .int a1] := stepA (fun s => (pIth s a1, s)) (fun _ ok => N_ith (ok_up ok)) (fun _ ok => F_ith (ok_up ok)) (fun _ ok => ⟨ok, rfl⟩)
theorem S_16 : StepC X 124 [.ref 0, .int a1] 206 [.ref 65, .int a1] := stepA (fun s => (pWay s a1, s)) (fun _ ok => N_way (ok_up ok)) (fun _ ok => F_way (ok_up ok)) (fun _ ok => ⟨ok, rfl⟩)
theorem S_17 : StepC X 125 [.ref 0, .int a1] 208 [.ref 65, .int a1] := stepA (fun s => (pFar s a1, s)) (fun _ ok => N_far (ok_up ok)) (fun _ ok => F_far (ok_up ok)) (fun _ ok => ⟨ok, rfl⟩)
theorem S_18 : StepC X 126 [.ref 0, .int a1] 210 [.ref 65, .int a1, U_] := stepA (fun s => (pKin s a1, s)) (fun _ ok => N_kin (ok_up ok)) (fun _ ok => F_kin (ok_up ok)) (fun _ ok => ⟨ok, rfl⟩)
theorem S_19 : StepC X 127 [.ref 0, .int a1, .int a2, U_, U_] 212 [.ref 65, .int a1, .int a2, U_, U_, U_, U_] := stepA (fun s => (pKly s a1 a2, s)) (fun _ ok => N_kly (ok_up ok)) (fun _ ok => F_kly (ok_up ok)) (fun _ ok => ⟨ok, rfl⟩)
theorem S_20 : StepC X 128 [.ref 0, U_, U_, U_, U_] 213 [.ref 65, U_, U_, U_, U_] := stepA (fun s => (pNds s, s)) (fun _ ok => N_nds (ok_up ok)) (fun _ ok => F_nds (ok_up ok)) (fun _ ok => ⟨ok, rfl⟩)
theorem S_21 : StepC X 129 [.ref 0, U_, U_, U_, U_, U_] 214 [.ref 65, U_, U_, U_, U_] := stepA (fun s => (pMor s, s)) (fun _ ok => N_mor ok) (fun _ ok => F_mor ok) (fun _ ok => ⟨ok, rfl⟩)
theorem S_22 : StepC X 130 [.ref 0, .int a1, U_, U_, U_] 215 [.ref 65, .int a1, U_, U_, U_] := stepA (fun s => (pBfo s a1, s)) (fun _ ok => N_bfo (ok_up ok)) (fun _ ok => F_bfo (ok_up ok)) (fun _ ok => ⟨ok, rfl⟩)
theorem S_23 : StepC X 131 [.ref 0, .int a1] 219 [.ref 65, .int a1] := stepA (fun s => (pGam s a1, s)) (fun _ ok => N_gam (ok_up ok)) (fun _ ok => F_gam (ok_up ok)) (fun _ ok => ⟨ok, rfl⟩)
theorem S_24 : StepC X 132 [.ref 0, .int a1] 220 [.ref 65, .int a1, U_, U_] := stepA (fun s => (pPly s a1, s)) (fun _ ok => N_ply (ok_up ok)) (fun _ ok => F_ply (ok_up ok)) (fun _ ok => ⟨ok, rfl⟩)
theorem S_25 : StepC X 133 [.ref 0, .int a1, .int a2, .int a3] 221 [.ref 65, .int a1, .int a2, .int a3, U_] := stepA (fun s => pRep s a1 a2 a3) (fun _ ok => N_rep ok.1) (fun _ ok => F_rep ok.1) (fun _ ok => ok_rep ok)
theorem S_26 : StepC X 134 [.ref 0, U_] 222 [.ref 65, U_] := stepA (fun s => (s 3, upd s 3 0)) (fun _ ok => N_for ok.1) (fun _ ok => F_for) (fun _ ok => ok_for ok)
theorem S_27 : StepC X 135 [.ref 0, .int a1, U_, U_, U_, U_] 224 [.ref 65, .int a1] := stepA (fun s => (pSpn s a1, s)) (fun _ ok => N_spn ok.1) (fun _ ok => F_spn ok.1) (fun _ ok => ⟨ok, rfl⟩)
theorem S_28 : StepC X 136 [.ref 0, U_] 225 [.ref 65, U_, U_] := stepA (fun s => (pLia s, s)) (fun _ ok => N_lia ok.1) (fun _ ok => F_lia ok.1) (fun _ ok => ⟨ok, rfl⟩)
theorem S_29 : StepC X 137 [.ref 0, .int a1, U_] 226 [.ref 65, .int a1, U_] := stepA (fun s => (s 6, upd s 6 a1)) (fun _ ok => N_sed ok.1) (fun _ ok => F_sed) (fun _ ok => ⟨ok_6 ok, ct_u (by decide)⟩)
theorem S_30 : StepC X 138 [.ref 0, U_] 228 [.ref 65, U_, U_, U_, U_] := stepA (fun s => (oV (drwF s), drwS s)) (fun _ ok => N_drw (ok_up ok)) (fun _ ok => F_drw (ok_up ok)) (fun _ ok => ok9_drw ok)
theorem S_31 : StepC X 139 [.ref 0, .int a1, U_, U_, U_] 229 [.ref 65, .int a1, U_, U_, U_, U_] := stepA (fun s => (pOft s a1, s)) (fun _ ok => N_oft (ok_up ok)) (fun _ ok => F_oft (ok_up ok)) (fun _ ok => ⟨ok, rfl⟩)
/-- a call that makes one answer -/
theorem stepG (q : (Nat → Int32) → Int32 × (Nat → Int32)) (hC : ∀ s, Ok s 9 → Cg X yc Lc s (q s)) (hR : ∀ I, Ok (I 66) 9 → Rf X I yr Lr (q (I 66))) (hO : ∀ s, Ok s 9 → Ok (q s).2 9) : StepC X yc Lc yr Lr := by
  intro d D I P N ra rk h
  obtain ⟨⟨o1, o2, o3⟩, k, tp, rw', ho, kz'⟩ := h
  obtain ⟨D', I1, P', N', ra', c1, c2, c3, c4, c5, c6, c7, c8, c9, c10⟩ := hC _ o1 d D I P N ra o2 o3
  have f : ∀ c, c < 80 → c ≠ 1 → I1 c = I c := fun c q1 q2 => c7 c (by omega) q2
  have e66 : I1 66 = I 66 := f 66 (by omega) (by omega)
  obtain ⟨I2, r1, r2⟩ := hR I1 (by rw [e66]; exact o1) d D' P' N'
  rw [e66] at r1 r2
  have s2 : ∀ c, c < 65 ∨ 79 < c → I2 c = I1 c := fun c hc => by rw [r2.1 c hc, u2r_o (by omega)]
  have e66' : I2 66 = (q (I 66)).2 := r2.2.1.1.trans u2r_s
  have sh : ∀ c, c ≠ 66 → u2r I1 66 (q (I 66)).2 c = I1 c := fun c hc => u2r_o hc
  obtain ⟨z0, ⟨z66, z67, z71, z72, z73, z74, z75, z76, z77, z78, z79⟩, z3, z11, z13, z27⟩ := r2
  have e67 : I2 67 = I 67 := by rw [z67, sh 67 (by decide), f 67 (by omega) (by omega)]
  have e65 : ∀ k, I2 65 k = u2r I1 66 (q (I 66)).2 65 k → I2 65 k = I 65 k := fun k e => by rw [e, sh 65 (by decide), f 65 (by omega) (by omega)]
  have hl : HldA I I2 := by
    refine ⟨⟨by rw [s2 0 (by omega), f 0 (by omega) (by omega)], e65 3 z3, e65 11 z11, e65 13 z13, e65 27 z27⟩, fun c q1 q2 => by rw [s2 c (by omega), f c (by omega) (by omega)], fun c q1 q2 => ?_⟩
    have : c = 71 ∨ c = 72 ∨ c = 73 ∨ c = 74 ∨ c = 75 ∨ c = 76 ∨ c = 77 ∨ c = 78 ∨ c = 79 := by omega
    rcases this with rfl | rfl | rfl | rfl | rfl | rfl | rfl | rfl | rfl
    · rw [z71, sh _ (by decide), f _ (by omega) (by omega)]
    · rw [z72, sh _ (by decide), f _ (by omega) (by omega)]
    · rw [z73, sh _ (by decide), f _ (by omega) (by omega)]
    · rw [z74, sh _ (by decide), f _ (by omega) (by omega)]
    · rw [z75, sh _ (by decide), f _ (by omega) (by omega)]
    · rw [z76, sh _ (by decide), f _ (by omega) (by omega)]
    · rw [z77, sh _ (by decide), f _ (by omega) (by omega)]
    · rw [z78, sh _ (by decide), f _ (by omega) (by omega)]
    · rw [z79, sh _ (by decide), f _ (by omega) (by omega)]
  refine ⟨_, D', I1, I2, P', N', ra', rk, c1, r1, ⟨⟨by rw [e66']; exact hO _ o1, by rw [e66']; exact ride_s c2 s2, by rw [s2 31 (by omega)]; exact c3⟩, ?_, tp.of hl, rw'.of hl, ho.of hl, fun a q1 q2 => ?_⟩, c4, by omega⟩
  · rcases k with ⟨k1, k2⟩ | ⟨k1, k2, k3, k4, k5⟩
    · exact Or.inl ⟨hl.1.2.1.trans k1, by rw [hl.1.1]; exact k2⟩
    · refine Or.inr ⟨hl.1.2.1.trans k1, by rw [hl.1.1]; exact k2, by rw [e67]; exact k3, ?_, ?_⟩
      · rw [e67]
        have f2 : ∀ c, (c < 65 ∨ 79 < c) → c < 80 + N → c ≠ 1 → I2 c = I c := fun c q0 q1 q2 => (s2 c q0).trans (c7 c q1 q2)
        refine k4.mono c6 c4 (f2 _ (by omega) (by omega) (by omega)) (f2 _ (by omega) (by omega) (by omega)) (f2 _ (by omega) (by omega) (by omega)) (f2 _ (by omega) (by omega) (by omega)) (f2 _ (by omega) (by omega) (by omega)) (fun j hj => ?_) (fun q hq _ j hj => ?_) (fun _ _ => by rw [c8 (16 + 1) (by omega)]) (by rw [c8 16 (by omega)])
        · have := (k4.2.2.2.1 j hj).2.1
          exact f2 _ (by omega) (by omega) (by omega)
        · have h1 := hq.1
          have h2 := hq.2.1
          exact f2 _ (by omega) (by omega) (by omega)
      · rw [e66', e67]
        intro i j hi hj
        have hb := (k4.2.2.2.1 j hj).2.1
        rcases c9 i hi with ⟨q1, q2⟩ | q
        · rw [q2]; exact k5 i j q1 hj
        · omega
  · by_cases ha : a < 80 + N
    · rw [c6 a q1 ha]; exact kz' a q1 ha
    · exact c10 a (by omega) q2
theorem S_0 : StepC X 108 [.ref 0, .int a1, .int a2, .int a3, .int a4] 183 [.ref 65, .int a1, .int a2, .int a3, .int a4, U_] := stepG (fun s => pAns s a1 a2 a3 a4) (fun _ ok => N_ans ok.1) (fun _ ok => F_ans ok.1) (fun _ ok => ok_ans ok)
theorem S_3 : StepC X 111 [.ref 0, .int a1, .int a2, U_, U_] 192 [.ref 65, .int a1, .int a2, U_] := stepG (fun s => pRem s a1 a2) (fun _ ok => N_rem ok.1) (fun _ ok => F_rem ok.1) (fun _ ok => (ok_rem ok).1)
end Law
