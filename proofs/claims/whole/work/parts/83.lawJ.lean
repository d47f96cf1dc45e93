/-! the law's calls: rules, keep, again -/
section LawJ
variable {X : mX} {d : Nat} {D : Nat → Nat × Nat} {I : Nat → Nat → Int32} {P : Nat → Nat → Option Nat} {N : Nat} {h : mH} {s t u : Nat → Int32} {J J' I' I1 I2 W W' : Nat → Nat → Int32} {D' : Nat → Nat × Nat} {P' : Nat → Nat → Option Nat} {N' : Nat} {ra rk ra' rk' : Nat → Nat} {m : Int} {i j k n p q y0 yr : Nat} {Lc Lr : List Value} {x v w a e a1 a2 a3 a4 : Int32} {b : Nat → Int32}
theorem runC_of {f : Int32 → Int32} {c c' : Nat → Int32} : ∀ (n i : Nat) (st : List Int32), (∀ j, i ≤ j → j < i + n → c j = c' j) → runC f c i n st = runC f c' i n st
  | 0, _, _, _ => rfl
  | n + 1, i, st, h => by
    have e : runC f c (i + 1) n = runC f c' (i + 1) n := by
      funext st'
      exact runC_of n (i + 1) st' (fun j h1 h2 => h j (by omega) (by omega))
    show (stpC f (c i) st).bind (runC f c (i + 1) n) = (stpC f (c' i) st).bind (runC f c' (i + 1) n)
    rw [e, h i (by omega) (by omega)]
theorem ct_320 (h : ∀ k, k < 320 → t k = s k) : ctA t = ctA s ∧ ctR t = ctR s ∧ ctL t = ctL s ∧ ctE t = ctE s := by
  unfold ctA ctR ctL ctE
  rw [h 0 (by omega), h 1 (by omega), h 2 (by omega), h 3 (by omega)]
  exact ⟨rfl, rfl, rfl, rfl⟩
theorem gd_320 (g : Gd s m) (h : ∀ k, k < 320 → t k = s k) : Gd t m := by
  obtain ⟨cA, cR, cL, cE⟩ := ct_320 h
  have g0 := g.n0.2
  have g2 := g.n2.2
  refine ⟨by rw [h 0 (by omega), h 1 (by omega), h 2 (by omega), h 3 (by omega), h 4 (by omega), h 5 (by omega)]; exact g.1, fun i hi => ?_, fun k hk => ?_⟩
  · rw [cA] at hi
    rw [h _ (by omega), h _ (by omega), h _ (by omega), h _ (by omega), h _ (by omega)]
    exact g.2.1 i hi
  · rw [cL] at hk
    rw [h _ (by omega), h _ (by omega)]
    exact g.2.2 k hk
theorem fe_320 (h : ∀ k, k < 320 → t k = s k) (hk : k < 8) : frm t k = frm s k ∧ enN t k = enN s k := by
  have en : ∀ j, j < 8 → enN t j = enN s j := fun j hj => by unfold enN; rw [h _ (by omega)]
  refine ⟨?_, en k hk⟩
  cases k with
  | zero => rfl
  | succ k => exact en k (by omega)
theorem ru_k (g : Gd s m) (hk : k < ctR s) : k < 8 := by
  have := (b0k g.1.2.1).1
  unfold ctR at hk
  omega
theorem ok_320 (ok : Ok s m) (h : ∀ k, k < 320 → t k = s k) : Ok t m := by
  obtain ⟨cA, cR, cL, cE⟩ := ct_320 h
  refine ⟨gd_320 ok.1 h, fun k hk => ?_⟩
  rw [cR] at hk
  have k8 := ru_k ok.1 hk
  obtain ⟨u1, u2', u3, u4, u5, u6⟩ := ok.2 k hk
  obtain ⟨e1, e2⟩ := fe_320 h k8
  have hen : enN s k ≤ 202 := by have := (b0k u4).1; unfold enN; omega
  rw [e1, e2, h _ (by omega), h _ (by omega), h _ (by omega), h _ (by omega)]
  refine ⟨u1, u2', u3, u4, u5, fun f => ?_⟩
  rw [runC_of (c' := fun j => s (118 + j)) _ _ _ (fun j h1 h2 => h _ (by omega))]
  exact u6 f
theorem RideR.c320 {b : Nat} (hr : RideR s D I P N b ra) (ok : Ok s m) (h : ∀ k, k < 320 → t k = s k) : RideR t D I P N b ra := by
  obtain ⟨cA, cR, cL, cE⟩ := ct_320 h
  have g0 := ok.1.n0.2
  have g2 := ok.1.n2.2
  have g3 := ok.1.n3.2
  obtain ⟨x, r2, r3, r4, r5, q, hq, hA, h0, hR⟩ := hr
  have en : endV t = endV s := by
    unfold endV
    rw [cL]
    exact endF_of (fun j hj => h _ (by omega)) _ _ _ (by omega)
  refine ⟨by rw [h 0 (by omega), h 2 (by omega), h 3 (by omega), h 4 (by omega), h 5 (by omega), h 6 (by omega), en]; exact x, fun k hk => ?_, fun k hk => ?_, fun i hi => ?_, fun i j hi hj => by rw [cA] at hi hj; exact r5 i j hi hj, q, hq, hA, by rw [h 1 (by omega)]; exact h0, fun k hk => ?_⟩
  · rw [cL] at hk
    rw [h _ (by omega), h _ (by omega)]; exact r2 k hk
  · rw [cE] at hk
    rw [h _ (by omega), h _ (by omega), h _ (by omega)]; exact r3 k hk
  · rw [cA] at hi
    refine ⟨(r4 i hi).1, ?_⟩
    have := (r4 i hi).2
    unfold AnsR at this ⊢
    rw [h _ (by omega), h _ (by omega), h _ (by omega), h _ (by omega), h _ (by omega)]
    exact this
  · rw [cR] at hk
    have k8 := ru_k ok.1 hk
    obtain ⟨u1, u2', u3, u4, u5, u6⟩ := ok.2 k hk
    obtain ⟨e1, e2⟩ := fe_320 h k8
    have hen : enN s k ≤ 202 := by have := (b0k u4).1; unfold enN; omega
    obtain ⟨y1, y2, y3, y4, L, l1, l2, l3, l4⟩ := hR k hk
    rw [e1, e2, h _ (by omega), h _ (by omega), h _ (by omega)]
    exact ⟨y1, y2, y3, y4, L, l1, l2, l3, codR_of _ _ l4 (fun j h1 h2 => h _ (by omega))⟩
theorem row_lt {f r : Nat → Int32} (h : k < 320) : row320 f r k = f k := if_pos h
theorem rlR_g (hn : n ≤ 200) : (∀ u, u ∈ (rlRes b n).2.2 → UOK u) ∧ 2 * (sgA (rlRes b n).2.2).length ≤ n ∧ (exL (sgA (rlRes b n).2.2)).length ≤ n ∧ (rlRes b n).2.2.length ≤ 8 := by
  obtain ⟨x1, x2, x3, x4, -⟩ := rls_g (b := b) (n := n) 9 (tk b n 0) [] rfl (by decide) (tk_g n 0 (by omega)).1 (Nat.zero_le _) (Nat.zero_le _) (fun u hu => by cases hu)
  exact ⟨x1, x2, x3, x4⟩
theorem al_t (h : bt x 0 255 = true) : bt x.toInt8.toInt32 1 127 = bt x 1 127 ∧ (bt x 1 127 = true → x.toInt8.toInt32 = x) := by
  have h1 := bt_iff.mp h
  have e : (x.toInt8.toInt32).toInt = x.toInt.bmod 256 := by rw [Int8.toInt_toInt32, Int32.toInt_toInt8]
  have e2 : x.toInt ≤ 127 → (x.toInt8.toInt32).toInt = x.toInt := fun q => by rw [e]; exact Int.bmod_eq_of_le (by omega) (by omega)
  have e3 : 127 < x.toInt → (x.toInt8.toInt32).toInt < 0 := fun q => by
    rw [e]
    unfold Int.bmod
    dsimp only
    rw [Int.emod_eq_of_lt (by omega) (by omega), if_neg (by omega)]
    omega
  refine ⟨?_, fun q => ?_⟩
  · unfold bt
    by_cases c : x.toInt ≤ 127
    · rw [e2 c]
    · have c1 := e3 (by omega)
      rw [decide_eq_false (p := 1 ≤ (x.toInt8.toInt32).toInt) (by omega), decide_eq_false (p := x.toInt ≤ 127) c, Bool.false_and, Bool.and_false]
  · have q1 := bt_iff.mp q
    exact Int32.toInt_inj.mp (e2 q1.2)
theorem txR_of (h13 : I 65 13 = Int32.ofNat p) (hp : p ≤ 200) (h : ∀ j, j < p → bt (J 72 j) 0 255 = true ∧ J 49 j = (J 72 j).toInt8.toInt32) (e72 : I 72 = J 72) : TxR I (bOf J p) p := by
  refine ⟨h13, hp, fun i => ?_⟩
  unfold Alk rB bOf cBy
  by_cases c : i < p
  · rw [if_pos c, if_pos c, e72]
    obtain ⟨q1, q2⟩ := h i c
    obtain ⟨a1, a2⟩ := al_t q1
    rw [q2, a1]
    by_cases c2 : bt (J 72 i) 1 127 = true
    · rw [if_pos c2]; exact Or.inl (a2 c2).symm
    · rw [if_neg c2]; exact Or.inr ⟨rfl, by rw [Bool.not_eq_true] at c2; exact c2⟩
  · rw [if_neg c, if_neg c]
    exact Or.inr ⟨by decide, by decide⟩
theorem kz_dR (h : KzR D N) : KzR (dR D N) (N + 8) := by
  intro a h1 h2
  by_cases c : a < 80 + N
  · rw [dR_o c]; exact h a h1 c
  · unfold dR
    by_cases c1 : a = 80 + N
    · rw [if_pos c1]; decide
    · rw [if_neg c1]
      by_cases c2 : 80 + N < a ∧ a ≤ 84 + N
      · rw [if_pos c2]; decide
      · rw [if_neg c2, if_pos (by omega)]; decide
theorem S_11 : StepC X 119 [.ref 0, U_] 252 [.ref 65] := by
  intro d D I P N ra rk h
  obtain ⟨⟨ok, o2, o3⟩, k, ⟨p, t1, t2, t3, t4⟩, rw', ho, kz'⟩ := id h
  obtain ⟨K, e1, f1, f2, f3, f4⟩ := N_rul (X := X) (d := d) (D := D) (P := P) (N := N) (I := I) (n := p) (b := bOf I p) t2 t3 (fun i => bOf_alk)
  have fc : ∀ c, c < 80 + N → (c < 36 ∨ 40 < c) → c ≠ 0 → K c = I c := fun c q1 q2 q3 => f1 c q1 q3 (by omega) (by omega) (by omega) (by omega)
  obtain ⟨v1, v2, v3, v4⟩ := rlR_g (b := bOf I p) t3
  obtain ⟨P1, hP1⟩ : ∃ P1, (if (rlRes (bOf I p) p).1 = true then p2 (rulP36 P N) 1 9 (some (80 + N)) else rulP36 P N) = P1 := ⟨_, rfl⟩
  have hPo : ∀ c, c ≠ 1 → c ≠ 36 → P1 c = P c := fun c q1 q2 => by
    have e : rulP36 P N c = P c := by unfold rulP36 p2; rw [if_neg q2, if_neg q2]
    rw [← hP1]
    cases (rlRes (bOf I p) p).1 with
    | true => rw [if_pos rfl]; unfold p2; rw [if_neg q1]; exact e
    | false => rw [if_neg (by decide)]; exact e
  rw [hP1] at e1
  obtain ⟨I2, r1, ⟨g1, g2, g3⟩, g4, g5⟩ := F_rul (X := X) (d := d) (D := dR D N) (P := P1) (N := N + 8) (txR_of (I := K) (J := I) (by rw [fc 65 (by omega) (by omega) (by omega)]; exact t1) t3 t4 (fc 72 (by omega) (by omega) (by omega)))
  rw [fc 66 (by omega) (by omega) (by omega)] at g4 g5
  have hD : ∀ a, 80 ≤ a → a < 80 + N → dR D N a = D a := fun a _ q => dR_o q
  have fo : ∀ c, c < 80 + N → (c < 36 ∨ 40 < c) → c ≠ 0 → c ≠ 65 → c ≠ 66 → c ≠ 68 → I2 c = I c := fun c q1 q2 q3 q4 q5 q6 => (g1 c q4 q5 q6).trans (fc c q1 q2 q3)
  have o65 : ∀ k, k < 13 ∨ 19 < k → I2 65 k = I 65 k := fun k hk => by rw [g2 k hk, fc 65 (by omega) (by omega) (by omega)]
  have o0 : ∀ k, k ≠ 6 → I2 0 k = I 0 k := fun k hk => by rw [g1 0 (by omega) (by omega) (by omega)]; exact f2 k hk
  have hride : Ok (I2 66) 9 ∧ RideR (I2 66) (dR D N) I2 P1 (N + 8) 1 ra ∧ ctA (I2 66) = ctA (I 66) := by
    cases hr : (rlRes (bOf I p) p).1 with
    | true =>
      have hrow := g4 hr
      obtain ⟨w0, w1, w2⟩ := f4 hr
      refine ⟨⟨(gd_rul ok.1 hrow v4).1, rul_ok hrow v4 v1 (by omega)⟩, ?_, by unfold ctA; rw [hrow.1 0 (Or.inl ⟨by omega, by omega⟩)]⟩
      have c80 : ∀ j, j ≤ 7 → I2 (80 + N + j) = K (80 + N + j) := fun j hj => g1 _ (by omega) (by omega) (by omega)
      have hR1 : RulR (I2 66) (dR D N) I2 (N + 8) (80 + N) := by
        refine rul_RR hrow v4 v1 (by omega) (by omega) dR_at (by rw [show 80 + N = 80 + N + 0 from rfl, c80 0 (by omega)]; exact w0) (fun k u hu => ?_) ?_
        · rw [c80 1 (by omega), c80 2 (by omega), c80 3 (by omega), c80 4 (by omega)]; exact w1 k u hu
        · rw [c80 5 (by omega), c80 6 (by omega), c80 7 (by omega)]; exact w2
      have oc : ∀ a, a < 80 + N → a ≠ 0 → a ≠ 36 → a ≠ 38 → a ≠ 39 → a ≠ 40 → K a = I a := fun a q1 q2 q3 q4 q5 q6 => f1 a q1 q2 q3 q4 q5 q6
      have hp9 : P1 1 9 = some (80 + N) := by rw [← hP1, hr, if_pos rfl]; rfl
      have hK : RulR (I2 66) (dR D N) K (N + 8) (80 + N) := by
        refine rul_RR hrow v4 v1 (by omega) (by omega) dR_at w0 w1 w2
      have hrd := RideR.rul o2 ok.1 hrow v4 hD oc hp9 (hPo 2 (by omega) (by omega)) (by omega) hK
      exact hrd.mono (fun _ _ _ => rfl) (Nat.le_refl _) (g1 _ (by omega) (by omega) (by omega)) (g1 _ (by omega) (by omega) (by omega)) (g1 _ (by omega) (by omega) (by omega)) (g1 _ (by omega) (by omega) (by omega)) (g1 _ (by omega) (by omega) (by omega)) (fun j hj => by have := (hrd.2.2.2.1 j hj).2.1.1; exact g1 _ (by omega) (by omega) (by omega)) (fun q hq _ j hj => by have := hq.1; exact g1 _ (by omega) (by omega) (by omega)) (fun _ _ => rfl) rfl
    | false =>
      have e66 := g5 hr
      rw [e66]
      refine ⟨ok, ?_, rfl⟩
      have oc : ∀ a, a < 80 + N → a ≠ 0 → a ≠ 36 → a ≠ 38 → a ≠ 39 → a ≠ 40 → K a = I a := fun a q1 q2 q3 q4 q5 q6 => f1 a q1 q2 q3 q4 q5 q6
      have hrd := RideR.gen (D' := dR D N) (I' := K) (P' := P1) (N' := N + 8) o2 hD oc (by rw [← hP1, hr, if_neg (by decide)]; rfl) (hPo 2 (by omega) (by omega)) (by omega)
      exact hrd.mono (fun _ _ _ => rfl) (Nat.le_refl _) (g1 _ (by omega) (by omega) (by omega)) (g1 _ (by omega) (by omega) (by omega)) (g1 _ (by omega) (by omega) (by omega)) (g1 _ (by omega) (by omega) (by omega)) (g1 _ (by omega) (by omega) (by omega)) (fun j hj => by have := (hrd.2.2.2.1 j hj).2.1.1; exact g1 _ (by omega) (by omega) (by omega)) (fun q hq _ j hj => by have := hq.1; exact g1 _ (by omega) (by omega) (by omega)) (fun _ _ => rfl) rfl
  have e67 : I2 67 = I 67 := fo 67 (by omega) (by omega) (by omega) (by omega) (by omega) (by omega)
  refine ⟨_, dR D N, K, I2, P1, N + 8, ra, rk, e1, r1, ⟨⟨hride.1, hride.2.1, by rw [fo 31 (by omega) (by omega) (by omega) (by omega) (by omega) (by omega)]; exact o3⟩, ?_, ⟨0, g3, by rw [g1 0 (by omega) (by omega) (by omega)]; exact f3, by omega, fun j hj => by omega⟩, rw'.cg (o65 11 (by omega)) (o0 8 (by omega)) (fo 71 (by omega) (by omega) (by omega) (by omega) (by omega) (by omega)) (fun w hw => fo _ (by omega) (by omega) (by omega) (by omega) (by omega) (by omega)), ⟨HsA.cg ho.1 (fun c hc => fo c (by omega) (by omega) (by omega) (by omega) (by omega) (by omega)), HsB.cg ho.2.1 (fun c hc => fo c (by omega) (by omega) (by omega) (by omega) (by omega) (by omega)), HsC.cg ho.2.2 (fo 54 (by omega) (by omega) (by omega) (by omega) (by omega) (by omega)) (fo 64 (by omega) (by omega) (by omega) (by omega) (by omega) (by omega)) (fo 79 (by omega) (by omega) (by omega) (by omega) (by omega) (by omega)) (o65 27 (by omega))⟩, kz_dR kz'⟩, by omega, by omega⟩
  rcases k with ⟨k1, k2⟩ | ⟨k1, k2, k3, k4, k5⟩
  · exact Or.inl ⟨(o65 3 (by omega)).trans k1, (o0 2 (by omega)).trans k2⟩
  · refine Or.inr ⟨(o65 3 (by omega)).trans k1, (o0 2 (by omega)).trans k2, by rw [e67]; exact k3, ?_, by rw [e67, hride.2.2]; exact k5⟩
    rw [e67]
    exact k4.mono hD (by omega) (fo _ (by omega) (by omega) (by omega) (by omega) (by omega) (by omega)) (fo _ (by omega) (by omega) (by omega) (by omega) (by omega) (by omega)) (fo _ (by omega) (by omega) (by omega) (by omega) (by omega) (by omega)) (fo _ (by omega) (by omega) (by omega) (by omega) (by omega) (by omega)) (fo _ (by omega) (by omega) (by omega) (by omega) (by omega) (by omega)) (fun j hj => by have := (k4.2.2.2.1 j hj).2.1; exact fo _ (by omega) (by omega) (by omega) (by omega) (by omega) (by omega)) (fun q hq _ j hj => by have h1 := hq.1; have h2 := hq.2.1; exact fo _ (by omega) (by omega) (by omega) (by omega) (by omega) (by omega)) (fun _ _ => by rw [hPo (16 + 1) (by omega) (by omega)]) (by rw [hPo 16 (by omega) (by omega)])
theorem S_46 : StepC X 154 [.ref 0] 276 [.ref 65, U_] := by
  intro d D I P N ra rk h
  obtain ⟨⟨ok, o2, o3⟩, k, tp, rw', ho, kz'⟩ := id h
  obtain ⟨D', I1, P', N', rk', e1, c1, c2, c3, c4, c5, c6, c7, c8, c9, c10⟩ := N_kep (X := X) (d := d) ok.1 o2
  have e2 := F_kep (X := X) (d := d + 40) (D := D') (I := I1) (P := P') (N := N')
  have K67 : u2 (u2r I1 67 (row320 (I1 66) (I1 67))) 65 3 1 67 = row320 (I1 66) (I1 67) := rfl
  have K65 : u2 (u2r I1 67 (row320 (I1 66) (I1 67))) 65 3 1 65 = upd (I1 65) 3 1 := rfl
  have Ko : ∀ c, c ≠ 65 → c ≠ 67 → u2 (u2r I1 67 (row320 (I1 66) (I1 67))) 65 3 1 c = I1 c := fun c q1 q2 => by rw [u2_o q1, u2r_o q2]
  generalize u2 (u2r I1 67 (row320 (I1 66) (I1 67))) 65 3 1 = K at e2 K67 K65 Ko
  have f : ∀ c, c < 80 + N → c ≠ 0 → (c < 16 ∨ 30 < c) → I1 c = I c := fun c q1 q2 q3 => c5 c q1 q2 (by omega) (by omega) (by omega) (by omega) (by omega)
  rw [f 66 (by omega) (by omega) (by omega)] at K67
  rw [f 65 (by omega) (by omega) (by omega)] at K65
  have fo : ∀ c, c < 80 + N → c ≠ 0 → c ≠ 65 → c ≠ 67 → (c < 16 ∨ 30 < c) → K c = I c := fun c q1 q2 q3 q4 q5 => (Ko c q3 q4).trans (f c q1 q2 q5)
  have e66 : K 66 = I 66 := fo 66 (by omega) (by omega) (by omega) (by omega) (by omega)
  have e0 : K 0 = upd (I 0) 2 1 := (Ko 0 (by omega) (by omega)).trans c3
  have h67 : ∀ k, k < 320 → K 67 k = I 66 k := fun k hk => by rw [K67]; exact row_lt hk
  have mo : ∀ b ra0, RideR (I 66) D' I1 P' N' b ra0 → (b = 1 ∨ b = 16) → RideR (I 66) D' K P' N' b ra0 := fun b ra0 hr hb =>
    hr.mono (fun _ _ _ => rfl) (Nat.le_refl _) (Ko _ (by omega) (by omega)) (Ko _ (by omega) (by omega)) (Ko _ (by omega) (by omega)) (Ko _ (by omega) (by omega)) (Ko _ (by omega) (by omega)) (fun j hj => by have := (hr.2.2.2.1 j hj).2.1.1; exact Ko _ (by omega) (by omega)) (fun q hq _ j hj => by have := hq.1; exact Ko _ (by omega) (by omega)) (fun _ _ => rfl) rfl
  refine ⟨_, D', I1, K, P', N', ra, rk', e1, e2, ⟨⟨by rw [e66]; exact ok, by rw [e66]; exact mo 1 ra c2 (Or.inl rfl), by rw [fo 31 (by omega) (by omega) (by omega) (by omega) (by omega)]; exact o3⟩, Or.inr ⟨by rw [K65, upd_s], by rw [e0, upd_s], ok_320 ok h67, (mo 16 rk' c1 (Or.inr rfl)).c320 ok h67, fun i j hi hj => ?_⟩, tp.cg (by rw [K65, upd_o (by omega)]) (by rw [e0, upd_o (by omega)]) (fo 72 (by omega) (by omega) (by omega) (by omega) (by omega)) (fo 49 (by omega) (by omega) (by omega) (by omega) (by omega)), rw'.cg (by rw [K65, upd_o (by omega)]) (by rw [e0, upd_o (by omega)]) (fo 71 (by omega) (by omega) (by omega) (by omega) (by omega)) (fun w hw => fo _ (by omega) (by omega) (by omega) (by omega) (by omega)), ⟨HsA.cg ho.1 (fun c hc => fo c (by omega) (by omega) (by omega) (by omega) (by omega)), HsB.cg ho.2.1 (fun c hc => fo c (by omega) (by omega) (by omega) (by omega) (by omega)), HsC.cg ho.2.2 (fo 54 (by omega) (by omega) (by omega) (by omega) (by omega)) (fo 64 (by omega) (by omega) (by omega) (by omega) (by omega)) (fo 79 (by omega) (by omega) (by omega) (by omega) (by omega)) (by rw [K65, upd_o (by omega)])⟩, fun a q1 q2 => ?_⟩, c7, c8⟩
  · rw [e66] at hi
    rw [(ct_320 h67).1] at hj
    have h1 := (o2.2.2.2.1 i hi).2.1
    have h2 := c9 j hj
    omega
  · by_cases hc : a < 80 + N
    · rw [c4 a q1 hc]; exact kz' a q1 hc
    · exact c10 a (by omega) q2
theorem S_47 : StepC X 155 [.ref 0] 277 [.ref 65, U_] := by
  intro d D I P N ra rk h
  obtain ⟨⟨ok, o2, o3⟩, k, tp, rw', ho, kz'⟩ := id h
  rcases k with ⟨k1, k2⟩ | ⟨k1, k2, k3, k4, k5⟩
  · have e1 := N_agn0 (X := X) (d := d) (D := D) (P := P) (N := N) k2
    have e2 := F_agn0 (X := X) (d := d + 40) (D := D) (P := P) (N := N) k1
    exact ⟨_, D, I, I, P, N, ra, rk, e1, e2, h, Nat.le_refl _, by omega⟩
  · obtain ⟨D', I1, P', N', rk', e1, c1, c2, c4, c5, c6, c7, c8, c9, c10⟩ := N_agn (X := X) (d := d) k3.1 (by rw [k2]; decide) k4
    have f : ∀ c, c < 80 + N → (c = 0 ∨ 15 < c) → I1 c = I c := fun c q1 q2 => c5 c q1 (by omega) (by omega) (by omega) (by omega) (by omega)
    have e2 := F_agn (X := X) (d := d + 40) (D := D') (I := I1) (P := P') (N := N') (by rw [f 65 (by omega) (by omega), k1]; decide)
    have K66 : u2r I1 66 (row320 (I1 67) (I1 66)) 66 = row320 (I1 67) (I1 66) := rfl
    have Ko : ∀ c, c ≠ 66 → u2r I1 66 (row320 (I1 67) (I1 66)) c = I1 c := fun c q1 => u2r_o q1
    generalize u2r I1 66 (row320 (I1 67) (I1 66)) = K at e2 K66 Ko
    rw [f 67 (by omega) (by omega)] at K66 e2
    have fo : ∀ c, c < 80 + N → c ≠ 66 → (c = 0 ∨ 15 < c) → K c = I c := fun c q1 q2 q3 => (Ko c q2).trans (f c q1 q3)
    have e67 : K 67 = I 67 := fo 67 (by omega) (by omega) (by omega)
    have h66 : ∀ k, k < 320 → K 66 k = I 67 k := fun k hk => by rw [K66]; exact row_lt hk
    have mo : ∀ b ra0, RideR (I 67) D' I1 P' N' b ra0 → (b = 1 ∨ b = 16) → RideR (I 67) D' K P' N' b ra0 := fun b ra0 hr hb =>
      hr.mono (fun _ _ _ => rfl) (Nat.le_refl _) (Ko _ (by omega)) (Ko _ (by omega)) (Ko _ (by omega)) (Ko _ (by omega)) (Ko _ (by omega)) (fun j hj => by have := (hr.2.2.2.1 j hj).2.1.1; exact Ko _ (by omega)) (fun q hq _ j hj => by have := hq.1; exact Ko _ (by omega)) (fun _ _ => rfl) rfl
    refine ⟨_, D', I1, K, P', N', rk', rk, e1, e2, ⟨⟨ok_320 k3 h66, (mo 1 rk' c1 (Or.inl rfl)).c320 k3 h66, by rw [fo 31 (by omega) (by omega) (by omega)]; exact o3⟩, Or.inr ⟨by rw [fo 65 (by omega) (by omega) (by omega)]; exact k1, by rw [fo 0 (by omega) (by omega) (by omega)]; exact k2, by rw [e67]; exact k3, by rw [e67]; exact mo 16 rk c2 (Or.inr rfl), fun i j hi hj => ?_⟩, tp.cg (by rw [fo 65 (by omega) (by omega) (by omega)]) (by rw [fo 0 (by omega) (by omega) (by omega)]) (fo 72 (by omega) (by omega) (by omega)) (fo 49 (by omega) (by omega) (by omega)), rw'.cg (by rw [fo 65 (by omega) (by omega) (by omega)]) (by rw [fo 0 (by omega) (by omega) (by omega)]) (fo 71 (by omega) (by omega) (by omega)) (fun w hw => fo _ (by omega) (by omega) (by omega)), ⟨HsA.cg ho.1 (fun c hc => fo c (by omega) (by omega) (by omega)), HsB.cg ho.2.1 (fun c hc => fo c (by omega) (by omega) (by omega)), HsC.cg ho.2.2 (fo 54 (by omega) (by omega) (by omega)) (fo 64 (by omega) (by omega) (by omega)) (fo 79 (by omega) (by omega) (by omega)) (by rw [fo 65 (by omega) (by omega) (by omega)])⟩, fun a q1 q2 => ?_⟩, c7, c8⟩
    · rw [(ct_320 h66).1] at hi
      rw [e67] at hj
      have h1 := (k4.2.2.2.1 j hj).2.1
      have h2 := c9 i hi
      omega
    · by_cases hc : a < 80 + N
      · rw [c4 a q1 hc]; exact kz' a q1 hc
      · exact c10 a (by omega) q2
end LawJ
