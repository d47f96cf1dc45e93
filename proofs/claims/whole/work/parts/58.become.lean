/-! the class: keep, again -/
section Become
variable {X : mX} {d : Nat} {D : Nat → Nat × Nat} {I : Nat → Nat → Int32} {P : Nat → Nat → Option Nat} {N : Nat} {h : mH} {s s' g S r f f' F c : Nat → Int32} {J J' I' : Nat → Nat → Int32} {D' : Nat → Nat × Nat} {P' : Nat → Nat → Option Nat} {N' : Nat} {ra rk : Nat → Nat} {L : List Nat} {m : Int} {i j k n p q t b : Nat} {x y v w a e z : Int32}
theorem RulR.mono (h : RulR s D I N q) (hD : ∀ a, 80 ≤ a → a < 80 + N → D' a = D a) (hI : ∀ j, j ≤ 7 → I' (q + j) = I (q + j)) (hN : N ≤ N') : RulR s D' I' N' q := by
  obtain ⟨⟨a1, a2, a3, a4, a5⟩, b1, b2⟩ := h
  have hb : ∀ j, j ≤ 7 → bKk D' (q + j) = bKk D (q + j) := fun j hj => bKk_of (fun h8 => hD _ h8 (by omega))
  refine ⟨⟨a1, by omega, by rw [show q = q + 0 from rfl, hb 0 (by omega)]; exact a3, fun j h1 h2 => by rw [hb j (by omega)]; exact a4 j h1 h2, fun j h1 h2 => by rw [hb j (by omega)]; exact a5 j h1 h2⟩, by rw [show I' q = I q from hI 0 (by omega)]; exact b1, fun k hk => ?_⟩
  rw [hI 1 (by omega), hI 2 (by omega), hI 3 (by omega), hI 4 (by omega), hI 5 (by omega), hI 6 (by omega), hI 7 (by omega)]
  exact b2 k hk
theorem AnsR.mono (h : AnsR s D I N i p) (hD : ∀ a, 80 ≤ a → a < 80 + N → D' a = D a) (hI : I' p = I p) (hN : N ≤ N') : AnsR s D' I' N' i p := by
  obtain ⟨⟨h1, h2, h3⟩, h4⟩ := h
  exact ⟨⟨h1, by omega, by rw [hD p h1 h2]; exact h3⟩, by rw [hI]; exact h4⟩
theorem RideR.mono (hr : RideR s D I P N b ra) (hD : ∀ a, 80 ≤ a → a < 80 + N → D' a = D a) (hN : N ≤ N') (h0 : I' b = I b) (h2 : I' (b + 2) = I (b + 2)) (h3 : I' (b + 3) = I (b + 3)) (h13 : I' (b + 13) = I (b + 13)) (h14 : I' (b + 14) = I (b + 14))
    (ha : ∀ i, i < ctA s → I' (ra i) = I (ra i)) (hq : ∀ q, RAt D N q → P b 9 = some q → ∀ j, j ≤ 7 → I' (q + j) = I (q + j)) (hP : ∀ i, i < ctA s → P' (b + 1) i = P (b + 1) i) (hP9 : P' b 9 = P b 9) : RideR s D' I' P' N' b ra := by
  obtain ⟨r1, r2, r3, r4, r5, q, hq9, hR⟩ := hr
  refine ⟨by rw [h0]; exact r1, by rw [h2, h3]; exact r2, by rw [h13, h14]; exact r3, fun i hi => ⟨by rw [hP i hi]; exact (r4 i hi).1, (r4 i hi).2.mono hD (ha i hi) hN⟩, r5, q, by rw [hP9]; exact hq9, hR.mono hD (hq q hR.1 hq9) hN⟩
theorem rr17 (h : j < 9) : hAR (Mh D I P N) 17 (Int32.ofNat j) = some (P 17 j) := by rw [rdQ2 hN17 (n := 9) rfl, mib_N h (by decide), iN_cl (by omega)]; rfl
theorem C_at16 (g : Gd s m) (hr : RideR s D I P N 16 ra) : Rn X d 28 0 [.ref 16, .int a] [] (Mh D I P N) = some ([va_rf (ansO s ra a)], Mh D I P N) := by
  have h0 := g.n0
  have hb := bt_iff.mp g.1.1
  obtain ⟨⟨e1, -⟩, -, -, ha, -⟩ := hr
  simp only [B28_0, RDc, Option.bind_some, List.append_nil, List.nil_append, List.cons_append, cond_true, cond_false, if_true, if_false, ite_true, ite_false, reduceIte, IC, bI_0, bI_1, bF, Bool.not_eq_false, Bool.not_eq_true, Bool.and_true, Bool.true_and, Bool.and_false, Bool.false_and, Bool.true_or, Bool.or_true, Bool.or_false, Bool.false_or, Bool.not_true, Bool.not_false, decide_true, decide_false, not_true_eq_false, not_false_eq_true, eq_self, Bool.true_eq_false, Bool.false_eq_true, e1, B28_27, B28_28]
  unfold ansO
  cases hi : isA s a with
  | true =>
    obtain ⟨i, h1, rfl⟩ := isA_nat g hi
    rw [if_neg (iN_neg (by omega)), h0.1, if_neg (by rw [iN_le (by omega) (by omega)]; omega), if_neg (le_n (l := 9) (n := 9) rfl (by omega) (by omega) (by omega)), mib_N (by omega) (by decide), iN_cl (by omega)]
    simp only [Option.bind_some, List.append_nil, List.nil_append, List.cons_append, cond_true, cond_false, if_true, if_false, ite_true, ite_false, reduceIte, IC, bI_0, bI_1, bF, Bool.not_eq_false, Bool.not_eq_true, Bool.and_true, Bool.true_and, Bool.and_false, Bool.false_and, Bool.true_or, Bool.or_true, Bool.or_false, Bool.false_or, Bool.not_true, Bool.not_false, decide_true, decide_false, not_true_eq_false, not_false_eq_true, eq_self, Bool.true_eq_false, Bool.false_eq_true]
    rw [show P 17 i = some (ra i) from (ha i h1).1]
  | false =>
    have hn := bt_no.mp hi
    by_cases h1 : a < 0
    · rw [if_pos h1]; rfl
    · rw [if_neg h1]
      have h2 : s 0 ≤ a := by
        rw [Int32.lt_iff_toInt_lt, z_ti] at h1
        rw [Int32.le_iff_toInt_le]; omega
      rw [if_pos h2]; rfl
theorem C_put16 (hA : AnsAt D N p) (h1 : I p 1 = Int32.ofNat i) (h9 : i < 9) : Rn X d 30 0 [.ref 16, .ref p] [] (Mh D I P N) = some ([], Mh D I (p2 P 17 i (some p)) N) := by
  have hm := mib_N (j := i) (n := 9) h9 (by decide)
  have e0 : (Int32.ofNat i).toNatClampNeg = i := iN_cl (by omega)
  have w := wrQ2 (D := D) (I := I) (P := P) (N := N) (n := 9) (p := 17) hN17 rfl hm hA
  rw [e0] at w
  have n9 : ¬ (9 : Int32) ≤ Int32.ofNat i := le_n (l := 9) (n := 9) rfl (by omega) (by omega) (by omega)
  have n0 : ¬ Int32.ofNat i < 0 := iN_neg (by omega)
  simp only [B30_0, RDa hA, Option.bind_some, List.append_nil, List.nil_append, List.cons_append, cond_true, cond_false, if_true, if_false, ite_true, ite_false, reduceIte, IC, bI_0, bI_1, bF, Bool.not_eq_false, Bool.not_eq_true, Bool.and_true, Bool.true_and, Bool.and_false, Bool.false_and, Bool.true_or, Bool.or_true, Bool.or_false, Bool.false_or, Bool.not_true, Bool.not_false, decide_true, decide_false, not_true_eq_false, not_false_eq_true, eq_self, Bool.true_eq_false, Bool.false_eq_true, h1, n0, n9, RDc, w, B30_26]
theorem N_4837 (hA : AnsAt D N p) {l0 l1 l3 : Nat} {l4 : Value} : Rn X (d + 1) 48 37 [.ref l0, .ref l1, .int x, .ref l3, l4] [.ref p] (Mh D I P N) = (Rn X d 280 0 [.ref p, .ref l3] [] (Mh D I P N)).bind fun z1 => Rn X (d + 1) 48 45 [.ref l0, .ref l1, .int x, .ref l3, .ref p] (z1.1 ++ []) z1.2 := by
  obtain ⟨c, h1, h2⟩ := AnsAt.hcl (I := I) (P := P) hA
  rcases isAns_cases h1 with rfl | rfl | rfl | rfl | rfl
  · exact B48_37_0 h2
  · exact B48_37_1 h2
  · exact B48_37_7 h2
  · exact B48_37_8 h2
  · exact B48_37_9 h2
theorem cyA (hp : p < 80 + N) (hq : q < 80 + N) (kp : bKk D p = (0, n)) (kq : bKk D q = (0, n)) (hx : x = Int32.ofNat n) (hn : n < 100) : hCY (Mh D I P N) p 0 q 0 x = some (Mh D (u2r I q (va_cpy (I p) (I q) 0 0 n)) P N) := by
  have key : (Mh D I P N).set q (.inl (0, n, .inl (va_cpy (I p) (I q) 0 0 n))) = Mh D (u2r I q (va_cpy (I p) (I q) 0 0 n)) P N := by
    refine Mh_set ?_ (fun b hb => ⟨u2r_o hb, rfl⟩)
    unfold cE
    rw [kq, u2r_s]
    rfl
  have en : x.toNatClampNeg = n := by rw [hx, iN_cl (by omega)]
  have nn : decide (x < 0) = false := by rw [hx]; exact decide_eq_false (iN_neg (by omega))
  unfold hCY
  rw [Mh_at hp, Mh_at hq, ← key]
  unfold cE
  rw [kp, kq]
  show (bif Nat.beq 0 0 && Nat.beq 0 0 && !decide ((0 : Int32) < 0) && !decide ((0 : Int32) < 0) && !decide (x < 0) && Nat.ble ((0 : Int32).toNatClampNeg + x.toNatClampNeg) n && Nat.ble ((0 : Int32).toNatClampNeg + x.toNatClampNeg) n
      then some ((Mh D I P N).set q (.inl (0, n, .inl (va_cpy (I p) (I q) (0 : Int32).toNatClampNeg (0 : Int32).toNatClampNeg x.toNatClampNeg)))) else none) = _
  rw [en, nn, show (0 : Int32).toNatClampNeg = 0 from rfl, Nat.zero_add, show Nat.ble n n = true from Nat.ble_eq.mpr (Nat.le_refl n)]
  rfl
theorem cpy_lt (h : k < n) : va_cpy r f 0 0 n k = r k := by
  unfold va_cpy
  rw [if_pos (by omega), Nat.zero_add, Nat.sub_zero]
theorem C_bec1K (g : Gd s m) : ∀ k i (D : Nat → Nat × Nat) (I : Nat → Nat → Int32) (P : Nat → Nat → Option Nat) (N : Nat) (rk : Nat → Nat) (l3 l4 : Value), RideR s D I P N 1 ra → i + k = 9 → (∀ j, j < i → j < ctA s → P 17 j = some (rk j) ∧ AnsR s D I N j (rk j)) → (∀ j t, j < i → t < i → j < ctA s → t < ctA s → rk j = rk t → j = t) →
    ∃ (D' : Nat → Nat × Nat) (I' : Nat → Nat → Int32) (P' : Nat → Nat → Option Nat) (N' : Nat) (rk' : Nat → Nat) (l3' l4' : Value), Rn X (d + 4) 48 10 [.ref 16, .ref 1, .int (Int32.ofNat i), l3, l4] [] (Mh D I P N) = Rn X (d + 4) 48 10 [.ref 16, .ref 1, .int 9, l3', l4'] [] (Mh D' I' P' N')
      ∧ (∀ a, 80 ≤ a → a < 80 + N → D' a = D a) ∧ (∀ a, a < 80 + N → I' a = I a) ∧ (∀ a, a ≠ 17 → P' a = P a) ∧ N ≤ N' ∧ N' ≤ N + k ∧ (∀ j, j < ctA s → P' 17 j = some (rk' j) ∧ AnsR s D' I' N' j (rk' j)) ∧ (∀ j t, j < ctA s → t < ctA s → rk' j = rk' t → j = t) ∧ (∀ j, j < ctA s → (j < i ∧ rk' j = rk j) ∨ 80 + N ≤ rk' j) ∧ ∀ a, 80 + N ≤ a → a < 80 + N' → kz (D' a) ≤ 100
  | 0, i, D, I, P, N, rk, l3, l4, hr, hk, hA, hJ => by
    have h9 := g.n0.2
    have : i = 9 := by omega
    subst this
    exact ⟨D, I, P, N, rk, l3, l4, rfl, fun _ _ _ => rfl, fun _ _ => rfl, fun _ _ => rfl, Nat.le_refl _, Nat.le_refl _, fun j hj => hA j (by omega) hj, fun j t hj ht he => hJ j t (by omega) (by omega) hj ht he, fun j hj => Or.inl ⟨by omega, rfl⟩, fun a q1 q2 => by omega⟩
  | k + 1, i, D, I, P, N, rk, l3, l4, hr, hk, hA, hJ => by
    have h0 := g.n0
    have n9 : ¬ (9 : Int32) ≤ Int32.ofNat i := le_n (l := 9) (n := 9) rfl (by omega) (by omega) (by omega)
    by_cases hi : i < ctA s
    · have hO := (hr.2.2.2.1 i hi).2
      obtain ⟨⟨h80, hlt, -⟩, a0, a1, a2, a3, a4, a5⟩ := id hO
      have hk5 := (g.2.1 i hi).1
      have hans : ansO s ra (Int32.ofNat i) = some (ra i) := ans_i g hi
      have hAn : AnsAt (dU D (80 + N) (4, kcl (s (7 + 5 * i)))) (N + 1) (80 + N) := dAns (kcl_ans _)
      have hB : AnsAt (dU D (80 + N) (4, kcl (s (7 + 5 * i)))) (N + 1) (ra i) := hO.at.up (fun c _ q2 => dU_o (by omega)) (by omega)
      have hne : ra i ≠ 80 + N := by omega
      generalize hI' : u2r I (80 + N) (upd (upd (upd (upd (mkA (s (7 + 5 * i)) (Int32.ofNat i)) 2 (I (ra i) 2)) 3 (I (ra i) 3)) 4 (I (ra i) 4)) 5 (I (ra i) 5)) = I1
      have ip : I1 (80 + N) = upd (upd (upd (upd (mkA (s (7 + 5 * i)) (Int32.ofNat i)) 2 (I (ra i) 2)) 3 (I (ra i) 3)) 4 (I (ra i) 4)) 5 (I (ra i) 5) := by rw [← hI', u2r_s]
      have io : ∀ c, c < 80 + N → I1 c = I c := fun c q2 => by rw [← hI', u2r_o (by omega)]
      have p1 : I1 (80 + N) 1 = Int32.ofNat i := by rw [ip]; rfl
      have hDo : ∀ a, 80 ≤ a → a < 80 + N → dU D (80 + N) (4, kcl (s (7 + 5 * i))) a = D a := fun a _ h => dU_o (by omega)
      have hput := C_put16 (X := X) (d := d + 3) (D := dU D (80 + N) (4, kcl (s (7 + 5 * i)))) (P := P) hAn p1 (by omega)
      have h280 := C_280 (X := X) (d := d + 3) (I := I) (P := P) (r := mkA (s (7 + 5 * i)) (Int32.ofNat i)) hAn hB hne
      rw [hI'] at h280
      have hnew : AnsR s (dU D (80 + N) (4, kcl (s (7 + 5 * i)))) I1 (N + 1) i (80 + N) := by
        refine ⟨⟨by omega, by omega, dU_s⟩, ?_, p1, ?_, ?_, ?_, ?_⟩
        · rw [ip]; rfl
        · rw [ip]; exact a2
        · rw [ip]; exact a3
        · rw [ip]; exact a4
        · rw [ip]; exact a5
      have pT : p2 P 17 i (some (80 + N)) 17 = va_up (P 17) i (some (80 + N)) := if_pos rfl
      have hr2 : RideR s (dU D (80 + N) (4, kcl (s (7 + 5 * i)))) I1 (p2 P 17 i (some (80 + N))) (N + 1) 1 ra :=
        hr.mono hDo (by omega) (io _ (by omega)) (io _ (by omega)) (io _ (by omega)) (io _ (by omega)) (io _ (by omega)) (fun j hj => io _ (hr.2.2.2.1 j hj).2.1.2.1) (fun q hq _ j hj => io _ (by have := hq.2.1; omega)) (fun j _ => by rw [show p2 P 17 i (some (80 + N)) (1 + 1) = P (1 + 1) from if_neg (by decide)]) (by rw [show p2 P 17 i (some (80 + N)) 1 = P 1 from if_neg (by decide)])
      obtain ⟨D', I', P', N', rk', l3', l4', w1, w2, w3, w4, w5, w6, w7, w8, w9, w10⟩ := C_bec1K g k (i + 1) _ I1 (p2 P 17 i (some (80 + N))) (N + 1) (fun j => if j = i then 80 + N else rk j) (va_rf (some (ra i))) (.ref (80 + N)) hr2 (by omega)
        (fun j hj hja => by
          show p2 P 17 i (some (80 + N)) 17 j = some (if j = i then 80 + N else rk j) ∧ AnsR s _ I1 (N + 1) j (if j = i then 80 + N else rk j)
          rw [pT]
          by_cases hji : j = i
          · subst hji; rw [va_up_self, if_pos rfl]; exact ⟨rfl, hnew⟩
          · obtain ⟨v1, v2⟩ := hA j (by omega) hja
            rw [va_up_ne _ _ hji, if_neg hji]
            exact ⟨v1, v2.mono hDo (io _ v2.1.2.1) (by omega)⟩)
        (fun j t hj ht hja hta he => by
          have he : (if j = i then 80 + N else rk j) = (if t = i then 80 + N else rk t) := he
          by_cases hji : j = i
          · by_cases hti : t = i
            · rw [hji, hti]
            · rw [if_pos hji, if_neg hti] at he
              have := (hA t (by omega) hta).2.1.2.1; omega
          · by_cases hti : t = i
            · rw [if_neg hji, if_pos hti] at he
              have := (hA j (by omega) hja).2.1.2.1; omega
            · rw [if_neg hji, if_neg hti] at he
              exact hJ j t (by omega) (by omega) hja hta he)
      refine ⟨D', I', P', N', rk', l3', l4', ?_, fun a h1 h2 => (w2 a h1 (by omega)).trans (hDo a h1 h2), fun a h1 => (w3 a (by omega)).trans (io a h1), fun a h1 => (w4 a h1).trans (if_neg h1), by omega, by omega, w7, w8, fun j hj => ?_, fun a q1 q2 => ?_⟩
      · rw [B48_10, if_neg n9]
        simp only [IC, Option.bind_some, List.append_nil, List.nil_append, List.cons_append, cond_true, cond_false, if_true, if_false, ite_true, ite_false, reduceIte, IC, bI_0, bI_1, bF, Bool.not_eq_false, Bool.not_eq_true, Bool.and_true, Bool.true_and, Bool.and_false, Bool.false_and, Bool.true_or, Bool.or_true, Bool.or_false, Bool.false_or, Bool.not_true, Bool.not_false, decide_true, decide_false, not_true_eq_false, not_false_eq_true, eq_self, Bool.true_eq_false, Bool.false_eq_true, C_at g hr, hans, B48_21, oc_some, RDa hO.at, a0, a1, C_make hk5, N_4837 hAn, h280, B48_45, hput, B48_51, IX]
        exact w1
      · rcases w9 j hj with ⟨q1, q2⟩ | q
        · have q2 : rk' j = (if j = i then 80 + N else rk j) := q2
          by_cases hji : j = i
          · right; rw [q2, if_pos hji]; exact Nat.le_refl _
          · left; rw [q2, if_neg hji]; exact ⟨by omega, rfl⟩
        · right; omega
      · by_cases ha : a = 80 + N
        · rw [ha, w2 (80 + N) (by omega) (by omega), dU_s]; exact kz_a _
        · exact w10 a (by omega) q2
    · have hans : ansO s ra (Int32.ofNat i) = none := by
        unfold ansO
        have : isA s (Int32.ofNat i) = false := by
          cases hb : isA s (Int32.ofNat i) with
          | false => rfl
          | true =>
            obtain ⟨t, h1, h2⟩ := isA_nat g hb
            have := congrArg Int32.toNatClampNeg h2
            rw [iN_cl (by omega), iN_cl (by omega)] at this
            omega
        rw [this]; rfl
      obtain ⟨D', I', P', N', rk', l3', l4', w1, w2, w3, w4, w5, w6, w7, w8, w9, w10⟩ := C_bec1K g k (i + 1) D I P N rk (va_rf none) l4 hr (by omega) (fun j hj hja => hA j (by omega) hja) (fun j t hj ht hja hta he => hJ j t (by omega) (by omega) hja hta he)
      refine ⟨D', I', P', N', rk', l3', l4', ?_, w2, w3, w4, w5, by omega, w7, w8, fun j hj => ?_, w10⟩
      · rw [B48_10, if_neg n9]
        simp only [IC, Option.bind_some, List.append_nil, List.nil_append, List.cons_append, cond_true, cond_false, if_true, if_false, ite_true, ite_false, reduceIte, IC, bI_0, bI_1, bF, Bool.not_eq_false, Bool.not_eq_true, Bool.and_true, Bool.true_and, Bool.and_false, Bool.false_and, Bool.true_or, Bool.or_true, Bool.or_false, Bool.false_or, Bool.not_true, Bool.not_false, decide_true, decide_false, not_true_eq_false, not_false_eq_true, eq_self, Bool.true_eq_false, Bool.false_eq_true, C_at g hr, hans, B48_21, oc_none, B48_51, IX]
        exact w1
      · rcases w9 j hj with ⟨q1, q2⟩ | q
        · exact Or.inl ⟨by omega, q2⟩
        · exact Or.inr q
theorem C_becK (g : Gd s m) (hr : RideR s D I P N 1 ra) : ∃ D' I' P' N' rk, Rn X (d + 4) 48 0 [.ref 16, .ref 1, U_, U_, U_] [] (Mh D I P N) = some ([], Mh D' I' P' N')
      ∧ RideR s D' I' P' N' 16 rk ∧ (∀ a, 80 ≤ a → a < 80 + N → D' a = D a) ∧ (∀ a, a < 80 + N → a ≠ 16 → a ≠ 18 → a ≠ 19 → a ≠ 29 → a ≠ 30 → I' a = I a) ∧ (∀ a, a ≠ 16 → a ≠ 17 → P' a = P a) ∧ N ≤ N' ∧ N' ≤ N + 9 ∧ (∀ j, j < ctA s → 80 + N ≤ rk j) ∧ ∀ a, 80 + N ≤ a → a < 80 + N' → kz (D' a) ≤ 100 := by
  have h0 := g.n0
  have h2 := g.n2
  have h3 := g.n3
  have hr1 : RideR s D (u2 I 16 1 (I 1 1)) P N 1 ra := hr.mono (fun _ _ _ => rfl) (Nat.le_refl _) (u2_o (by decide)) (u2_o (by decide)) (u2_o (by decide)) (u2_o (by decide)) (u2_o (by decide)) (fun j hj => u2_o (by have := (hr.2.2.2.1 j hj).2.1.1; omega)) (fun q hq _ j hj => u2_o (by have := hq.ne hj; omega)) (fun _ _ => rfl) rfl
  obtain ⟨D', I1, P1, N', rk, l3', l4', w1, w2, w3, w4, w5, w6, w7, w8, w9, w10⟩ := C_bec1K (X := X) (d := d) (ra := ra) g 9 0 D (u2 I 16 1 (I 1 1)) P N (fun _ => 0) U_ U_ hr1 rfl (fun j hj => by omega) (fun j t hj => by omega)
  have hr2 : RideR s D' I1 P1 N' 1 ra := hr1.mono w2 w5 (w3 _ (by omega)) (w3 _ (by omega)) (w3 _ (by omega)) (w3 _ (by omega)) (w3 _ (by omega)) (fun j hj => w3 _ (hr.2.2.2.1 j hj).2.1.2.1) (fun q hq _ j hj => w3 _ (by have := hq.2.1; omega)) (fun j _ => by rw [w4 (1 + 1) (by decide)]) (by rw [w4 1 (by decide)])
  obtain ⟨⟨e1, e4, e5, e6, e7, e8, e13⟩, r2, r3, r4, r5, q, hq, hR⟩ := hr2
  have iT1 : I1 16 1 = s 0 := by rw [w3 16 (by omega), u2_s, upd_s]; exact hr.1.1
  have io1 : ∀ a, a < 80 + N → a ≠ 16 → I1 a = I a := fun a q1 q2 => by rw [w3 a q1, u2_o q2]
  have c1 : ∀ I, hCY (Mh D' I P1 N') 3 0 18 0 8 = some (Mh D' (u2r I 18 (va_cpy (I 3) (I 18) 0 0 8)) P1 N') := fun I => cyA hN3 hN18 rfl rfl rfl (by decide)
  have c2 : ∀ I, hCY (Mh D' I P1 N') 4 0 19 0 8 = some (Mh D' (u2r I 19 (va_cpy (I 4) (I 19) 0 0 8)) P1 N') := fun I => cyA hN4 hN19 rfl rfl rfl (by decide)
  have c3 : ∀ I P, hCY (Mh D' I P N') 14 0 29 0 6 = some (Mh D' (u2r I 29 (va_cpy (I 14) (I 29) 0 0 6)) P N') := fun I P => cyA hN14 hN29 rfl rfl rfl (by decide)
  have c4 : ∀ I P, hCY (Mh D' I P N') 15 0 30 0 6 = some (Mh D' (u2r I 30 (va_cpy (I 15) (I 30) 0 0 6)) P N') := fun I P => cyA hN15 hN30 rfl rfl rfl (by decide)
  generalize hI2 : u2 (u2r (u2r (u2 (u2 (u2 (u2 (u2 (u2r (u2r I1 18 (va_cpy (I1 3) (I1 18) 0 0 8)) 19 (va_cpy (I1 4) (I1 19) 0 0 8)) 16 4 (s 2)) 16 5 (endV s)) 16 6 (s 4)) 16 7 (s 5)) 16 8 (s 6)) 29 (va_cpy (I1 14) (I1 29) 0 0 6)) 30 (va_cpy (I1 15) (I1 30) 0 0 6)) 16 13 (s 3) = I2
  have jT : I2 16 = upd (upd (upd (upd (upd (upd (I1 16) 4 (s 2)) 5 (endV s)) 6 (s 4)) 7 (s 5)) 8 (s 6)) 13 (s 3) := by
    rw [← hI2, u2_s, u2r_o (by decide), u2r_o (by decide), u2_s, u2_s, u2_s, u2_s, u2_s, u2r_o (by decide), u2r_o (by decide)]
  have j2 : I2 18 = va_cpy (I1 3) (I1 18) 0 0 8 := by
    rw [← hI2, u2_o (by decide), u2r_o (by decide), u2r_o (by decide), u2_o (by decide), u2_o (by decide), u2_o (by decide), u2_o (by decide), u2_o (by decide), u2r_o (by decide), u2r_s]
  have j3 : I2 19 = va_cpy (I1 4) (I1 19) 0 0 8 := by
    rw [← hI2, u2_o (by decide), u2r_o (by decide), u2r_o (by decide), u2_o (by decide), u2_o (by decide), u2_o (by decide), u2_o (by decide), u2_o (by decide), u2r_s]
  have j13 : I2 29 = va_cpy (I1 14) (I1 29) 0 0 6 := by
    rw [← hI2, u2_o (by decide), u2r_o (by decide), u2r_s]
  have j14 : I2 30 = va_cpy (I1 15) (I1 30) 0 0 6 := by
    rw [← hI2, u2_o (by decide), u2r_s]
  have jo : ∀ a, a ≠ 16 → a ≠ 18 → a ≠ 19 → a ≠ 29 → a ≠ 30 → I2 a = I1 a := fun a q1 q2 q3 q4 q5 => by
    rw [← hI2, u2_o q1, u2r_o q5, u2r_o q4, u2_o q1, u2_o q1, u2_o q1, u2_o q1, u2_o q1, u2r_o q3, u2r_o q2]
  refine ⟨D', I2, p2 P1 16 9 (some q), N', rk, ?_, ?_, w2, fun a q1 q2 q3 q4 q5 q6 => (jo a q2 q3 q4 q5 q6).trans (io1 a q1 q2), fun a q1 q2 => (show p2 P1 16 9 (some q) a = P1 a from if_neg q1).trans (w4 a q2), w5, w6, fun j hj => (w9 j hj).resolve_left (fun q => by omega), w10⟩
  · have w1' : Rn X (d + 4) 48 10 [.ref 16, .ref 1, .int 0, U_, U_] [] (Mh D (u2 I 16 1 (I 1 1)) P N) = _ := w1
    simp only [B48_0, RDc, Option.bind_some, List.append_nil, List.nil_append, List.cons_append, cond_true, cond_false, if_true, if_false, ite_true, ite_false, reduceIte, IC, bI_0, bI_1, bF, Bool.not_eq_false, Bool.not_eq_true, Bool.and_true, Bool.true_and, Bool.and_false, Bool.false_and, Bool.true_or, Bool.or_true, Bool.or_false, Bool.false_or, Bool.not_true, Bool.not_false, decide_true, decide_false, not_true_eq_false, not_false_eq_true, eq_self, Bool.true_eq_false, Bool.false_eq_true, WRc, w1']
    rw [B48_10, if_pos (by decide)]
    simp only [RDc, Option.bind_some, List.append_nil, List.nil_append, List.cons_append, cond_true, cond_false, if_true, if_false, ite_true, ite_false, reduceIte, IC, bI_0, bI_1, bF, Bool.not_eq_false, Bool.not_eq_true, Bool.and_true, Bool.true_and, Bool.and_false, Bool.false_and, Bool.true_or, Bool.or_true, Bool.or_false, Bool.false_or, Bool.not_true, Bool.not_false, decide_true, decide_false, not_true_eq_false, not_false_eq_true, eq_self, Bool.true_eq_false, Bool.false_eq_true, c1, c2, c3, c4, WRc, WRr16, hq, u2_o (show 1 ≠ 16 by decide), u2r_o (show 1 ≠ 18 by decide), u2r_o (show 1 ≠ 19 by decide), u2r_o (show 1 ≠ 29 by decide), u2r_o (show 1 ≠ 30 by decide), u2r_o (show 4 ≠ 18 by decide), u2r_o (show 19 ≠ 18 by decide), u2_o (show 14 ≠ 16 by decide), u2r_o (show 14 ≠ 18 by decide), u2r_o (show 14 ≠ 19 by decide), u2_o (show 29 ≠ 16 by decide), u2r_o (show 29 ≠ 18 by decide), u2r_o (show 29 ≠ 19 by decide), u2_o (show 15 ≠ 16 by decide), u2r_o (show 15 ≠ 18 by decide), u2r_o (show 15 ≠ 19 by decide), u2r_o (show 15 ≠ 29 by decide), u2_o (show 30 ≠ 16 by decide), u2r_o (show 30 ≠ 18 by decide), u2r_o (show 30 ≠ 19 by decide), u2r_o (show 30 ≠ 29 by decide), e4, e5, e6, e7, e8, e13]
    rw [hI2]
  · refine ⟨?_, fun k hk => ?_, fun k hk => ?_, fun j hj => ?_, w8, q, ?_, ?_⟩
    · rw [jT]; exact ⟨iT1, rfl, rfl, rfl, rfl, rfl, rfl⟩
    · show I2 18 k = _ ∧ I2 19 k = _
      rw [j2, j3, cpy_lt (by omega), cpy_lt (by omega)]; exact r2 k hk
    · show I2 29 k = _ ∧ I2 30 k = _
      rw [j13, j14, cpy_lt (by omega), cpy_lt (by omega)]; exact r3 k hk
    · obtain ⟨v1, v2⟩ := w7 j hj
      have := v2.1.1
      exact ⟨by rw [show p2 P1 16 9 (some q) (16 + 1) = P1 17 from if_neg (by decide)]; exact v1, v2.of (jo _ (by omega) (by omega) (by omega) (by omega) (by omega))⟩
    · rw [show p2 P1 16 9 (some q) 16 = va_up (P1 16) 9 (some q) from if_pos rfl, va_up_self]
    · exact hR.of (fun j hj => by have := hR.1.ne hj; exact jo _ (by omega) (by omega) (by omega) (by omega) (by omega))
theorem C_bec1A (g : Gd s m) : ∀ k i (D : Nat → Nat × Nat) (I : Nat → Nat → Int32) (P : Nat → Nat → Option Nat) (N : Nat) (rk : Nat → Nat) (l3 l4 : Value), RideR s D I P N 16 ra → i + k = 9 → (∀ j, j < i → j < ctA s → P 2 j = some (rk j) ∧ AnsR s D I N j (rk j)) → (∀ j t, j < i → t < i → j < ctA s → t < ctA s → rk j = rk t → j = t) →
    ∃ (D' : Nat → Nat × Nat) (I' : Nat → Nat → Int32) (P' : Nat → Nat → Option Nat) (N' : Nat) (rk' : Nat → Nat) (l3' l4' : Value), Rn X (d + 4) 48 10 [.ref 1, .ref 16, .int (Int32.ofNat i), l3, l4] [] (Mh D I P N) = Rn X (d + 4) 48 10 [.ref 1, .ref 16, .int 9, l3', l4'] [] (Mh D' I' P' N')
      ∧ (∀ a, 80 ≤ a → a < 80 + N → D' a = D a) ∧ (∀ a, a < 80 + N → I' a = I a) ∧ (∀ a, a ≠ 2 → P' a = P a) ∧ N ≤ N' ∧ N' ≤ N + k ∧ (∀ j, j < ctA s → P' 2 j = some (rk' j) ∧ AnsR s D' I' N' j (rk' j)) ∧ (∀ j t, j < ctA s → t < ctA s → rk' j = rk' t → j = t) ∧ (∀ j, j < ctA s → (j < i ∧ rk' j = rk j) ∨ 80 + N ≤ rk' j) ∧ ∀ a, 80 + N ≤ a → a < 80 + N' → kz (D' a) ≤ 100
  | 0, i, D, I, P, N, rk, l3, l4, hr, hk, hA, hJ => by
    have h9 := g.n0.2
    have : i = 9 := by omega
    subst this
    exact ⟨D, I, P, N, rk, l3, l4, rfl, fun _ _ _ => rfl, fun _ _ => rfl, fun _ _ => rfl, Nat.le_refl _, Nat.le_refl _, fun j hj => hA j (by omega) hj, fun j t hj ht he => hJ j t (by omega) (by omega) hj ht he, fun j hj => Or.inl ⟨by omega, rfl⟩, fun a q1 q2 => by omega⟩
  | k + 1, i, D, I, P, N, rk, l3, l4, hr, hk, hA, hJ => by
    have h0 := g.n0
    have n9 : ¬ (9 : Int32) ≤ Int32.ofNat i := le_n (l := 9) (n := 9) rfl (by omega) (by omega) (by omega)
    by_cases hi : i < ctA s
    · have hO := (hr.2.2.2.1 i hi).2
      obtain ⟨⟨h80, hlt, -⟩, a0, a1, a2, a3, a4, a5⟩ := id hO
      have hk5 := (g.2.1 i hi).1
      have hans : ansO s ra (Int32.ofNat i) = some (ra i) := ans_i g hi
      have hAn : AnsAt (dU D (80 + N) (4, kcl (s (7 + 5 * i)))) (N + 1) (80 + N) := dAns (kcl_ans _)
      have hB : AnsAt (dU D (80 + N) (4, kcl (s (7 + 5 * i)))) (N + 1) (ra i) := hO.at.up (fun c _ q2 => dU_o (by omega)) (by omega)
      have hne : ra i ≠ 80 + N := by omega
      generalize hI' : u2r I (80 + N) (upd (upd (upd (upd (mkA (s (7 + 5 * i)) (Int32.ofNat i)) 2 (I (ra i) 2)) 3 (I (ra i) 3)) 4 (I (ra i) 4)) 5 (I (ra i) 5)) = I1
      have ip : I1 (80 + N) = upd (upd (upd (upd (mkA (s (7 + 5 * i)) (Int32.ofNat i)) 2 (I (ra i) 2)) 3 (I (ra i) 3)) 4 (I (ra i) 4)) 5 (I (ra i) 5) := by rw [← hI', u2r_s]
      have io : ∀ c, c < 80 + N → I1 c = I c := fun c q2 => by rw [← hI', u2r_o (by omega)]
      have p1 : I1 (80 + N) 1 = Int32.ofNat i := by rw [ip]; rfl
      have hDo : ∀ a, 80 ≤ a → a < 80 + N → dU D (80 + N) (4, kcl (s (7 + 5 * i))) a = D a := fun a _ h => dU_o (by omega)
      have hput := C_put (X := X) (d := d + 3) (D := dU D (80 + N) (4, kcl (s (7 + 5 * i)))) (P := P) hAn p1 (by omega)
      have h280 := C_280 (X := X) (d := d + 3) (I := I) (P := P) (r := mkA (s (7 + 5 * i)) (Int32.ofNat i)) hAn hB hne
      rw [hI'] at h280
      have hnew : AnsR s (dU D (80 + N) (4, kcl (s (7 + 5 * i)))) I1 (N + 1) i (80 + N) := by
        refine ⟨⟨by omega, by omega, dU_s⟩, ?_, p1, ?_, ?_, ?_, ?_⟩
        · rw [ip]; rfl
        · rw [ip]; exact a2
        · rw [ip]; exact a3
        · rw [ip]; exact a4
        · rw [ip]; exact a5
      have pT : p2 P 2 i (some (80 + N)) 2 = va_up (P 2) i (some (80 + N)) := if_pos rfl
      have hr2 : RideR s (dU D (80 + N) (4, kcl (s (7 + 5 * i)))) I1 (p2 P 2 i (some (80 + N))) (N + 1) 16 ra :=
        hr.mono hDo (by omega) (io _ (by omega)) (io _ (by omega)) (io _ (by omega)) (io _ (by omega)) (io _ (by omega)) (fun j hj => io _ (hr.2.2.2.1 j hj).2.1.2.1) (fun q hq _ j hj => io _ (by have := hq.2.1; omega)) (fun j _ => by rw [show p2 P 2 i (some (80 + N)) (16 + 1) = P (16 + 1) from if_neg (by decide)]) (by rw [show p2 P 2 i (some (80 + N)) 16 = P 16 from if_neg (by decide)])
      obtain ⟨D', I', P', N', rk', l3', l4', w1, w2, w3, w4, w5, w6, w7, w8, w9, w10⟩ := C_bec1A g k (i + 1) _ I1 (p2 P 2 i (some (80 + N))) (N + 1) (fun j => if j = i then 80 + N else rk j) (va_rf (some (ra i))) (.ref (80 + N)) hr2 (by omega)
        (fun j hj hja => by
          show p2 P 2 i (some (80 + N)) 2 j = some (if j = i then 80 + N else rk j) ∧ AnsR s _ I1 (N + 1) j (if j = i then 80 + N else rk j)
          rw [pT]
          by_cases hji : j = i
          · subst hji; rw [va_up_self, if_pos rfl]; exact ⟨rfl, hnew⟩
          · obtain ⟨v1, v2⟩ := hA j (by omega) hja
            rw [va_up_ne _ _ hji, if_neg hji]
            exact ⟨v1, v2.mono hDo (io _ v2.1.2.1) (by omega)⟩)
        (fun j t hj ht hja hta he => by
          have he : (if j = i then 80 + N else rk j) = (if t = i then 80 + N else rk t) := he
          by_cases hji : j = i
          · by_cases hti : t = i
            · rw [hji, hti]
            · rw [if_pos hji, if_neg hti] at he
              have := (hA t (by omega) hta).2.1.2.1; omega
          · by_cases hti : t = i
            · rw [if_neg hji, if_pos hti] at he
              have := (hA j (by omega) hja).2.1.2.1; omega
            · rw [if_neg hji, if_neg hti] at he
              exact hJ j t (by omega) (by omega) hja hta he)
      refine ⟨D', I', P', N', rk', l3', l4', ?_, fun a h1 h2 => (w2 a h1 (by omega)).trans (hDo a h1 h2), fun a h1 => (w3 a (by omega)).trans (io a h1), fun a h1 => (w4 a h1).trans (if_neg h1), by omega, by omega, w7, w8, fun j hj => ?_, fun a q1 q2 => ?_⟩
      · rw [B48_10, if_neg n9]
        simp only [IC, Option.bind_some, List.append_nil, List.nil_append, List.cons_append, cond_true, cond_false, if_true, if_false, ite_true, ite_false, reduceIte, IC, bI_0, bI_1, bF, Bool.not_eq_false, Bool.not_eq_true, Bool.and_true, Bool.true_and, Bool.and_false, Bool.false_and, Bool.true_or, Bool.or_true, Bool.or_false, Bool.false_or, Bool.not_true, Bool.not_false, decide_true, decide_false, not_true_eq_false, not_false_eq_true, eq_self, Bool.true_eq_false, Bool.false_eq_true, C_at16 g hr, hans, B48_21, oc_some, RDa hO.at, a0, a1, C_make hk5, N_4837 hAn, h280, B48_45, hput, B48_51, IX]
        exact w1
      · rcases w9 j hj with ⟨q1, q2⟩ | q
        · have q2 : rk' j = (if j = i then 80 + N else rk j) := q2
          by_cases hji : j = i
          · right; rw [q2, if_pos hji]; exact Nat.le_refl _
          · left; rw [q2, if_neg hji]; exact ⟨by omega, rfl⟩
        · right; omega
      · by_cases ha : a = 80 + N
        · rw [ha, w2 (80 + N) (by omega) (by omega), dU_s]; exact kz_a _
        · exact w10 a (by omega) q2
    · have hans : ansO s ra (Int32.ofNat i) = none := by
        unfold ansO
        have : isA s (Int32.ofNat i) = false := by
          cases hb : isA s (Int32.ofNat i) with
          | false => rfl
          | true =>
            obtain ⟨t, h1, h2⟩ := isA_nat g hb
            have := congrArg Int32.toNatClampNeg h2
            rw [iN_cl (by omega), iN_cl (by omega)] at this
            omega
        rw [this]; rfl
      obtain ⟨D', I', P', N', rk', l3', l4', w1, w2, w3, w4, w5, w6, w7, w8, w9, w10⟩ := C_bec1A g k (i + 1) D I P N rk (va_rf none) l4 hr (by omega) (fun j hj hja => hA j (by omega) hja) (fun j t hj ht hja hta he => hJ j t (by omega) (by omega) hja hta he)
      refine ⟨D', I', P', N', rk', l3', l4', ?_, w2, w3, w4, w5, by omega, w7, w8, fun j hj => ?_, w10⟩
      · rw [B48_10, if_neg n9]
        simp only [IC, Option.bind_some, List.append_nil, List.nil_append, List.cons_append, cond_true, cond_false, if_true, if_false, ite_true, ite_false, reduceIte, IC, bI_0, bI_1, bF, Bool.not_eq_false, Bool.not_eq_true, Bool.and_true, Bool.true_and, Bool.and_false, Bool.false_and, Bool.true_or, Bool.or_true, Bool.or_false, Bool.false_or, Bool.not_true, Bool.not_false, decide_true, decide_false, not_true_eq_false, not_false_eq_true, eq_self, Bool.true_eq_false, Bool.false_eq_true, C_at16 g hr, hans, B48_21, oc_none, B48_51, IX]
        exact w1
      · rcases w9 j hj with ⟨q1, q2⟩ | q
        · exact Or.inl ⟨by omega, q2⟩
        · exact Or.inr q
theorem C_becA (g : Gd s m) (hr : RideR s D I P N 16 ra) : ∃ D' I' P' N' rk, Rn X (d + 4) 48 0 [.ref 1, .ref 16, U_, U_, U_] [] (Mh D I P N) = some ([], Mh D' I' P' N')
      ∧ RideR s D' I' P' N' 1 rk ∧ (∀ a, 80 ≤ a → a < 80 + N → D' a = D a) ∧ (∀ a, a < 80 + N → a ≠ 1 → a ≠ 3 → a ≠ 4 → a ≠ 14 → a ≠ 15 → I' a = I a) ∧ (∀ a, a ≠ 1 → a ≠ 2 → P' a = P a) ∧ N ≤ N' ∧ N' ≤ N + 9 ∧ (∀ j, j < ctA s → 80 + N ≤ rk j) ∧ ∀ a, 80 + N ≤ a → a < 80 + N' → kz (D' a) ≤ 100 := by
  have h0 := g.n0
  have h2 := g.n2
  have h3 := g.n3
  have hr1 : RideR s D (u2 I 1 1 (I 16 1)) P N 16 ra := hr.mono (fun _ _ _ => rfl) (Nat.le_refl _) (u2_o (by decide)) (u2_o (by decide)) (u2_o (by decide)) (u2_o (by decide)) (u2_o (by decide)) (fun j hj => u2_o (by have := (hr.2.2.2.1 j hj).2.1.1; omega)) (fun q hq _ j hj => u2_o (by have := hq.ne hj; omega)) (fun _ _ => rfl) rfl
  obtain ⟨D', I1, P1, N', rk, l3', l4', w1, w2, w3, w4, w5, w6, w7, w8, w9, w10⟩ := C_bec1A (X := X) (d := d) (ra := ra) g 9 0 D (u2 I 1 1 (I 16 1)) P N (fun _ => 0) U_ U_ hr1 rfl (fun j hj => by omega) (fun j t hj => by omega)
  have hr2 : RideR s D' I1 P1 N' 16 ra := hr1.mono w2 w5 (w3 _ (by omega)) (w3 _ (by omega)) (w3 _ (by omega)) (w3 _ (by omega)) (w3 _ (by omega)) (fun j hj => w3 _ (hr.2.2.2.1 j hj).2.1.2.1) (fun q hq _ j hj => w3 _ (by have := hq.2.1; omega)) (fun j _ => by rw [w4 (16 + 1) (by decide)]) (by rw [w4 16 (by decide)])
  obtain ⟨⟨e1, e4, e5, e6, e7, e8, e13⟩, r2, r3, r4, r5, q, hq, hR⟩ := hr2
  have iT1 : I1 1 1 = s 0 := by rw [w3 1 (by omega), u2_s, upd_s]; exact hr.1.1
  have io1 : ∀ a, a < 80 + N → a ≠ 1 → I1 a = I a := fun a q1 q2 => by rw [w3 a q1, u2_o q2]
  have c1 : ∀ I, hCY (Mh D' I P1 N') 18 0 3 0 8 = some (Mh D' (u2r I 3 (va_cpy (I 18) (I 3) 0 0 8)) P1 N') := fun I => cyA hN18 hN3 rfl rfl rfl (by decide)
  have c2 : ∀ I, hCY (Mh D' I P1 N') 19 0 4 0 8 = some (Mh D' (u2r I 4 (va_cpy (I 19) (I 4) 0 0 8)) P1 N') := fun I => cyA hN19 hN4 rfl rfl rfl (by decide)
  have c3 : ∀ I P, hCY (Mh D' I P N') 29 0 14 0 6 = some (Mh D' (u2r I 14 (va_cpy (I 29) (I 14) 0 0 6)) P N') := fun I P => cyA hN29 hN14 rfl rfl rfl (by decide)
  have c4 : ∀ I P, hCY (Mh D' I P N') 30 0 15 0 6 = some (Mh D' (u2r I 15 (va_cpy (I 30) (I 15) 0 0 6)) P N') := fun I P => cyA hN30 hN15 rfl rfl rfl (by decide)
  generalize hI2 : u2 (u2r (u2r (u2 (u2 (u2 (u2 (u2 (u2r (u2r I1 3 (va_cpy (I1 18) (I1 3) 0 0 8)) 4 (va_cpy (I1 19) (I1 4) 0 0 8)) 1 4 (s 2)) 1 5 (endV s)) 1 6 (s 4)) 1 7 (s 5)) 1 8 (s 6)) 14 (va_cpy (I1 29) (I1 14) 0 0 6)) 15 (va_cpy (I1 30) (I1 15) 0 0 6)) 1 13 (s 3) = I2
  have jT : I2 1 = upd (upd (upd (upd (upd (upd (I1 1) 4 (s 2)) 5 (endV s)) 6 (s 4)) 7 (s 5)) 8 (s 6)) 13 (s 3) := by
    rw [← hI2, u2_s, u2r_o (by decide), u2r_o (by decide), u2_s, u2_s, u2_s, u2_s, u2_s, u2r_o (by decide), u2r_o (by decide)]
  have j2 : I2 3 = va_cpy (I1 18) (I1 3) 0 0 8 := by
    rw [← hI2, u2_o (by decide), u2r_o (by decide), u2r_o (by decide), u2_o (by decide), u2_o (by decide), u2_o (by decide), u2_o (by decide), u2_o (by decide), u2r_o (by decide), u2r_s]
  have j3 : I2 4 = va_cpy (I1 19) (I1 4) 0 0 8 := by
    rw [← hI2, u2_o (by decide), u2r_o (by decide), u2r_o (by decide), u2_o (by decide), u2_o (by decide), u2_o (by decide), u2_o (by decide), u2_o (by decide), u2r_s]
  have j13 : I2 14 = va_cpy (I1 29) (I1 14) 0 0 6 := by
    rw [← hI2, u2_o (by decide), u2r_o (by decide), u2r_s]
  have j14 : I2 15 = va_cpy (I1 30) (I1 15) 0 0 6 := by
    rw [← hI2, u2_o (by decide), u2r_s]
  have jo : ∀ a, a ≠ 1 → a ≠ 3 → a ≠ 4 → a ≠ 14 → a ≠ 15 → I2 a = I1 a := fun a q1 q2 q3 q4 q5 => by
    rw [← hI2, u2_o q1, u2r_o q5, u2r_o q4, u2_o q1, u2_o q1, u2_o q1, u2_o q1, u2_o q1, u2r_o q3, u2r_o q2]
  refine ⟨D', I2, p2 P1 1 9 (some q), N', rk, ?_, ?_, w2, fun a q1 q2 q3 q4 q5 q6 => (jo a q2 q3 q4 q5 q6).trans (io1 a q1 q2), fun a q1 q2 => (show p2 P1 1 9 (some q) a = P1 a from if_neg q1).trans (w4 a q2), w5, w6, fun j hj => (w9 j hj).resolve_left (fun q => by omega), w10⟩
  · have w1' : Rn X (d + 4) 48 10 [.ref 1, .ref 16, .int 0, U_, U_] [] (Mh D (u2 I 1 1 (I 16 1)) P N) = _ := w1
    simp only [B48_0, RDc, Option.bind_some, List.append_nil, List.nil_append, List.cons_append, cond_true, cond_false, if_true, if_false, ite_true, ite_false, reduceIte, IC, bI_0, bI_1, bF, Bool.not_eq_false, Bool.not_eq_true, Bool.and_true, Bool.true_and, Bool.and_false, Bool.false_and, Bool.true_or, Bool.or_true, Bool.or_false, Bool.false_or, Bool.not_true, Bool.not_false, decide_true, decide_false, not_true_eq_false, not_false_eq_true, eq_self, Bool.true_eq_false, Bool.false_eq_true, WRc, w1']
    rw [B48_10, if_pos (by decide)]
    simp only [RDc, Option.bind_some, List.append_nil, List.nil_append, List.cons_append, cond_true, cond_false, if_true, if_false, ite_true, ite_false, reduceIte, IC, bI_0, bI_1, bF, Bool.not_eq_false, Bool.not_eq_true, Bool.and_true, Bool.true_and, Bool.and_false, Bool.false_and, Bool.true_or, Bool.or_true, Bool.or_false, Bool.false_or, Bool.not_true, Bool.not_false, decide_true, decide_false, not_true_eq_false, not_false_eq_true, eq_self, Bool.true_eq_false, Bool.false_eq_true, c1, c2, c3, c4, WRc, WRr1, hq, u2_o (show 16 ≠ 1 by decide), u2r_o (show 16 ≠ 3 by decide), u2r_o (show 16 ≠ 4 by decide), u2r_o (show 16 ≠ 14 by decide), u2r_o (show 16 ≠ 15 by decide), u2r_o (show 19 ≠ 3 by decide), u2r_o (show 4 ≠ 3 by decide), u2_o (show 29 ≠ 1 by decide), u2r_o (show 29 ≠ 3 by decide), u2r_o (show 29 ≠ 4 by decide), u2_o (show 14 ≠ 1 by decide), u2r_o (show 14 ≠ 3 by decide), u2r_o (show 14 ≠ 4 by decide), u2_o (show 30 ≠ 1 by decide), u2r_o (show 30 ≠ 3 by decide), u2r_o (show 30 ≠ 4 by decide), u2r_o (show 30 ≠ 14 by decide), u2_o (show 15 ≠ 1 by decide), u2r_o (show 15 ≠ 3 by decide), u2r_o (show 15 ≠ 4 by decide), u2r_o (show 15 ≠ 14 by decide), e4, e5, e6, e7, e8, e13]
    rw [hI2]
  · refine ⟨?_, fun k hk => ?_, fun k hk => ?_, fun j hj => ?_, w8, q, ?_, ?_⟩
    · rw [jT]; exact ⟨iT1, rfl, rfl, rfl, rfl, rfl, rfl⟩
    · show I2 3 k = _ ∧ I2 4 k = _
      rw [j2, j3, cpy_lt (by omega), cpy_lt (by omega)]; exact r2 k hk
    · show I2 14 k = _ ∧ I2 15 k = _
      rw [j13, j14, cpy_lt (by omega), cpy_lt (by omega)]; exact r3 k hk
    · obtain ⟨v1, v2⟩ := w7 j hj
      have := v2.1.1
      exact ⟨by rw [show p2 P1 1 9 (some q) (1 + 1) = P1 2 from if_neg (by decide)]; exact v1, v2.of (jo _ (by omega) (by omega) (by omega) (by omega) (by omega))⟩
    · rw [show p2 P1 1 9 (some q) 1 = va_up (P1 1) 9 (some q) from if_pos rfl, va_up_self]
    · exact hR.of (fun j hj => by have := hR.1.ne hj; exact jo _ (by omega) (by omega) (by omega) (by omega) (by omega))
theorem N_kep (g : Gd s m) (hr : RideR s D I P N 1 ra) : ∃ D' I' P' N' rk, Rn X (d + 40) 154 0 [.ref 0] [] (Mh D I P N) = some ([.int 1], Mh D' I' P' N') ∧ RideR s D' I' P' N' 16 rk ∧ RideR s D' I' P' N' 1 ra
      ∧ I' 0 = upd (I 0) 2 1 ∧ (∀ a, 80 ≤ a → a < 80 + N → D' a = D a) ∧ (∀ a, a < 80 + N → a ≠ 0 → a ≠ 16 → a ≠ 18 → a ≠ 19 → a ≠ 29 → a ≠ 30 → I' a = I a) ∧ (∀ a, a ≠ 16 → a ≠ 17 → P' a = P a) ∧ N ≤ N' ∧ N' ≤ N + 9 ∧ (∀ j, j < ctA s → 80 + N ≤ rk j) ∧ ∀ a, 80 + N ≤ a → a < 80 + N' → kz (D' a) ≤ 100 := by
  obtain ⟨D', I1, P', N', rk, w1, w2, w3, w4, w5, w6, w7, w8, w9⟩ := C_becK (X := X) (d := d + 35) g hr
  have hr1 : RideR s D' I1 P' N' 1 ra := hr.mono w3 w6 (w4 _ (by omega) (by omega) (by omega) (by omega) (by omega) (by omega)) (w4 _ (by omega) (by omega) (by omega) (by omega) (by omega) (by omega)) (w4 _ (by omega) (by omega) (by omega) (by omega) (by omega) (by omega)) (w4 _ (by omega) (by omega) (by omega) (by omega) (by omega) (by omega)) (w4 _ (by omega) (by omega) (by omega) (by omega) (by omega) (by omega))
    (fun j hj => by have := (hr.2.2.2.1 j hj).2.1; exact w4 _ this.2.1 (by omega) (by omega) (by omega) (by omega) (by omega)) (fun q hq _ j hj => by have h1 := hq.2.1; have h2 := hq.ne hj; exact w4 _ (by omega) (by omega) (by omega) (by omega) (by omega) (by omega)) (fun j _ => by rw [w5 (1 + 1) (by decide) (by decide)]) (by rw [w5 1 (by decide) (by decide)])
  have t0 : ∀ c, c ≠ 0 → u2 I1 0 2 1 c = I1 c := fun c hc => u2_o hc
  refine ⟨D', u2 I1 0 2 1, P', N', rk, ?_, ?_, ?_, ?_, w3, fun a q1 q2 q3 q4 q5 q6 q7 => (t0 a q2).trans (w4 a q1 q3 q4 q5 q6 q7), w5, w6, w7, w8, w9⟩
  · simp only [B154_0, RDc, Option.bind_some, List.append_nil, List.nil_append, List.cons_append, cond_true, cond_false, if_true, if_false, ite_true, ite_false, reduceIte, IC, bI_0, bI_1, bF, Bool.not_eq_false, Bool.not_eq_true, Bool.and_true, Bool.true_and, Bool.and_false, Bool.false_and, Bool.true_or, Bool.or_true, Bool.or_false, Bool.false_or, Bool.not_true, Bool.not_false, decide_true, decide_false, not_true_eq_false, not_false_eq_true, eq_self, Bool.true_eq_false, Bool.false_eq_true, w1, B154_11, WRc]
  · exact w2.mono (fun _ _ _ => rfl) (Nat.le_refl _) (t0 _ (by decide)) (t0 _ (by decide)) (t0 _ (by decide)) (t0 _ (by decide)) (t0 _ (by decide)) (fun j hj => t0 _ (by have := (w2.2.2.2.1 j hj).2.1.1; omega)) (fun q hq _ j hj => t0 _ (by have := hq.1; omega)) (fun _ _ => rfl) rfl
  · exact hr1.mono (fun _ _ _ => rfl) (Nat.le_refl _) (t0 _ (by decide)) (t0 _ (by decide)) (t0 _ (by decide)) (t0 _ (by decide)) (t0 _ (by decide)) (fun j hj => t0 _ (by have := (hr1.2.2.2.1 j hj).2.1.1; omega)) (fun q hq _ j hj => t0 _ (by have := hq.1; omega)) (fun _ _ => rfl) rfl
  · rw [u2_s, w4 0 (by omega) (by omega) (by omega) (by omega) (by omega) (by omega)]
theorem N_agn (g : Gd s m) (hk : ¬ I 0 2 = 0) (hr : RideR s D I P N 16 ra) : ∃ D' I' P' N' rk, Rn X (d + 40) 155 0 [.ref 0] [] (Mh D I P N) = some ([.int (s 0)], Mh D' I' P' N') ∧ RideR s D' I' P' N' 1 rk ∧ RideR s D' I' P' N' 16 ra
      ∧ (∀ a, 80 ≤ a → a < 80 + N → D' a = D a) ∧ (∀ a, a < 80 + N → a ≠ 1 → a ≠ 3 → a ≠ 4 → a ≠ 14 → a ≠ 15 → I' a = I a) ∧ (∀ a, a ≠ 1 → a ≠ 2 → P' a = P a) ∧ N ≤ N' ∧ N' ≤ N + 9 ∧ (∀ j, j < ctA s → 80 + N ≤ rk j) ∧ ∀ a, 80 + N ≤ a → a < 80 + N' → kz (D' a) ≤ 100 := by
  obtain ⟨D', I1, P', N', rk, w1, w2, w3, w4, w5, w6, w7, w8, w9⟩ := C_becA (X := X) (d := d + 35) g hr
  have hr1 : RideR s D' I1 P' N' 16 ra := hr.mono w3 w6 (w4 _ (by omega) (by omega) (by omega) (by omega) (by omega) (by omega)) (w4 _ (by omega) (by omega) (by omega) (by omega) (by omega) (by omega)) (w4 _ (by omega) (by omega) (by omega) (by omega) (by omega) (by omega)) (w4 _ (by omega) (by omega) (by omega) (by omega) (by omega) (by omega)) (w4 _ (by omega) (by omega) (by omega) (by omega) (by omega) (by omega))
    (fun j hj => by have := (hr.2.2.2.1 j hj).2.1; exact w4 _ this.2.1 (by omega) (by omega) (by omega) (by omega) (by omega)) (fun q hq _ j hj => by have h1 := hq.2.1; have h2 := hq.ne hj; exact w4 _ (by omega) (by omega) (by omega) (by omega) (by omega) (by omega)) (fun j _ => by rw [w5 (16 + 1) (by decide) (by decide)]) (by rw [w5 16 (by decide) (by decide)])
  refine ⟨D', I1, P', N', rk, ?_, w2, hr1, w3, w4, w5, w6, w7, w8, w9⟩
  simp only [B155_0, RDc, Option.bind_some, List.append_nil, List.nil_append, List.cons_append, cond_true, cond_false, if_true, if_false, ite_true, ite_false, reduceIte, IC, bI_0, bI_1, bF, Bool.not_eq_false, Bool.not_eq_true, Bool.and_true, Bool.true_and, Bool.and_false, Bool.false_and, Bool.true_or, Bool.or_true, Bool.or_false, Bool.false_or, Bool.not_true, Bool.not_false, decide_true, decide_false, not_true_eq_false, not_false_eq_true, eq_self, Bool.true_eq_false, Bool.false_eq_true, hk, w1, B155_21, w2.1.1]
theorem N_agn0 (hk : I 0 2 = 0) : Rn X (d + 40) 155 0 [.ref 0] [] (Mh D I P N) = some ([.int (-3)], Mh D I P N) := by
  simp only [B155_0, RDc, Option.bind_some, List.append_nil, List.nil_append, List.cons_append, cond_true, cond_false, if_true, if_false, ite_true, ite_false, reduceIte, IC, bI_0, bI_1, bF, Bool.not_eq_false, Bool.not_eq_true, Bool.and_true, Bool.true_and, Bool.and_false, Bool.false_and, Bool.true_or, Bool.or_true, Bool.or_false, Bool.false_or, Bool.not_true, Bool.not_false, decide_true, decide_false, not_true_eq_false, not_false_eq_true, eq_self, Bool.true_eq_false, Bool.false_eq_true, hk]
end Become
