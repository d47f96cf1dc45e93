/-! the class: anew, change, reports, lots -/
section ClsN
variable {X : mX} {d : Nat} {D : Nat → Nat × Nat} {I : Nat → Nat → Int32} {P : Nat → Nat → Option Nat} {N : Nat} {h : mH} {s s' g S r f f' F c : Nat → Int32} {J J' I' : Nat → Nat → Int32} {ra : Nat → Nat} {L : List Nat} {m : Int} {i j k n p q t : Nat} {x y v w a b e z fl : Int32}
theorem fit3 (g : Gd s m) (t : Nat) : fitV s (-3) t = fitV s (-1) t := by
  have h3 := g.n3.2
  unfold fitV
  refine foldA_of _ _ _ (fun r acc _ hr => ?_)
  have e3 : (-3 : Int32).toInt = -3 := rfl
  have e1 : (-1 : Int32).toInt = -1 := rfl
  have n3 : ¬ Int32.ofNat r = -3 := by rw [← Int32.toInt_inj, iN_ti (by omega)]; omega
  have n1 : ¬ Int32.ofNat r = -1 := by rw [← Int32.toInt_inj, iN_ti (by omega)]; omega
  unfold fit1
  rw [decide_eq_false n3, decide_eq_false n1]
theorem C_fi1 (g : Gd s m) (hr : RideR s D I P N 1 ra) : ∀ k r (l4 : Value), r + k = ctE s → Rn X d 46 2 [.ref 1, .int (Int32.ofNat n), .int w, .int (Int32.ofNat r), l4] [] (Mh D I P N)
      = some ([.int (bI (foldA (fun r acc => acc && fit1 s w n r) r k true))], Mh D I P N)
  | 0, r, l4, hk => by
    have h3 := g.n3
    obtain ⟨⟨-, -, -, -, -, -, e13⟩, -⟩ := id hr
    rw [B46_2]
    simp only [RDc, Option.bind_some, List.append_nil, List.nil_append, List.cons_append, cond_true, cond_false, if_true, if_false, ite_true, ite_false, reduceIte, IC, bI_0, bI_1, bF, Bool.not_eq_false, Bool.not_eq_true, Bool.and_true, Bool.true_and, Bool.and_false, Bool.false_and, Bool.true_or, Bool.or_true, Bool.or_false, Bool.false_or, Bool.not_true, Bool.not_false, decide_true, decide_false, not_true_eq_false, not_false_eq_true, eq_self, Bool.true_eq_false, Bool.false_eq_true, e13, h3.1]
    rw [if_pos (by rw [iN_le (by omega) (by omega)]; omega), B46_66]; rfl
  | k + 1, r, l4, hk => by
    have h3 := g.n3
    obtain ⟨⟨-, -, -, -, -, -, e13⟩, -, r3, -⟩ := id hr
    obtain ⟨q1, q2⟩ := r3 r (by omega)
    have q1' : I 14 r = s (68 + 3 * r + 1) - s (68 + 3 * r) := q1
    have q2' : I 15 r = s (68 + 3 * r + 2) := q2
    have hm := mib_N (j := r) (n := 6) (by omega) (by decide)
    have hc := iN_cl (j := r) (by omega)
    have hF : foldA (fun r acc => acc && fit1 s w n r) r (k + 1) true = foldA (fun r acc => acc && fit1 s w n r) (r + 1) k (fit1 s w n r) := rfl
    have hFf : ∀ k r, foldA (fun r acc => acc && fit1 s w n r) r k false = false := by
      intro k
      induction k with
      | zero => intro r; rfl
      | succ k ih => intro r; exact ih (r + 1)
    rw [B46_2]
    simp only [RDc, Option.bind_some, List.append_nil, List.nil_append, List.cons_append, cond_true, cond_false, if_true, if_false, ite_true, ite_false, reduceIte, IC, bI_0, bI_1, bF, Bool.not_eq_false, Bool.not_eq_true, Bool.and_true, Bool.true_and, Bool.and_false, Bool.false_and, Bool.true_or, Bool.or_true, Bool.or_false, Bool.false_or, Bool.not_true, Bool.not_false, decide_true, decide_false, not_true_eq_false, not_false_eq_true, eq_self, Bool.true_eq_false, Bool.false_eq_true, e13, h3.1]
    rw [if_neg (by rw [iN_le (by omega) (by omega)]; omega), if_neg (le_n (l := 6) (n := 6) rfl (by omega) (by omega) (by omega))]
    simp only [RDc, Option.bind_some, List.append_nil, List.nil_append, List.cons_append, cond_true, cond_false, if_true, if_false, ite_true, ite_false, reduceIte, IC, bI_0, bI_1, bF, Bool.not_eq_false, Bool.not_eq_true, Bool.and_true, Bool.true_and, Bool.and_false, Bool.false_and, Bool.true_or, Bool.or_true, Bool.or_false, Bool.false_or, Bool.not_true, Bool.not_false, decide_true, decide_false, not_true_eq_false, not_false_eq_true, eq_self, Bool.true_eq_false, Bool.false_eq_true, hm, hc, q1', hF]
    have tail : ∀ held, Rn X d 46 31 [.ref 1, .int (Int32.ofNat n), .int w, .int (Int32.ofNat r), l4] [.int (bI held)] (Mh D I P N)
        = some ([.int (bI (foldA (fun r acc => acc && fit1 s w n r) (r + 1) k (decide (Int32.ofNat r = w) || (held == decide (s (68 + 3 * r + 2) = 1)))))], Mh D I P N) := by
      intro held
      rw [B46_31]
      by_cases hw : Int32.ofNat r = w
      · simp only [hw, Option.bind_some, List.append_nil, List.nil_append, List.cons_append, cond_true, cond_false, if_true, if_false, ite_true, ite_false, reduceIte, IC, bI_0, bI_1, bF, Bool.not_eq_false, Bool.not_eq_true, Bool.and_true, Bool.true_and, Bool.and_false, Bool.false_and, Bool.true_or, Bool.or_true, Bool.or_false, Bool.false_or, Bool.not_true, Bool.not_false, decide_true, decide_false, not_true_eq_false, not_false_eq_true, eq_self, Bool.true_eq_false, Bool.false_eq_true, B46_60]
        rw [← hw, iN_succ]
        have := C_fi1 g hr k (r + 1) (.int (bI held)) (by omega)
        rw [← hw] at this
        exact this
      · simp only [hw, Option.bind_some, List.append_nil, List.nil_append, List.cons_append, cond_true, cond_false, if_true, if_false, ite_true, ite_false, reduceIte, IC, bI_0, bI_1, bF, Bool.not_eq_false, Bool.not_eq_true, Bool.and_true, Bool.true_and, Bool.and_false, Bool.false_and, Bool.true_or, Bool.or_true, Bool.or_false, Bool.false_or, Bool.not_true, Bool.not_false, decide_true, decide_false, not_true_eq_false, not_false_eq_true, eq_self, Bool.true_eq_false, Bool.false_eq_true, RDc, hm, hc, q2']
        by_cases h1 : s (68 + 3 * r + 2) = 1
        · simp only [h1, Option.bind_some, List.append_nil, List.nil_append, List.cons_append, cond_true, cond_false, if_true, if_false, ite_true, ite_false, reduceIte, IC, bI_0, bI_1, bF, Bool.not_eq_false, Bool.not_eq_true, Bool.and_true, Bool.true_and, Bool.and_false, Bool.false_and, Bool.true_or, Bool.or_true, Bool.or_false, Bool.false_or, Bool.not_true, Bool.not_false, decide_true, decide_false, not_true_eq_false, not_false_eq_true, eq_self, Bool.true_eq_false, Bool.false_eq_true, B46_55]
          cases held with
          | true => simp only [bI_t, Option.bind_some, List.append_nil, List.nil_append, List.cons_append, cond_true, cond_false, if_true, if_false, ite_true, ite_false, reduceIte, IC, bI_0, bI_1, bF, Bool.not_eq_false, Bool.not_eq_true, Bool.and_true, Bool.true_and, Bool.and_false, Bool.false_and, Bool.true_or, Bool.or_true, Bool.or_false, Bool.false_or, Bool.not_true, Bool.not_false, decide_true, decide_false, not_true_eq_false, not_false_eq_true, eq_self, Bool.true_eq_false, Bool.false_eq_true, B46_60, IX]; exact C_fi1 g hr k (r + 1) _ (by omega)
          | false =>
            simp only [bI_f, Option.bind_some, List.append_nil, List.nil_append, List.cons_append, cond_true, cond_false, if_true, if_false, ite_true, ite_false, reduceIte, IC, bI_0, bI_1, bF, Bool.not_eq_false, Bool.not_eq_true, Bool.and_true, Bool.true_and, Bool.and_false, Bool.false_and, Bool.true_or, Bool.or_true, Bool.or_false, Bool.false_or, Bool.not_true, Bool.not_false, decide_true, decide_false, not_true_eq_false, not_false_eq_true, eq_self, Bool.true_eq_false, Bool.false_eq_true]
            show _ = some ([Value.int (bI (foldA (fun r acc => acc && fit1 s w n r) (r + 1) k false))], _)
            rw [hFf]; rfl
        · simp only [h1, Option.bind_some, List.append_nil, List.nil_append, List.cons_append, cond_true, cond_false, if_true, if_false, ite_true, ite_false, reduceIte, IC, bI_0, bI_1, bF, Bool.not_eq_false, Bool.not_eq_true, Bool.and_true, Bool.true_and, Bool.and_false, Bool.false_and, Bool.true_or, Bool.or_true, Bool.or_false, Bool.false_or, Bool.not_true, Bool.not_false, decide_true, decide_false, not_true_eq_false, not_false_eq_true, eq_self, Bool.true_eq_false, Bool.false_eq_true, B46_55]
          cases held with
          | true =>
            simp only [bI_t, Option.bind_some, List.append_nil, List.nil_append, List.cons_append, cond_true, cond_false, if_true, if_false, ite_true, ite_false, reduceIte, IC, bI_0, bI_1, bF, Bool.not_eq_false, Bool.not_eq_true, Bool.and_true, Bool.true_and, Bool.and_false, Bool.false_and, Bool.true_or, Bool.or_true, Bool.or_false, Bool.false_or, Bool.not_true, Bool.not_false, decide_true, decide_false, not_true_eq_false, not_false_eq_true, eq_self, Bool.true_eq_false, Bool.false_eq_true]
            show _ = some ([Value.int (bI (foldA (fun r acc => acc && fit1 s w n r) (r + 1) k false))], _)
            rw [hFf]; rfl
          | false => simp only [bI_f, Option.bind_some, List.append_nil, List.nil_append, List.cons_append, cond_true, cond_false, if_true, if_false, ite_true, ite_false, reduceIte, IC, bI_0, bI_1, bF, Bool.not_eq_false, Bool.not_eq_true, Bool.and_true, Bool.true_and, Bool.and_false, Bool.false_and, Bool.true_or, Bool.or_true, Bool.or_false, Bool.false_or, Bool.not_true, Bool.not_false, decide_true, decide_false, not_true_eq_false, not_false_eq_true, eq_self, Bool.true_eq_false, Bool.false_eq_true, B46_60, IX]; exact C_fi1 g hr k (r + 1) _ (by omega)
    unfold fit1
    by_cases hh : s (68 + 3 * r + 1) - s (68 + 3 * r) < Int32.ofNat n
    · have hn : ¬ Int32.ofNat n ≤ s (68 + 3 * r + 1) - s (68 + 3 * r) := by rw [i_nle]; exact hh
      rw [if_neg hn, decide_eq_true hh]
      exact tail true
    · have hn : Int32.ofNat n ≤ s (68 + 3 * r + 1) - s (68 + 3 * r) := by rw [← i_nlt]; exact hh
      rw [if_pos hn, decide_eq_false hh]
      exact tail false
theorem C_fits (g : Gd s m) (hr : RideR s D I P N 1 ra) : Rn X d 46 0 [.ref 1, .int (Int32.ofNat n), .int w, U_, U_] [] (Mh D I P N) = some ([.int (bI (fitV s w n))], Mh D I P N) := by
  rw [B46_0]; exact C_fi1 g hr (ctE s) 0 U_ (by omega)
theorem gt60 (h : k < 2147483648) : ((60 : Int32) < Int32.ofNat k) = (60 < k) := by rw [show (60 : Int32) = Int32.ofNat 60 from rfl, iN_lt (by omega) h]
theorem C_sf1 (g : Gd s m) (hr : RideR s D I P N 1 ra) : ∀ k t, t + k = 61 → Rn X (d + 1) 47 2 [.ref 1, .int w, .int (Int32.ofNat t)] [] (Mh D I P N) = some ([.int (bI (findF (fitV s w) t k).isSome)], Mh D I P N)
  | 0, t, hk => by
    rw [B47_2, if_pos (by rw [gt60 (by omega)]; omega)]; rfl
  | k + 1, t, hk => by
    rw [B47_2, if_neg (by rw [gt60 (by omega)]; omega)]
    simp only [Option.bind_some, List.append_nil, List.nil_append, List.cons_append, cond_true, cond_false, if_true, if_false, ite_true, ite_false, reduceIte, IC, bI_0, bI_1, bF, Bool.not_eq_false, Bool.not_eq_true, Bool.and_true, Bool.true_and, Bool.and_false, Bool.false_and, Bool.true_or, Bool.or_true, Bool.or_false, Bool.false_or, Bool.not_true, Bool.not_false, decide_true, decide_false, not_true_eq_false, not_false_eq_true, eq_self, Bool.true_eq_false, Bool.false_eq_true, C_fits g hr, B47_14]
    unfold findF
    cases fitV s w t with
    | true => simp only [Option.bind_some, List.append_nil, List.nil_append, List.cons_append, cond_true, cond_false, if_true, if_false, ite_true, ite_false, reduceIte, IC, bI_0, bI_1, bF, Bool.not_eq_false, Bool.not_eq_true, Bool.and_true, Bool.true_and, Bool.and_false, Bool.false_and, Bool.true_or, Bool.or_true, Bool.or_false, Bool.false_or, Bool.not_true, Bool.not_false, decide_true, decide_false, not_true_eq_false, not_false_eq_true, eq_self, Bool.true_eq_false, Bool.false_eq_true]; rfl
    | false => simp only [Option.bind_some, List.append_nil, List.nil_append, List.cons_append, cond_true, cond_false, if_true, if_false, ite_true, ite_false, reduceIte, IC, bI_0, bI_1, bF, Bool.not_eq_false, Bool.not_eq_true, Bool.and_true, Bool.true_and, Bool.and_false, Bool.false_and, Bool.true_or, Bool.or_true, Bool.or_false, Bool.false_or, Bool.not_true, Bool.not_false, decide_true, decide_false, not_true_eq_false, not_false_eq_true, eq_self, Bool.true_eq_false, Bool.false_eq_true, IX]; exact C_sf1 g hr k (t + 1) (by omega)
theorem C_sf (g : Gd s m) (hr : RideR s D I P N 1 ra) : Rn X (d + 1) 47 0 [.ref 1, .int w, U_] [] (Mh D I P N) = some ([.int (bI (findF (fitV s w) 1 60).isSome)], Mh D I P N) := by
  rw [B47_0]; exact C_sf1 g hr 60 1 rfl
theorem fit_pos : ∀ k t (acc : Nat × Nat × Nat), 0 < (foldA (ftF s w) t k acc).1 ↔ 0 < acc.1 ∨ (findF (fitV s w) t k).isSome = true
  | 0, t, acc => ⟨fun h => Or.inl h, fun h => (by rcases h with h | h; exact h; cases h)⟩
  | k + 1, t, acc => by
    have hF : foldA (ftF s w) t (k + 1) acc = foldA (ftF s w) (t + 1) k (ftF s w t acc) := rfl
    have hf : findF (fitV s w) t (k + 1) = if fitV s w t = true then some t else findF (fitV s w) (t + 1) k := rfl
    rw [hF, fit_pos k (t + 1), hf]
    unfold ftF
    cases fitV s w t with
    | true => simp
    | false => simp
theorem fit_pc : (findF (fitV s w) 1 60).isSome = decide (0 < (fitC s w).1) := by
  have h := fit_pos (s := s) (w := w) 60 1 (0, 0, 0)
  rw [← fitC_e] at h
  cases hf : (findF (fitV s w) 1 60).isSome with
  | true => rw [decide_eq_true (h.mpr (Or.inr hf))]
  | false =>
    rw [decide_eq_false (fun q => by rcases h.mp q with q | q; exact absurd q (by decide); rw [hf] at q; cases q)]
theorem find_c {F G : Nat → Bool} (h : ∀ a, F a = G a) (k i : Nat) : findF F i k = findF G i k := find_of k i (fun a _ _ => h a)
theorem N_lia1 (g : Gd s m) (hr : RideR s D I P N 1 ra) : ∀ k r, r + k = ctE s → Rn X (d + 2) 136 17 [.ref 0, .int (Int32.ofNat r)] [] (Mh D I P N) = some ([.int (oV (findF (fun r => decide (0 < (fitC s (Int32.ofNat r)).1)) r k))], Mh D I P N)
  | 0, r, hk => by
    have h3 := g.n3
    obtain ⟨⟨-, -, -, -, -, -, e13⟩, -⟩ := id hr
    rw [B136_17]
    simp only [RDc, Option.bind_some, List.append_nil, List.nil_append, List.cons_append, cond_true, cond_false, if_true, if_false, ite_true, ite_false, reduceIte, IC, bI_0, bI_1, bF, Bool.not_eq_false, Bool.not_eq_true, Bool.and_true, Bool.true_and, Bool.and_false, Bool.false_and, Bool.true_or, Bool.or_true, Bool.or_false, Bool.false_or, Bool.not_true, Bool.not_false, decide_true, decide_false, not_true_eq_false, not_false_eq_true, eq_self, Bool.true_eq_false, Bool.false_eq_true, e13, h3.1]
    rw [if_pos (by rw [iN_le (by omega) (by omega)]; omega)]; rfl
  | k + 1, r, hk => by
    have h3 := g.n3
    obtain ⟨⟨-, -, -, -, -, -, e13⟩, -⟩ := id hr
    rw [B136_17]
    simp only [RDc, Option.bind_some, List.append_nil, List.nil_append, List.cons_append, cond_true, cond_false, if_true, if_false, ite_true, ite_false, reduceIte, IC, bI_0, bI_1, bF, Bool.not_eq_false, Bool.not_eq_true, Bool.and_true, Bool.true_and, Bool.and_false, Bool.false_and, Bool.true_or, Bool.or_true, Bool.or_false, Bool.false_or, Bool.not_true, Bool.not_false, decide_true, decide_false, not_true_eq_false, not_false_eq_true, eq_self, Bool.true_eq_false, Bool.false_eq_true, e13, h3.1]
    rw [if_neg (by rw [iN_le (by omega) (by omega)]; omega)]
    simp only [C_sf g hr, Option.bind_some, List.append_nil, List.nil_append, List.cons_append, cond_true, cond_false, if_true, if_false, ite_true, ite_false, reduceIte, IC, bI_0, bI_1, bF, Bool.not_eq_false, Bool.not_eq_true, Bool.and_true, Bool.true_and, Bool.and_false, Bool.false_and, Bool.true_or, Bool.or_true, Bool.or_false, Bool.false_or, Bool.not_true, Bool.not_false, decide_true, decide_false, not_true_eq_false, not_false_eq_true, eq_self, Bool.true_eq_false, Bool.false_eq_true, B136_36, fit_pc]
    unfold findF
    cases decide (0 < (fitC s (Int32.ofNat r)).1) with
    | true => simp only [Option.bind_some, List.append_nil, List.nil_append, List.cons_append, cond_true, cond_false, if_true, if_false, ite_true, ite_false, reduceIte, IC, bI_0, bI_1, bF, Bool.not_eq_false, Bool.not_eq_true, Bool.and_true, Bool.true_and, Bool.and_false, Bool.false_and, Bool.true_or, Bool.or_true, Bool.or_false, Bool.false_or, Bool.not_true, Bool.not_false, decide_true, decide_false, not_true_eq_false, not_false_eq_true, eq_self, Bool.true_eq_false, Bool.false_eq_true]; rfl
    | false => simp only [Option.bind_some, List.append_nil, List.nil_append, List.cons_append, cond_true, cond_false, if_true, if_false, ite_true, ite_false, reduceIte, IC, bI_0, bI_1, bF, Bool.not_eq_false, Bool.not_eq_true, Bool.and_true, Bool.true_and, Bool.and_false, Bool.false_and, Bool.true_or, Bool.or_true, Bool.or_false, Bool.false_or, Bool.not_true, Bool.not_false, decide_true, decide_false, not_true_eq_false, not_false_eq_true, eq_self, Bool.true_eq_false, Bool.false_eq_true, IX]; exact N_lia1 g hr k (r + 1) (by omega)
theorem N_lia (g : Gd s m) : Cf X 136 [.ref 0, U_] s (pLia s, s) := by
  intro d D I P N ra hr hl
  refine ⟨I, ?_, hr, hl, frc_rf⟩
  have e := find_c (F := fitV s (-3)) (G := fitV s (-1)) (fun t => fit3 g t) 60 1
  simp only [B136_0, RDc, Option.bind_some, List.append_nil, List.nil_append, List.cons_append, cond_true, cond_false, if_true, if_false, ite_true, ite_false, reduceIte, IC, bI_0, bI_1, bF, Bool.not_eq_false, Bool.not_eq_true, Bool.and_true, Bool.true_and, Bool.and_false, Bool.false_and, Bool.true_or, Bool.or_true, Bool.or_false, Bool.false_or, Bool.not_true, Bool.not_false, decide_true, decide_false, not_true_eq_false, not_false_eq_true, eq_self, Bool.true_eq_false, Bool.false_eq_true, C_sf g hr, B136_9, e, fit_pc]
  unfold pLia
  by_cases hc : (fitC s (-1)).1 = 0
  · have h0 : ¬ 0 < (fitC s (-1)).1 := by omega
    simp only [hc, h0, Option.bind_some, List.append_nil, List.nil_append, List.cons_append, cond_true, cond_false, if_true, if_false, ite_true, ite_false, reduceIte, IC, bI_0, bI_1, bF, Bool.not_eq_false, Bool.not_eq_true, Bool.and_true, Bool.true_and, Bool.and_false, Bool.false_and, Bool.true_or, Bool.or_true, Bool.or_false, Bool.false_or, Bool.not_true, Bool.not_false, decide_true, decide_false, not_true_eq_false, not_false_eq_true, eq_self, Bool.true_eq_false, Bool.false_eq_true]
    have := N_lia1 (X := X) (d := d + 38) g hr (ctE s) 0 (by omega)
    simp +decide only [Option.bind_some, List.append_nil, List.nil_append, List.cons_append, cond_true, cond_false, if_true, if_false, ite_true, ite_false, reduceIte, IC, bI_0, bI_1, bF, Bool.not_eq_false, Bool.not_eq_true, Bool.and_true, Bool.true_and, Bool.and_false, Bool.false_and, Bool.true_or, Bool.or_true, Bool.or_false, Bool.false_or, Bool.not_true, Bool.not_false, decide_true, decide_false, not_true_eq_false, not_false_eq_true, eq_self, Bool.true_eq_false, Bool.false_eq_true]
    exact this
  · have h0 : 0 < (fitC s (-1)).1 := by omega
    simp only [hc, h0, Option.bind_some, List.append_nil, List.nil_append, List.cons_append, cond_true, cond_false, if_true, if_false, ite_true, ite_false, reduceIte, IC, bI_0, bI_1, bF, Bool.not_eq_false, Bool.not_eq_true, Bool.and_true, Bool.true_and, Bool.and_false, Bool.false_and, Bool.true_or, Bool.or_true, Bool.or_false, Bool.false_or, Bool.not_true, Bool.not_false, decide_true, decide_false, not_true_eq_false, not_false_eq_true, eq_self, Bool.true_eq_false, Bool.false_eq_true]
def spV (n v : Nat) : Int32 := if n = 0 then -3 else Int32.ofNat v
theorem N_spn1 (g : Gd s m) (hr : RideR s D I P N 1 ra) : ∀ k t (acc : Nat × Nat × Nat), t + k = 61 → acc.1 ≤ t → acc.2.1 < 61 → Rn X (d + 2) 135 23 [.ref 0, .int x, .int (Int32.ofNat acc.1), .int (spV acc.1 acc.2.1), .int (spV acc.1 acc.2.2), .int (Int32.ofNat t)] [] (Mh D I P N)
      = (let q := foldA (ftF s (-1)) t k acc; some ([.int (if x = 0 then Int32.ofNat q.1 else if x = 1 then spV q.1 q.2.1 else spV q.1 q.2.2)], Mh D I P N))
  | 0, t, acc, hk, _, _ => by
    rw [B135_23, if_pos (by rw [gt60 (by omega)]; omega)]
    show _ = some ([Value.int (if x = 0 then Int32.ofNat acc.1 else if x = 1 then spV acc.1 acc.2.1 else spV acc.1 acc.2.2)], _)
    by_cases h0 : x = 0
    · simp only [h0, Option.bind_some, List.append_nil, List.nil_append, List.cons_append, cond_true, cond_false, if_true, if_false, ite_true, ite_false, reduceIte, IC, bI_0, bI_1, bF, Bool.not_eq_false, Bool.not_eq_true, Bool.and_true, Bool.true_and, Bool.and_false, Bool.false_and, Bool.true_or, Bool.or_true, Bool.or_false, Bool.false_or, Bool.not_true, Bool.not_false, decide_true, decide_false, not_true_eq_false, not_false_eq_true, eq_self, Bool.true_eq_false, Bool.false_eq_true]
    · by_cases h1 : x = 1
      · simp +decide only [h0, h1, Option.bind_some, List.append_nil, List.nil_append, List.cons_append, cond_true, cond_false, if_true, if_false, ite_true, ite_false, reduceIte, IC, bI_0, bI_1, bF, Bool.not_eq_false, Bool.not_eq_true, Bool.and_true, Bool.true_and, Bool.and_false, Bool.false_and, Bool.true_or, Bool.or_true, Bool.or_false, Bool.false_or, Bool.not_true, Bool.not_false, decide_true, decide_false, not_true_eq_false, not_false_eq_true, eq_self, Bool.true_eq_false, Bool.false_eq_true, B135_87]
      · simp only [h0, h1, Option.bind_some, List.append_nil, List.nil_append, List.cons_append, cond_true, cond_false, if_true, if_false, ite_true, ite_false, reduceIte, IC, bI_0, bI_1, bF, Bool.not_eq_false, Bool.not_eq_true, Bool.and_true, Bool.true_and, Bool.and_false, Bool.false_and, Bool.true_or, Bool.or_true, Bool.or_false, Bool.false_or, Bool.not_true, Bool.not_false, decide_true, decide_false, not_true_eq_false, not_false_eq_true, eq_self, Bool.true_eq_false, Bool.false_eq_true, B135_87]
  | k + 1, t, acc, hk, ha, hb => by
    have hF : foldA (ftF s (-1)) t (k + 1) acc = foldA (ftF s (-1)) (t + 1) k (ftF s (-1) t acc) := rfl
    rw [B135_23, if_neg (by rw [gt60 (by omega)]; omega), hF]
    simp only [RDc, Option.bind_some, List.append_nil, List.nil_append, List.cons_append, cond_true, cond_false, if_true, if_false, ite_true, ite_false, reduceIte, IC, bI_0, bI_1, bF, Bool.not_eq_false, Bool.not_eq_true, Bool.and_true, Bool.true_and, Bool.and_false, Bool.false_and, Bool.true_or, Bool.or_true, Bool.or_false, Bool.false_or, Bool.not_true, Bool.not_false, decide_true, decide_false, not_true_eq_false, not_false_eq_true, eq_self, Bool.true_eq_false, Bool.false_eq_true, C_fits g hr, fit3 g, B135_41]
    unfold ftF
    cases hv : fitV s (-1) t with
    | false =>
      simp only [Option.bind_some, List.append_nil, List.nil_append, List.cons_append, cond_true, cond_false, if_true, if_false, ite_true, ite_false, reduceIte, IC, bI_0, bI_1, bF, Bool.not_eq_false, Bool.not_eq_true, Bool.and_true, Bool.true_and, Bool.and_false, Bool.false_and, Bool.true_or, Bool.or_true, Bool.or_false, Bool.false_or, Bool.not_true, Bool.not_false, decide_true, decide_false, not_true_eq_false, not_false_eq_true, eq_self, Bool.true_eq_false, Bool.false_eq_true, B135_64, IX]
      exact N_spn1 g hr k (t + 1) acc (by omega) (by omega) hb
    | true =>
      have h1s : spV (acc.1 + 1) t = Int32.ofNat t := by unfold spV; rw [if_neg (by omega)]
      by_cases h0 : acc.1 = 0
      · have hs : spV acc.1 acc.2.1 = -3 := by unfold spV; rw [if_pos h0]
        have h1s' : spV (0 + 1) t = Int32.ofNat t := by unfold spV; rw [if_neg (by omega)]
        simp only [Option.bind_some, List.append_nil, List.nil_append, List.cons_append, cond_true, cond_false, if_true, if_false, ite_true, ite_false, reduceIte, IC, bI_0, bI_1, bF, Bool.not_eq_false, Bool.not_eq_true, Bool.and_true, Bool.true_and, Bool.and_false, Bool.false_and, Bool.true_or, Bool.or_true, Bool.or_false, Bool.false_or, Bool.not_true, Bool.not_false, decide_true, decide_false, not_true_eq_false, not_false_eq_true, eq_self, Bool.true_eq_false, Bool.false_eq_true, hs, B135_59, B135_64, IX, h0]
        have := N_spn1 g hr k (t + 1) (0 + 1, t, t) (by omega) (by show 0 + 1 ≤ t + 1; omega) (by show t < 61; omega)
        simp only [h1s'] at this
        exact this
      · have hs : spV acc.1 acc.2.1 = Int32.ofNat acc.2.1 := by unfold spV; rw [if_neg h0]
        have hs2 : spV (acc.1 + 1) acc.2.1 = Int32.ofNat acc.2.1 := by unfold spV; rw [if_neg (by omega)]
        have hn : ¬ Int32.ofNat acc.2.1 = -3 := by
          rw [← Int32.toInt_inj, iN_ti (by omega)]; have : (-3 : Int32).toInt = -3 := rfl; omega
        simp only [Option.bind_some, List.append_nil, List.nil_append, List.cons_append, cond_true, cond_false, if_true, if_false, ite_true, ite_false, reduceIte, IC, bI_0, bI_1, bF, Bool.not_eq_false, Bool.not_eq_true, Bool.and_true, Bool.true_and, Bool.and_false, Bool.false_and, Bool.true_or, Bool.or_true, Bool.or_false, Bool.false_or, Bool.not_true, Bool.not_false, decide_true, decide_false, not_true_eq_false, not_false_eq_true, eq_self, Bool.true_eq_false, Bool.false_eq_true, hs, hn, B135_59, B135_64, IX, h0]
        have := N_spn1 g hr k (t + 1) (acc.1 + 1, acc.2.1, t) (by omega) (by show acc.1 + 1 ≤ t + 1; omega) hb
        simp only [h1s, hs2] at this
        exact this
theorem N_spn (g : Gd s m) : Cf X 135 [.ref 0, .int x, U_, U_, U_, U_] s (pSpn s x, s) := by
  intro d D I P N ra hr hl
  refine ⟨I, ?_, hr, hl, frc_rf⟩
  simp only [B135_0, C_btw, L32, Option.bind_some, List.append_nil, List.nil_append, List.cons_append, cond_true, cond_false, if_true, if_false, ite_true, ite_false, reduceIte, IC, bI_0, bI_1, bF, Bool.not_eq_false, Bool.not_eq_true, Bool.and_true, Bool.true_and, Bool.and_false, Bool.false_and, Bool.true_or, Bool.or_true, Bool.or_false, Bool.false_or, Bool.not_true, Bool.not_false, decide_true, decide_false, not_true_eq_false, not_false_eq_true, eq_self, Bool.true_eq_false, Bool.false_eq_true, B135_6]
  unfold pSpn
  cases hb : bt x 0 2 with
  | false => simp only [Option.bind_some, List.append_nil, List.nil_append, List.cons_append, cond_true, cond_false, if_true, if_false, ite_true, ite_false, reduceIte, IC, bI_0, bI_1, bF, Bool.not_eq_false, Bool.not_eq_true, Bool.and_true, Bool.true_and, Bool.and_false, Bool.false_and, Bool.true_or, Bool.or_true, Bool.or_false, Bool.false_or, Bool.not_true, Bool.not_false, decide_true, decide_false, not_true_eq_false, not_false_eq_true, eq_self, Bool.true_eq_false, Bool.false_eq_true]
  | true =>
    have e := N_spn1 (X := X) (d := d + 38) (x := x) g hr 60 1 (0, 0, 0) rfl (by decide) (by decide)
    rw [← fitC_e] at e
    simp only [Option.bind_some, List.append_nil, List.nil_append, List.cons_append, cond_true, cond_false, if_true, if_false, ite_true, ite_false, reduceIte, IC, bI_0, bI_1, bF, Bool.not_eq_false, Bool.not_eq_true, Bool.and_true, Bool.true_and, Bool.and_false, Bool.false_and, Bool.true_or, Bool.or_true, Bool.or_false, Bool.false_or, Bool.not_true, Bool.not_false, decide_true, decide_false, not_true_eq_false, not_false_eq_true, eq_self, Bool.true_eq_false, Bool.false_eq_true]
    have e' : Rn X (d + 39 + 1) 135 23 [.ref 0, .int x, .int 0, .int (-3), .int (-3), .int 1] [] (Mh D I P N) = _ := e
    rw [e']
    show some ([Value.int (if x = 0 then Int32.ofNat (fitC s (-1)).1 else if x = 1 then spV (fitC s (-1)).1 (fitC s (-1)).2.1 else spV (fitC s (-1)).1 (fitC s (-1)).2.2)], _) = _
    unfold spV
    by_cases h0 : x = 0
    · simp only [h0, Option.bind_some, List.append_nil, List.nil_append, List.cons_append, cond_true, cond_false, if_true, if_false, ite_true, ite_false, reduceIte, IC, bI_0, bI_1, bF, Bool.not_eq_false, Bool.not_eq_true, Bool.and_true, Bool.true_and, Bool.and_false, Bool.false_and, Bool.true_or, Bool.or_true, Bool.or_false, Bool.false_or, Bool.not_true, Bool.not_false, decide_true, decide_false, not_true_eq_false, not_false_eq_true, eq_self, Bool.true_eq_false, Bool.false_eq_true]
    · by_cases hc : (fitC s (-1)).1 = 0
      · simp only [h0, hc, Option.bind_some, List.append_nil, List.nil_append, List.cons_append, cond_true, cond_false, if_true, if_false, ite_true, ite_false, reduceIte, IC, bI_0, bI_1, bF, Bool.not_eq_false, Bool.not_eq_true, Bool.and_true, Bool.true_and, Bool.and_false, Bool.false_and, Bool.true_or, Bool.or_true, Bool.or_false, Bool.false_or, Bool.not_true, Bool.not_false, decide_true, decide_false, not_true_eq_false, not_false_eq_true, eq_self, Bool.true_eq_false, Bool.false_eq_true, ite_self]
      · by_cases h1 : x = 1
        · simp only [h0, h1, hc, Option.bind_some, List.append_nil, List.nil_append, List.cons_append, cond_true, cond_false, if_true, if_false, ite_true, ite_false, reduceIte, IC, bI_0, bI_1, bF, Bool.not_eq_false, Bool.not_eq_true, Bool.and_true, Bool.true_and, Bool.and_false, Bool.false_and, Bool.true_or, Bool.or_true, Bool.or_false, Bool.false_or, Bool.not_true, Bool.not_false, decide_true, decide_false, not_true_eq_false, not_false_eq_true, eq_self, Bool.true_eq_false, Bool.false_eq_true]
        · simp only [h0, h1, hc, Option.bind_some, List.append_nil, List.nil_append, List.cons_append, cond_true, cond_false, if_true, if_false, ite_true, ite_false, reduceIte, IC, bI_0, bI_1, bF, Bool.not_eq_false, Bool.not_eq_true, Bool.and_true, Bool.true_and, Bool.and_false, Bool.false_and, Bool.true_or, Bool.or_true, Bool.or_false, Bool.false_or, Bool.not_true, Bool.not_false, decide_true, decide_false, not_true_eq_false, not_false_eq_true, eq_self, Bool.true_eq_false, Bool.false_eq_true]
end ClsN
